set_option maxHeartbeats 4000000 in
set_option maxRecDepth 100000 in
theorem c_X1_sign (l : Launch) (G : Gw) (M : Mem) (T : Tx) (c : Nat) (hT : TxM M T) (hok : TxOk T) (hc : M 227 1 = nI c) (hcl : c ≤ T.1) : Cp l G yX1_sign wsX1_sign 0 0 [.ref (G.2.2.1 227)] M (chT T c) := by
  refine Ci.of (cc := cX1_sign) (maxL := 1) (ret := (some .char)) (by decide +kernel) rfl (Nat.le_of_ble_eq_true rfl) ?_
  intro x sz hl0 hr C
  subst hl0
  have C : CX x G (AA G sz) RX1 cX1_sign 1 wsX1_sign 0 0 0 0 := C
  have hret : ∀ (M0 : Mem) (pc0 : Nat) (L0 : List (Nat × Value)) (rv0 : Int32), narrow .char (.int rv0) = .int rv0 → decode cX1_sign pc0 = .ok (.ireturn, 1) → (fun (r : Int32) (M' : Mem) => r = chT T c ∧ M' = M) rv0 M0 → WL x G (AA G sz) 1 0 0 (xQ x (va_Qi (fun (r : Int32) (M' : Mem) => r = chT T c ∧ M' = M) (WE G) (AA G sz)) (AA G sz)) M0 pc0 L0 [.int rv0] := fun M0 pc0 L0 rv0 hn hd hp => wl_zret (post := (fun (r : Int32) (M' : Mem) => r = chT T c ∧ M' = M)) C hr hn hd hp
  show WL x G (AA G sz) 1 0 0 (xQ x (va_Qi (fun (r : Int32) (M' : Mem) => r = chT T c ∧ M' = M) (WE G) (AA G sz)) (AA G sz)) M 0 [(0, .ref (G.2.2.1 227))] []
  generalize (xQ x (va_Qi (fun (r : Int32) (M' : Mem) => r = chT T c ∧ M' = M) (WE G) (AA G sz)) (AA G sz)) = QQ at hret ⊢
  have in1 : ∀ w ∈ wsX10, w ∈ wsX1_sign := by decide +kernel
  have fl22 : Jvm.Cond.fieldLink RX1 22 "JammedBodies$BodyText" "cursor" "I" ∈ wsX1_sign := by decide +kernel
  have fl26 : Jvm.Cond.fieldLink RX1 26 "JammedBodies$BodyText" "length" "I" ∈ wsX1_sign := by decide +kernel
  have fl9 : Jvm.Cond.fieldLink RX1 9 "JammedBodies$BodyText" "signs" "[C" ∈ wsX1_sign := by decide +kernel
  have h60 := hok.1
  refine wl_aload_n C 0 dX1_sign_0 rfl rfl ?_
  refine wl_get_BodyText_cursor (i := 227) (v := nI c) C (by decide) in1 fl22 hc dX1_sign_1 ?_
  refine wl_if_lt C 42 dX1_sign_4 (by decide) (fun c_4 => absurd c_4 (nI_pos (by omega))) (fun c_4 => ?_)
  refine wl_aload_n C 0 dX1_sign_7 rfl rfl ?_
  refine wl_get_BodyText_cursor (i := 227) (v := nI c) C (by decide) in1 fl22 hc dX1_sign_8 ?_
  refine wl_aload_n C 0 dX1_sign_11 rfl rfl ?_
  refine wl_get_BodyText_length (i := 227) (v := nI T.1) C (by decide) in1 fl26 hT.1 dX1_sign_12 ?_
  refine wl_icmp_geN C (a := c) (b := T.1) (by omega) (by omega) 42 dX1_sign_15 (by decide) (fun c_15 => ?_) (fun c_15 => ?_)
  · refine wl_iconst (v := 0) C dX1_sign_42 (by decide) ?_
    exact hret _ 43 _ 0 (rfl) dX1_sign_43 (⟨by unfold chT; rw [if_neg (by omega)], rfl⟩)
  · refine wl_aload_n C 0 dX1_sign_18 rfl rfl ?_
    refine wl_get_BodyText_cursor (i := 227) (v := nI c) C (by decide) in1 fl22 hc dX1_sign_19 ?_
    refine wl_aload_n C 0 dX1_sign_22 rfl rfl ?_
    refine wl_get_BodyText_signs (i := 227) C (by decide) in1 fl9 dX1_sign_23 ?_
    refine wl_alenC (i := 228) C ((by decide)) dX1_sign_26 ?_
    refine wl_eqi (b := nI 60) (rfl) ?_
    refine wl_icmp_geN C (a := c) (b := 60) (by omega) (by omega) 42 dX1_sign_27 (by decide) (fun c_27 => absurd c_27 (by omega)) (fun c_27 => ?_)
    refine wl_aload_n C 0 dX1_sign_30 rfl rfl ?_
    refine wl_get_BodyText_signs (i := 227) C (by decide) in1 fl9 dX1_sign_31 ?_
    refine wl_aload_n C 0 dX1_sign_34 rfl rfl ?_
    refine wl_get_BodyText_cursor (i := 227) (v := nI c) C (by decide) in1 fl22 hc dX1_sign_35 ?_
    refine wl_cald (j := c) (v := T.2 c) C (rfl) (by omega) (hT.2 c (by omega)) dX1_sign_38 ?_
    refine wl_goto C 43 dX1_sign_39 (by decide) ?_
    exact hret _ 43 _ (T.2 c) (by have h := chT_nar hok c; unfold chT at h; rw [if_pos (by omega)] at h; exact h) dX1_sign_43 (⟨by unfold chT; rw [if_pos (by omega)], rfl⟩)
set_option maxHeartbeats 4000000 in
set_option maxRecDepth 100000 in
theorem c_X1_takes (l : Launch) (G : Gw) (M : Mem) (T : Tx) (c : Nat) (hT : TxM M T) (hok : TxOk T) (hc : M 227 1 = nI c) (hcl : c ≤ T.1) (w : Int32) : Ci l G yX1_takes wsX1_takes 1 20 [.ref (G.2.2.1 227), .int w] M (fun r M' => r = bi (decide (chT T c = w)) ∧ M' = mset M 227 1 (nI (if chT T c = w then c + 1 else c))) := by
  refine Ci.of (cc := cX1_takes) (maxL := 3) (ret := (some .boolean)) (by decide +kernel) rfl (Nat.le_of_ble_eq_true rfl) ?_
  intro x sz hl0 hr C
  subst hl0
  have C : CX x G (AA G sz) RX1 cX1_takes 3 wsX1_takes 1 20 0 0 := C
  have hret : ∀ (M0 : Mem) (pc0 : Nat) (L0 : List (Nat × Value)) (rv0 : Int32), narrow .boolean (.int rv0) = .int rv0 → decode cX1_takes pc0 = .ok (.ireturn, 1) → (fun r M' => r = bi (decide (chT T c = w)) ∧ M' = mset M 227 1 (nI (if chT T c = w then c + 1 else c))) rv0 M0 → WL x G (AA G sz) 3 0 0 (xQ x (va_Qi (fun r M' => r = bi (decide (chT T c = w)) ∧ M' = mset M 227 1 (nI (if chT T c = w then c + 1 else c))) (WE G) (AA G sz)) (AA G sz)) M0 pc0 L0 [.int rv0] := fun M0 pc0 L0 rv0 hn hd hp => wl_zret (post := (fun r M' => r = bi (decide (chT T c = w)) ∧ M' = mset M 227 1 (nI (if chT T c = w then c + 1 else c)))) C hr hn hd hp
  show WL x G (AA G sz) 3 0 0 (xQ x (va_Qi (fun r M' => r = bi (decide (chT T c = w)) ∧ M' = mset M 227 1 (nI (if chT T c = w then c + 1 else c))) (WE G) (AA G sz)) (AA G sz)) M 0 [(0, .ref (G.2.2.1 227)), (1, .int w)] []
  generalize (xQ x (va_Qi (fun r M' => r = bi (decide (chT T c = w)) ∧ M' = mset M 227 1 (nI (if chT T c = w then c + 1 else c))) (WE G) (AA G sz)) (AA G sz)) = QQ at hret ⊢
  have in1 : ∀ w ∈ wsX10, w ∈ wsX1_takes := by decide +kernel
  have fl22 : Jvm.Cond.fieldLink RX1 22 "JammedBodies$BodyText" "cursor" "I" ∈ wsX1_takes := by decide +kernel
  have h60 := hok.1
  refine wl_aload_n C 0 dX1_takes_0 rfl rfl ?_
  refine wl_callVp (i := 227) (n := 0) C [] [] (c_X1_sign _ G M T c hT hok hc hcl) gX1_takes_X1_sign rfl (by decide +kernel) (by decide) (by decide) (kd_lt (k := 1) (by decide) (by decide)) (cell_k (k := 1) (by decide)) rfl rfl rfl (Nat.le_of_ble_eq_true rfl) dX1_takes_1 ?_
  refine wl_iload_n C 1 dX1_takes_4 rfl rfl ?_
  suffices hJ5 : WL x G (AA G sz) 3 0 0 QQ M 13 [(0, .ref (G.2.2.1 227)), (1, .int w)] [.int (if (chT T c) = w then 1 else 0)] by
    refine wl_icmp_ne C 12 dX1_takes_5 (by decide) (fun c_5 => ?_) (fun c_5 => ?_)
    · rw [if_neg c_5] at hJ5
      refine wl_iconst (v := 0) C dX1_takes_12 (by decide) ?_
      exact hJ5
    · rw [if_pos c_5] at hJ5
      refine wl_iconst (v := 1) C dX1_takes_8 (by decide) ?_
      refine wl_goto C 13 dX1_takes_9 (by decide) ?_
      exact hJ5
  refine wl_eqi (b := bi (decide (chT T c = w))) (by simp [bi]) ?_
  refine wl_istore_n (L' := [(2, .int (bi (decide (chT T c = w)))), (0, .ref (G.2.2.1 227)), (1, .int w)]) C dX1_takes_13 rfl (by decide) rfl ?_
  refine wl_iload_n C 0 dX1_takes_14 rfl rfl ?_
  refine wl_if_eqB C 28 dX1_takes_15 (by decide) (fun c_15 => ?_) (fun c_15 => ?_)
  · refine wl_iload_n C 0 dX1_takes_28 rfl rfl ?_
    exact hret _ 29 _ (bi (decide (chT T c = w))) (narrow_bi _) dX1_takes_29 (⟨rfl, by rw [if_neg (of_decide_eq_false c_15)]; exact (mset_same hc).symm⟩)
  · refine wl_aload_n C 1 dX1_takes_18 rfl rfl ?_
    refine wl_dup C dX1_takes_19 rfl ?_
    refine wl_get_BodyText_cursor (i := 227) (v := nI c) C (by decide) in1 fl22 hc dX1_takes_20 ?_
    refine wl_iconst (v := 1) C dX1_takes_23 (by decide) ?_
    refine wl_iadd C dX1_takes_24 ?_
    refine wl_eqi (b := nI (c + 1)) (nI_1 c) ?_
    refine wl_put_BodyText_cursor (i := 227) C (by decide) in1 fl22 dX1_takes_25 ?_
    refine wl_iload_n C 0 dX1_takes_28 rfl rfl ?_
    exact hret _ 29 _ (bi (decide (chT T c = w))) (narrow_bi _) dX1_takes_29 (⟨rfl, by rw [if_pos (of_decide_eq_true c_15)]⟩)
set_option maxHeartbeats 4000000 in
set_option maxRecDepth 100000 in
theorem c_X1_takeDigit (l : Launch) (G : Gw) (M : Mem) (T : Tx) (c : Nat) (hT : TxM M T) (hok : TxOk T) (hc : M 227 1 = nI c) (hcl : c ≤ T.1) : Ci l G yX1_takeDigit wsX1_takeDigit 1 20 [.ref (G.2.2.1 227)] M (fun r M' => r = (dgT T c).1 ∧ M' = mset M 227 1 (nI (dgT T c).2)) := by
  refine Ci.of (cc := cX1_takeDigit) (maxL := 2) (ret := (some .int)) (by decide +kernel) rfl (Nat.le_of_ble_eq_true rfl) ?_
  intro x sz hl0 hr C
  subst hl0
  have C : CX x G (AA G sz) RX1 cX1_takeDigit 2 wsX1_takeDigit 1 20 0 0 := C
  have hret : ∀ (M0 : Mem) (pc0 : Nat) (L0 : List (Nat × Value)) (rv0 : Int32), decode cX1_takeDigit pc0 = .ok (.ireturn, 1) → (fun r M' => r = (dgT T c).1 ∧ M' = mset M 227 1 (nI (dgT T c).2)) rv0 M0 → WL x G (AA G sz) 2 0 0 (xQ x (va_Qi (fun r M' => r = (dgT T c).1 ∧ M' = mset M 227 1 (nI (dgT T c).2)) (WE G) (AA G sz)) (AA G sz)) M0 pc0 L0 [.int rv0] := fun M0 pc0 L0 rv0 hd hp => wl_iret (post := (fun r M' => r = (dgT T c).1 ∧ M' = mset M 227 1 (nI (dgT T c).2))) C hr hd hp
  show WL x G (AA G sz) 2 0 0 (xQ x (va_Qi (fun r M' => r = (dgT T c).1 ∧ M' = mset M 227 1 (nI (dgT T c).2)) (WE G) (AA G sz)) (AA G sz)) M 0 [(0, .ref (G.2.2.1 227))] []
  generalize (xQ x (va_Qi (fun r M' => r = (dgT T c).1 ∧ M' = mset M 227 1 (nI (dgT T c).2)) (WE G) (AA G sz)) (AA G sz)) = QQ at hret ⊢
  have in1 : ∀ w ∈ wsX10, w ∈ wsX1_takeDigit := by decide +kernel
  have fl22 : Jvm.Cond.fieldLink RX1 22 "JammedBodies$BodyText" "cursor" "I" ∈ wsX1_takeDigit := by decide +kernel
  have h60 := hok.1
  refine wl_aload_n C 0 dX1_takeDigit_0 rfl rfl ?_
  refine wl_callVp (i := 227) (n := 0) C [] [] (c_X1_sign _ G M T c hT hok hc hcl) gX1_takeDigit_X1_sign rfl (by decide +kernel) (by decide) (by decide) (kd_lt (k := 1) (by decide) (by decide)) (cell_k (k := 1) (by decide)) rfl rfl rfl (Nat.le_of_ble_eq_true rfl) dX1_takeDigit_1 ?_
  refine wl_istore_n (L' := [(1, .int (chT T c)), (0, .ref (G.2.2.1 227))]) C dX1_takeDigit_4 rfl (by decide) rfl ?_
  refine wl_iload_n C 0 dX1_takeDigit_5 rfl rfl ?_
  refine wl_bipush (v := 48) C dX1_takeDigit_6 (by decide) ?_
  refine wl_icmp_lt C 17 dX1_takeDigit_8 (by decide) (fun c_8 => ?_) (fun c_8 => ?_)
  · refine wl_iconst (v := (-1)) C dX1_takeDigit_17 (by decide) ?_
    exact hret _ 18 _ (-1) dX1_takeDigit_18 (by (have e : dgT T c = (-1, c) := (by unfold dgT; rw [if_pos (by simp [noDg, *])])); rw [e]; exact ⟨rfl, (mset_same hc).symm⟩)
  · refine wl_iload_n C 0 dX1_takeDigit_11 rfl rfl ?_
    refine wl_bipush (v := 57) C dX1_takeDigit_12 (by decide) ?_
    refine wl_icmp_le C 19 dX1_takeDigit_14 (by decide) (fun c_14 => ?_) (fun c_14 => ?_)
    · refine wl_aload_n C 1 dX1_takeDigit_19 rfl rfl ?_
      refine wl_dup C dX1_takeDigit_20 rfl ?_
      refine wl_get_BodyText_cursor (i := 227) (v := nI c) C (by decide) in1 fl22 hc dX1_takeDigit_21 ?_
      refine wl_iconst (v := 1) C dX1_takeDigit_24 (by decide) ?_
      refine wl_iadd C dX1_takeDigit_25 ?_
      refine wl_eqi (b := nI (c + 1)) (nI_1 c) ?_
      refine wl_put_BodyText_cursor (i := 227) C (by decide) in1 fl22 dX1_takeDigit_26 ?_
      refine wl_iload_n C 0 dX1_takeDigit_29 rfl rfl ?_
      refine wl_bipush (v := 48) C dX1_takeDigit_30 (by decide) ?_
      refine wl_isub C dX1_takeDigit_32 ?_
      exact hret _ 33 _ ((chT T c) - 48) dX1_takeDigit_33 (by (have e : dgT T c = (chT T c - 48, c + 1) := (by unfold dgT; rw [if_neg (by simp [noDg, c_8, c_14])])); rw [e]; exact ⟨rfl, rfl⟩)
    · refine wl_iconst (v := (-1)) C dX1_takeDigit_17 (by decide) ?_
      exact hret _ 18 _ (-1) dX1_takeDigit_18 (by (have e : dgT T c = (-1, c) := (by unfold dgT; rw [if_pos (by simp [noDg, *])])); rw [e]; exact ⟨rfl, (mset_same hc).symm⟩)
set_option maxHeartbeats 4000000 in
set_option maxRecDepth 100000 in
theorem c_X1_takeNumber (l : Launch) (G : Gw) (M : Mem) (T : Tx) (c : Nat) (hT : TxM M T) (hok : TxOk T) (hc : M 227 1 = nI c) (hcl : c ≤ T.1) : Ci l G yX1_takeNumber wsX1_takeNumber 2 41 [.ref (G.2.2.1 227)] M (fun r M' => r = (nuT T c).1 ∧ M' = mset M 227 1 (nI (nuT T c).2)) := by
  refine Ci.of (cc := cX1_takeNumber) (maxL := 3) (ret := (some .int)) (by decide +kernel) rfl (Nat.le_of_ble_eq_true rfl) ?_
  intro x sz hl0 hr C
  subst hl0
  have C : CX x G (AA G sz) RX1 cX1_takeNumber 3 wsX1_takeNumber 2 41 0 0 := C
  have hret : ∀ (M0 : Mem) (pc0 : Nat) (L0 : List (Nat × Value)) (rv0 : Int32), decode cX1_takeNumber pc0 = .ok (.ireturn, 1) → (fun r M' => r = (nuT T c).1 ∧ M' = mset M 227 1 (nI (nuT T c).2)) rv0 M0 → WL x G (AA G sz) 3 0 0 (xQ x (va_Qi (fun r M' => r = (nuT T c).1 ∧ M' = mset M 227 1 (nI (nuT T c).2)) (WE G) (AA G sz)) (AA G sz)) M0 pc0 L0 [.int rv0] := fun M0 pc0 L0 rv0 hd hp => wl_iret (post := (fun r M' => r = (nuT T c).1 ∧ M' = mset M 227 1 (nI (nuT T c).2))) C hr hd hp
  show WL x G (AA G sz) 3 0 0 (xQ x (va_Qi (fun r M' => r = (nuT T c).1 ∧ M' = mset M 227 1 (nI (nuT T c).2)) (WE G) (AA G sz)) (AA G sz)) M 0 [(0, .ref (G.2.2.1 227))] []
  generalize (xQ x (va_Qi (fun r M' => r = (nuT T c).1 ∧ M' = mset M 227 1 (nI (nuT T c).2)) (WE G) (AA G sz)) (AA G sz)) = QQ at hret ⊢
  have h60 := hok.1
  have hle := dgT_le hcl
  refine wl_aload_n C 0 dX1_takeNumber_0 rfl rfl ?_
  refine wl_callVi (i := 227) (n := 0) C [] [] (c_X1_takeDigit _ G M T c hT hok hc hcl) gX1_takeNumber_X1_takeDigit rfl (by decide +kernel) (by decide) (by decide) (kd_lt (k := 1) (by decide) (by decide)) (cell_k (k := 1) (by decide)) rfl rfl rfl (Nat.le_of_ble_eq_true rfl) dX1_takeNumber_1 (fun r1 M1 e1 => ?_)
  obtain ⟨q1, q2⟩ := e1
  subst q1
  have t1 : TxM M1 T := by rw [q2]; exact hT.cur
  have d1 : M1 227 1 = nI (dgT T c).2 := by rw [q2]; exact mset_self _ _ _ _
  refine wl_istore_n (L' := [(1, .int ((dgT T c).1)), (0, .ref (G.2.2.1 227))]) C dX1_takeNumber_4 rfl (by decide) rfl ?_
  refine wl_iload_n C 0 dX1_takeNumber_5 rfl rfl ?_
  refine wl_if_ge C 11 dX1_takeNumber_6 (by decide) (fun c_6 => ?_) (fun c_6 => ?_)
  · refine wl_aload_n C 1 dX1_takeNumber_11 rfl rfl ?_
    refine wl_callVi (i := 227) (n := 0) C [] [] (c_X1_takeDigit _ G M1 T (dgT T c).2 t1 hok d1 hle.2) gX1_takeNumber_X1_takeDigit rfl (by decide +kernel) (by decide) (by decide) (kd_lt (k := 1) (by decide) (by decide)) (cell_k (k := 1) (by decide)) rfl rfl rfl (Nat.le_of_ble_eq_true rfl) dX1_takeNumber_12 (fun r2 M2 e2 => ?_)
    obtain ⟨q3, q4⟩ := e2
    subst q3
    rw [q2, mset_mset] at q4
    refine wl_istore_n (L' := [(2, .int ((dgT T (dgT T c).2).1)), (1, .int ((dgT T c).1)), (0, .ref (G.2.2.1 227))]) C dX1_takeNumber_15 rfl (by decide) rfl ?_
    refine wl_iload_n C 0 dX1_takeNumber_16 rfl rfl ?_
    refine wl_if_ge C 24 dX1_takeNumber_17 (by decide) (fun c_17 => ?_) (fun c_17 => ?_)
    · refine wl_bipush (v := 10) C dX1_takeNumber_24 (by decide) ?_
      refine wl_iload_n C 1 dX1_takeNumber_26 rfl rfl ?_
      refine wl_imul C dX1_takeNumber_27 ?_
      refine wl_iload_n C 0 dX1_takeNumber_28 rfl rfl ?_
      refine wl_iadd C dX1_takeNumber_29 ?_
      exact hret _ 30 _ ((10 * ((dgT T c).1)) + ((dgT T (dgT T c).2).1)) dX1_takeNumber_30 (by (have e : nuT T c = (10 * (dgT T c).1 + (dgT T (dgT T c).2).1, (dgT T (dgT T c).2).2) := (by unfold nuT; rw [if_neg (Int32.not_lt.mpr c_6), if_neg (Int32.not_lt.mpr c_17)])); rw [e]; exact ⟨rfl, q4⟩)
    · refine wl_iload_n C 1 dX1_takeNumber_20 rfl rfl ?_
      refine wl_goto C 30 dX1_takeNumber_21 (by decide) ?_
      exact hret _ 30 _ ((dgT T c).1) dX1_takeNumber_30 (by (have e : nuT T c = ((dgT T c).1, (dgT T (dgT T c).2).2) := (by unfold nuT; rw [if_neg (Int32.not_lt.mpr c_6), if_pos (Int32.not_le.mp c_17)])); rw [e]; exact ⟨rfl, q4⟩)
  · refine wl_iconst (v := (-1)) C dX1_takeNumber_9 (by decide) ?_
    exact hret _ 10 _ (-1) dX1_takeNumber_10 (by (have e : nuT T c = (-1, (dgT T c).2) := (by unfold nuT; rw [if_pos (Int32.not_le.mp c_6)])); rw [e]; exact ⟨rfl, q2⟩)
set_option maxHeartbeats 4000000 in
set_option maxRecDepth 100000 in
theorem c_X1_find (l : Launch) (G : Gw) (M : Mem) (a1 a2 a3 : Int32) : Cv l G yX1_find wsX1_find 0 0 [.ref (G.2.2.1 227), .int a1, .int a2, .int a3] M (fun M' => M' = mset (mset (mset M 227 4 a1) 227 5 a2) 227 6 a3) := by
  refine Cv.of (cc := cX1_find) (maxL := 4) (ret := none) (by decide +kernel) rfl (Nat.le_of_ble_eq_true rfl) ?_
  intro x sz hl0 hr C
  subst hl0
  have C : CX x G (AA G sz) RX1 cX1_find 4 wsX1_find 0 0 0 0 := C
  have hret : ∀ (M0 : Mem) (pc0 : Nat) (L0 : List (Nat × Value)), decode cX1_find pc0 = .ok (.return_, 1) → (fun M' => M' = mset (mset (mset M 227 4 a1) 227 5 a2) 227 6 a3) M0 → WL x G (AA G sz) 4 0 0 (xQ x (va_Qv (fun M' => M' = mset (mset (mset M 227 4 a1) 227 5 a2) 227 6 a3) (WE G) (AA G sz)) (AA G sz)) M0 pc0 L0 [] := fun M0 pc0 L0 hd hp => wl_vret (post := (fun M' => M' = mset (mset (mset M 227 4 a1) 227 5 a2) 227 6 a3)) C hr hd hp
  show WL x G (AA G sz) 4 0 0 (xQ x (va_Qv (fun M' => M' = mset (mset (mset M 227 4 a1) 227 5 a2) 227 6 a3) (WE G) (AA G sz)) (AA G sz)) M 0 [(0, .ref (G.2.2.1 227)), (1, .int a1), (2, .int a2), (3, .int a3)] []
  generalize (xQ x (va_Qv (fun M' => M' = mset (mset (mset M 227 4 a1) 227 5 a2) 227 6 a3) (WE G) (AA G sz)) (AA G sz)) = QQ at hret ⊢
  have in1 : ∀ w ∈ wsX10, w ∈ wsX1_find := by decide +kernel
  have fl29 : Jvm.Cond.fieldLink RX1 29 "JammedBodies$BodyText" "place" "I" ∈ wsX1_find := by decide +kernel
  have fl32 : Jvm.Cond.fieldLink RX1 32 "JammedBodies$BodyText" "reason" "I" ∈ wsX1_find := by decide +kernel
  have fl35 : Jvm.Cond.fieldLink RX1 35 "JammedBodies$BodyText" "cause" "I" ∈ wsX1_find := by decide +kernel
  refine wl_aload_n C 0 dX1_find_0 rfl rfl ?_
  refine wl_iload_n C 1 dX1_find_1 rfl rfl ?_
  refine wl_put_BodyText_place (i := 227) C (by decide) in1 fl29 dX1_find_2 ?_
  refine wl_aload_n C 0 dX1_find_5 rfl rfl ?_
  refine wl_iload_n C 2 dX1_find_6 rfl rfl ?_
  refine wl_put_BodyText_reason (i := 227) C (by decide) in1 fl32 dX1_find_7 ?_
  refine wl_aload_n C 0 dX1_find_10 rfl rfl ?_
  refine wl_iload_n C 3 dX1_find_11 rfl rfl ?_
  refine wl_put_BodyText_cause (i := 227) C (by decide) in1 fl35 dX1_find_12 ?_
  exact hret _ 15 _ dX1_find_15 (rfl)
set_option maxHeartbeats 4000000 in
set_option maxRecDepth 100000 in
theorem c_X1_append (l : Launch) (G : Gw) (M : Mem) (T : Tx) (q : Nat) (hT : TxM M T) (h60 : T.1 < 60) (hq : q ≤ 126) : Cv l G yX1_append wsX1_append 0 0 [.ref (G.2.2.1 227), .int (nI q)] M (fun M' => M' = mset (mset M 228 T.1 (nI q)) 227 3 (nI (T.1 + 1))) := by
  refine Cv.of (cc := cX1_append) (maxL := 2) (ret := none) (by decide +kernel) rfl (Nat.le_of_ble_eq_true rfl) ?_
  intro x sz hl0 hr C
  subst hl0
  have C : CX x G (AA G sz) RX1 cX1_append 2 wsX1_append 0 0 0 0 := C
  have hret : ∀ (M0 : Mem) (pc0 : Nat) (L0 : List (Nat × Value)), decode cX1_append pc0 = .ok (.return_, 1) → (fun M' => M' = mset (mset M 228 T.1 (nI q)) 227 3 (nI (T.1 + 1))) M0 → WL x G (AA G sz) 2 0 0 (xQ x (va_Qv (fun M' => M' = mset (mset M 228 T.1 (nI q)) 227 3 (nI (T.1 + 1))) (WE G) (AA G sz)) (AA G sz)) M0 pc0 L0 [] := fun M0 pc0 L0 hd hp => wl_vret (post := (fun M' => M' = mset (mset M 228 T.1 (nI q)) 227 3 (nI (T.1 + 1)))) C hr hd hp
  show WL x G (AA G sz) 2 0 0 (xQ x (va_Qv (fun M' => M' = mset (mset M 228 T.1 (nI q)) 227 3 (nI (T.1 + 1))) (WE G) (AA G sz)) (AA G sz)) M 0 [(0, .ref (G.2.2.1 227)), (1, .int (nI q))] []
  generalize (xQ x (va_Qv (fun M' => M' = mset (mset M 228 T.1 (nI q)) 227 3 (nI (T.1 + 1))) (WE G) (AA G sz)) (AA G sz)) = QQ at hret ⊢
  have in1 : ∀ w ∈ wsX10, w ∈ wsX1_append := by decide +kernel
  have fl26 : Jvm.Cond.fieldLink RX1 26 "JammedBodies$BodyText" "length" "I" ∈ wsX1_append := by decide +kernel
  have fl9 : Jvm.Cond.fieldLink RX1 9 "JammedBodies$BodyText" "signs" "[C" ∈ wsX1_append := by decide +kernel
  refine wl_aload_n C 0 dX1_append_0 rfl rfl ?_
  refine wl_get_BodyText_length (i := 227) (v := nI T.1) C (by decide) in1 fl26 hT.1 dX1_append_1 ?_
  refine wl_if_lt C 39 dX1_append_4 (by decide) (fun c_4 => absurd c_4 (nI_pos (by omega))) (fun c_4 => ?_)
  refine wl_aload_n C 0 dX1_append_7 rfl rfl ?_
  refine wl_get_BodyText_length (i := 227) (v := nI T.1) C (by decide) in1 fl26 hT.1 dX1_append_8 ?_
  refine wl_aload_n C 0 dX1_append_11 rfl rfl ?_
  refine wl_get_BodyText_signs (i := 227) C (by decide) in1 fl9 dX1_append_12 ?_
  refine wl_alenC (i := 228) C ((by decide)) dX1_append_15 ?_
  refine wl_eqi (b := nI 60) (rfl) ?_
  refine wl_icmp_geN C (a := T.1) (b := 60) (by omega) (by omega) 39 dX1_append_16 (by decide) (fun c_16 => absurd c_16 (by omega)) (fun c_16 => ?_)
  refine wl_aload_n C 0 dX1_append_19 rfl rfl ?_
  refine wl_get_BodyText_signs (i := 227) C (by decide) in1 fl9 dX1_append_20 ?_
  refine wl_aload_n C 0 dX1_append_23 rfl rfl ?_
  refine wl_get_BodyText_length (i := 227) (v := nI T.1) C (by decide) in1 fl26 hT.1 dX1_append_24 ?_
  refine wl_iload_n C 1 dX1_append_27 rfl rfl ?_
  refine wl_cast (j := T.1) C (rfl) (h60) (nar_q hq) dX1_append_28 ?_
  refine wl_aload_n C 0 dX1_append_29 rfl rfl ?_
  refine wl_dup C dX1_append_30 rfl ?_
  refine wl_get_BodyText_length (i := 227) (v := nI T.1) C (by decide) in1 fl26 (by rw [mset_ne (by omega)]; exact hT.1) dX1_append_31 ?_
  refine wl_iconst (v := 1) C dX1_append_34 (by decide) ?_
  refine wl_iadd C dX1_append_35 ?_
  refine wl_eqi (b := nI (T.1 + 1)) (nI_1 _) ?_
  refine wl_put_BodyText_length (i := 227) C (by decide) in1 fl26 dX1_append_36 ?_
  exact hret _ 39 _ dX1_append_39 (rfl)
set_option maxHeartbeats 4000000 in
set_option maxRecDepth 100000 in
theorem c_X1_readForm (l : Launch) (G : Gw) (M : Mem) (T : Tx) (hT : TxM M T) (hok : TxOk T) : Ci l G yX1_readForm wsX1_readForm 3 63 [.ref (G.2.2.1 227)] M (fun r M' => r = bi (formT T).1 ∧ M' 227 1 = nI (formT T).2.1 ∧ (∀ j, j ≠ 1 → M' 227 j = M 227 j) ∧ FrT M M' ∧ ((formT T).1 = true → Bd M' 229 (polyT T))) := by
  refine Ci.of (cc := cX1_readForm) (maxL := 4) (ret := (some .boolean)) (by decide +kernel) rfl (Nat.le_of_ble_eq_true rfl) ?_
  intro x sz hl0 hr C
  subst hl0
  have C : CX x G (AA G sz) RX1 cX1_readForm 4 wsX1_readForm 3 63 0 0 := C
  have hret : ∀ (M0 : Mem) (pc0 : Nat) (L0 : List (Nat × Value)) (rv0 : Int32), narrow .boolean (.int rv0) = .int rv0 → decode cX1_readForm pc0 = .ok (.ireturn, 1) → (fun r M' => r = bi (formT T).1 ∧ M' 227 1 = nI (formT T).2.1 ∧ (∀ j, j ≠ 1 → M' 227 j = M 227 j) ∧ FrT M M' ∧ ((formT T).1 = true → Bd M' 229 (polyT T))) rv0 M0 → WL x G (AA G sz) 4 0 0 (xQ x (va_Qi (fun r M' => r = bi (formT T).1 ∧ M' 227 1 = nI (formT T).2.1 ∧ (∀ j, j ≠ 1 → M' 227 j = M 227 j) ∧ FrT M M' ∧ ((formT T).1 = true → Bd M' 229 (polyT T))) (WE G) (AA G sz)) (AA G sz)) M0 pc0 L0 [.int rv0] := fun M0 pc0 L0 rv0 hn hd hp => wl_zret (post := (fun r M' => r = bi (formT T).1 ∧ M' 227 1 = nI (formT T).2.1 ∧ (∀ j, j ≠ 1 → M' 227 j = M 227 j) ∧ FrT M M' ∧ ((formT T).1 = true → Bd M' 229 (polyT T)))) C hr hn hd hp
  show WL x G (AA G sz) 4 0 0 (xQ x (va_Qi (fun r M' => r = bi (formT T).1 ∧ M' 227 1 = nI (formT T).2.1 ∧ (∀ j, j ≠ 1 → M' 227 j = M 227 j) ∧ FrT M M' ∧ ((formT T).1 = true → Bd M' 229 (polyT T))) (WE G) (AA G sz)) (AA G sz)) M 0 [(0, .ref (G.2.2.1 227))] []
  generalize (xQ x (va_Qi (fun r M' => r = bi (formT T).1 ∧ M' 227 1 = nI (formT T).2.1 ∧ (∀ j, j ≠ 1 → M' 227 j = M 227 j) ∧ FrT M M' ∧ ((formT T).1 = true → Bd M' 229 (polyT T))) (WE G) (AA G sz)) (AA G sz)) = QQ at hret ⊢
  have in1 : ∀ w ∈ wsX10, w ∈ wsX1_readForm := by decide +kernel
  have fl18 : Jvm.Cond.fieldLink RX1 18 "JammedBodies$BodyText" "told" "LJammedBodies$Body;" ∈ wsX1_readForm := by decide +kernel
  have in0 : ∀ w ∈ wsX00, w ∈ wsX1_readForm := by decide +kernel
  have fl70 : Jvm.Cond.fieldLink RX1 70 "JammedBodies$Body" "corners" "I" ∈ wsX1_readForm := by decide +kernel
  have fl22 : Jvm.Cond.fieldLink RX1 22 "JammedBodies$BodyText" "cursor" "I" ∈ wsX1_readForm := by decide +kernel
  have fl26 : Jvm.Cond.fieldLink RX1 26 "JammedBodies$BodyText" "length" "I" ∈ wsX1_readForm := by decide +kernel
  have h60 := hok.1
  refine wl_aload_n C 0 dX1_readForm_0 rfl rfl ?_
  refine wl_get_BodyText_told (i := 227) C (by decide) in1 fl18 dX1_readForm_1 ?_
  refine wl_iconst (v := 0) C dX1_readForm_4 (by decide) ?_
  refine wl_put_Body_corners (i := 229) C (by decide) in0 fl70 dX1_readForm_5 ?_
  obtain ⟨M1, eM1⟩ : ∃ z : Mem, z = (mset M 229 2 0) := ⟨_, rfl⟩
  rw [← eM1]
  refine wl_aload_n C 0 dX1_readForm_8 rfl rfl ?_
  refine wl_iconst (v := 0) C dX1_readForm_9 (by decide) ?_
  refine wl_put_BodyText_cursor (i := 227) C (by decide) in1 fl22 dX1_readForm_10 ?_
  obtain ⟨M0, eM0⟩ : ∃ z : Mem, z = (mset M1 227 1 0) := ⟨_, rfl⟩
  rw [← eM0]
  have r0 : rdI M T 0 0 M0 := ⟨by rw [eM0]; exact mset_self _ _ _ _, fun j hj => by rw [eM0, mset_ne (by omega), eM1, mset_ne (by omega)], by rw [eM0, mset_ne (by omega), eM1]; exact mset_self _ _ _ _, fun j hj => absurd hj (Nat.not_lt_zero _), fun i a b => by rw [eM0, mset_off i a, eM1, mset_off i (by omega)]⟩
  refine wl_iconst (v := nI 0) C dX1_readForm_13 (by first | decide | rfl) ?_
  refine wl_istore_n (L' := [(1, .int (nI 0)), (0, .ref (G.2.2.1 227))]) C dX1_readForm_14 rfl (by decide) rfl ?_
  have h15 : ∀ k, k ≤ 6 → ∀ M2 : Mem, formT T = reT T k ∧ rdI M T k (cuT T k) M2 ∧ (∀ j, j < k → (crT T (psT T j)).1 = true) ∧ (∀ j, j + 1 < k → chT T (crT T (psT T j)).2.2.2 = 59) ∧ cuT T k ≤ T.1 → WL x G (AA G sz) 4 0 0 QQ M2 15 [(0, .ref (G.2.2.1 227)), (1, .int (nI k))] [] := by
    refine up_loop 6 _ ?_
    intro k hk ih M2 hI
    have hcu := hI.2.2.2.2
    refine wl_iload_n C 1 dX1_readForm_15 rfl rfl ?_
    refine wl_bipush (v := nI 6) C dX1_readForm_16 (by decide) ?_
    refine wl_icmp_geN C (a := k) (b := 6) (by omega) (by omega) 102 dX1_readForm_18 (by decide) (fun c_18 => ?_) (fun c_18 => ?_)
    · refine wl_iconst (v := 0) C dX1_readForm_102 (by decide) ?_
      exact hret _ 103 _ 0 (rfl) dX1_readForm_103 (by (have k6 : k = 6 := (by omega)); subst k6; (have e := reT_6 hI.1); rw [e]; exact ⟨rfl, hI.2.1.1, hI.2.1.2.1, hI.2.1.2.2.2.2, fun z => absurd z Bool.false_ne_true⟩)
    · have h36 : ∀ M3 : Mem, rdI M T k (psT T k) M3 ∧ formT T = rfT T (6 - k) k ∧ (∀ j, j < k → chT T (crT T (psT T j)).2.2.2 = 59) → WL x G (AA G sz) 4 0 0 QQ M3 36 [(0, .ref (G.2.2.1 227)), (1, .int (nI k))] [] := by
        intro M3 hJ
        have hps : psT T k ≤ T.1 := psT_le k (fun j hj => ⟨hI.2.2.1 j hj, hJ.2.2 j hj⟩)
        refine wl_aload_n C 0 dX1_readForm_36 rfl rfl ?_
        refine wl_callVi (i := 227) (n := 0) C [] [] (c_X1_takeNumber _ G M3 T (psT T k) (hJ.1.tx hT) hok hJ.1.1 hps) gX1_readForm_X1_takeNumber rfl (by decide +kernel) (by decide) (by decide) (kd_lt (k := 1) (by decide) (by decide)) (cell_k (k := 1) (by decide)) rfl rfl rfl (Nat.le_of_ble_eq_true rfl) dX1_readForm_37 (fun r2 Mb eb => ?_)
        obtain ⟨qc, qd⟩ := eb
        subst qc
        have rb : rdI M T k (nuT T (psT T k)).2 Mb := by rw [qd]; exact hJ.1.cur
        have lb := nuT_le hps
        refine wl_istore_n (L' := [(2, .int ((nuT T (psT T k)).1)), (0, .ref (G.2.2.1 227)), (1, .int (nI k))]) C dX1_readForm_40 rfl (by decide) rfl ?_
        refine wl_iload_n C 0 dX1_readForm_41 rfl rfl ?_
        refine wl_if_lt C 54 dX1_readForm_42 (by decide) (fun c_42 => ?_) (fun c_42 => ?_)
        · refine wl_iconst (v := 0) C dX1_readForm_54 (by decide) ?_
          exact hret _ 55 _ 0 (rfl) dX1_readForm_55 (by (have e : crT T (psT T k) = (false, 0, 0, (nuT T (psT T k)).2) := (by unfold crT; rw [if_pos c_42])); (have e2 := hJ.2.1.trans (rfT_bad (by omega) (by rw [e]))); rw [e2, e]; exact ⟨rfl, rb.1, rb.2.1, rb.2.2.2.2, fun z => absurd z Bool.false_ne_true⟩)
        · refine wl_aload_n C 1 dX1_readForm_45 rfl rfl ?_
          refine wl_bipush (v := 44) C dX1_readForm_46 (by decide) ?_
          refine wl_callVi (i := 227) (n := 1) C [.int 44] [] (c_X1_takes _ G Mb T (nuT T (psT T k)).2 (rb.tx hT) hok rb.1 lb.2 44) gX1_readForm_X1_takes rfl (by decide +kernel) (by decide) (by decide) (kd_lt (k := 1) (by decide) (by decide)) (cell_k (k := 1) (by decide)) rfl rfl rfl (Nat.le_of_ble_eq_true rfl) dX1_readForm_48 (fun r3 Mc ec => ?_)
          obtain ⟨qe, qf⟩ := ec
          subst qe
          refine wl_if_neB C 56 dX1_readForm_51 (by decide) (fun c_51 => ?_) (fun c_51 => ?_)
          · have hcc := of_decide_eq_true c_51
            have hlc := chT_lt hcc (by decide)
            have rc : rdI M T k ((nuT T (psT T k)).2 + 1) Mc := by rw [qf, if_pos hcc]; exact rb.cur
            refine wl_aload_n C 1 dX1_readForm_56 rfl rfl ?_
            refine wl_callVi (i := 227) (n := 0) C [] [] (c_X1_takeNumber _ G Mc T ((nuT T (psT T k)).2 + 1) (rc.tx hT) hok rc.1 hlc) gX1_readForm_X1_takeNumber rfl (by decide +kernel) (by decide) (by decide) (kd_lt (k := 1) (by decide) (by decide)) (cell_k (k := 1) (by decide)) rfl rfl rfl (Nat.le_of_ble_eq_true rfl) dX1_readForm_57 (fun r4 Md ed => ?_)
            obtain ⟨qg, qh⟩ := ed
            subst qg
            have rd : rdI M T k (nuT T ((nuT T (psT T k)).2 + 1)).2 Md := by rw [qh]; exact rc.cur
            refine wl_istore_n (L' := [(3, .int ((nuT T ((nuT T (psT T k)).2 + 1)).1)), (2, .int ((nuT T (psT T k)).1)), (0, .ref (G.2.2.1 227)), (1, .int (nI k))]) C dX1_readForm_60 rfl (by decide) rfl ?_
            refine wl_iload_n C 0 dX1_readForm_61 rfl rfl ?_
            refine wl_if_ge C 67 dX1_readForm_62 (by decide) (fun c_62 => ?_) (fun c_62 => ?_)
            · refine wl_aload_n C 2 dX1_readForm_67 rfl rfl ?_
              refine wl_get_BodyText_told (i := 227) C (by decide) in1 fl18 dX1_readForm_68 ?_
              refine wl_iload_n C 1 dX1_readForm_71 rfl rfl ?_
              refine wl_iload_n C 0 dX1_readForm_72 rfl rfl ?_
              refine wl_callVv (i := 229) (n := 2) C [.int ((nuT T (psT T k)).1), .int ((nuT T ((nuT T (psT T k)).2 + 1)).1)] [] (c_X0_addCorner _ G Md 229 k (nuT T (psT T k)).1 (nuT T ((nuT T (psT T k)).2 + 1)).1 (by decide) rd.2.2.1 (by omega)) gX1_readForm_X0_addCorner rfl (by decide +kernel) (by decide) (by decide) (kd_lt (k := 0) (by decide) (by decide)) (cell_k (k := 0) (by decide)) rfl rfl rfl (Nat.le_of_ble_eq_true rfl) dX1_readForm_73 (fun Me ee => ?_)
              have ek : crT T (psT T k) = (true, (nuT T (psT T k)).1, (nuT T ((nuT T (psT T k)).2 + 1)).1, (nuT T ((nuT T (psT T k)).2 + 1)).2) := by unfold crT; rw [if_neg (Int32.not_lt.mpr (Int32.not_lt.mp c_42)), if_pos (of_decide_eq_true c_51), if_neg (Int32.not_lt.mpr c_62)]
              have re : rdI M T (k + 1) (nuT T ((nuT T (psT T k)).2 + 1)).2 Me := by rw [ee]; exact rd.add (by rw [ek]) (by rw [ek])
              have cu1 : cuT T (k + 1) = (nuT T ((nuT T (psT T k)).2 + 1)).2 := by rw [cuT_s, ek]
              refine wl_iload_n C 3 dX1_readForm_76 rfl rfl ?_
              refine wl_iconst (v := 1) C dX1_readForm_77 (by decide) ?_
              refine wl_iadd C dX1_readForm_78 ?_
              refine wl_eqi (b := nI (k + 1)) (nI_1 k) ?_
              refine wl_iconst (v := nI 3) C dX1_readForm_79 (by first | decide | rfl) ?_
              refine wl_icmp_ltN C (a := (k + 1)) (b := 3) (by omega) (by omega) 96 dX1_readForm_80 (by decide) (fun c_80 => ?_) (fun c_80 => ?_)
              · refine wl_iinc1 (k := k) (L' := [(1, .int (nI (k + 1))), (3, .int ((nuT T ((nuT T (psT T k)).2 + 1)).1)), (2, .int ((nuT T (psT T k)).1)), (0, .ref (G.2.2.1 227))]) C 3 dX1_readForm_96 rfl (by decide) rfl ?_
                refine wl_goto C 15 dX1_readForm_99 (by decide) ?_
                refine wl_sub (L' := [(0, .ref (G.2.2.1 227)), (1, .int (nI (k + 1)))]) [3, 0] rfl ?_
                exact ih (by omega) Me ⟨by rw [hJ.2.1]; exact rfT_next (by omega) (by rw [ek]) (by rw [← cuT_s]; omega), by rw [cu1]; exact re, fun j hj => by
                  by_cases q : j = k
                  · rw [q, ek]
                  · exact hI.2.2.1 j (by omega), fun j hj => hJ.2.2 j (by omega), by rw [cuT_s]; exact (crT_le hps).2⟩
              · refine wl_aload_n C 2 dX1_readForm_83 rfl rfl ?_
                have hcu1 : cuT T (k + 1) ≤ T.1 := by rw [cuT_s]; exact (crT_le hps).2
                refine wl_get_BodyText_cursor (i := 227) (v := nI (cuT T (k + 1))) C (by decide) in1 fl22 (by rw [cu1]; exact re.1) dX1_readForm_84 ?_
                refine wl_aload_n C 2 dX1_readForm_87 rfl rfl ?_
                refine wl_get_BodyText_length (i := 227) (v := nI T.1) C (by decide) in1 fl26 ((re.2.1 3 (by omega)).trans hT.1) dX1_readForm_88 ?_
                refine wl_icmp_neN C (a := (cuT T (k + 1))) (b := T.1) (by omega) (by omega) 96 dX1_readForm_91 (by decide) (fun c_91 => ?_) (fun c_91 => ?_)
                · refine wl_iinc1 (k := k) (L' := [(1, .int (nI (k + 1))), (3, .int ((nuT T ((nuT T (psT T k)).2 + 1)).1)), (2, .int ((nuT T (psT T k)).1)), (0, .ref (G.2.2.1 227))]) C 3 dX1_readForm_96 rfl (by decide) rfl ?_
                  refine wl_goto C 15 dX1_readForm_99 (by decide) ?_
                  refine wl_sub (L' := [(0, .ref (G.2.2.1 227)), (1, .int (nI (k + 1)))]) [3, 0] rfl ?_
                  exact ih (by omega) Me ⟨by rw [hJ.2.1]; exact rfT_next (by omega) (by rw [ek]) (by rw [← cuT_s]; omega), by rw [cu1]; exact re, fun j hj => by
                    by_cases q : j = k
                    · rw [q, ek]
                    · exact hI.2.2.1 j (by omega), fun j hj => hJ.2.2 j (by omega), by rw [cuT_s]; exact (crT_le hps).2⟩
                · refine wl_iconst (v := 1) C dX1_readForm_94 (by decide) ?_
                  exact hret _ 95 _ 1 (rfl) dX1_readForm_95 (by (have e2 := hJ.2.1.trans (rfT_end (by omega) (by rw [ek]) (by omega) (by rw [← cuT_s]; exact c_91))); (have e3 : (polyT T).1 = k + 1 := (by show (formT T).2.2 = k + 1; rw [e2])); rw [e2]; exact ⟨rfl, by rw [cu1]; exact re.1, re.2.1, re.2.2.2.2, fun _ => re.bd e3.symm (by omega)⟩)
            · refine wl_iconst (v := 0) C dX1_readForm_65 (by decide) ?_
              exact hret _ 66 _ 0 (rfl) dX1_readForm_66 (by (have e : crT T (psT T k) = (false, 0, 0, (nuT T ((nuT T (psT T k)).2 + 1)).2) := (by unfold crT; rw [if_neg c_42, if_pos hcc, if_pos (Int32.not_le.mp c_62)])); (have e2 := hJ.2.1.trans (rfT_bad (by omega) (by rw [e]))); rw [e2, e]; exact ⟨rfl, rd.1, rd.2.1, rd.2.2.2.2, fun z => absurd z Bool.false_ne_true⟩)
          · refine wl_iconst (v := 0) C dX1_readForm_54 (by decide) ?_
            exact hret _ 55 _ 0 (rfl) dX1_readForm_55 (by (have hcc := of_decide_eq_false c_51); (have e : crT T (psT T k) = (false, 0, 0, (nuT T (psT T k)).2) := (by unfold crT; rw [if_neg c_42, if_neg hcc])); (have e2 := hJ.2.1.trans (rfT_bad (by omega) (by rw [e]))); rw [if_neg hcc, mset_same rb.1] at qf; rw [e2, e, qf]; exact ⟨rfl, rb.1, rb.2.1, rb.2.2.2.2, fun z => absurd z Bool.false_ne_true⟩)
      refine wl_iload_n C 1 dX1_readForm_21 rfl rfl ?_
      refine wl_if_le C 36 dX1_readForm_22 (by decide) (fun c_22 => ?_) (fun c_22 => ?_)
      · have k0 : k = 0 := by
          refine Nat.eq_zero_of_not_pos (fun q => ?_)
          exact nI_nle q (by omega) c_22
        subst k0
        exact h36 M2 ⟨hI.2.1, reT_go (by omega) hI.1 (Or.inl rfl), fun j hj => absurd hj (Nat.not_lt_zero _)⟩
      · refine wl_aload_n C 0 dX1_readForm_25 rfl rfl ?_
        refine wl_bipush (v := 59) C dX1_readForm_26 (by decide) ?_
        refine wl_callVi (i := 227) (n := 1) C [.int 59] [] (c_X1_takes _ G M2 T (cuT T k) (hI.2.1.tx hT) hok hI.2.1.1 hcu 59) gX1_readForm_X1_takes rfl (by decide +kernel) (by decide) (by decide) (kd_lt (k := 1) (by decide) (by decide)) (cell_k (k := 1) (by decide)) rfl rfl rfl (Nat.le_of_ble_eq_true rfl) dX1_readForm_28 (fun r1 Ma ea => ?_)
        obtain ⟨qa, qb⟩ := ea
        subst qa
        refine wl_if_neB C 36 dX1_readForm_31 (by decide) (fun c_31 => ?_) (fun c_31 => ?_)
        · have k0 : 0 < k := by
            refine Nat.pos_of_ne_zero (fun q => c_22 ?_)
            rw [q]; decide
          have h59 := of_decide_eq_true c_31
          exact h36 Ma ⟨by rw [qb, if_pos h59, psT_cu k0]; exact hI.2.1.cur, reT_go (by omega) hI.1 (Or.inr h59), fun j hj => by
            by_cases q : j + 1 < k
            · exact hI.2.2.2.1 j q
            · rw [← cuT_s, show j + 1 = k by omega]; exact h59⟩
        · refine wl_iconst (v := 0) C dX1_readForm_34 (by decide) ?_
          exact hret _ 35 _ 0 (rfl) dX1_readForm_35 (by (have k0 : 0 < k := Nat.pos_of_ne_zero (fun q => c_22 (by rw [q]; decide))); (have e := reT_no hI.1 k0 (of_decide_eq_false c_31)); rw [e, qb, if_neg (of_decide_eq_false c_31)]; exact ⟨rfl, mset_self _ _ _ _, fun j hj => by rw [mset_ne (by omega)]; exact hI.2.1.2.1 j hj, (fun i a b => by rw [mset_off i a]; exact hI.2.1.2.2.2.2 i a b), fun z => absurd z Bool.false_ne_true⟩)
  refine wl_sub (L' := [(0, .ref (G.2.2.1 227)), (1, .int (nI 0))]) [1, 0] rfl ?_
  exact h15 0 (Nat.zero_le _) M0 ⟨rfl, r0, fun j hj => absurd hj (Nat.not_lt_zero _), fun j hj => absurd hj (by omega), Nat.zero_le _⟩
set_option maxHeartbeats 4000000 in
set_option maxRecDepth 100000 in
theorem c_X1_examine (l : Launch) (G : Gw) (M : Mem) (T : Tx) (p : Nat) (s : St) (hp : kd p = 3) (hs : Pk M p s) (hW : WfS s) (hT : TxM M T) (hok : TxOk T) : Cv l G yX1_examine wsX1_examine 4 101 [.ref (G.2.2.1 227), .ref (G.2.2.1 p)] M (fun M' => M' 227 4 = (fltT T s).1 ∧ M' 227 5 = (fltT T s).2.1 ∧ M' 227 6 = (fltT T s).2.2 ∧ M' 227 3 = M 227 3 ∧ FrT M M' ∧ ((fltT T s).2.1 = 0 → Bd M' 229 (polyT T))) := by
  refine Cv.of (cc := cX1_examine) (maxL := 5) (ret := none) (by decide +kernel) rfl (Nat.le_of_ble_eq_true rfl) ?_
  intro x sz hl0 hr C
  subst hl0
  have C : CX x G (AA G sz) RX1 cX1_examine 5 wsX1_examine 4 101 0 0 := C
  have hret : ∀ (M0 : Mem) (pc0 : Nat) (L0 : List (Nat × Value)), decode cX1_examine pc0 = .ok (.return_, 1) → (fun M' => M' 227 4 = (fltT T s).1 ∧ M' 227 5 = (fltT T s).2.1 ∧ M' 227 6 = (fltT T s).2.2 ∧ M' 227 3 = M 227 3 ∧ FrT M M' ∧ ((fltT T s).2.1 = 0 → Bd M' 229 (polyT T))) M0 → WL x G (AA G sz) 5 0 0 (xQ x (va_Qv (fun M' => M' 227 4 = (fltT T s).1 ∧ M' 227 5 = (fltT T s).2.1 ∧ M' 227 6 = (fltT T s).2.2 ∧ M' 227 3 = M 227 3 ∧ FrT M M' ∧ ((fltT T s).2.1 = 0 → Bd M' 229 (polyT T))) (WE G) (AA G sz)) (AA G sz)) M0 pc0 L0 [] := fun M0 pc0 L0 hd hp => wl_vret (post := (fun M' => M' 227 4 = (fltT T s).1 ∧ M' 227 5 = (fltT T s).2.1 ∧ M' 227 6 = (fltT T s).2.2 ∧ M' 227 3 = M 227 3 ∧ FrT M M' ∧ ((fltT T s).2.1 = 0 → Bd M' 229 (polyT T)))) C hr hd hp
  show WL x G (AA G sz) 5 0 0 (xQ x (va_Qv (fun M' => M' 227 4 = (fltT T s).1 ∧ M' 227 5 = (fltT T s).2.1 ∧ M' 227 6 = (fltT T s).2.2 ∧ M' 227 3 = M 227 3 ∧ FrT M M' ∧ ((fltT T s).2.1 = 0 → Bd M' 229 (polyT T))) (WE G) (AA G sz)) (AA G sz)) M 0 [(0, .ref (G.2.2.1 227)), (1, .ref (G.2.2.1 p))] []
  generalize (xQ x (va_Qv (fun M' => M' 227 4 = (fltT T s).1 ∧ M' 227 5 = (fltT T s).2.1 ∧ M' 227 6 = (fltT T s).2.2 ∧ M' 227 3 = M 227 3 ∧ FrT M M' ∧ ((fltT T s).2.1 = 0 → Bd M' 229 (polyT T))) (WE G) (AA G sz)) (AA G sz)) = QQ at hret ⊢
  have in1 : ∀ w ∈ wsX10, w ∈ wsX1_examine := by decide +kernel
  have fl18 : Jvm.Cond.fieldLink RX1 18 "JammedBodies$BodyText" "told" "LJammedBodies$Body;" ∈ wsX1_examine := by decide +kernel
  have in3 : ∀ w ∈ wsX30, w ∈ wsX1_examine := by decide +kernel
  have fl46 : Jvm.Cond.fieldLink RX1 46 "JammedBodies$Packing" "width" "I" ∈ wsX1_examine := by decide +kernel
  have fl51 : Jvm.Cond.fieldLink RX1 51 "JammedBodies$Packing" "height" "I" ∈ wsX1_examine := by decide +kernel
  have ini4 : Jvm.Cond.initialized RX4 ∈ wsX1_examine := by decide +kernel
  have sta66 : Jvm.Cond.static yX4_lowest ∈ wsX1_examine := by decide +kernel
  have fl22 : Jvm.Cond.fieldLink RX1 22 "JammedBodies$BodyText" "cursor" "I" ∈ wsX1_examine := by decide +kernel
  have h8 := hs.2.2.2.1
  refine wl_aload_n C 0 dX1_examine_0 rfl rfl ?_
  refine wl_iconst (v := 0) C dX1_examine_1 (by decide) ?_
  refine wl_iconst (v := 0) C dX1_examine_2 (by decide) ?_
  refine wl_iconst (v := 0) C dX1_examine_3 (by decide) ?_
  refine wl_callVv (i := 227) (n := 3) C [.int 0, .int 0, .int 0] [] (c_X1_find _ G M 0 0 0) gX1_examine_X1_find rfl (by decide +kernel) (by decide) (by decide) (kd_lt (k := 1) (by decide) (by decide)) (cell_k (k := 1) (by decide)) rfl rfl rfl (Nat.le_of_ble_eq_true rfl) dX1_examine_4 (fun M1 e1 => ?_)
  have f1 : FrT M M1 := fun i a b => by rw [e1, mset_off i a, mset_off i a, mset_off i a]
  have l1 : M1 227 3 = M 227 3 := by rw [e1, mset_ne (by omega), mset_ne (by omega), mset_ne (by omega)]
  refine wl_aload_n C 0 dX1_examine_7 rfl rfl ?_
  refine wl_callVi (i := 227) (n := 0) C [] [] (c_X1_readForm _ G M1 T (hT.fr f1 l1) hok) gX1_examine_X1_readForm rfl (by decide +kernel) (by decide) (by decide) (kd_lt (k := 1) (by decide) (by decide)) (cell_k (k := 1) (by decide)) rfl rfl rfl (Nat.le_of_ble_eq_true rfl) dX1_examine_8 (fun r2 M2 e2 => ?_)
  obtain ⟨q2, e2⟩ := e2
  subst q2
  have f2 : FrT M M2 := f1.tr e2.2.2.1
  have s2 : Pk M2 p s := hs.frT f2 hp
  have l2 : M2 227 3 = M 227 3 := (e2.2.1 3 (by omega)).trans l1
  refine wl_if_neB C 25 dX1_examine_11 (by decide) (fun c_11 => ?_) (fun c_11 => ?_)
  · have fo := formT_ok c_11
    have o6 : ∀ j, pOut (polyT T) s.2.1 s.2.2.1 = some j → j < 6 := fun j hj => by have := (fsT_some hj).1; omega
    refine wl_aload_n C 0 dX1_examine_25 rfl rfl ?_
    refine wl_get_BodyText_told (i := 227) C (by decide) in1 fl18 dX1_examine_26 ?_
    refine wl_aload_n C 1 dX1_examine_29 rfl rfl ?_
    refine wl_get_Packing_width (i := p) (v := s.2.1) C hp in3 fl46 s2.2.1 dX1_examine_30 ?_
    refine wl_aload_n C 1 dX1_examine_33 rfl rfl ?_
    refine wl_get_Packing_height (i := p) (v := s.2.2.1) C hp in3 fl51 s2.2.2.1 dX1_examine_34 ?_
    refine wl_callVp (i := 229) (n := 2) C [.int s.2.1, .int s.2.2.1] [] (c_X0_cornerOutside _ G M2 229 (polyT T) (by decide) (e2.2.2.2 c_11) s.2.1 s.2.2.1) gX1_examine_X0_cornerOutside rfl (by decide +kernel) (by decide) (by decide) (kd_lt (k := 0) (by decide) (by decide)) (cell_k (k := 0) (by decide)) rfl rfl rfl (Nat.le_of_ble_eq_true rfl) dX1_examine_37 ?_
    refine wl_istore_n (L' := [(2, .int (opI (pOut (polyT T) s.2.1 s.2.2.1))), (0, .ref (G.2.2.1 227)), (1, .ref (G.2.2.1 p))]) C dX1_examine_40 rfl (by decide) rfl ?_
    refine wl_iload_n C 0 dX1_examine_41 rfl rfl ?_
    refine wl_if_lt C 53 dX1_examine_42 (by decide) (fun c_42 => ?_) (fun c_42 => ?_)
    · have on := (opI_neg (by decide) o6).mp c_42
      have wfp := polyT_wf c_11 on
      refine wl_aload_n C 1 dX1_examine_53 rfl rfl ?_
      refine wl_get_BodyText_told (i := 227) C (by decide) in1 fl18 dX1_examine_54 ?_
      refine wl_callVp (i := 229) (n := 0) C [] [] (c_X0_causeOfShape _ G M2 229 (polyT T) (by decide) (e2.2.2.2 c_11) (by have := fo.1; omega)) gX1_examine_X0_causeOfShape rfl (by decide +kernel) (by decide) (by decide) (kd_lt (k := 0) (by decide) (by decide)) (cell_k (k := 0) (by decide)) rfl rfl rfl (Nat.le_of_ble_eq_true rfl) dX1_examine_57 ?_
      refine wl_istore_n (L' := [(3, .int (pShape (polyT T))), (2, .int (opI (pOut (polyT T) s.2.1 s.2.2.1))), (0, .ref (G.2.2.1 227)), (1, .ref (G.2.2.1 p))]) C dX1_examine_60 rfl (by decide) rfl ?_
      refine wl_iload_n C 0 dX1_examine_61 rfl rfl ?_
      refine wl_if_lt C 73 dX1_examine_62 (by decide) (fun c_62 => ?_) (fun c_62 => ?_)
      · refine wl_aload_n C 3 dX1_examine_73 rfl rfl ?_
        refine wl_aload_n C 2 dX1_examine_74 rfl rfl ?_
        refine wl_get_BodyText_told (i := 227) C (by decide) in1 fl18 dX1_examine_75 ?_
        refine wl_iconst (v := (-1)) C dX1_examine_78 (by decide) ?_
        refine wl_callVp (i := p) (n := 2) C [.ref (G.2.2.1 229), .int (-1)] [] (c_X3_overlapped _ G M2 p s hp s2 229 (polyT T) (-1) (by decide) (e2.2.2.2 c_11) (wfp.smal hW.1) hW.sm) gX1_examine_X3_overlapped rfl (by decide +kernel) (by decide) (by decide) (kd_lt (k := 3) hp (by decide)) (cell_k (k := 3) hp) rfl rfl rfl (Nat.le_of_ble_eq_true rfl) dX1_examine_79 ?_
        refine wl_istore (L' := [(4, .int (ovS s (polyT T) (-1))), (3, .int (pShape (polyT T))), (2, .int (opI (pOut (polyT T) s.2.1 s.2.2.1))), (0, .ref (G.2.2.1 227)), (1, .ref (G.2.2.1 p))]) C dX1_examine_82 (by decide) rfl ?_
        refine wl_iload C 0 dX1_examine_84 rfl ?_
        refine wl_if_eq C 100 dX1_examine_86 (by decide) (fun c_86 => ?_) (fun c_86 => ?_)
        · exact hret _ 100 _ dX1_examine_100 (by (have e : fltT T s = (0, 0, 0) := (by unfold fltT; rw [if_neg (by rw [c_11]; decide)]; simp only [on]; rw [if_pos c_62, if_pos c_86])); rw [e]; exact ⟨by rw [e2.2.1 4 (by omega), e1, mset_ne (by omega), mset_ne (by omega)]; exact mset_self _ _ _ _, by rw [e2.2.1 5 (by omega), e1, mset_ne (by omega)]; exact mset_self _ _ _ _, by rw [e2.2.1 6 (by omega), e1]; exact mset_self _ _ _ _, l2, f2, fun _ => e2.2.2.2 c_11⟩)
        · refine wl_aload_n C 3 dX1_examine_89 rfl rfl ?_
          refine wl_iconst (v := 0) C dX1_examine_90 (by decide) ?_
          refine wl_iconst (v := 4) C dX1_examine_91 (by decide) ?_
          refine wl_iload C 0 dX1_examine_92 rfl ?_
          refine wl_callNp (n := 1) C [.int (ovS s (polyT T) (-1))] [.int 4, .int 0, .ref (G.2.2.1 227)] (c_X4_lowest _ G M2 (ovS s (polyT T) (-1))) gX1_examine_X4_lowest_n66 rfl ini4 sta66 (fun h => h.2.1) (by decide +kernel) (by decide) (by decide) rfl rfl (Nat.le_of_ble_eq_true rfl) dX1_examine_94 ?_
          refine wl_callVv (i := 227) (n := 3) C [.int 0, .int 4, .int (nI (loT (ovS s (polyT T) (-1))))] [] (c_X1_find _ G M2 0 4 (nI (loT (ovS s (polyT T) (-1))))) gX1_examine_X1_find rfl (by decide +kernel) (by decide) (by decide) (kd_lt (k := 1) (by decide) (by decide)) (cell_k (k := 1) (by decide)) rfl rfl rfl (Nat.le_of_ble_eq_true rfl) dX1_examine_97 (fun M3 e3 => ?_)
          exact hret _ 100 _ dX1_examine_100 (by (have e : fltT T s = (0, 4, nI (loT (ovS s (polyT T) (-1)))) := (by unfold fltT; rw [if_neg (by rw [c_11]; decide)]; simp only [on]; rw [if_pos c_62, if_neg c_86])); rw [e]; exact exa_end f2 l2 e3 (show ¬ (4 : Int32) = 0 by decide))
      · refine wl_aload_n C 2 dX1_examine_65 rfl rfl ?_
        refine wl_iconst (v := 0) C dX1_examine_66 (by decide) ?_
        refine wl_iconst (v := 3) C dX1_examine_67 (by decide) ?_
        refine wl_iload_n C 0 dX1_examine_68 rfl rfl ?_
        refine wl_callVv (i := 227) (n := 3) C [.int 0, .int 3, .int (pShape (polyT T))] [] (c_X1_find _ G M2 0 3 (pShape (polyT T))) gX1_examine_X1_find rfl (by decide +kernel) (by decide) (by decide) (kd_lt (k := 1) (by decide) (by decide)) (cell_k (k := 1) (by decide)) rfl rfl rfl (Nat.le_of_ble_eq_true rfl) dX1_examine_69 (fun M3 e3 => ?_)
        exact hret _ 72 _ dX1_examine_72 (by (have e : fltT T s = (0, 3, pShape (polyT T)) := (by unfold fltT; rw [if_neg (by rw [c_11]; decide)]; simp only [on]; rw [if_neg c_62])); rw [e]; exact exa_end f2 l2 e3 (show ¬ (3 : Int32) = 0 by decide))
    · obtain ⟨j, hj⟩ := Option.ne_none_iff_exists'.mp (fun h9 => c_42 ((opI_neg (by decide) o6).mpr h9))
      refine wl_aload_n C 1 dX1_examine_45 rfl rfl ?_
      refine wl_iconst (v := 0) C dX1_examine_46 (by decide) ?_
      refine wl_iconst (v := 2) C dX1_examine_47 (by decide) ?_
      refine wl_iload_n C 0 dX1_examine_48 rfl rfl ?_
      refine wl_callVv (i := 227) (n := 3) C [.int 0, .int 2, .int (opI (pOut (polyT T) s.2.1 s.2.2.1))] [] (c_X1_find _ G M2 0 2 (opI (pOut (polyT T) s.2.1 s.2.2.1))) gX1_examine_X1_find rfl (by decide +kernel) (by decide) (by decide) (kd_lt (k := 1) (by decide) (by decide)) (cell_k (k := 1) (by decide)) rfl rfl rfl (Nat.le_of_ble_eq_true rfl) dX1_examine_49 (fun M3 e3 => ?_)
      exact hret _ 52 _ dX1_examine_52 (by (have e : fltT T s = (0, 2, opI (pOut (polyT T) s.2.1 s.2.2.1)) := (by unfold fltT; rw [if_neg (by rw [c_11]; decide), hj]; rfl)); rw [e]; exact exa_end f2 l2 e3 (show ¬ (2 : Int32) = 0 by decide))
  · refine wl_aload_n C 0 dX1_examine_14 rfl rfl ?_
    refine wl_aload_n C 0 dX1_examine_15 rfl rfl ?_
    refine wl_get_BodyText_cursor (i := 227) (v := nI (formT T).2.1) C (by decide) in1 fl22 e2.1 dX1_examine_16 ?_
    refine wl_iconst (v := 1) C dX1_examine_19 (by decide) ?_
    refine wl_iconst (v := 0) C dX1_examine_20 (by decide) ?_
    refine wl_callVv (i := 227) (n := 3) C [.int (nI (formT T).2.1), .int 1, .int 0] [] (c_X1_find _ G M2 (nI (formT T).2.1) 1 0) gX1_examine_X1_find rfl (by decide +kernel) (by decide) (by decide) (kd_lt (k := 1) (by decide) (by decide)) (cell_k (k := 1) (by decide)) rfl rfl rfl (Nat.le_of_ble_eq_true rfl) dX1_examine_21 (fun M3 e3 => ?_)
    exact hret _ 24 _ dX1_examine_24 (by (have e : fltT T s = (nI (formT T).2.1, 1, 0) := (by unfold fltT; rw [if_pos c_11])); rw [e]; exact exa_end f2 l2 e3 (show ¬ (1 : Int32) = 0 by decide))
