set_option maxHeartbeats 4000000 in
set_option maxRecDepth 100000 in
theorem c_X5_cornerOutside (l : Launch) (G : Gw) (M : Mem) (P : Py) (hB : BdM (M 233) 8 P) (h0 : 0 < P.1) (w h : Int32) (hw : M 233 0 = w) (hh : M 233 1 = h) : Cp l G yX5_cornerOutside wsX5_cornerOutside 2 43 [.ref (G.2.2.1 232)] M (opI (pOut P w h)) := by
  refine Ci.of (cc := cX5_cornerOutside) (maxL := 2) (ret := (some .int)) (by decide +kernel) rfl (Nat.le_of_ble_eq_true rfl) ?_
  intro x sz hl0 hr C
  subst hl0
  have C : CX x G (AA G sz) RX5 cX5_cornerOutside 2 wsX5_cornerOutside 2 43 0 0 := C
  have hret : ∀ (M0 : Mem) (pc0 : Nat) (L0 : List (Nat × Value)) (rv0 : Int32), decode cX5_cornerOutside pc0 = .ok (.ireturn, 1) → (fun (r : Int32) (M' : Mem) => r = opI (pOut P w h) ∧ M' = M) rv0 M0 → WL x G (AA G sz) 2 0 0 (xQ x (va_Qi (fun (r : Int32) (M' : Mem) => r = opI (pOut P w h) ∧ M' = M) (WE G) (AA G sz)) (AA G sz)) M0 pc0 L0 [.int rv0] := fun M0 pc0 L0 rv0 hd hp => wl_iret (post := (fun (r : Int32) (M' : Mem) => r = opI (pOut P w h) ∧ M' = M)) C hr hd hp
  show WL x G (AA G sz) 2 0 0 (xQ x (va_Qi (fun (r : Int32) (M' : Mem) => r = opI (pOut P w h) ∧ M' = M) (WE G) (AA G sz)) (AA G sz)) M 0 [(0, .ref (G.2.2.1 232))] []
  generalize (xQ x (va_Qi (fun (r : Int32) (M' : Mem) => r = opI (pOut P w h) ∧ M' = M) (WE G) (AA G sz)) (AA G sz)) = QQ at hret ⊢
  have in5 : ∀ w ∈ wsX50, w ∈ wsX5_cornerOutside := by decide +kernel
  have fl7 : Jvm.Cond.fieldLink RX5 7 "JammedBodiesModel" "all" "[I" ∈ wsX5_cornerOutside := by decide +kernel
  have h7 := hB.2.1
  refine wl_iconst (v := nI 0) C dX5_cornerOutside_0 (by first | decide | rfl) ?_
  refine wl_istore_n (L' := [(1, .int (nI 0)), (0, .ref (G.2.2.1 232))]) C dX5_cornerOutside_1 rfl (by decide) rfl ?_
  have h2 : ∀ k, k ≤ P.1 → anT (fun k => decide (w < P.2.1 k) || decide (h < P.2.2 k)) k = false → WL x G (AA G sz) 2 0 0 QQ M 2 [(0, .ref (G.2.2.1 232)), (1, .int (nI k))] [] := by
    refine up_loop P.1 _ ?_
    intro k hk ih hI
    refine wl_iload_n C 1 dX5_cornerOutside_2 rfl rfl ?_
    refine wl_aload_n C 0 dX5_cornerOutside_3 rfl rfl ?_
    refine wl_bipush (v := nI 8) C dX5_cornerOutside_4 (by decide) ?_
    refine wl_callVp (i := 232) (n := 1) C [.int (nI 8)] [.int (nI k)] (c_X5_corners _ G M 8 P (by decide) hB) gX5_cornerOutside_X5_corners rfl (by decide +kernel) (by decide) (by decide) (kd_lt (k := 5) (by decide) (by decide)) (cell_k (k := 5) (by decide)) rfl rfl rfl (Nat.le_of_ble_eq_true rfl) dX5_cornerOutside_6 ?_
    refine wl_icmp_geN C (a := k) (b := P.1) (by omega) (by omega) 52 dX5_cornerOutside_9 (by decide) (fun c_9 => ?_) (fun c_9 => ?_)
    · refine wl_iconst (v := (-1)) C dX5_cornerOutside_52 (by decide) ?_
      exact hret _ 53 _ (-1) dX5_cornerOutside_53 (⟨by unfold pOut; rw [fsT_none.mpr (by rw [show P.1 = k by omega]; exact hI)]; rfl, rfl⟩)
    · refine wl_aload_n C 0 dX5_cornerOutside_12 rfl rfl ?_
      refine wl_bipush (v := nI 8) C dX5_cornerOutside_13 (by decide) ?_
      refine wl_iload_n C 1 dX5_cornerOutside_15 rfl rfl ?_
      refine wl_callVp (i := 232) (n := 2) C [.int (nI 8), .int (nI k)] [] (c_X5_x _ G M 8 k P (by decide) hB h0 (by omega)) gX5_cornerOutside_X5_x rfl (by decide +kernel) (by decide) (by decide) (kd_lt (k := 5) (by decide) (by decide)) (cell_k (k := 5) (by decide)) rfl rfl rfl (Nat.le_of_ble_eq_true rfl) dX5_cornerOutside_16 ?_
      refine wl_eqi (b := P.2.1 k) (by rw [Nat.mod_eq_of_lt (by omega)]) ?_
      refine wl_aload_n C 0 dX5_cornerOutside_19 rfl rfl ?_
      refine wl_get_Model_all (i := 232) C (by decide) in5 fl7 dX5_cornerOutside_20 ?_
      refine wl_iconst (v := 0) C dX5_cornerOutside_23 (by decide) ?_
      refine wl_iald (j := 0) (n := 120) (v := w) C (by decide) (cell_k (k := 10) (by decide)) (rfl) (by decide) (by decide) hw dX5_cornerOutside_24 ?_
      refine wl_icmp_gt C 44 dX5_cornerOutside_25 (by decide) (fun c_25 => ?_) (fun c_25 => ?_)
      · refine wl_iload_n C 1 dX5_cornerOutside_44 rfl rfl ?_
        exact hret _ 45 _ (nI k) dX5_cornerOutside_45 (⟨by unfold pOut; rw [fsT_first hI (by first | (rw [decide_eq_true c_25]; rfl) | (rw [decide_eq_true (Int32.not_le.mp c_41)]; exact Bool.or_true _)) (by omega)]; rfl, rfl⟩)
      · refine wl_aload_n C 0 dX5_cornerOutside_28 rfl rfl ?_
        refine wl_bipush (v := nI 8) C dX5_cornerOutside_29 (by decide) ?_
        refine wl_iload_n C 1 dX5_cornerOutside_31 rfl rfl ?_
        refine wl_callVp (i := 232) (n := 2) C [.int (nI 8), .int (nI k)] [] (c_X5_y _ G M 8 k P (by decide) hB h0 (by omega)) gX5_cornerOutside_X5_y rfl (by decide +kernel) (by decide) (by decide) (kd_lt (k := 5) (by decide) (by decide)) (cell_k (k := 5) (by decide)) rfl rfl rfl (Nat.le_of_ble_eq_true rfl) dX5_cornerOutside_32 ?_
        refine wl_eqi (b := P.2.2 k) (by rw [Nat.mod_eq_of_lt (by omega)]) ?_
        refine wl_aload_n C 0 dX5_cornerOutside_35 rfl rfl ?_
        refine wl_get_Model_all (i := 232) C (by decide) in5 fl7 dX5_cornerOutside_36 ?_
        refine wl_iconst (v := 1) C dX5_cornerOutside_39 (by decide) ?_
        refine wl_iald (j := 1) (n := 120) (v := h) C (by decide) (cell_k (k := 10) (by decide)) (rfl) (by decide) (by decide) hh dX5_cornerOutside_40 ?_
        refine wl_icmp_le C 46 dX5_cornerOutside_41 (by decide) (fun c_41 => ?_) (fun c_41 => ?_)
        · refine wl_iinc1 (k := k) (L' := [(1, .int (nI (k + 1))), (0, .ref (G.2.2.1 232))]) C 1 dX5_cornerOutside_46 rfl (by decide) rfl ?_
          refine wl_goto C 2 dX5_cornerOutside_49 (by decide) ?_
          refine wl_sub (L' := [(0, .ref (G.2.2.1 232)), (1, .int (nI (k + 1)))]) [1, 0] rfl ?_
          exact ih (by omega) (by simp only [anT, hI, Bool.false_or]; rw [decide_eq_false c_25, decide_eq_false (Int32.not_lt.mpr c_41)]; rfl)
        · refine wl_iload_n C 1 dX5_cornerOutside_44 rfl rfl ?_
          exact hret _ 45 _ (nI k) dX5_cornerOutside_45 (⟨by unfold pOut; rw [fsT_first hI (by first | (rw [decide_eq_true c_25]; rfl) | (rw [decide_eq_true (Int32.not_le.mp c_41)]; exact Bool.or_true _)) (by omega)]; rfl, rfl⟩)
  refine wl_sub (L' := [(0, .ref (G.2.2.1 232)), (1, .int (nI 0))]) [1, 0] rfl ?_
  exact h2 0 (Nat.zero_le _) rfl
set_option maxHeartbeats 4000000 in
set_option maxRecDepth 100000 in
theorem c_X5_goesUp (l : Launch) (G : Gw) (M : Mem) (P : Py) (hB : BdM (M 233) 8 P) (h0 : 0 < P.1) (i : Nat) (hi : i < 900) : Cp l G yX5_goesUp wsX5_goesUp 2 43 [.ref (G.2.2.1 232), .int (nI i)] M (bi (guV P i)) := by
  refine Ci.of (cc := cX5_goesUp) (maxL := 3) (ret := (some .boolean)) (by decide +kernel) rfl (Nat.le_of_ble_eq_true rfl) ?_
  intro x sz hl0 hr C
  subst hl0
  have C : CX x G (AA G sz) RX5 cX5_goesUp 3 wsX5_goesUp 2 43 0 0 := C
  have hret : ∀ (M0 : Mem) (pc0 : Nat) (L0 : List (Nat × Value)) (rv0 : Int32), narrow .boolean (.int rv0) = .int rv0 → decode cX5_goesUp pc0 = .ok (.ireturn, 1) → (fun (r : Int32) (M' : Mem) => r = bi (guV P i) ∧ M' = M) rv0 M0 → WL x G (AA G sz) 3 0 0 (xQ x (va_Qi (fun (r : Int32) (M' : Mem) => r = bi (guV P i) ∧ M' = M) (WE G) (AA G sz)) (AA G sz)) M0 pc0 L0 [.int rv0] := fun M0 pc0 L0 rv0 hn hd hp => wl_zret (post := (fun (r : Int32) (M' : Mem) => r = bi (guV P i) ∧ M' = M)) C hr hn hd hp
  show WL x G (AA G sz) 3 0 0 (xQ x (va_Qi (fun (r : Int32) (M' : Mem) => r = bi (guV P i) ∧ M' = M) (WE G) (AA G sz)) (AA G sz)) M 0 [(0, .ref (G.2.2.1 232)), (1, .int (nI i))] []
  generalize (xQ x (va_Qi (fun (r : Int32) (M' : Mem) => r = bi (guV P i) ∧ M' = M) (WE G) (AA G sz)) (AA G sz)) = QQ at hret ⊢
  have h7 := hB.2.1
  refine wl_aload_n C 0 dX5_goesUp_0 rfl rfl ?_
  refine wl_bipush (v := nI 8) C dX5_goesUp_1 (by decide) ?_
  refine wl_iload_n C 1 dX5_goesUp_3 rfl rfl ?_
  refine wl_iconst (v := 1) C dX5_goesUp_4 (by decide) ?_
  refine wl_iadd C dX5_goesUp_5 ?_
  refine wl_eqi (b := nI (i + 1)) (nI_1 i) ?_
  refine wl_callVp (i := 232) (n := 2) C [.int (nI 8), .int (nI (i + 1))] [] (c_X5_y _ G M 8 (i + 1) P (by decide) hB h0 (by omega)) gX5_goesUp_X5_y rfl (by decide +kernel) (by decide) (by decide) (kd_lt (k := 5) (by decide) (by decide)) (cell_k (k := 5) (by decide)) rfl rfl rfl (Nat.le_of_ble_eq_true rfl) dX5_goesUp_6 ?_
  refine wl_aload_n C 0 dX5_goesUp_9 rfl rfl ?_
  refine wl_bipush (v := nI 8) C dX5_goesUp_10 (by decide) ?_
  refine wl_iload_n C 1 dX5_goesUp_12 rfl rfl ?_
  refine wl_callVp (i := 232) (n := 2) C [.int (nI 8), .int (nI i)] [.int (P.2.2 ((i + 1) % P.1))] (c_X5_y _ G M 8 i P (by decide) hB h0 (by omega)) gX5_goesUp_X5_y rfl (by decide +kernel) (by decide) (by decide) (kd_lt (k := 5) (by decide) (by decide)) (cell_k (k := 5) (by decide)) rfl rfl rfl (Nat.le_of_ble_eq_true rfl) dX5_goesUp_13 ?_
  refine wl_isub C dX5_goesUp_16 ?_
  refine wl_istore_n (L' := [(2, .int ((P.2.2 ((i + 1) % P.1)) - (P.2.2 (i % P.1)))), (0, .ref (G.2.2.1 232)), (1, .int (nI i))]) C dX5_goesUp_17 rfl (by decide) rfl ?_
  refine wl_iload_n C 0 dX5_goesUp_18 rfl rfl ?_
  suffices hJ19 : WL x G (AA G sz) 3 0 0 QQ M 50 [(2, .int ((P.2.2 ((i + 1) % P.1)) - (P.2.2 (i % P.1)))), (0, .ref (G.2.2.1 232)), (1, .int (nI i))] [.int (if 0 < ((P.2.2 ((i + 1) % P.1)) - (P.2.2 (i % P.1))) then (1 : Int32) else if ((P.2.2 ((i + 1) % P.1)) - (P.2.2 (i % P.1))) = 0 then if (P.2.1 ((i + 1) % P.1)) ≤ (P.2.1 (i % P.1)) then (0 : Int32) else (1 : Int32) else (0 : Int32))] by
    refine wl_if_gt C 45 dX5_goesUp_19 (by decide) (fun c_19 => ?_) (fun c_19 => ?_)
    · rw [if_pos c_19] at hJ19
      refine wl_iconst (v := 1) C dX5_goesUp_45 (by decide) ?_
      refine wl_goto C 50 dX5_goesUp_46 (by decide) ?_
      exact hJ19
    · rw [if_neg c_19] at hJ19
      refine wl_iload_n C 0 dX5_goesUp_22 rfl rfl ?_
      suffices hJ23 : WL x G (AA G sz) 3 0 0 QQ M 50 [(2, .int ((P.2.2 ((i + 1) % P.1)) - (P.2.2 (i % P.1)))), (0, .ref (G.2.2.1 232)), (1, .int (nI i))] [.int (if ((P.2.2 ((i + 1) % P.1)) - (P.2.2 (i % P.1))) = 0 then if (P.2.1 ((i + 1) % P.1)) ≤ (P.2.1 (i % P.1)) then (0 : Int32) else (1 : Int32) else (0 : Int32))] by
        refine wl_if_ne C 49 dX5_goesUp_23 (by decide) (fun c_23 => ?_) (fun c_23 => ?_)
        · rw [if_neg c_23] at hJ23
          refine wl_iconst (v := 0) C dX5_goesUp_49 (by decide) ?_
          exact hJ23
        · rw [if_pos c_23] at hJ23
          refine wl_aload_n C 1 dX5_goesUp_26 rfl rfl ?_
          refine wl_bipush (v := nI 8) C dX5_goesUp_27 (by decide) ?_
          refine wl_iload_n C 2 dX5_goesUp_29 rfl rfl ?_
          refine wl_iconst (v := 1) C dX5_goesUp_30 (by decide) ?_
          refine wl_iadd C dX5_goesUp_31 ?_
          refine wl_eqi (b := nI (i + 1)) (nI_1 i) ?_
          refine wl_callVp (i := 232) (n := 2) C [.int (nI 8), .int (nI (i + 1))] [] (c_X5_x _ G M 8 (i + 1) P (by decide) hB h0 (by omega)) gX5_goesUp_X5_x rfl (by decide +kernel) (by decide) (by decide) (kd_lt (k := 5) (by decide) (by decide)) (cell_k (k := 5) (by decide)) rfl rfl rfl (Nat.le_of_ble_eq_true rfl) dX5_goesUp_32 ?_
          refine wl_aload_n C 1 dX5_goesUp_35 rfl rfl ?_
          refine wl_bipush (v := nI 8) C dX5_goesUp_36 (by decide) ?_
          refine wl_iload_n C 2 dX5_goesUp_38 rfl rfl ?_
          refine wl_callVp (i := 232) (n := 2) C [.int (nI 8), .int (nI i)] [.int (P.2.1 ((i + 1) % P.1))] (c_X5_x _ G M 8 i P (by decide) hB h0 (by omega)) gX5_goesUp_X5_x rfl (by decide +kernel) (by decide) (by decide) (kd_lt (k := 5) (by decide) (by decide)) (cell_k (k := 5) (by decide)) rfl rfl rfl (Nat.le_of_ble_eq_true rfl) dX5_goesUp_39 ?_
          suffices hJ42 : WL x G (AA G sz) 3 0 0 QQ M 50 [(2, .int ((P.2.2 ((i + 1) % P.1)) - (P.2.2 (i % P.1)))), (0, .ref (G.2.2.1 232)), (1, .int (nI i))] [.int (if (P.2.1 ((i + 1) % P.1)) ≤ (P.2.1 (i % P.1)) then (0 : Int32) else (1 : Int32))] by
            refine wl_icmp_le C 49 dX5_goesUp_42 (by decide) (fun c_42 => ?_) (fun c_42 => ?_)
            · rw [if_pos c_42] at hJ42
              refine wl_iconst (v := 0) C dX5_goesUp_49 (by decide) ?_
              exact hJ42
            · rw [if_neg c_42] at hJ42
              refine wl_iconst (v := 1) C dX5_goesUp_45 (by decide) ?_
              refine wl_goto C 50 dX5_goesUp_46 (by decide) ?_
              exact hJ42
          exact hJ23
      exact hJ19
  refine wl_eqi (b := bi (guV P i)) (ite3_bi) ?_
  exact hret _ 50 _ (bi (guV P i)) (narrow_bi _) dX5_goesUp_50 (⟨rfl, rfl⟩)
set_option maxHeartbeats 4000000 in
set_option maxRecDepth 100000 in
theorem c_X5_badCorner (l : Launch) (G : Gw) (M : Mem) (P : Py) (hB : BdM (M 233) 8 P) (hS : Smal P) : Cp l G yX5_badCorner wsX5_badCorner 3 69 [.ref (G.2.2.1 232)] M (pShape P) := by
  refine Ci.of (cc := cX5_badCorner) (maxL := 4) (ret := (some .int)) (by decide +kernel) rfl (Nat.le_of_ble_eq_true rfl) ?_
  intro x sz hl0 hr C
  subst hl0
  have C : CX x G (AA G sz) RX5 cX5_badCorner 4 wsX5_badCorner 3 69 0 0 := C
  have hret : ∀ (M0 : Mem) (pc0 : Nat) (L0 : List (Nat × Value)) (rv0 : Int32), decode cX5_badCorner pc0 = .ok (.ireturn, 1) → (fun (r : Int32) (M' : Mem) => r = pShape P ∧ M' = M) rv0 M0 → WL x G (AA G sz) 4 0 0 (xQ x (va_Qi (fun (r : Int32) (M' : Mem) => r = pShape P ∧ M' = M) (WE G) (AA G sz)) (AA G sz)) M0 pc0 L0 [.int rv0] := fun M0 pc0 L0 rv0 hd hp => wl_iret (post := (fun (r : Int32) (M' : Mem) => r = pShape P ∧ M' = M)) C hr hd hp
  show WL x G (AA G sz) 4 0 0 (xQ x (va_Qi (fun (r : Int32) (M' : Mem) => r = pShape P ∧ M' = M) (WE G) (AA G sz)) (AA G sz)) M 0 [(0, .ref (G.2.2.1 232))] []
  generalize (xQ x (va_Qi (fun (r : Int32) (M' : Mem) => r = pShape P ∧ M' = M) (WE G) (AA G sz)) (AA G sz)) = QQ at hret ⊢
  have h7 := hB.2.1
  have h3 := hS.1
  have h0 : 0 < P.1 := by omega
  refine wl_aload_n C 0 dX5_badCorner_0 rfl rfl ?_
  refine wl_bipush (v := nI 8) C dX5_badCorner_1 (by decide) ?_
  refine wl_callVp (i := 232) (n := 1) C [.int (nI 8)] [] (c_X5_corners _ G M 8 P (by decide) hB) gX5_badCorner_X5_corners rfl (by decide +kernel) (by decide) (by decide) (kd_lt (k := 5) (by decide) (by decide)) (cell_k (k := 5) (by decide)) rfl rfl rfl (Nat.le_of_ble_eq_true rfl) dX5_badCorner_3 ?_
  refine wl_istore_n (L' := [(1, .int (nI P.1)), (0, .ref (G.2.2.1 232))]) C dX5_badCorner_6 rfl (by decide) rfl ?_
  refine wl_iconst (v := smT (rdF P) 0) C dX5_badCorner_7 (by first | decide | rfl) ?_
  refine wl_istore_n (L' := [(2, .int (smT (rdF P) 0)), (1, .int (nI P.1)), (0, .ref (G.2.2.1 232))]) C dX5_badCorner_8 rfl (by decide) rfl ?_
  refine wl_iconst (v := nI 0) C dX5_badCorner_9 (by first | decide | rfl) ?_
  refine wl_istore_n (L' := [(3, .int (nI 0)), (2, .int (smT (rdF P) 0)), (1, .int (nI P.1)), (0, .ref (G.2.2.1 232))]) C dX5_badCorner_10 rfl (by decide) rfl ?_
  have h11 : ∀ k, k ≤ P.1 → anT (fun k => decide (pTurn P k ≤ 0)) k = false → WL x G (AA G sz) 4 0 0 QQ M 11 [(0, .ref (G.2.2.1 232)), (1, .int (nI P.1)), (2, .int (smT (rdF P) k)), (3, .int (nI k))] [] := by
    refine up_loop P.1 _ ?_
    intro k hk ih hI
    refine wl_iload_n C 3 dX5_badCorner_11 rfl rfl ?_
    refine wl_iload_n C 1 dX5_badCorner_12 rfl rfl ?_
    refine wl_icmp_geN C (a := k) (b := P.1) (by omega) (by omega) 71 dX5_badCorner_13 (by decide) (fun c_13 => ?_) (fun c_13 => ?_)
    · refine wl_iload_n C 2 dX5_badCorner_71 rfl rfl ?_
      refine wl_iconst (v := 1) C dX5_badCorner_72 (by decide) ?_
      refine wl_icmp_le C 80 dX5_badCorner_73 (by decide) (fun c_73 => ?_) (fun c_73 => ?_)
      · refine wl_iconst (v := (-1)) C dX5_badCorner_80 (by decide) ?_
        exact hret _ 81 _ (-1) dX5_badCorner_81 (⟨by unfold pShape; rw [fsT_none.mpr (by rw [show P.1 = k by omega]; exact hI)]; simp only []; rw [← rd_rounds h0, show P.1 = k by omega, if_pos c_73], rfl⟩)
      · refine wl_iload_n C 1 dX5_badCorner_76 rfl rfl ?_
        refine wl_goto C 81 dX5_badCorner_77 (by decide) ?_
        exact hret _ 81 _ (nI P.1) dX5_badCorner_81 (⟨by unfold pShape; rw [fsT_none.mpr (by rw [show P.1 = k by omega]; exact hI)]; simp only []; rw [← rd_rounds h0, show P.1 = k by omega, if_neg c_73], rfl⟩)
    · refine wl_aload_n C 0 dX5_badCorner_16 rfl rfl ?_
      refine wl_bipush (v := nI 8) C dX5_badCorner_17 (by decide) ?_
      refine wl_iload_n C 3 dX5_badCorner_19 rfl rfl ?_
      refine wl_iload_n C 1 dX5_badCorner_20 rfl rfl ?_
      refine wl_iadd C dX5_badCorner_21 ?_
      refine wl_eqi (b := nI (k + P.1)) (nI_add _ _) ?_
      refine wl_iconst (v := 1) C dX5_badCorner_22 (by decide) ?_
      refine wl_isub C dX5_badCorner_23 ?_
      refine wl_eqi (b := nI (k + P.1 - 1)) (nI_sub1 (by omega)) ?_
      refine wl_bipush (v := nI 8) C dX5_badCorner_24 (by decide) ?_
      refine wl_iload_n C 3 dX5_badCorner_26 rfl rfl ?_
      refine wl_iconst (v := 1) C dX5_badCorner_27 (by decide) ?_
      refine wl_iadd C dX5_badCorner_28 ?_
      refine wl_eqi (b := nI (k + 1)) (nI_1 k) ?_
      refine wl_callVp (i := 232) (n := 4) C [.int (nI 8), .int (nI (k + P.1 - 1)), .int (nI 8), .int (nI (k + 1))] [] (c_X5_side _ G M 8 8 P P (by decide) (by decide) hB hB h0 h0 (k + P.1 - 1) (k + 1) (by omega) (by omega)) gX5_badCorner_X5_side rfl (by decide +kernel) (by decide) (by decide) (kd_lt (k := 5) (by decide) (by decide)) (cell_k (k := 5) (by decide)) rfl rfl rfl (Nat.le_of_ble_eq_true rfl) dX5_badCorner_29 ?_
      refine wl_eqi (b := pTurn P k) (sd_turn (by omega)) ?_
      refine wl_if_gt C 37 dX5_badCorner_32 (by decide) (fun c_32 => ?_) (fun c_32 => ?_)
      · refine wl_iload_n C 2 dX5_badCorner_37 rfl rfl ?_
        refine wl_aload_n C 0 dX5_badCorner_38 rfl rfl ?_
        refine wl_iload_n C 3 dX5_badCorner_39 rfl rfl ?_
        refine wl_callVp (i := 232) (n := 1) C [.int (nI k)] [.int (smT (rdF P) k)] (c_X5_goesUp _ G M P hB h0 k (by omega)) gX5_badCorner_X5_goesUp rfl (by decide +kernel) (by decide) (by decide) (kd_lt (k := 5) (by decide) (by decide)) (cell_k (k := 5) (by decide)) rfl rfl rfl (Nat.le_of_ble_eq_true rfl) dX5_badCorner_40 ?_
        refine wl_eqi (b := bi (pUp P k)) (by rw [gu_up hS (by omega)]) ?_
        suffices hJ43 : WL x G (AA G sz) 4 0 0 QQ M 63 [(0, .ref (G.2.2.1 232)), (1, .int (nI P.1)), (2, .int (smT (rdF P) k)), (3, .int (nI k))] [.int (if (pUp P k) = true then if (pUp P (pv P.1 k)) = true then (0 : Int32) else (1 : Int32) else (0 : Int32)), .int (smT (rdF P) k)] by
          refine wl_if_eqB C 62 dX5_badCorner_43 (by decide) (fun c_43 => ?_) (fun c_43 => ?_)
          · rw [if_neg (by rw [c_43]; exact Bool.false_ne_true)] at hJ43
            refine wl_iconst (v := 0) C dX5_badCorner_62 (by decide) ?_
            exact hJ43
          · rw [if_pos c_43] at hJ43
            refine wl_aload_n C 0 dX5_badCorner_46 rfl rfl ?_
            refine wl_iload_n C 3 dX5_badCorner_47 rfl rfl ?_
            refine wl_iload_n C 1 dX5_badCorner_48 rfl rfl ?_
            refine wl_iadd C dX5_badCorner_49 ?_
            refine wl_eqi (b := nI (k + P.1)) (nI_add _ _) ?_
            refine wl_iconst (v := 1) C dX5_badCorner_50 (by decide) ?_
            refine wl_isub C dX5_badCorner_51 ?_
            refine wl_eqi (b := nI (k + P.1 - 1)) (nI_sub1 (by omega)) ?_
            refine wl_callVp (i := 232) (n := 1) C [.int (nI (k + P.1 - 1))] [.int (smT (rdF P) k)] (c_X5_goesUp _ G M P hB h0 (k + P.1 - 1) (by omega)) gX5_badCorner_X5_goesUp rfl (by decide +kernel) (by decide) (by decide) (kd_lt (k := 5) (by decide) (by decide)) (cell_k (k := 5) (by decide)) rfl rfl rfl (Nat.le_of_ble_eq_true rfl) dX5_badCorner_52 ?_
            refine wl_eqi (b := bi (pUp P (pv P.1 k))) (by rw [gu_mod (by omega), gu_up hS (pv_lt (by omega))]) ?_
            suffices hJ55 : WL x G (AA G sz) 4 0 0 QQ M 63 [(0, .ref (G.2.2.1 232)), (1, .int (nI P.1)), (2, .int (smT (rdF P) k)), (3, .int (nI k))] [.int (if (pUp P (pv P.1 k)) = true then (0 : Int32) else (1 : Int32)), .int (smT (rdF P) k)] by
              refine wl_if_neB C 62 dX5_badCorner_55 (by decide) (fun c_55 => ?_) (fun c_55 => ?_)
              · rw [if_pos c_55] at hJ55
                refine wl_iconst (v := 0) C dX5_badCorner_62 (by decide) ?_
                exact hJ55
              · rw [if_neg (by rw [c_55]; exact Bool.false_ne_true)] at hJ55
                refine wl_iconst (v := 1) C dX5_badCorner_58 (by decide) ?_
                refine wl_goto C 63 dX5_badCorner_59 (by decide) ?_
                exact hJ55
            exact hJ43
        refine wl_eqi (b := rdF P k) (rdF_val) ?_
        refine wl_iadd C dX5_badCorner_63 ?_
        refine wl_eqi (b := smT (rdF P) (k + 1)) (rfl) ?_
        refine wl_istore_n (L' := [(2, .int (smT (rdF P) (k + 1))), (0, .ref (G.2.2.1 232)), (1, .int (nI P.1)), (3, .int (nI k))]) C dX5_badCorner_64 rfl (by decide) rfl ?_
        refine wl_iinc1 (k := k) (L' := [(3, .int (nI (k + 1))), (2, .int (smT (rdF P) (k + 1))), (0, .ref (G.2.2.1 232)), (1, .int (nI P.1))]) C 3 dX5_badCorner_65 rfl (by decide) rfl ?_
        refine wl_goto C 11 dX5_badCorner_68 (by decide) ?_
        refine wl_sub (L' := [(0, .ref (G.2.2.1 232)), (1, .int (nI P.1)), (2, .int (smT (rdF P) (k + 1))), (3, .int (nI (k + 1)))]) [2, 3, 1, 0] rfl ?_
        exact ih (by omega) (by simp only [anT, hI, Bool.false_or]; exact decide_eq_false (Int32.not_le.mpr c_32))
      · refine wl_iload_n C 3 dX5_badCorner_35 rfl rfl ?_
        exact hret _ 36 _ (nI k) dX5_badCorner_36 (⟨by unfold pShape; rw [fsT_first hI (decide_eq_true (Int32.not_lt.mp c_32)) (by omega)], rfl⟩)
  refine wl_sub (L' := [(0, .ref (G.2.2.1 232)), (1, .int (nI P.1)), (2, .int (smT (rdF P) 0)), (3, .int (nI 0))]) [3, 2, 1, 0] rfl ?_
  exact h11 0 (Nat.zero_le _) rfl
set_option maxHeartbeats 4000000 in
set_option maxRecDepth 100000 in
theorem c_X5_notes (l : Launch) (G : Gw) (M : Mem) (a1 a2 a3 : Int32) : Ci l G yX5_notes wsX5_notes 0 0 [.ref (G.2.2.1 232), .int a1, .int a2, .int a3] M (fun r M' => r = 1 ∧ M' = mset (mset (mset M 232 7 a1) 232 8 a2) 232 9 a3) := by
  refine Ci.of (cc := cX5_notes) (maxL := 4) (ret := (some .boolean)) (by decide +kernel) rfl (Nat.le_of_ble_eq_true rfl) ?_
  intro x sz hl0 hr C
  subst hl0
  have C : CX x G (AA G sz) RX5 cX5_notes 4 wsX5_notes 0 0 0 0 := C
  have hret : ∀ (M0 : Mem) (pc0 : Nat) (L0 : List (Nat × Value)) (rv0 : Int32), narrow .boolean (.int rv0) = .int rv0 → decode cX5_notes pc0 = .ok (.ireturn, 1) → (fun r M' => r = 1 ∧ M' = mset (mset (mset M 232 7 a1) 232 8 a2) 232 9 a3) rv0 M0 → WL x G (AA G sz) 4 0 0 (xQ x (va_Qi (fun r M' => r = 1 ∧ M' = mset (mset (mset M 232 7 a1) 232 8 a2) 232 9 a3) (WE G) (AA G sz)) (AA G sz)) M0 pc0 L0 [.int rv0] := fun M0 pc0 L0 rv0 hn hd hp => wl_zret (post := (fun r M' => r = 1 ∧ M' = mset (mset (mset M 232 7 a1) 232 8 a2) 232 9 a3)) C hr hn hd hp
  show WL x G (AA G sz) 4 0 0 (xQ x (va_Qi (fun r M' => r = 1 ∧ M' = mset (mset (mset M 232 7 a1) 232 8 a2) 232 9 a3) (WE G) (AA G sz)) (AA G sz)) M 0 [(0, .ref (G.2.2.1 232)), (1, .int a1), (2, .int a2), (3, .int a3)] []
  generalize (xQ x (va_Qi (fun r M' => r = 1 ∧ M' = mset (mset (mset M 232 7 a1) 232 8 a2) 232 9 a3) (WE G) (AA G sz)) (AA G sz)) = QQ at hret ⊢
  have in5 : ∀ w ∈ wsX50, w ∈ wsX5_notes := by decide +kernel
  have fl211 : Jvm.Cond.fieldLink RX5 211 "JammedBodiesModel" "faultAt" "I" ∈ wsX5_notes := by decide +kernel
  have fl214 : Jvm.Cond.fieldLink RX5 214 "JammedBodiesModel" "faultWhy" "I" ∈ wsX5_notes := by decide +kernel
  have fl217 : Jvm.Cond.fieldLink RX5 217 "JammedBodiesModel" "faultCause" "I" ∈ wsX5_notes := by decide +kernel
  refine wl_aload_n C 0 dX5_notes_0 rfl rfl ?_
  refine wl_iload_n C 1 dX5_notes_1 rfl rfl ?_
  refine wl_put_Model_faultAt (i := 232) C (by decide) in5 fl211 dX5_notes_2 ?_
  refine wl_aload_n C 0 dX5_notes_5 rfl rfl ?_
  refine wl_iload_n C 2 dX5_notes_6 rfl rfl ?_
  refine wl_put_Model_faultWhy (i := 232) C (by decide) in5 fl214 dX5_notes_7 ?_
  refine wl_aload_n C 0 dX5_notes_10 rfl rfl ?_
  refine wl_iload_n C 3 dX5_notes_11 rfl rfl ?_
  refine wl_put_Model_faultCause (i := 232) C (by decide) in5 fl217 dX5_notes_12 ?_
  refine wl_iconst (v := 1) C dX5_notes_15 (by decide) ?_
  exact hret _ 16 _ 1 (rfl) dX5_notes_16 (⟨rfl, rfl⟩)
set_option maxHeartbeats 4000000 in
set_option maxRecDepth 100000 in
theorem c_X5_hasFault (l : Launch) (G : Gw) (M : Mem) (T : Tx) (s : St) (hs : PkM (M 233) s) (hW : WfS s) (hT : TxR M T) (hok : TxOk T) : Ci l G yX5_hasFault wsX5_hasFault 7 164 [.ref (G.2.2.1 232)] M (fun r M' => r = bi (decide (¬ (fltT T s).2.1 = 0)) ∧ OnT M M' ∧ (¬ (fltT T s).2.1 = 0 → M' 232 7 = (fltT T s).1 ∧ M' 232 8 = (fltT T s).2.1 ∧ M' 232 9 = (fltT T s).2.2) ∧ ((fltT T s).2.1 = 0 → BdM (M' 233) 8 (polyT T))) := by
  refine Ci.of (cc := cX5_hasFault) (maxL := 5) (ret := (some .boolean)) (by decide +kernel) rfl (Nat.le_of_ble_eq_true rfl) ?_
  intro x sz hl0 hr C
  subst hl0
  have C : CX x G (AA G sz) RX5 cX5_hasFault 5 wsX5_hasFault 7 164 0 0 := C
  have hret : ∀ (M0 : Mem) (pc0 : Nat) (L0 : List (Nat × Value)) (rv0 : Int32), narrow .boolean (.int rv0) = .int rv0 → decode cX5_hasFault pc0 = .ok (.ireturn, 1) → (fun r M' => r = bi (decide (¬ (fltT T s).2.1 = 0)) ∧ OnT M M' ∧ (¬ (fltT T s).2.1 = 0 → M' 232 7 = (fltT T s).1 ∧ M' 232 8 = (fltT T s).2.1 ∧ M' 232 9 = (fltT T s).2.2) ∧ ((fltT T s).2.1 = 0 → BdM (M' 233) 8 (polyT T))) rv0 M0 → WL x G (AA G sz) 5 0 0 (xQ x (va_Qi (fun r M' => r = bi (decide (¬ (fltT T s).2.1 = 0)) ∧ OnT M M' ∧ (¬ (fltT T s).2.1 = 0 → M' 232 7 = (fltT T s).1 ∧ M' 232 8 = (fltT T s).2.1 ∧ M' 232 9 = (fltT T s).2.2) ∧ ((fltT T s).2.1 = 0 → BdM (M' 233) 8 (polyT T))) (WE G) (AA G sz)) (AA G sz)) M0 pc0 L0 [.int rv0] := fun M0 pc0 L0 rv0 hn hd hp => wl_zret (post := (fun r M' => r = bi (decide (¬ (fltT T s).2.1 = 0)) ∧ OnT M M' ∧ (¬ (fltT T s).2.1 = 0 → M' 232 7 = (fltT T s).1 ∧ M' 232 8 = (fltT T s).2.1 ∧ M' 232 9 = (fltT T s).2.2) ∧ ((fltT T s).2.1 = 0 → BdM (M' 233) 8 (polyT T)))) C hr hn hd hp
  show WL x G (AA G sz) 5 0 0 (xQ x (va_Qi (fun r M' => r = bi (decide (¬ (fltT T s).2.1 = 0)) ∧ OnT M M' ∧ (¬ (fltT T s).2.1 = 0 → M' 232 7 = (fltT T s).1 ∧ M' 232 8 = (fltT T s).2.1 ∧ M' 232 9 = (fltT T s).2.2) ∧ ((fltT T s).2.1 = 0 → BdM (M' 233) 8 (polyT T))) (WE G) (AA G sz)) (AA G sz)) M 0 [(0, .ref (G.2.2.1 232))] []
  generalize (xQ x (va_Qi (fun r M' => r = bi (decide (¬ (fltT T s).2.1 = 0)) ∧ OnT M M' ∧ (¬ (fltT T s).2.1 = 0 → M' 232 7 = (fltT T s).1 ∧ M' 232 8 = (fltT T s).2.1 ∧ M' 232 9 = (fltT T s).2.2) ∧ ((fltT T s).2.1 = 0 → BdM (M' 233) 8 (polyT T))) (WE G) (AA G sz)) (AA G sz)) = QQ at hret ⊢
  have in5 : ∀ w ∈ wsX50, w ∈ wsX5_hasFault := by decide +kernel
  have fl195 : Jvm.Cond.fieldLink RX5 195 "JammedBodiesModel" "spot" "I" ∈ wsX5_hasFault := by decide +kernel
  have h8 := hs.r
  refine wl_aload_n C 0 dX5_hasFault_0 rfl rfl ?_
  refine wl_callVi (i := 232) (n := 0) C [] [] (c_X5_reads _ G M T hT hok) gX5_hasFault_X5_reads rfl (by decide +kernel) (by decide) (by decide) (kd_lt (k := 5) (by decide) (by decide)) (cell_k (k := 5) (by decide)) rfl rfl rfl (Nat.le_of_ble_eq_true rfl) dX5_hasFault_1 (fun r1 M1 e1 => ?_)
  obtain ⟨q1, p1, o1, b1⟩ := e1
  subst q1
  have s1 : PkM (M1 233) s := hs.onT o1
  refine wl_if_neB C 18 dX5_hasFault_4 (by decide) (fun c_4 => ?_) (fun c_4 => ?_)
  · have fo := formT_ok c_4
    have o6 : ∀ j, pOut (polyT T) s.2.1 s.2.2.1 = some j → j < 2 ^ 31 := fun j hj => by have := (fsT_some hj).1; omega
    refine wl_aload_n C 0 dX5_hasFault_18 rfl rfl ?_
    refine wl_callVp (i := 232) (n := 0) C [] [] (c_X5_cornerOutside _ G M1 (polyT T) (b1 c_4) (by have := fo.1; omega) s.2.1 s.2.2.1 s1.1 s1.2.1) gX5_hasFault_X5_cornerOutside rfl (by decide +kernel) (by decide) (by decide) (kd_lt (k := 5) (by decide) (by decide)) (cell_k (k := 5) (by decide)) rfl rfl rfl (Nat.le_of_ble_eq_true rfl) dX5_hasFault_19 ?_
    refine wl_istore_n (L' := [(1, .int (opI (pOut (polyT T) s.2.1 s.2.2.1))), (0, .ref (G.2.2.1 232))]) C dX5_hasFault_22 rfl (by decide) rfl ?_
    refine wl_iload_n C 0 dX5_hasFault_23 rfl rfl ?_
    refine wl_iconst (v := (-1)) C dX5_hasFault_24 (by decide) ?_
    refine wl_icmp_eq C 36 dX5_hasFault_25 (by decide) (fun c_25 => ?_) (fun c_25 => ?_)
    · have on := (opI_ne1 o6).mp c_25
      have wfp := polyT_wf c_4 on
      refine wl_aload_n C 1 dX5_hasFault_36 rfl rfl ?_
      refine wl_callVp (i := 232) (n := 0) C [] [] (c_X5_badCorner _ G M1 (polyT T) (b1 c_4) (wfp.smal hW.1)) gX5_hasFault_X5_badCorner rfl (by decide +kernel) (by decide) (by decide) (kd_lt (k := 5) (by decide) (by decide)) (cell_k (k := 5) (by decide)) rfl rfl rfl (Nat.le_of_ble_eq_true rfl) dX5_hasFault_37 ?_
      refine wl_istore_n (L' := [(2, .int (pShape (polyT T))), (1, .int (opI (pOut (polyT T) s.2.1 s.2.2.1))), (0, .ref (G.2.2.1 232))]) C dX5_hasFault_40 rfl (by decide) rfl ?_
      refine wl_iload_n C 0 dX5_hasFault_41 rfl rfl ?_
      refine wl_iconst (v := (-1)) C dX5_hasFault_42 (by decide) ?_
      refine wl_icmp_eq C 54 dX5_hasFault_43 (by decide) (fun c_43 => ?_) (fun c_43 => ?_)
      · refine wl_aload_n C 2 dX5_hasFault_54 rfl rfl ?_
        refine wl_bipush (v := nI 8) C dX5_hasFault_55 (by decide) ?_
        refine wl_callVp (i := 232) (n := 1) C [.int (nI 8)] [] (c_X5_overlapped _ G M1 s 8 (polyT T) (s1.X 8) (by decide) (b1 c_4) (by have := fo.1; omega) (fun j hj => by have := (hW.2 j hj).1; omega)) gX5_hasFault_X5_overlapped rfl (by decide +kernel) (by decide) (by decide) (kd_lt (k := 5) (by decide) (by decide)) (cell_k (k := 5) (by decide)) rfl rfl rfl (Nat.le_of_ble_eq_true rfl) dX5_hasFault_57 ?_
        refine wl_eqi (b := ovS s (polyT T) (-1)) (ovS_8 h8) ?_
        refine wl_istore_n (L' := [(3, .int (ovS s (polyT T) (-1))), (2, .int (pShape (polyT T))), (1, .int (opI (pOut (polyT T) s.2.1 s.2.2.1))), (0, .ref (G.2.2.1 232))]) C dX5_hasFault_60 rfl (by decide) rfl ?_
        refine wl_iconst (v := nI 0) C dX5_hasFault_61 (by first | decide | rfl) ?_
        refine wl_istore (L' := [(4, .int (nI 0)), (3, .int (ovS s (polyT T) (-1))), (2, .int (pShape (polyT T))), (1, .int (opI (pOut (polyT T) s.2.1 s.2.2.1))), (0, .ref (G.2.2.1 232))]) C dX5_hasFault_62 (by decide) rfl ?_
        have h64 : ∀ i, i ≤ s.1 → anT (ovF s (polyT T) (-1)) i = false → WL x G (AA G sz) 5 0 0 QQ M1 64 [(0, .ref (G.2.2.1 232)), (3, .int (ovS s (polyT T) (-1))), (4, .int (nI i))] [] := by
          refine up_loop s.1 _ ?_
          intro i hi1 ih hI
          refine wl_iload_n C 1 dX5_hasFault_64 rfl rfl ?_
          refine wl_if_eq C 83 dX5_hasFault_65 (by decide) (fun c_65 => ?_) (fun c_65 => ?_)
          · refine wl_iload_n C 1 dX5_hasFault_83 rfl rfl ?_
            refine wl_if_eq C 102 dX5_hasFault_84 (by decide) (fun c_84 => ?_) (fun c_84 => ?_)
            · refine wl_iconst (v := 0) C dX5_hasFault_102 (by decide) ?_
              exact hret _ 103 _ 0 (rfl) dX5_hasFault_103 (by (have e : fltT T s = (0, 0, 0) := (by unfold fltT; rw [if_neg (by rw [c_4]; decide)]; simp only [on]; rw [if_pos ((shp_neg fo.2.1).mpr c_43), if_pos c_84])); rw [e]; exact ⟨rfl, o1, fun z => absurd rfl z, fun _ => b1 c_4⟩)
            · refine wl_aload_n C 0 dX5_hasFault_87 rfl rfl ?_
              refine wl_iconst (v := 0) C dX5_hasFault_88 (by decide) ?_
              refine wl_iconst (v := 4) C dX5_hasFault_89 (by decide) ?_
              refine wl_iload C 2 dX5_hasFault_90 rfl ?_
              refine wl_callVi (i := 232) (n := 3) C [.int 0, .int 4, .int (nI i)] [] (c_X5_notes _ G M1 0 4 (nI i)) gX5_hasFault_X5_notes rfl (by decide +kernel) (by decide) (by decide) (kd_lt (k := 5) (by decide) (by decide)) (cell_k (k := 5) (by decide)) rfl rfl rfl (Nat.le_of_ble_eq_true rfl) dX5_hasFault_92 (fun r2 M2 en => ?_)
              obtain ⟨qn, pn⟩ := en
              subst qn
              refine wl_if_eq C 102 dX5_hasFault_95 (by decide) (fun c_95 => absurd c_95 (by decide)) (fun c_95 => ?_)
              refine wl_iconst (v := 1) C dX5_hasFault_98 (by decide) ?_
              refine wl_goto C 103 dX5_hasFault_99 (by decide) ?_
              exact hret _ 103 _ 1 (rfl) dX5_hasFault_103 (by first | exact absurd c_65 c_84 | ((have e : fltT T s = (0, 4, nI i) := (by unfold fltT; rw [if_neg (by rw [c_4]; decide)]; simp only [on]; rw [if_pos ((shp_neg fo.2.1).mpr c_43), if_neg c_84, show loT (ovS s (polyT T) (-1)) = i from lo_at h8 hi hI c_74])); rw [e]; exact hf_end o1 pn (show ¬ (4 : Int32) = 0 by decide)))
          · have hi := ov_lt hi1 c_65 hI h8
            refine wl_iload_n C 1 dX5_hasFault_68 rfl rfl ?_
            refine wl_iload C 2 dX5_hasFault_69 rfl ?_
            refine wl_ishr C dX5_hasFault_71 ?_
            refine wl_iconst (v := 1) C dX5_hasFault_72 (by decide) ?_
            refine wl_iand C dX5_hasFault_73 ?_
            refine wl_eqi (b := bi (ovF s (polyT T) (-1) i)) (bsT_shr h8 hi) ?_
            refine wl_if_neB C 83 dX5_hasFault_74 (by decide) (fun c_74 => ?_) (fun c_74 => ?_)
            · refine wl_iload_n C 1 dX5_hasFault_83 rfl rfl ?_
              refine wl_if_eq C 102 dX5_hasFault_84 (by decide) (fun c_84 => ?_) (fun c_84 => ?_)
              · refine wl_iconst (v := 0) C dX5_hasFault_102 (by decide) ?_
                exact hret _ 103 _ 0 (rfl) dX5_hasFault_103 (by (have e : fltT T s = (0, 0, 0) := (by unfold fltT; rw [if_neg (by rw [c_4]; decide)]; simp only [on]; rw [if_pos ((shp_neg fo.2.1).mpr c_43), if_pos c_84])); rw [e]; exact ⟨rfl, o1, fun z => absurd rfl z, fun _ => b1 c_4⟩)
              · refine wl_aload_n C 0 dX5_hasFault_87 rfl rfl ?_
                refine wl_iconst (v := 0) C dX5_hasFault_88 (by decide) ?_
                refine wl_iconst (v := 4) C dX5_hasFault_89 (by decide) ?_
                refine wl_iload C 2 dX5_hasFault_90 rfl ?_
                refine wl_callVi (i := 232) (n := 3) C [.int 0, .int 4, .int (nI i)] [] (c_X5_notes _ G M1 0 4 (nI i)) gX5_hasFault_X5_notes rfl (by decide +kernel) (by decide) (by decide) (kd_lt (k := 5) (by decide) (by decide)) (cell_k (k := 5) (by decide)) rfl rfl rfl (Nat.le_of_ble_eq_true rfl) dX5_hasFault_92 (fun r2 M2 en => ?_)
                obtain ⟨qn, pn⟩ := en
                subst qn
                refine wl_if_eq C 102 dX5_hasFault_95 (by decide) (fun c_95 => absurd c_95 (by decide)) (fun c_95 => ?_)
                refine wl_iconst (v := 1) C dX5_hasFault_98 (by decide) ?_
                refine wl_goto C 103 dX5_hasFault_99 (by decide) ?_
                exact hret _ 103 _ 1 (rfl) dX5_hasFault_103 (by first | exact absurd c_65 c_84 | ((have e : fltT T s = (0, 4, nI i) := (by unfold fltT; rw [if_neg (by rw [c_4]; decide)]; simp only [on]; rw [if_pos ((shp_neg fo.2.1).mpr c_43), if_neg c_84, show loT (ovS s (polyT T) (-1)) = i from lo_at h8 hi hI c_74])); rw [e]; exact hf_end o1 pn (show ¬ (4 : Int32) = 0 by decide)))
            · refine wl_iinc1 (k := i) (L' := [(4, .int (nI (i + 1))), (0, .ref (G.2.2.1 232)), (3, .int (ovS s (polyT T) (-1)))]) C 2 dX5_hasFault_77 rfl (by decide) rfl ?_
              refine wl_goto C 64 dX5_hasFault_80 (by decide) ?_
              refine wl_sub (L' := [(0, .ref (G.2.2.1 232)), (3, .int (ovS s (polyT T) (-1))), (4, .int (nI (i + 1)))]) [1, 2, 0] rfl ?_
              exact ih hi (by simp only [anT, hI, Bool.false_or]; exact c_74)
        refine wl_sub (L' := [(0, .ref (G.2.2.1 232)), (3, .int (ovS s (polyT T) (-1))), (4, .int (nI 0))]) [4, 1, 0] rfl ?_
        exact h64 0 (Nat.zero_le _) rfl
      · refine wl_aload_n C 2 dX5_hasFault_46 rfl rfl ?_
        refine wl_iconst (v := 0) C dX5_hasFault_47 (by decide) ?_
        refine wl_iconst (v := 3) C dX5_hasFault_48 (by decide) ?_
        refine wl_iload_n C 0 dX5_hasFault_49 rfl rfl ?_
        refine wl_callVi (i := 232) (n := 3) C [.int 0, .int 3, .int (pShape (polyT T))] [] (c_X5_notes _ G M1 0 3 (pShape (polyT T))) gX5_hasFault_X5_notes rfl (by decide +kernel) (by decide) (by decide) (kd_lt (k := 5) (by decide) (by decide)) (cell_k (k := 5) (by decide)) rfl rfl rfl (Nat.le_of_ble_eq_true rfl) dX5_hasFault_50 (fun r2 M2 en => ?_)
        obtain ⟨qn, pn⟩ := en
        subst qn
        exact hret _ 53 _ 1 (rfl) dX5_hasFault_53 (by (have e : fltT T s = (0, 3, pShape (polyT T)) := (by unfold fltT; rw [if_neg (by rw [c_4]; decide)]; simp only [on]; rw [if_neg (fun z => c_43 ((shp_neg fo.2.1).mp z))])); rw [e]; exact hf_end o1 pn (show ¬ (3 : Int32) = 0 by decide))
    · obtain ⟨j, hj⟩ := sep_ex c_25
      refine wl_aload_n C 1 dX5_hasFault_28 rfl rfl ?_
      refine wl_iconst (v := 0) C dX5_hasFault_29 (by decide) ?_
      refine wl_iconst (v := 2) C dX5_hasFault_30 (by decide) ?_
      refine wl_iload_n C 0 dX5_hasFault_31 rfl rfl ?_
      refine wl_callVi (i := 232) (n := 3) C [.int 0, .int 2, .int (opI (pOut (polyT T) s.2.1 s.2.2.1))] [] (c_X5_notes _ G M1 0 2 (opI (pOut (polyT T) s.2.1 s.2.2.1))) gX5_hasFault_X5_notes rfl (by decide +kernel) (by decide) (by decide) (kd_lt (k := 5) (by decide) (by decide)) (cell_k (k := 5) (by decide)) rfl rfl rfl (Nat.le_of_ble_eq_true rfl) dX5_hasFault_32 (fun r2 M2 en => ?_)
      obtain ⟨qn, pn⟩ := en
      subst qn
      exact hret _ 35 _ 1 (rfl) dX5_hasFault_35 (by (have e : fltT T s = (0, 2, opI (pOut (polyT T) s.2.1 s.2.2.1)) := (by unfold fltT; rw [if_neg (by rw [c_4]; decide), hj]; rfl)); rw [e]; exact hf_end o1 pn (show ¬ (2 : Int32) = 0 by decide))
  · refine wl_aload_n C 0 dX5_hasFault_7 rfl rfl ?_
    refine wl_aload_n C 0 dX5_hasFault_8 rfl rfl ?_
    refine wl_get_Model_spot (i := 232) (v := nI (formT T).2.1) C (by decide) in5 fl195 p1 dX5_hasFault_9 ?_
    refine wl_iconst (v := 1) C dX5_hasFault_12 (by decide) ?_
    refine wl_iconst (v := 0) C dX5_hasFault_13 (by decide) ?_
    refine wl_callVi (i := 232) (n := 3) C [.int (nI (formT T).2.1), .int 1, .int 0] [] (c_X5_notes _ G M1 (nI (formT T).2.1) 1 0) gX5_hasFault_X5_notes rfl (by decide +kernel) (by decide) (by decide) (kd_lt (k := 5) (by decide) (by decide)) (cell_k (k := 5) (by decide)) rfl rfl rfl (Nat.le_of_ble_eq_true rfl) dX5_hasFault_14 (fun r2 M2 en => ?_)
    obtain ⟨qn, pn⟩ := en
    subst qn
    exact hret _ 17 _ 1 (rfl) dX5_hasFault_17 (by (have e : fltT T s = (nI (formT T).2.1, 1, 0) := (by unfold fltT; rw [if_pos c_4])); rw [e]; exact hf_end o1 pn (show ¬ (1 : Int32) = 0 by decide))
set_option maxHeartbeats 4000000 in
set_option maxRecDepth 100000 in
theorem c_X5_put (l : Launch) (G : Gw) (M : Mem) (σ : Sy) (hR : RM M σ) (hO : OkY σ) : Ci l G yX5_put wsX5_put 8 188 [.ref (G.2.2.1 232)] M (fun r M' => r = (putY σ).1 ∧ RM M' (putY σ).2 ∧ FrM M M') := by
  refine Ci.of (cc := cX5_put) (maxL := 1) (ret := (some .int)) (by decide +kernel) rfl (Nat.le_of_ble_eq_true rfl) ?_
  intro x sz hl0 hr C
  subst hl0
  have C : CX x G (AA G sz) RX5 cX5_put 1 wsX5_put 8 188 0 0 := C
  have hret : ∀ (M0 : Mem) (pc0 : Nat) (L0 : List (Nat × Value)) (rv0 : Int32), decode cX5_put pc0 = .ok (.ireturn, 1) → (fun r M' => r = (putY σ).1 ∧ RM M' (putY σ).2 ∧ FrM M M') rv0 M0 → WL x G (AA G sz) 1 0 0 (xQ x (va_Qi (fun r M' => r = (putY σ).1 ∧ RM M' (putY σ).2 ∧ FrM M M') (WE G) (AA G sz)) (AA G sz)) M0 pc0 L0 [.int rv0] := fun M0 pc0 L0 rv0 hd hp => wl_iret (post := (fun r M' => r = (putY σ).1 ∧ RM M' (putY σ).2 ∧ FrM M M')) C hr hd hp
  show WL x G (AA G sz) 1 0 0 (xQ x (va_Qi (fun r M' => r = (putY σ).1 ∧ RM M' (putY σ).2 ∧ FrM M M') (WE G) (AA G sz)) (AA G sz)) M 0 [(0, .ref (G.2.2.1 232))] []
  generalize (xQ x (va_Qi (fun r M' => r = (putY σ).1 ∧ RM M' (putY σ).2 ∧ FrM M M') (WE G) (AA G sz)) (AA G sz)) = QQ at hret ⊢
  have in5 : ∀ w ∈ wsX50, w ∈ wsX5_put := by decide +kernel
  have fl7 : Jvm.Cond.fieldLink RX5 7 "JammedBodiesModel" "all" "[I" ∈ wsX5_put := by decide +kernel
  have cn132 : Jvm.Cond.constant RX5 132 (-1000003) ∈ wsX5_put := by decide +kernel
  have cn121 : Jvm.Cond.constant RX5 121 (-1000002) ∈ wsX5_put := by decide +kernel
  have hs := hR.1
  have hW := hO.1.1
  have h8 := hs.r
  refine wl_aload_n C 0 dX5_put_0 rfl rfl ?_
  refine wl_callVi (i := 232) (n := 0) C [] [] (c_X5_hasFault _ G M σ.2.2.2 σ.1 hs hW hR.2.2 hO.2.2) gX5_put_X5_hasFault rfl (by decide +kernel) (by decide) (by decide) (kd_lt (k := 5) (by decide) (by decide)) (cell_k (k := 5) (by decide)) rfl rfl rfl (Nat.le_of_ble_eq_true rfl) dX5_put_1 (fun r1 Ma ea => ?_)
  obtain ⟨qa, oa, na, ba⟩ := ea
  subst qa
  have tx : RM Ma σ := hR.onT oa
  refine wl_if_eqB C 10 dX5_put_4 (by decide) (fun c_4 => ?_) (fun c_4 => ?_)
  · have f0 : (fltT σ.2.2.2 σ.1).2.1 = 0 := Decidable.not_not.mp (of_decide_eq_false c_4)
    refine wl_aload_n C 0 dX5_put_10 rfl rfl ?_
    refine wl_get_Model_all (i := 232) C (by decide) in5 fl7 dX5_put_11 ?_
    refine wl_iconst (v := 2) C dX5_put_14 (by decide) ?_
    refine wl_iald (j := 2) (n := 120) (v := nI σ.1.1) C (by decide) (cell_k (k := 10) (by decide)) (rfl) (by decide) (by decide) tx.1.2.2.1 dX5_put_15 ?_
    refine wl_bipush (v := nI 8) C dX5_put_16 (by decide) ?_
    refine wl_icmp_neN C (a := σ.1.1) (b := 8) (by omega) (by omega) 24 dX5_put_18 (by decide) (fun c_18 => ?_) (fun c_18 => ?_)
    · refine wl_aload_n C 0 dX5_put_24 rfl rfl ?_
      refine wl_callVv (i := 232) (n := 0) C [] [] (c_X5_keep _ G Ma) gX5_put_X5_keep rfl (by decide +kernel) (by decide) (by decide) (kd_lt (k := 5) (by decide) (by decide)) (cell_k (k := 5) (by decide)) rfl rfl rfl (Nat.le_of_ble_eq_true rfl) dX5_put_25 (fun M1 ek => ?_)
      have t1 : RM M1 σ := tx.on5 ek.2
      have s1 : PkM (M1 233) σ.1 := t1.1
      have b8 : BdM (M1 233) 8 (polyT σ.2.2.2) := by rw [ek.2 233 (by decide)]; exact ba f0
      refine wl_aload_n C 0 dX5_put_28 rfl rfl ?_
      refine wl_bipush (v := nI 8) C dX5_put_29 (by decide) ?_
      refine wl_aload_n C 0 dX5_put_31 rfl rfl ?_
      refine wl_get_Model_all (i := 232) C (by decide) in5 fl7 dX5_put_32 ?_
      refine wl_iconst (v := 2) C dX5_put_35 (by decide) ?_
      refine wl_iald (j := 2) (n := 120) (v := nI σ.1.1) C (by decide) (cell_k (k := 10) (by decide)) (rfl) (by decide) (by decide) s1.2.2.1 dX5_put_36 ?_
      refine wl_callVv (i := 232) (n := 2) C [.int (nI 8), .int (nI σ.1.1)] [] (c_X5_copyBody _ G M1 8 σ.1.1 (by decide) (by omega) (by omega)) gX5_put_X5_copyBody rfl (by decide +kernel) (by decide) (by decide) (kd_lt (k := 5) (by decide) (by decide)) (cell_k (k := 5) (by decide)) rfl rfl rfl (Nat.le_of_ble_eq_true rfl) dX5_put_37 (fun M2 e2 => ?_)
      refine wl_aload_n C 0 dX5_put_40 rfl rfl ?_
      refine wl_get_Model_all (i := 232) C (by decide) in5 fl7 dX5_put_41 ?_
      refine wl_iconst (v := 2) C dX5_put_44 (by decide) ?_
      refine wl_dup2 C dX5_put_45 rfl rfl ?_
      refine wl_iald (j := 2) (n := 120) (v := nI σ.1.1) C (by decide) (cell_k (k := 10) (by decide)) (rfl) (by decide) (by decide) (by rw [e2.2.2.2 2 (by unfold ArB; omega)]; exact s1.2.2.1) dX5_put_46 ?_
      refine wl_iconst (v := 1) C dX5_put_47 (by decide) ?_
      refine wl_iadd C dX5_put_48 ?_
      refine wl_eqi (b := nI (σ.1.1 + 1)) (nI_1 _) ?_
      refine wl_iast (j := 2) (n := 120) C (by decide) (fun M => (cell_k (k := 10) (by decide))) (rfl) (by decide) (by decide) dX5_put_49 ?_
      obtain ⟨M3, eM3⟩ : ∃ z : Mem, z = (mset M2 233 2 (nI (σ.1.1 + 1))) := ⟨_, rfl⟩
      rw [← eM3]
      have w3 : On3 M1 M3 := by rw [eM3]; exact e2.1.tr On3.set
      have p3 : PkM (M3 233) (addS σ.1 (polyT σ.2.2.2)) := by rw [eM3]; exact ad_end s1 (by omega) b8 e2.2
      refine wl_aload_n C 0 dX5_put_50 rfl rfl ?_
      refine wl_aload_n C 0 dX5_put_51 rfl rfl ?_
      refine wl_get_Model_all (i := 232) C (by decide) in5 fl7 dX5_put_52 ?_
      refine wl_iconst (v := 2) C dX5_put_55 (by decide) ?_
      refine wl_iald (j := 2) (n := 120) (v := nI (σ.1.1 + 1)) C (by decide) (cell_k (k := 10) (by decide)) (rfl) (by decide) (by decide) p3.2.2.1 dX5_put_56 ?_
      refine wl_iconst (v := 1) C dX5_put_57 (by decide) ?_
      refine wl_isub C dX5_put_58 ?_
      refine wl_eqi (b := nI σ.1.1) (nI_sub1 (Nat.succ_pos _)) ?_
      refine wl_callVi (i := 232) (n := 1) C [.int (nI σ.1.1)] [] (c_X5_changed _ G M3 σ.1 σ.2.1 σ.2.2.1 (nI σ.1.1) (KpM.old ek w3 tx.1) (t1.2.1.on3 w3)) gX5_put_X5_changed rfl (by decide +kernel) (by decide) (by decide) (kd_lt (k := 5) (by decide) (by decide)) (cell_k (k := 5) (by decide)) rfl rfl rfl (Nat.le_of_ble_eq_true rfl) dX5_put_59 (fun r9 M4 ec => ?_)
      obtain ⟨qc, ec⟩ := ec
      subst qc
      exact hret _ 62 _ (nI σ.1.1) dX5_put_62 (by (have e : putY σ = (nI σ.1.1, pushY σ (addS σ.1 (polyT σ.2.2.2))) := (by unfold putY; rw [if_pos f0, if_pos (by omega)])); rw [e]; (have q := tx.push ek w3 p3 ec); exact ⟨rfl, q.1, oa.M.tr q.2⟩)
    · refine wl_ldc C cn132 dX5_put_21 ?_
      exact hret _ 23 _ (-1000003) dX5_put_23 (by (have e : putY σ = (-1000003, σ) := (by unfold putY; rw [if_pos f0, if_neg (by omega)])); rw [e]; exact ⟨rfl, tx, oa.M⟩)
  · refine wl_ldc C cn121 dX5_put_7 ?_
    exact hret _ 9 _ (-1000002) dX5_put_9 (by (have e : putY σ = (-1000002, σ) := (by unfold putY; rw [if_neg (of_decide_eq_true c_4)])); rw [e]; exact ⟨rfl, tx, oa.M⟩)
set_option maxHeartbeats 4000000 in
set_option maxRecDepth 100000 in
theorem c_X5_fault (l : Launch) (G : Gw) (M : Mem) (σ : Sy) (hR : RM M σ) (hO : OkY σ) (w : Int32) : Ci l G yX5_fault wsX5_fault 8 188 [.ref (G.2.2.1 232), .int w] M (fun r M' => r = fauY σ w ∧ RM M' σ ∧ FrM M M') := by
  refine Ci.of (cc := cX5_fault) (maxL := 2) (ret := (some .int)) (by decide +kernel) rfl (Nat.le_of_ble_eq_true rfl) ?_
  intro x sz hl0 hr C
  subst hl0
  have C : CX x G (AA G sz) RX5 cX5_fault 2 wsX5_fault 8 188 0 0 := C
  have hret : ∀ (M0 : Mem) (pc0 : Nat) (L0 : List (Nat × Value)) (rv0 : Int32), decode cX5_fault pc0 = .ok (.ireturn, 1) → (fun r M' => r = fauY σ w ∧ RM M' σ ∧ FrM M M') rv0 M0 → WL x G (AA G sz) 2 0 0 (xQ x (va_Qi (fun r M' => r = fauY σ w ∧ RM M' σ ∧ FrM M M') (WE G) (AA G sz)) (AA G sz)) M0 pc0 L0 [.int rv0] := fun M0 pc0 L0 rv0 hd hp => wl_iret (post := (fun r M' => r = fauY σ w ∧ RM M' σ ∧ FrM M M')) C hr hd hp
  show WL x G (AA G sz) 2 0 0 (xQ x (va_Qi (fun r M' => r = fauY σ w ∧ RM M' σ ∧ FrM M M') (WE G) (AA G sz)) (AA G sz)) M 0 [(0, .ref (G.2.2.1 232)), (1, .int w)] []
  generalize (xQ x (va_Qi (fun r M' => r = fauY σ w ∧ RM M' σ ∧ FrM M M') (WE G) (AA G sz)) (AA G sz)) = QQ at hret ⊢
  have cn161 : Jvm.Cond.constantLong RX5 161 (2) ∈ wsX5_fault := by decide +kernel
  have in5 : ∀ w ∈ wsX50, w ∈ wsX5_fault := by decide +kernel
  have fl217 : Jvm.Cond.fieldLink RX5 217 "JammedBodiesModel" "faultCause" "I" ∈ wsX5_fault := by decide +kernel
  have fl214 : Jvm.Cond.fieldLink RX5 214 "JammedBodiesModel" "faultWhy" "I" ∈ wsX5_fault := by decide +kernel
  have fl211 : Jvm.Cond.fieldLink RX5 211 "JammedBodiesModel" "faultAt" "I" ∈ wsX5_fault := by decide +kernel
  have cn149 : Jvm.Cond.constant RX5 149 (-1000004) ∈ wsX5_fault := by decide +kernel
  have cn120 : Jvm.Cond.constant RX5 120 (-1000001) ∈ wsX5_fault := by decide +kernel
  have hs := hR.1
  have hW := hO.1.1
  have h8 := hs.r
  refine wl_iload_n C 1 dX5_fault_0 rfl rfl ?_
  refine wl_i2l (v := w.toInt64) C dX5_fault_1 (rfl) ?_
  refine wl_lconst (v := 0) C dX5_fault_2 (by decide) ?_
  refine wl_ldc2 C cn161 dX5_fault_3 ?_
  refine wl_callSp (n := 3) C [.long w.toInt64, .long 0, .long 2] [] (c_X5_in _ G M w.toInt64 0 2) gX5_fault_X5_in rfl (by decide +kernel) (by decide) (by decide) rfl rfl (Nat.le_of_ble_eq_true rfl) dX5_fault_6 ?_
  refine wl_eqi (b := bi (decide (nI 0 ≤ w) && decide (w ≤ nI 2))) (by rw [inL_num (a := nI 0) (b := nI 2) (by decide) (by decide)]) ?_
  refine wl_if_neB C 15 dX5_fault_9 (by decide) (fun c_9 => ?_) (fun c_9 => ?_)
  · have hg : 0 ≤ w ∧ w ≤ 2 := ⟨of_decide_eq_true (Bool.and_eq_true_iff.mp c_9).1, of_decide_eq_true (Bool.and_eq_true_iff.mp c_9).2⟩
    refine wl_aload_n C 0 dX5_fault_15 rfl rfl ?_
    refine wl_callVi (i := 232) (n := 0) C [] [] (c_X5_hasFault _ G M σ.2.2.2 σ.1 hs hW hR.2.2 hO.2.2) gX5_fault_X5_hasFault rfl (by decide +kernel) (by decide) (by decide) (kd_lt (k := 5) (by decide) (by decide)) (cell_k (k := 5) (by decide)) rfl rfl rfl (Nat.le_of_ble_eq_true rfl) dX5_fault_16 (fun r1 Ma ea => ?_)
    obtain ⟨qa, oa, na, ba⟩ := ea
    subst qa
    have tx : RM Ma σ := hR.onT oa
    refine wl_if_neB C 25 dX5_fault_19 (by decide) (fun c_19 => ?_) (fun c_19 => ?_)
    · have nz := of_decide_eq_true c_19
      have nf := na nz
      refine wl_iload_n C 1 dX5_fault_25 rfl rfl ?_
      refine wl_if_ne C 36 dX5_fault_26 (by decide) (fun c_26 => ?_) (fun c_26 => ?_)
      · refine wl_iload_n C 1 dX5_fault_36 rfl rfl ?_
        refine wl_iconst (v := 1) C dX5_fault_37 (by decide) ?_
        refine wl_icmp_ne C 48 dX5_fault_38 (by decide) (fun c_38 => ?_) (fun c_38 => ?_)
        · refine wl_aload_n C 0 dX5_fault_48 rfl rfl ?_
          refine wl_get_Model_faultCause (i := 232) (v := (fltT σ.2.2.2 σ.1).2.2) C (by decide) in5 fl217 nf.2.2 dX5_fault_49 ?_
          exact hret _ 52 _ ((fltT σ.2.2.2 σ.1).2.2) dX5_fault_52 (by (have e : fauY σ w = _ := (by unfold fauY; rw [if_pos hg, if_neg nz, if_neg c_26, if_neg c_38])); rw [e]; exact ⟨rfl, tx, oa.M⟩)
        · refine wl_aload_n C 0 dX5_fault_41 rfl rfl ?_
          refine wl_get_Model_faultWhy (i := 232) (v := (fltT σ.2.2.2 σ.1).2.1) C (by decide) in5 fl214 nf.2.1 dX5_fault_42 ?_
          refine wl_goto C 52 dX5_fault_45 (by decide) ?_
          exact hret _ 52 _ ((fltT σ.2.2.2 σ.1).2.1) dX5_fault_52 (by (have e : fauY σ w = _ := (by unfold fauY; rw [if_pos hg, if_neg nz, if_neg c_26, if_pos c_38])); rw [e]; exact ⟨rfl, tx, oa.M⟩)
      · refine wl_aload_n C 0 dX5_fault_29 rfl rfl ?_
        refine wl_get_Model_faultAt (i := 232) (v := (fltT σ.2.2.2 σ.1).1) C (by decide) in5 fl211 nf.1 dX5_fault_30 ?_
        refine wl_goto C 52 dX5_fault_33 (by decide) ?_
        exact hret _ 52 _ ((fltT σ.2.2.2 σ.1).1) dX5_fault_52 (by (have e : fauY σ w = _ := (by unfold fauY; rw [if_pos hg, if_neg nz, if_pos c_26])); rw [e]; exact ⟨rfl, tx, oa.M⟩)
    · refine wl_ldc C cn149 dX5_fault_22 ?_
      exact hret _ 24 _ (-1000004) dX5_fault_24 (by (have e : fauY σ w = -1000004 := (by unfold fauY; rw [if_pos hg, if_pos (Decidable.not_not.mp (of_decide_eq_false c_19))])); rw [e]; exact ⟨rfl, tx, oa.M⟩)
  · refine wl_ldc C cn120 dX5_fault_12 ?_
    exact hret _ 14 _ (-1000001) dX5_fault_14 (by (have e : fauY σ w = -1000001 := (by unfold fauY; rw [if_neg (fun q => bcf (Bool.and_eq_true_iff.mpr ⟨decide_eq_true q.1, decide_eq_true q.2⟩) c_9)])); rw [e]; exact ⟨rfl, hR, FrM.rf⟩)
