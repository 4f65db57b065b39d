set_option maxHeartbeats 4000000 in
set_option maxRecDepth 100000 in
theorem c_X4_bitsOfShare (l : Launch) (G : Gw) (M : Mem) (a b : Nat) (h0 : 0 < b) (hb : b < 2 ^ 14) (hab : a ≤ b) : Cp l G yX4_bitsOfShare wsX4_bitsOfShare 0 0 [.float (dnR a b)] M (if a = 0 then 0 else shB a b) := by
  refine Ci.of (cc := cX4_bitsOfShare) (maxL := 3) (ret := (some .int)) (by decide +kernel) rfl (Nat.le_of_ble_eq_true rfl) ?_
  intro x sz hl0 hr C
  subst hl0
  have C : CX x G (AA G sz) RX4 cX4_bitsOfShare 3 wsX4_bitsOfShare 0 0 0 0 := C
  have hret : ∀ (M0 : Mem) (pc0 : Nat) (L0 : List (Nat × Value)) (rv0 : Int32), decode cX4_bitsOfShare pc0 = .ok (.ireturn, 1) → (fun (r : Int32) (M' : Mem) => r = (if a = 0 then 0 else shB a b) ∧ M' = M) rv0 M0 → WL x G (AA G sz) 3 0 0 (xQ x (va_Qi (fun (r : Int32) (M' : Mem) => r = (if a = 0 then 0 else shB a b) ∧ M' = M) (WE G) (AA G sz)) (AA G sz)) M0 pc0 L0 [.int rv0] := fun M0 pc0 L0 rv0 hd hp => wl_iret (post := (fun (r : Int32) (M' : Mem) => r = (if a = 0 then 0 else shB a b) ∧ M' = M)) C hr hd hp
  show WL x G (AA G sz) 3 0 0 (xQ x (va_Qi (fun (r : Int32) (M' : Mem) => r = (if a = 0 then 0 else shB a b) ∧ M' = M) (WE G) (AA G sz)) (AA G sz)) M 0 [(0, .float (dnR a b))] []
  generalize (xQ x (va_Qi (fun (r : Int32) (M' : Mem) => r = (if a = 0 then 0 else shB a b) ∧ M' = M) (WE G) (AA G sz)) (AA G sz)) = QQ at hret ⊢
  have cn216 : Jvm.Cond.constantFloat RX4 216 (1258291200) ∈ wsX4_bitsOfShare := by decide +kernel
  refine wl_fload_n C 0 dX4_bitsOfShare_0 rfl rfl ?_
  refine wl_fconst0 C dX4_bitsOfShare_1 ?_
  refine wl_fcmp C dX4_bitsOfShare_2 ?_
  refine wl_if_gt C 8 dX4_bitsOfShare_3 (by decide) (fun c_3 => ?_) (fun c_3 => ?_)
  · have ha : 0 < a := (dnR_gt0 h0 hb hab .l).mp c_3
    have h14 := (nm2 ha hb hab).2.2.1
    refine wl_bipush (v := nI 127) C dX4_bitsOfShare_8 (by decide) ?_
    refine wl_istore_n (L' := [(1, .int (nI 127)), (0, .float (dnR a b))]) C dX4_bitsOfShare_10 rfl (by decide) rfl ?_
    refine wl_fload_n C 1 dX4_bitsOfShare_11 rfl rfl ?_
    refine wl_fstore_n (L' := [(2, .float (dnR a b)), (1, .int (nI 127)), (0, .float (dnR a b))]) C dX4_bitsOfShare_12 rfl (by decide) rfl ?_
    have h13 : ∀ j, j ≤ nmK a b → WL x G (AA G sz) 3 0 0 QQ M 13 [(1, .int (nI (127 - j))), (2, .float (fR a b j))] [] := by
      refine up_loop (nmK a b) _ ?_
      intro j hj1 ih
      refine wl_fload_n C 1 dX4_bitsOfShare_13 rfl rfl ?_
      refine wl_fconst1 C dX4_bitsOfShare_14 ?_
      refine wl_fcmp C dX4_bitsOfShare_15 ?_
      refine wl_if_ge C 34 dX4_bitsOfShare_16 (by decide) (fun c_16 => ?_) (fun c_16 => ?_)
      · have ej : j = nmK a b := by
          apply Classical.byContradiction
          intro z
          exact fR_lt1 ha hb hab (by omega) .g c_16
        refine wl_iload_n C 0 dX4_bitsOfShare_34 rfl rfl ?_
        refine wl_bipush (v := 23) C dX4_bitsOfShare_35 (by decide) ?_
        refine wl_ishl C dX4_bitsOfShare_37 ?_
        refine wl_eqi (b := nI ((127 - j) * 8388608)) (pk_shlN (23 &&& 31) 23 (by decide) (by omega)) ?_
        refine wl_fload_n C 1 dX4_bitsOfShare_38 rfl rfl ?_
        refine wl_fconst1 C dX4_bitsOfShare_39 ?_
        refine wl_fsub C dX4_bitsOfShare_40 (by rw [ej]; exact fR_subn ha hb hab) ?_
        refine wl_ldcf C cn216 dX4_bitsOfShare_41 ?_
        refine wl_fmul C dX4_bitsOfShare_43 (by rw [ej]; exact fR_unitsn ha hb hab) ?_
        refine wl_f2i C dX4_bitsOfShare_44 ?_
        refine wl_eqi (b := nI (shN a b - 8388608)) (by rw [ej]; exact fR_f2i ha hb hab) ?_
        refine wl_iadd C dX4_bitsOfShare_45 ?_
        refine wl_eqi (b := nI ((127 - j) * 8388608 + (shN a b - 8388608))) (nI_add _ _) ?_
        exact hret _ 46 _ (nI ((127 - j) * 8388608 + (shN a b - 8388608))) dX4_bitsOfShare_46 (⟨by rw [if_neg (by omega), ej, shB_eq ha hb hab], rfl⟩)
      · have hj : j < nmK a b := Nat.lt_of_le_of_ne hj1 (fun z => c_16 (by rw [z]; exact fR_ge1 ha hb hab .g))
        refine wl_iload_n C 0 dX4_bitsOfShare_19 rfl rfl ?_
        refine wl_iconst (v := nI 1) C dX4_bitsOfShare_20 (by first | decide | rfl) ?_
        refine wl_icmp_leN C (a := (127 - j)) (b := 1) (by omega) (by omega) 34 dX4_bitsOfShare_21 (by decide) (fun c_21 => absurd c_21 (by omega)) (fun c_21 => ?_)
        refine wl_fload_n C 1 dX4_bitsOfShare_24 rfl rfl ?_
        refine wl_fconst2 C dX4_bitsOfShare_25 ?_
        refine wl_fmul C dX4_bitsOfShare_26 (by rw [fR_dbl ha hb hab hj]; exact vf_ok (by rw [fR_val ha hb hab hj]; intro q; cases q)) ?_
        refine wl_fstore_n (L' := [(2, .float (FP.fmul (fR a b j) FP.fconst2)), (1, .int (nI (127 - j)))]) C dX4_bitsOfShare_27 rfl (by decide) rfl ?_
        refine wl_iinc (w := nI (127 - (j + 1))) (L' := [(1, .int (nI (127 - (j + 1)))), (2, .float (FP.fmul (fR a b j) FP.fconst2))]) C 1 dX4_bitsOfShare_28 rfl (by rw [show 127 - j = 127 - (j + 1) + 1 by omega]; exact nI_dec _) (by decide) rfl ?_
        refine wl_goto C 13 dX4_bitsOfShare_31 (by decide) ?_
        rw [fR_dbl ha hb hab hj]
        exact ih hj
    refine wl_sub (L' := [(1, .int (nI 127)), (2, .float (dnR a b))]) [1, 0] rfl ?_
    rw [dnR_eq ha hb hab]
    exact h13 0 (Nat.zero_le _)
  · have ha0 : a = 0 := Nat.eq_zero_of_not_pos (fun q => c_3 ((dnR_gt0 h0 hb hab .l).mpr q))
    refine wl_iconst (v := 0) C dX4_bitsOfShare_6 (by decide) ?_
    exact hret _ 7 _ 0 dX4_bitsOfShare_7 (⟨(if_pos ha0).symm, rfl⟩)
set_option maxHeartbeats 4000000 in
set_option maxRecDepth 100000 in
theorem c_X4_density (l : Launch) (G : Gw) (M : Mem) (σ : Sy) (hR : RC M σ) (hO : OkY σ) : Ci l G yX4_density wsX4_density 3 66 [.ref (G.2.2.1 224)] M (fun r M' => r = denY σ ∧ RC M' σ ∧ FrC M M') := by
  refine Ci.of (cc := cX4_density) (maxL := 3) (ret := (some .int)) (by decide +kernel) rfl (Nat.le_of_ble_eq_true rfl) ?_
  intro x sz hl0 hr C
  subst hl0
  have C : CX x G (AA G sz) RX4 cX4_density 3 wsX4_density 3 66 0 0 := C
  have hret : ∀ (M0 : Mem) (pc0 : Nat) (L0 : List (Nat × Value)) (rv0 : Int32), decode cX4_density pc0 = .ok (.ireturn, 1) → (fun r M' => r = denY σ ∧ RC M' σ ∧ FrC M M') rv0 M0 → WL x G (AA G sz) 3 0 0 (xQ x (va_Qi (fun r M' => r = denY σ ∧ RC M' σ ∧ FrC M M') (WE G) (AA G sz)) (AA G sz)) M0 pc0 L0 [.int rv0] := fun M0 pc0 L0 rv0 hd hp => wl_iret (post := (fun r M' => r = denY σ ∧ RC M' σ ∧ FrC M M')) C hr hd hp
  show WL x G (AA G sz) 3 0 0 (xQ x (va_Qi (fun r M' => r = denY σ ∧ RC M' σ ∧ FrC M M') (WE G) (AA G sz)) (AA G sz)) M 0 [(0, .ref (G.2.2.1 224))] []
  generalize (xQ x (va_Qi (fun r M' => r = denY σ ∧ RC M' σ ∧ FrC M M') (WE G) (AA G sz)) (AA G sz)) = QQ at hret ⊢
  have in4 : ∀ w ∈ wsX40, w ∈ wsX4_density := by decide +kernel
  have fl10 : Jvm.Cond.fieldLink RX4 10 "JammedBodies" "packing" "LJammedBodies$Packing;" ∈ wsX4_density := by decide +kernel
  have in3 : ∀ w ∈ wsX30, w ∈ wsX4_density := by decide +kernel
  have fl47 : Jvm.Cond.fieldLink RX4 47 "JammedBodies$Packing" "width" "I" ∈ wsX4_density := by decide +kernel
  have fl51 : Jvm.Cond.fieldLink RX4 51 "JammedBodies$Packing" "height" "I" ∈ wsX4_density := by decide +kernel
  have hs := hR.1
  have hW := hO.1.1
  have h8 := hs.r
  obtain ⟨na, nb, ea, eb, hb0, hb14, hab, hdn⟩ := den_num hO h8 (fun k hk => (hs.2.2.2.2 k hk).2.1)
  refine wl_aload_n C 0 dX4_density_0 rfl rfl ?_
  refine wl_get_Main_packing (i := 224) C (by decide) in4 fl10 dX4_density_1 ?_
  refine wl_callVp (i := 0) (n := 0) C [] [] (c_X3_doubleArea _ G M 0 σ.1 (by decide) hs) gX4_density_X3_doubleArea rfl (by decide +kernel) (by decide) (by decide) (kd_lt (k := 3) (by decide) (by decide)) (cell_k (k := 3) (by decide)) rfl rfl rfl (Nat.le_of_ble_eq_true rfl) dX4_density_4 ?_
  refine wl_eqi (b := nI na) (ea) ?_
  refine wl_i2f C dX4_density_7 ?_
  refine wl_fstore_n (L' := [(1, .float (FP.i2f (nI na))), (0, .ref (G.2.2.1 224))]) C dX4_density_8 rfl (by decide) rfl ?_
  refine wl_iconst (v := 2) C dX4_density_9 (by decide) ?_
  refine wl_aload_n C 1 dX4_density_10 rfl rfl ?_
  refine wl_get_Main_packing (i := 224) C (by decide) in4 fl10 dX4_density_11 ?_
  refine wl_get_Packing_width (i := 0) (v := σ.1.2.1) C (by decide) in3 fl47 hs.2.1 dX4_density_14 ?_
  refine wl_imul C dX4_density_17 ?_
  refine wl_aload_n C 1 dX4_density_18 rfl rfl ?_
  refine wl_get_Main_packing (i := 224) C (by decide) in4 fl10 dX4_density_19 ?_
  refine wl_get_Packing_height (i := 0) (v := σ.1.2.2.1) C (by decide) in3 fl51 hs.2.2.1 dX4_density_22 ?_
  refine wl_imul C dX4_density_25 ?_
  refine wl_eqi (b := nI nb) (eb) ?_
  refine wl_i2f C dX4_density_26 ?_
  refine wl_fstore_n (L' := [(2, .float (FP.i2f (nI nb))), (1, .float (FP.i2f (nI na))), (0, .ref (G.2.2.1 224))]) C dX4_density_27 rfl (by decide) rfl ?_
  refine wl_fload_n C 0 dX4_density_28 rfl rfl ?_
  refine wl_fconst0 C dX4_density_29 ?_
  refine wl_fcmp C dX4_density_30 ?_
  refine wl_if_le C 43 dX4_density_31 (by decide) (fun c_31 => absurd c_31 (all_gt0 hb0 hb14 .l)) (fun c_31 => ?_)
  refine wl_fload_n C 1 dX4_density_34 rfl rfl ?_
  refine wl_fload_n C 0 dX4_density_35 rfl rfl ?_
  refine wl_fdiv C dX4_density_36 (vf_ok (dnR_nan hb0 hb14 hab)) ?_
  refine wl_callSp (n := 1) C [.float (FP.fdiv (FP.i2f (nI na)) (FP.i2f (nI nb)))] [] (c_X4_bitsOfShare _ G M na nb hb0 hb14 hab) gX4_density_X4_bitsOfShare rfl (by decide +kernel) (by decide) (by decide) rfl rfl (Nat.le_of_ble_eq_true rfl) dX4_density_37 ?_
  refine wl_goto C 44 dX4_density_40 (by decide) ?_
  exact hret _ 44 _ (if na = 0 then 0 else shB na nb) dX4_density_44 (⟨hdn.symm, hR, FrC.rf⟩)