set_option maxHeartbeats 4000000 in
set_option maxRecDepth 100000 in
theorem c_X4_bitsOfShare (l : Launch) (G : Gw) (M : Mem) (a b : Nat) (h0 : 0 < b) (hb : b < 2 ^ 14) (hab : a ≤ b) : Cp l G yX4_bitsOfShare wsX4_bitsOfShare 0 0 [.float (dnR a b)] M (if a = 0 then 0 else shB a b) := by
  refine Ci.of (cc := cX4_bitsOfShare) (maxL := 3) (ret := (some .int)) (by decide +kernel) rfl (Nat.le_of_ble_eq_true rfl) ?_
  intro x sz hl0 hr C
  subst hl0
  have C : CX x G (AA G sz) RX4 cX4_bitsOfShare 3 wsX4_bitsOfShare 0 0 0 0 := C
  have hret : ∀ (M0 : Mem) (pc0 : Nat) (L0 : List (Nat × Value)) (rv0 : Int32), decode cX4_bitsOfShare pc0 = .ok (.ireturn, 1) → (fun (r : Int32) (M' : Mem) => r = (if a = 0 then 0 else shB a b) ∧ M' = M) rv0 M0 → WL x G (AA G sz) 3 0 0 (xQ x (va_Qi (fun (r : Int32) (M' : Mem) => r = (if a = 0 then 0 else shB a b) ∧ M' = M) (WE G) (AA G sz)) (AA G sz)) M0 pc0 L0 [.int rv0] := fun M0 pc0 L0 rv0 hd hp => wl_iret (post := (fun (r : Int32) (M' : Mem) => r = (if a = 0 then 0 else shB a b) ∧ M' = M)) C hr hd hp
  show WL x G (AA G sz) 3 0 0 (xQ x (va_Qi (fun (r : Int32) (M' : Mem) => r = (if a = 0 then 0 else shB a b) ∧ M' = M) (WE G) (AA G sz)) (AA G sz)) M 0 [(0, .float (dnR a b))] []
  generalize (xQ x (va_Qi (fun (r : Int32) (M' : Mem) => r = (if a = 0 then 0 else shB a b) ∧ M' = M) (WE G) (AA G sz)) (AA G sz)) = QQ at hret ⊢
  have cn216 : Jvm.Cond.constantFloat RX4 216 (1258291200) ∈ wsX4_bitsOfShare := by decide +kernel
  refine wl_fload_n C 0 dX4_bitsOfShare_0 rfl rfl ?_
  refine wl_fconst0 C dX4_bitsOfShare_1 ?_
  refine wl_fcmp C dX4_bitsOfShare_2 ?_
  refine wl_if_gt C 8 dX4_bitsOfShare_3 (by decide) (fun c_3 => ?_) (fun c_3 => ?_)
  · have ha : 0 < a := (dnR_gt0 h0 hb hab .l).mp c_3
    have h14 := (nm2 ha hb hab).2.2.1
    refine wl_bipush (v := nI 127) C dX4_bitsOfShare_8 (by decide) ?_
    refine wl_istore_n (L' := [(1, .int (nI 127)), (0, .float (dnR a b))]) C dX4_bitsOfShare_10 rfl (by decide) rfl ?_
    refine wl_fload_n C 1 dX4_bitsOfShare_11 rfl rfl ?_
    refine wl_fstore_n (L' := [(2, .float (dnR a b)), (1, .int (nI 127)), (0, .float (dnR a b))]) C dX4_bitsOfShare_12 rfl (by decide) rfl ?_
    have h13 : ∀ j, j ≤ nmK a b → WL x G (AA G sz) 3 0 0 QQ M 13 [(1, .int (nI (127 - j))), (2, .float (fR a b j))] [] := by
      refine up_loop (nmK a b) _ ?_
      intro j hj1 ih
      refine wl_fload_n C 1 dX4_bitsOfShare_13 rfl rfl ?_
      refine wl_fconst1 C dX4_bitsOfShare_14 ?_
      refine wl_fcmp C dX4_bitsOfShare_15 ?_
      refine wl_if_ge C 34 dX4_bitsOfShare_16 (by decide) (fun c_16 => ?_) (fun c_16 => ?_)
      · have ej : j = nmK a b := by
          apply Classical.byContradiction
          intro z
          exact fR_lt1 ha hb hab (by omega) .g c_16
        refine wl_iload_n C 0 dX4_bitsOfShare_34 rfl rfl ?_
        refine wl_bipush (v := 23) C dX4_bitsOfShare_35 (by decide) ?_
        refine wl_ishl C dX4_bitsOfShare_37 ?_
        refine wl_eqi (b := nI ((127 - j) * 8388608)) (pk_shlN (23 &&& 31) 23 (by decide) (by omega)) ?_
        refine wl_fload_n C 1 dX4_bitsOfShare_38 rfl rfl ?_
        refine wl_fconst1 C dX4_bitsOfShare_39 ?_
        refine wl_fsub C dX4_bitsOfShare_40 (by rw [ej]; exact fR_subn ha hb hab) ?_
        refine wl_ldcf C cn216 dX4_bitsOfShare_41 ?_
        refine wl_fmul C dX4_bitsOfShare_43 (by rw [ej]; exact fR_unitsn ha hb hab) ?_
        refine wl_f2i C dX4_bitsOfShare_44 ?_
        refine wl_eqi (b := nI (shN a b - 8388608)) (by rw [ej]; exact fR_f2i ha hb hab) ?_
        refine wl_iadd C dX4_bitsOfShare_45 ?_
        refine wl_eqi (b := nI ((127 - j) * 8388608 + (shN a b - 8388608))) (nI_add _ _) ?_
        exact hret _ 46 _ (nI ((127 - j) * 8388608 + (shN a b - 8388608))) dX4_bitsOfShare_46 (⟨by rw [if_neg (by omega), ej, shB_eq ha hb hab], rfl⟩)
      · have hj : j < nmK a b := Nat.lt_of_le_of_ne hj1 (fun z => c_16 (by rw [z]; exact fR_ge1 ha hb hab .g))
        refine wl_iload_n C 0 dX4_bitsOfShare_19 rfl rfl ?_
        refine wl_iconst (v := nI 1) C dX4_bitsOfShare_20 (by first | decide | rfl) ?_
        refine wl_icmp_leN C (a := (127 - j)) (b := 1) (by omega) (by omega) 34 dX4_bitsOfShare_21 (by decide) (fun c_21 => absurd c_21 (by omega)) (fun c_21 => ?_)
        refine wl_fload_n C 1 dX4_bitsOfShare_24 rfl rfl ?_
        refine wl_fconst2 C dX4_bitsOfShare_25 ?_
        refine wl_fmul C dX4_bitsOfShare_26 (by rw [fR_dbl ha hb hab hj]; exact vf_ok (by rw [fR_val ha hb hab hj]; intro q; cases q)) ?_
        refine wl_fstore_n (L' := [(2, .float (FP.fmul (fR a b j) FP.fconst2)), (1, .int (nI (127 - j)))]) C dX4_bitsOfShare_27 rfl (by decide) rfl ?_
        refine wl_iinc (w := nI (127 - (j + 1))) (L' := [(1, .int (nI (127 - (j + 1)))), (2, .float (FP.fmul (fR a b j) FP.fconst2))]) C 1 dX4_bitsOfShare_28 rfl (by rw [show 127 - j = 127 - (j + 1) + 1 by omega]; exact nI_dec _) (by decide) rfl ?_
        refine wl_goto C 13 dX4_bitsOfShare_31 (by decide) ?_
        rw [fR_dbl ha hb hab hj]
        exact ih hj
    refine wl_sub (L' := [(1, .int (nI 127)), (2, .float (dnR a b))]) [1, 0] rfl ?_
    rw [dnR_eq ha hb hab]
    exact h13 0 (Nat.zero_le _)
  · have ha0 : a = 0 := Nat.eq_zero_of_not_pos (fun q => c_3 ((dnR_gt0 h0 hb hab .l).mpr q))
    refine wl_iconst (v := 0) C dX4_bitsOfShare_6 (by decide) ?_
    exact hret _ 7 _ 0 dX4_bitsOfShare_7 (⟨(if_pos ha0).symm, rfl⟩)
set_option maxHeartbeats 4000000 in
set_option maxRecDepth 100000 in
theorem c_X4_density (l : Launch) (G : Gw) (M : Mem) (σ : Sy) (hR : RC M σ) (hO : OkY σ) : Ci l G yX4_density wsX4_density 3 66 [.ref (G.2.2.1 224)] M (fun r M' => r = denY σ ∧ RC M' σ ∧ FrC M M') := by
  refine Ci.of (cc := cX4_density) (maxL := 3) (ret := (some .int)) (by decide +kernel) rfl (Nat.le_of_ble_eq_true rfl) ?_
  intro x sz hl0 hr C
  subst hl0
  have C : CX x G (AA G sz) RX4 cX4_density 3 wsX4_density 3 66 0 0 := C
  have hret : ∀ (M0 : Mem) (pc0 : Nat) (L0 : List (Nat × Value)) (rv0 : Int32), decode cX4_density pc0 = .ok (.ireturn, 1) → (fun r M' => r = denY σ ∧ RC M' σ ∧ FrC M M') rv0 M0 → WL x G (AA G sz) 3 0 0 (xQ x (va_Qi (fun r M' => r = denY σ ∧ RC M' σ ∧ FrC M M') (WE G) (AA G sz)) (AA G sz)) M0 pc0 L0 [.int rv0] := fun M0 pc0 L0 rv0 hd hp => wl_iret (post := (fun r M' => r = denY σ ∧ RC M' σ ∧ FrC M M')) C hr hd hp
  show WL x G (AA G sz) 3 0 0 (xQ x (va_Qi (fun r M' => r = denY σ ∧ RC M' σ ∧ FrC M M') (WE G) (AA G sz)) (AA G sz)) M 0 [(0, .ref (G.2.2.1 224))] []
  generalize (xQ x (va_Qi (fun r M' => r = denY σ ∧ RC M' σ ∧ FrC M M') (WE G) (AA G sz)) (AA G sz)) = QQ at hret ⊢
  have in4 : ∀ w ∈ wsX40, w ∈ wsX4_density := by decide +kernel
  have fl10 : Jvm.Cond.fieldLink RX4 10 "JammedBodies" "packing" "LJammedBodies$Packing;" ∈ wsX4_density := by decide +kernel
  have in3 : ∀ w ∈ wsX30, w ∈ wsX4_density := by decide +kernel
  have fl47 : Jvm.Cond.fieldLink RX4 47 "JammedBodies$Packing" "width" "I" ∈ wsX4_density := by decide +kernel
  have fl51 : Jvm.Cond.fieldLink RX4 51 "JammedBodies$Packing" "height" "I" ∈ wsX4_density := by decide +kernel
  have hs := hR.1
  have hW := hO.1.1
  have h8 := hs.r
  obtain ⟨na, nb, ea, eb, hb0, hb14, hab, hdn⟩ := den_num hO h8 (fun k hk => (hs.2.2.2.2 k hk).2.1)
  refine wl_aload_n C 0 dX4_density_0 rfl rfl ?_
  refine wl_get_Main_packing (i := 224) C (by decide) in4 fl10 dX4_density_1 ?_
  refine wl_callVp (i := 0) (n := 0) C [] [] (c_X3_doubleArea _ G M 0 σ.1 (by decide) hs) gX4_density_X3_doubleArea rfl (by decide +kernel) (by decide) (by decide) (kd_lt (k := 3) (by decide) (by decide)) (cell_k (k := 3) (by decide)) rfl rfl rfl (Nat.le_of_ble_eq_true rfl) dX4_density_4 ?_
  refine wl_eqi (b := nI na) (ea) ?_
  refine wl_i2f C dX4_density_7 ?_
  refine wl_fstore_n (L' := [(1, .float (FP.i2f (nI na))), (0, .ref (G.2.2.1 224))]) C dX4_density_8 rfl (by decide) rfl ?_
  refine wl_iconst (v := 2) C dX4_density_9 (by decide) ?_
  refine wl_aload_n C 1 dX4_density_10 rfl rfl ?_
  refine wl_get_Main_packing (i := 224) C (by decide) in4 fl10 dX4_density_11 ?_
  refine wl_get_Packing_width (i := 0) (v := σ.1.2.1) C (by decide) in3 fl47 hs.2.1 dX4_density_14 ?_
  refine wl_imul C dX4_density_17 ?_
  refine wl_aload_n C 1 dX4_density_18 rfl rfl ?_
  refine wl_get_Main_packing (i := 224) C (by decide) in4 fl10 dX4_density_19 ?_
  refine wl_get_Packing_height (i := 0) (v := σ.1.2.2.1) C (by decide) in3 fl51 hs.2.2.1 dX4_density_22 ?_
  refine wl_imul C dX4_density_25 ?_
  refine wl_eqi (b := nI nb) (eb) ?_
  refine wl_i2f C dX4_density_26 ?_
  refine wl_fstore_n (L' := [(2, .float (FP.i2f (nI nb))), (1, .float (FP.i2f (nI na))), (0, .ref (G.2.2.1 224))]) C dX4_density_27 rfl (by decide) rfl ?_
  refine wl_fload_n C 0 dX4_density_28 rfl rfl ?_
  refine wl_fconst0 C dX4_density_29 ?_
  refine wl_fcmp C dX4_density_30 ?_
  refine wl_if_le C 43 dX4_density_31 (by decide) (fun c_31 => absurd c_31 (all_gt0 hb0 hb14 .l)) (fun c_31 => ?_)
  refine wl_fload_n C 1 dX4_density_34 rfl rfl ?_
  refine wl_fload_n C 0 dX4_density_35 rfl rfl ?_
  refine wl_fdiv C dX4_density_36 (vf_ok (dnR_nan hb0 hb14 hab)) ?_
  refine wl_callSp (n := 1) C [.float (FP.fdiv (FP.i2f (nI na)) (FP.i2f (nI nb)))] [] (c_X4_bitsOfShare _ G M na nb hb0 hb14 hab) gX4_density_X4_bitsOfShare rfl (by decide +kernel) (by decide) (by decide) rfl rfl (Nat.le_of_ble_eq_true rfl) dX4_density_37 ?_
  refine wl_goto C 44 dX4_density_40 (by decide) ?_
  exact hret _ 44 _ (if na = 0 then 0 else shB na nb) dX4_density_44 (⟨hdn.symm, hR, FrC.rf⟩)
set_option maxHeartbeats 4000000 in
set_option maxRecDepth 100000 in
theorem c_X5_shareBits (l : Launch) (G : Gw) (M : Mem) (a b : Nat) (ha : 0 < a) (hb : b < 2 ^ 14) (hab : a ≤ b) : Cp l G yX5_shareBits wsX5_shareBits 0 0 [.int (nI a), .int (nI b)] M (shB a b) := by
  refine Ci.of (cc := cX5_shareBits) (maxL := 12) (ret := (some .int)) (by decide +kernel) rfl (Nat.le_of_ble_eq_true rfl) ?_
  intro x sz hl0 hr C
  subst hl0
  have C : CX x G (AA G sz) RX5 cX5_shareBits 12 wsX5_shareBits 0 0 0 0 := C
  have hret : ∀ (M0 : Mem) (pc0 : Nat) (L0 : List (Nat × Value)) (rv0 : Int32), decode cX5_shareBits pc0 = .ok (.ireturn, 1) → (fun (r : Int32) (M' : Mem) => r = shB a b ∧ M' = M) rv0 M0 → WL x G (AA G sz) 12 0 0 (xQ x (va_Qi (fun (r : Int32) (M' : Mem) => r = shB a b ∧ M' = M) (WE G) (AA G sz)) (AA G sz)) M0 pc0 L0 [.int rv0] := fun M0 pc0 L0 rv0 hd hp => wl_iret (post := (fun (r : Int32) (M' : Mem) => r = shB a b ∧ M' = M)) C hr hd hp
  show WL x G (AA G sz) 12 0 0 (xQ x (va_Qi (fun (r : Int32) (M' : Mem) => r = shB a b ∧ M' = M) (WE G) (AA G sz)) (AA G sz)) M 0 [(0, .int (nI a)), (1, .int (nI b))] []
  generalize (xQ x (va_Qi (fun (r : Int32) (M' : Mem) => r = shB a b ∧ M' = M) (WE G) (AA G sz)) (AA G sz)) = QQ at hret ⊢
  have cn171 : Jvm.Cond.constantLong RX5 171 (8388608) ∈ wsX5_shareBits := by decide +kernel
  have cn161 : Jvm.Cond.constantLong RX5 161 (2) ∈ wsX5_shareBits := by decide +kernel
  have cn173 : Jvm.Cond.constantLong RX5 173 (16777216) ∈ wsX5_shareBits := by decide +kernel
  obtain ⟨n1, n2, n3, n4⟩ := nm2 ha hb hab
  obtain ⟨s1, s2, s3, s4⟩ := shn_bd ha hb hab
  have s5 := shN_bd ha hb hab
  have h55 : WL x G (AA G sz) 12 0 0 QQ M 55 [(2, .long (lI (shn a b))), (4, .long (lI b)), (6, .int (nI (127 - nmK a b)))] [] := by
    refine wl_lload_n C 0 dX5_shareBits_55 rfl rfl ?_
    refine wl_ldc2 C cn171 dX5_shareBits_56 ?_
    refine wl_eql (b := lI 8388608) (rfl) ?_
    refine wl_lmul C dX5_shareBits_59 ?_
    refine wl_eql (b := lI (shn a b * 8388608)) (lI_mul _ _) ?_
    refine wl_lload C 1 dX5_shareBits_60 rfl ?_
    refine wl_ldiv C dX5_shareBits_62 (lI_ne0 (by omega) (by omega)) ?_
    refine wl_eql (b := lI (shq a b)) (lI_div (by omega) (by omega)) ?_
    refine wl_lstore (L' := [(7, .long (lI (shq a b))), (2, .long (lI (shn a b))), (4, .long (lI b)), (6, .int (nI (127 - nmK a b)))]) C dX5_shareBits_63 (by decide) rfl ?_
    refine wl_lload_n C 1 dX5_shareBits_65 rfl rfl ?_
    refine wl_ldc2 C cn171 dX5_shareBits_66 ?_
    refine wl_eql (b := lI 8388608) (rfl) ?_
    refine wl_lmul C dX5_shareBits_69 ?_
    refine wl_eql (b := lI (shn a b * 8388608)) (lI_mul _ _) ?_
    refine wl_lload C 2 dX5_shareBits_70 rfl ?_
    refine wl_lrem C dX5_shareBits_72 (lI_ne0 (by omega) (by omega)) ?_
    refine wl_eql (b := lI (shm a b)) (lI_rem (by omega) (by omega) s4) ?_
    refine wl_lstore (L' := [(9, .long (lI (shm a b))), (7, .long (lI (shq a b))), (2, .long (lI (shn a b))), (4, .long (lI b)), (6, .int (nI (127 - nmK a b)))]) C dX5_shareBits_73 (by decide) rfl ?_
    refine wl_ldc2 C cn161 dX5_shareBits_75 ?_
    refine wl_eql (b := lI 2) (rfl) ?_
    refine wl_lload C 0 dX5_shareBits_78 rfl ?_
    refine wl_lmul C dX5_shareBits_80 ?_
    refine wl_eql (b := lI (2 * shm a b)) (lI_mul _ _) ?_
    refine wl_lload C 3 dX5_shareBits_81 rfl ?_
    refine wl_lcmp C dX5_shareBits_83 ?_
    suffices hJ84 : WL x G (AA G sz) 12 0 0 QQ M 115 [(9, .long (lI (shm a b))), (7, .long (lI (shq a b))), (2, .long (lI (shn a b))), (4, .long (lI b)), (6, .int (nI (127 - nmK a b)))] [.int (if 0 < (lg_cmp (lI (2 * shm a b)) (lI b)) then (1 : Int32) else if (lg_cmp (lI (2 * shm a b)) (lI b)) = 0 then if (lg_cmp (lI (shq a b % 2)) (lI 1)) = 0 then (1 : Int32) else (0 : Int32) else (0 : Int32))] by
      refine wl_if_gt C 110 dX5_shareBits_84 (by decide) (fun c_84 => ?_) (fun c_84 => ?_)
      · rw [if_pos c_84] at hJ84
        refine wl_iconst (v := 1) C dX5_shareBits_110 (by decide) ?_
        refine wl_goto C 115 dX5_shareBits_111 (by decide) ?_
        exact hJ84
      · rw [if_neg c_84] at hJ84
        refine wl_ldc2 C cn161 dX5_shareBits_87 ?_
        refine wl_eql (b := lI 2) (rfl) ?_
        refine wl_lload C 0 dX5_shareBits_90 rfl ?_
        refine wl_lmul C dX5_shareBits_92 ?_
        refine wl_eql (b := lI (2 * shm a b)) (lI_mul _ _) ?_
        refine wl_lload C 3 dX5_shareBits_93 rfl ?_
        refine wl_lcmp C dX5_shareBits_95 ?_
        suffices hJ96 : WL x G (AA G sz) 12 0 0 QQ M 115 [(9, .long (lI (shm a b))), (7, .long (lI (shq a b))), (2, .long (lI (shn a b))), (4, .long (lI b)), (6, .int (nI (127 - nmK a b)))] [.int (if (lg_cmp (lI (2 * shm a b)) (lI b)) = 0 then if (lg_cmp (lI (shq a b % 2)) (lI 1)) = 0 then (1 : Int32) else (0 : Int32) else (0 : Int32))] by
          refine wl_if_ne C 114 dX5_shareBits_96 (by decide) (fun c_96 => ?_) (fun c_96 => ?_)
          · rw [if_neg c_96] at hJ96
            refine wl_iconst (v := 0) C dX5_shareBits_114 (by decide) ?_
            exact hJ96
          · rw [if_pos c_96] at hJ96
            refine wl_lload C 1 dX5_shareBits_99 rfl ?_
            refine wl_ldc2 C cn161 dX5_shareBits_101 ?_
            refine wl_eql (b := lI 2) (rfl) ?_
            refine wl_lrem C dX5_shareBits_104 (by decide) ?_
            refine wl_eql (b := lI (shq a b % 2)) (lI_rem (by omega) (by decide) (by omega)) ?_
            refine wl_lconst (v := 1) C dX5_shareBits_105 (by decide) ?_
            refine wl_eql (b := lI 1) (rfl) ?_
            refine wl_lcmp C dX5_shareBits_106 ?_
            suffices hJ107 : WL x G (AA G sz) 12 0 0 QQ M 115 [(9, .long (lI (shm a b))), (7, .long (lI (shq a b))), (2, .long (lI (shn a b))), (4, .long (lI b)), (6, .int (nI (127 - nmK a b)))] [.int (if (lg_cmp (lI (shq a b % 2)) (lI 1)) = 0 then (1 : Int32) else (0 : Int32))] by
              refine wl_if_ne C 114 dX5_shareBits_107 (by decide) (fun c_107 => ?_) (fun c_107 => ?_)
              · rw [if_neg c_107] at hJ107
                refine wl_iconst (v := 0) C dX5_shareBits_114 (by decide) ?_
                exact hJ107
              · rw [if_pos c_107] at hJ107
                refine wl_iconst (v := 1) C dX5_shareBits_110 (by decide) ?_
                refine wl_goto C 115 dX5_shareBits_111 (by decide) ?_
                exact hJ107
            exact hJ96
        exact hJ84
    refine wl_eqi (b := bi (shU a b)) (shU_val ha hb hab) ?_
    refine wl_istore (L' := [(11, .int (bi (shU a b))), (9, .long (lI (shm a b))), (7, .long (lI (shq a b))), (2, .long (lI (shn a b))), (4, .long (lI b)), (6, .int (nI (127 - nmK a b)))]) C dX5_shareBits_115 (by decide) rfl ?_
    refine wl_lload C 2 dX5_shareBits_117 rfl ?_
    refine wl_iload C 0 dX5_shareBits_119 rfl ?_
    refine wl_if_eqB C 128 dX5_shareBits_121 (by decide) (fun c_121 => ?_) (fun c_121 => ?_)
    · refine wl_lconst (v := 0) C dX5_shareBits_128 (by decide) ?_
      refine wl_eql (b := lI 0) (rfl) ?_
      refine wl_ladd C dX5_shareBits_129 ?_
      refine wl_eql (b := lI (shN a b)) (by first | exact (lI_add _ _).trans (congrArg lI (shN_t c_121)) | exact (lI_add _ _).trans (congrArg lI (shN_f c_121))) ?_
      refine wl_lstore (L' := [(7, .long (lI (shN a b))), (11, .int (bi (shU a b))), (9, .long (lI (shm a b))), (2, .long (lI (shn a b))), (4, .long (lI b)), (6, .int (nI (127 - nmK a b)))]) C dX5_shareBits_130 (by decide) rfl ?_
      refine wl_lload C 0 dX5_shareBits_132 rfl ?_
      refine wl_ldc2 C cn173 dX5_shareBits_134 ?_
      refine wl_eql (b := lI 16777216) (rfl) ?_
      refine wl_lcmp C dX5_shareBits_137 ?_
      refine wl_if_ne C 149 dX5_shareBits_138 (by decide) (fun c_138 => ?_) (fun c_138 => absurd c_138 (fun z => absurd ((lI_cmp0 (by omega) (by omega)).mp z) (by omega)))
      refine wl_iload C 5 dX5_shareBits_149 rfl ?_
      refine wl_i2l (v := lI (127 - nmK a b)) C dX5_shareBits_151 (lI_of (by omega)) ?_
      refine wl_ldc2 C cn171 dX5_shareBits_152 ?_
      refine wl_eql (b := lI 8388608) (rfl) ?_
      refine wl_lmul C dX5_shareBits_155 ?_
      refine wl_eql (b := lI ((127 - nmK a b) * 8388608)) (lI_mul _ _) ?_
      refine wl_lload C 0 dX5_shareBits_156 rfl ?_
      refine wl_ladd C dX5_shareBits_158 ?_
      refine wl_eql (b := lI ((127 - nmK a b) * 8388608 + shN a b)) (lI_add _ _) ?_
      refine wl_ldc2 C cn171 dX5_shareBits_159 ?_
      refine wl_eql (b := lI 8388608) (rfl) ?_
      refine wl_lsub C dX5_shareBits_162 ?_
      refine wl_eql (b := lI ((127 - nmK a b) * 8388608 + shN a b - 8388608)) (lI_sub (by omega)) ?_
      refine wl_l2i (v := nI ((127 - nmK a b) * 8388608 + shN a b - 8388608)) C dX5_shareBits_163 (lI_i (by omega)) ?_
      exact hret _ 164 _ (nI ((127 - nmK a b) * 8388608 + shN a b - 8388608)) dX5_shareBits_164 (⟨by rw [shB_eq ha hb hab, Nat.add_sub_assoc s5.1], rfl⟩)
    · refine wl_lconst (v := 1) C dX5_shareBits_124 (by decide) ?_
      refine wl_eql (b := lI 1) (rfl) ?_
      refine wl_goto C 129 dX5_shareBits_125 (by decide) ?_
      refine wl_ladd C dX5_shareBits_129 ?_
      refine wl_eql (b := lI (shN a b)) (by first | exact (lI_add _ _).trans (congrArg lI (shN_t c_121)) | exact (lI_add _ _).trans (congrArg lI (shN_f c_121))) ?_
      refine wl_lstore (L' := [(7, .long (lI (shN a b))), (11, .int (bi (shU a b))), (9, .long (lI (shm a b))), (2, .long (lI (shn a b))), (4, .long (lI b)), (6, .int (nI (127 - nmK a b)))]) C dX5_shareBits_130 (by decide) rfl ?_
      refine wl_lload C 0 dX5_shareBits_132 rfl ?_
      refine wl_ldc2 C cn173 dX5_shareBits_134 ?_
      refine wl_eql (b := lI 16777216) (rfl) ?_
      refine wl_lcmp C dX5_shareBits_137 ?_
      refine wl_if_ne C 149 dX5_shareBits_138 (by decide) (fun c_138 => ?_) (fun c_138 => absurd c_138 (fun z => absurd ((lI_cmp0 (by omega) (by omega)).mp z) (by omega)))
      refine wl_iload C 5 dX5_shareBits_149 rfl ?_
      refine wl_i2l (v := lI (127 - nmK a b)) C dX5_shareBits_151 (lI_of (by omega)) ?_
      refine wl_ldc2 C cn171 dX5_shareBits_152 ?_
      refine wl_eql (b := lI 8388608) (rfl) ?_
      refine wl_lmul C dX5_shareBits_155 ?_
      refine wl_eql (b := lI ((127 - nmK a b) * 8388608)) (lI_mul _ _) ?_
      refine wl_lload C 0 dX5_shareBits_156 rfl ?_
      refine wl_ladd C dX5_shareBits_158 ?_
      refine wl_eql (b := lI ((127 - nmK a b) * 8388608 + shN a b)) (lI_add _ _) ?_
      refine wl_ldc2 C cn171 dX5_shareBits_159 ?_
      refine wl_eql (b := lI 8388608) (rfl) ?_
      refine wl_lsub C dX5_shareBits_162 ?_
      refine wl_eql (b := lI ((127 - nmK a b) * 8388608 + shN a b - 8388608)) (lI_sub (by omega)) ?_
      refine wl_l2i (v := nI ((127 - nmK a b) * 8388608 + shN a b - 8388608)) C dX5_shareBits_163 (lI_i (by omega)) ?_
      exact hret _ 164 _ (nI ((127 - nmK a b) * 8388608 + shN a b - 8388608)) dX5_shareBits_164 (⟨by rw [shB_eq ha hb hab, Nat.add_sub_assoc s5.1], rfl⟩)
  refine wl_iload_n C 0 dX5_shareBits_0 rfl rfl ?_
  refine wl_i2l (v := lI a) C dX5_shareBits_1 (lI_of (by omega)) ?_
  refine wl_lstore_n (L' := [(2, .long (lI a)), (0, .int (nI a)), (1, .int (nI b))]) C dX5_shareBits_2 rfl (by decide) rfl ?_
  refine wl_iload_n C 2 dX5_shareBits_3 rfl rfl ?_
  refine wl_i2l (v := lI b) C dX5_shareBits_4 (lI_of (by omega)) ?_
  refine wl_lstore (L' := [(4, .long (lI b)), (2, .long (lI a)), (0, .int (nI a)), (1, .int (nI b))]) C dX5_shareBits_5 (by decide) rfl ?_
  refine wl_bipush (v := nI 127) C dX5_shareBits_7 (by decide) ?_
  refine wl_istore (L' := [(6, .int (nI 127)), (4, .long (lI b)), (2, .long (lI a)), (0, .int (nI a)), (1, .int (nI b))]) C dX5_shareBits_9 (by decide) rfl ?_
  refine wl_lload_n C 2 dX5_shareBits_11 rfl rfl ?_
  refine wl_ldc2 C cn161 dX5_shareBits_12 ?_
  refine wl_eql (b := lI 2) (rfl) ?_
  refine wl_lload C 1 dX5_shareBits_15 rfl ?_
  refine wl_lmul C dX5_shareBits_17 ?_
  refine wl_eql (b := lI (2 * b)) (lI_mul _ _) ?_
  refine wl_lcmp C dX5_shareBits_18 ?_
  refine wl_if_lt C 36 dX5_shareBits_19 (by decide) (fun c_19 => ?_) (fun c_19 => absurd c_19 (fun z => z ((lI_lt (by omega) (by omega)).mpr (by omega))))
  have h36 : ∀ j, j ≤ nmK a b → WL x G (AA G sz) 12 0 0 QQ M 36 [(2, .long (lI (a * 2 ^ j))), (4, .long (lI b)), (6, .int (nI (127 - j)))] [] := by
    refine up_loop (nmK a b) _ ?_
    intro j hj1 ih
    refine wl_lload_n C 0 dX5_shareBits_36 rfl rfl ?_
    refine wl_lload C 1 dX5_shareBits_37 rfl ?_
    refine wl_lcmp C dX5_shareBits_39 ?_
    refine wl_if_ge C 55 dX5_shareBits_40 (by decide) (fun c_40 => ?_) (fun c_40 => ?_)
    · have ej : j = nmK a b := by
        apply Classical.byContradiction
        intro z
        have := n4 j (by omega)
        have := (lI_cmpge (by omega) (by omega)).mp c_40
        omega
      rw [ej]
      exact h55
    · have hj : j < nmK a b := Nat.lt_of_le_of_ne hj1 (fun z => c_40 ((lI_cmpge (by rw [z]; omega) (by omega)).mpr (by rw [z]; exact n1)))
      refine wl_lload_n C 0 dX5_shareBits_43 rfl rfl ?_
      refine wl_ldc2 C cn161 dX5_shareBits_44 ?_
      refine wl_eql (b := lI 2) (rfl) ?_
      refine wl_lmul C dX5_shareBits_47 ?_
      refine wl_eql (b := lI (a * 2 ^ (j + 1))) (by rw [lI_mul, Nat.pow_succ, Nat.mul_assoc]) ?_
      refine wl_lstore_n (L' := [(2, .long (lI (a * 2 ^ (j + 1)))), (4, .long (lI b)), (6, .int (nI (127 - j)))]) C dX5_shareBits_48 rfl (by decide) rfl ?_
      refine wl_iinc (w := nI (127 - (j + 1))) (L' := [(6, .int (nI (127 - (j + 1)))), (2, .long (lI (a * 2 ^ (j + 1)))), (4, .long (lI b))]) C 2 dX5_shareBits_49 rfl (by rw [show 127 - j = 127 - (j + 1) + 1 by omega]; exact nI_dec _) (by decide) rfl ?_
      refine wl_goto C 36 dX5_shareBits_52 (by decide) ?_
      refine wl_sub (L' := [(2, .long (lI (a * 2 ^ (j + 1)))), (4, .long (lI b)), (6, .int (nI (127 - (j + 1))))]) [1, 2, 0] rfl ?_
      exact ih hj
  refine wl_sub (L' := [(2, .long (lI a)), (4, .long (lI b)), (6, .int (nI 127))]) [2, 1, 0] rfl ?_
  rw [show lI a = lI (a * 2 ^ 0) by rw [Nat.pow_zero, Nat.mul_one]]
  exact h36 0 (Nat.zero_le _)
set_option maxHeartbeats 4000000 in
set_option maxRecDepth 100000 in
theorem c_X5_density (l : Launch) (G : Gw) (M : Mem) (σ : Sy) (hR : RM M σ) (hO : OkY σ) : Ci l G yX5_density wsX5_density 4 88 [.ref (G.2.2.1 232)] M (fun r M' => r = denY σ ∧ RM M' σ ∧ FrM M M') := by
  refine Ci.of (cc := cX5_density) (maxL := 2) (ret := (some .int)) (by decide +kernel) rfl (Nat.le_of_ble_eq_true rfl) ?_
  intro x sz hl0 hr C
  subst hl0
  have C : CX x G (AA G sz) RX5 cX5_density 2 wsX5_density 4 88 0 0 := C
  have hret : ∀ (M0 : Mem) (pc0 : Nat) (L0 : List (Nat × Value)) (rv0 : Int32), decode cX5_density pc0 = .ok (.ireturn, 1) → (fun r M' => r = denY σ ∧ RM M' σ ∧ FrM M M') rv0 M0 → WL x G (AA G sz) 2 0 0 (xQ x (va_Qi (fun r M' => r = denY σ ∧ RM M' σ ∧ FrM M M') (WE G) (AA G sz)) (AA G sz)) M0 pc0 L0 [.int rv0] := fun M0 pc0 L0 rv0 hd hp => wl_iret (post := (fun r M' => r = denY σ ∧ RM M' σ ∧ FrM M M')) C hr hd hp
  show WL x G (AA G sz) 2 0 0 (xQ x (va_Qi (fun r M' => r = denY σ ∧ RM M' σ ∧ FrM M M') (WE G) (AA G sz)) (AA G sz)) M 0 [(0, .ref (G.2.2.1 232))] []
  generalize (xQ x (va_Qi (fun r M' => r = denY σ ∧ RM M' σ ∧ FrM M M') (WE G) (AA G sz)) (AA G sz)) = QQ at hret ⊢
  have in5 : ∀ w ∈ wsX50, w ∈ wsX5_density := by decide +kernel
  have fl7 : Jvm.Cond.fieldLink RX5 7 "JammedBodiesModel" "all" "[I" ∈ wsX5_density := by decide +kernel
  have hs := hR.1
  have hW := hO.1.1
  have h8 := hs.r
  obtain ⟨na, nb, ea, eb, hb0, hb14, hab, hdn⟩ := den_num hO h8 (fun k hk => (hs.2.2.2.2 k hk).2.1)
  refine wl_aload_n C 0 dX5_density_0 rfl rfl ?_
  refine wl_callVp (i := 232) (n := 0) C [] [] (c_X5_areas _ G M σ.1 hs hW) gX5_density_X5_areas rfl (by decide +kernel) (by decide) (by decide) (kd_lt (k := 5) (by decide) (by decide)) (cell_k (k := 5) (by decide)) rfl rfl rfl (Nat.le_of_ble_eq_true rfl) dX5_density_1 ?_
  refine wl_eqi (b := nI na) (ea) ?_
  refine wl_istore_n (L' := [(1, .int (nI na)), (0, .ref (G.2.2.1 232))]) C dX5_density_4 rfl (by decide) rfl ?_
  refine wl_iload_n C 0 dX5_density_5 rfl rfl ?_
  refine wl_if_ne C 13 dX5_density_6 (by decide) (fun c_6 => ?_) (fun c_6 => ?_)
  · have hap : 0 < na := Nat.pos_of_ne_zero (fun z => c_6 (by rw [z]; rfl))
    refine wl_iload_n C 0 dX5_density_13 rfl rfl ?_
    refine wl_iconst (v := 2) C dX5_density_14 (by decide) ?_
    refine wl_aload_n C 1 dX5_density_15 rfl rfl ?_
    refine wl_get_Model_all (i := 232) C (by decide) in5 fl7 dX5_density_16 ?_
    refine wl_iconst (v := 0) C dX5_density_19 (by decide) ?_
    refine wl_iald (j := 0) (n := 120) (v := σ.1.2.1) C (by decide) (cell_k (k := 10) (by decide)) (rfl) (by decide) (by decide) hs.1 dX5_density_20 ?_
    refine wl_imul C dX5_density_21 ?_
    refine wl_aload_n C 1 dX5_density_22 rfl rfl ?_
    refine wl_get_Model_all (i := 232) C (by decide) in5 fl7 dX5_density_23 ?_
    refine wl_iconst (v := 1) C dX5_density_26 (by decide) ?_
    refine wl_iald (j := 1) (n := 120) (v := σ.1.2.2.1) C (by decide) (cell_k (k := 10) (by decide)) (rfl) (by decide) (by decide) hs.2.1 dX5_density_27 ?_
    refine wl_imul C dX5_density_28 ?_
    refine wl_eqi (b := nI nb) (eb) ?_
    refine wl_callSp (n := 2) C [.int (nI na), .int (nI nb)] [] (c_X5_shareBits _ G M na nb hap hb14 hab) gX5_density_X5_shareBits rfl (by decide +kernel) (by decide) (by decide) rfl rfl (Nat.le_of_ble_eq_true rfl) dX5_density_29 ?_
    exact hret _ 32 _ (shB na nb) dX5_density_32 (⟨by rw [hdn, if_neg (by omega)], hR, FrM.rf⟩)
  · have ha0 : na = 0 := Nat.eq_zero_of_not_pos (fun q => nI_ne0 q (by omega) c_6)
    refine wl_iconst (v := 0) C dX5_density_9 (by decide) ?_
    refine wl_goto C 32 dX5_density_10 (by decide) ?_
    exact hret _ 32 _ 0 dX5_density_32 (⟨by rw [hdn, if_pos ha0], hR, FrM.rf⟩)
