set_option maxHeartbeats 4000000 in
set_option maxRecDepth 100000 in
theorem c_X5_takes (l : Launch) (G : Gw) (M : Mem) (T : Tx) (c : Nat) (hT : TxR M T) (hok : TxOk T) (hc : M 232 6 = nI c) (hcl : c ≤ T.1) (w : Int32) (hw : ¬ w = 0) : Ci l G yX5_takes wsX5_takes 0 0 [.ref (G.2.2.1 232), .int w] M (fun r M' => r = bi (decide (chT T c = w)) ∧ M' = mset M 232 6 (nI (if decide (chT T c = w) = true then c + 1 else c))) := by
  refine Ci.of (cc := cX5_takes) (maxL := 3) (ret := (some .boolean)) (by decide +kernel) rfl (Nat.le_of_ble_eq_true rfl) ?_
  intro x sz hl0 hr C
  subst hl0
  have C : CX x G (AA G sz) RX5 cX5_takes 3 wsX5_takes 0 0 0 0 := C
  have hret : ∀ (M0 : Mem) (pc0 : Nat) (L0 : List (Nat × Value)) (rv0 : Int32), narrow .boolean (.int rv0) = .int rv0 → decode cX5_takes pc0 = .ok (.ireturn, 1) → (fun r M' => r = bi (decide (chT T c = w)) ∧ M' = mset M 232 6 (nI (if decide (chT T c = w) = true then c + 1 else c))) rv0 M0 → WL x G (AA G sz) 3 0 0 (xQ x (va_Qi (fun r M' => r = bi (decide (chT T c = w)) ∧ M' = mset M 232 6 (nI (if decide (chT T c = w) = true then c + 1 else c))) (WE G) (AA G sz)) (AA G sz)) M0 pc0 L0 [.int rv0] := fun M0 pc0 L0 rv0 hn hd hp => wl_zret (post := (fun r M' => r = bi (decide (chT T c = w)) ∧ M' = mset M 232 6 (nI (if decide (chT T c = w) = true then c + 1 else c)))) C hr hn hd hp
  show WL x G (AA G sz) 3 0 0 (xQ x (va_Qi (fun r M' => r = bi (decide (chT T c = w)) ∧ M' = mset M 232 6 (nI (if decide (chT T c = w) = true then c + 1 else c))) (WE G) (AA G sz)) (AA G sz)) M 0 [(0, .ref (G.2.2.1 232)), (1, .int w)] []
  generalize (xQ x (va_Qi (fun r M' => r = bi (decide (chT T c = w)) ∧ M' = mset M 232 6 (nI (if decide (chT T c = w) = true then c + 1 else c))) (WE G) (AA G sz)) (AA G sz)) = QQ at hret ⊢
  have in5 : ∀ w ∈ wsX50, w ∈ wsX5_takes := by decide +kernel
  have fl195 : Jvm.Cond.fieldLink RX5 195 "JammedBodiesModel" "spot" "I" ∈ wsX5_takes := by decide +kernel
  have fl188 : Jvm.Cond.fieldLink RX5 188 "JammedBodiesModel" "textLong" "I" ∈ wsX5_takes := by decide +kernel
  have fl19 : Jvm.Cond.fieldLink RX5 19 "JammedBodiesModel" "text" "[I" ∈ wsX5_takes := by decide +kernel
  have h60 := hok.1
  refine wl_aload_n C 0 dX5_takes_0 rfl rfl ?_
  refine wl_get_Model_spot (i := 232) (v := nI c) C (by decide) in5 fl195 hc dX5_takes_1 ?_
  refine wl_aload_n C 0 dX5_takes_4 rfl rfl ?_
  refine wl_get_Model_textLong (i := 232) (v := nI T.1) C (by decide) in5 fl188 hT.1 dX5_takes_5 ?_
  suffices hJ8 : WL x G (AA G sz) 3 0 0 QQ M 29 [(0, .ref (G.2.2.1 232)), (1, .int w)] [.int (if T.1 ≤ c then (0 : Int32) else if (T.2 c) = w then (1 : Int32) else (0 : Int32))] by
    refine wl_icmp_geN C (a := c) (b := T.1) (by omega) (by omega) 28 dX5_takes_8 (by decide) (fun c_8 => ?_) (fun c_8 => ?_)
    · rw [if_pos c_8] at hJ8
      refine wl_iconst (v := 0) C dX5_takes_28 (by decide) ?_
      exact hJ8
    · rw [if_neg c_8] at hJ8
      refine wl_aload_n C 0 dX5_takes_11 rfl rfl ?_
      refine wl_get_Model_text (i := 232) C (by decide) in5 fl19 dX5_takes_12 ?_
      refine wl_aload_n C 0 dX5_takes_15 rfl rfl ?_
      refine wl_get_Model_spot (i := 232) (v := nI c) C (by decide) in5 fl195 hc dX5_takes_16 ?_
      refine wl_iald (j := c) (n := 60) (v := T.2 c) C (by decide) (cell_k (k := 12) (by decide)) (rfl) (by omega) (by decide) (hT.2 c (by omega)) dX5_takes_19 ?_
      refine wl_iload_n C 1 dX5_takes_20 rfl rfl ?_
      suffices hJ21 : WL x G (AA G sz) 3 0 0 QQ M 29 [(0, .ref (G.2.2.1 232)), (1, .int w)] [.int (if (T.2 c) = w then (1 : Int32) else (0 : Int32))] by
        refine wl_icmp_ne C 28 dX5_takes_21 (by decide) (fun c_21 => ?_) (fun c_21 => ?_)
        · rw [if_neg c_21] at hJ21
          refine wl_iconst (v := 0) C dX5_takes_28 (by decide) ?_
          exact hJ21
        · rw [if_pos c_21] at hJ21
          refine wl_iconst (v := 1) C dX5_takes_24 (by decide) ?_
          refine wl_goto C 29 dX5_takes_25 (by decide) ?_
          exact hJ21
      exact hJ8
  refine wl_eqi (b := bi (decide (chT T c = w))) (tk_val hw) ?_
  refine wl_istore_n (L' := [(2, .int (bi (decide (chT T c = w)))), (0, .ref (G.2.2.1 232)), (1, .int w)]) C dX5_takes_29 rfl (by decide) rfl ?_
  refine wl_aload_n C 1 dX5_takes_30 rfl rfl ?_
  refine wl_dup C dX5_takes_31 rfl ?_
  refine wl_get_Model_spot (i := 232) (v := nI c) C (by decide) in5 fl195 hc dX5_takes_32 ?_
  refine wl_iload_n C 0 dX5_takes_35 rfl rfl ?_
  suffices hJ36 : WL x G (AA G sz) 3 0 0 QQ M 44 [(2, .int (bi (decide (chT T c = w)))), (0, .ref (G.2.2.1 232)), (1, .int w)] [.int (if (decide (chT T c = w)) = true then (1 : Int32) else (0 : Int32)), .int (nI c), .ref (G.2.2.1 232)] by
    refine wl_if_eqB C 43 dX5_takes_36 (by decide) (fun c_36 => ?_) (fun c_36 => ?_)
    · rw [if_neg (by rw [c_36]; exact Bool.false_ne_true)] at hJ36
      refine wl_iconst (v := 0) C dX5_takes_43 (by decide) ?_
      exact hJ36
    · rw [if_pos c_36] at hJ36
      refine wl_iconst (v := 1) C dX5_takes_39 (by decide) ?_
      refine wl_goto C 44 dX5_takes_40 (by decide) ?_
      exact hJ36
  refine wl_iadd C dX5_takes_44 ?_
  refine wl_eqi (b := nI (if decide (chT T c = w) = true then c + 1 else c)) (tk_add) ?_
  refine wl_put_Model_spot (i := 232) C (by decide) in5 fl195 dX5_takes_45 ?_
  refine wl_iload_n C 0 dX5_takes_48 rfl rfl ?_
  exact hret _ 49 _ (bi (decide (chT T c = w))) (narrow_bi _) dX5_takes_49 (⟨rfl, rfl⟩)
set_option maxHeartbeats 4000000 in
set_option maxRecDepth 100000 in
theorem c_X5_takesNumber (l : Launch) (G : Gw) (M : Mem) (T : Tx) (c : Nat) (hT : TxR M T) (hok : TxOk T) (hc : M 232 6 = nI c) (hcl : c ≤ T.1) (q : Nat) (hq : (60 ≤ q ∧ q < 66) ∨ (114 ≤ q ∧ q < 120)) : Ci l G yX5_takesNumber wsX5_takesNumber 1 25 [.ref (G.2.2.1 232), .int (nI q)] M (fun r M' => r = bi (decide (¬ (nuT T c).1 < 0)) ∧ M' 232 6 = nI (nuT T c).2 ∧ OnT M M' ∧ (¬ (nuT T c).1 < 0 → M' 233 q = (nuT T c).1) ∧ ∀ j, j ≠ q → M' 233 j = M 233 j) := by
  refine Ci.of (cc := cX5_takesNumber) (maxL := 3) (ret := (some .boolean)) (by decide +kernel) rfl (Nat.le_of_ble_eq_true rfl) ?_
  intro x sz hl0 hr C
  subst hl0
  have C : CX x G (AA G sz) RX5 cX5_takesNumber 3 wsX5_takesNumber 1 25 0 0 := C
  have hret : ∀ (M0 : Mem) (pc0 : Nat) (L0 : List (Nat × Value)) (rv0 : Int32), narrow .boolean (.int rv0) = .int rv0 → decode cX5_takesNumber pc0 = .ok (.ireturn, 1) → (fun r M' => r = bi (decide (¬ (nuT T c).1 < 0)) ∧ M' 232 6 = nI (nuT T c).2 ∧ OnT M M' ∧ (¬ (nuT T c).1 < 0 → M' 233 q = (nuT T c).1) ∧ ∀ j, j ≠ q → M' 233 j = M 233 j) rv0 M0 → WL x G (AA G sz) 3 0 0 (xQ x (va_Qi (fun r M' => r = bi (decide (¬ (nuT T c).1 < 0)) ∧ M' 232 6 = nI (nuT T c).2 ∧ OnT M M' ∧ (¬ (nuT T c).1 < 0 → M' 233 q = (nuT T c).1) ∧ ∀ j, j ≠ q → M' 233 j = M 233 j) (WE G) (AA G sz)) (AA G sz)) M0 pc0 L0 [.int rv0] := fun M0 pc0 L0 rv0 hn hd hp => wl_zret (post := (fun r M' => r = bi (decide (¬ (nuT T c).1 < 0)) ∧ M' 232 6 = nI (nuT T c).2 ∧ OnT M M' ∧ (¬ (nuT T c).1 < 0 → M' 233 q = (nuT T c).1) ∧ ∀ j, j ≠ q → M' 233 j = M 233 j)) C hr hn hd hp
  show WL x G (AA G sz) 3 0 0 (xQ x (va_Qi (fun r M' => r = bi (decide (¬ (nuT T c).1 < 0)) ∧ M' 232 6 = nI (nuT T c).2 ∧ OnT M M' ∧ (¬ (nuT T c).1 < 0 → M' 233 q = (nuT T c).1) ∧ ∀ j, j ≠ q → M' 233 j = M 233 j) (WE G) (AA G sz)) (AA G sz)) M 0 [(0, .ref (G.2.2.1 232)), (1, .int (nI q))] []
  generalize (xQ x (va_Qi (fun r M' => r = bi (decide (¬ (nuT T c).1 < 0)) ∧ M' 232 6 = nI (nuT T c).2 ∧ OnT M M' ∧ (¬ (nuT T c).1 < 0 → M' 233 q = (nuT T c).1) ∧ ∀ j, j ≠ q → M' 233 j = M 233 j) (WE G) (AA G sz)) (AA G sz)) = QQ at hret ⊢
  have in5 : ∀ w ∈ wsX50, w ∈ wsX5_takesNumber := by decide +kernel
  have fl195 : Jvm.Cond.fieldLink RX5 195 "JammedBodiesModel" "spot" "I" ∈ wsX5_takesNumber := by decide +kernel
  have fl7 : Jvm.Cond.fieldLink RX5 7 "JammedBodiesModel" "all" "[I" ∈ wsX5_takesNumber := by decide +kernel
  have fl188 : Jvm.Cond.fieldLink RX5 188 "JammedBodiesModel" "textLong" "I" ∈ wsX5_takesNumber := by decide +kernel
  have fl19 : Jvm.Cond.fieldLink RX5 19 "JammedBodiesModel" "text" "[I" ∈ wsX5_takesNumber := by decide +kernel
  have cn198 : Jvm.Cond.constantLong RX5 198 (48) ∈ wsX5_takesNumber := by decide +kernel
  have cn200 : Jvm.Cond.constantLong RX5 200 (57) ∈ wsX5_takesNumber := by decide +kernel
  have h60 := hok.1
  refine wl_aload_n C 0 dX5_takesNumber_0 rfl rfl ?_
  refine wl_get_Model_spot (i := 232) (v := nI c) C (by decide) in5 fl195 hc dX5_takesNumber_1 ?_
  refine wl_istore_n (L' := [(2, .int (nI c)), (0, .ref (G.2.2.1 232)), (1, .int (nI q))]) C dX5_takesNumber_4 rfl (by decide) rfl ?_
  refine wl_aload_n C 1 dX5_takesNumber_5 rfl rfl ?_
  refine wl_get_Model_all (i := 232) C (by decide) in5 fl7 dX5_takesNumber_6 ?_
  refine wl_iload_n C 2 dX5_takesNumber_9 rfl rfl ?_
  refine wl_iconst (v := 0) C dX5_takesNumber_10 (by first | decide | rfl) ?_
  refine wl_iast (j := q) (n := 120) C (by decide) (fun M => (cell_k (k := 10) (by decide))) (rfl) (by omega) (by decide) dX5_takesNumber_11 ?_
  have h12 : ∀ t, t ≤ 2 → ∀ (v : Int32) (M2 : Mem), nmI T c t v ∧ nsI M c t q v M2 → WL x G (AA G sz) 3 0 0 QQ M2 12 [(0, .ref (G.2.2.1 232)), (1, .int (nI q)), (2, .int (nI c))] [] := by
    refine up_loop 2 _ ?_
    intro t ht ih v M2 hvI
    have hv := hvI.1
    have hI := hvI.2
    refine wl_aload_n C 0 dX5_takesNumber_12 rfl rfl ?_
    have h96 : t = 2 ∨ noDg (chT T (c + t)) = true → WL x G (AA G sz) 3 0 0 QQ M2 96 [(0, .ref (G.2.2.1 232)), (1, .int (nI q)), (2, .int (nI c))] [] := by
      intro ht2
      have he := nm_end hv ht2
      refine wl_aload_n C 0 dX5_takesNumber_96 rfl rfl ?_
      refine wl_get_Model_spot (i := 232) (v := nI (c + t)) C (by decide) in5 fl195 hI.1 dX5_takesNumber_97 ?_
      refine wl_iload_n C 2 dX5_takesNumber_100 rfl rfl ?_
      suffices hJ101 : WL x G (AA G sz) 3 0 0 QQ M2 109 [(0, .ref (G.2.2.1 232)), (1, .int (nI q)), (2, .int (nI c))] [.int (if (c + t) ≤ c then (0 : Int32) else (1 : Int32))] by
        refine wl_icmp_leN C (a := (c + t)) (b := c) (by omega) (by omega) 108 dX5_takesNumber_101 (by decide) (fun c_101 => ?_) (fun c_101 => ?_)
        · rw [if_pos c_101] at hJ101
          refine wl_iconst (v := 0) C dX5_takesNumber_108 (by decide) ?_
          exact hJ101
        · rw [if_neg c_101] at hJ101
          refine wl_iconst (v := 1) C dX5_takesNumber_104 (by decide) ?_
          refine wl_goto C 109 dX5_takesNumber_105 (by decide) ?_
          exact hJ101
      refine wl_eqi (b := bi (decide (¬ (nuT T c).1 < 0))) (nu_ret he) ?_
      exact hret _ 109 _ (bi (decide (¬ (nuT T c).1 < 0))) (narrow_bi _) dX5_takesNumber_109 (⟨rfl, by rw [he.1]; exact hI.1, hI.onT hq, fun z => (hI.2.1).trans (he.2.2 (fun z2 => z (he.2.1.mpr z2))).symm, hI.2.2.2.1⟩)
    refine wl_get_Model_spot (i := 232) (v := nI (c + t)) C (by decide) in5 fl195 hI.1 dX5_takesNumber_13 ?_
    refine wl_aload_n C 0 dX5_takesNumber_16 rfl rfl ?_
    refine wl_get_Model_textLong (i := 232) (v := nI T.1) C (by decide) in5 fl188 (hI.tx hT).1 dX5_takesNumber_17 ?_
    refine wl_icmp_geN C (a := (c + t)) (b := T.1) (by omega) (by omega) 96 dX5_takesNumber_20 (by decide) (fun c_20 => ?_) (fun c_20 => ?_)
    · exact h96 (Or.inr (noDg_out (by omega)))
    · refine wl_aload_n C 0 dX5_takesNumber_23 rfl rfl ?_
      refine wl_get_Model_spot (i := 232) (v := nI (c + t)) C (by decide) in5 fl195 hI.1 dX5_takesNumber_24 ?_
      refine wl_iload_n C 2 dX5_takesNumber_27 rfl rfl ?_
      refine wl_iconst (v := 2) C dX5_takesNumber_28 (by decide) ?_
      refine wl_iadd C dX5_takesNumber_29 ?_
      refine wl_eqi (b := nI (c + 2)) (nI_add c 2) ?_
      refine wl_icmp_geN C (a := (c + t)) (b := (c + 2)) (by omega) (by omega) 96 dX5_takesNumber_30 (by decide) (fun c_30 => ?_) (fun c_30 => ?_)
      · exact h96 (Or.inl (by omega))
      · refine wl_aload_n C 0 dX5_takesNumber_33 rfl rfl ?_
        refine wl_get_Model_text (i := 232) C (by decide) in5 fl19 dX5_takesNumber_34 ?_
        refine wl_aload_n C 0 dX5_takesNumber_37 rfl rfl ?_
        refine wl_get_Model_spot (i := 232) (v := nI (c + t)) C (by decide) in5 fl195 hI.1 dX5_takesNumber_38 ?_
        refine wl_iald (j := c + t) (n := 60) (v := T.2 (c + t)) C (by decide) (cell_k (k := 12) (by decide)) (rfl) (by omega) (by decide) ((hI.tx hT).2 _ (by omega)) dX5_takesNumber_41 ?_
        refine wl_i2l (v := (T.2 (c + t)).toInt64) C dX5_takesNumber_42 (rfl) ?_
        refine wl_ldc2 C cn198 dX5_takesNumber_43 ?_
        refine wl_ldc2 C cn200 dX5_takesNumber_46 ?_
        refine wl_callSp (n := 3) C [.long ((T.2 (c + t)).toInt64), .long 48, .long 57] [] (c_X5_in _ G M2 ((T.2 (c + t)).toInt64) 48 57) gX5_takesNumber_X5_in rfl (by decide +kernel) (by decide) (by decide) rfl rfl (Nat.le_of_ble_eq_true rfl) dX5_takesNumber_49 ?_
        refine wl_eqi (b := bi (!noDg (chT T (c + t)))) (by rw [dg_in]; unfold chT; rw [if_pos (by omega)]) ?_
        refine wl_if_eqB C 96 dX5_takesNumber_52 (by decide) (fun c_52 => ?_) (fun c_52 => ?_)
        · exact h96 (Or.inr (bn_t c_52))
        · refine wl_aload_n C 0 dX5_takesNumber_55 rfl rfl ?_
          refine wl_get_Model_all (i := 232) C (by decide) in5 fl7 dX5_takesNumber_56 ?_
          refine wl_iload_n C 1 dX5_takesNumber_59 rfl rfl ?_
          refine wl_bipush (v := 10) C dX5_takesNumber_60 (by decide) ?_
          refine wl_aload_n C 0 dX5_takesNumber_62 rfl rfl ?_
          refine wl_get_Model_all (i := 232) C (by decide) in5 fl7 dX5_takesNumber_63 ?_
          refine wl_iload_n C 1 dX5_takesNumber_66 rfl rfl ?_
          refine wl_iald (j := q) (n := 120) (v := v) C (by decide) (cell_k (k := 10) (by decide)) (rfl) (by omega) (by decide) hI.2.1 dX5_takesNumber_67 ?_
          refine wl_imul C dX5_takesNumber_68 ?_
          refine wl_aload_n C 0 dX5_takesNumber_69 rfl rfl ?_
          refine wl_get_Model_text (i := 232) C (by decide) in5 fl19 dX5_takesNumber_70 ?_
          refine wl_aload_n C 0 dX5_takesNumber_73 rfl rfl ?_
          refine wl_get_Model_spot (i := 232) (v := nI (c + t)) C (by decide) in5 fl195 hI.1 dX5_takesNumber_74 ?_
          refine wl_iald (j := c + t) (n := 60) (v := T.2 (c + t)) C (by decide) (cell_k (k := 12) (by decide)) (rfl) (by omega) (by decide) ((hI.tx hT).2 _ (by omega)) dX5_takesNumber_77 ?_
          refine wl_iadd C dX5_takesNumber_78 ?_
          refine wl_bipush (v := 48) C dX5_takesNumber_79 (by decide) ?_
          refine wl_isub C dX5_takesNumber_81 ?_
          refine wl_eqi (b := 10 * v + chT T (c + t) - 48) (by unfold chT; rw [if_pos (by omega)]) ?_
          refine wl_iast (j := q) (n := 120) C (by decide) (fun M => (cell_k (k := 10) (by decide))) (rfl) (by omega) (by decide) dX5_takesNumber_82 ?_
          refine wl_aload_n C 0 dX5_takesNumber_83 rfl rfl ?_
          refine wl_dup C dX5_takesNumber_84 rfl ?_
          refine wl_get_Model_spot (i := 232) (v := nI (c + t)) C (by decide) in5 fl195 (by rw [mset_ne (by omega)]; exact hI.1) dX5_takesNumber_85 ?_
          refine wl_iconst (v := 1) C dX5_takesNumber_88 (by decide) ?_
          refine wl_iadd C dX5_takesNumber_89 ?_
          refine wl_eqi (b := nI (c + t + 1)) (nI_1 _) ?_
          refine wl_put_Model_spot (i := 232) C (by decide) in5 fl195 dX5_takesNumber_90 ?_
          refine wl_goto C 12 dX5_takesNumber_93 (by decide) ?_
          exact ih (by omega) _ _ ⟨nmI_step hv (by omega) (bn_f c_52), nsI_step hI⟩
  refine wl_sub (L' := [(0, .ref (G.2.2.1 232)), (1, .int (nI q)), (2, .int (nI c))]) [1, 2, 0] rfl ?_
  exact h12 0 (Nat.zero_le _) 0 _ ⟨Or.inl ⟨rfl, rfl⟩, nsI_0 hc⟩
set_option maxHeartbeats 4000000 in
set_option maxRecDepth 100000 in
theorem c_X5_reads (l : Launch) (G : Gw) (M : Mem) (T : Tx) (hT : TxR M T) (hok : TxOk T) : Ci l G yX5_reads wsX5_reads 2 47 [.ref (G.2.2.1 232)] M (fun r M' => r = bi (formT T).1 ∧ M' 232 6 = nI (formT T).2.1 ∧ OnT M M' ∧ ((formT T).1 = true → BdM (M' 233) 8 (polyT T))) := by
  refine Ci.of (cc := cX5_reads) (maxL := 3) (ret := (some .boolean)) (by decide +kernel) rfl (Nat.le_of_ble_eq_true rfl) ?_
  intro x sz hl0 hr C
  subst hl0
  have C : CX x G (AA G sz) RX5 cX5_reads 3 wsX5_reads 2 47 0 0 := C
  have hret : ∀ (M0 : Mem) (pc0 : Nat) (L0 : List (Nat × Value)) (rv0 : Int32), narrow .boolean (.int rv0) = .int rv0 → decode cX5_reads pc0 = .ok (.ireturn, 1) → (fun r M' => r = bi (formT T).1 ∧ M' 232 6 = nI (formT T).2.1 ∧ OnT M M' ∧ ((formT T).1 = true → BdM (M' 233) 8 (polyT T))) rv0 M0 → WL x G (AA G sz) 3 0 0 (xQ x (va_Qi (fun r M' => r = bi (formT T).1 ∧ M' 232 6 = nI (formT T).2.1 ∧ OnT M M' ∧ ((formT T).1 = true → BdM (M' 233) 8 (polyT T))) (WE G) (AA G sz)) (AA G sz)) M0 pc0 L0 [.int rv0] := fun M0 pc0 L0 rv0 hn hd hp => wl_zret (post := (fun r M' => r = bi (formT T).1 ∧ M' 232 6 = nI (formT T).2.1 ∧ OnT M M' ∧ ((formT T).1 = true → BdM (M' 233) 8 (polyT T)))) C hr hn hd hp
  show WL x G (AA G sz) 3 0 0 (xQ x (va_Qi (fun r M' => r = bi (formT T).1 ∧ M' 232 6 = nI (formT T).2.1 ∧ OnT M M' ∧ ((formT T).1 = true → BdM (M' 233) 8 (polyT T))) (WE G) (AA G sz)) (AA G sz)) M 0 [(0, .ref (G.2.2.1 232))] []
  generalize (xQ x (va_Qi (fun r M' => r = bi (formT T).1 ∧ M' 232 6 = nI (formT T).2.1 ∧ OnT M M' ∧ ((formT T).1 = true → BdM (M' 233) 8 (polyT T))) (WE G) (AA G sz)) (AA G sz)) = QQ at hret ⊢
  have in5 : ∀ w ∈ wsX50, w ∈ wsX5_reads := by decide +kernel
  have fl195 : Jvm.Cond.fieldLink RX5 195 "JammedBodiesModel" "spot" "I" ∈ wsX5_reads := by decide +kernel
  have fl7 : Jvm.Cond.fieldLink RX5 7 "JammedBodiesModel" "all" "[I" ∈ wsX5_reads := by decide +kernel
  have fl188 : Jvm.Cond.fieldLink RX5 188 "JammedBodiesModel" "textLong" "I" ∈ wsX5_reads := by decide +kernel
  have h60 := hok.1
  refine wl_aload_n C 0 dX5_reads_0 rfl rfl ?_
  refine wl_iconst (v := 0) C dX5_reads_1 (by decide) ?_
  refine wl_put_Model_spot (i := 232) C (by decide) in5 fl195 dX5_reads_2 ?_
  obtain ⟨M1, eM1⟩ : ∃ z : Mem, z = (mset M 232 6 0) := ⟨_, rfl⟩
  rw [← eM1]
  have e1 : M1 232 6 = nI 0 := by rw [eM1]; exact mset_self _ _ _ _
  have x1 : rxI M T 0 M1 := ⟨by rw [eM1]; exact OnT.s (by omega), fun j hj => absurd hj (Nat.not_lt_zero _)⟩
  refine wl_iconst (v := nI 0) C dX5_reads_5 (by first | decide | rfl) ?_
  refine wl_istore_n (L' := [(1, .int (nI 0)), (0, .ref (G.2.2.1 232))]) C dX5_reads_6 rfl (by decide) rfl ?_
  refine wl_iconst (v := 1) C dX5_reads_7 (by decide) ?_
  refine wl_istore_n (L' := [(2, .int 1), (1, .int (nI 0)), (0, .ref (G.2.2.1 232))]) C dX5_reads_8 rfl (by decide) rfl ?_
  have h9 : ∀ k, k ≤ 6 → ∀ (b : Bool) (M2 : Mem), rxI M T k M2 → rxB T k b M2 → WL x G (AA G sz) 3 0 0 QQ M2 9 [(0, .ref (G.2.2.1 232)), (1, .int (nI k)), (2, .int (bi b))] [] := by
    refine up_loop 6 _ ?_
    intro k hk ih b M2 hI hb
    refine wl_iload_n C 2 dX5_reads_9 rfl rfl ?_
    refine wl_if_eqB C 73 dX5_reads_10 (by decide) (fun c_10 => ?_) (fun c_10 => ?_)
    · rw [c_10] at hb
      have hk0 := hb.1
      have hps := hb.2.2.1
      refine wl_aload_n C 0 dX5_reads_73 rfl rfl ?_
      refine wl_get_Model_all (i := 232) C (by decide) in5 fl7 dX5_reads_74 ?_
      refine wl_bipush (v := 11) C dX5_reads_77 (by decide) ?_
      refine wl_iload_n C 1 dX5_reads_79 rfl rfl ?_
      refine wl_iast (j := 11) (n := 120) C (by decide) (fun M => (cell_k (k := 10) (by decide))) (rfl) (by decide) (by decide) dX5_reads_80 ?_
      obtain ⟨Mz, eMz⟩ : ∃ z : Mem, z = (mset M2 233 11 (nI k)) := ⟨_, rfl⟩
      rw [← eMz]
      have ez := eMz
      refine wl_aload_n C 0 dX5_reads_81 rfl rfl ?_
      refine wl_get_Model_spot (i := 232) (v := nI (crT T (psT T (k - 1))).2.2.2) C (by decide) in5 fl195 (by rw [ez, mset_ne (by omega)]; exact hb.2.1) dX5_reads_82 ?_
      refine wl_aload_n C 0 dX5_reads_85 rfl rfl ?_
      refine wl_get_Model_textLong (i := 232) (v := nI T.1) C (by decide) in5 fl188 (by rw [ez, mset_ne (by omega)]; exact (hT.onT hI.1).1) dX5_reads_86 ?_
      suffices hJ89 : WL x G (AA G sz) 3 0 0 QQ Mz 102 [(0, .ref (G.2.2.1 232)), (1, .int (nI k)), (2, .int (bi b))] [.int (if ((crT T (psT T (k - 1))).2.2.2) = T.1 then if k ≤ 2 then (0 : Int32) else (1 : Int32) else (0 : Int32))] by
        refine wl_icmp_neN C (a := (crT T (psT T (k - 1))).2.2.2) (b := T.1) (by omega) (by omega) 101 dX5_reads_89 (by decide) (fun c_89 => ?_) (fun c_89 => ?_)
        · rw [if_neg c_89] at hJ89
          refine wl_iconst (v := 0) C dX5_reads_101 (by decide) ?_
          exact hJ89
        · rw [if_pos c_89] at hJ89
          refine wl_iload_n C 1 dX5_reads_92 rfl rfl ?_
          refine wl_iconst (v := nI 2) C dX5_reads_93 (by first | decide | rfl) ?_
          suffices hJ94 : WL x G (AA G sz) 3 0 0 QQ Mz 102 [(0, .ref (G.2.2.1 232)), (1, .int (nI k)), (2, .int (bi b))] [.int (if k ≤ 2 then (0 : Int32) else (1 : Int32))] by
            refine wl_icmp_leN C (a := k) (b := 2) (by omega) (by omega) 101 dX5_reads_94 (by decide) (fun c_94 => ?_) (fun c_94 => ?_)
            · rw [if_pos c_94] at hJ94
              refine wl_iconst (v := 0) C dX5_reads_101 (by decide) ?_
              exact hJ94
            · rw [if_neg c_94] at hJ94
              refine wl_iconst (v := 1) C dX5_reads_97 (by decide) ?_
              refine wl_goto C 102 dX5_reads_98 (by decide) ?_
              exact hJ94
          exact hJ89
      refine wl_eqi (b := bi (decide ((crT T (psT T (k - 1))).2.2.2 = T.1) && decide (3 ≤ k))) (rd_ret) ?_
      exact hret _ 102 _ (bi (decide ((crT T (psT T (k - 1))).2.2.2 = T.1) && decide (3 ≤ k))) (narrow_bi _) dX5_reads_102 (by (have e2 := hb.2.2.2); rw [e2]; exact ⟨rfl, by rw [ez, mset_ne (by omega)]; exact hb.2.1, hI.1.tr (by rw [ez]; exact ⟨fun i _ h2 => mset_off i h2, fun j _ => mset_ne (by omega), fun j hj => mset_ne (by unfold ArB at hj; omega)⟩), fun _ => rd_bd hI.2 (by show (formT T).2.2 = k; rw [e2]) hk ez⟩)
    · rw [c_10] at hb
      have hk6 := hb.1
      have hps := hb.2.2.1
      refine wl_aload_n C 0 dX5_reads_13 rfl rfl ?_
      refine wl_bipush (v := nI 60) C dX5_reads_14 (by decide) ?_
      refine wl_iload_n C 1 dX5_reads_16 rfl rfl ?_
      refine wl_iadd C dX5_reads_17 ?_
      refine wl_eqi (b := nI (60 + k)) (nI_add 60 k) ?_
      refine wl_callVi (i := 232) (n := 1) C [.int (nI (60 + k))] [] (c_X5_takesNumber _ G M2 T (psT T k) (hT.onT hI.1) hok hb.2.1 hb.2.2.1 (60 + k) (by omega)) gX5_reads_X5_takesNumber rfl (by decide +kernel) (by decide) (by decide) (kd_lt (k := 5) (by decide) (by decide)) (cell_k (k := 5) (by decide)) rfl rfl rfl (Nat.le_of_ble_eq_true rfl) dX5_reads_18 (fun r1 Ma ea => ?_)
      obtain ⟨qa, sa, oa, va, fa⟩ := ea
      subst qa
      have la := nuT_le hb.2.2.1
      refine wl_if_eqB C 44 dX5_reads_21 (by decide) (fun c_21 => ?_) (fun c_21 => ?_)
      · refine wl_iconst (v := 0) C dX5_reads_44 (by decide) ?_
        exact hret _ 45 _ 0 (rfl) dX5_reads_45 (by (have hn := of_decide_eq_false c_21); (have e : crT T (psT T k) = (false, 0, 0, (nuT T (psT T k)).2) := (by unfold crT; rw [if_pos (Decidable.not_not.mp hn)])); (have e2 := hb.2.2.2.trans (rfT_bad hb.1 (by rw [e]))); rw [e2, e]; exact ⟨rfl, sa, hI.1.tr oa, fun z => absurd z Bool.false_ne_true⟩)
      · refine wl_aload_n C 0 dX5_reads_24 rfl rfl ?_
        refine wl_bipush (v := 44) C dX5_reads_25 (by decide) ?_
        refine wl_callVi (i := 232) (n := 1) C [.int 44] [] (c_X5_takes _ G Ma T (nuT T (psT T k)).2 (hT.onT (hI.1.tr oa)) hok sa (la.2) 44 (by decide)) gX5_reads_X5_takes rfl (by decide +kernel) (by decide) (by decide) (kd_lt (k := 5) (by decide) (by decide)) (cell_k (k := 5) (by decide)) rfl rfl rfl (Nat.le_of_ble_eq_true rfl) dX5_reads_27 (fun r1 Mb eb => ?_)
        obtain ⟨qb, pb⟩ := eb
        subst qb
        refine wl_if_eqB C 44 dX5_reads_30 (by decide) (fun c_30 => ?_) (fun c_30 => ?_)
        · refine wl_iconst (v := 0) C dX5_reads_44 (by decide) ?_
          exact hret _ 45 _ 0 (rfl) dX5_reads_45 (by (have hn := of_decide_eq_false c_30); (have e : crT T (psT T k) = (false, 0, 0, (nuT T (psT T k)).2) := (by unfold crT; rw [if_neg (of_decide_eq_true c_21), if_neg hn])); (have e2 := hb.2.2.2.trans (rfT_bad hb.1 (by rw [e]))); rw [if_neg (by rw [c_30]; exact Bool.false_ne_true), mset_same sa] at pb; rw [e2, e, pb]; exact ⟨rfl, sa, hI.1.tr oa, fun z => absurd z Bool.false_ne_true⟩)
        · have hcc := of_decide_eq_true c_30
          have hlc := chT_lt hcc (by decide)
          have ob : OnT M Mb := by rw [pb]; exact (hI.1.tr oa).tr (OnT.s (by omega))
          have sb : Mb 232 6 = nI ((nuT T (psT T k)).2 + 1) := by rw [pb, if_pos c_30]; exact mset_self _ _ _ _
          refine wl_aload_n C 0 dX5_reads_33 rfl rfl ?_
          refine wl_bipush (v := nI 114) C dX5_reads_34 (by decide) ?_
          refine wl_iload_n C 1 dX5_reads_36 rfl rfl ?_
          refine wl_iadd C dX5_reads_37 ?_
          refine wl_eqi (b := nI (114 + k)) (nI_add 114 k) ?_
          refine wl_callVi (i := 232) (n := 1) C [.int (nI (114 + k))] [] (c_X5_takesNumber _ G Mb T ((nuT T (psT T k)).2 + 1) (hT.onT ob) hok sb hlc (114 + k) (by omega)) gX5_reads_X5_takesNumber rfl (by decide +kernel) (by decide) (by decide) (kd_lt (k := 5) (by decide) (by decide)) (cell_k (k := 5) (by decide)) rfl rfl rfl (Nat.le_of_ble_eq_true rfl) dX5_reads_38 (fun r1 Md ed => ?_)
          obtain ⟨qd, sd, od, vd, fd⟩ := ed
          subst qd
          refine wl_if_neB C 46 dX5_reads_41 (by decide) (fun c_41 => ?_) (fun c_41 => ?_)
          · have ek : crT T (psT T k) = (true, (nuT T (psT T k)).1, (nuT T ((nuT T (psT T k)).2 + 1)).1, (nuT T ((nuT T (psT T k)).2 + 1)).2) := by unfold crT; rw [if_neg (of_decide_eq_true c_21), if_pos hcc, if_neg (of_decide_eq_true c_41)]
            have lcr := crT_le hb.2.2.1
            rw [show (nuT T ((nuT T (psT T k)).2 + 1)).2 = (crT T (psT T k)).2.2.2 by rw [ek]] at sd
            have xd : rxI M T (k + 1) Md := ⟨ob.tr od, rx_step hI.2 (by rw [ek]; exact (fd _ (by omega)).trans ((by rw [pb, mset_ne (by omega)] : Mb 233 (60 + k) = Ma 233 (60 + k)).trans (va (of_decide_eq_true c_21)))) (by rw [ek]; exact vd (of_decide_eq_true c_41)) (fun j hj => (fd _ (by omega)).trans ((by rw [pb, mset_ne (by omega)] : Mb 233 (60 + j) = Ma 233 (60 + j)).trans (fa _ (by omega)))) (fun j hj => (fd _ (by omega)).trans ((by rw [pb, mset_ne (by omega)] : Mb 233 (114 + j) = Ma 233 (114 + j)).trans (fa _ (by omega))))⟩
            refine wl_iinc1 (k := k) (L' := [(1, .int (nI (k + 1))), (0, .ref (G.2.2.1 232)), (2, .int (bi b))]) C 1 dX5_reads_46 rfl (by decide) rfl ?_
            refine wl_iload_n C 0 dX5_reads_49 rfl rfl ?_
            refine wl_bipush (v := nI 6) C dX5_reads_50 (by decide) ?_
            refine wl_icmp_geN C (a := (k + 1)) (b := 6) (by omega) (by omega) 68 dX5_reads_52 (by decide) (fun c_52 => ?_) (fun c_52 => ?_)
            · refine wl_iconst (v := 0) C dX5_reads_68 (by decide) ?_
              refine wl_istore_n (L' := [(2, .int 0), (1, .int (nI (k + 1))), (0, .ref (G.2.2.1 232))]) C dX5_reads_69 rfl (by decide) rfl ?_
              refine wl_goto C 9 dX5_reads_70 (by decide) ?_
              refine wl_sub (L' := [(0, .ref (G.2.2.1 232)), (1, .int (nI (k + 1))), (2, .int 0)]) [2, 1, 0] rfl ?_
              exact ih (by omega) false Md xd ⟨by omega, sd, lcr.2, hb.2.2.2.trans (rf_end (by omega) (by rw [ek]) (Or.inl (by omega)))⟩
            · refine wl_aload_n C 1 dX5_reads_55 rfl rfl ?_
              refine wl_bipush (v := 59) C dX5_reads_56 (by decide) ?_
              refine wl_callVi (i := 232) (n := 1) C [.int 59] [] (c_X5_takes _ G Md T (crT T (psT T k)).2.2.2 (hT.onT (ob.tr od)) hok sd (lcr.2) 59 (by decide)) gX5_reads_X5_takes rfl (by decide +kernel) (by decide) (by decide) (kd_lt (k := 5) (by decide) (by decide)) (cell_k (k := 5) (by decide)) rfl rfl rfl (Nat.le_of_ble_eq_true rfl) dX5_reads_58 (fun r1 Me ef => ?_)
              obtain ⟨qf, pf⟩ := ef
              subst qf
              refine wl_if_eqB C 68 dX5_reads_61 (by decide) (fun c_61 => ?_) (fun c_61 => ?_)
              · refine wl_iconst (v := 0) C dX5_reads_68 (by decide) ?_
                refine wl_istore_n (L' := [(2, .int 0), (1, .int (nI (k + 1))), (0, .ref (G.2.2.1 232))]) C dX5_reads_69 rfl (by decide) rfl ?_
                refine wl_goto C 9 dX5_reads_70 (by decide) ?_
                refine wl_sub (L' := [(0, .ref (G.2.2.1 232)), (1, .int (nI (k + 1))), (2, .int 0)]) [2, 1, 0] rfl ?_
                have h59 := of_decide_eq_false c_61
                exact ih (by omega) false Me ⟨by rw [pf]; exact xd.1.tr (OnT.s (by omega)), fun j hj => by rw [pf, mset_ne (by omega), mset_ne (by omega)]; exact xd.2 j hj⟩ ⟨by omega, by rw [pf, if_neg (by rw [c_61]; exact Bool.false_ne_true)]; exact mset_self _ _ _ _, lcr.2, hb.2.2.2.trans (rf_end (by omega) (by rw [ek]) (Or.inr h59))⟩
              · refine wl_iconst (v := 1) C dX5_reads_64 (by decide) ?_
                refine wl_goto C 69 dX5_reads_65 (by decide) ?_
                refine wl_istore_n (L' := [(2, .int 1), (1, .int (nI (k + 1))), (0, .ref (G.2.2.1 232))]) C dX5_reads_69 rfl (by decide) rfl ?_
                refine wl_goto C 9 dX5_reads_70 (by decide) ?_
                refine wl_sub (L' := [(0, .ref (G.2.2.1 232)), (1, .int (nI (k + 1))), (2, .int 1)]) [2, 1, 0] rfl ?_
                have h59 := of_decide_eq_true c_61
                exact ih (by omega) true Me ⟨by rw [pf]; exact xd.1.tr (OnT.s (by omega)), fun j hj => by rw [pf, mset_ne (by omega), mset_ne (by omega)]; exact xd.2 j hj⟩ ⟨by omega, by rw [pf, if_pos c_61]; exact mset_self _ _ _ _, chT_lt h59 (by decide), hb.2.2.2.trans (rf_go (by omega) (by rw [ek]) h59)⟩
          · refine wl_iconst (v := 0) C dX5_reads_44 (by decide) ?_
            exact hret _ 45 _ 0 (rfl) dX5_reads_45 (by (have hn := of_decide_eq_false c_41); (have e : crT T (psT T k) = (false, 0, 0, (nuT T ((nuT T (psT T k)).2 + 1)).2) := (by unfold crT; rw [if_neg (of_decide_eq_true c_21), if_pos hcc, if_pos (Decidable.not_not.mp hn)])); (have e2 := hb.2.2.2.trans (rfT_bad hb.1 (by rw [e]))); rw [e2, e]; exact ⟨rfl, sd, ob.tr od, fun z => absurd z Bool.false_ne_true⟩)
  refine wl_sub (L' := [(0, .ref (G.2.2.1 232)), (1, .int (nI 0)), (2, .int 1)]) [2, 1, 0] rfl ?_
  exact h9 0 (Nat.zero_le _) true M1 x1 ⟨by decide, e1, Nat.zero_le _, rfl⟩
