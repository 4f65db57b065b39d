set_option maxHeartbeats 4000000 in
set_option maxRecDepth 100000 in
theorem c_X5_keep (l : Launch) (G : Gw) (M : Mem)  : Cv l G yX5_keep wsX5_keep 0 0 [.ref (G.2.2.1 232)] M (fun M' => (∀ j, j < 120 → M' 235 j = M 233 j) ∧ On5 M M') := by
  refine Cv.of (cc := cX5_keep) (maxL := 2) (ret := none) (by decide +kernel) rfl (Nat.le_of_ble_eq_true rfl) ?_
  intro x sz hl0 hr C
  subst hl0
  have C : CX x G (AA G sz) RX5 cX5_keep 2 wsX5_keep 0 0 0 0 := C
  have hret : ∀ (M0 : Mem) (pc0 : Nat) (L0 : List (Nat × Value)), decode cX5_keep pc0 = .ok (.return_, 1) → (fun M' => (∀ j, j < 120 → M' 235 j = M 233 j) ∧ On5 M M') M0 → WL x G (AA G sz) 2 0 0 (xQ x (va_Qv (fun M' => (∀ j, j < 120 → M' 235 j = M 233 j) ∧ On5 M M') (WE G) (AA G sz)) (AA G sz)) M0 pc0 L0 [] := fun M0 pc0 L0 hd hp => wl_vret (post := (fun M' => (∀ j, j < 120 → M' 235 j = M 233 j) ∧ On5 M M')) C hr hd hp
  show WL x G (AA G sz) 2 0 0 (xQ x (va_Qv (fun M' => (∀ j, j < 120 → M' 235 j = M 233 j) ∧ On5 M M') (WE G) (AA G sz)) (AA G sz)) M 0 [(0, .ref (G.2.2.1 232))] []
  generalize (xQ x (va_Qv (fun M' => (∀ j, j < 120 → M' 235 j = M 233 j) ∧ On5 M M') (WE G) (AA G sz)) (AA G sz)) = QQ at hret ⊢
  have in5 : ∀ w ∈ wsX50, w ∈ wsX5_keep := by decide +kernel
  have fl16 : Jvm.Cond.fieldLink RX5 16 "JammedBodiesModel" "kept" "[I" ∈ wsX5_keep := by decide +kernel
  have fl7 : Jvm.Cond.fieldLink RX5 7 "JammedBodiesModel" "all" "[I" ∈ wsX5_keep := by decide +kernel
  refine wl_iconst (v := nI 0) C dX5_keep_0 (by first | decide | rfl) ?_
  refine wl_istore_n (L' := [(1, .int (nI 0)), (0, .ref (G.2.2.1 232))]) C dX5_keep_1 rfl (by decide) rfl ?_
  have h2 : ∀ i, i ≤ 120 → ∀ M2 : Mem, (∀ j, j < i → M2 235 j = M 233 j) ∧ On5 M M2 → WL x G (AA G sz) 2 0 0 QQ M2 2 [(0, .ref (G.2.2.1 232)), (1, .int (nI i))] [] := by
    refine up_loop 120 _ ?_
    intro i hi ih M2 hI
    refine wl_iload_n C 1 dX5_keep_2 rfl rfl ?_
    refine wl_bipush (v := nI 120) C dX5_keep_3 (by decide) ?_
    refine wl_icmp_geN C (a := i) (b := 120) (by omega) (by omega) 26 dX5_keep_5 (by decide) (fun c_5 => ?_) (fun c_5 => ?_)
    · exact hret _ 26 _ dX5_keep_26 (⟨by rw [show 120 = i by omega]; exact hI.1, hI.2⟩)
    · refine wl_aload_n C 0 dX5_keep_8 rfl rfl ?_
      refine wl_get_Model_kept (i := 232) C (by decide) in5 fl16 dX5_keep_9 ?_
      refine wl_iload_n C 1 dX5_keep_12 rfl rfl ?_
      refine wl_aload_n C 0 dX5_keep_13 rfl rfl ?_
      refine wl_get_Model_all (i := 232) C (by decide) in5 fl7 dX5_keep_14 ?_
      refine wl_iload_n C 1 dX5_keep_17 rfl rfl ?_
      refine wl_iald (j := i) (n := 120) (v := M 233 i) C (by decide) (cell_k (k := 10) (by decide)) (rfl) (by omega) (by decide) (by rw [hI.2 233 (by decide)]) dX5_keep_18 ?_
      refine wl_iast (j := i) (n := 120) C (by decide) (fun M => (cell_k (k := 10) (by decide))) (rfl) (by omega) (by decide) dX5_keep_19 ?_
      refine wl_iinc1 (k := i) (L' := [(1, .int (nI (i + 1))), (0, .ref (G.2.2.1 232))]) C 1 dX5_keep_20 rfl (by decide) rfl ?_
      refine wl_goto C 2 dX5_keep_23 (by decide) ?_
      refine wl_sub (L' := [(0, .ref (G.2.2.1 232)), (1, .int (nI (i + 1)))]) [1, 0] rfl ?_
      exact ih (by omega) _ ⟨set_to hI.1, On5.set hI.2⟩
  refine wl_sub (L' := [(0, .ref (G.2.2.1 232)), (1, .int (nI 0))]) [1, 0] rfl ?_
  exact h2 0 (Nat.zero_le _) M ⟨fun j hj => absurd hj (Nat.not_lt_zero _), fun _ _ => rfl⟩
set_option maxHeartbeats 4000000 in
set_option maxRecDepth 100000 in
theorem c_X5_giveBack (l : Launch) (G : Gw) (M : Mem)  : Cv l G yX5_giveBack wsX5_giveBack 0 0 [.ref (G.2.2.1 232)] M (fun M' => (∀ j, j < 120 → M' 233 j = M 235 j) ∧ On3 M M') := by
  refine Cv.of (cc := cX5_giveBack) (maxL := 2) (ret := none) (by decide +kernel) rfl (Nat.le_of_ble_eq_true rfl) ?_
  intro x sz hl0 hr C
  subst hl0
  have C : CX x G (AA G sz) RX5 cX5_giveBack 2 wsX5_giveBack 0 0 0 0 := C
  have hret : ∀ (M0 : Mem) (pc0 : Nat) (L0 : List (Nat × Value)), decode cX5_giveBack pc0 = .ok (.return_, 1) → (fun M' => (∀ j, j < 120 → M' 233 j = M 235 j) ∧ On3 M M') M0 → WL x G (AA G sz) 2 0 0 (xQ x (va_Qv (fun M' => (∀ j, j < 120 → M' 233 j = M 235 j) ∧ On3 M M') (WE G) (AA G sz)) (AA G sz)) M0 pc0 L0 [] := fun M0 pc0 L0 hd hp => wl_vret (post := (fun M' => (∀ j, j < 120 → M' 233 j = M 235 j) ∧ On3 M M')) C hr hd hp
  show WL x G (AA G sz) 2 0 0 (xQ x (va_Qv (fun M' => (∀ j, j < 120 → M' 233 j = M 235 j) ∧ On3 M M') (WE G) (AA G sz)) (AA G sz)) M 0 [(0, .ref (G.2.2.1 232))] []
  generalize (xQ x (va_Qv (fun M' => (∀ j, j < 120 → M' 233 j = M 235 j) ∧ On3 M M') (WE G) (AA G sz)) (AA G sz)) = QQ at hret ⊢
  have in5 : ∀ w ∈ wsX50, w ∈ wsX5_giveBack := by decide +kernel
  have fl7 : Jvm.Cond.fieldLink RX5 7 "JammedBodiesModel" "all" "[I" ∈ wsX5_giveBack := by decide +kernel
  have fl16 : Jvm.Cond.fieldLink RX5 16 "JammedBodiesModel" "kept" "[I" ∈ wsX5_giveBack := by decide +kernel
  refine wl_iconst (v := nI 0) C dX5_giveBack_0 (by first | decide | rfl) ?_
  refine wl_istore_n (L' := [(1, .int (nI 0)), (0, .ref (G.2.2.1 232))]) C dX5_giveBack_1 rfl (by decide) rfl ?_
  have h2 : ∀ i, i ≤ 120 → ∀ M2 : Mem, (∀ j, j < i → M2 233 j = M 235 j) ∧ On3 M M2 → WL x G (AA G sz) 2 0 0 QQ M2 2 [(0, .ref (G.2.2.1 232)), (1, .int (nI i))] [] := by
    refine up_loop 120 _ ?_
    intro i hi ih M2 hI
    refine wl_iload_n C 1 dX5_giveBack_2 rfl rfl ?_
    refine wl_bipush (v := nI 120) C dX5_giveBack_3 (by decide) ?_
    refine wl_icmp_geN C (a := i) (b := 120) (by omega) (by omega) 26 dX5_giveBack_5 (by decide) (fun c_5 => ?_) (fun c_5 => ?_)
    · exact hret _ 26 _ dX5_giveBack_26 (⟨by rw [show 120 = i by omega]; exact hI.1, hI.2⟩)
    · refine wl_aload_n C 0 dX5_giveBack_8 rfl rfl ?_
      refine wl_get_Model_all (i := 232) C (by decide) in5 fl7 dX5_giveBack_9 ?_
      refine wl_iload_n C 1 dX5_giveBack_12 rfl rfl ?_
      refine wl_aload_n C 0 dX5_giveBack_13 rfl rfl ?_
      refine wl_get_Model_kept (i := 232) C (by decide) in5 fl16 dX5_giveBack_14 ?_
      refine wl_iload_n C 1 dX5_giveBack_17 rfl rfl ?_
      refine wl_iald (j := i) (n := 120) (v := M 235 i) C (by decide) (cell_k (k := 10) (by decide)) (rfl) (by omega) (by decide) (by rw [hI.2 235 (by decide)]) dX5_giveBack_18 ?_
      refine wl_iast (j := i) (n := 120) C (by decide) (fun M => (cell_k (k := 10) (by decide))) (rfl) (by omega) (by decide) dX5_giveBack_19 ?_
      refine wl_iinc1 (k := i) (L' := [(1, .int (nI (i + 1))), (0, .ref (G.2.2.1 232))]) C 1 dX5_giveBack_20 rfl (by decide) rfl ?_
      refine wl_goto C 2 dX5_giveBack_23 (by decide) ?_
      refine wl_sub (L' := [(0, .ref (G.2.2.1 232)), (1, .int (nI (i + 1)))]) [1, 0] rfl ?_
      exact ih (by omega) _ ⟨set_to hI.1, On3.st hI.2⟩
  refine wl_sub (L' := [(0, .ref (G.2.2.1 232)), (1, .int (nI 0))]) [1, 0] rfl ?_
  exact h2 0 (Nat.zero_le _) M ⟨fun j hj => absurd hj (Nat.not_lt_zero _), fun _ _ => rfl⟩
set_option maxHeartbeats 4000000 in
set_option maxRecDepth 100000 in
theorem c_X5_changed (l : Launch) (G : Gw) (M : Mem) (s0 : St) (hn : Nat) (H : Nat → St) (v : Int32) (h0 : PkM (M 235) s0) (hH : HsM M hn H) : Ci l G yX5_changed wsX5_changed 0 0 [.ref (G.2.2.1 232), .int v] M (fun r M' => r = v ∧ HsM M' (puN hn) (puH hn H s0) ∧ OnH M M') := by
  refine Ci.of (cc := cX5_changed) (maxL := 3) (ret := (some .int)) (by decide +kernel) rfl (Nat.le_of_ble_eq_true rfl) ?_
  intro x sz hl0 hr C
  subst hl0
  have C : CX x G (AA G sz) RX5 cX5_changed 3 wsX5_changed 0 0 0 0 := C
  have hret : ∀ (M0 : Mem) (pc0 : Nat) (L0 : List (Nat × Value)) (rv0 : Int32), decode cX5_changed pc0 = .ok (.ireturn, 1) → (fun r M' => r = v ∧ HsM M' (puN hn) (puH hn H s0) ∧ OnH M M') rv0 M0 → WL x G (AA G sz) 3 0 0 (xQ x (va_Qi (fun r M' => r = v ∧ HsM M' (puN hn) (puH hn H s0) ∧ OnH M M') (WE G) (AA G sz)) (AA G sz)) M0 pc0 L0 [.int rv0] := fun M0 pc0 L0 rv0 hd hp => wl_iret (post := (fun r M' => r = v ∧ HsM M' (puN hn) (puH hn H s0) ∧ OnH M M')) C hr hd hp
  show WL x G (AA G sz) 3 0 0 (xQ x (va_Qi (fun r M' => r = v ∧ HsM M' (puN hn) (puH hn H s0) ∧ OnH M M') (WE G) (AA G sz)) (AA G sz)) M 0 [(0, .ref (G.2.2.1 232)), (1, .int v)] []
  generalize (xQ x (va_Qi (fun r M' => r = v ∧ HsM M' (puN hn) (puH hn H s0) ∧ OnH M M') (WE G) (AA G sz)) (AA G sz)) = QQ at hret ⊢
  have in5 : ∀ w ∈ wsX50, w ∈ wsX5_changed := by decide +kernel
  have fl22 : Jvm.Cond.fieldLink RX5 22 "JammedBodiesModel" "historyLong" "I" ∈ wsX5_changed := by decide +kernel
  have fl13 : Jvm.Cond.fieldLink RX5 13 "JammedBodiesModel" "history" "[I" ∈ wsX5_changed := by decide +kernel
  have fl16 : Jvm.Cond.fieldLink RX5 16 "JammedBodiesModel" "kept" "[I" ∈ wsX5_changed := by decide +kernel
  obtain ⟨hh, hn4, hHa⟩ := hH
  have h48 : ∀ (M3 : Mem) (n3 : Nat) (H3 : Nat → St), n3 < 4 → M3 232 3 = nI n3 → OnH M M3 → (∀ a, a < n3 → PkM (fun j => M3 234 (120 * a + j)) (H3 a)) → puN hn = n3 + 1 → (∀ a, a ≤ n3 → puH hn H s0 a = if a < n3 then H3 a else s0) → WL x G (AA G sz) 3 0 0 QQ M3 48 [(0, .ref (G.2.2.1 232)), (1, .int v)] [] := by
    intro M3 n3 H3 gn g3 g4 g5 g6 g7
    refine wl_iconst (v := nI 0) C dX5_changed_48 (by first | decide | rfl) ?_
    refine wl_istore_n (L' := [(2, .int (nI 0)), (0, .ref (G.2.2.1 232)), (1, .int v)]) C dX5_changed_49 rfl (by decide) rfl ?_
    have h50 : ∀ i, i ≤ 120 → ∀ M4 : Mem, cgI M3 n3 i M4 → WL x G (AA G sz) 3 0 0 QQ M4 50 [(0, .ref (G.2.2.1 232)), (1, .int v), (2, .int (nI i))] [] := by
      refine up_loop 120 _ ?_
      intro i hi ih M4 hJ
      refine wl_iload_n C 2 dX5_changed_50 rfl rfl ?_
      refine wl_bipush (v := nI 120) C dX5_changed_51 (by decide) ?_
      refine wl_icmp_geN C (a := i) (b := 120) (by omega) (by omega) 82 dX5_changed_53 (by decide) (fun c_53 => ?_) (fun c_53 => ?_)
      · refine wl_aload_n C 0 dX5_changed_82 rfl rfl ?_
        refine wl_dup C dX5_changed_83 rfl ?_
        refine wl_get_Model_historyLong (i := 232) (v := nI n3) C (by decide) in5 fl22 (by rw [hJ.2.2 232 (by decide)]; exact g3) dX5_changed_84 ?_
        refine wl_iconst (v := 1) C dX5_changed_87 (by decide) ?_
        refine wl_iadd C dX5_changed_88 ?_
        refine wl_eqi (b := nI (n3 + 1)) (nI_1 n3) ?_
        refine wl_put_Model_historyLong (i := 232) C (by decide) in5 fl22 dX5_changed_89 ?_
        refine wl_iload_n C 1 dX5_changed_92 rfl rfl ?_
        exact hret _ 93 _ v dX5_changed_93 (by (have q := cg_end gn g4 g5 g6 g7 h0 (by rw [show 120 = i by omega]; exact hJ) g3); exact ⟨rfl, q.1, q.2⟩)
      · refine wl_aload_n C 0 dX5_changed_56 rfl rfl ?_
        refine wl_get_Model_history (i := 232) C (by decide) in5 fl13 dX5_changed_57 ?_
        refine wl_bipush (v := nI 120) C dX5_changed_60 (by decide) ?_
        refine wl_aload_n C 0 dX5_changed_62 rfl rfl ?_
        refine wl_get_Model_historyLong (i := 232) (v := nI n3) C (by decide) in5 fl22 (by rw [hJ.2.2 232 (by decide)]; exact g3) dX5_changed_63 ?_
        refine wl_imul C dX5_changed_66 ?_
        refine wl_iload_n C 2 dX5_changed_67 rfl rfl ?_
        refine wl_iadd C dX5_changed_68 ?_
        refine wl_aload_n C 0 dX5_changed_69 rfl rfl ?_
        refine wl_get_Model_kept (i := 232) C (by decide) in5 fl16 dX5_changed_70 ?_
        refine wl_iload_n C 2 dX5_changed_73 rfl rfl ?_
        refine wl_iald (j := i) (n := 120) (v := M3 235 i) C (by decide) (cell_k (k := 10) (by decide)) (rfl) (by omega) (by decide) (by rw [hJ.2.2 235 (by decide)]) dX5_changed_74 ?_
        refine wl_iast (j := 120 * n3 + i) (n := 480) C (by decide) (fun M => (cell_k (k := 11) (by decide))) (by rw [pk_mul, nI_add]) (by omega) (by decide) dX5_changed_75 ?_
        refine wl_iinc1 (k := i) (L' := [(2, .int (nI (i + 1))), (0, .ref (G.2.2.1 232)), (1, .int v)]) C 2 dX5_changed_76 rfl (by decide) rfl ?_
        refine wl_goto C 50 dX5_changed_79 (by decide) ?_
        refine wl_sub (L' := [(0, .ref (G.2.2.1 232)), (1, .int v), (2, .int (nI (i + 1)))]) [1, 2, 0] rfl ?_
        exact ih (by omega) _ (cgI_step hJ)
    refine wl_sub (L' := [(0, .ref (G.2.2.1 232)), (1, .int v), (2, .int (nI 0))]) [1, 2, 0] rfl ?_
    exact h50 0 (Nat.zero_le _) M3 ⟨fun j hj => absurd hj (Nat.not_lt_zero _), fun _ _ => rfl, fun _ _ => rfl⟩
  refine wl_aload_n C 0 dX5_changed_0 rfl rfl ?_
  refine wl_get_Model_historyLong (i := 232) (v := nI hn) C (by decide) in5 fl22 hh dX5_changed_1 ?_
  refine wl_iconst (v := nI 4) C dX5_changed_4 (by first | decide | rfl) ?_
  refine wl_icmp_neN C (a := hn) (b := 4) (by omega) (by omega) 48 dX5_changed_5 (by decide) (fun c_5 => ?_) (fun c_5 => ?_)
  · exact h48 M hn H (by omega) hh OnH.rf hHa (by unfold puN; rw [if_neg c_5]) (fun a ha => by unfold puH; rw [if_neg c_5])
  · refine wl_iconst (v := nI 0) C dX5_changed_8 (by first | decide | rfl) ?_
    refine wl_istore_n (L' := [(2, .int (nI 0)), (0, .ref (G.2.2.1 232)), (1, .int v)]) C dX5_changed_9 rfl (by decide) rfl ?_
    have h10 : ∀ i, i ≤ 360 → ∀ M2 : Mem, shI M i M2 → WL x G (AA G sz) 3 0 0 QQ M2 10 [(0, .ref (G.2.2.1 232)), (1, .int v), (2, .int (nI i))] [] := by
      refine up_loop 360 _ ?_
      intro i hi ih M2 hA
      refine wl_iload_n C 2 dX5_changed_10 rfl rfl ?_
      refine wl_sipush (v := nI 360) C dX5_changed_11 (by decide) ?_
      refine wl_icmp_geN C (a := i) (b := 360) (by omega) (by omega) 38 dX5_changed_14 (by decide) (fun c_14 => ?_) (fun c_14 => ?_)
      · refine wl_aload_n C 0 dX5_changed_38 rfl rfl ?_
        refine wl_dup C dX5_changed_39 rfl ?_
        refine wl_get_Model_historyLong (i := 232) (v := nI hn) C (by decide) in5 fl22 (by rw [hA.2.2 232 (by decide)]; exact hh) dX5_changed_40 ?_
        refine wl_iconst (v := 1) C dX5_changed_43 (by decide) ?_
        refine wl_isub C dX5_changed_44 ?_
        refine wl_eqi (b := nI (hn - 1)) (nI_sub1 (by omega)) ?_
        refine wl_put_Model_historyLong (i := 232) C (by decide) in5 fl22 dX5_changed_45 ?_
        obtain ⟨Mb, eMb⟩ : ∃ z : Mem, z = (mset M2 232 3 (nI (hn - 1))) := ⟨_, rfl⟩
        rw [← eMb]
        have eb3 : Mb 232 3 = nI (hn - 1) := by rw [eMb]; exact mset_self _ _ _ _
        have eb : OnH M Mb := by rw [eMb]; exact hA.H.tr OnH.s3
        have ebA : Mb 234 = M2 234 := by rw [eMb]; exact mset_off 234 (by decide)
        refine wl_sub (L' := [(0, .ref (G.2.2.1 232)), (1, .int v)]) [0, 1] rfl ?_
        exact h48 Mb (hn - 1) (fun a => H (a + 1)) (by omega) eb3 eb (fun a ha => by rw [ebA]; exact (hHa (a + 1) (by omega)).same (fun j hj => (hA.1 _ (by omega)).trans (by rw [show 120 * a + j + 120 = 120 * (a + 1) + j by omega]))) (by unfold puN; rw [if_pos (by omega)]; omega) (fun a ha => by unfold puH; rw [if_pos (by omega), show hn - 1 = 3 by omega])
      · refine wl_aload_n C 0 dX5_changed_17 rfl rfl ?_
        refine wl_get_Model_history (i := 232) C (by decide) in5 fl13 dX5_changed_18 ?_
        refine wl_iload_n C 2 dX5_changed_21 rfl rfl ?_
        refine wl_aload_n C 0 dX5_changed_22 rfl rfl ?_
        refine wl_get_Model_history (i := 232) C (by decide) in5 fl13 dX5_changed_23 ?_
        refine wl_iload_n C 2 dX5_changed_26 rfl rfl ?_
        refine wl_bipush (v := nI 120) C dX5_changed_27 (by decide) ?_
        refine wl_iadd C dX5_changed_29 ?_
        refine wl_iald (j := i + 120) (n := 480) (v := M 234 (i + 120)) C (by decide) (cell_k (k := 11) (by decide)) (nI_add i 120) (by omega) (by decide) (hA.2.1 _ (by omega)) dX5_changed_30 ?_
        refine wl_iast (j := i) (n := 480) C (by decide) (fun M => (cell_k (k := 11) (by decide))) (rfl) (by omega) (by decide) dX5_changed_31 ?_
        refine wl_iinc1 (k := i) (L' := [(2, .int (nI (i + 1))), (0, .ref (G.2.2.1 232)), (1, .int v)]) C 2 dX5_changed_32 rfl (by decide) rfl ?_
        refine wl_goto C 10 dX5_changed_35 (by decide) ?_
        refine wl_sub (L' := [(0, .ref (G.2.2.1 232)), (1, .int v), (2, .int (nI (i + 1)))]) [1, 2, 0] rfl ?_
        exact ih (by omega) _ (shI_step hA)
    refine wl_sub (L' := [(0, .ref (G.2.2.1 232)), (1, .int v), (2, .int (nI 0))]) [1, 2, 0] rfl ?_
    exact h10 0 (Nat.zero_le _) M ⟨fun j hj => absurd hj (Nat.not_lt_zero _), fun _ _ => rfl, fun _ _ => rfl⟩
set_option maxHeartbeats 4000000 in
set_option maxRecDepth 100000 in
theorem c_X5_box (l : Launch) (G : Gw) (M : Mem) (σ : Sy) (hR : RM M σ) (hO : OkY σ) (w : Int32) (h : Int32) : Ci l G yX5_box wsX5_box 3 68 [.ref (G.2.2.1 232), .int w, .int h] M (fun r M' => r = (boxY σ w h).1 ∧ RM M' (boxY σ w h).2 ∧ FrM M M') := by
  refine Ci.of (cc := cX5_box) (maxL := 4) (ret := (some .int)) (by decide +kernel) rfl (Nat.le_of_ble_eq_true rfl) ?_
  intro x sz hl0 hr C
  subst hl0
  have C : CX x G (AA G sz) RX5 cX5_box 4 wsX5_box 3 68 0 0 := C
  have hret : ∀ (M0 : Mem) (pc0 : Nat) (L0 : List (Nat × Value)) (rv0 : Int32), decode cX5_box pc0 = .ok (.ireturn, 1) → (fun r M' => r = (boxY σ w h).1 ∧ RM M' (boxY σ w h).2 ∧ FrM M M') rv0 M0 → WL x G (AA G sz) 4 0 0 (xQ x (va_Qi (fun r M' => r = (boxY σ w h).1 ∧ RM M' (boxY σ w h).2 ∧ FrM M M') (WE G) (AA G sz)) (AA G sz)) M0 pc0 L0 [.int rv0] := fun M0 pc0 L0 rv0 hd hp => wl_iret (post := (fun r M' => r = (boxY σ w h).1 ∧ RM M' (boxY σ w h).2 ∧ FrM M M')) C hr hd hp
  show WL x G (AA G sz) 4 0 0 (xQ x (va_Qi (fun r M' => r = (boxY σ w h).1 ∧ RM M' (boxY σ w h).2 ∧ FrM M M') (WE G) (AA G sz)) (AA G sz)) M 0 [(0, .ref (G.2.2.1 232)), (1, .int w), (2, .int h)] []
  generalize (xQ x (va_Qi (fun r M' => r = (boxY σ w h).1 ∧ RM M' (boxY σ w h).2 ∧ FrM M M') (WE G) (AA G sz)) (AA G sz)) = QQ at hret ⊢
  have cn116 : Jvm.Cond.constantLong RX5 116 (10) ∈ wsX5_box := by decide +kernel
  have cn118 : Jvm.Cond.constantLong RX5 118 (60) ∈ wsX5_box := by decide +kernel
  have cn120 : Jvm.Cond.constant RX5 120 (-1000001) ∈ wsX5_box := by decide +kernel
  have in5 : ∀ w ∈ wsX50, w ∈ wsX5_box := by decide +kernel
  have fl7 : Jvm.Cond.fieldLink RX5 7 "JammedBodiesModel" "all" "[I" ∈ wsX5_box := by decide +kernel
  have cn121 : Jvm.Cond.constant RX5 121 (-1000002) ∈ wsX5_box := by decide +kernel
  have hs := hR.1
  have hW := hO.1.1
  have h8 := hs.r
  refine wl_iload_n C 1 dX5_box_0 rfl rfl ?_
  refine wl_i2l (v := w.toInt64) C dX5_box_1 (rfl) ?_
  refine wl_ldc2 C cn116 dX5_box_2 ?_
  refine wl_ldc2 C cn118 dX5_box_5 ?_
  refine wl_callSp (n := 3) C [.long w.toInt64, .long 10, .long 60] [] (c_X5_in _ G M w.toInt64 10 60) gX5_box_X5_in rfl (by decide +kernel) (by decide) (by decide) rfl rfl (Nat.le_of_ble_eq_true rfl) dX5_box_8 ?_
  refine wl_eqi (b := bi (isSz w)) (by rw [inL_sz]) ?_
  refine wl_if_eqB C 28 dX5_box_11 (by decide) (fun c_11 => ?_) (fun c_11 => ?_)
  · refine wl_ldc C cn120 dX5_box_28 ?_
    exact hret _ 30 _ (-1000001) dX5_box_30 (by (have e : boxY σ w h = (-1000001, σ) := (by unfold boxY; rw [if_neg (fun q => by first | exact bcf q.1 c_11 | exact bcf q.2 c_25)])); rw [e]; exact ⟨rfl, hR, FrM.rf⟩)
  · refine wl_iload_n C 2 dX5_box_14 rfl rfl ?_
    refine wl_i2l (v := h.toInt64) C dX5_box_15 (rfl) ?_
    refine wl_ldc2 C cn116 dX5_box_16 ?_
    refine wl_ldc2 C cn118 dX5_box_19 ?_
    refine wl_callSp (n := 3) C [.long h.toInt64, .long 10, .long 60] [] (c_X5_in _ G M h.toInt64 10 60) gX5_box_X5_in rfl (by decide +kernel) (by decide) (by decide) rfl rfl (Nat.le_of_ble_eq_true rfl) dX5_box_22 ?_
    refine wl_eqi (b := bi (isSz h)) (by rw [inL_sz]) ?_
    refine wl_if_neB C 31 dX5_box_25 (by decide) (fun c_25 => ?_) (fun c_25 => ?_)
    · refine wl_iconst (v := nI 0) C dX5_box_31 (by first | decide | rfl) ?_
      refine wl_istore_n (L' := [(3, .int (nI 0)), (0, .ref (G.2.2.1 232)), (1, .int w), (2, .int h)]) C dX5_box_32 rfl (by decide) rfl ?_
      have h33 : ∀ k, k ≤ σ.1.1 → anT (fun k => decide (¬ pBeyond (σ.1.2.2.2 k) w h = 0)) k = false → WL x G (AA G sz) 4 0 0 QQ M 33 [(0, .ref (G.2.2.1 232)), (1, .int w), (2, .int h), (3, .int (nI k))] [] := by
        refine up_loop σ.1.1 _ ?_
        intro k hk ih hI
        refine wl_iload_n C 3 dX5_box_33 rfl rfl ?_
        refine wl_aload_n C 0 dX5_box_34 rfl rfl ?_
        refine wl_get_Model_all (i := 232) C (by decide) in5 fl7 dX5_box_35 ?_
        refine wl_iconst (v := 2) C dX5_box_38 (by decide) ?_
        refine wl_iald (j := 2) (n := 120) (v := nI σ.1.1) C (by decide) (cell_k (k := 10) (by decide)) (rfl) (by decide) (by decide) hs.2.2.1 dX5_box_39 ?_
        refine wl_icmp_geN C (a := k) (b := σ.1.1) (by omega) (by omega) 70 dX5_box_40 (by decide) (fun c_40 => ?_) (fun c_40 => ?_)
        · refine wl_aload_n C 0 dX5_box_70 rfl rfl ?_
          refine wl_callVv (i := 232) (n := 0) C [] [] (c_X5_keep _ G M) gX5_box_X5_keep rfl (by decide +kernel) (by decide) (by decide) (kd_lt (k := 5) (by decide) (by decide)) (cell_k (k := 5) (by decide)) rfl rfl rfl (Nat.le_of_ble_eq_true rfl) dX5_box_71 (fun M1 ek => ?_)
          have t1 : RM M1 σ := hR.on5 ek.2
          have s1 : PkM (M1 233) σ.1 := t1.1
          refine wl_bipush (v := 100) C dX5_box_74 (by decide) ?_
          refine wl_aload_n C 0 dX5_box_76 rfl rfl ?_
          refine wl_get_Model_all (i := 232) C (by decide) in5 fl7 dX5_box_77 ?_
          refine wl_iconst (v := 0) C dX5_box_80 (by decide) ?_
          refine wl_iald (j := 0) (n := 120) (v := σ.1.2.1) C (by decide) (cell_k (k := 10) (by decide)) (rfl) (by decide) (by decide) s1.1 dX5_box_81 ?_
          refine wl_imul C dX5_box_82 ?_
          refine wl_aload_n C 0 dX5_box_83 rfl rfl ?_
          refine wl_get_Model_all (i := 232) C (by decide) in5 fl7 dX5_box_84 ?_
          refine wl_iconst (v := 1) C dX5_box_87 (by decide) ?_
          refine wl_iald (j := 1) (n := 120) (v := σ.1.2.2.1) C (by decide) (cell_k (k := 10) (by decide)) (rfl) (by decide) (by decide) s1.2.1 dX5_box_88 ?_
          refine wl_iadd C dX5_box_89 ?_
          refine wl_istore_n (L' := [(3, .int ((100 * σ.1.2.1) + σ.1.2.2.1)), (0, .ref (G.2.2.1 232)), (1, .int w), (2, .int h)]) C dX5_box_90 rfl (by decide) rfl ?_
          refine wl_aload_n C 1 dX5_box_91 rfl rfl ?_
          refine wl_get_Model_all (i := 232) C (by decide) in5 fl7 dX5_box_92 ?_
          refine wl_iconst (v := 0) C dX5_box_95 (by decide) ?_
          refine wl_iload_n C 2 dX5_box_96 rfl rfl ?_
          refine wl_iast (j := 0) (n := 120) C (by decide) (fun M => (cell_k (k := 10) (by decide))) (rfl) (by decide) (by decide) dX5_box_97 ?_
          refine wl_aload_n C 1 dX5_box_98 rfl rfl ?_
          refine wl_get_Model_all (i := 232) C (by decide) in5 fl7 dX5_box_99 ?_
          refine wl_iconst (v := 1) C dX5_box_102 (by decide) ?_
          refine wl_iload_n C 3 dX5_box_103 rfl rfl ?_
          refine wl_iast (j := 1) (n := 120) C (by decide) (fun M => (cell_k (k := 10) (by decide))) (rfl) (by decide) (by decide) dX5_box_104 ?_
          obtain ⟨M2, eM2⟩ : ∃ z : Mem, z = (mset (mset M1 233 0 w) 233 1 h) := ⟨_, rfl⟩
          rw [← eM2]
          have w2 : On3 M1 M2 := by rw [eM2]; exact On3.set.tr On3.set
          have p2 : PkM (M2 233) (σ.1.1, w, h, σ.1.2.2.2) := by rw [eM2]; exact ⟨by rw [mset_ne (by omega)]; exact mset_self _ _ _ _, mset_self _ _ _ _, by rw [mset_ne (by omega), mset_ne (by omega)]; exact s1.2.2.1, h8, fun k hk => (s1.2.2.2.2 k hk).any (fun j hj => by rw [mset_ne (by omega), mset_ne (by omega)])⟩
          refine wl_aload_n C 1 dX5_box_105 rfl rfl ?_
          refine wl_iload_n C 0 dX5_box_106 rfl rfl ?_
          refine wl_callVi (i := 232) (n := 1) C [.int ((100 * σ.1.2.1) + σ.1.2.2.1)] [] (c_X5_changed _ G M2 σ.1 σ.2.1 σ.2.2.1 (100 * σ.1.2.1 + σ.1.2.2.1) (KpM.old ek w2 hR.1) (t1.2.1.on3 w2)) gX5_box_X5_changed rfl (by decide +kernel) (by decide) (by decide) (kd_lt (k := 5) (by decide) (by decide)) (cell_k (k := 5) (by decide)) rfl rfl rfl (Nat.le_of_ble_eq_true rfl) dX5_box_107 (fun r9 M3 ec => ?_)
          obtain ⟨qc, ec⟩ := ec
          subst qc
          exact hret _ 110 _ (100 * σ.1.2.1 + σ.1.2.2.1) dX5_box_110 (by (have e : boxY σ w h = (100 * σ.1.2.1 + σ.1.2.2.1, pushY σ (σ.1.1, w, h, σ.1.2.2.2)) := (by unfold boxY; rw [if_pos ⟨c_11, c_25⟩, if_pos (by unfold fitS; rw [show σ.1.1 = k by omega, hI]; rfl)])); rw [e]; (have q := hR.push ek w2 p2 ec); exact ⟨rfl, q.1, q.2⟩)
        · refine wl_aload_n C 0 dX5_box_43 rfl rfl ?_
          refine wl_iload_n C 3 dX5_box_44 rfl rfl ?_
          refine wl_callVp (i := 232) (n := 1) C [.int (nI k)] [] (c_X5_greatestX _ G M k (σ.1.2.2.2 k) (by omega) (hs.2.2.2.2 k (by omega)) (hW.sm k (by omega))) gX5_box_X5_greatestX rfl (by decide +kernel) (by decide) (by decide) (kd_lt (k := 5) (by decide) (by decide)) (cell_k (k := 5) (by decide)) rfl rfl rfl (Nat.le_of_ble_eq_true rfl) dX5_box_45 ?_
          refine wl_iload_n C 1 dX5_box_48 rfl rfl ?_
          refine wl_icmp_gt C 61 dX5_box_49 (by decide) (fun c_49 => ?_) (fun c_49 => ?_)
          · refine wl_ldc C cn121 dX5_box_61 ?_
            exact hret _ 63 _ (-1000002) dX5_box_63 (by (have e : boxY σ w h = (-1000002, σ) := (by unfold boxY; rw [if_pos ⟨c_11, c_25⟩, if_neg (fun q => fit_no (k := k) (by omega) (by first | exact by_outx (hW.2 k (by omega)) c_49 | exact by_outy (hW.2 k (by omega)) c_58) q)])); rw [e]; exact ⟨rfl, hR, FrM.rf⟩)
          · refine wl_aload_n C 0 dX5_box_52 rfl rfl ?_
            refine wl_iload_n C 3 dX5_box_53 rfl rfl ?_
            refine wl_callVp (i := 232) (n := 1) C [.int (nI k)] [] (c_X5_greatestY _ G M k (σ.1.2.2.2 k) (by omega) (hs.2.2.2.2 k (by omega)) (hW.sm k (by omega))) gX5_box_X5_greatestY rfl (by decide +kernel) (by decide) (by decide) (kd_lt (k := 5) (by decide) (by decide)) (cell_k (k := 5) (by decide)) rfl rfl rfl (Nat.le_of_ble_eq_true rfl) dX5_box_54 ?_
            refine wl_iload_n C 2 dX5_box_57 rfl rfl ?_
            refine wl_icmp_le C 64 dX5_box_58 (by decide) (fun c_58 => ?_) (fun c_58 => ?_)
            · refine wl_iinc1 (k := k) (L' := [(3, .int (nI (k + 1))), (0, .ref (G.2.2.1 232)), (1, .int w), (2, .int h)]) C 3 dX5_box_64 rfl (by decide) rfl ?_
              refine wl_goto C 33 dX5_box_67 (by decide) ?_
              refine wl_sub (L' := [(0, .ref (G.2.2.1 232)), (1, .int w), (2, .int h), (3, .int (nI (k + 1)))]) [1, 2, 3, 0] rfl ?_
              exact ih (by omega) (by simp only [anT, hI, Bool.false_or]; rw [by_in (hW.2 k (by omega)) (Int32.not_lt.mp c_49) c_58]; rfl)
            · refine wl_ldc C cn121 dX5_box_61 ?_
              exact hret _ 63 _ (-1000002) dX5_box_63 (by (have e : boxY σ w h = (-1000002, σ) := (by unfold boxY; rw [if_pos ⟨c_11, c_25⟩, if_neg (fun q => fit_no (k := k) (by omega) (by first | exact by_outx (hW.2 k (by omega)) c_49 | exact by_outy (hW.2 k (by omega)) c_58) q)])); rw [e]; exact ⟨rfl, hR, FrM.rf⟩)
      refine wl_sub (L' := [(0, .ref (G.2.2.1 232)), (1, .int w), (2, .int h), (3, .int (nI 0))]) [1, 2, 3, 0] rfl ?_
      exact h33 0 (Nat.zero_le _) rfl
    · refine wl_ldc C cn120 dX5_box_28 ?_
      exact hret _ 30 _ (-1000001) dX5_box_30 (by (have e : boxY σ w h = (-1000001, σ) := (by unfold boxY; rw [if_neg (fun q => by first | exact bcf q.1 c_11 | exact bcf q.2 c_25)])); rw [e]; exact ⟨rfl, hR, FrM.rf⟩)
set_option maxHeartbeats 4000000 in
set_option maxRecDepth 100000 in
theorem c_X5_remove (l : Launch) (G : Gw) (M : Mem) (σ : Sy) (hR : RM M σ) (hO : OkY σ) (v : Int32) : Ci l G yX5_remove wsX5_remove 2 46 [.ref (G.2.2.1 232), .int v] M (fun r M' => r = (remY σ v).1 ∧ RM M' (remY σ v).2 ∧ FrM M M') := by
  refine Ci.of (cc := cX5_remove) (maxL := 2) (ret := (some .int)) (by decide +kernel) rfl (Nat.le_of_ble_eq_true rfl) ?_
  intro x sz hl0 hr C
  subst hl0
  have C : CX x G (AA G sz) RX5 cX5_remove 2 wsX5_remove 2 46 0 0 := C
  have hret : ∀ (M0 : Mem) (pc0 : Nat) (L0 : List (Nat × Value)) (rv0 : Int32), decode cX5_remove pc0 = .ok (.ireturn, 1) → (fun r M' => r = (remY σ v).1 ∧ RM M' (remY σ v).2 ∧ FrM M M') rv0 M0 → WL x G (AA G sz) 2 0 0 (xQ x (va_Qi (fun r M' => r = (remY σ v).1 ∧ RM M' (remY σ v).2 ∧ FrM M M') (WE G) (AA G sz)) (AA G sz)) M0 pc0 L0 [.int rv0] := fun M0 pc0 L0 rv0 hd hp => wl_iret (post := (fun r M' => r = (remY σ v).1 ∧ RM M' (remY σ v).2 ∧ FrM M M')) C hr hd hp
  show WL x G (AA G sz) 2 0 0 (xQ x (va_Qi (fun r M' => r = (remY σ v).1 ∧ RM M' (remY σ v).2 ∧ FrM M M') (WE G) (AA G sz)) (AA G sz)) M 0 [(0, .ref (G.2.2.1 232)), (1, .int v)] []
  generalize (xQ x (va_Qi (fun r M' => r = (remY σ v).1 ∧ RM M' (remY σ v).2 ∧ FrM M M') (WE G) (AA G sz)) (AA G sz)) = QQ at hret ⊢
  have in5 : ∀ w ∈ wsX50, w ∈ wsX5_remove := by decide +kernel
  have fl7 : Jvm.Cond.fieldLink RX5 7 "JammedBodiesModel" "all" "[I" ∈ wsX5_remove := by decide +kernel
  have cn120 : Jvm.Cond.constant RX5 120 (-1000001) ∈ wsX5_remove := by decide +kernel
  have hs := hR.1
  have hW := hO.1.1
  have h8 := hs.r
  refine wl_aload_n C 0 dX5_remove_0 rfl rfl ?_
  refine wl_iload_n C 1 dX5_remove_1 rfl rfl ?_
  refine wl_callVp (i := 232) (n := 1) C [.int v] [] (c_X5_isBody _ G M σ.1 hs v) gX5_remove_X5_isBody rfl (by decide +kernel) (by decide) (by decide) (kd_lt (k := 5) (by decide) (by decide)) (cell_k (k := 5) (by decide)) rfl rfl rfl (Nat.le_of_ble_eq_true rfl) dX5_remove_2 ?_
  refine wl_if_neB C 11 dX5_remove_5 (by decide) (fun c_5 => ?_) (fun c_5 => ?_)
  · obtain ⟨k, hk, hv, hkc⟩ := hasB_k c_5 (by omega)
    refine wl_aload_n C 0 dX5_remove_11 rfl rfl ?_
    refine wl_callVv (i := 232) (n := 0) C [] [] (c_X5_keep _ G M) gX5_remove_X5_keep rfl (by decide +kernel) (by decide) (by decide) (kd_lt (k := 5) (by decide) (by decide)) (cell_k (k := 5) (by decide)) rfl rfl rfl (Nat.le_of_ble_eq_true rfl) dX5_remove_12 (fun M1 ek => ?_)
    have t1 : RM M1 σ := hR.on5 ek.2
    have s1 : PkM (M1 233) σ.1 := t1.1
    refine wl_aload_n C 0 dX5_remove_15 rfl rfl ?_
    refine wl_iload_n C 1 dX5_remove_16 rfl rfl ?_
    refine wl_eqi (b := nI k) (hv) ?_
    refine wl_callVv (i := 232) (n := 1) C [.int (nI k)] [] (c_X5_takesOut _ G M1 σ.1 s1 k hk) gX5_remove_X5_takesOut rfl (by decide +kernel) (by decide) (by decide) (kd_lt (k := 5) (by decide) (by decide)) (cell_k (k := 5) (by decide)) rfl rfl rfl (Nat.le_of_ble_eq_true rfl) dX5_remove_17 (fun M2 et => ?_)
    have w2 := et.1
    refine wl_aload_n C 0 dX5_remove_20 rfl rfl ?_
    refine wl_aload_n C 0 dX5_remove_21 rfl rfl ?_
    refine wl_get_Model_all (i := 232) C (by decide) in5 fl7 dX5_remove_22 ?_
    refine wl_iconst (v := 2) C dX5_remove_25 (by decide) ?_
    refine wl_iald (j := 2) (n := 120) (v := nI (σ.1.1 - 1)) C (by decide) (cell_k (k := 10) (by decide)) (rfl) (by decide) (by decide) et.2.2.2.1 dX5_remove_26 ?_
    refine wl_callVi (i := 232) (n := 1) C [.int (nI (σ.1.1 - 1))] [] (c_X5_changed _ G M2 σ.1 σ.2.1 σ.2.2.1 (nI (σ.1.1 - 1)) (KpM.old ek w2 hR.1) (t1.2.1.on3 w2)) gX5_remove_X5_changed rfl (by decide +kernel) (by decide) (by decide) (kd_lt (k := 5) (by decide) (by decide)) (cell_k (k := 5) (by decide)) rfl rfl rfl (Nat.le_of_ble_eq_true rfl) dX5_remove_27 (fun r9 M3 ec => ?_)
    obtain ⟨qc, ec⟩ := ec
    subst qc
    exact hret _ 30 _ (nI (σ.1.1 - 1)) dX5_remove_30 (by (have e : remY σ v = (nI (σ.1.1 - 1), pushY σ (outS σ.1 k)) := (by unfold remY; rw [if_pos c_5, hkc])); rw [e]; (have q := hR.push ek w2 et.2 ec); exact ⟨rfl, q.1, q.2⟩)
  · refine wl_ldc C cn120 dX5_remove_8 ?_
    exact hret _ 10 _ (-1000001) dX5_remove_10 (by (have e : remY σ v = (-1000001, σ) := (by unfold remY; rw [if_neg (fun q => bcf q c_5)])); rw [e]; exact ⟨rfl, hR, FrM.rf⟩)
set_option maxHeartbeats 4000000 in
set_option maxRecDepth 100000 in
theorem c_X5_empty (l : Launch) (G : Gw) (M : Mem) (σ : Sy) (hR : RM M σ) (hO : OkY σ) : Ci l G yX5_empty wsX5_empty 1 22 [.ref (G.2.2.1 232)] M (fun r M' => r = (empY σ).1 ∧ RM M' (empY σ).2 ∧ FrM M M') := by
  refine Ci.of (cc := cX5_empty) (maxL := 2) (ret := (some .int)) (by decide +kernel) rfl (Nat.le_of_ble_eq_true rfl) ?_
  intro x sz hl0 hr C
  subst hl0
  have C : CX x G (AA G sz) RX5 cX5_empty 2 wsX5_empty 1 22 0 0 := C
  have hret : ∀ (M0 : Mem) (pc0 : Nat) (L0 : List (Nat × Value)) (rv0 : Int32), decode cX5_empty pc0 = .ok (.ireturn, 1) → (fun r M' => r = (empY σ).1 ∧ RM M' (empY σ).2 ∧ FrM M M') rv0 M0 → WL x G (AA G sz) 2 0 0 (xQ x (va_Qi (fun r M' => r = (empY σ).1 ∧ RM M' (empY σ).2 ∧ FrM M M') (WE G) (AA G sz)) (AA G sz)) M0 pc0 L0 [.int rv0] := fun M0 pc0 L0 rv0 hd hp => wl_iret (post := (fun r M' => r = (empY σ).1 ∧ RM M' (empY σ).2 ∧ FrM M M')) C hr hd hp
  show WL x G (AA G sz) 2 0 0 (xQ x (va_Qi (fun r M' => r = (empY σ).1 ∧ RM M' (empY σ).2 ∧ FrM M M') (WE G) (AA G sz)) (AA G sz)) M 0 [(0, .ref (G.2.2.1 232))] []
  generalize (xQ x (va_Qi (fun r M' => r = (empY σ).1 ∧ RM M' (empY σ).2 ∧ FrM M M') (WE G) (AA G sz)) (AA G sz)) = QQ at hret ⊢
  have in5 : ∀ w ∈ wsX50, w ∈ wsX5_empty := by decide +kernel
  have fl7 : Jvm.Cond.fieldLink RX5 7 "JammedBodiesModel" "all" "[I" ∈ wsX5_empty := by decide +kernel
  have hs := hR.1
  have hW := hO.1.1
  have h8 := hs.r
  refine wl_aload_n C 0 dX5_empty_0 rfl rfl ?_
  refine wl_callVv (i := 232) (n := 0) C [] [] (c_X5_keep _ G M) gX5_empty_X5_keep rfl (by decide +kernel) (by decide) (by decide) (kd_lt (k := 5) (by decide) (by decide)) (cell_k (k := 5) (by decide)) rfl rfl rfl (Nat.le_of_ble_eq_true rfl) dX5_empty_1 (fun M1 ek => ?_)
  have t1 : RM M1 σ := hR.on5 ek.2
  have s1 : PkM (M1 233) σ.1 := t1.1
  refine wl_aload_n C 0 dX5_empty_4 rfl rfl ?_
  refine wl_get_Model_all (i := 232) C (by decide) in5 fl7 dX5_empty_5 ?_
  refine wl_iconst (v := 2) C dX5_empty_8 (by decide) ?_
  refine wl_iald (j := 2) (n := 120) (v := nI σ.1.1) C (by decide) (cell_k (k := 10) (by decide)) (rfl) (by decide) (by decide) s1.2.2.1 dX5_empty_9 ?_
  refine wl_istore_n (L' := [(1, .int (nI σ.1.1)), (0, .ref (G.2.2.1 232))]) C dX5_empty_10 rfl (by decide) rfl ?_
  refine wl_aload_n C 1 dX5_empty_11 rfl rfl ?_
  refine wl_get_Model_all (i := 232) C (by decide) in5 fl7 dX5_empty_12 ?_
  refine wl_iconst (v := 2) C dX5_empty_15 (by decide) ?_
  refine wl_iconst (v := 0) C dX5_empty_16 (by decide) ?_
  refine wl_iast (j := 2) (n := 120) C (by decide) (fun M => (cell_k (k := 10) (by decide))) (rfl) (by decide) (by decide) dX5_empty_17 ?_
  obtain ⟨M2, eM2⟩ : ∃ z : Mem, z = (mset M1 233 2 0) := ⟨_, rfl⟩
  rw [← eM2]
  have w2 : On3 M1 M2 := by rw [eM2]; exact On3.set
  have p2 : PkM (M2 233) (0, σ.1.2) := by rw [eM2]; exact ⟨by rw [mset_ne (by omega)]; exact s1.1, by rw [mset_ne (by omega)]; exact s1.2.1, mset_self _ _ _ _, Nat.zero_le _, fun k hk => absurd hk (Nat.not_lt_zero _)⟩
  refine wl_aload_n C 1 dX5_empty_18 rfl rfl ?_
  refine wl_iload_n C 0 dX5_empty_19 rfl rfl ?_
  refine wl_callVi (i := 232) (n := 1) C [.int (nI σ.1.1)] [] (c_X5_changed _ G M2 σ.1 σ.2.1 σ.2.2.1 (nI σ.1.1) (KpM.old ek w2 hR.1) (t1.2.1.on3 w2)) gX5_empty_X5_changed rfl (by decide +kernel) (by decide) (by decide) (kd_lt (k := 5) (by decide) (by decide)) (cell_k (k := 5) (by decide)) rfl rfl rfl (Nat.le_of_ble_eq_true rfl) dX5_empty_20 (fun r9 M3 ec => ?_)
  obtain ⟨qc, ec⟩ := ec
  subst qc
  exact hret _ 23 _ (nI σ.1.1) dX5_empty_23 (by (have e : empY σ = (nI σ.1.1, pushY σ (0, σ.1.2)) := (by rfl)); rw [e]; (have q := hR.push ek w2 p2 ec); exact ⟨rfl, q.1, q.2⟩)
set_option maxHeartbeats 4000000 in
set_option maxRecDepth 100000 in
theorem c_X5_slide (l : Launch) (G : Gw) (M : Mem) (σ : Sy) (hR : RM M σ) (hO : OkY σ) (v : Int32) (d : Int32) (m : Int32) : Ci l G yX5_slide wsX5_slide 10 231 [.ref (G.2.2.1 232), .int v, .int d, .int m] M (fun r M' => r = (sliY σ v d m).1 ∧ RM M' (sliY σ v d m).2 ∧ FrM M M') := by
  refine Ci.of (cc := cX5_slide) (maxL := 5) (ret := (some .int)) (by decide +kernel) rfl (Nat.le_of_ble_eq_true rfl) ?_
  intro x sz hl0 hr C
  subst hl0
  have C : CX x G (AA G sz) RX5 cX5_slide 5 wsX5_slide 10 231 0 0 := C
  have hret : ∀ (M0 : Mem) (pc0 : Nat) (L0 : List (Nat × Value)) (rv0 : Int32), decode cX5_slide pc0 = .ok (.ireturn, 1) → (fun r M' => r = (sliY σ v d m).1 ∧ RM M' (sliY σ v d m).2 ∧ FrM M M') rv0 M0 → WL x G (AA G sz) 5 0 0 (xQ x (va_Qi (fun r M' => r = (sliY σ v d m).1 ∧ RM M' (sliY σ v d m).2 ∧ FrM M M') (WE G) (AA G sz)) (AA G sz)) M0 pc0 L0 [.int rv0] := fun M0 pc0 L0 rv0 hd hp => wl_iret (post := (fun r M' => r = (sliY σ v d m).1 ∧ RM M' (sliY σ v d m).2 ∧ FrM M M')) C hr hd hp
  show WL x G (AA G sz) 5 0 0 (xQ x (va_Qi (fun r M' => r = (sliY σ v d m).1 ∧ RM M' (sliY σ v d m).2 ∧ FrM M M') (WE G) (AA G sz)) (AA G sz)) M 0 [(0, .ref (G.2.2.1 232)), (1, .int v), (2, .int d), (3, .int m)] []
  generalize (xQ x (va_Qi (fun r M' => r = (sliY σ v d m).1 ∧ RM M' (sliY σ v d m).2 ∧ FrM M M') (WE G) (AA G sz)) (AA G sz)) = QQ at hret ⊢
  have cn120 : Jvm.Cond.constant RX5 120 (-1000001) ∈ wsX5_slide := by decide +kernel
  have cn118 : Jvm.Cond.constantLong RX5 118 (60) ∈ wsX5_slide := by decide +kernel
  have cn121 : Jvm.Cond.constant RX5 121 (-1000002) ∈ wsX5_slide := by decide +kernel
  have hs := hR.1
  have hW := hO.1.1
  have h8 := hs.r
  refine wl_aload_n C 0 dX5_slide_0 rfl rfl ?_
  refine wl_iload_n C 1 dX5_slide_1 rfl rfl ?_
  refine wl_callVp (i := 232) (n := 1) C [.int v] [] (c_X5_isBody _ G M σ.1 hs v) gX5_slide_X5_isBody rfl (by decide +kernel) (by decide) (by decide) (kd_lt (k := 5) (by decide) (by decide)) (cell_k (k := 5) (by decide)) rfl rfl rfl (Nat.le_of_ble_eq_true rfl) dX5_slide_2 ?_
  refine wl_if_eqB C 27 dX5_slide_5 (by decide) (fun c_5 => ?_) (fun c_5 => ?_)
  · refine wl_ldc C cn120 dX5_slide_27 ?_
    exact hret _ 29 _ (-1000001) dX5_slide_29 (by (have e : sliY σ v d m = (-1000001, σ) := (by unfold sliY; rw [if_neg (fun q => by first | exact bcf q.1 c_5 | exact bcf q.2.1 c_12 | exact bcf (Bool.and_eq_true_iff.mpr ⟨decide_eq_true q.2.2.1, decide_eq_true q.2.2.2⟩) c_24)])); rw [e]; exact ⟨rfl, hR, FrM.rf⟩)
  · refine wl_iload_n C 2 dX5_slide_8 rfl rfl ?_
    refine wl_callSp (n := 1) C [.int d] [] (c_X5_isDirection _ G M d) gX5_slide_X5_isDirection rfl (by decide +kernel) (by decide) (by decide) rfl rfl (Nat.le_of_ble_eq_true rfl) dX5_slide_9 ?_
    refine wl_if_eqB C 27 dX5_slide_12 (by decide) (fun c_12 => ?_) (fun c_12 => ?_)
    · refine wl_ldc C cn120 dX5_slide_27 ?_
      exact hret _ 29 _ (-1000001) dX5_slide_29 (by (have e : sliY σ v d m = (-1000001, σ) := (by unfold sliY; rw [if_neg (fun q => by first | exact bcf q.1 c_5 | exact bcf q.2.1 c_12 | exact bcf (Bool.and_eq_true_iff.mpr ⟨decide_eq_true q.2.2.1, decide_eq_true q.2.2.2⟩) c_24)])); rw [e]; exact ⟨rfl, hR, FrM.rf⟩)
    · refine wl_iload_n C 3 dX5_slide_15 rfl rfl ?_
      refine wl_i2l (v := m.toInt64) C dX5_slide_16 (rfl) ?_
      refine wl_lconst (v := 1) C dX5_slide_17 (by decide) ?_
      refine wl_ldc2 C cn118 dX5_slide_18 ?_
      refine wl_callSp (n := 3) C [.long m.toInt64, .long 1, .long 60] [] (c_X5_in _ G M m.toInt64 1 60) gX5_slide_X5_in rfl (by decide +kernel) (by decide) (by decide) rfl rfl (Nat.le_of_ble_eq_true rfl) dX5_slide_21 ?_
      refine wl_eqi (b := bi (decide (nI 1 ≤ m) && decide (m ≤ nI 60))) (by rw [inL_num (a := nI 1) (b := nI 60) (by decide) (by decide)]) ?_
      refine wl_if_neB C 30 dX5_slide_24 (by decide) (fun c_24 => ?_) (fun c_24 => ?_)
      · obtain ⟨k, hk, hv, hkc⟩ := hasB_k c_5 (by omega)
        obtain ⟨d2, hd, hdv, hdc⟩ := isDir_k c_12
        obtain ⟨m2, hm1, hm60, hmv, hmc⟩ := num_k (a := 1) (b := 60) (by decide) (of_decide_eq_true (Bool.and_eq_true_iff.mp c_24).1) (of_decide_eq_true (Bool.and_eq_true_iff.mp c_24).2) (by decide)
        have hg : hasB σ.1.1 v = true ∧ isDir d = true ∧ 1 ≤ m ∧ m ≤ 60 := ⟨c_5, c_12, of_decide_eq_true (Bool.and_eq_true_iff.mp c_24).1, of_decide_eq_true (Bool.and_eq_true_iff.mp c_24).2⟩
        refine wl_aload_n C 0 dX5_slide_30 rfl rfl ?_
        refine wl_callVv (i := 232) (n := 0) C [] [] (c_X5_keep _ G M) gX5_slide_X5_keep rfl (by decide +kernel) (by decide) (by decide) (kd_lt (k := 5) (by decide) (by decide)) (cell_k (k := 5) (by decide)) rfl rfl rfl (Nat.le_of_ble_eq_true rfl) dX5_slide_31 (fun M1 ek => ?_)
        have t1 : RM M1 σ := hR.on5 ek.2
        have s1 : PkM (M1 233) σ.1 := t1.1
        refine wl_aload_n C 0 dX5_slide_34 rfl rfl ?_
        refine wl_iload_n C 1 dX5_slide_35 rfl rfl ?_
        refine wl_eqi (b := nI k) (hv) ?_
        refine wl_iload_n C 2 dX5_slide_36 rfl rfl ?_
        refine wl_eqi (b := nI d2) (hdv) ?_
        refine wl_iload_n C 3 dX5_slide_37 rfl rfl ?_
        refine wl_eqi (b := nI m2) (hmv) ?_
        refine wl_callVi (i := 232) (n := 3) C [.int (nI k), .int (nI d2), .int (nI m2)] [] (c_X5_slides _ G M1 σ.1 s1 hW k d2 m2 hk hd (by omega)) gX5_slide_X5_slides rfl (by decide +kernel) (by decide) (by decide) (kd_lt (k := 5) (by decide) (by decide)) (cell_k (k := 5) (by decide)) rfl rfl rfl (Nat.le_of_ble_eq_true rfl) dX5_slide_38 (fun r1 M2 ea => ?_)
        obtain ⟨qa, w2, fa, ba⟩ := ea
        subst qa
        have hle := fsN_le σ.1 k d2 m2
        refine wl_istore (L' := [(4, .int (nI (fsN σ.1 k d2 m2))), (0, .ref (G.2.2.1 232)), (1, .int v), (2, .int d), (3, .int m)]) C dX5_slide_41 (by decide) rfl ?_
        refine wl_iload C 0 dX5_slide_43 rfl ?_
        refine wl_if_ne C 53 dX5_slide_45 (by decide) (fun c_45 => ?_) (fun c_45 => ?_)
        · refine wl_aload_n C 1 dX5_slide_53 rfl rfl ?_
          refine wl_iload C 0 dX5_slide_54 rfl ?_
          refine wl_callVi (i := 232) (n := 1) C [.int (nI (fsN σ.1 k d2 m2))] [] (c_X5_changed _ G M2 σ.1 σ.2.1 σ.2.2.1 (nI (fsN σ.1 k d2 m2)) (KpM.old ek w2 hR.1) (t1.2.1.on3 w2)) gX5_slide_X5_changed rfl (by decide +kernel) (by decide) (by decide) (kd_lt (k := 5) (by decide) (by decide)) (cell_k (k := 5) (by decide)) rfl rfl rfl (Nat.le_of_ble_eq_true rfl) dX5_slide_56 (fun r9 M3 ec => ?_)
          obtain ⟨qc, ec⟩ := ec
          subst qc
          exact hret _ 59 _ (nI (fsN σ.1 k d2 m2)) dX5_slide_59 (by (have e : sliY σ v d m = (nI (fsN σ.1 k d2 m2), pushY σ (setS σ.1 k (shP (σ.1.2.2.2 k) d2 (fsN σ.1 k d2 m2)))) := (by unfold sliY; rw [if_pos hg, hkc, hdc, hmc, if_neg (fun z => c_45 (by rw [z]; rfl))])); rw [e]; (have p2 := ((s1.X k).fr fa (by omega)).M ba); (rw [mvN_sh] at p2); (have q := hR.push ek w2 p2 ec); exact ⟨rfl, q.1, q.2⟩)
        · refine wl_ldc C cn121 dX5_slide_48 ?_
          refine wl_goto C 59 dX5_slide_50 (by decide) ?_
          exact hret _ 59 _ (-1000002) dX5_slide_59 (by (have z0 : fsN σ.1 k d2 m2 = 0 := Nat.eq_zero_of_not_pos (fun q => nI_ne0 q (by omega) c_45)); (have e : sliY σ v d m = (-1000002, σ) := (by unfold sliY; rw [if_pos hg, hkc, hdc, hmc, if_pos z0])); rw [e]; (rw [z0] at ba); (have p2 := ((s1.X k).fr fa (by omega)).M ba); (rw [show mvN (σ.1.2.2.2 k) d2 0 = σ.1.2.2.2 k from rfl, setS_id] at p2); exact ⟨rfl, t1.on3 w2 p2, ek.2.M.tr w2.M⟩)
      · refine wl_ldc C cn120 dX5_slide_27 ?_
        exact hret _ 29 _ (-1000001) dX5_slide_29 (by (have e : sliY σ v d m = (-1000001, σ) := (by unfold sliY; rw [if_neg (fun q => by first | exact bcf q.1 c_5 | exact bcf q.2.1 c_12 | exact bcf (Bool.and_eq_true_iff.mpr ⟨decide_eq_true q.2.2.1, decide_eq_true q.2.2.2⟩) c_24)])); rw [e]; exact ⟨rfl, hR, FrM.rf⟩)
set_option maxHeartbeats 4000000 in
set_option maxRecDepth 100000 in
theorem c_X5_turn (l : Launch) (G : Gw) (M : Mem) (σ : Sy) (hR : RM M σ) (hO : OkY σ) (v : Int32) : Ci l G yX5_turn wsX5_turn 8 185 [.ref (G.2.2.1 232), .int v] M (fun r M' => r = (turY σ v).1 ∧ RM M' (turY σ v).2 ∧ FrM M M') := by
  refine Ci.of (cc := cX5_turn) (maxL := 8) (ret := (some .int)) (by decide +kernel) rfl (Nat.le_of_ble_eq_true rfl) ?_
  intro x sz hl0 hr C
  subst hl0
  have C : CX x G (AA G sz) RX5 cX5_turn 8 wsX5_turn 8 185 0 0 := C
  have hret : ∀ (M0 : Mem) (pc0 : Nat) (L0 : List (Nat × Value)) (rv0 : Int32), decode cX5_turn pc0 = .ok (.ireturn, 1) → (fun r M' => r = (turY σ v).1 ∧ RM M' (turY σ v).2 ∧ FrM M M') rv0 M0 → WL x G (AA G sz) 8 0 0 (xQ x (va_Qi (fun r M' => r = (turY σ v).1 ∧ RM M' (turY σ v).2 ∧ FrM M M') (WE G) (AA G sz)) (AA G sz)) M0 pc0 L0 [.int rv0] := fun M0 pc0 L0 rv0 hd hp => wl_iret (post := (fun r M' => r = (turY σ v).1 ∧ RM M' (turY σ v).2 ∧ FrM M M')) C hr hd hp
  show WL x G (AA G sz) 8 0 0 (xQ x (va_Qi (fun r M' => r = (turY σ v).1 ∧ RM M' (turY σ v).2 ∧ FrM M M') (WE G) (AA G sz)) (AA G sz)) M 0 [(0, .ref (G.2.2.1 232)), (1, .int v)] []
  generalize (xQ x (va_Qi (fun r M' => r = (turY σ v).1 ∧ RM M' (turY σ v).2 ∧ FrM M M') (WE G) (AA G sz)) (AA G sz)) = QQ at hret ⊢
  have cn121 : Jvm.Cond.constant RX5 121 (-1000002) ∈ wsX5_turn := by decide +kernel
  have in5 : ∀ w ∈ wsX50, w ∈ wsX5_turn := by decide +kernel
  have fl7 : Jvm.Cond.fieldLink RX5 7 "JammedBodiesModel" "all" "[I" ∈ wsX5_turn := by decide +kernel
  have cn120 : Jvm.Cond.constant RX5 120 (-1000001) ∈ wsX5_turn := by decide +kernel
  have hs := hR.1
  have hW := hO.1.1
  have h8 := hs.r
  refine wl_aload_n C 0 dX5_turn_0 rfl rfl ?_
  refine wl_iload_n C 1 dX5_turn_1 rfl rfl ?_
  refine wl_callVp (i := 232) (n := 1) C [.int v] [] (c_X5_isBody _ G M σ.1 hs v) gX5_turn_X5_isBody rfl (by decide +kernel) (by decide) (by decide) (kd_lt (k := 5) (by decide) (by decide)) (cell_k (k := 5) (by decide)) rfl rfl rfl (Nat.le_of_ble_eq_true rfl) dX5_turn_2 ?_
  refine wl_if_neB C 11 dX5_turn_5 (by decide) (fun c_5 => ?_) (fun c_5 => ?_)
  · obtain ⟨k, hk, hv, hkc⟩ := hasB_k c_5 (by omega)
    have hwk := hW.2 k hk
    have hSk := hW.sm k hk
    have h6 := (hs.2.2.2.2 k hk).2.1
    have smt := hwk.smal_tn hW.1
    refine wl_aload_n C 0 dX5_turn_11 rfl rfl ?_
    refine wl_callVv (i := 232) (n := 0) C [] [] (c_X5_keep _ G M) gX5_turn_X5_keep rfl (by decide +kernel) (by decide) (by decide) (kd_lt (k := 5) (by decide) (by decide)) (cell_k (k := 5) (by decide)) rfl rfl rfl (Nat.le_of_ble_eq_true rfl) dX5_turn_12 (fun M1 ek => ?_)
    have t1 : RM M1 σ := hR.on5 ek.2
    have s1 : PkM (M1 233) σ.1 := t1.1
    refine wl_aload_n C 0 dX5_turn_15 rfl rfl ?_
    refine wl_iload_n C 1 dX5_turn_16 rfl rfl ?_
    refine wl_eqi (b := nI k) (hv) ?_
    refine wl_callVp (i := 232) (n := 1) C [.int (nI k)] [] (c_X5_leastX _ G M1 k (σ.1.2.2.2 k) (by omega) (s1.2.2.2.2 k hk) hSk) gX5_turn_X5_leastX rfl (by decide +kernel) (by decide) (by decide) (kd_lt (k := 5) (by decide) (by decide)) (cell_k (k := 5) (by decide)) rfl rfl rfl (Nat.le_of_ble_eq_true rfl) dX5_turn_17 ?_
    refine wl_istore_n (L' := [(2, .int (pL (σ.1.2.2.2 k))), (0, .ref (G.2.2.1 232)), (1, .int v)]) C dX5_turn_20 rfl (by decide) rfl ?_
    refine wl_aload_n C 1 dX5_turn_21 rfl rfl ?_
    refine wl_iload_n C 2 dX5_turn_22 rfl rfl ?_
    refine wl_eqi (b := nI k) (hv) ?_
    refine wl_callVp (i := 232) (n := 1) C [.int (nI k)] [] (c_X5_leastY _ G M1 k (σ.1.2.2.2 k) (by omega) (s1.2.2.2.2 k hk) hSk) gX5_turn_X5_leastY rfl (by decide +kernel) (by decide) (by decide) (kd_lt (k := 5) (by decide) (by decide)) (cell_k (k := 5) (by decide)) rfl rfl rfl (Nat.le_of_ble_eq_true rfl) dX5_turn_23 ?_
    refine wl_istore_n (L' := [(3, .int (pB (σ.1.2.2.2 k))), (2, .int (pL (σ.1.2.2.2 k))), (0, .ref (G.2.2.1 232)), (1, .int v)]) C dX5_turn_26 rfl (by decide) rfl ?_
    refine wl_aload_n C 2 dX5_turn_27 rfl rfl ?_
    refine wl_iload_n C 3 dX5_turn_28 rfl rfl ?_
    refine wl_eqi (b := nI k) (hv) ?_
    refine wl_callVp (i := 232) (n := 1) C [.int (nI k)] [] (c_X5_greatestY _ G M1 k (σ.1.2.2.2 k) (by omega) (s1.2.2.2.2 k hk) hSk) gX5_turn_X5_greatestY rfl (by decide +kernel) (by decide) (by decide) (kd_lt (k := 5) (by decide) (by decide)) (cell_k (k := 5) (by decide)) rfl rfl rfl (Nat.le_of_ble_eq_true rfl) dX5_turn_29 ?_
    refine wl_iload_n C 0 dX5_turn_32 rfl rfl ?_
    refine wl_isub C dX5_turn_33 ?_
    refine wl_istore (L' := [(4, .int ((pT (σ.1.2.2.2 k)) - (pB (σ.1.2.2.2 k)))), (3, .int (pB (σ.1.2.2.2 k))), (2, .int (pL (σ.1.2.2.2 k))), (0, .ref (G.2.2.1 232)), (1, .int v)]) C dX5_turn_34 (by decide) rfl ?_
    refine wl_iconst (v := nI 0) C dX5_turn_36 (by first | decide | rfl) ?_
    refine wl_istore (L' := [(5, .int (nI 0)), (4, .int ((pT (σ.1.2.2.2 k)) - (pB (σ.1.2.2.2 k)))), (3, .int (pB (σ.1.2.2.2 k))), (2, .int (pL (σ.1.2.2.2 k))), (0, .ref (G.2.2.1 232)), (1, .int v)]) C dX5_turn_37 (by decide) rfl ?_
    have h39 : ∀ i, i ≤ (σ.1.2.2.2 k).1 → ∀ M2 : Mem, On3 M1 M2 ∧ tnI (M1 233) k (σ.1.2.2.2 k) i (M2 233) → WL x G (AA G sz) 8 0 0 QQ M2 39 [(0, .ref (G.2.2.1 232)), (1, .int v), (2, .int (pL (σ.1.2.2.2 k))), (3, .int (pB (σ.1.2.2.2 k))), (4, .int (pT (σ.1.2.2.2 k) - pB (σ.1.2.2.2 k))), (5, .int (nI i))] [] := by
      refine up_loop (σ.1.2.2.2 k).1 _ ?_
      intro i hi ih M2 hI
      refine wl_iload C 5 dX5_turn_39 rfl ?_
      refine wl_aload_n C 0 dX5_turn_41 rfl rfl ?_
      refine wl_iload_n C 1 dX5_turn_42 rfl rfl ?_
      refine wl_eqi (b := nI k) (hv) ?_
      refine wl_callVp (i := 232) (n := 1) C [.int (nI k)] [.int (nI i)] (c_X5_corners _ G M2 k ((σ.1.2.2.2 k).1, (fun j => M2 233 (12 + 6 * k + j)), (fun j => M2 233 (66 + 6 * k + j))) (by omega) ⟨hI.2.1, h6, fun _ _ => rfl, fun _ _ => rfl⟩) gX5_turn_X5_corners rfl (by decide +kernel) (by decide) (by decide) (kd_lt (k := 5) (by decide) (by decide)) (cell_k (k := 5) (by decide)) rfl rfl rfl (Nat.le_of_ble_eq_true rfl) dX5_turn_43 ?_
      refine wl_icmp_geN C (a := i) (b := (σ.1.2.2.2 k).1) (by omega) (by omega) 134 dX5_turn_46 (by decide) (fun c_46 => ?_) (fun c_46 => ?_)
      · refine wl_aload_n C 0 dX5_turn_134 rfl rfl ?_
        refine wl_iload_n C 1 dX5_turn_135 rfl rfl ?_
        refine wl_eqi (b := nI k) (hv) ?_
        refine wl_callVp (i := 232) (n := 1) C [.int (nI k)] [] (c_X5_fits _ G M2 σ.1 k (tnP (σ.1.2.2.2 k)) ((s1.X k).fr hI.2.2.2.2 (by omega)) (by omega) (tnI_end hI.2 h6 (by omega)) smt hW) gX5_turn_X5_fits rfl (by decide +kernel) (by decide) (by decide) (kd_lt (k := 5) (by decide) (by decide)) (cell_k (k := 5) (by decide)) rfl rfl rfl (Nat.le_of_ble_eq_true rfl) dX5_turn_136 ?_
        refine wl_if_neB C 149 dX5_turn_139 (by decide) (fun c_139 => ?_) (fun c_139 => ?_)
        · refine wl_aload_n C 0 dX5_turn_149 rfl rfl ?_
          refine wl_iload C 4 dX5_turn_150 rfl ?_
          refine wl_callVi (i := 232) (n := 1) C [.int (pT (σ.1.2.2.2 k) - pB (σ.1.2.2.2 k))] [] (c_X5_changed _ G M2 σ.1 σ.2.1 σ.2.2.1 (pT (σ.1.2.2.2 k) - pB (σ.1.2.2.2 k)) (KpM.old ek hI.1 hR.1) (t1.2.1.on3 hI.1)) gX5_turn_X5_changed rfl (by decide +kernel) (by decide) (by decide) (kd_lt (k := 5) (by decide) (by decide)) (cell_k (k := 5) (by decide)) rfl rfl rfl (Nat.le_of_ble_eq_true rfl) dX5_turn_152 (fun r9 M3 ec => ?_)
          obtain ⟨qc, ec⟩ := ec
          subst qc
          exact hret _ 155 _ (pT (σ.1.2.2.2 k) - pB (σ.1.2.2.2 k)) dX5_turn_155 (by (have e : turY σ v = (pR (tnP (σ.1.2.2.2 k)) - pL (tnP (σ.1.2.2.2 k)), pushY σ (setS σ.1 k (tnP (σ.1.2.2.2 k)))) := (by unfold turY; rw [if_pos c_5, hkc, if_pos c_139])); rw [e, turn_hi hSk]; (have q := hR.push ek hI.1 (((s1.X k).fr hI.2.2.2.2 (by omega)).M (tnI_end hI.2 h6 (by omega))) ec); exact ⟨rfl, q.1, q.2⟩)
        · refine wl_aload_n C 0 dX5_turn_142 rfl rfl ?_
          refine wl_callVv (i := 232) (n := 0) C [] [] (c_X5_giveBack _ G M2) gX5_turn_X5_giveBack rfl (by decide +kernel) (by decide) (by decide) (kd_lt (k := 5) (by decide) (by decide)) (cell_k (k := 5) (by decide)) rfl rfl rfl (Nat.le_of_ble_eq_true rfl) dX5_turn_143 (fun M3 eg => ?_)
          refine wl_ldc C cn121 dX5_turn_146 ?_
          exact hret _ 148 _ (-1000002) dX5_turn_148 (by (have e : turY σ v = (-1000002, σ) := (by unfold turY; rw [if_pos c_5, hkc, if_neg (fun q => bcf q c_139)])); rw [e]; (have q := hR.back ek hI.1 eg); exact ⟨rfl, q.1, q.2⟩)
      · refine wl_aload_n C 0 dX5_turn_49 rfl rfl ?_
        refine wl_get_Model_all (i := 232) C (by decide) in5 fl7 dX5_turn_50 ?_
        refine wl_bipush (v := 12) C dX5_turn_53 (by decide) ?_
        refine wl_bipush (v := 6) C dX5_turn_55 (by decide) ?_
        refine wl_iload_n C 1 dX5_turn_57 rfl rfl ?_
        refine wl_eqi (b := nI k) (hv) ?_
        refine wl_imul C dX5_turn_58 ?_
        refine wl_iadd C dX5_turn_59 ?_
        refine wl_iload C 5 dX5_turn_60 rfl ?_
        refine wl_iadd C dX5_turn_62 ?_
        refine wl_iald (j := 12 + 6 * k + i) (n := 120) (v := (σ.1.2.2.2 k).2.1 i) C (by decide) (cell_k (k := 10) (by decide)) (ixA 12 k i) (by omega) (by decide) (by rw [hI.2.2.1 i (by omega), if_neg (Nat.lt_irrefl _)]) dX5_turn_63 ?_
        refine wl_iload_n C 2 dX5_turn_64 rfl rfl ?_
        refine wl_isub C dX5_turn_65 ?_
        refine wl_istore (L' := [(6, .int (((σ.1.2.2.2 k).2.1 i) - (pL (σ.1.2.2.2 k)))), (0, .ref (G.2.2.1 232)), (1, .int v), (2, .int (pL (σ.1.2.2.2 k))), (3, .int (pB (σ.1.2.2.2 k))), (4, .int (pT (σ.1.2.2.2 k) - pB (σ.1.2.2.2 k))), (5, .int (nI i))]) C dX5_turn_66 (by decide) rfl ?_
        refine wl_aload_n C 1 dX5_turn_68 rfl rfl ?_
        refine wl_get_Model_all (i := 232) C (by decide) in5 fl7 dX5_turn_69 ?_
        refine wl_bipush (v := 66) C dX5_turn_72 (by decide) ?_
        refine wl_bipush (v := 6) C dX5_turn_74 (by decide) ?_
        refine wl_iload_n C 2 dX5_turn_76 rfl rfl ?_
        refine wl_eqi (b := nI k) (hv) ?_
        refine wl_imul C dX5_turn_77 ?_
        refine wl_iadd C dX5_turn_78 ?_
        refine wl_iload C 6 dX5_turn_79 rfl ?_
        refine wl_iadd C dX5_turn_81 ?_
        refine wl_iald (j := 66 + 6 * k + i) (n := 120) (v := (σ.1.2.2.2 k).2.2 i) C (by decide) (cell_k (k := 10) (by decide)) (ixA 66 k i) (by omega) (by decide) (by rw [hI.2.2.2.1 i (by omega), if_neg (Nat.lt_irrefl _)]) dX5_turn_82 ?_
        refine wl_iload_n C 4 dX5_turn_83 rfl rfl ?_
        refine wl_isub C dX5_turn_84 ?_
        refine wl_istore (L' := [(7, .int (((σ.1.2.2.2 k).2.2 i) - (pB (σ.1.2.2.2 k)))), (6, .int (((σ.1.2.2.2 k).2.1 i) - (pL (σ.1.2.2.2 k)))), (0, .ref (G.2.2.1 232)), (1, .int v), (2, .int (pL (σ.1.2.2.2 k))), (3, .int (pB (σ.1.2.2.2 k))), (4, .int (pT (σ.1.2.2.2 k) - pB (σ.1.2.2.2 k))), (5, .int (nI i))]) C dX5_turn_85 (by decide) rfl ?_
        refine wl_aload_n C 2 dX5_turn_87 rfl rfl ?_
        refine wl_get_Model_all (i := 232) C (by decide) in5 fl7 dX5_turn_88 ?_
        refine wl_bipush (v := 12) C dX5_turn_91 (by decide) ?_
        refine wl_bipush (v := 6) C dX5_turn_93 (by decide) ?_
        refine wl_iload_n C 3 dX5_turn_95 rfl rfl ?_
        refine wl_eqi (b := nI k) (hv) ?_
        refine wl_imul C dX5_turn_96 ?_
        refine wl_iadd C dX5_turn_97 ?_
        refine wl_iload C 7 dX5_turn_98 rfl ?_
        refine wl_iadd C dX5_turn_100 ?_
        refine wl_iload_n C 4 dX5_turn_101 rfl rfl ?_
        refine wl_iload C 6 dX5_turn_102 rfl ?_
        refine wl_iadd C dX5_turn_104 ?_
        refine wl_iload C 0 dX5_turn_105 rfl ?_
        refine wl_isub C dX5_turn_107 ?_
        refine wl_iast (j := 12 + 6 * k + i) (n := 120) C (by decide) (fun M => (cell_k (k := 10) (by decide))) (ixA 12 k i) (by omega) (by decide) dX5_turn_108 ?_
        refine wl_aload_n C 2 dX5_turn_109 rfl rfl ?_
        refine wl_get_Model_all (i := 232) C (by decide) in5 fl7 dX5_turn_110 ?_
        refine wl_bipush (v := 66) C dX5_turn_113 (by decide) ?_
        refine wl_bipush (v := 6) C dX5_turn_115 (by decide) ?_
        refine wl_iload_n C 3 dX5_turn_117 rfl rfl ?_
        refine wl_eqi (b := nI k) (hv) ?_
        refine wl_imul C dX5_turn_118 ?_
        refine wl_iadd C dX5_turn_119 ?_
        refine wl_iload C 7 dX5_turn_120 rfl ?_
        refine wl_iadd C dX5_turn_122 ?_
        refine wl_iload_n C 5 dX5_turn_123 rfl rfl ?_
        refine wl_iload C 1 dX5_turn_124 rfl ?_
        refine wl_iadd C dX5_turn_126 ?_
        refine wl_iast (j := 66 + 6 * k + i) (n := 120) C (by decide) (fun M => (cell_k (k := 10) (by decide))) (ixA 66 k i) (by omega) (by decide) dX5_turn_127 ?_
        refine wl_iinc1 (k := i) (L' := [(5, .int (nI (i + 1))), (7, .int (((σ.1.2.2.2 k).2.2 i) - (pB (σ.1.2.2.2 k)))), (6, .int (((σ.1.2.2.2 k).2.1 i) - (pL (σ.1.2.2.2 k)))), (0, .ref (G.2.2.1 232)), (1, .int v), (2, .int (pL (σ.1.2.2.2 k))), (3, .int (pB (σ.1.2.2.2 k))), (4, .int (pT (σ.1.2.2.2 k) - pB (σ.1.2.2.2 k)))]) C 7 dX5_turn_128 rfl (by decide) rfl ?_
        refine wl_goto C 39 dX5_turn_131 (by decide) ?_
        refine wl_sub (L' := [(0, .ref (G.2.2.1 232)), (1, .int v), (2, .int (pL (σ.1.2.2.2 k))), (3, .int (pB (σ.1.2.2.2 k))), (4, .int (pT (σ.1.2.2.2 k) - pB (σ.1.2.2.2 k))), (5, .int (nI (i + 1)))]) [3, 4, 5, 6, 7, 0] rfl ?_
        exact ih (by omega) _ ⟨hI.1.tr (On3.set.tr On3.set), tnI_step hI.2 (by omega) h6 (by omega) tn_x tn_y⟩
    refine wl_sub (L' := [(0, .ref (G.2.2.1 232)), (1, .int v), (2, .int (pL (σ.1.2.2.2 k))), (3, .int (pB (σ.1.2.2.2 k))), (4, .int ((pT (σ.1.2.2.2 k)) - (pB (σ.1.2.2.2 k)))), (5, .int (nI 0))]) [4, 5, 3, 2, 1, 0] rfl ?_
    exact h39 0 (Nat.zero_le _) M1 ⟨On3.rf, tnI_0 (s1.2.2.2.2 k hk)⟩
  · refine wl_ldc C cn120 dX5_turn_8 ?_
    exact hret _ 10 _ (-1000001) dX5_turn_10 (by (have e : turY σ v = (-1000001, σ) := (by unfold turY; rw [if_neg (fun q => bcf q c_5)])); rw [e]; exact ⟨rfl, hR, FrM.rf⟩)
set_option maxHeartbeats 4000000 in
set_option maxRecDepth 100000 in
theorem c_X5_settle (l : Launch) (G : Gw) (M : Mem) (σ : Sy) (hR : RM M σ) (hO : OkY σ) (d : Int32) : Ci l G yX5_settle wsX5_settle 11 255 [.ref (G.2.2.1 232), .int d] M (fun r M' => r = (setY σ d).1 ∧ RM M' (setY σ d).2 ∧ FrM M M') := by
  refine Ci.of (cc := cX5_settle) (maxL := 2) (ret := (some .int)) (by decide +kernel) rfl (Nat.le_of_ble_eq_true rfl) ?_
  intro x sz hl0 hr C
  subst hl0
  have C : CX x G (AA G sz) RX5 cX5_settle 2 wsX5_settle 11 255 0 0 := C
  have hret : ∀ (M0 : Mem) (pc0 : Nat) (L0 : List (Nat × Value)) (rv0 : Int32), decode cX5_settle pc0 = .ok (.ireturn, 1) → (fun r M' => r = (setY σ d).1 ∧ RM M' (setY σ d).2 ∧ FrM M M') rv0 M0 → WL x G (AA G sz) 2 0 0 (xQ x (va_Qi (fun r M' => r = (setY σ d).1 ∧ RM M' (setY σ d).2 ∧ FrM M M') (WE G) (AA G sz)) (AA G sz)) M0 pc0 L0 [.int rv0] := fun M0 pc0 L0 rv0 hd hp => wl_iret (post := (fun r M' => r = (setY σ d).1 ∧ RM M' (setY σ d).2 ∧ FrM M M')) C hr hd hp
  show WL x G (AA G sz) 2 0 0 (xQ x (va_Qi (fun r M' => r = (setY σ d).1 ∧ RM M' (setY σ d).2 ∧ FrM M M') (WE G) (AA G sz)) (AA G sz)) M 0 [(0, .ref (G.2.2.1 232)), (1, .int d)] []
  generalize (xQ x (va_Qi (fun r M' => r = (setY σ d).1 ∧ RM M' (setY σ d).2 ∧ FrM M M') (WE G) (AA G sz)) (AA G sz)) = QQ at hret ⊢
  have cn120 : Jvm.Cond.constant RX5 120 (-1000001) ∈ wsX5_settle := by decide +kernel
  have hs := hR.1
  have hW := hO.1.1
  have h8 := hs.r
  refine wl_iload_n C 1 dX5_settle_0 rfl rfl ?_
  refine wl_callSp (n := 1) C [.int d] [] (c_X5_isDirection _ G M d) gX5_settle_X5_isDirection rfl (by decide +kernel) (by decide) (by decide) rfl rfl (Nat.le_of_ble_eq_true rfl) dX5_settle_1 ?_
  refine wl_if_neB C 10 dX5_settle_4 (by decide) (fun c_4 => ?_) (fun c_4 => ?_)
  · obtain ⟨d2, hd, hdv, hdc⟩ := isDir_k c_4
    refine wl_aload_n C 0 dX5_settle_10 rfl rfl ?_
    refine wl_callVv (i := 232) (n := 0) C [] [] (c_X5_keep _ G M) gX5_settle_X5_keep rfl (by decide +kernel) (by decide) (by decide) (kd_lt (k := 5) (by decide) (by decide)) (cell_k (k := 5) (by decide)) rfl rfl rfl (Nat.le_of_ble_eq_true rfl) dX5_settle_11 (fun M1 ek => ?_)
    have t1 : RM M1 σ := hR.on5 ek.2
    have s1 : PkM (M1 233) σ.1 := t1.1
    refine wl_aload_n C 0 dX5_settle_14 rfl rfl ?_
    refine wl_aload_n C 0 dX5_settle_15 rfl rfl ?_
    refine wl_iload_n C 1 dX5_settle_16 rfl rfl ?_
    refine wl_eqi (b := nI d2) (hdv) ?_
    refine wl_callVi (i := 232) (n := 1) C [.int (nI d2)] [.ref (G.2.2.1 232)] (c_X5_settles _ G M1 σ.1 s1 hW d2 hd) gX5_settle_X5_settles rfl (by decide +kernel) (by decide) (by decide) (kd_lt (k := 5) (by decide) (by decide)) (cell_k (k := 5) (by decide)) rfl rfl rfl (Nat.le_of_ble_eq_true rfl) dX5_settle_17 (fun r1 M2 ea => ?_)
    obtain ⟨qa, w2, pa⟩ := ea
    subst qa
    refine wl_callVi (i := 232) (n := 1) C [.int (nI (seS d2 1000 σ.1 0).2)] [] (c_X5_changed _ G M2 σ.1 σ.2.1 σ.2.2.1 (nI (seS d2 1000 σ.1 0).2) (KpM.old ek w2 hR.1) (t1.2.1.on3 w2)) gX5_settle_X5_changed rfl (by decide +kernel) (by decide) (by decide) (kd_lt (k := 5) (by decide) (by decide)) (cell_k (k := 5) (by decide)) rfl rfl rfl (Nat.le_of_ble_eq_true rfl) dX5_settle_20 (fun r9 M3 ec => ?_)
    obtain ⟨qc, ec⟩ := ec
    subst qc
    exact hret _ 23 _ (nI (seS d2 1000 σ.1 0).2) dX5_settle_23 (by (have e : setY σ d = (nI (seS d2 1000 σ.1 0).2, pushY σ (seS d2 1000 σ.1 0).1) := (by unfold setY; rw [if_pos c_4, hdc])); rw [e]; (have q := hR.push ek w2 pa ec); exact ⟨rfl, q.1, q.2⟩)
  · refine wl_ldc C cn120 dX5_settle_7 ?_
    exact hret _ 9 _ (-1000001) dX5_settle_9 (by (have e : setY σ d = (-1000001, σ) := (by unfold setY; rw [if_neg (fun q => bcf q c_4)])); rw [e]; exact ⟨rfl, hR, FrM.rf⟩)
set_option maxHeartbeats 4000000 in
set_option maxRecDepth 100000 in
theorem c_X5_cornerValue (l : Launch) (G : Gw) (M : Mem) (b j : Nat) (P : Py) (hb : b ≤ 8) (hB : BdM (M 233) b P) (h0 : 0 < P.1) (hj : j < 1000) : Cp l G yX5_cornerValue wsX5_cornerValue 2 43 [.ref (G.2.2.1 232), .int (nI b), .int (nI j)] M (cornY P j) := by
  refine Ci.of (cc := cX5_cornerValue) (maxL := 4) (ret := (some .int)) (by decide +kernel) rfl (Nat.le_of_ble_eq_true rfl) ?_
  intro x sz hl0 hr C
  subst hl0
  have C : CX x G (AA G sz) RX5 cX5_cornerValue 4 wsX5_cornerValue 2 43 0 0 := C
  have hret : ∀ (M0 : Mem) (pc0 : Nat) (L0 : List (Nat × Value)) (rv0 : Int32), decode cX5_cornerValue pc0 = .ok (.ireturn, 1) → (fun (r : Int32) (M' : Mem) => r = cornY P j ∧ M' = M) rv0 M0 → WL x G (AA G sz) 4 0 0 (xQ x (va_Qi (fun (r : Int32) (M' : Mem) => r = cornY P j ∧ M' = M) (WE G) (AA G sz)) (AA G sz)) M0 pc0 L0 [.int rv0] := fun M0 pc0 L0 rv0 hd hp => wl_iret (post := (fun (r : Int32) (M' : Mem) => r = cornY P j ∧ M' = M)) C hr hd hp
  show WL x G (AA G sz) 4 0 0 (xQ x (va_Qi (fun (r : Int32) (M' : Mem) => r = cornY P j ∧ M' = M) (WE G) (AA G sz)) (AA G sz)) M 0 [(0, .ref (G.2.2.1 232)), (1, .int (nI b)), (2, .int (nI j))] []
  generalize (xQ x (va_Qi (fun (r : Int32) (M' : Mem) => r = cornY P j ∧ M' = M) (WE G) (AA G sz)) (AA G sz)) = QQ at hret ⊢
  have cn149 : Jvm.Cond.constant RX5 149 (-1000004) ∈ wsX5_cornerValue := by decide +kernel
  have h7 := hB.2.1
  refine wl_iload_n C 2 dX5_cornerValue_0 rfl rfl ?_
  refine wl_iconst (v := nI 2) C dX5_cornerValue_1 (by first | decide | rfl) ?_
  refine wl_idiv C dX5_cornerValue_2 (by decide) ?_
  refine wl_eqi (b := nI (j / 2)) (pk_div (by omega) (by decide) (by decide)) ?_
  refine wl_istore_n (L' := [(3, .int (nI (j / 2))), (0, .ref (G.2.2.1 232)), (1, .int (nI b)), (2, .int (nI j))]) C dX5_cornerValue_3 rfl (by decide) rfl ?_
  refine wl_iload_n C 0 dX5_cornerValue_4 rfl rfl ?_
  refine wl_aload_n C 1 dX5_cornerValue_5 rfl rfl ?_
  refine wl_iload_n C 2 dX5_cornerValue_6 rfl rfl ?_
  refine wl_callVp (i := 232) (n := 1) C [.int (nI b)] [.int (nI (j / 2))] (c_X5_corners _ G M b P hb hB) gX5_cornerValue_X5_corners rfl (by decide +kernel) (by decide) (by decide) (kd_lt (k := 5) (by decide) (by decide)) (cell_k (k := 5) (by decide)) rfl rfl rfl (Nat.le_of_ble_eq_true rfl) dX5_cornerValue_7 ?_
  refine wl_icmp_ltN C (a := (j / 2)) (b := P.1) (by omega) (by omega) 18 dX5_cornerValue_10 (by decide) (fun c_10 => ?_) (fun c_10 => ?_)
  · refine wl_iload_n C 3 dX5_cornerValue_18 rfl rfl ?_
    refine wl_iconst (v := nI 2) C dX5_cornerValue_19 (by first | decide | rfl) ?_
    refine wl_irem C dX5_cornerValue_20 (by decide) ?_
    refine wl_eqi (b := nI (j % 2)) (pk_rem (by omega) (by decide) (by decide)) ?_
    refine wl_if_ne C 33 dX5_cornerValue_21 (by decide) (fun c_21 => ?_) (fun c_21 => ?_)
    · refine wl_aload_n C 1 dX5_cornerValue_33 rfl rfl ?_
      refine wl_iload_n C 2 dX5_cornerValue_34 rfl rfl ?_
      refine wl_iload_n C 0 dX5_cornerValue_35 rfl rfl ?_
      refine wl_callVp (i := 232) (n := 2) C [.int (nI b), .int (nI (j / 2))] [] (c_X5_y _ G M b (j / 2) P hb hB h0 (by omega)) gX5_cornerValue_X5_y rfl (by decide +kernel) (by decide) (by decide) (kd_lt (k := 5) (by decide) (by decide)) (cell_k (k := 5) (by decide)) rfl rfl rfl (Nat.le_of_ble_eq_true rfl) dX5_cornerValue_36 ?_
      exact hret _ 39 _ (P.2.2 ((j / 2) % P.1)) dX5_cornerValue_39 (⟨by unfold cornY; rw [if_pos (by omega), if_neg (fun z => c_21 (by rw [z]; rfl)), Nat.mod_eq_of_lt (by omega)], rfl⟩)
    · refine wl_aload_n C 1 dX5_cornerValue_24 rfl rfl ?_
      refine wl_iload_n C 2 dX5_cornerValue_25 rfl rfl ?_
      refine wl_iload_n C 0 dX5_cornerValue_26 rfl rfl ?_
      refine wl_callVp (i := 232) (n := 2) C [.int (nI b), .int (nI (j / 2))] [] (c_X5_x _ G M b (j / 2) P hb hB h0 (by omega)) gX5_cornerValue_X5_x rfl (by decide +kernel) (by decide) (by decide) (kd_lt (k := 5) (by decide) (by decide)) (cell_k (k := 5) (by decide)) rfl rfl rfl (Nat.le_of_ble_eq_true rfl) dX5_cornerValue_27 ?_
      refine wl_goto C 39 dX5_cornerValue_30 (by decide) ?_
      exact hret _ 39 _ (P.2.1 ((j / 2) % P.1)) dX5_cornerValue_39 (⟨by unfold cornY; rw [if_pos (by omega), if_pos (Nat.eq_zero_of_not_pos (fun q => nI_ne0 q (by omega) c_21)), Nat.mod_eq_of_lt (by omega)], rfl⟩)
  · refine wl_ldc C cn149 dX5_cornerValue_13 ?_
    refine wl_goto C 39 dX5_cornerValue_15 (by decide) ?_
    exact hret _ 39 _ (-1000004) dX5_cornerValue_39 (⟨by unfold cornY; rw [if_neg (by omega)], rfl⟩)
set_option maxHeartbeats 4000000 in
set_option maxRecDepth 100000 in
theorem c_X5_bodyOf (l : Launch) (G : Gw) (M : Mem) (σ : Sy) (hR : RM M σ) (hO : OkY σ) (v : Int32) (w : Int32) : Ci l G yX5_bodyOf wsX5_bodyOf 12 274 [.ref (G.2.2.1 232), .int v, .int w] M (fun r M' => r = bofY σ v w ∧ RM M' σ ∧ FrM M M') := by
  refine Ci.of (cc := cX5_bodyOf) (maxL := 3) (ret := (some .int)) (by decide +kernel) rfl (Nat.le_of_ble_eq_true rfl) ?_
  intro x sz hl0 hr C
  subst hl0
  have C : CX x G (AA G sz) RX5 cX5_bodyOf 3 wsX5_bodyOf 12 274 0 0 := C
  have hret : ∀ (M0 : Mem) (pc0 : Nat) (L0 : List (Nat × Value)) (rv0 : Int32), decode cX5_bodyOf pc0 = .ok (.ireturn, 1) → (fun r M' => r = bofY σ v w ∧ RM M' σ ∧ FrM M M') rv0 M0 → WL x G (AA G sz) 3 0 0 (xQ x (va_Qi (fun r M' => r = bofY σ v w ∧ RM M' σ ∧ FrM M M') (WE G) (AA G sz)) (AA G sz)) M0 pc0 L0 [.int rv0] := fun M0 pc0 L0 rv0 hd hp => wl_iret (post := (fun r M' => r = bofY σ v w ∧ RM M' σ ∧ FrM M M')) C hr hd hp
  show WL x G (AA G sz) 3 0 0 (xQ x (va_Qi (fun r M' => r = bofY σ v w ∧ RM M' σ ∧ FrM M M') (WE G) (AA G sz)) (AA G sz)) M 0 [(0, .ref (G.2.2.1 232)), (1, .int v), (2, .int w)] []
  generalize (xQ x (va_Qi (fun r M' => r = bofY σ v w ∧ RM M' σ ∧ FrM M M') (WE G) (AA G sz)) (AA G sz)) = QQ at hret ⊢
  have cn120 : Jvm.Cond.constant RX5 120 (-1000001) ∈ wsX5_bodyOf := by decide +kernel
  have cn150 : Jvm.Cond.constantLong RX5 150 (21) ∈ wsX5_bodyOf := by decide +kernel
  have hs := hR.1
  have hW := hO.1.1
  have h8 := hs.r
  refine wl_aload_n C 0 dX5_bodyOf_0 rfl rfl ?_
  refine wl_iload_n C 1 dX5_bodyOf_1 rfl rfl ?_
  refine wl_callVp (i := 232) (n := 1) C [.int v] [] (c_X5_isBody _ G M σ.1 hs v) gX5_bodyOf_X5_isBody rfl (by decide +kernel) (by decide) (by decide) (kd_lt (k := 5) (by decide) (by decide)) (cell_k (k := 5) (by decide)) rfl rfl rfl (Nat.le_of_ble_eq_true rfl) dX5_bodyOf_2 ?_
  refine wl_if_eqB C 20 dX5_bodyOf_5 (by decide) (fun c_5 => ?_) (fun c_5 => ?_)
  · refine wl_ldc C cn120 dX5_bodyOf_20 ?_
    exact hret _ 22 _ (-1000001) dX5_bodyOf_22 (by (have e : bofY σ v w = -1000001 := (by unfold bofY; rw [if_neg (fun q => by first | exact bcf q.1 c_5 | exact bcf (Bool.and_eq_true_iff.mpr ⟨decide_eq_true q.2.1, decide_eq_true (lt_22 q.2.2)⟩) c_17)])); rw [e]; exact ⟨rfl, hR, FrM.rf⟩)
  · refine wl_iload_n C 2 dX5_bodyOf_8 rfl rfl ?_
    refine wl_i2l (v := w.toInt64) C dX5_bodyOf_9 (rfl) ?_
    refine wl_lconst (v := 0) C dX5_bodyOf_10 (by decide) ?_
    refine wl_ldc2 C cn150 dX5_bodyOf_11 ?_
    refine wl_callSp (n := 3) C [.long w.toInt64, .long 0, .long 21] [] (c_X5_in _ G M w.toInt64 0 21) gX5_bodyOf_X5_in rfl (by decide +kernel) (by decide) (by decide) rfl rfl (Nat.le_of_ble_eq_true rfl) dX5_bodyOf_14 ?_
    refine wl_eqi (b := bi (decide (nI 0 ≤ w) && decide (w ≤ nI 21))) (by rw [inL_num (a := nI 0) (b := nI 21) (by decide) (by decide)]) ?_
    refine wl_if_neB C 23 dX5_bodyOf_17 (by decide) (fun c_17 => ?_) (fun c_17 => ?_)
    · obtain ⟨k, hk, hv, hkc⟩ := hasB_k c_5 (by omega)
      obtain ⟨j, hj0, hj, hw, hwc⟩ := num_k (a := 0) (b := 21) (by decide) (of_decide_eq_true (Bool.and_eq_true_iff.mp c_17).1) (of_decide_eq_true (Bool.and_eq_true_iff.mp c_17).2) (by decide)
      have hg : hasB σ.1.1 v = true ∧ 0 ≤ w ∧ w < 22 := ⟨c_5, of_decide_eq_true (Bool.and_eq_true_iff.mp c_17).1, le_21 (of_decide_eq_true (Bool.and_eq_true_iff.mp c_17).2)⟩
      refine wl_iload_n C 2 dX5_bodyOf_23 rfl rfl ?_
      rcases sw10 w with z_24 | z_24 | z_24 | z_24 | z_24 | z_24 | z_24 | z_24 | z_24 | z_24 | z_24
      · refine wl_swIn C 80 dX5_bodyOf_24 (by rw [z_24]; decide) (by rw [z_24]; decide) (by rw [z_24]; rfl) (by decide) ?_
        refine wl_aload_n C 0 dX5_bodyOf_80 rfl rfl ?_
        refine wl_iload_n C 1 dX5_bodyOf_81 rfl rfl ?_
        refine wl_eqi (b := nI k) (hv) ?_
        refine wl_callVp (i := 232) (n := 1) C [.int (nI k)] [] (c_X5_corners _ G M k (σ.1.2.2.2 k) (by omega) (hs.2.2.2.2 k hk)) gX5_bodyOf_X5_corners rfl (by decide +kernel) (by decide) (by decide) (kd_lt (k := 5) (by decide) (by decide)) (cell_k (k := 5) (by decide)) rfl rfl rfl (Nat.le_of_ble_eq_true rfl) dX5_bodyOf_82 ?_
        exact hret _ 85 _ (nI (σ.1.2.2.2 k).1) dX5_bodyOf_85 (by (have e : bofY σ v w = _ := (by unfold bofY; rw [if_pos hg, hkc, z_24])); rw [e]; exact ⟨rfl, hR, FrM.rf⟩)
      · refine wl_swIn C 86 dX5_bodyOf_24 (by rw [z_24]; decide) (by rw [z_24]; decide) (by rw [z_24]; rfl) (by decide) ?_
        refine wl_aload_n C 0 dX5_bodyOf_86 rfl rfl ?_
        refine wl_iload_n C 1 dX5_bodyOf_87 rfl rfl ?_
        refine wl_eqi (b := nI k) (hv) ?_
        refine wl_callVp (i := 232) (n := 1) C [.int (nI k)] [] (c_X5_area _ G M k (σ.1.2.2.2 k) (by omega) (hs.2.2.2.2 k hk) (by have := (hW.2 k hk).1; omega)) gX5_bodyOf_X5_area rfl (by decide +kernel) (by decide) (by decide) (kd_lt (k := 5) (by decide) (by decide)) (cell_k (k := 5) (by decide)) rfl rfl rfl (Nat.le_of_ble_eq_true rfl) dX5_bodyOf_88 ?_
        exact hret _ 91 _ (pArea (σ.1.2.2.2 k)) dX5_bodyOf_91 (by (have e : bofY σ v w = _ := (by unfold bofY; rw [if_pos hg, hkc, z_24])); rw [e]; exact ⟨rfl, hR, FrM.rf⟩)
      · refine wl_swIn C 92 dX5_bodyOf_24 (by rw [z_24]; decide) (by rw [z_24]; decide) (by rw [z_24]; rfl) (by decide) ?_
        refine wl_aload_n C 0 dX5_bodyOf_92 rfl rfl ?_
        refine wl_iload_n C 1 dX5_bodyOf_93 rfl rfl ?_
        refine wl_eqi (b := nI k) (hv) ?_
        refine wl_callVp (i := 232) (n := 1) C [.int (nI k)] [] (c_X5_leastX _ G M k (σ.1.2.2.2 k) (by omega) (hs.2.2.2.2 k hk) (hW.sm k hk)) gX5_bodyOf_X5_leastX rfl (by decide +kernel) (by decide) (by decide) (kd_lt (k := 5) (by decide) (by decide)) (cell_k (k := 5) (by decide)) rfl rfl rfl (Nat.le_of_ble_eq_true rfl) dX5_bodyOf_94 ?_
        exact hret _ 97 _ (pL (σ.1.2.2.2 k)) dX5_bodyOf_97 (by (have e : bofY σ v w = _ := (by unfold bofY; rw [if_pos hg, hkc, z_24])); rw [e]; exact ⟨rfl, hR, FrM.rf⟩)
      · refine wl_swIn C 98 dX5_bodyOf_24 (by rw [z_24]; decide) (by rw [z_24]; decide) (by rw [z_24]; rfl) (by decide) ?_
        refine wl_aload_n C 0 dX5_bodyOf_98 rfl rfl ?_
        refine wl_iload_n C 1 dX5_bodyOf_99 rfl rfl ?_
        refine wl_eqi (b := nI k) (hv) ?_
        refine wl_callVp (i := 232) (n := 1) C [.int (nI k)] [] (c_X5_greatestX _ G M k (σ.1.2.2.2 k) (by omega) (hs.2.2.2.2 k hk) (hW.sm k hk)) gX5_bodyOf_X5_greatestX rfl (by decide +kernel) (by decide) (by decide) (kd_lt (k := 5) (by decide) (by decide)) (cell_k (k := 5) (by decide)) rfl rfl rfl (Nat.le_of_ble_eq_true rfl) dX5_bodyOf_100 ?_
        exact hret _ 103 _ (pR (σ.1.2.2.2 k)) dX5_bodyOf_103 (by (have e : bofY σ v w = _ := (by unfold bofY; rw [if_pos hg, hkc, z_24])); rw [e]; exact ⟨rfl, hR, FrM.rf⟩)
      · refine wl_swIn C 104 dX5_bodyOf_24 (by rw [z_24]; decide) (by rw [z_24]; decide) (by rw [z_24]; rfl) (by decide) ?_
        refine wl_aload_n C 0 dX5_bodyOf_104 rfl rfl ?_
        refine wl_iload_n C 1 dX5_bodyOf_105 rfl rfl ?_
        refine wl_eqi (b := nI k) (hv) ?_
        refine wl_callVp (i := 232) (n := 1) C [.int (nI k)] [] (c_X5_leastY _ G M k (σ.1.2.2.2 k) (by omega) (hs.2.2.2.2 k hk) (hW.sm k hk)) gX5_bodyOf_X5_leastY rfl (by decide +kernel) (by decide) (by decide) (kd_lt (k := 5) (by decide) (by decide)) (cell_k (k := 5) (by decide)) rfl rfl rfl (Nat.le_of_ble_eq_true rfl) dX5_bodyOf_106 ?_
        exact hret _ 109 _ (pB (σ.1.2.2.2 k)) dX5_bodyOf_109 (by (have e : bofY σ v w = _ := (by unfold bofY; rw [if_pos hg, hkc, z_24])); rw [e]; exact ⟨rfl, hR, FrM.rf⟩)
      · refine wl_swIn C 110 dX5_bodyOf_24 (by rw [z_24]; decide) (by rw [z_24]; decide) (by rw [z_24]; rfl) (by decide) ?_
        refine wl_aload_n C 0 dX5_bodyOf_110 rfl rfl ?_
        refine wl_iload_n C 1 dX5_bodyOf_111 rfl rfl ?_
        refine wl_eqi (b := nI k) (hv) ?_
        refine wl_callVp (i := 232) (n := 1) C [.int (nI k)] [] (c_X5_greatestY _ G M k (σ.1.2.2.2 k) (by omega) (hs.2.2.2.2 k hk) (hW.sm k hk)) gX5_bodyOf_X5_greatestY rfl (by decide +kernel) (by decide) (by decide) (kd_lt (k := 5) (by decide) (by decide)) (cell_k (k := 5) (by decide)) rfl rfl rfl (Nat.le_of_ble_eq_true rfl) dX5_bodyOf_112 ?_
        exact hret _ 115 _ (pT (σ.1.2.2.2 k)) dX5_bodyOf_115 (by (have e : bofY σ v w = _ := (by unfold bofY; rw [if_pos hg, hkc, z_24])); rw [e]; exact ⟨rfl, hR, FrM.rf⟩)
      · refine wl_swIn C 116 dX5_bodyOf_24 (by rw [z_24]; decide) (by rw [z_24]; decide) (by rw [z_24]; rfl) (by decide) ?_
        refine wl_aload_n C 0 dX5_bodyOf_116 rfl rfl ?_
        refine wl_iload_n C 1 dX5_bodyOf_117 rfl rfl ?_
        refine wl_eqi (b := nI k) (hv) ?_
        refine wl_iconst (v := 0) C dX5_bodyOf_118 (by decide) ?_
        refine wl_callVp (i := 232) (n := 2) C [.int (nI k), .int 0] [] (c_X5_wallsBy _ G M k (σ.1.2.2.2 k) (by omega) (hs.2.2.2.2 k hk) (hW.sm k hk) σ.1.2.1 σ.1.2.2.1 0 hs.1 hs.2.1) gX5_bodyOf_X5_wallsBy rfl (by decide +kernel) (by decide) (by decide) (kd_lt (k := 5) (by decide) (by decide)) (cell_k (k := 5) (by decide)) rfl rfl rfl (Nat.le_of_ble_eq_true rfl) dX5_bodyOf_119 ?_
        refine wl_eqi (b := pTouched (σ.1.2.2.2 k) σ.1.2.1 σ.1.2.2.1) (mWb_0 (hW.2 k hk)) ?_
        exact hret _ 122 _ (pTouched (σ.1.2.2.2 k) σ.1.2.1 σ.1.2.2.1) dX5_bodyOf_122 (by (have e : bofY σ v w = _ := (by unfold bofY; rw [if_pos hg, hkc, z_24])); rw [e]; exact ⟨rfl, hR, FrM.rf⟩)
      · refine wl_swIn C 123 dX5_bodyOf_24 (by rw [z_24]; decide) (by rw [z_24]; decide) (by rw [z_24]; rfl) (by decide) ?_
        refine wl_aload_n C 0 dX5_bodyOf_123 rfl rfl ?_
        refine wl_iload_n C 1 dX5_bodyOf_124 rfl rfl ?_
        refine wl_eqi (b := nI k) (hv) ?_
        refine wl_callVp (i := 232) (n := 1) C [.int (nI k)] [] (c_X5_touched _ G M σ.1 hs hW k hk) gX5_bodyOf_X5_touched rfl (by decide +kernel) (by decide) (by decide) (kd_lt (k := 5) (by decide) (by decide)) (cell_k (k := 5) (by decide)) rfl rfl rfl (Nat.le_of_ble_eq_true rfl) dX5_bodyOf_125 ?_
        exact hret _ 128 _ (tcS σ.1 k) dX5_bodyOf_128 (by (have e : bofY σ v w = _ := (by unfold bofY; rw [if_pos hg, hkc, z_24])); rw [e]; exact ⟨rfl, hR, FrM.rf⟩)
      · refine wl_swIn C 129 dX5_bodyOf_24 (by rw [z_24]; decide) (by rw [z_24]; decide) (by rw [z_24]; rfl) (by decide) ?_
        refine wl_aload_n C 0 dX5_bodyOf_129 rfl rfl ?_
        refine wl_iload_n C 1 dX5_bodyOf_130 rfl rfl ?_
        refine wl_eqi (b := nI k) (hv) ?_
        refine wl_callVp (i := 232) (n := 1) C [.int (nI k)] [] (c_X5_freeDirections _ G M σ.1 hs hW k hk) gX5_bodyOf_X5_freeDirections rfl (by decide +kernel) (by decide) (by decide) (kd_lt (k := 5) (by decide) (by decide)) (cell_k (k := 5) (by decide)) rfl rfl rfl (Nat.le_of_ble_eq_true rfl) dX5_bodyOf_131 ?_
        exact hret _ 134 _ (frS σ.1 k) dX5_bodyOf_134 (by (have e : bofY σ v w = _ := (by unfold bofY; rw [if_pos hg, hkc, z_24])); rw [e]; exact ⟨rfl, hR, FrM.rf⟩)
      · refine wl_swIn C 135 dX5_bodyOf_24 (by rw [z_24]; decide) (by rw [z_24]; decide) (by rw [z_24]; rfl) (by decide) ?_
        refine wl_aload_n C 0 dX5_bodyOf_135 rfl rfl ?_
        refine wl_iload_n C 1 dX5_bodyOf_136 rfl rfl ?_
        refine wl_eqi (b := nI k) (hv) ?_
        refine wl_callVp (i := 232) (n := 1) C [.int (nI k)] [] (c_X5_isJammed _ G M σ.1 hs hW k hk) gX5_bodyOf_X5_isJammed rfl (by decide +kernel) (by decide) (by decide) (kd_lt (k := 5) (by decide) (by decide)) (cell_k (k := 5) (by decide)) rfl rfl rfl (Nat.le_of_ble_eq_true rfl) dX5_bodyOf_137 ?_
        suffices hJ140 : WL x G (AA G sz) 3 0 0 QQ M 148 [(0, .ref (G.2.2.1 232)), (1, .int v), (2, .int w)] [.int (if (!jm4 σ.1 k 4) = true then 1 else 0)] by
          refine wl_if_eqB C 147 dX5_bodyOf_140 (by decide) (fun c_140 => ?_) (fun c_140 => ?_)
          · rw [if_neg (by rw [c_140]; exact Bool.false_ne_true)] at hJ140
            refine wl_iconst (v := 0) C dX5_bodyOf_147 (by decide) ?_
            exact hJ140
          · rw [if_pos c_140] at hJ140
            refine wl_iconst (v := 1) C dX5_bodyOf_143 (by decide) ?_
            refine wl_goto C 148 dX5_bodyOf_144 (by decide) ?_
            exact hJ140
        refine wl_eqi (b := bi (!jm4 σ.1 k 4)) (by cases jm4 σ.1 k 4 <;> rfl) ?_
        exact hret _ 148 _ (bi (!jm4 σ.1 k 4)) dX5_bodyOf_148 (by (have e : bofY σ v w = _ := (by unfold bofY; rw [if_pos hg, hkc, z_24])); rw [e]; exact ⟨rfl, hR, FrM.rf⟩)
      · refine wl_swOut C 149 dX5_bodyOf_24 z_24 (by decide) ?_
        have h10 : 10 ≤ j := by rw [hw, nI_toInt (by omega)] at z_24; omega
        refine wl_aload_n C 0 dX5_bodyOf_149 rfl rfl ?_
        refine wl_iload_n C 1 dX5_bodyOf_150 rfl rfl ?_
        refine wl_eqi (b := nI k) (hv) ?_
        refine wl_iload_n C 2 dX5_bodyOf_151 rfl rfl ?_
        refine wl_eqi (b := nI j) (hw) ?_
        refine wl_bipush (v := 10) C dX5_bodyOf_152 (by decide) ?_
        refine wl_isub C dX5_bodyOf_154 ?_
        refine wl_eqi (b := nI (j - 10)) (pk_sub (b := 10) h10) ?_
        refine wl_callVp (i := 232) (n := 2) C [.int (nI k), .int (nI (j - 10))] [] (c_X5_cornerValue _ G M k (j - 10) (σ.1.2.2.2 k) (by omega) (hs.2.2.2.2 k hk) (by have := (hW.2 k hk).1; omega) (by omega)) gX5_bodyOf_X5_cornerValue rfl (by decide +kernel) (by decide) (by decide) (kd_lt (k := 5) (by decide) (by decide)) (cell_k (k := 5) (by decide)) rfl rfl rfl (Nat.le_of_ble_eq_true rfl) dX5_bodyOf_155 ?_
        exact hret _ 158 _ (cornY (σ.1.2.2.2 k) (j - 10)) dX5_bodyOf_158 (by (have e : bofY σ v w = cornY (σ.1.2.2.2 k) (j - 10) := (by unfold bofY; rw [if_pos hg, hkc, hwc]; (obtain ⟨i, rfl⟩ : ∃ i, j = i + 10 := ⟨j - 10, by omega⟩); rfl)); rw [e]; exact ⟨rfl, hR, FrM.rf⟩)
    · refine wl_ldc C cn120 dX5_bodyOf_20 ?_
      exact hret _ 22 _ (-1000001) dX5_bodyOf_22 (by (have e : bofY σ v w = -1000001 := (by unfold bofY; rw [if_neg (fun q => by first | exact bcf q.1 c_5 | exact bcf (Bool.and_eq_true_iff.mpr ⟨decide_eq_true q.2.1, decide_eq_true (lt_22 q.2.2)⟩) c_17)])); rw [e]; exact ⟨rfl, hR, FrM.rf⟩)
