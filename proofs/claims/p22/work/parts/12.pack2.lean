set_option maxHeartbeats 4000000 in
set_option maxRecDepth 100000 in
theorem c_X4_lowest (l : Launch) (G : Gw) (M : Mem) (v : Int32) : Cp l G yX4_lowest wsX4_lowest 0 0 [.int v] M (nI (loT v)) := by
  refine Ci.of (cc := cX4_lowest) (maxL := 2) (ret := (some .int)) (by decide +kernel) rfl (Nat.le_of_ble_eq_true rfl) ?_
  intro x sz hl0 hr C
  subst hl0
  have C : CX x G (AA G sz) RX4 cX4_lowest 2 wsX4_lowest 0 0 0 0 := C
  have hret : ∀ (M0 : Mem) (pc0 : Nat) (L0 : List (Nat × Value)) (rv0 : Int32), decode cX4_lowest pc0 = .ok (.ireturn, 1) → (fun (r : Int32) (M' : Mem) => r = nI (loT v) ∧ M' = M) rv0 M0 → WL x G (AA G sz) 2 0 0 (xQ x (va_Qi (fun (r : Int32) (M' : Mem) => r = nI (loT v) ∧ M' = M) (WE G) (AA G sz)) (AA G sz)) M0 pc0 L0 [.int rv0] := fun M0 pc0 L0 rv0 hd hp => wl_iret (post := (fun (r : Int32) (M' : Mem) => r = nI (loT v) ∧ M' = M)) C hr hd hp
  show WL x G (AA G sz) 2 0 0 (xQ x (va_Qi (fun (r : Int32) (M' : Mem) => r = nI (loT v) ∧ M' = M) (WE G) (AA G sz)) (AA G sz)) M 0 [(0, .int v)] []
  generalize (xQ x (va_Qi (fun (r : Int32) (M' : Mem) => r = nI (loT v) ∧ M' = M) (WE G) (AA G sz)) (AA G sz)) = QQ at hret ⊢
  refine wl_iconst (v := nI 0) C dX4_lowest_0 (by first | decide | rfl) ?_
  refine wl_istore_n (L' := [(1, .int (nI 0)), (0, .int v)]) C dX4_lowest_1 rfl (by decide) rfl ?_
  have h2 : ∀ j, j ≤ 8 → anT (bt8 v) j = false → WL x G (AA G sz) 2 0 0 QQ M 2 [(0, .int v), (1, .int (nI j))] [] := by
    refine up_loop 8 _ ?_
    intro j hj ih hI
    refine wl_iload_n C 1 dX4_lowest_2 rfl rfl ?_
    refine wl_bipush (v := nI 8) C dX4_lowest_3 (by decide) ?_
    refine wl_icmp_geN C (a := j) (b := 8) (by omega) (by omega) 22 dX4_lowest_5 (by decide) (fun c_5 => ?_) (fun c_5 => ?_)
    · refine wl_iload_n C 1 dX4_lowest_22 rfl rfl ?_
      exact hret _ 23 _ (nI j) dX4_lowest_23 (⟨by first | (rw [loT_none (by rw [show 8 = j by omega]; exact hI), show j = 8 by omega]) | (rw [loT_some (by omega) hI (decide_eq_true c_13)]), rfl⟩)
    · refine wl_iload_n C 0 dX4_lowest_8 rfl rfl ?_
      refine wl_iconst (v := 1) C dX4_lowest_9 (by decide) ?_
      refine wl_iload_n C 1 dX4_lowest_10 rfl rfl ?_
      refine wl_ishl C dX4_lowest_11 ?_
      refine wl_iand C dX4_lowest_12 ?_
      refine wl_if_ne C 22 dX4_lowest_13 (by decide) (fun c_13 => ?_) (fun c_13 => ?_)
      · refine wl_iload_n C 1 dX4_lowest_22 rfl rfl ?_
        exact hret _ 23 _ (nI j) dX4_lowest_23 (⟨by first | (rw [loT_none (by rw [show 8 = j by omega]; exact hI), show j = 8 by omega]) | (rw [loT_some (by omega) hI (decide_eq_true c_13)]), rfl⟩)
      · refine wl_iinc1 (k := j) (L' := [(1, .int (nI (j + 1))), (0, .int v)]) C 1 dX4_lowest_16 rfl (by decide) rfl ?_
        refine wl_goto C 2 dX4_lowest_19 (by decide) ?_
        refine wl_sub (L' := [(0, .int v), (1, .int (nI (j + 1)))]) [1, 0] rfl ?_
        exact ih (by omega) (by simp only [anT, hI, Bool.false_or, bt8, decide_eq_false_iff_not, Decidable.not_not]; exact c_13)
  refine wl_sub (L' := [(0, .int v), (1, .int (nI 0))]) [1, 0] rfl ?_
  exact h2 0 (Nat.zero_le _) rfl
set_option maxHeartbeats 4000000 in
set_option maxRecDepth 100000 in
theorem c_J6_bitCount_0f7a4 (l : Launch) (G : Gw) (M : Mem) (v : Int32) : Cp l G yJ6_bitCount_0f7a4 wsJ6_bitCount_0f7a4 0 0 [.int v] M (bcE v) := by
  refine Ci.of (cc := cJ6_bitCount_0f7a4) (maxL := 1) (ret := (some .int)) (by decide +kernel) rfl (Nat.le_of_ble_eq_true rfl) ?_
  intro x sz hl0 hr C
  subst hl0
  have C : CX x G (AA G sz) RJ6 cJ6_bitCount_0f7a4 1 wsJ6_bitCount_0f7a4 0 0 0 0 := C
  have hret : ∀ (M0 : Mem) (pc0 : Nat) (L0 : List (Nat × Value)) (rv0 : Int32), decode cJ6_bitCount_0f7a4 pc0 = .ok (.ireturn, 1) → (fun (r : Int32) (M' : Mem) => r = bcE v ∧ M' = M) rv0 M0 → WL x G (AA G sz) 1 0 0 (xQ x (va_Qi (fun (r : Int32) (M' : Mem) => r = bcE v ∧ M' = M) (WE G) (AA G sz)) (AA G sz)) M0 pc0 L0 [.int rv0] := fun M0 pc0 L0 rv0 hd hp => wl_iret (post := (fun (r : Int32) (M' : Mem) => r = bcE v ∧ M' = M)) C hr hd hp
  show WL x G (AA G sz) 1 0 0 (xQ x (va_Qi (fun (r : Int32) (M' : Mem) => r = bcE v ∧ M' = M) (WE G) (AA G sz)) (AA G sz)) M 0 [(0, .int v)] []
  generalize (xQ x (va_Qi (fun (r : Int32) (M' : Mem) => r = bcE v ∧ M' = M) (WE G) (AA G sz)) (AA G sz)) = QQ at hret ⊢
  have cn265 : Jvm.Cond.constant RJ6 265 (1431655765) ∈ wsJ6_bitCount_0f7a4 := by decide +kernel
  have cn266 : Jvm.Cond.constant RJ6 266 (858993459) ∈ wsJ6_bitCount_0f7a4 := by decide +kernel
  have cn267 : Jvm.Cond.constant RJ6 267 (252645135) ∈ wsJ6_bitCount_0f7a4 := by decide +kernel
  refine wl_iload_n C 0 dJ6_bitCount_0f7a4_0 rfl rfl ?_
  refine wl_iload_n C 0 dJ6_bitCount_0f7a4_1 rfl rfl ?_
  refine wl_iconst (v := 1) C dJ6_bitCount_0f7a4_2 (by decide) ?_
  refine wl_iushr (v := ush v 1) C dJ6_bitCount_0f7a4_3 rfl ?_
  refine wl_ldcw C cn265 dJ6_bitCount_0f7a4_4 ?_
  refine wl_iand C dJ6_bitCount_0f7a4_7 ?_
  refine wl_isub C dJ6_bitCount_0f7a4_8 ?_
  refine wl_eqi (b := bc1 v) (rfl) ?_
  refine wl_istore_n (L' := [(0, .int (bc1 v))]) C dJ6_bitCount_0f7a4_9 rfl (by decide) rfl ?_
  refine wl_iload_n C 0 dJ6_bitCount_0f7a4_10 rfl rfl ?_
  refine wl_ldcw C cn266 dJ6_bitCount_0f7a4_11 ?_
  refine wl_iand C dJ6_bitCount_0f7a4_14 ?_
  refine wl_iload_n C 0 dJ6_bitCount_0f7a4_15 rfl rfl ?_
  refine wl_iconst (v := 2) C dJ6_bitCount_0f7a4_16 (by decide) ?_
  refine wl_iushr (v := ush (bc1 v) 2) C dJ6_bitCount_0f7a4_17 rfl ?_
  refine wl_ldcw C cn266 dJ6_bitCount_0f7a4_18 ?_
  refine wl_iand C dJ6_bitCount_0f7a4_21 ?_
  refine wl_iadd C dJ6_bitCount_0f7a4_22 ?_
  refine wl_eqi (b := bc2 v) (rfl) ?_
  refine wl_istore_n (L' := [(0, .int (bc2 v))]) C dJ6_bitCount_0f7a4_23 rfl (by decide) rfl ?_
  refine wl_iload_n C 0 dJ6_bitCount_0f7a4_24 rfl rfl ?_
  refine wl_iload_n C 0 dJ6_bitCount_0f7a4_25 rfl rfl ?_
  refine wl_iconst (v := 4) C dJ6_bitCount_0f7a4_26 (by decide) ?_
  refine wl_iushr (v := ush (bc2 v) 4) C dJ6_bitCount_0f7a4_27 rfl ?_
  refine wl_iadd C dJ6_bitCount_0f7a4_28 ?_
  refine wl_ldcw C cn267 dJ6_bitCount_0f7a4_29 ?_
  refine wl_iand C dJ6_bitCount_0f7a4_32 ?_
  refine wl_eqi (b := bc3 v) (rfl) ?_
  refine wl_istore_n (L' := [(0, .int (bc3 v))]) C dJ6_bitCount_0f7a4_33 rfl (by decide) rfl ?_
  refine wl_iload_n C 0 dJ6_bitCount_0f7a4_34 rfl rfl ?_
  refine wl_iload_n C 0 dJ6_bitCount_0f7a4_35 rfl rfl ?_
  refine wl_bipush (v := 8) C dJ6_bitCount_0f7a4_36 (by decide) ?_
  refine wl_iushr (v := ush (bc3 v) 8) C dJ6_bitCount_0f7a4_38 rfl ?_
  refine wl_iadd C dJ6_bitCount_0f7a4_39 ?_
  refine wl_eqi (b := bc4 v) (rfl) ?_
  refine wl_istore_n (L' := [(0, .int (bc4 v))]) C dJ6_bitCount_0f7a4_40 rfl (by decide) rfl ?_
  refine wl_iload_n C 0 dJ6_bitCount_0f7a4_41 rfl rfl ?_
  refine wl_iload_n C 0 dJ6_bitCount_0f7a4_42 rfl rfl ?_
  refine wl_bipush (v := 16) C dJ6_bitCount_0f7a4_43 (by decide) ?_
  refine wl_iushr (v := ush (bc4 v) 16) C dJ6_bitCount_0f7a4_45 rfl ?_
  refine wl_iadd C dJ6_bitCount_0f7a4_46 ?_
  refine wl_eqi (b := bc5 v) (rfl) ?_
  refine wl_istore_n (L' := [(0, .int (bc5 v))]) C dJ6_bitCount_0f7a4_47 rfl (by decide) rfl ?_
  refine wl_iload_n C 0 dJ6_bitCount_0f7a4_48 rfl rfl ?_
  refine wl_bipush (v := 63) C dJ6_bitCount_0f7a4_49 (by decide) ?_
  refine wl_iand C dJ6_bitCount_0f7a4_51 ?_
  exact hret _ 52 _ ((bc5 v) &&& 63) dJ6_bitCount_0f7a4_52 (⟨rfl, rfl⟩)
set_option maxHeartbeats 4000000 in
set_option maxRecDepth 100000 in
theorem c_X3_touchingPairs (l : Launch) (G : Gw) (M : Mem) (p : Nat) (s : St) (hp : kd p = 3) (hs : Pk M p s) (hS : SmS s) : Cp l G yX3_touchingPairs wsX3_touchingPairs 4 101 [.ref (G.2.2.1 p)] M (pairS s) := by
  refine Ci.of (cc := cX3_touchingPairs) (maxL := 3) (ret := (some .int)) (by decide +kernel) rfl (Nat.le_of_ble_eq_true rfl) ?_
  intro x sz hl0 hr C
  subst hl0
  have C : CX x G (AA G sz) RX3 cX3_touchingPairs 3 wsX3_touchingPairs 4 101 0 0 := C
  have hret : ∀ (M0 : Mem) (pc0 : Nat) (L0 : List (Nat × Value)) (rv0 : Int32), decode cX3_touchingPairs pc0 = .ok (.ireturn, 1) → (fun (r : Int32) (M' : Mem) => r = pairS s ∧ M' = M) rv0 M0 → WL x G (AA G sz) 3 0 0 (xQ x (va_Qi (fun (r : Int32) (M' : Mem) => r = pairS s ∧ M' = M) (WE G) (AA G sz)) (AA G sz)) M0 pc0 L0 [.int rv0] := fun M0 pc0 L0 rv0 hd hp => wl_iret (post := (fun (r : Int32) (M' : Mem) => r = pairS s ∧ M' = M)) C hr hd hp
  show WL x G (AA G sz) 3 0 0 (xQ x (va_Qi (fun (r : Int32) (M' : Mem) => r = pairS s ∧ M' = M) (WE G) (AA G sz)) (AA G sz)) M 0 [(0, .ref (G.2.2.1 p))] []
  generalize (xQ x (va_Qi (fun (r : Int32) (M' : Mem) => r = pairS s ∧ M' = M) (WE G) (AA G sz)) (AA G sz)) = QQ at hret ⊢
  have in3 : ∀ w ∈ wsX30, w ∈ wsX3_touchingPairs := by decide +kernel
  have fl25 : Jvm.Cond.fieldLink RX3 25 "JammedBodies$Packing" "size" "I" ∈ wsX3_touchingPairs := by decide +kernel
  have h8 := hs.2.2.2.1
  refine wl_iconst (v := smT (paF s) 0) C dX3_touchingPairs_0 (by first | decide | rfl) ?_
  refine wl_istore_n (L' := [(1, .int (smT (paF s) 0)), (0, .ref (G.2.2.1 p))]) C dX3_touchingPairs_1 rfl (by decide) rfl ?_
  refine wl_iconst (v := nI 0) C dX3_touchingPairs_2 (by first | decide | rfl) ?_
  refine wl_istore_n (L' := [(2, .int (nI 0)), (1, .int (smT (paF s) 0)), (0, .ref (G.2.2.1 p))]) C dX3_touchingPairs_3 rfl (by decide) rfl ?_
  have h4 : ∀ k, k ≤ s.1 → WL x G (AA G sz) 3 0 0 QQ M 4 [(0, .ref (G.2.2.1 p)), (1, .int (smT (paF s) k)), (2, .int (nI k))] [] := by
    refine up_loop s.1 _ ?_
    intro k hk ih
    refine wl_iload_n C 2 dX3_touchingPairs_4 rfl rfl ?_
    refine wl_aload_n C 0 dX3_touchingPairs_5 rfl rfl ?_
    refine wl_get_Packing_size (i := p) (v := nI s.1) C hp in3 fl25 hs.1 dX3_touchingPairs_6 ?_
    refine wl_icmp_geN C (a := k) (b := s.1) (by omega) (by omega) 29 dX3_touchingPairs_9 (by decide) (fun c_9 => ?_) (fun c_9 => ?_)
    · refine wl_iload_n C 1 dX3_touchingPairs_29 rfl rfl ?_
      refine wl_iconst (v := 1) C dX3_touchingPairs_30 (by decide) ?_
      refine wl_ishr C dX3_touchingPairs_31 ?_
      exact hret _ 32 _ ((smT (paF s) k) >>> (1 &&& 31)) dX3_touchingPairs_32 (⟨by unfold pairS; rw [show s.1 = k by omega], rfl⟩)
    · refine wl_iload_n C 1 dX3_touchingPairs_12 rfl rfl ?_
      refine wl_aload_n C 0 dX3_touchingPairs_13 rfl rfl ?_
      refine wl_iload_n C 2 dX3_touchingPairs_14 rfl rfl ?_
      refine wl_callVp (i := p) (n := 1) C [.int (nI k)] [.int (smT (paF s) k)] (c_X3_touching _ G M p s hp hs k (by omega) hS) gX3_touchingPairs_X3_touching rfl (by decide +kernel) (by decide) (by decide) (kd_lt hp (by decide)) (cell_k hp) rfl rfl rfl (Nat.le_of_ble_eq_true rfl) dX3_touchingPairs_15 ?_
      refine wl_callSp (n := 1) C [.int (tcS s k)] [.int (smT (paF s) k)] (c_J6_bitCount_0f7a4 _ G M (tcS s k)) gX3_touchingPairs_J6_bitCount_0f7a4 rfl (by decide +kernel) (by decide) (by decide) rfl rfl (Nat.le_of_ble_eq_true rfl) dX3_touchingPairs_18 ?_
      refine wl_iadd C dX3_touchingPairs_21 ?_
      refine wl_eqi (b := smT (paF s) (k + 1)) (rfl) ?_
      refine wl_istore_n (L' := [(1, .int (smT (paF s) (k + 1))), (0, .ref (G.2.2.1 p)), (2, .int (nI k))]) C dX3_touchingPairs_22 rfl (by decide) rfl ?_
      refine wl_iinc1 (k := k) (L' := [(2, .int (nI (k + 1))), (1, .int (smT (paF s) (k + 1))), (0, .ref (G.2.2.1 p))]) C 2 dX3_touchingPairs_23 rfl (by decide) rfl ?_
      refine wl_goto C 4 dX3_touchingPairs_26 (by decide) ?_
      refine wl_sub (L' := [(0, .ref (G.2.2.1 p)), (1, .int (smT (paF s) (k + 1))), (2, .int (nI (k + 1)))]) [2, 1, 0] rfl ?_
      exact ih (by omega)
  refine wl_sub (L' := [(0, .ref (G.2.2.1 p)), (1, .int (smT (paF s) 0)), (2, .int (nI 0))]) [2, 1, 0] rfl ?_
  exact h4 0 (Nat.zero_le _)
set_option maxHeartbeats 4000000 in
set_option maxRecDepth 100000 in
theorem c_X3_spread (l : Launch) (G : Gw) (M : Mem) (p : Nat) (s : St) (hp : kd p = 3) (hs : Pk M p s) (q : Nat → Bool) (hS : SmS s) : Cp l G yX3_spread wsX3_spread 4 101 [.ref (G.2.2.1 p), .int (bsT q s.1)] M (clS s q) := by
  refine Ci.of (cc := cX3_spread) (maxL := 6) (ret := (some .int)) (by decide +kernel) rfl (Nat.le_of_ble_eq_true rfl) ?_
  intro x sz hl0 hr C
  subst hl0
  have C : CX x G (AA G sz) RX3 cX3_spread 6 wsX3_spread 4 101 0 0 := C
  have hret : ∀ (M0 : Mem) (pc0 : Nat) (L0 : List (Nat × Value)) (rv0 : Int32), decode cX3_spread pc0 = .ok (.ireturn, 1) → (fun (r : Int32) (M' : Mem) => r = clS s q ∧ M' = M) rv0 M0 → WL x G (AA G sz) 6 0 0 (xQ x (va_Qi (fun (r : Int32) (M' : Mem) => r = clS s q ∧ M' = M) (WE G) (AA G sz)) (AA G sz)) M0 pc0 L0 [.int rv0] := fun M0 pc0 L0 rv0 hd hp => wl_iret (post := (fun (r : Int32) (M' : Mem) => r = clS s q ∧ M' = M)) C hr hd hp
  show WL x G (AA G sz) 6 0 0 (xQ x (va_Qi (fun (r : Int32) (M' : Mem) => r = clS s q ∧ M' = M) (WE G) (AA G sz)) (AA G sz)) M 0 [(0, .ref (G.2.2.1 p)), (1, .int (bsT q s.1))] []
  generalize (xQ x (va_Qi (fun (r : Int32) (M' : Mem) => r = clS s q ∧ M' = M) (WE G) (AA G sz)) (AA G sz)) = QQ at hret ⊢
  have ini4 : Jvm.Cond.initialized RX4 ∈ wsX3_spread := by decide +kernel
  have sta68 : Jvm.Cond.static yX4_lowest ∈ wsX3_spread := by decide +kernel
  have h8 := hs.2.2.2.1
  refine wl_iload_n C 1 dX3_spread_0 rfl rfl ?_
  refine wl_istore_n (L' := [(2, .int (bsT q s.1)), (0, .ref (G.2.2.1 p)), (1, .int (bsT q s.1))]) C dX3_spread_1 rfl (by decide) rfl ?_
  refine wl_iconst (v := bsT (fun _ => false) s.1) C dX3_spread_2 (Eq.trans (b := (0 : Int32)) (by decide) (bsT_00.symm)) ?_
  refine wl_istore_n (L' := [(3, .int (bsT (fun _ => false) s.1)), (2, .int (bsT q s.1)), (0, .ref (G.2.2.1 p)), (1, .int (bsT q s.1))]) C dX3_spread_3 rfl (by decide) rfl ?_
  refine wl_iconst (v := nI 0) C dX3_spread_4 (by first | decide | rfl) ?_
  refine wl_istore (L' := [(4, .int (nI 0)), (3, .int (bsT (fun _ => false) s.1)), (2, .int (bsT q s.1)), (0, .ref (G.2.2.1 p)), (1, .int (bsT q s.1))]) C dX3_spread_5 (by decide) rfl ?_
  have h7 : ∀ t, t ≤ 8 → ∀ A B : Nat → Bool, spI s q t B A → WL x G (AA G sz) 6 0 0 QQ M 7 [(0, .ref (G.2.2.1 p)), (2, .int (bsT A s.1)), (3, .int (bsT B s.1)), (4, .int (nI t))] [] := by
    refine up_loop 8 _ ?_
    intro t ht ih A B hI
    refine wl_iload C 3 dX3_spread_7 rfl ?_
    refine wl_bipush (v := nI 8) C dX3_spread_9 (by decide) ?_
    refine wl_icmp_geN C (a := t) (b := 8) (by omega) (by omega) 51 dX3_spread_11 (by decide) (fun c_11 => ?_) (fun c_11 => ?_)
    · refine wl_iload_n C 1 dX3_spread_51 rfl rfl ?_
      exact hret _ 52 _ (bsT A s.1) dX3_spread_52 (⟨by first | exact spI_end h8 hI c_16 | exact spI_end h8 hI (spI_full h8 hI (by omega)), rfl⟩)
    · refine wl_iload_n C 2 dX3_spread_14 rfl rfl ?_
      refine wl_iload_n C 1 dX3_spread_15 rfl rfl ?_
      refine wl_icmp_eq C 51 dX3_spread_16 (by decide) (fun c_16 => ?_) (fun c_16 => ?_)
      · refine wl_iload_n C 1 dX3_spread_51 rfl rfl ?_
        exact hret _ 52 _ (bsT A s.1) dX3_spread_52 (⟨by first | exact spI_end h8 hI c_16 | exact spI_end h8 hI (spI_full h8 hI (by omega)), rfl⟩)
      · obtain ⟨g1, g2, g3⟩ := loT_bsT h8 (spI_next h8 hI c_16)
        have g4 := (Bool.and_eq_true _ _).mp g2
        refine wl_iload_n C 1 dX3_spread_19 rfl rfl ?_
        refine wl_iload_n C 2 dX3_spread_20 rfl rfl ?_
        refine wl_iconst (v := (-1)) C dX3_spread_21 (by decide) ?_
        refine wl_ixor C dX3_spread_22 ?_
        refine wl_iand C dX3_spread_23 ?_
        refine wl_callNp (n := 1) C [.int ((bsT A s.1) &&& ((bsT B s.1) ^^^ (-1)))] [] (c_X4_lowest _ G M ((bsT A s.1) &&& ((bsT B s.1) ^^^ (-1)))) gX3_spread_X4_lowest_n68 rfl ini4 sta68 (fun h => h.2.2.1) (by decide +kernel) (by decide) (by decide) rfl rfl (Nat.le_of_ble_eq_true rfl) dX3_spread_24 ?_
        refine wl_eqi (b := nI (loT (bsT (fun i => A i && !B i) s.1))) (by rw [bsT_andn h8]) ?_
        refine wl_istore (L' := [(5, .int (nI (loT (bsT (fun i => A i && !B i) s.1)))), (0, .ref (G.2.2.1 p)), (2, .int (bsT A s.1)), (3, .int (bsT B s.1)), (4, .int (nI t))]) C dX3_spread_27 (by decide) rfl ?_
        refine wl_iload_n C 3 dX3_spread_29 rfl rfl ?_
        refine wl_iconst (v := 1) C dX3_spread_30 (by decide) ?_
        refine wl_iload C 0 dX3_spread_31 rfl ?_
        refine wl_ishl C dX3_spread_33 ?_
        refine wl_ior C dX3_spread_34 ?_
        refine wl_eqi (b := bsT (fun i => B i || decide (i = loT (bsT (fun i => A i && !B i) s.1))) s.1) (by rw [bsT_one h8 g1, bsT_or h8]) ?_
        refine wl_istore_n (L' := [(3, .int (bsT (fun i => B i || decide (i = loT (bsT (fun i => A i && !B i) s.1))) s.1)), (5, .int (nI (loT (bsT (fun i => A i && !B i) s.1)))), (0, .ref (G.2.2.1 p)), (2, .int (bsT A s.1)), (4, .int (nI t))]) C dX3_spread_35 rfl (by decide) rfl ?_
        refine wl_iload_n C 3 dX3_spread_36 rfl rfl ?_
        refine wl_aload_n C 2 dX3_spread_37 rfl rfl ?_
        refine wl_iload C 1 dX3_spread_38 rfl ?_
        refine wl_callVp (i := p) (n := 1) C [.int (nI (loT (bsT (fun i => A i && !B i) s.1)))] [.int (bsT A s.1)] (c_X3_touching _ G M p s hp hs (loT (bsT (fun i => A i && !B i) s.1)) g1 hS) gX3_spread_X3_touching rfl (by decide +kernel) (by decide) (by decide) (kd_lt hp (by decide)) (cell_k hp) rfl rfl rfl (Nat.le_of_ble_eq_true rfl) dX3_spread_40 ?_
        refine wl_ior C dX3_spread_43 ?_
        refine wl_eqi (b := bsT (fun i => A i || tcF s (loT (bsT (fun i => A i && !B i) s.1)) i) s.1) (by unfold tcS; rw [bsT_or h8]) ?_
        refine wl_istore_n (L' := [(2, .int (bsT (fun i => A i || tcF s (loT (bsT (fun i => A i && !B i) s.1)) i) s.1)), (3, .int (bsT (fun i => B i || decide (i = loT (bsT (fun i => A i && !B i) s.1))) s.1)), (5, .int (nI (loT (bsT (fun i => A i && !B i) s.1)))), (0, .ref (G.2.2.1 p)), (4, .int (nI t))]) C dX3_spread_44 rfl (by decide) rfl ?_
        refine wl_iinc1 (k := t) (L' := [(4, .int (nI (t + 1))), (2, .int (bsT (fun i => A i || tcF s (loT (bsT (fun i => A i && !B i) s.1)) i) s.1)), (3, .int (bsT (fun i => B i || decide (i = loT (bsT (fun i => A i && !B i) s.1))) s.1)), (5, .int (nI (loT (bsT (fun i => A i && !B i) s.1)))), (0, .ref (G.2.2.1 p))]) C 4 dX3_spread_45 rfl (by decide) rfl ?_
        refine wl_goto C 7 dX3_spread_48 (by decide) ?_
        refine wl_sub (L' := [(0, .ref (G.2.2.1 p)), (2, .int (bsT (fun i => A i || tcF s (loT (bsT (fun i => A i && !B i) s.1)) i) s.1)), (3, .int (bsT (fun i => B i || decide (i = loT (bsT (fun i => A i && !B i) s.1))) s.1)), (4, .int (nI (t + 1)))]) [4, 1, 2, 0] rfl ?_
        exact ih (by omega) _ _ (spI_step hI g1 g4.1 (by simpa using g4.2))
  refine wl_sub (L' := [(0, .ref (G.2.2.1 p)), (2, .int (bsT q s.1)), (3, .int (bsT (fun _ => false) s.1)), (4, .int (nI 0))]) [3, 2, 1, 0] rfl ?_
  exact h7 0 (Nat.zero_le _) q (fun _ => false) spI_0
set_option maxHeartbeats 4000000 in
set_option maxRecDepth 100000 in
theorem c_X3_freeSteps (l : Launch) (G : Gw) (M : Mem) (p : Nat) (s : St) (hp : kd p = 3) (hs : Pk M p s) (hW : WfS s) (k d most : Nat) (hk : k < s.1) (hd : d < 8) (hm : most < 2 ^ 31) : Ci l G yX3_freeSteps wsX3_freeSteps 4 101 [.ref (G.2.2.1 p), .int (nI k), .int (nI d), .int (nI most)] M (fun r M' => r = nI (fsN s k d most) ∧ Fr (bo p 9) M M') := by
  refine Ci.of (cc := cX3_freeSteps) (maxL := 5) (ret := (some .int)) (by decide +kernel) rfl (Nat.le_of_ble_eq_true rfl) ?_
  intro x sz hl0 hr C
  subst hl0
  have C : CX x G (AA G sz) RX3 cX3_freeSteps 5 wsX3_freeSteps 4 101 0 0 := C
  have hret : ∀ (M0 : Mem) (pc0 : Nat) (L0 : List (Nat × Value)) (rv0 : Int32), decode cX3_freeSteps pc0 = .ok (.ireturn, 1) → (fun r M' => r = nI (fsN s k d most) ∧ Fr (bo p 9) M M') rv0 M0 → WL x G (AA G sz) 5 0 0 (xQ x (va_Qi (fun r M' => r = nI (fsN s k d most) ∧ Fr (bo p 9) M M') (WE G) (AA G sz)) (AA G sz)) M0 pc0 L0 [.int rv0] := fun M0 pc0 L0 rv0 hd hp => wl_iret (post := (fun r M' => r = nI (fsN s k d most) ∧ Fr (bo p 9) M M')) C hr hd hp
  show WL x G (AA G sz) 5 0 0 (xQ x (va_Qi (fun r M' => r = nI (fsN s k d most) ∧ Fr (bo p 9) M M') (WE G) (AA G sz)) (AA G sz)) M 0 [(0, .ref (G.2.2.1 p)), (1, .int (nI k)), (2, .int (nI d)), (3, .int (nI most))] []
  generalize (xQ x (va_Qi (fun r M' => r = nI (fsN s k d most) ∧ Fr (bo p 9) M M') (WE G) (AA G sz)) (AA G sz)) = QQ at hret ⊢
  have in3 : ∀ w ∈ wsX30, w ∈ wsX3_freeSteps := by decide +kernel
  have fl22 : Jvm.Cond.fieldLink RX3 22 "JammedBodies$Packing" "ghost" "LJammedBodies$Body;" ∈ wsX3_freeSteps := by decide +kernel
  have ini4 : Jvm.Cond.initialized RX4 ∈ wsX3_freeSteps := by decide +kernel
  have sta71 : Jvm.Cond.static yX4_stepX ∈ wsX3_freeSteps := by decide +kernel
  have sta74 : Jvm.Cond.static yX4_stepY ∈ wsX3_freeSteps := by decide +kernel
  have fl29 : Jvm.Cond.fieldLink RX3 29 "JammedBodies$Packing" "width" "I" ∈ wsX3_freeSteps := by decide +kernel
  have fl32 : Jvm.Cond.fieldLink RX3 32 "JammedBodies$Packing" "height" "I" ∈ wsX3_freeSteps := by decide +kernel
  have h8 := hs.2.2.2.1
  refine wl_aload_n C 0 dX3_freeSteps_0 rfl rfl ?_
  refine wl_get_Packing_ghost (i := p) C hp in3 fl22 dX3_freeSteps_1 ?_
  refine wl_aload_n C 0 dX3_freeSteps_4 rfl rfl ?_
  refine wl_iload_n C 1 dX3_freeSteps_5 rfl rfl ?_
  refine wl_callVa (i := p) (n := 1) C [.int (nI k)] [.ref (G.2.2.1 (bo p 9))] (c_X3_at _ G M p k hp (by omega)) gX3_freeSteps_X3_at rfl (by decide +kernel) (by decide) (by decide) (kd_lt hp (by decide)) (cell_k hp) rfl rfl rfl (Nat.le_of_ble_eq_true rfl) dX3_freeSteps_6 ?_
  refine wl_callVv (i := bo p 9) (n := 1) C [.ref (G.2.2.1 (bo p k))] [] (c_X0_copyFrom _ G M (bo p 9) (bo p k) (s.2.2.2 k) 0 (kd_bo (k := 9) hp (by omega)) (kd_bo hp (by omega)) (hs.2.2.2.2 k (by omega)) (by unfold bo; omega)) gX3_freeSteps_X0_copyFrom rfl (by decide +kernel) (by decide) (by decide) (kd_lt (kd_bo hp (by omega)) (by decide)) (cell_k (kd_bo hp (by omega))) rfl rfl rfl (Nat.le_of_ble_eq_true rfl) dX3_freeSteps_9 (fun M1 e1 => ?_)
  refine wl_iconst (v := nI 0) C dX3_freeSteps_12 (by first | decide | rfl) ?_
  refine wl_istore (L' := [(4, .int (nI 0)), (0, .ref (G.2.2.1 p)), (1, .int (nI k)), (2, .int (nI d)), (3, .int (nI most))]) C dX3_freeSteps_13 (by decide) rfl ?_
  have h15 : ∀ t, t ≤ most → anT (fkF s k d) t = false → ∀ M2 : Mem, Bd M2 (bo p 9) (mvN (s.2.2.2 k) d t) ∧ Fr (bo p 9) M M2 → WL x G (AA G sz) 5 0 0 QQ M2 15 [(0, .ref (G.2.2.1 p)), (1, .int (nI k)), (2, .int (nI d)), (3, .int (nI most)), (4, .int (nI t))] [] := by
    refine up_loop most _ ?_
    intro t ht ih hA M2 hI
    refine wl_iload C 4 dX3_freeSteps_15 rfl ?_
    refine wl_iload_n C 3 dX3_freeSteps_17 rfl rfl ?_
    refine wl_icmp_geN C (a := t) (b := most) (by omega) (by omega) 75 dX3_freeSteps_18 (by decide) (fun c_18 => ?_) (fun c_18 => ?_)
    · refine wl_iload_n C 3 dX3_freeSteps_75 rfl rfl ?_
      exact hret _ 76 _ (nI most) dX3_freeSteps_76 (⟨by unfold fsN; rw [fsT_none.mpr (by rw [show most = t by omega]; exact hA)], hI.2⟩)
    · refine wl_aload_n C 0 dX3_freeSteps_21 rfl rfl ?_
      refine wl_get_Packing_ghost (i := p) C hp in3 fl22 dX3_freeSteps_22 ?_
      refine wl_iload_n C 2 dX3_freeSteps_25 rfl rfl ?_
      refine wl_callNp (n := 1) C [.int (nI d)] [.ref (G.2.2.1 (bo p 9))] (c_X4_stepX _ G M2 d hd) gX3_freeSteps_X4_stepX_n71 rfl ini4 sta71 (fun h => h.2.2.2.1) (by decide +kernel) (by decide) (by decide) rfl rfl (Nat.le_of_ble_eq_true rfl) dX3_freeSteps_26 ?_
      refine wl_iload_n C 2 dX3_freeSteps_29 rfl rfl ?_
      refine wl_callNp (n := 1) C [.int (nI d)] [.int (stX d), .ref (G.2.2.1 (bo p 9))] (c_X4_stepY _ G M2 d hd) gX3_freeSteps_X4_stepY_n74 rfl ini4 sta74 (fun h => h.2.2.2.2) (by decide +kernel) (by decide) (by decide) rfl rfl (Nat.le_of_ble_eq_true rfl) dX3_freeSteps_30 ?_
      refine wl_callVv (i := bo p 9) (n := 2) C [.int (stX d), .int (stY d)] [] (c_X0_move _ G M2 (bo p 9) (mvN (s.2.2.2 k) d t) (kd_bo (k := 9) hp (by omega)) hI.1 (stX d) (stY d)) gX3_freeSteps_X0_move rfl (by decide +kernel) (by decide) (by decide) (kd_lt (kd_bo hp (by omega)) (by decide)) (cell_k (kd_bo hp (by omega))) rfl rfl rfl (Nat.le_of_ble_eq_true rfl) dX3_freeSteps_33 (fun M3 e3 => ?_)
      have g3 : Bd M3 (bo p 9) (mvN (s.2.2.2 k) d (t + 1)) := e3.1
      have f3 : Fr (bo p 9) M M3 := hI.2.tr e3.2
      have s3 : Pk M3 p s := hs.fr f3 (Or.inl (by unfold bo; omega))
      have sm3 := smal_mvN hW hk hd hA
      refine wl_aload_n C 0 dX3_freeSteps_36 rfl rfl ?_
      refine wl_get_Packing_ghost (i := p) C hp in3 fl22 dX3_freeSteps_37 ?_
      refine wl_aload_n C 0 dX3_freeSteps_40 rfl rfl ?_
      refine wl_get_Packing_width (i := p) (v := s.2.1) C hp in3 fl29 s3.2.1 dX3_freeSteps_41 ?_
      refine wl_aload_n C 0 dX3_freeSteps_44 rfl rfl ?_
      refine wl_get_Packing_height (i := p) (v := s.2.2.1) C hp in3 fl32 s3.2.2.1 dX3_freeSteps_45 ?_
      refine wl_callVp (i := bo p 9) (n := 2) C [.int s.2.1, .int s.2.2.1] [] (c_X0_wallsBeyond _ G M3 (bo p 9) (mvN (s.2.2.2 k) d (t + 1)) (kd_bo (k := 9) hp (by omega)) g3 s.2.1 s.2.2.1 (by have := sm3.1; omega)) gX3_freeSteps_X0_wallsBeyond rfl (by decide +kernel) (by decide) (by decide) (kd_lt (kd_bo hp (by omega)) (by decide)) (cell_k (kd_bo hp (by omega))) rfl rfl rfl (Nat.le_of_ble_eq_true rfl) dX3_freeSteps_48 ?_
      refine wl_if_ne C 66 dX3_freeSteps_51 (by decide) (fun c_51 => ?_) (fun c_51 => ?_)
      · refine wl_iload C 4 dX3_freeSteps_66 rfl ?_
        exact hret _ 68 _ (nI t) dX3_freeSteps_68 (⟨by unfold fsN; rw [fsT_first hA (by simp [fkF, okS, *]) (by omega)], f3⟩)
      · refine wl_aload_n C 0 dX3_freeSteps_54 rfl rfl ?_
        refine wl_aload_n C 0 dX3_freeSteps_55 rfl rfl ?_
        refine wl_get_Packing_ghost (i := p) C hp in3 fl22 dX3_freeSteps_56 ?_
        refine wl_iload_n C 1 dX3_freeSteps_59 rfl rfl ?_
        refine wl_callVp (i := p) (n := 2) C [.ref (G.2.2.1 (bo p 9)), .int (nI k)] [] (c_X3_overlapped _ G M3 p s hp s3 (bo p 9) (mvN (s.2.2.2 k) d (t + 1)) (nI k) (kd_bo (k := 9) hp (by omega)) g3 sm3 hW.sm) gX3_freeSteps_X3_overlapped rfl (by decide +kernel) (by decide) (by decide) (kd_lt hp (by decide)) (cell_k hp) rfl rfl rfl (Nat.le_of_ble_eq_true rfl) dX3_freeSteps_60 ?_
        refine wl_if_eq C 69 dX3_freeSteps_63 (by decide) (fun c_63 => ?_) (fun c_63 => ?_)
        · refine wl_iinc1 (k := t) (L' := [(4, .int (nI (t + 1))), (0, .ref (G.2.2.1 p)), (1, .int (nI k)), (2, .int (nI d)), (3, .int (nI most))]) C 4 dX3_freeSteps_69 rfl (by decide) rfl ?_
          refine wl_goto C 15 dX3_freeSteps_72 (by decide) ?_
          refine wl_sub (L' := [(0, .ref (G.2.2.1 p)), (1, .int (nI k)), (2, .int (nI d)), (3, .int (nI most)), (4, .int (nI (t + 1)))]) [1, 2, 3, 4, 0] rfl ?_
          exact ih (by omega) (by simp [anT, hA, fkF, okS, c_51, c_63]) M3 ⟨g3, f3⟩
        · refine wl_iload C 4 dX3_freeSteps_66 rfl ?_
          exact hret _ 68 _ (nI t) dX3_freeSteps_68 (⟨by unfold fsN; rw [fsT_first hA (by simp [fkF, okS, *]) (by omega)], f3⟩)
  refine wl_sub (L' := [(0, .ref (G.2.2.1 p)), (1, .int (nI k)), (2, .int (nI d)), (3, .int (nI most)), (4, .int (nI 0))]) [1, 2, 3, 4, 0] rfl ?_
  exact h15 0 (Nat.zero_le _) rfl M1 e1
set_option maxHeartbeats 4000000 in
set_option maxRecDepth 100000 in
theorem c_X3_freeDirections (l : Launch) (G : Gw) (M : Mem) (p : Nat) (s : St) (hp : kd p = 3) (hs : Pk M p s) (hW : WfS s) (k : Nat) (hk : k < s.1) : Ci l G yX3_freeDirections wsX3_freeDirections 5 125 [.ref (G.2.2.1 p), .int (nI k)] M (fun r M' => r = frS s k ∧ Fr (bo p 9) M M') := by
  refine Ci.of (cc := cX3_freeDirections) (maxL := 4) (ret := (some .int)) (by decide +kernel) rfl (Nat.le_of_ble_eq_true rfl) ?_
  intro x sz hl0 hr C
  subst hl0
  have C : CX x G (AA G sz) RX3 cX3_freeDirections 4 wsX3_freeDirections 5 125 0 0 := C
  have hret : ∀ (M0 : Mem) (pc0 : Nat) (L0 : List (Nat × Value)) (rv0 : Int32), decode cX3_freeDirections pc0 = .ok (.ireturn, 1) → (fun r M' => r = frS s k ∧ Fr (bo p 9) M M') rv0 M0 → WL x G (AA G sz) 4 0 0 (xQ x (va_Qi (fun r M' => r = frS s k ∧ Fr (bo p 9) M M') (WE G) (AA G sz)) (AA G sz)) M0 pc0 L0 [.int rv0] := fun M0 pc0 L0 rv0 hd hp => wl_iret (post := (fun r M' => r = frS s k ∧ Fr (bo p 9) M M')) C hr hd hp
  show WL x G (AA G sz) 4 0 0 (xQ x (va_Qi (fun r M' => r = frS s k ∧ Fr (bo p 9) M M') (WE G) (AA G sz)) (AA G sz)) M 0 [(0, .ref (G.2.2.1 p)), (1, .int (nI k))] []
  generalize (xQ x (va_Qi (fun r M' => r = frS s k ∧ Fr (bo p 9) M M') (WE G) (AA G sz)) (AA G sz)) = QQ at hret ⊢
  have h8 := hs.2.2.2.1
  refine wl_iconst (v := bsT (frF s k) 0) C dX3_freeDirections_0 (by first | decide | rfl) ?_
  refine wl_istore_n (L' := [(2, .int (bsT (frF s k) 0)), (0, .ref (G.2.2.1 p)), (1, .int (nI k))]) C dX3_freeDirections_1 rfl (by decide) rfl ?_
  refine wl_iconst (v := nI 0) C dX3_freeDirections_2 (by first | decide | rfl) ?_
  refine wl_istore_n (L' := [(3, .int (nI 0)), (2, .int (bsT (frF s k) 0)), (0, .ref (G.2.2.1 p)), (1, .int (nI k))]) C dX3_freeDirections_3 rfl (by decide) rfl ?_
  have h4 : ∀ d, d ≤ 8 → ∀ M2 : Mem, Fr (bo p 9) M M2 → WL x G (AA G sz) 4 0 0 QQ M2 4 [(0, .ref (G.2.2.1 p)), (1, .int (nI k)), (2, .int (bsT (frF s k) d)), (3, .int (nI d))] [] := by
    refine up_loop 8 _ ?_
    intro d hd ih M2 hI
    have s2 : Pk M2 p s := hs.fr hI (Or.inl (by unfold bo; omega))
    refine wl_iload_n C 3 dX3_freeDirections_4 rfl rfl ?_
    refine wl_bipush (v := nI 8) C dX3_freeDirections_5 (by decide) ?_
    refine wl_icmp_geN C (a := d) (b := 8) (by omega) (by omega) 33 dX3_freeDirections_7 (by decide) (fun c_7 => ?_) (fun c_7 => ?_)
    · refine wl_iload_n C 2 dX3_freeDirections_33 rfl rfl ?_
      exact hret _ 34 _ (bsT (frF s k) d) dX3_freeDirections_34 (⟨by unfold frS; rw [show d = 8 by omega], hI⟩)
    · refine wl_aload_n C 0 dX3_freeDirections_10 rfl rfl ?_
      refine wl_iload_n C 1 dX3_freeDirections_11 rfl rfl ?_
      refine wl_iload_n C 3 dX3_freeDirections_12 rfl rfl ?_
      refine wl_iconst (v := nI 1) C dX3_freeDirections_13 (by first | decide | rfl) ?_
      refine wl_callVi (i := p) (n := 3) C [.int (nI k), .int (nI d), .int (nI 1)] [] (c_X3_freeSteps _ G M2 p s hp s2 hW k d 1 (by omega) (by omega) (by decide)) gX3_freeDirections_X3_freeSteps rfl (by decide +kernel) (by decide) (by decide) (kd_lt hp (by decide)) (cell_k hp) rfl rfl rfl (Nat.le_of_ble_eq_true rfl) dX3_freeDirections_14 (fun r3 M3 eM3 => ?_)
      obtain ⟨qM3, fM3⟩ := eM3
      subst qM3
      have lM3 := fsN_le s k d 1
      have f3 := hI.tr fM3
      refine wl_iconst (v := nI 1) C dX3_freeDirections_17 (by first | decide | rfl) ?_
      have h27 : WL x G (AA G sz) 4 0 0 QQ M3 27 [(0, .ref (G.2.2.1 p)), (1, .int (nI k)), (2, .int (bsT (frF s k) (d + 1))), (3, .int (nI d))] [] := by
        refine wl_iinc1 (k := d) (L' := [(3, .int (nI (d + 1))), (0, .ref (G.2.2.1 p)), (1, .int (nI k)), (2, .int (bsT (frF s k) (d + 1)))]) C 3 dX3_freeDirections_27 rfl (by decide) rfl ?_
        refine wl_goto C 4 dX3_freeDirections_30 (by decide) ?_
        refine wl_sub (L' := [(0, .ref (G.2.2.1 p)), (1, .int (nI k)), (2, .int (bsT (frF s k) (d + 1))), (3, .int (nI (d + 1)))]) [1, 2, 3, 0] rfl ?_
        exact ih (by omega) M3 f3
      refine wl_icmp_neN C (a := (fsN s k d 1)) (b := 1) (by omega) (by omega) 27 dX3_freeDirections_18 (by decide) (fun c_18 => ?_) (fun c_18 => ?_)
      · refine wl_locs (L' := [(0, .ref (G.2.2.1 p)), (1, .int (nI k)), (2, .int (bsT (frF s k) (d + 1))), (3, .int (nI d))]) (by rw [bsT_f (by simp [frF, c_18])]) ?_
        exact h27
      · refine wl_iload_n C 2 dX3_freeDirections_21 rfl rfl ?_
        refine wl_iconst (v := 1) C dX3_freeDirections_22 (by decide) ?_
        refine wl_iload_n C 3 dX3_freeDirections_23 rfl rfl ?_
        refine wl_ishl C dX3_freeDirections_24 ?_
        refine wl_ior C dX3_freeDirections_25 ?_
        refine wl_istore_n (L' := [(2, .int ((bsT (frF s k) d) ||| (1 <<< ((nI d) &&& 31)))), (0, .ref (G.2.2.1 p)), (1, .int (nI k)), (3, .int (nI d))]) C dX3_freeDirections_26 rfl (by decide) rfl ?_
        refine wl_sub (L' := [(0, .ref (G.2.2.1 p)), (1, .int (nI k)), (2, .int ((bsT (frF s k) d) ||| (1 <<< ((nI d) &&& 31)))), (3, .int (nI d))]) [1, 2, 0, 3] rfl ?_
        refine wl_locs (L' := [(0, .ref (G.2.2.1 p)), (1, .int (nI k)), (2, .int (bsT (frF s k) (d + 1))), (3, .int (nI d))]) (by rw [bsT_t (by simp [frF, c_18])]) ?_
        exact h27
  refine wl_sub (L' := [(0, .ref (G.2.2.1 p)), (1, .int (nI k)), (2, .int (bsT (frF s k) 0)), (3, .int (nI 0))]) [2, 3, 1, 0] rfl ?_
  exact h4 0 (Nat.zero_le _) M Fr.rf
set_option maxHeartbeats 4000000 in
set_option maxRecDepth 100000 in
theorem c_X3_jammed (l : Launch) (G : Gw) (M : Mem) (p : Nat) (s : St) (hp : kd p = 3) (hs : Pk M p s) (hW : WfS s) : Ci l G yX3_jammed wsX3_jammed 5 125 [.ref (G.2.2.1 p)] M (fun r M' => r = jmS s ∧ Fr (bo p 9) M M') := by
  refine Ci.of (cc := cX3_jammed) (maxL := 5) (ret := (some .int)) (by decide +kernel) rfl (Nat.le_of_ble_eq_true rfl) ?_
  intro x sz hl0 hr C
  subst hl0
  have C : CX x G (AA G sz) RX3 cX3_jammed 5 wsX3_jammed 5 125 0 0 := C
  have hret : ∀ (M0 : Mem) (pc0 : Nat) (L0 : List (Nat × Value)) (rv0 : Int32), decode cX3_jammed pc0 = .ok (.ireturn, 1) → (fun r M' => r = jmS s ∧ Fr (bo p 9) M M') rv0 M0 → WL x G (AA G sz) 5 0 0 (xQ x (va_Qi (fun r M' => r = jmS s ∧ Fr (bo p 9) M M') (WE G) (AA G sz)) (AA G sz)) M0 pc0 L0 [.int rv0] := fun M0 pc0 L0 rv0 hd hp => wl_iret (post := (fun r M' => r = jmS s ∧ Fr (bo p 9) M M')) C hr hd hp
  show WL x G (AA G sz) 5 0 0 (xQ x (va_Qi (fun r M' => r = jmS s ∧ Fr (bo p 9) M M') (WE G) (AA G sz)) (AA G sz)) M 0 [(0, .ref (G.2.2.1 p))] []
  generalize (xQ x (va_Qi (fun r M' => r = jmS s ∧ Fr (bo p 9) M M') (WE G) (AA G sz)) (AA G sz)) = QQ at hret ⊢
  have in3 : ∀ w ∈ wsX30, w ∈ wsX3_jammed := by decide +kernel
  have fl25 : Jvm.Cond.fieldLink RX3 25 "JammedBodies$Packing" "size" "I" ∈ wsX3_jammed := by decide +kernel
  have h8 := hs.2.2.2.1
  refine wl_iconst (v := bsT (jmF s) 0) C dX3_jammed_0 (by first | decide | rfl) ?_
  refine wl_istore_n (L' := [(1, .int (bsT (jmF s) 0)), (0, .ref (G.2.2.1 p))]) C dX3_jammed_1 rfl (by decide) rfl ?_
  refine wl_iconst (v := nI 0) C dX3_jammed_2 (by first | decide | rfl) ?_
  refine wl_istore_n (L' := [(2, .int (nI 0)), (1, .int (bsT (jmF s) 0)), (0, .ref (G.2.2.1 p))]) C dX3_jammed_3 rfl (by decide) rfl ?_
  have h4 : ∀ k, k ≤ s.1 → ∀ M2 : Mem, Fr (bo p 9) M M2 → WL x G (AA G sz) 5 0 0 QQ M2 4 [(0, .ref (G.2.2.1 p)), (1, .int (bsT (jmF s) k)), (2, .int (nI k))] [] := by
    refine up_loop s.1 _ ?_
    intro k hk ih M2 hI
    have s2 : Pk M2 p s := hs.fr hI (Or.inl (by unfold bo; omega))
    refine wl_iload_n C 2 dX3_jammed_4 rfl rfl ?_
    refine wl_aload_n C 0 dX3_jammed_5 rfl rfl ?_
    refine wl_get_Packing_size (i := p) (v := nI s.1) C hp in3 fl25 s2.1 dX3_jammed_6 ?_
    refine wl_icmp_geN C (a := k) (b := s.1) (by omega) (by omega) 68 dX3_jammed_9 (by decide) (fun c_9 => ?_) (fun c_9 => ?_)
    · refine wl_iload_n C 1 dX3_jammed_68 rfl rfl ?_
      exact hret _ 69 _ (bsT (jmF s) k) dX3_jammed_69 (⟨by unfold jmS; rw [show s.1 = k by omega], hI⟩)
    · have h52 : ∀ Mj : Mem, Fr (bo p 9) M Mj → WL x G (AA G sz) 5 0 0 QQ Mj 52 [(0, .ref (G.2.2.1 p)), (1, .int (bsT (jmF s) k)), (2, .int (nI k)), (3, .int (bi (jm4 s k 4)))] [] := by
        intro Mj hJ
        have h62 : WL x G (AA G sz) 5 0 0 QQ Mj 62 [(0, .ref (G.2.2.1 p)), (1, .int (bsT (jmF s) (k + 1))), (2, .int (nI k))] [] := by
          refine wl_iinc1 (k := k) (L' := [(2, .int (nI (k + 1))), (0, .ref (G.2.2.1 p)), (1, .int (bsT (jmF s) (k + 1)))]) C 2 dX3_jammed_62 rfl (by decide) rfl ?_
          refine wl_goto C 4 dX3_jammed_65 (by decide) ?_
          refine wl_sub (L' := [(0, .ref (G.2.2.1 p)), (1, .int (bsT (jmF s) (k + 1))), (2, .int (nI (k + 1)))]) [1, 2, 0] rfl ?_
          exact ih (by omega) Mj hJ
        refine wl_iload_n C 3 dX3_jammed_52 rfl rfl ?_
        refine wl_if_neB C 62 dX3_jammed_53 (by decide) (fun c_53 => ?_) (fun c_53 => ?_)
        · refine wl_sub (L' := [(0, .ref (G.2.2.1 p)), (1, .int (bsT (jmF s) k)), (2, .int (nI k))]) [0, 1, 2] rfl ?_
          refine wl_locs (L' := [(0, .ref (G.2.2.1 p)), (1, .int (bsT (jmF s) (k + 1))), (2, .int (nI k))]) (by rw [bsT_f (by simp [jmF, c_53])]) ?_
          exact h62
        · refine wl_iload_n C 1 dX3_jammed_56 rfl rfl ?_
          refine wl_iconst (v := 1) C dX3_jammed_57 (by decide) ?_
          refine wl_iload_n C 2 dX3_jammed_58 rfl rfl ?_
          refine wl_ishl C dX3_jammed_59 ?_
          refine wl_ior C dX3_jammed_60 ?_
          refine wl_istore_n (L' := [(1, .int ((bsT (jmF s) k) ||| (1 <<< ((nI k) &&& 31)))), (0, .ref (G.2.2.1 p)), (2, .int (nI k)), (3, .int (bi (jm4 s k 4)))]) C dX3_jammed_61 rfl (by decide) rfl ?_
          refine wl_sub (L' := [(0, .ref (G.2.2.1 p)), (1, .int ((bsT (jmF s) k) ||| (1 <<< ((nI k) &&& 31)))), (2, .int (nI k))]) [1, 0, 2] rfl ?_
          refine wl_locs (L' := [(0, .ref (G.2.2.1 p)), (1, .int (bsT (jmF s) (k + 1))), (2, .int (nI k))]) (by rw [bsT_t (by simp [jmF, c_53])]) ?_
          exact h62
      refine wl_iconst (v := bi (jm4 s k 0)) C dX3_jammed_12 (by first | decide | rfl) ?_
      refine wl_istore_n (L' := [(3, .int (bi (jm4 s k 0))), (0, .ref (G.2.2.1 p)), (1, .int (bsT (jmF s) k)), (2, .int (nI k))]) C dX3_jammed_13 rfl (by decide) rfl ?_
      refine wl_iconst (v := nI (2 * 0)) C dX3_jammed_14 (by first | decide | rfl) ?_
      refine wl_istore (L' := [(4, .int (nI (2 * 0))), (3, .int (bi (jm4 s k 0))), (0, .ref (G.2.2.1 p)), (1, .int (bsT (jmF s) k)), (2, .int (nI k))]) C dX3_jammed_15 (by decide) rfl ?_
      have h17 : ∀ j, j ≤ 4 → ∀ Mi : Mem, Fr (bo p 9) M Mi → WL x G (AA G sz) 5 0 0 QQ Mi 17 [(0, .ref (G.2.2.1 p)), (1, .int (bsT (jmF s) k)), (2, .int (nI k)), (3, .int (bi (jm4 s k j))), (4, .int (nI (2 * j)))] [] := by
        refine up_loop 4 _ ?_
        intro j hj ih2 Mi hI2
        have si : Pk Mi p s := hs.fr hI2 (Or.inl (by unfold bo; omega))
        refine wl_iload C 4 dX3_jammed_17 rfl ?_
        refine wl_bipush (v := nI 8) C dX3_jammed_19 (by decide) ?_
        refine wl_icmp_geN C (a := (2 * j)) (b := 8) (by omega) (by omega) 52 dX3_jammed_21 (by decide) (fun c_21 => ?_) (fun c_21 => ?_)
        · refine wl_sub (L' := [(0, .ref (G.2.2.1 p)), (1, .int (bsT (jmF s) k)), (2, .int (nI k)), (3, .int (bi (jm4 s k j)))]) [0, 1, 2, 3] rfl ?_
          refine wl_locs (L' := [(0, .ref (G.2.2.1 p)), (1, .int (bsT (jmF s) k)), (2, .int (nI k)), (3, .int (bi (jm4 s k 4)))]) (by rw [show j = 4 by omega]) ?_
          exact h52 Mi hI2
        · refine wl_iload_n C 3 dX3_jammed_24 rfl rfl ?_
          refine wl_if_neB C 52 dX3_jammed_25 (by decide) (fun c_25 => ?_) (fun c_25 => ?_)
          · refine wl_sub (L' := [(0, .ref (G.2.2.1 p)), (1, .int (bsT (jmF s) k)), (2, .int (nI k)), (3, .int (bi (jm4 s k j)))]) [0, 1, 2, 3] rfl ?_
            refine wl_locs (L' := [(0, .ref (G.2.2.1 p)), (1, .int (bsT (jmF s) k)), (2, .int (nI k)), (3, .int (bi (jm4 s k 4)))]) (by rw [c_25, jm4_up c_25 hj]) ?_
            exact h52 Mi hI2
          · refine wl_aload_n C 0 dX3_jammed_28 rfl rfl ?_
            refine wl_iload_n C 2 dX3_jammed_29 rfl rfl ?_
            refine wl_iload C 4 dX3_jammed_30 rfl ?_
            refine wl_iconst (v := nI 1) C dX3_jammed_32 (by first | decide | rfl) ?_
            refine wl_callVi (i := p) (n := 3) C [.int (nI k), .int (nI (2 * j)), .int (nI 1)] [] (c_X3_freeSteps _ G Mi p s hp si hW k (2 * j) 1 (by omega) (by omega) (by decide)) gX3_jammed_X3_freeSteps rfl (by decide +kernel) (by decide) (by decide) (kd_lt hp (by decide)) (cell_k hp) rfl rfl rfl (Nat.le_of_ble_eq_true rfl) dX3_jammed_33 (fun r3 M3 eM3 => ?_)
            obtain ⟨qM3, fM3⟩ := eM3
            subst qM3
            have lM3 := fsN_le s k (2 * j) 1
            have f3 := hI2.tr fM3
            refine wl_iconst (v := nI 1) C dX3_jammed_36 (by first | decide | rfl) ?_
            suffices hJ37 : WL x G (AA G sz) 5 0 0 QQ M3 45 [(0, .ref (G.2.2.1 p)), (1, .int (bsT (jmF s) k)), (2, .int (nI k)), (3, .int (bi (jm4 s k j))), (4, .int (nI (2 * j)))] [.int (if (fsN s k (2 * j) 1) = 1 then 1 else 0)] by
              refine wl_icmp_neN C (a := (fsN s k (2 * j) 1)) (b := 1) (by omega) (by omega) 44 dX3_jammed_37 (by decide) (fun c_37 => ?_) (fun c_37 => ?_)
              · rw [if_neg c_37] at hJ37
                refine wl_iconst (v := 0) C dX3_jammed_44 (by decide) ?_
                exact hJ37
              · rw [if_pos c_37] at hJ37
                refine wl_iconst (v := 1) C dX3_jammed_40 (by decide) ?_
                refine wl_goto C 45 dX3_jammed_41 (by decide) ?_
                exact hJ37
            refine wl_eqi (b := bi (jm4 s k (j + 1))) (by simp [jm4, c_25, bi]) ?_
            refine wl_istore_n (L' := [(3, .int (bi (jm4 s k (j + 1)))), (0, .ref (G.2.2.1 p)), (1, .int (bsT (jmF s) k)), (2, .int (nI k)), (4, .int (nI (2 * j)))]) C dX3_jammed_45 rfl (by decide) rfl ?_
            refine wl_iinc (w := nI (2 * (j + 1))) (L' := [(4, .int (nI (2 * (j + 1)))), (3, .int (bi (jm4 s k (j + 1)))), (0, .ref (G.2.2.1 p)), (1, .int (bsT (jmF s) k)), (2, .int (nI k))]) C 4 dX3_jammed_46 rfl (nI_add (2 * j) 2) (by decide) rfl ?_
            refine wl_goto C 17 dX3_jammed_49 (by decide) ?_
            refine wl_sub (L' := [(0, .ref (G.2.2.1 p)), (1, .int (bsT (jmF s) k)), (2, .int (nI k)), (3, .int (bi (jm4 s k (j + 1)))), (4, .int (nI (2 * (j + 1))))]) [2, 3, 4, 1, 0] rfl ?_
            exact ih2 (by omega) M3 f3
      refine wl_sub (L' := [(0, .ref (G.2.2.1 p)), (1, .int (bsT (jmF s) k)), (2, .int (nI k)), (3, .int (bi (jm4 s k 0))), (4, .int (nI (2 * 0)))]) [2, 3, 4, 1, 0] rfl ?_
      exact h17 0 (Nat.zero_le _) M2 hI
  refine wl_sub (L' := [(0, .ref (G.2.2.1 p)), (1, .int (bsT (jmF s) 0)), (2, .int (nI 0))]) [2, 1, 0] rfl ?_
  exact h4 0 (Nat.zero_le _) M Fr.rf
set_option maxHeartbeats 4000000 in
set_option maxRecDepth 100000 in
theorem c_X3_shift (l : Launch) (G : Gw) (M : Mem) (p : Nat) (s : St) (hp : kd p = 3) (hs : Pk M p s) (k d t : Nat) (hk : k < s.1) (hd : d < 8) : Cv l G yX3_shift wsX3_shift 2 46 [.ref (G.2.2.1 p), .int (nI k), .int (nI d), .int (nI t)] M (fun M' => Pk M' p (setS s k (shP (s.2.2.2 k) d t)) ∧ Fr (bo p k) M M') := by
  refine Cv.of (cc := cX3_shift) (maxL := 4) (ret := none) (by decide +kernel) rfl (Nat.le_of_ble_eq_true rfl) ?_
  intro x sz hl0 hr C
  subst hl0
  have C : CX x G (AA G sz) RX3 cX3_shift 4 wsX3_shift 2 46 0 0 := C
  have hret : ∀ (M0 : Mem) (pc0 : Nat) (L0 : List (Nat × Value)), decode cX3_shift pc0 = .ok (.return_, 1) → (fun M' => Pk M' p (setS s k (shP (s.2.2.2 k) d t)) ∧ Fr (bo p k) M M') M0 → WL x G (AA G sz) 4 0 0 (xQ x (va_Qv (fun M' => Pk M' p (setS s k (shP (s.2.2.2 k) d t)) ∧ Fr (bo p k) M M') (WE G) (AA G sz)) (AA G sz)) M0 pc0 L0 [] := fun M0 pc0 L0 hd hp => wl_vret (post := (fun M' => Pk M' p (setS s k (shP (s.2.2.2 k) d t)) ∧ Fr (bo p k) M M')) C hr hd hp
  show WL x G (AA G sz) 4 0 0 (xQ x (va_Qv (fun M' => Pk M' p (setS s k (shP (s.2.2.2 k) d t)) ∧ Fr (bo p k) M M') (WE G) (AA G sz)) (AA G sz)) M 0 [(0, .ref (G.2.2.1 p)), (1, .int (nI k)), (2, .int (nI d)), (3, .int (nI t))] []
  generalize (xQ x (va_Qv (fun M' => Pk M' p (setS s k (shP (s.2.2.2 k) d t)) ∧ Fr (bo p k) M M') (WE G) (AA G sz)) (AA G sz)) = QQ at hret ⊢
  have ini4 : Jvm.Cond.initialized RX4 ∈ wsX3_shift := by decide +kernel
  have sta71 : Jvm.Cond.static yX4_stepX ∈ wsX3_shift := by decide +kernel
  have sta74 : Jvm.Cond.static yX4_stepY ∈ wsX3_shift := by decide +kernel
  have h8 := hs.2.2.2.1
  refine wl_aload_n C 0 dX3_shift_0 rfl rfl ?_
  refine wl_iload_n C 1 dX3_shift_1 rfl rfl ?_
  refine wl_callVa (i := p) (n := 1) C [.int (nI k)] [] (c_X3_at _ G M p k hp (by omega)) gX3_shift_X3_at rfl (by decide +kernel) (by decide) (by decide) (kd_lt hp (by decide)) (cell_k hp) rfl rfl rfl (Nat.le_of_ble_eq_true rfl) dX3_shift_2 ?_
  refine wl_iload_n C 3 dX3_shift_5 rfl rfl ?_
  refine wl_iload_n C 2 dX3_shift_6 rfl rfl ?_
  refine wl_callNp (n := 1) C [.int (nI d)] [.int (nI t), .ref (G.2.2.1 (bo p k))] (c_X4_stepX _ G M d hd) gX3_shift_X4_stepX_n71 rfl ini4 sta71 (fun h => h.2.2.2.1) (by decide +kernel) (by decide) (by decide) rfl rfl (Nat.le_of_ble_eq_true rfl) dX3_shift_7 ?_
  refine wl_imul C dX3_shift_10 ?_
  refine wl_iload_n C 3 dX3_shift_11 rfl rfl ?_
  refine wl_iload_n C 2 dX3_shift_12 rfl rfl ?_
  refine wl_callNp (n := 1) C [.int (nI d)] [.int (nI t), .int ((nI t) * (stX d)), .ref (G.2.2.1 (bo p k))] (c_X4_stepY _ G M d hd) gX3_shift_X4_stepY_n74 rfl ini4 sta74 (fun h => h.2.2.2.2) (by decide +kernel) (by decide) (by decide) rfl rfl (Nat.le_of_ble_eq_true rfl) dX3_shift_13 ?_
  refine wl_imul C dX3_shift_16 ?_
  refine wl_callVv (i := bo p k) (n := 2) C [.int ((nI t) * (stX d)), .int ((nI t) * (stY d))] [] (c_X0_move _ G M (bo p k) (s.2.2.2 k) (kd_bo hp (by omega)) (hs.2.2.2.2 k hk) ((nI t) * (stX d)) ((nI t) * (stY d))) gX3_shift_X0_move rfl (by decide +kernel) (by decide) (by decide) (kd_lt (kd_bo hp (by omega)) (by decide)) (cell_k (kd_bo hp (by omega))) rfl rfl rfl (Nat.le_of_ble_eq_true rfl) dX3_shift_17 (fun M1 eM1 => ?_)
  exact hret _ 20 _ dX3_shift_20 (⟨hs.set hk eM1.2 eM1.1, eM1.2⟩)
set_option maxHeartbeats 4000000 in
set_option maxRecDepth 100000 in
theorem c_X3_shifted (l : Launch) (G : Gw) (M : Mem) (p : Nat) (s : St) (hp : kd p = 3) (hs : Pk M p s) (k d t : Nat) (hk : k < s.1) (hd : d < 8) : Cr l G yX3_shifted wsX3_shifted 2 46 [.ref (G.2.2.1 p), .int (nI k), .int (nI d), .int (nI t)] M (fun i M' => i = bo p 9 ∧ Bd M' (bo p 9) (shP (s.2.2.2 k) d t) ∧ Fr (bo p 9) M M') := by
  refine Cr.of (cc := cX3_shifted) (maxL := 4) (ret := (some (.object "JammedBodies$Body"))) (by decide +kernel) rfl (Nat.le_of_ble_eq_true rfl) ?_
  intro x sz hl0 hr C
  subst hl0
  have C : CX x G (AA G sz) RX3 cX3_shifted 4 wsX3_shifted 2 46 0 0 := C
  have hret : ∀ (M0 : Mem) (pc0 : Nat) (L0 : List (Nat × Value)) (ri0 : Nat), decode cX3_shifted pc0 = .ok (.areturn, 1) → (fun i M' => i = bo p 9 ∧ Bd M' (bo p 9) (shP (s.2.2.2 k) d t) ∧ Fr (bo p 9) M M') ri0 M0 → WL x G (AA G sz) 4 0 0 (xQ x (va_Qr (fun u : Nat × Mem => (fun i M' => i = bo p 9 ∧ Bd M' (bo p 9) (shP (s.2.2.2 k) d t) ∧ Fr (bo p 9) M M') u.1 u.2) (fun u a t => a = G.2.2.1 u.1 ∧ WE G u.2 t) (AA G sz)) (AA G sz)) M0 pc0 L0 [.ref (G.2.2.1 ri0)] := fun M0 pc0 L0 ri0 hd hp => wl_aret (post := (fun i M' => i = bo p 9 ∧ Bd M' (bo p 9) (shP (s.2.2.2 k) d t) ∧ Fr (bo p 9) M M')) C hr hd hp
  show WL x G (AA G sz) 4 0 0 (xQ x (va_Qr (fun u : Nat × Mem => (fun i M' => i = bo p 9 ∧ Bd M' (bo p 9) (shP (s.2.2.2 k) d t) ∧ Fr (bo p 9) M M') u.1 u.2) (fun u a t => a = G.2.2.1 u.1 ∧ WE G u.2 t) (AA G sz)) (AA G sz)) M 0 [(0, .ref (G.2.2.1 p)), (1, .int (nI k)), (2, .int (nI d)), (3, .int (nI t))] []
  generalize (xQ x (va_Qr (fun u : Nat × Mem => (fun i M' => i = bo p 9 ∧ Bd M' (bo p 9) (shP (s.2.2.2 k) d t) ∧ Fr (bo p 9) M M') u.1 u.2) (fun u a t => a = G.2.2.1 u.1 ∧ WE G u.2 t) (AA G sz)) (AA G sz)) = QQ at hret ⊢
  have in3 : ∀ w ∈ wsX30, w ∈ wsX3_shifted := by decide +kernel
  have fl22 : Jvm.Cond.fieldLink RX3 22 "JammedBodies$Packing" "ghost" "LJammedBodies$Body;" ∈ wsX3_shifted := by decide +kernel
  have ini4 : Jvm.Cond.initialized RX4 ∈ wsX3_shifted := by decide +kernel
  have sta71 : Jvm.Cond.static yX4_stepX ∈ wsX3_shifted := by decide +kernel
  have sta74 : Jvm.Cond.static yX4_stepY ∈ wsX3_shifted := by decide +kernel
  have h8 := hs.2.2.2.1
  refine wl_aload_n C 0 dX3_shifted_0 rfl rfl ?_
  refine wl_get_Packing_ghost (i := p) C hp in3 fl22 dX3_shifted_1 ?_
  refine wl_aload_n C 0 dX3_shifted_4 rfl rfl ?_
  refine wl_iload_n C 1 dX3_shifted_5 rfl rfl ?_
  refine wl_callVa (i := p) (n := 1) C [.int (nI k)] [.ref (G.2.2.1 (bo p 9))] (c_X3_at _ G M p k hp (by omega)) gX3_shifted_X3_at rfl (by decide +kernel) (by decide) (by decide) (kd_lt hp (by decide)) (cell_k hp) rfl rfl rfl (Nat.le_of_ble_eq_true rfl) dX3_shifted_6 ?_
  refine wl_callVv (i := bo p 9) (n := 1) C [.ref (G.2.2.1 (bo p k))] [] (c_X0_copyFrom _ G M (bo p 9) (bo p k) (s.2.2.2 k) 0 (kd_bo (k := 9) hp (by omega)) (kd_bo hp (by omega)) (hs.2.2.2.2 k (by omega)) (by unfold bo; omega)) gX3_shifted_X0_copyFrom rfl (by decide +kernel) (by decide) (by decide) (kd_lt (kd_bo hp (by omega)) (by decide)) (cell_k (kd_bo hp (by omega))) rfl rfl rfl (Nat.le_of_ble_eq_true rfl) dX3_shifted_9 (fun M1 e1 => ?_)
  refine wl_aload_n C 0 dX3_shifted_12 rfl rfl ?_
  refine wl_get_Packing_ghost (i := p) C hp in3 fl22 dX3_shifted_13 ?_
  refine wl_iload_n C 3 dX3_shifted_16 rfl rfl ?_
  refine wl_iload_n C 2 dX3_shifted_17 rfl rfl ?_
  refine wl_callNp (n := 1) C [.int (nI d)] [.int (nI t), .ref (G.2.2.1 (bo p 9))] (c_X4_stepX _ G M1 d hd) gX3_shifted_X4_stepX_n71 rfl ini4 sta71 (fun h => h.2.2.2.1) (by decide +kernel) (by decide) (by decide) rfl rfl (Nat.le_of_ble_eq_true rfl) dX3_shifted_18 ?_
  refine wl_imul C dX3_shifted_21 ?_
  refine wl_iload_n C 3 dX3_shifted_22 rfl rfl ?_
  refine wl_iload_n C 2 dX3_shifted_23 rfl rfl ?_
  refine wl_callNp (n := 1) C [.int (nI d)] [.int (nI t), .int ((nI t) * (stX d)), .ref (G.2.2.1 (bo p 9))] (c_X4_stepY _ G M1 d hd) gX3_shifted_X4_stepY_n74 rfl ini4 sta74 (fun h => h.2.2.2.2) (by decide +kernel) (by decide) (by decide) rfl rfl (Nat.le_of_ble_eq_true rfl) dX3_shifted_24 ?_
  refine wl_imul C dX3_shifted_27 ?_
  refine wl_callVv (i := bo p 9) (n := 2) C [.int ((nI t) * (stX d)), .int ((nI t) * (stY d))] [] (c_X0_move _ G M1 (bo p 9) (s.2.2.2 k) (kd_bo (k := 9) hp (by omega)) e1.1 ((nI t) * (stX d)) ((nI t) * (stY d))) gX3_shifted_X0_move rfl (by decide +kernel) (by decide) (by decide) (kd_lt (kd_bo hp (by omega)) (by decide)) (cell_k (kd_bo hp (by omega))) rfl rfl rfl (Nat.le_of_ble_eq_true rfl) dX3_shifted_28 (fun M2 eM2 => ?_)
  refine wl_aload_n C 0 dX3_shifted_31 rfl rfl ?_
  refine wl_get_Packing_ghost (i := p) C hp in3 fl22 dX3_shifted_32 ?_
  exact hret _ 35 _ (bo p 9) dX3_shifted_35 (⟨rfl, eM2.1, e1.2.tr eM2.2⟩)
set_option maxHeartbeats 4000000 in
set_option maxRecDepth 100000 in
theorem c_X3_settleAll (l : Launch) (G : Gw) (M : Mem) (p : Nat) (s : St) (hp : kd p = 3) (hs : Pk M p s) (hW : WfS s) (d : Nat) (hd : d < 8) : Ci l G yX3_settleAll wsX3_settleAll 5 125 [.ref (G.2.2.1 p), .int (nI d)] M (fun r M' => r = nI (seS d 1000 s 0).2 ∧ Pk M' p (seS d 1000 s 0).1 ∧ FrP p M M') := by
  refine Ci.of (cc := cX3_settleAll) (maxL := 7) (ret := (some .int)) (by decide +kernel) rfl (Nat.le_of_ble_eq_true rfl) ?_
  intro x sz hl0 hr C
  subst hl0
  have C : CX x G (AA G sz) RX3 cX3_settleAll 7 wsX3_settleAll 5 125 0 0 := C
  have hret : ∀ (M0 : Mem) (pc0 : Nat) (L0 : List (Nat × Value)) (rv0 : Int32), decode cX3_settleAll pc0 = .ok (.ireturn, 1) → (fun r M' => r = nI (seS d 1000 s 0).2 ∧ Pk M' p (seS d 1000 s 0).1 ∧ FrP p M M') rv0 M0 → WL x G (AA G sz) 7 0 0 (xQ x (va_Qi (fun r M' => r = nI (seS d 1000 s 0).2 ∧ Pk M' p (seS d 1000 s 0).1 ∧ FrP p M M') (WE G) (AA G sz)) (AA G sz)) M0 pc0 L0 [.int rv0] := fun M0 pc0 L0 rv0 hd hp => wl_iret (post := (fun r M' => r = nI (seS d 1000 s 0).2 ∧ Pk M' p (seS d 1000 s 0).1 ∧ FrP p M M')) C hr hd hp
  show WL x G (AA G sz) 7 0 0 (xQ x (va_Qi (fun r M' => r = nI (seS d 1000 s 0).2 ∧ Pk M' p (seS d 1000 s 0).1 ∧ FrP p M M') (WE G) (AA G sz)) (AA G sz)) M 0 [(0, .ref (G.2.2.1 p)), (1, .int (nI d))] []
  generalize (xQ x (va_Qi (fun r M' => r = nI (seS d 1000 s 0).2 ∧ Pk M' p (seS d 1000 s 0).1 ∧ FrP p M M') (WE G) (AA G sz)) (AA G sz)) = QQ at hret ⊢
  have in3 : ∀ w ∈ wsX30, w ∈ wsX3_settleAll := by decide +kernel
  have fl25 : Jvm.Cond.fieldLink RX3 25 "JammedBodies$Packing" "size" "I" ∈ wsX3_settleAll := by decide +kernel
  have h8 := hs.2.2.2.1
  refine wl_iconst (v := nI 0) C dX3_settleAll_0 (by first | decide | rfl) ?_
  refine wl_istore_n (L' := [(2, .int (nI 0)), (0, .ref (G.2.2.1 p)), (1, .int (nI d))]) C dX3_settleAll_1 rfl (by decide) rfl ?_
  refine wl_iconst (v := nI 0) C dX3_settleAll_2 (by first | decide | rfl) ?_
  refine wl_istore_n (L' := [(3, .int (nI 0)), (2, .int (nI 0)), (0, .ref (G.2.2.1 p)), (1, .int (nI d))]) C dX3_settleAll_3 rfl (by decide) rfl ?_
  have h4 : ∀ r, r ≤ 1000 → ∀ (s2 : St) (all : Nat) (M2 : Mem), WfS s2 ∧ Pk M2 p s2 ∧ FrP p M M2 ∧ seS d (1000 - r) s2 all = seS d 1000 s 0 → WL x G (AA G sz) 7 0 0 QQ M2 4 [(0, .ref (G.2.2.1 p)), (1, .int (nI d)), (2, .int (nI all)), (3, .int (nI r))] [] := by
    refine up_loop 1000 _ ?_
    intro r hr1 ih s2 all M2 hI
    have h82 := hI.2.1.2.2.2.1
    refine wl_iload_n C 3 dX3_settleAll_4 rfl rfl ?_
    refine wl_sipush (v := nI 1000) C dX3_settleAll_5 (by decide) ?_
    refine wl_icmp_geN C (a := r) (b := 1000) (by omega) (by omega) 77 dX3_settleAll_8 (by decide) (fun c_8 => ?_) (fun c_8 => ?_)
    · refine wl_iload_n C 2 dX3_settleAll_77 rfl rfl ?_
      exact hret _ 78 _ (nI all) dX3_settleAll_78 (⟨by rw [← hI.2.2.2, show 1000 - r = 0 by omega]; rfl, by rw [← hI.2.2.2, show 1000 - r = 0 by omega]; exact hI.2.1, hI.2.2.1⟩)
    · refine wl_iconst (v := nI (rdS s2 d 0).2) C dX3_settleAll_11 (by first | decide | rfl) ?_
      refine wl_istore (L' := [(4, .int (nI (rdS s2 d 0).2)), (0, .ref (G.2.2.1 p)), (1, .int (nI d)), (2, .int (nI all)), (3, .int (nI r))]) C dX3_settleAll_12 (by decide) rfl ?_
      refine wl_iconst (v := nI 0) C dX3_settleAll_14 (by first | decide | rfl) ?_
      refine wl_istore (L' := [(5, .int (nI 0)), (4, .int (nI (rdS s2 d 0).2)), (0, .ref (G.2.2.1 p)), (1, .int (nI d)), (2, .int (nI all)), (3, .int (nI r))]) C dX3_settleAll_15 (by decide) rfl ?_
      have h17 : ∀ k, k ≤ s2.1 → ∀ M3 : Mem, Pk M3 p (rdS s2 d k).1 ∧ FrP p M M3 → WL x G (AA G sz) 7 0 0 QQ M3 17 [(0, .ref (G.2.2.1 p)), (1, .int (nI d)), (2, .int (nI all)), (3, .int (nI r)), (4, .int (nI (rdS s2 d k).2)), (5, .int (nI k))] [] := by
        refine up_loop s2.1 _ ?_
        intro k hk ih3 M3 hI3
        have wk := rdS_wf (d := d) hI.1 k hk
        have n1 := (rdS_1 s2 d k).1
        refine wl_iload C 5 dX3_settleAll_17 rfl ?_
        refine wl_aload_n C 0 dX3_settleAll_19 rfl rfl ?_
        refine wl_get_Packing_size (i := p) (v := nI s2.1) C hp in3 fl25 (by rw [← (rdS_1 s2 d k).1]; exact hI3.1.1) dX3_settleAll_20 ?_
        refine wl_icmp_geN C (a := k) (b := s2.1) (by omega) (by omega) 59 dX3_settleAll_23 (by decide) (fun c_23 => ?_) (fun c_23 => ?_)
        · have ek : k = s2.1 := by omega
          have hle := rdS_le s2 d k
          refine wl_iload C 4 dX3_settleAll_59 rfl ?_
          refine wl_if_ne C 66 dX3_settleAll_61 (by decide) (fun c_61 => ?_) (fun c_61 => ?_)
          · refine wl_iload_n C 2 dX3_settleAll_66 rfl rfl ?_
            refine wl_iload C 4 dX3_settleAll_67 rfl ?_
            refine wl_iadd C dX3_settleAll_69 ?_
            refine wl_eqi (b := nI (all + (rdS s2 d k).2)) (nI_add _ _) ?_
            refine wl_istore_n (L' := [(2, .int (nI (all + (rdS s2 d k).2))), (0, .ref (G.2.2.1 p)), (1, .int (nI d)), (3, .int (nI r)), (4, .int (nI (rdS s2 d k).2)), (5, .int (nI k))]) C dX3_settleAll_70 rfl (by decide) rfl ?_
            refine wl_iinc1 (k := r) (L' := [(3, .int (nI (r + 1))), (2, .int (nI (all + (rdS s2 d k).2))), (0, .ref (G.2.2.1 p)), (1, .int (nI d)), (4, .int (nI (rdS s2 d k).2)), (5, .int (nI k))]) C 3 dX3_settleAll_71 rfl (by decide) rfl ?_
            refine wl_goto C 4 dX3_settleAll_74 (by decide) ?_
            refine wl_sub (L' := [(0, .ref (G.2.2.1 p)), (1, .int (nI d)), (2, .int (nI (all + (rdS s2 d k).2))), (3, .int (nI (r + 1)))]) [2, 3, 1, 0] rfl ?_
            exact ih (by omega) (rdS s2 d k).1 (all + (rdS s2 d k).2) M3 ⟨wk, hI3.1, hI3.2, by rw [← hI.2.2.2, show 1000 - r = (1000 - (r + 1)) + 1 by omega]; simp only [seS, ← ek]; rw [if_neg (fun z => c_61 (by rw [z]; rfl))]⟩
          · have hz : (rdS s2 d k).2 = 0 := Nat.eq_zero_of_not_pos (fun q => nI_ne0 q (by omega) c_61)
            have e9 : seS d 1000 s 0 = ((rdS s2 d k).1, all) := by rw [← hI.2.2.2, show 1000 - r = (1000 - (r + 1)) + 1 by omega]; simp only [seS, ← ek]; rw [if_pos hz]
            refine wl_iload_n C 2 dX3_settleAll_64 rfl rfl ?_
            exact hret _ 65 _ (nI all) dX3_settleAll_65 (⟨by rw [e9], by rw [e9]; exact hI3.1, hI3.2⟩)
        · refine wl_aload_n C 0 dX3_settleAll_26 rfl rfl ?_
          refine wl_iload C 5 dX3_settleAll_27 rfl ?_
          refine wl_iload_n C 1 dX3_settleAll_29 rfl rfl ?_
          refine wl_bipush (v := nI 60) C dX3_settleAll_30 (by decide) ?_
          refine wl_callVi (i := p) (n := 3) C [.int (nI k), .int (nI d), .int (nI 60)] [] (c_X3_freeSteps _ G M3 p (rdS s2 d k).1 hp hI3.1 wk k d 60 (by omega) (by omega) (by decide)) gX3_settleAll_X3_freeSteps rfl (by decide +kernel) (by decide) (by decide) (kd_lt hp (by decide)) (cell_k hp) rfl rfl rfl (Nat.le_of_ble_eq_true rfl) dX3_settleAll_32 (fun r4 M4 eM4 => ?_)
          obtain ⟨qM4, fM4⟩ := eM4
          subst qM4
          have lM4 := fsN_le (rdS s2 d k).1 k d 60
          have s4 : Pk M4 p (rdS s2 d k).1 := hI3.1.fr fM4 (Or.inl (by unfold bo; omega))
          refine wl_istore (L' := [(6, .int (nI (fsN (rdS s2 d k).1 k d 60))), (0, .ref (G.2.2.1 p)), (1, .int (nI d)), (2, .int (nI all)), (3, .int (nI r)), (4, .int (nI (rdS s2 d k).2)), (5, .int (nI k))]) C dX3_settleAll_35 (by decide) rfl ?_
          refine wl_aload_n C 1 dX3_settleAll_37 rfl rfl ?_
          refine wl_iload C 6 dX3_settleAll_38 rfl ?_
          refine wl_iload_n C 2 dX3_settleAll_40 rfl rfl ?_
          refine wl_iload C 0 dX3_settleAll_41 rfl ?_
          refine wl_callVv (i := p) (n := 3) C [.int (nI k), .int (nI d), .int (nI (fsN (rdS s2 d k).1 k d 60))] [] (c_X3_shift _ G M4 p (rdS s2 d k).1 hp s4 k d (fsN (rdS s2 d k).1 k d 60) (by omega) hd) gX3_settleAll_X3_shift rfl (by decide +kernel) (by decide) (by decide) (kd_lt hp (by decide)) (cell_k hp) rfl rfl rfl (Nat.le_of_ble_eq_true rfl) dX3_settleAll_43 (fun M5 e5 => ?_)
          refine wl_iload C 5 dX3_settleAll_46 rfl ?_
          refine wl_iload C 0 dX3_settleAll_48 rfl ?_
          refine wl_iadd C dX3_settleAll_50 ?_
          refine wl_eqi (b := nI (rdS s2 d (k + 1)).2) (nI_add _ _) ?_
          refine wl_istore (L' := [(4, .int (nI (rdS s2 d (k + 1)).2)), (6, .int (nI (fsN (rdS s2 d k).1 k d 60))), (0, .ref (G.2.2.1 p)), (1, .int (nI d)), (2, .int (nI all)), (3, .int (nI r)), (5, .int (nI k))]) C dX3_settleAll_51 (by decide) rfl ?_
          refine wl_iinc1 (k := k) (L' := [(5, .int (nI (k + 1))), (4, .int (nI (rdS s2 d (k + 1)).2)), (6, .int (nI (fsN (rdS s2 d k).1 k d 60))), (0, .ref (G.2.2.1 p)), (1, .int (nI d)), (2, .int (nI all)), (3, .int (nI r))]) C 6 dX3_settleAll_53 rfl (by decide) rfl ?_
          refine wl_goto C 17 dX3_settleAll_56 (by decide) ?_
          refine wl_sub (L' := [(0, .ref (G.2.2.1 p)), (1, .int (nI d)), (2, .int (nI all)), (3, .int (nI r)), (4, .int (nI (rdS s2 d (k + 1)).2)), (5, .int (nI (k + 1)))]) [3, 4, 5, 6, 1, 0] rfl ?_
          exact ih3 (by omega) M5 ⟨e5.1, hI3.2.tr ((fM4.P (by omega)).tr (e5.2.P (by omega)))⟩
      refine wl_sub (L' := [(0, .ref (G.2.2.1 p)), (1, .int (nI d)), (2, .int (nI all)), (3, .int (nI r)), (4, .int (nI (rdS s2 d 0).2)), (5, .int (nI 0))]) [2, 3, 4, 5, 1, 0] rfl ?_
      exact h17 0 (Nat.zero_le _) M2 ⟨hI.2.1, hI.2.2.1⟩
  refine wl_sub (L' := [(0, .ref (G.2.2.1 p)), (1, .int (nI d)), (2, .int (nI 0)), (3, .int (nI 0))]) [2, 3, 1, 0] rfl ?_
  exact h4 0 (Nat.zero_le _) s 0 M ⟨hW, hs, FrP.rf, rfl⟩
