set_option maxHeartbeats 4000000 in
set_option maxRecDepth 100000 in
theorem c_X5_overlapped (l : Launch) (G : Gw) (M : Mem) (s : St) (b : Nat) (P : Py) (hs : PkX (M 233) s b) (hb : b ≤ 8) (hB : BdM (M 233) b P) (hp0 : 0 < P.1) (hq0 : ∀ k, k < s.1 → 0 < (s.2.2.2 k).1) : Cp l G yX5_overlapped wsX5_overlapped 6 141 [.ref (G.2.2.1 232), .int (nI b)] M (ovS s P (nI b)) := by
  refine Ci.of (cc := cX5_overlapped) (maxL := 4) (ret := (some .int)) (by decide +kernel) rfl (Nat.le_of_ble_eq_true rfl) ?_
  intro x sz hl0 hr C
  subst hl0
  have C : CX x G (AA G sz) RX5 cX5_overlapped 4 wsX5_overlapped 6 141 0 0 := C
  have hret : ∀ (M0 : Mem) (pc0 : Nat) (L0 : List (Nat × Value)) (rv0 : Int32), decode cX5_overlapped pc0 = .ok (.ireturn, 1) → (fun (r : Int32) (M' : Mem) => r = ovS s P (nI b) ∧ M' = M) rv0 M0 → WL x G (AA G sz) 4 0 0 (xQ x (va_Qi (fun (r : Int32) (M' : Mem) => r = ovS s P (nI b) ∧ M' = M) (WE G) (AA G sz)) (AA G sz)) M0 pc0 L0 [.int rv0] := fun M0 pc0 L0 rv0 hd hp => wl_iret (post := (fun (r : Int32) (M' : Mem) => r = ovS s P (nI b) ∧ M' = M)) C hr hd hp
  show WL x G (AA G sz) 4 0 0 (xQ x (va_Qi (fun (r : Int32) (M' : Mem) => r = ovS s P (nI b) ∧ M' = M) (WE G) (AA G sz)) (AA G sz)) M 0 [(0, .ref (G.2.2.1 232)), (1, .int (nI b))] []
  generalize (xQ x (va_Qi (fun (r : Int32) (M' : Mem) => r = ovS s P (nI b) ∧ M' = M) (WE G) (AA G sz)) (AA G sz)) = QQ at hret ⊢
  have in5 : ∀ w ∈ wsX50, w ∈ wsX5_overlapped := by decide +kernel
  have fl7 : Jvm.Cond.fieldLink RX5 7 "JammedBodiesModel" "all" "[I" ∈ wsX5_overlapped := by decide +kernel
  have h8 := hs.r
  refine wl_iconst (v := bsT (ovF s P (nI b)) 0) C dX5_overlapped_0 (by first | decide | rfl) ?_
  refine wl_istore_n (L' := [(2, .int (bsT (ovF s P (nI b)) 0)), (0, .ref (G.2.2.1 232)), (1, .int (nI b))]) C dX5_overlapped_1 rfl (by decide) rfl ?_
  refine wl_iconst (v := nI 0) C dX5_overlapped_2 (by first | decide | rfl) ?_
  refine wl_istore_n (L' := [(3, .int (nI 0)), (2, .int (bsT (ovF s P (nI b)) 0)), (0, .ref (G.2.2.1 232)), (1, .int (nI b))]) C dX5_overlapped_3 rfl (by decide) rfl ?_
  have h4 : ∀ k, k ≤ s.1 → WL x G (AA G sz) 4 0 0 QQ M 4 [(0, .ref (G.2.2.1 232)), (1, .int (nI b)), (2, .int (bsT (ovF s P (nI b)) k)), (3, .int (nI k))] [] := by
    refine up_loop (s.1) _ ?_
    intro k hk1 ih
    refine wl_iload_n C 3 dX5_overlapped_4 rfl rfl ?_
    refine wl_aload_n C 0 dX5_overlapped_5 rfl rfl ?_
    refine wl_get_Model_all (i := 232) C (by decide) in5 fl7 dX5_overlapped_6 ?_
    refine wl_iconst (v := 2) C dX5_overlapped_9 (by decide) ?_
    refine wl_iald (j := 2) (n := 120) (v := nI s.1) C (by decide) (cell_k (k := 10) (by decide)) (rfl) (by decide) (by decide) hs.2.2.1 dX5_overlapped_10 ?_
    refine wl_icmp_geN C (a := k) (b := s.1) (by omega) (by omega) 45 dX5_overlapped_11 (by decide) (fun c_11 => ?_) (fun c_11 => ?_)
    · refine wl_iload_n C 2 dX5_overlapped_45 rfl rfl ?_
      exact hret _ 46 _ (bsT (ovF s P (nI b)) k) dX5_overlapped_46 (⟨by unfold ovS; rw [show s.1 = k by omega], rfl⟩)
    · refine wl_iload_n C 2 dX5_overlapped_14 rfl rfl ?_
      refine wl_iload_n C 3 dX5_overlapped_15 rfl rfl ?_
      refine wl_iload_n C 1 dX5_overlapped_16 rfl rfl ?_
      suffices hJ17 : WL x G (AA G sz) 4 0 0 QQ M 37 [(0, .ref (G.2.2.1 232)), (1, .int (nI b)), (2, .int (bsT (ovF s P (nI b)) k)), (3, .int (nI k))] [.int (if k = b then (0 : Int32) else if ((pSep P (s.2.2.2 k) 0).isSome || (pSep (s.2.2.2 k) P 0).isSome) = true then (0 : Int32) else 1 <<< ((nI k) &&& 31)), .int (bsT (ovF s P (nI b)) k)] by
        refine wl_icmp_eqN C (a := k) (b := b) (by omega) (by omega) 36 dX5_overlapped_17 (by decide) (fun c_17 => ?_) (fun c_17 => ?_)
        · rw [if_pos c_17] at hJ17
          refine wl_iconst (v := 0) C dX5_overlapped_36 (by decide) ?_
          exact hJ17
        · rw [if_neg c_17] at hJ17
          refine wl_aload_n C 0 dX5_overlapped_20 rfl rfl ?_
          refine wl_iload_n C 1 dX5_overlapped_21 rfl rfl ?_
          refine wl_iload_n C 3 dX5_overlapped_22 rfl rfl ?_
          refine wl_iconst (v := 0) C dX5_overlapped_23 (by decide) ?_
          refine wl_callVp (i := 232) (n := 3) C [.int (nI b), .int (nI k), .int 0] [.int (bsT (ovF s P (nI b)) k)] (c_X5_isParted _ G M b k P (s.2.2.2 k) hb (by omega) hB (hs.2.2.2.2 k (by omega) c_17) hp0 (hq0 k (by omega)) 0) gX5_overlapped_X5_isParted rfl (by decide +kernel) (by decide) (by decide) (kd_lt (k := 5) (by decide) (by decide)) (cell_k (k := 5) (by decide)) rfl rfl rfl (Nat.le_of_ble_eq_true rfl) dX5_overlapped_24 ?_
          suffices hJ27 : WL x G (AA G sz) 4 0 0 QQ M 37 [(0, .ref (G.2.2.1 232)), (1, .int (nI b)), (2, .int (bsT (ovF s P (nI b)) k)), (3, .int (nI k))] [.int (if ((pSep P (s.2.2.2 k) 0).isSome || (pSep (s.2.2.2 k) P 0).isSome) = true then (0 : Int32) else 1 <<< ((nI k) &&& 31)), .int (bsT (ovF s P (nI b)) k)] by
            refine wl_if_neB C 36 dX5_overlapped_27 (by decide) (fun c_27 => ?_) (fun c_27 => ?_)
            · rw [if_pos c_27] at hJ27
              refine wl_iconst (v := 0) C dX5_overlapped_36 (by decide) ?_
              exact hJ27
            · rw [if_neg (by rw [c_27]; exact Bool.false_ne_true)] at hJ27
              refine wl_iconst (v := 1) C dX5_overlapped_30 (by decide) ?_
              refine wl_iload_n C 3 dX5_overlapped_31 rfl rfl ?_
              refine wl_ishl C dX5_overlapped_32 ?_
              refine wl_goto C 37 dX5_overlapped_33 (by decide) ?_
              exact hJ27
          exact hJ17
      refine wl_ior C dX5_overlapped_37 ?_
      refine wl_eqi (b := bsT (ovF s P (nI b)) (k + 1)) (ov_or hb (by omega)) ?_
      refine wl_istore_n (L' := [(2, .int (bsT (ovF s P (nI b)) (k + 1))), (0, .ref (G.2.2.1 232)), (1, .int (nI b)), (3, .int (nI k))]) C dX5_overlapped_38 rfl (by decide) rfl ?_
      refine wl_iinc1 (k := k) (L' := [(3, .int (nI (k + 1))), (2, .int (bsT (ovF s P (nI b)) (k + 1))), (0, .ref (G.2.2.1 232)), (1, .int (nI b))]) C 3 dX5_overlapped_39 rfl (by decide) rfl ?_
      refine wl_goto C 4 dX5_overlapped_42 (by decide) ?_
      refine wl_sub (L' := [(0, .ref (G.2.2.1 232)), (1, .int (nI b)), (2, .int (bsT (ovF s P (nI b)) (k + 1))), (3, .int (nI (k + 1)))]) [2, 3, 1, 0] rfl ?_
      exact ih (by omega)
  refine wl_sub (L' := [(0, .ref (G.2.2.1 232)), (1, .int (nI b)), (2, .int (bsT (ovF s P (nI b)) 0)), (3, .int (nI 0))]) [2, 3, 1, 0] rfl ?_
  exact h4 0 (Nat.zero_le _)
set_option maxHeartbeats 4000000 in
set_option maxRecDepth 100000 in
theorem c_X5_touched (l : Launch) (G : Gw) (M : Mem) (s : St) (hs : PkM (M 233) s) (hW : WfS s) (b : Nat) (hb : b < s.1) : Cp l G yX5_touched wsX5_touched 7 163 [.ref (G.2.2.1 232), .int (nI b)] M (tcS s b) := by
  refine Ci.of (cc := cX5_touched) (maxL := 4) (ret := (some .int)) (by decide +kernel) rfl (Nat.le_of_ble_eq_true rfl) ?_
  intro x sz hl0 hr C
  subst hl0
  have C : CX x G (AA G sz) RX5 cX5_touched 4 wsX5_touched 7 163 0 0 := C
  have hret : ∀ (M0 : Mem) (pc0 : Nat) (L0 : List (Nat × Value)) (rv0 : Int32), decode cX5_touched pc0 = .ok (.ireturn, 1) → (fun (r : Int32) (M' : Mem) => r = tcS s b ∧ M' = M) rv0 M0 → WL x G (AA G sz) 4 0 0 (xQ x (va_Qi (fun (r : Int32) (M' : Mem) => r = tcS s b ∧ M' = M) (WE G) (AA G sz)) (AA G sz)) M0 pc0 L0 [.int rv0] := fun M0 pc0 L0 rv0 hd hp => wl_iret (post := (fun (r : Int32) (M' : Mem) => r = tcS s b ∧ M' = M)) C hr hd hp
  show WL x G (AA G sz) 4 0 0 (xQ x (va_Qi (fun (r : Int32) (M' : Mem) => r = tcS s b ∧ M' = M) (WE G) (AA G sz)) (AA G sz)) M 0 [(0, .ref (G.2.2.1 232)), (1, .int (nI b))] []
  generalize (xQ x (va_Qi (fun (r : Int32) (M' : Mem) => r = tcS s b ∧ M' = M) (WE G) (AA G sz)) (AA G sz)) = QQ at hret ⊢
  have in5 : ∀ w ∈ wsX50, w ∈ wsX5_touched := by decide +kernel
  have fl7 : Jvm.Cond.fieldLink RX5 7 "JammedBodiesModel" "all" "[I" ∈ wsX5_touched := by decide +kernel
  have h8 := hs.r
  refine wl_iconst (v := bsT (tcF s b) 0) C dX5_touched_0 (by first | decide | rfl) ?_
  refine wl_istore_n (L' := [(2, .int (bsT (tcF s b) 0)), (0, .ref (G.2.2.1 232)), (1, .int (nI b))]) C dX5_touched_1 rfl (by decide) rfl ?_
  refine wl_iconst (v := nI 0) C dX5_touched_2 (by first | decide | rfl) ?_
  refine wl_istore_n (L' := [(3, .int (nI 0)), (2, .int (bsT (tcF s b) 0)), (0, .ref (G.2.2.1 232)), (1, .int (nI b))]) C dX5_touched_3 rfl (by decide) rfl ?_
  have h4 : ∀ k, k ≤ s.1 → WL x G (AA G sz) 4 0 0 QQ M 4 [(0, .ref (G.2.2.1 232)), (1, .int (nI b)), (2, .int (bsT (tcF s b) k)), (3, .int (nI k))] [] := by
    refine up_loop (s.1) _ ?_
    intro k hk1 ih
    refine wl_iload_n C 3 dX5_touched_4 rfl rfl ?_
    refine wl_aload_n C 0 dX5_touched_5 rfl rfl ?_
    refine wl_get_Model_all (i := 232) C (by decide) in5 fl7 dX5_touched_6 ?_
    refine wl_iconst (v := 2) C dX5_touched_9 (by decide) ?_
    refine wl_iald (j := 2) (n := 120) (v := nI s.1) C (by decide) (cell_k (k := 10) (by decide)) (rfl) (by decide) (by decide) hs.2.2.1 dX5_touched_10 ?_
    refine wl_icmp_geN C (a := k) (b := s.1) (by omega) (by omega) 44 dX5_touched_11 (by decide) (fun c_11 => ?_) (fun c_11 => ?_)
    · refine wl_iload_n C 2 dX5_touched_44 rfl rfl ?_
      exact hret _ 45 _ (bsT (tcF s b) k) dX5_touched_45 (⟨by unfold tcS; rw [show s.1 = k by omega], rfl⟩)
    · refine wl_iload_n C 2 dX5_touched_14 rfl rfl ?_
      refine wl_iload_n C 3 dX5_touched_15 rfl rfl ?_
      refine wl_iload_n C 1 dX5_touched_16 rfl rfl ?_
      suffices hJ17 : WL x G (AA G sz) 4 0 0 QQ M 36 [(0, .ref (G.2.2.1 232)), (1, .int (nI b)), (2, .int (bsT (tcF s b) k)), (3, .int (nI k))] [.int (if k = b then (0 : Int32) else if (tch (s.2.2.2 b) (s.2.2.2 k)) = true then 1 <<< ((nI k) &&& 31) else (0 : Int32)), .int (bsT (tcF s b) k)] by
        refine wl_icmp_eqN C (a := k) (b := b) (by omega) (by omega) 35 dX5_touched_17 (by decide) (fun c_17 => ?_) (fun c_17 => ?_)
        · rw [if_pos c_17] at hJ17
          refine wl_iconst (v := 0) C dX5_touched_35 (by decide) ?_
          exact hJ17
        · rw [if_neg c_17] at hJ17
          refine wl_aload_n C 0 dX5_touched_20 rfl rfl ?_
          refine wl_iload_n C 1 dX5_touched_21 rfl rfl ?_
          refine wl_iload_n C 3 dX5_touched_22 rfl rfl ?_
          refine wl_callVp (i := 232) (n := 2) C [.int (nI b), .int (nI k)] [.int (bsT (tcF s b) k)] (c_X5_touch _ G M b k (s.2.2.2 b) (s.2.2.2 k) (by omega) (by omega) (hs.2.2.2.2 b hb) (hs.2.2.2.2 k (by omega)) (by have := (hW.2 b (by omega)).1; omega) (by have := (hW.2 k (by omega)).1; omega)) gX5_touched_X5_touch rfl (by decide +kernel) (by decide) (by decide) (kd_lt (k := 5) (by decide) (by decide)) (cell_k (k := 5) (by decide)) rfl rfl rfl (Nat.le_of_ble_eq_true rfl) dX5_touched_23 ?_
          suffices hJ26 : WL x G (AA G sz) 4 0 0 QQ M 36 [(0, .ref (G.2.2.1 232)), (1, .int (nI b)), (2, .int (bsT (tcF s b) k)), (3, .int (nI k))] [.int (if (tch (s.2.2.2 b) (s.2.2.2 k)) = true then 1 <<< ((nI k) &&& 31) else (0 : Int32)), .int (bsT (tcF s b) k)] by
            refine wl_if_eqB C 35 dX5_touched_26 (by decide) (fun c_26 => ?_) (fun c_26 => ?_)
            · rw [if_neg (by rw [c_26]; exact Bool.false_ne_true)] at hJ26
              refine wl_iconst (v := 0) C dX5_touched_35 (by decide) ?_
              exact hJ26
            · rw [if_pos c_26] at hJ26
              refine wl_iconst (v := 1) C dX5_touched_29 (by decide) ?_
              refine wl_iload_n C 3 dX5_touched_30 rfl rfl ?_
              refine wl_ishl C dX5_touched_31 ?_
              refine wl_goto C 36 dX5_touched_32 (by decide) ?_
              exact hJ26
          exact hJ17
      refine wl_ior C dX5_touched_36 ?_
      refine wl_eqi (b := bsT (tcF s b) (k + 1)) (tc_or) ?_
      refine wl_istore_n (L' := [(2, .int (bsT (tcF s b) (k + 1))), (0, .ref (G.2.2.1 232)), (1, .int (nI b)), (3, .int (nI k))]) C dX5_touched_37 rfl (by decide) rfl ?_
      refine wl_iinc1 (k := k) (L' := [(3, .int (nI (k + 1))), (2, .int (bsT (tcF s b) (k + 1))), (0, .ref (G.2.2.1 232)), (1, .int (nI b))]) C 3 dX5_touched_38 rfl (by decide) rfl ?_
      refine wl_goto C 4 dX5_touched_41 (by decide) ?_
      refine wl_sub (L' := [(0, .ref (G.2.2.1 232)), (1, .int (nI b)), (2, .int (bsT (tcF s b) (k + 1))), (3, .int (nI (k + 1)))]) [2, 3, 1, 0] rfl ?_
      exact ih (by omega)
  refine wl_sub (L' := [(0, .ref (G.2.2.1 232)), (1, .int (nI b)), (2, .int (bsT (tcF s b) 0)), (3, .int (nI 0))]) [2, 3, 1, 0] rfl ?_
  exact h4 0 (Nat.zero_le _)
set_option maxHeartbeats 4000000 in
set_option maxRecDepth 100000 in
theorem c_X5_extreme (l : Launch) (G : Gw) (M : Mem) (b fr : Nat) (sg : Int32) (P : Py) (f : Nat → Int32) (hb : b ≤ 8) (hB : BdM (M 233) b P) (h0 : 0 < P.1) (hfr : fr + 54 ≤ 120) (hf : ∀ k, k < P.1 → M 233 (fr + 6 * b + k) = f k) : Cp l G yX5_extreme wsX5_extreme 1 21 [.ref (G.2.2.1 232), .int (nI b), .int (nI fr), .int sg] M (sg * mxT (fun k => sg * f k) (P.1 - 1)) := by
  refine Ci.of (cc := cX5_extreme) (maxL := 7) (ret := (some .int)) (by decide +kernel) rfl (Nat.le_of_ble_eq_true rfl) ?_
  intro x sz hl0 hr C
  subst hl0
  have C : CX x G (AA G sz) RX5 cX5_extreme 7 wsX5_extreme 1 21 0 0 := C
  have hret : ∀ (M0 : Mem) (pc0 : Nat) (L0 : List (Nat × Value)) (rv0 : Int32), decode cX5_extreme pc0 = .ok (.ireturn, 1) → (fun (r : Int32) (M' : Mem) => r = sg * mxT (fun k => sg * f k) (P.1 - 1) ∧ M' = M) rv0 M0 → WL x G (AA G sz) 7 0 0 (xQ x (va_Qi (fun (r : Int32) (M' : Mem) => r = sg * mxT (fun k => sg * f k) (P.1 - 1) ∧ M' = M) (WE G) (AA G sz)) (AA G sz)) M0 pc0 L0 [.int rv0] := fun M0 pc0 L0 rv0 hd hp => wl_iret (post := (fun (r : Int32) (M' : Mem) => r = sg * mxT (fun k => sg * f k) (P.1 - 1) ∧ M' = M)) C hr hd hp
  show WL x G (AA G sz) 7 0 0 (xQ x (va_Qi (fun (r : Int32) (M' : Mem) => r = sg * mxT (fun k => sg * f k) (P.1 - 1) ∧ M' = M) (WE G) (AA G sz)) (AA G sz)) M 0 [(0, .ref (G.2.2.1 232)), (1, .int (nI b)), (2, .int (nI fr)), (3, .int sg)] []
  generalize (xQ x (va_Qi (fun (r : Int32) (M' : Mem) => r = sg * mxT (fun k => sg * f k) (P.1 - 1) ∧ M' = M) (WE G) (AA G sz)) (AA G sz)) = QQ at hret ⊢
  have in5 : ∀ w ∈ wsX50, w ∈ wsX5_extreme := by decide +kernel
  have fl7 : Jvm.Cond.fieldLink RX5 7 "JammedBodiesModel" "all" "[I" ∈ wsX5_extreme := by decide +kernel
  have h7 := hB.2.1
  refine wl_iload_n C 3 dX5_extreme_0 rfl rfl ?_
  refine wl_aload_n C 0 dX5_extreme_1 rfl rfl ?_
  refine wl_get_Model_all (i := 232) C (by decide) in5 fl7 dX5_extreme_2 ?_
  refine wl_iload_n C 2 dX5_extreme_5 rfl rfl ?_
  refine wl_bipush (v := 6) C dX5_extreme_6 (by decide) ?_
  refine wl_iload_n C 1 dX5_extreme_8 rfl rfl ?_
  refine wl_imul C dX5_extreme_9 ?_
  refine wl_iadd C dX5_extreme_10 ?_
  refine wl_iald (j := fr + 6 * b) (n := 120) (v := f 0) C (by decide) (cell_k (k := 10) (by decide)) (ixB fr b) (by omega) (by decide) (hf 0 h0) dX5_extreme_11 ?_
  refine wl_imul C dX5_extreme_12 ?_
  refine wl_eqi (b := mxT (fun k => sg * f k) 0) (rfl) ?_
  refine wl_istore (L' := [(4, .int (mxT (fun k => sg * f k) 0)), (0, .ref (G.2.2.1 232)), (1, .int (nI b)), (2, .int (nI fr)), (3, .int sg)]) C dX5_extreme_13 (by decide) rfl ?_
  refine wl_iconst (v := nI (0 + 1)) C dX5_extreme_15 (by first | decide | rfl) ?_
  refine wl_istore (L' := [(5, .int (nI (0 + 1))), (4, .int (mxT (fun k => sg * f k) 0)), (0, .ref (G.2.2.1 232)), (1, .int (nI b)), (2, .int (nI fr)), (3, .int sg)]) C dX5_extreme_16 (by decide) rfl ?_
  have h18 : ∀ k, k ≤ P.1 - 1 → WL x G (AA G sz) 7 0 0 QQ M 18 [(0, .ref (G.2.2.1 232)), (1, .int (nI b)), (2, .int (nI fr)), (3, .int sg), (4, .int (mxT (fun k => sg * f k) k)), (5, .int (nI (k + 1)))] [] := by
    refine up_loop (P.1 - 1) _ ?_
    intro k hk ih
    refine wl_iload C 5 dX5_extreme_18 rfl ?_
    refine wl_aload_n C 0 dX5_extreme_20 rfl rfl ?_
    refine wl_iload_n C 1 dX5_extreme_21 rfl rfl ?_
    refine wl_callVp (i := 232) (n := 1) C [.int (nI b)] [.int (nI (k + 1))] (c_X5_corners _ G M b P hb hB) gX5_extreme_X5_corners rfl (by decide +kernel) (by decide) (by decide) (kd_lt (k := 5) (by decide) (by decide)) (cell_k (k := 5) (by decide)) rfl rfl rfl (Nat.le_of_ble_eq_true rfl) dX5_extreme_22 ?_
    refine wl_icmp_geN C (a := (k + 1)) (b := P.1) (by omega) (by omega) 68 dX5_extreme_25 (by decide) (fun c_25 => ?_) (fun c_25 => ?_)
    · refine wl_iload_n C 3 dX5_extreme_68 rfl rfl ?_
      refine wl_iload C 4 dX5_extreme_69 rfl ?_
      refine wl_imul C dX5_extreme_71 ?_
      exact hret _ 72 _ (sg * (mxT (fun k => sg * f k) k)) dX5_extreme_72 (⟨by rw [show P.1 - 1 = k by omega], rfl⟩)
    · refine wl_iload_n C 3 dX5_extreme_28 rfl rfl ?_
      refine wl_aload_n C 0 dX5_extreme_29 rfl rfl ?_
      refine wl_get_Model_all (i := 232) C (by decide) in5 fl7 dX5_extreme_30 ?_
      refine wl_iload_n C 2 dX5_extreme_33 rfl rfl ?_
      refine wl_bipush (v := 6) C dX5_extreme_34 (by decide) ?_
      refine wl_iload_n C 1 dX5_extreme_36 rfl rfl ?_
      refine wl_imul C dX5_extreme_37 ?_
      refine wl_iadd C dX5_extreme_38 ?_
      refine wl_iload C 5 dX5_extreme_39 rfl ?_
      refine wl_iadd C dX5_extreme_41 ?_
      refine wl_iald (j := fr + 6 * b + (k + 1)) (n := 120) (v := f (k + 1)) C (by decide) (cell_k (k := 10) (by decide)) (ixA fr b (k + 1)) (by omega) (by decide) (hf (k + 1) (by omega)) dX5_extreme_42 ?_
      refine wl_imul C dX5_extreme_43 ?_
      refine wl_eqi (b := (fun k => sg * f k) (k + 1)) (rfl) ?_
      refine wl_istore (L' := [(6, .int ((fun k => sg * f k) (k + 1))), (0, .ref (G.2.2.1 232)), (1, .int (nI b)), (2, .int (nI fr)), (3, .int sg), (4, .int (mxT (fun k => sg * f k) k)), (5, .int (nI (k + 1)))]) C dX5_extreme_44 (by decide) rfl ?_
      refine wl_iload C 0 dX5_extreme_46 rfl ?_
      refine wl_iload C 5 dX5_extreme_48 rfl ?_
      suffices hJ50 : WL x G (AA G sz) 7 0 0 QQ M 60 [(6, .int ((fun k => sg * f k) (k + 1))), (0, .ref (G.2.2.1 232)), (1, .int (nI b)), (2, .int (nI fr)), (3, .int sg), (4, .int (mxT (fun k => sg * f k) k)), (5, .int (nI (k + 1)))] [.int (if ((fun k => sg * f k) (k + 1)) ≤ (mxT (fun k => sg * f k) k) then mxT (fun k => sg * f k) k else (fun k => sg * f k) (k + 1))] by
        refine wl_icmp_le C 58 dX5_extreme_50 (by decide) (fun c_50 => ?_) (fun c_50 => ?_)
        · rw [if_pos c_50] at hJ50
          refine wl_iload C 5 dX5_extreme_58 rfl ?_
          exact hJ50
        · rw [if_neg c_50] at hJ50
          refine wl_iload C 0 dX5_extreme_53 rfl ?_
          refine wl_goto C 60 dX5_extreme_55 (by decide) ?_
          exact hJ50
      refine wl_eqi (b := mxT (fun k => sg * f k) (k + 1)) (mx_step (g := fun k => sg * f k)) ?_
      refine wl_istore (L' := [(4, .int (mxT (fun k => sg * f k) (k + 1))), (6, .int ((fun k => sg * f k) (k + 1))), (0, .ref (G.2.2.1 232)), (1, .int (nI b)), (2, .int (nI fr)), (3, .int sg), (5, .int (nI (k + 1)))]) C dX5_extreme_60 (by decide) rfl ?_
      refine wl_iinc1 (k := (k + 1)) (L' := [(5, .int (nI ((k + 1) + 1))), (4, .int (mxT (fun k => sg * f k) (k + 1))), (6, .int ((fun k => sg * f k) (k + 1))), (0, .ref (G.2.2.1 232)), (1, .int (nI b)), (2, .int (nI fr)), (3, .int sg)]) C 6 dX5_extreme_62 rfl (by decide) rfl ?_
      refine wl_goto C 18 dX5_extreme_65 (by decide) ?_
      refine wl_sub (L' := [(0, .ref (G.2.2.1 232)), (1, .int (nI b)), (2, .int (nI fr)), (3, .int sg), (4, .int (mxT (fun k => sg * f k) (k + 1))), (5, .int (nI ((k + 1) + 1)))]) [3, 4, 5, 6, 1, 0] rfl ?_
      exact ih (by omega)
  refine wl_sub (L' := [(0, .ref (G.2.2.1 232)), (1, .int (nI b)), (2, .int (nI fr)), (3, .int sg), (4, .int (mxT (fun k => sg * f k) 0)), (5, .int (nI (0 + 1)))]) [2, 3, 4, 5, 1, 0] rfl ?_
  exact h18 0 (Nat.zero_le _)
set_option maxHeartbeats 4000000 in
set_option maxRecDepth 100000 in
theorem c_X5_leastX (l : Launch) (G : Gw) (M : Mem) (b : Nat) (P : Py) (hb : b ≤ 8) (hB : BdM (M 233) b P) (hS : Smal P) : Cp l G yX5_leastX wsX5_leastX 2 47 [.ref (G.2.2.1 232), .int (nI b)] M (pL P) := by
  refine Ci.of (cc := cX5_leastX) (maxL := 2) (ret := (some .int)) (by decide +kernel) rfl (Nat.le_of_ble_eq_true rfl) ?_
  intro x sz hl0 hr C
  subst hl0
  have C : CX x G (AA G sz) RX5 cX5_leastX 2 wsX5_leastX 2 47 0 0 := C
  have hret : ∀ (M0 : Mem) (pc0 : Nat) (L0 : List (Nat × Value)) (rv0 : Int32), decode cX5_leastX pc0 = .ok (.ireturn, 1) → (fun (r : Int32) (M' : Mem) => r = pL P ∧ M' = M) rv0 M0 → WL x G (AA G sz) 2 0 0 (xQ x (va_Qi (fun (r : Int32) (M' : Mem) => r = pL P ∧ M' = M) (WE G) (AA G sz)) (AA G sz)) M0 pc0 L0 [.int rv0] := fun M0 pc0 L0 rv0 hd hp => wl_iret (post := (fun (r : Int32) (M' : Mem) => r = pL P ∧ M' = M)) C hr hd hp
  show WL x G (AA G sz) 2 0 0 (xQ x (va_Qi (fun (r : Int32) (M' : Mem) => r = pL P ∧ M' = M) (WE G) (AA G sz)) (AA G sz)) M 0 [(0, .ref (G.2.2.1 232)), (1, .int (nI b))] []
  generalize (xQ x (va_Qi (fun (r : Int32) (M' : Mem) => r = pL P ∧ M' = M) (WE G) (AA G sz)) (AA G sz)) = QQ at hret ⊢
  have h3 := hS.1
  refine wl_aload_n C 0 dX5_leastX_0 rfl rfl ?_
  refine wl_iload_n C 1 dX5_leastX_1 rfl rfl ?_
  refine wl_bipush (v := nI 12) C dX5_leastX_2 (by decide) ?_
  refine wl_iconst (v := (-1)) C dX5_leastX_4 (by decide) ?_
  refine wl_callVp (i := 232) (n := 3) C [.int (nI b), .int (nI 12), .int (-1)] [] (c_X5_extreme _ G M b 12 (-1) P P.2.1 hb hB (by omega) (by omega) hB.2.2.1) gX5_leastX_X5_extreme rfl (by decide +kernel) (by decide) (by decide) (kd_lt (k := 5) (by decide) (by decide)) (cell_k (k := 5) (by decide)) rfl rfl rfl (Nat.le_of_ble_eq_true rfl) dX5_leastX_5 ?_
  refine wl_eqi (b := pL P) (mx_neg2 (fun k hk => (hS.2 k (by omega)).1)) ?_
  exact hret _ 8 _ (pL P) dX5_leastX_8 (⟨rfl, rfl⟩)
set_option maxHeartbeats 4000000 in
set_option maxRecDepth 100000 in
theorem c_X5_greatestX (l : Launch) (G : Gw) (M : Mem) (b : Nat) (P : Py) (hb : b ≤ 8) (hB : BdM (M 233) b P) (hS : Smal P) : Cp l G yX5_greatestX wsX5_greatestX 2 47 [.ref (G.2.2.1 232), .int (nI b)] M (pR P) := by
  refine Ci.of (cc := cX5_greatestX) (maxL := 2) (ret := (some .int)) (by decide +kernel) rfl (Nat.le_of_ble_eq_true rfl) ?_
  intro x sz hl0 hr C
  subst hl0
  have C : CX x G (AA G sz) RX5 cX5_greatestX 2 wsX5_greatestX 2 47 0 0 := C
  have hret : ∀ (M0 : Mem) (pc0 : Nat) (L0 : List (Nat × Value)) (rv0 : Int32), decode cX5_greatestX pc0 = .ok (.ireturn, 1) → (fun (r : Int32) (M' : Mem) => r = pR P ∧ M' = M) rv0 M0 → WL x G (AA G sz) 2 0 0 (xQ x (va_Qi (fun (r : Int32) (M' : Mem) => r = pR P ∧ M' = M) (WE G) (AA G sz)) (AA G sz)) M0 pc0 L0 [.int rv0] := fun M0 pc0 L0 rv0 hd hp => wl_iret (post := (fun (r : Int32) (M' : Mem) => r = pR P ∧ M' = M)) C hr hd hp
  show WL x G (AA G sz) 2 0 0 (xQ x (va_Qi (fun (r : Int32) (M' : Mem) => r = pR P ∧ M' = M) (WE G) (AA G sz)) (AA G sz)) M 0 [(0, .ref (G.2.2.1 232)), (1, .int (nI b))] []
  generalize (xQ x (va_Qi (fun (r : Int32) (M' : Mem) => r = pR P ∧ M' = M) (WE G) (AA G sz)) (AA G sz)) = QQ at hret ⊢
  have h3 := hS.1
  refine wl_aload_n C 0 dX5_greatestX_0 rfl rfl ?_
  refine wl_iload_n C 1 dX5_greatestX_1 rfl rfl ?_
  refine wl_bipush (v := nI 12) C dX5_greatestX_2 (by decide) ?_
  refine wl_iconst (v := 1) C dX5_greatestX_4 (by decide) ?_
  refine wl_callVp (i := 232) (n := 3) C [.int (nI b), .int (nI 12), .int 1] [] (c_X5_extreme _ G M b 12 1 P P.2.1 hb hB (by omega) (by omega) hB.2.2.1) gX5_greatestX_X5_extreme rfl (by decide +kernel) (by decide) (by decide) (kd_lt (k := 5) (by decide) (by decide)) (cell_k (k := 5) (by decide)) rfl rfl rfl (Nat.le_of_ble_eq_true rfl) dX5_greatestX_5 ?_
  refine wl_eqi (b := pR P) (mx_one) ?_
  exact hret _ 8 _ (pR P) dX5_greatestX_8 (⟨rfl, rfl⟩)
set_option maxHeartbeats 4000000 in
set_option maxRecDepth 100000 in
theorem c_X5_leastY (l : Launch) (G : Gw) (M : Mem) (b : Nat) (P : Py) (hb : b ≤ 8) (hB : BdM (M 233) b P) (hS : Smal P) : Cp l G yX5_leastY wsX5_leastY 2 47 [.ref (G.2.2.1 232), .int (nI b)] M (pB P) := by
  refine Ci.of (cc := cX5_leastY) (maxL := 2) (ret := (some .int)) (by decide +kernel) rfl (Nat.le_of_ble_eq_true rfl) ?_
  intro x sz hl0 hr C
  subst hl0
  have C : CX x G (AA G sz) RX5 cX5_leastY 2 wsX5_leastY 2 47 0 0 := C
  have hret : ∀ (M0 : Mem) (pc0 : Nat) (L0 : List (Nat × Value)) (rv0 : Int32), decode cX5_leastY pc0 = .ok (.ireturn, 1) → (fun (r : Int32) (M' : Mem) => r = pB P ∧ M' = M) rv0 M0 → WL x G (AA G sz) 2 0 0 (xQ x (va_Qi (fun (r : Int32) (M' : Mem) => r = pB P ∧ M' = M) (WE G) (AA G sz)) (AA G sz)) M0 pc0 L0 [.int rv0] := fun M0 pc0 L0 rv0 hd hp => wl_iret (post := (fun (r : Int32) (M' : Mem) => r = pB P ∧ M' = M)) C hr hd hp
  show WL x G (AA G sz) 2 0 0 (xQ x (va_Qi (fun (r : Int32) (M' : Mem) => r = pB P ∧ M' = M) (WE G) (AA G sz)) (AA G sz)) M 0 [(0, .ref (G.2.2.1 232)), (1, .int (nI b))] []
  generalize (xQ x (va_Qi (fun (r : Int32) (M' : Mem) => r = pB P ∧ M' = M) (WE G) (AA G sz)) (AA G sz)) = QQ at hret ⊢
  have h3 := hS.1
  refine wl_aload_n C 0 dX5_leastY_0 rfl rfl ?_
  refine wl_iload_n C 1 dX5_leastY_1 rfl rfl ?_
  refine wl_bipush (v := nI 66) C dX5_leastY_2 (by decide) ?_
  refine wl_iconst (v := (-1)) C dX5_leastY_4 (by decide) ?_
  refine wl_callVp (i := 232) (n := 3) C [.int (nI b), .int (nI 66), .int (-1)] [] (c_X5_extreme _ G M b 66 (-1) P P.2.2 hb hB (by omega) (by omega) hB.2.2.2) gX5_leastY_X5_extreme rfl (by decide +kernel) (by decide) (by decide) (kd_lt (k := 5) (by decide) (by decide)) (cell_k (k := 5) (by decide)) rfl rfl rfl (Nat.le_of_ble_eq_true rfl) dX5_leastY_5 ?_
  refine wl_eqi (b := pB P) (mx_neg2 (fun k hk => (hS.2 k (by omega)).2)) ?_
  exact hret _ 8 _ (pB P) dX5_leastY_8 (⟨rfl, rfl⟩)
set_option maxHeartbeats 4000000 in
set_option maxRecDepth 100000 in
theorem c_X5_greatestY (l : Launch) (G : Gw) (M : Mem) (b : Nat) (P : Py) (hb : b ≤ 8) (hB : BdM (M 233) b P) (hS : Smal P) : Cp l G yX5_greatestY wsX5_greatestY 2 47 [.ref (G.2.2.1 232), .int (nI b)] M (pT P) := by
  refine Ci.of (cc := cX5_greatestY) (maxL := 2) (ret := (some .int)) (by decide +kernel) rfl (Nat.le_of_ble_eq_true rfl) ?_
  intro x sz hl0 hr C
  subst hl0
  have C : CX x G (AA G sz) RX5 cX5_greatestY 2 wsX5_greatestY 2 47 0 0 := C
  have hret : ∀ (M0 : Mem) (pc0 : Nat) (L0 : List (Nat × Value)) (rv0 : Int32), decode cX5_greatestY pc0 = .ok (.ireturn, 1) → (fun (r : Int32) (M' : Mem) => r = pT P ∧ M' = M) rv0 M0 → WL x G (AA G sz) 2 0 0 (xQ x (va_Qi (fun (r : Int32) (M' : Mem) => r = pT P ∧ M' = M) (WE G) (AA G sz)) (AA G sz)) M0 pc0 L0 [.int rv0] := fun M0 pc0 L0 rv0 hd hp => wl_iret (post := (fun (r : Int32) (M' : Mem) => r = pT P ∧ M' = M)) C hr hd hp
  show WL x G (AA G sz) 2 0 0 (xQ x (va_Qi (fun (r : Int32) (M' : Mem) => r = pT P ∧ M' = M) (WE G) (AA G sz)) (AA G sz)) M 0 [(0, .ref (G.2.2.1 232)), (1, .int (nI b))] []
  generalize (xQ x (va_Qi (fun (r : Int32) (M' : Mem) => r = pT P ∧ M' = M) (WE G) (AA G sz)) (AA G sz)) = QQ at hret ⊢
  have h3 := hS.1
  refine wl_aload_n C 0 dX5_greatestY_0 rfl rfl ?_
  refine wl_iload_n C 1 dX5_greatestY_1 rfl rfl ?_
  refine wl_bipush (v := nI 66) C dX5_greatestY_2 (by decide) ?_
  refine wl_iconst (v := 1) C dX5_greatestY_4 (by decide) ?_
  refine wl_callVp (i := 232) (n := 3) C [.int (nI b), .int (nI 66), .int 1] [] (c_X5_extreme _ G M b 66 1 P P.2.2 hb hB (by omega) (by omega) hB.2.2.2) gX5_greatestY_X5_extreme rfl (by decide +kernel) (by decide) (by decide) (kd_lt (k := 5) (by decide) (by decide)) (cell_k (k := 5) (by decide)) rfl rfl rfl (Nat.le_of_ble_eq_true rfl) dX5_greatestY_5 ?_
  refine wl_eqi (b := pT P) (mx_one) ?_
  exact hret _ 8 _ (pT P) dX5_greatestY_8 (⟨rfl, rfl⟩)
set_option maxHeartbeats 4000000 in
set_option maxRecDepth 100000 in
theorem c_X5_wallsBy (l : Launch) (G : Gw) (M : Mem) (b : Nat) (P : Py) (hb : b ≤ 8) (hB : BdM (M 233) b P) (hS : Smal P) (w h y : Int32) (hw : M 233 0 = w) (hh : M 233 1 = h) : Cp l G yX5_wallsBy wsX5_wallsBy 3 68 [.ref (G.2.2.1 232), .int (nI b), .int y] M (mWb P w h y) := by
  refine Ci.of (cc := cX5_wallsBy) (maxL := 4) (ret := (some .int)) (by decide +kernel) rfl (Nat.le_of_ble_eq_true rfl) ?_
  intro x sz hl0 hr C
  subst hl0
  have C : CX x G (AA G sz) RX5 cX5_wallsBy 4 wsX5_wallsBy 3 68 0 0 := C
  have hret : ∀ (M0 : Mem) (pc0 : Nat) (L0 : List (Nat × Value)) (rv0 : Int32), decode cX5_wallsBy pc0 = .ok (.ireturn, 1) → (fun (r : Int32) (M' : Mem) => r = mWb P w h y ∧ M' = M) rv0 M0 → WL x G (AA G sz) 4 0 0 (xQ x (va_Qi (fun (r : Int32) (M' : Mem) => r = mWb P w h y ∧ M' = M) (WE G) (AA G sz)) (AA G sz)) M0 pc0 L0 [.int rv0] := fun M0 pc0 L0 rv0 hd hp => wl_iret (post := (fun (r : Int32) (M' : Mem) => r = mWb P w h y ∧ M' = M)) C hr hd hp
  show WL x G (AA G sz) 4 0 0 (xQ x (va_Qi (fun (r : Int32) (M' : Mem) => r = mWb P w h y ∧ M' = M) (WE G) (AA G sz)) (AA G sz)) M 0 [(0, .ref (G.2.2.1 232)), (1, .int (nI b)), (2, .int y)] []
  generalize (xQ x (va_Qi (fun (r : Int32) (M' : Mem) => r = mWb P w h y ∧ M' = M) (WE G) (AA G sz)) (AA G sz)) = QQ at hret ⊢
  have in5 : ∀ w ∈ wsX50, w ∈ wsX5_wallsBy := by decide +kernel
  have fl7 : Jvm.Cond.fieldLink RX5 7 "JammedBodiesModel" "all" "[I" ∈ wsX5_wallsBy := by decide +kernel
  refine wl_aload_n C 0 dX5_wallsBy_0 rfl rfl ?_
  refine wl_iload_n C 1 dX5_wallsBy_1 rfl rfl ?_
  refine wl_callVp (i := 232) (n := 1) C [.int (nI b)] [] (c_X5_leastX _ G M b P hb hB hS) gX5_wallsBy_X5_leastX rfl (by decide +kernel) (by decide) (by decide) (kd_lt (k := 5) (by decide) (by decide)) (cell_k (k := 5) (by decide)) rfl rfl rfl (Nat.le_of_ble_eq_true rfl) dX5_wallsBy_2 ?_
  refine wl_iload_n C 2 dX5_wallsBy_5 rfl rfl ?_
  refine wl_ineg C dX5_wallsBy_6 ?_
  suffices hJ7 : WL x G (AA G sz) 4 0 0 QQ M 15 [(0, .ref (G.2.2.1 232)), (1, .int (nI b)), (2, .int y)] [.int (if (-y) < (pL P) then 0 else 1)] by
    refine wl_icmp_gt C 14 dX5_wallsBy_7 (by decide) (fun c_7 => ?_) (fun c_7 => ?_)
    · rw [if_pos c_7] at hJ7
      refine wl_iconst (v := 0) C dX5_wallsBy_14 (by decide) ?_
      exact hJ7
    · rw [if_neg c_7] at hJ7
      refine wl_iconst (v := 1) C dX5_wallsBy_10 (by decide) ?_
      refine wl_goto C 15 dX5_wallsBy_11 (by decide) ?_
      exact hJ7
  refine wl_istore_n (L' := [(3, .int (if (-y) < (pL P) then 0 else 1)), (0, .ref (G.2.2.1 232)), (1, .int (nI b)), (2, .int y)]) C dX5_wallsBy_15 rfl (by decide) rfl ?_
  refine wl_iload_n C 0 dX5_wallsBy_16 rfl rfl ?_
  refine wl_aload_n C 1 dX5_wallsBy_17 rfl rfl ?_
  refine wl_iload_n C 2 dX5_wallsBy_18 rfl rfl ?_
  refine wl_callVp (i := 232) (n := 1) C [.int (nI b)] [.int (if (-y) < (pL P) then 0 else 1)] (c_X5_greatestX _ G M b P hb hB hS) gX5_wallsBy_X5_greatestX rfl (by decide +kernel) (by decide) (by decide) (kd_lt (k := 5) (by decide) (by decide)) (cell_k (k := 5) (by decide)) rfl rfl rfl (Nat.le_of_ble_eq_true rfl) dX5_wallsBy_19 ?_
  refine wl_aload_n C 1 dX5_wallsBy_22 rfl rfl ?_
  refine wl_get_Model_all (i := 232) C (by decide) in5 fl7 dX5_wallsBy_23 ?_
  refine wl_iconst (v := 0) C dX5_wallsBy_26 (by decide) ?_
  refine wl_iald (j := 0) (n := 120) (v := w) C (by decide) (cell_k (k := 10) (by decide)) (rfl) (by decide) (by decide) hw dX5_wallsBy_27 ?_
  refine wl_iload_n C 3 dX5_wallsBy_28 rfl rfl ?_
  refine wl_iadd C dX5_wallsBy_29 ?_
  suffices hJ30 : WL x G (AA G sz) 4 0 0 QQ M 38 [(3, .int (if (-y) < (pL P) then 0 else 1)), (0, .ref (G.2.2.1 232)), (1, .int (nI b)), (2, .int y)] [.int (if (pR P) < (w + y) then 0 else 2), .int (if (-y) < (pL P) then 0 else 1)] by
    refine wl_icmp_lt C 37 dX5_wallsBy_30 (by decide) (fun c_30 => ?_) (fun c_30 => ?_)
    · rw [if_pos c_30] at hJ30
      refine wl_iconst (v := 0) C dX5_wallsBy_37 (by decide) ?_
      exact hJ30
    · rw [if_neg c_30] at hJ30
      refine wl_iconst (v := 2) C dX5_wallsBy_33 (by decide) ?_
      refine wl_goto C 38 dX5_wallsBy_34 (by decide) ?_
      exact hJ30
  refine wl_ior C dX5_wallsBy_38 ?_
  refine wl_istore_n (L' := [(3, .int ((if (-y) < (pL P) then 0 else 1) ||| (if (pR P) < (w + y) then 0 else 2))), (0, .ref (G.2.2.1 232)), (1, .int (nI b)), (2, .int y)]) C dX5_wallsBy_39 rfl (by decide) rfl ?_
  refine wl_iload_n C 0 dX5_wallsBy_40 rfl rfl ?_
  refine wl_aload_n C 1 dX5_wallsBy_41 rfl rfl ?_
  refine wl_iload_n C 2 dX5_wallsBy_42 rfl rfl ?_
  refine wl_callVp (i := 232) (n := 1) C [.int (nI b)] [.int ((if (-y) < (pL P) then 0 else 1) ||| (if (pR P) < (w + y) then 0 else 2))] (c_X5_leastY _ G M b P hb hB hS) gX5_wallsBy_X5_leastY rfl (by decide +kernel) (by decide) (by decide) (kd_lt (k := 5) (by decide) (by decide)) (cell_k (k := 5) (by decide)) rfl rfl rfl (Nat.le_of_ble_eq_true rfl) dX5_wallsBy_43 ?_
  refine wl_iload_n C 3 dX5_wallsBy_46 rfl rfl ?_
  refine wl_ineg C dX5_wallsBy_47 ?_
  suffices hJ48 : WL x G (AA G sz) 4 0 0 QQ M 56 [(3, .int ((if (-y) < (pL P) then 0 else 1) ||| (if (pR P) < (w + y) then 0 else 2))), (0, .ref (G.2.2.1 232)), (1, .int (nI b)), (2, .int y)] [.int (if (-y) < (pB P) then 0 else 4), .int ((if (-y) < (pL P) then 0 else 1) ||| (if (pR P) < (w + y) then 0 else 2))] by
    refine wl_icmp_gt C 55 dX5_wallsBy_48 (by decide) (fun c_48 => ?_) (fun c_48 => ?_)
    · rw [if_pos c_48] at hJ48
      refine wl_iconst (v := 0) C dX5_wallsBy_55 (by decide) ?_
      exact hJ48
    · rw [if_neg c_48] at hJ48
      refine wl_iconst (v := 4) C dX5_wallsBy_51 (by decide) ?_
      refine wl_goto C 56 dX5_wallsBy_52 (by decide) ?_
      exact hJ48
  refine wl_ior C dX5_wallsBy_56 ?_
  refine wl_istore_n (L' := [(3, .int (((if (-y) < (pL P) then 0 else 1) ||| (if (pR P) < (w + y) then 0 else 2)) ||| (if (-y) < (pB P) then 0 else 4))), (0, .ref (G.2.2.1 232)), (1, .int (nI b)), (2, .int y)]) C dX5_wallsBy_57 rfl (by decide) rfl ?_
  refine wl_iload_n C 0 dX5_wallsBy_58 rfl rfl ?_
  refine wl_aload_n C 1 dX5_wallsBy_59 rfl rfl ?_
  refine wl_iload_n C 2 dX5_wallsBy_60 rfl rfl ?_
  refine wl_callVp (i := 232) (n := 1) C [.int (nI b)] [.int (((if (-y) < (pL P) then 0 else 1) ||| (if (pR P) < (w + y) then 0 else 2)) ||| (if (-y) < (pB P) then 0 else 4))] (c_X5_greatestY _ G M b P hb hB hS) gX5_wallsBy_X5_greatestY rfl (by decide +kernel) (by decide) (by decide) (kd_lt (k := 5) (by decide) (by decide)) (cell_k (k := 5) (by decide)) rfl rfl rfl (Nat.le_of_ble_eq_true rfl) dX5_wallsBy_61 ?_
  refine wl_aload_n C 1 dX5_wallsBy_64 rfl rfl ?_
  refine wl_get_Model_all (i := 232) C (by decide) in5 fl7 dX5_wallsBy_65 ?_
  refine wl_iconst (v := 1) C dX5_wallsBy_68 (by decide) ?_
  refine wl_iald (j := 1) (n := 120) (v := h) C (by decide) (cell_k (k := 10) (by decide)) (rfl) (by decide) (by decide) hh dX5_wallsBy_69 ?_
  refine wl_iload_n C 3 dX5_wallsBy_70 rfl rfl ?_
  refine wl_iadd C dX5_wallsBy_71 ?_
  suffices hJ72 : WL x G (AA G sz) 4 0 0 QQ M 81 [(3, .int (((if (-y) < (pL P) then 0 else 1) ||| (if (pR P) < (w + y) then 0 else 2)) ||| (if (-y) < (pB P) then 0 else 4))), (0, .ref (G.2.2.1 232)), (1, .int (nI b)), (2, .int y)] [.int (if (pT P) < (h + y) then 0 else 8), .int (((if (-y) < (pL P) then 0 else 1) ||| (if (pR P) < (w + y) then 0 else 2)) ||| (if (-y) < (pB P) then 0 else 4))] by
    refine wl_icmp_lt C 80 dX5_wallsBy_72 (by decide) (fun c_72 => ?_) (fun c_72 => ?_)
    · rw [if_pos c_72] at hJ72
      refine wl_iconst (v := 0) C dX5_wallsBy_80 (by decide) ?_
      exact hJ72
    · rw [if_neg c_72] at hJ72
      refine wl_bipush (v := 8) C dX5_wallsBy_75 (by decide) ?_
      refine wl_goto C 81 dX5_wallsBy_77 (by decide) ?_
      exact hJ72
  refine wl_ior C dX5_wallsBy_81 ?_
  refine wl_istore_n (L' := [(3, .int ((((if (-y) < (pL P) then 0 else 1) ||| (if (pR P) < (w + y) then 0 else 2)) ||| (if (-y) < (pB P) then 0 else 4)) ||| (if (pT P) < (h + y) then 0 else 8))), (0, .ref (G.2.2.1 232)), (1, .int (nI b)), (2, .int y)]) C dX5_wallsBy_82 rfl (by decide) rfl ?_
  refine wl_iload_n C 0 dX5_wallsBy_83 rfl rfl ?_
  exact hret _ 84 _ ((((if (-y) < (pL P) then 0 else 1) ||| (if (pR P) < (w + y) then 0 else 2)) ||| (if (-y) < (pB P) then 0 else 4)) ||| (if (pT P) < (h + y) then 0 else 8)) dX5_wallsBy_84 (⟨rfl, rfl⟩)
set_option maxHeartbeats 4000000 in
set_option maxRecDepth 100000 in
theorem c_X5_fits (l : Launch) (G : Gw) (M : Mem) (s : St) (b : Nat) (P : Py) (hs : PkX (M 233) s b) (hb : b ≤ 8) (hB : BdM (M 233) b P) (hS : Smal P) (hW : WfS s) : Cp l G yX5_fits wsX5_fits 7 164 [.ref (G.2.2.1 232), .int (nI b)] M (bi (okS s P b)) := by
  refine Ci.of (cc := cX5_fits) (maxL := 2) (ret := (some .boolean)) (by decide +kernel) rfl (Nat.le_of_ble_eq_true rfl) ?_
  intro x sz hl0 hr C
  subst hl0
  have C : CX x G (AA G sz) RX5 cX5_fits 2 wsX5_fits 7 164 0 0 := C
  have hret : ∀ (M0 : Mem) (pc0 : Nat) (L0 : List (Nat × Value)) (rv0 : Int32), narrow .boolean (.int rv0) = .int rv0 → decode cX5_fits pc0 = .ok (.ireturn, 1) → (fun (r : Int32) (M' : Mem) => r = bi (okS s P b) ∧ M' = M) rv0 M0 → WL x G (AA G sz) 2 0 0 (xQ x (va_Qi (fun (r : Int32) (M' : Mem) => r = bi (okS s P b) ∧ M' = M) (WE G) (AA G sz)) (AA G sz)) M0 pc0 L0 [.int rv0] := fun M0 pc0 L0 rv0 hn hd hp => wl_zret (post := (fun (r : Int32) (M' : Mem) => r = bi (okS s P b) ∧ M' = M)) C hr hn hd hp
  show WL x G (AA G sz) 2 0 0 (xQ x (va_Qi (fun (r : Int32) (M' : Mem) => r = bi (okS s P b) ∧ M' = M) (WE G) (AA G sz)) (AA G sz)) M 0 [(0, .ref (G.2.2.1 232)), (1, .int (nI b))] []
  generalize (xQ x (va_Qi (fun (r : Int32) (M' : Mem) => r = bi (okS s P b) ∧ M' = M) (WE G) (AA G sz)) (AA G sz)) = QQ at hret ⊢
  have h3 := hS.1
  refine wl_aload_n C 0 dX5_fits_0 rfl rfl ?_
  refine wl_iload_n C 1 dX5_fits_1 rfl rfl ?_
  refine wl_iconst (v := 1) C dX5_fits_2 (by decide) ?_
  refine wl_callVp (i := 232) (n := 2) C [.int (nI b), .int 1] [] (c_X5_wallsBy _ G M b P hb hB hS s.2.1 s.2.2.1 1 hs.1 hs.2.1) gX5_fits_X5_wallsBy rfl (by decide +kernel) (by decide) (by decide) (kd_lt (k := 5) (by decide) (by decide)) (cell_k (k := 5) (by decide)) rfl rfl rfl (Nat.le_of_ble_eq_true rfl) dX5_fits_3 ?_
  refine wl_eqi (b := pBeyond P s.2.1 s.2.2.1) (mWb_1 hS hW.1) ?_
  refine wl_if_ne C 21 dX5_fits_6 (by decide) (fun c_6 => ?_) (fun c_6 => ?_)
  · refine wl_iconst (v := 0) C dX5_fits_21 (by decide) ?_
    exact hret _ 22 _ 0 (rfl) dX5_fits_22 (⟨by simp [okS, bi, *], rfl⟩)
  · refine wl_aload_n C 0 dX5_fits_9 rfl rfl ?_
    refine wl_iload_n C 1 dX5_fits_10 rfl rfl ?_
    refine wl_callVp (i := 232) (n := 1) C [.int (nI b)] [] (c_X5_overlapped _ G M s b P hs hb hB (by omega) (fun k hk => by have := (hW.2 k hk).1; omega)) gX5_fits_X5_overlapped rfl (by decide +kernel) (by decide) (by decide) (kd_lt (k := 5) (by decide) (by decide)) (cell_k (k := 5) (by decide)) rfl rfl rfl (Nat.le_of_ble_eq_true rfl) dX5_fits_11 ?_
    refine wl_if_ne C 21 dX5_fits_14 (by decide) (fun c_14 => ?_) (fun c_14 => ?_)
    · refine wl_iconst (v := 0) C dX5_fits_21 (by decide) ?_
      exact hret _ 22 _ 0 (rfl) dX5_fits_22 (⟨by simp [okS, bi, *], rfl⟩)
    · refine wl_iconst (v := 1) C dX5_fits_17 (by decide) ?_
      refine wl_goto C 22 dX5_fits_18 (by decide) ?_
      exact hret _ 22 _ 1 (rfl) dX5_fits_22 (⟨by simp [okS, bi, *], rfl⟩)
set_option maxHeartbeats 4000000 in
set_option maxRecDepth 100000 in
theorem c_X5_steps (l : Launch) (G : Gw) (M : Mem) (s : St) (b d : Nat) (P : Py) (hs : PkX (M 233) s b) (hb : b ≤ 8) (hB : BdM (M 233) b P) (hS : Smal (mvP P (stX d) (stY d))) (hW : WfS s) (hd : d < 8) : Ci l G yX5_steps wsX5_steps 8 185 [.ref (G.2.2.1 232), .int (nI b), .int (nI d)] M (fun r M' => r = bi (okS s (mvP P (stX d) (stY d)) b) ∧ M' = if okS s (mvP P (stX d) (stY d)) b = true then rwA M (mvR (M 233) b P.1 (stX d) (stY d)) else M) := by
  refine Ci.of (cc := cX5_steps) (maxL := 3) (ret := (some .boolean)) (by decide +kernel) rfl (Nat.le_of_ble_eq_true rfl) ?_
  intro x sz hl0 hr C
  subst hl0
  have C : CX x G (AA G sz) RX5 cX5_steps 3 wsX5_steps 8 185 0 0 := C
  have hret : ∀ (M0 : Mem) (pc0 : Nat) (L0 : List (Nat × Value)) (rv0 : Int32), narrow .boolean (.int rv0) = .int rv0 → decode cX5_steps pc0 = .ok (.ireturn, 1) → (fun r M' => r = bi (okS s (mvP P (stX d) (stY d)) b) ∧ M' = if okS s (mvP P (stX d) (stY d)) b = true then rwA M (mvR (M 233) b P.1 (stX d) (stY d)) else M) rv0 M0 → WL x G (AA G sz) 3 0 0 (xQ x (va_Qi (fun r M' => r = bi (okS s (mvP P (stX d) (stY d)) b) ∧ M' = if okS s (mvP P (stX d) (stY d)) b = true then rwA M (mvR (M 233) b P.1 (stX d) (stY d)) else M) (WE G) (AA G sz)) (AA G sz)) M0 pc0 L0 [.int rv0] := fun M0 pc0 L0 rv0 hn hd hp => wl_zret (post := (fun r M' => r = bi (okS s (mvP P (stX d) (stY d)) b) ∧ M' = if okS s (mvP P (stX d) (stY d)) b = true then rwA M (mvR (M 233) b P.1 (stX d) (stY d)) else M)) C hr hn hd hp
  show WL x G (AA G sz) 3 0 0 (xQ x (va_Qi (fun r M' => r = bi (okS s (mvP P (stX d) (stY d)) b) ∧ M' = if okS s (mvP P (stX d) (stY d)) b = true then rwA M (mvR (M 233) b P.1 (stX d) (stY d)) else M) (WE G) (AA G sz)) (AA G sz)) M 0 [(0, .ref (G.2.2.1 232)), (1, .int (nI b)), (2, .int (nI d))] []
  generalize (xQ x (va_Qi (fun r M' => r = bi (okS s (mvP P (stX d) (stY d)) b) ∧ M' = if okS s (mvP P (stX d) (stY d)) b = true then rwA M (mvR (M 233) b P.1 (stX d) (stY d)) else M) (WE G) (AA G sz)) (AA G sz)) = QQ at hret ⊢
  have h7 := hB.2.1
  refine wl_aload_n C 0 dX5_steps_0 rfl rfl ?_
  refine wl_iload_n C 1 dX5_steps_1 rfl rfl ?_
  refine wl_iload_n C 2 dX5_steps_2 rfl rfl ?_
  refine wl_callSp (n := 1) C [.int (nI d)] [.int (nI b), .ref (G.2.2.1 232)] (c_X5_dx _ G M d hd) gX5_steps_X5_dx rfl (by decide +kernel) (by decide) (by decide) rfl rfl (Nat.le_of_ble_eq_true rfl) dX5_steps_3 ?_
  refine wl_iload_n C 2 dX5_steps_6 rfl rfl ?_
  refine wl_callSp (n := 1) C [.int (nI d)] [.int (stX d), .int (nI b), .ref (G.2.2.1 232)] (c_X5_dy _ G M d hd) gX5_steps_X5_dy rfl (by decide +kernel) (by decide) (by decide) rfl rfl (Nat.le_of_ble_eq_true rfl) dX5_steps_7 ?_
  refine wl_callVv (i := 232) (n := 3) C [.int (nI b), .int (stX d), .int (stY d)] [] (c_X5_moves _ G M b P hb hB (stX d) (stY d)) gX5_steps_X5_moves rfl (by decide +kernel) (by decide) (by decide) (kd_lt (k := 5) (by decide) (by decide)) (cell_k (k := 5) (by decide)) rfl rfl rfl (Nat.le_of_ble_eq_true rfl) dX5_steps_10 (fun M1 e1 => ?_)
  have b1 : BdM (M1 233) b (mvP P (stX d) (stY d)) := by rw [e1, rwA_at]; exact mvR_bd hB hb
  have x1 : PkX (M1 233) s b := by rw [e1, rwA_at]; exact hs.fr (mvR_fr h7) hb
  refine wl_aload_n C 0 dX5_steps_13 rfl rfl ?_
  refine wl_iload_n C 1 dX5_steps_14 rfl rfl ?_
  refine wl_callVp (i := 232) (n := 1) C [.int (nI b)] [] (c_X5_fits _ G M1 s b (mvP P (stX d) (stY d)) x1 hb b1 hS hW) gX5_steps_X5_fits rfl (by decide +kernel) (by decide) (by decide) (kd_lt (k := 5) (by decide) (by decide)) (cell_k (k := 5) (by decide)) rfl rfl rfl (Nat.le_of_ble_eq_true rfl) dX5_steps_15 ?_
  refine wl_if_eqB C 23 dX5_steps_18 (by decide) (fun c_18 => ?_) (fun c_18 => ?_)
  · refine wl_aload_n C 0 dX5_steps_23 rfl rfl ?_
    refine wl_iload_n C 1 dX5_steps_24 rfl rfl ?_
    refine wl_iload_n C 2 dX5_steps_25 rfl rfl ?_
    refine wl_callSp (n := 1) C [.int (nI d)] [.int (nI b), .ref (G.2.2.1 232)] (c_X5_dx _ G M1 d hd) gX5_steps_X5_dx rfl (by decide +kernel) (by decide) (by decide) rfl rfl (Nat.le_of_ble_eq_true rfl) dX5_steps_26 ?_
    refine wl_ineg C dX5_steps_29 ?_
    refine wl_iload_n C 2 dX5_steps_30 rfl rfl ?_
    refine wl_callSp (n := 1) C [.int (nI d)] [.int (-(stX d)), .int (nI b), .ref (G.2.2.1 232)] (c_X5_dy _ G M1 d hd) gX5_steps_X5_dy rfl (by decide +kernel) (by decide) (by decide) rfl rfl (Nat.le_of_ble_eq_true rfl) dX5_steps_31 ?_
    refine wl_ineg C dX5_steps_34 ?_
    refine wl_callVv (i := 232) (n := 3) C [.int (nI b), .int (-(stX d)), .int (-(stY d))] [] (c_X5_moves _ G M1 b (mvP P (stX d) (stY d)) hb b1 (-stX d) (-stY d)) gX5_steps_X5_moves rfl (by decide +kernel) (by decide) (by decide) (kd_lt (k := 5) (by decide) (by decide)) (cell_k (k := 5) (by decide)) rfl rfl rfl (Nat.le_of_ble_eq_true rfl) dX5_steps_35 (fun M2 e2 => ?_)
    refine wl_iconst (v := 0) C dX5_steps_38 (by decide) ?_
    exact hret _ 39 _ 0 (rfl) dX5_steps_39 (⟨(bi_f c_18).symm, by rw [if_neg (by rw [c_18]; exact Bool.false_ne_true), e2, e1, rwA_at, rwA_rwA, show (mvP P (stX d) (stY d)).1 = P.1 from rfl, mvR_inv h7 hb, rwA_id]⟩)
  · refine wl_iconst (v := 1) C dX5_steps_21 (by decide) ?_
    exact hret _ 22 _ 1 (rfl) dX5_steps_22 (⟨(bi_t c_18).symm, by rw [if_pos c_18, e1]⟩)
set_option maxHeartbeats 4000000 in
set_option maxRecDepth 100000 in
theorem c_X5_isFree (l : Launch) (G : Gw) (M : Mem) (s : St) (b d : Nat) (P : Py) (hs : PkX (M 233) s b) (hb : b ≤ 8) (hB : BdM (M 233) b P) (hS : Smal (mvP P (stX d) (stY d))) (hW : WfS s) (hd : d < 8) : Cp l G yX5_isFree wsX5_isFree 9 207 [.ref (G.2.2.1 232), .int (nI b), .int (nI d)] M (bi (okS s (mvP P (stX d) (stY d)) b)) := by
  refine Ci.of (cc := cX5_isFree) (maxL := 4) (ret := (some .boolean)) (by decide +kernel) rfl (Nat.le_of_ble_eq_true rfl) ?_
  intro x sz hl0 hr C
  subst hl0
  have C : CX x G (AA G sz) RX5 cX5_isFree 4 wsX5_isFree 9 207 0 0 := C
  have hret : ∀ (M0 : Mem) (pc0 : Nat) (L0 : List (Nat × Value)) (rv0 : Int32), narrow .boolean (.int rv0) = .int rv0 → decode cX5_isFree pc0 = .ok (.ireturn, 1) → (fun (r : Int32) (M' : Mem) => r = bi (okS s (mvP P (stX d) (stY d)) b) ∧ M' = M) rv0 M0 → WL x G (AA G sz) 4 0 0 (xQ x (va_Qi (fun (r : Int32) (M' : Mem) => r = bi (okS s (mvP P (stX d) (stY d)) b) ∧ M' = M) (WE G) (AA G sz)) (AA G sz)) M0 pc0 L0 [.int rv0] := fun M0 pc0 L0 rv0 hn hd hp => wl_zret (post := (fun (r : Int32) (M' : Mem) => r = bi (okS s (mvP P (stX d) (stY d)) b) ∧ M' = M)) C hr hn hd hp
  show WL x G (AA G sz) 4 0 0 (xQ x (va_Qi (fun (r : Int32) (M' : Mem) => r = bi (okS s (mvP P (stX d) (stY d)) b) ∧ M' = M) (WE G) (AA G sz)) (AA G sz)) M 0 [(0, .ref (G.2.2.1 232)), (1, .int (nI b)), (2, .int (nI d))] []
  generalize (xQ x (va_Qi (fun (r : Int32) (M' : Mem) => r = bi (okS s (mvP P (stX d) (stY d)) b) ∧ M' = M) (WE G) (AA G sz)) (AA G sz)) = QQ at hret ⊢
  have h7 := hB.2.1
  refine wl_aload_n C 0 dX5_isFree_0 rfl rfl ?_
  refine wl_iload_n C 1 dX5_isFree_1 rfl rfl ?_
  refine wl_iload_n C 2 dX5_isFree_2 rfl rfl ?_
  refine wl_callVi (i := 232) (n := 2) C [.int (nI b), .int (nI d)] [] (c_X5_steps _ G M s b d P hs hb hB hS hW hd) gX5_isFree_X5_steps rfl (by decide +kernel) (by decide) (by decide) (kd_lt (k := 5) (by decide) (by decide)) (cell_k (k := 5) (by decide)) rfl rfl rfl (Nat.le_of_ble_eq_true rfl) dX5_isFree_3 (fun r1 M1 e1 => ?_)
  obtain ⟨q1, e1⟩ := e1
  subst q1
  refine wl_istore_n (L' := [(3, .int (bi (okS s (mvP P (stX d) (stY d)) b))), (0, .ref (G.2.2.1 232)), (1, .int (nI b)), (2, .int (nI d))]) C dX5_isFree_6 rfl (by decide) rfl ?_
  refine wl_iload_n C 0 dX5_isFree_7 rfl rfl ?_
  refine wl_if_eqB C 26 dX5_isFree_8 (by decide) (fun c_8 => ?_) (fun c_8 => ?_)
  · refine wl_iload_n C 0 dX5_isFree_26 rfl rfl ?_
    exact hret _ 27 _ (bi (okS s (mvP P (stX d) (stY d)) b)) (narrow_bi _) dX5_isFree_27 (⟨rfl, by rw [e1, if_neg (by rw [c_8]; exact Bool.false_ne_true)]⟩)
  · rw [if_pos c_8] at e1
    refine wl_aload_n C 1 dX5_isFree_11 rfl rfl ?_
    refine wl_iload_n C 2 dX5_isFree_12 rfl rfl ?_
    refine wl_iload_n C 3 dX5_isFree_13 rfl rfl ?_
    refine wl_callSp (n := 1) C [.int (nI d)] [.int (nI b), .ref (G.2.2.1 232)] (c_X5_dx _ G M1 d hd) gX5_isFree_X5_dx rfl (by decide +kernel) (by decide) (by decide) rfl rfl (Nat.le_of_ble_eq_true rfl) dX5_isFree_14 ?_
    refine wl_ineg C dX5_isFree_17 ?_
    refine wl_iload_n C 3 dX5_isFree_18 rfl rfl ?_
    refine wl_callSp (n := 1) C [.int (nI d)] [.int (-(stX d)), .int (nI b), .ref (G.2.2.1 232)] (c_X5_dy _ G M1 d hd) gX5_isFree_X5_dy rfl (by decide +kernel) (by decide) (by decide) rfl rfl (Nat.le_of_ble_eq_true rfl) dX5_isFree_19 ?_
    refine wl_ineg C dX5_isFree_22 ?_
    refine wl_callVv (i := 232) (n := 3) C [.int (nI b), .int (-(stX d)), .int (-(stY d))] [] (c_X5_moves _ G M1 b (mvP P (stX d) (stY d)) hb (by rw [e1, rwA_at]; exact mvR_bd hB hb) (-stX d) (-stY d)) gX5_isFree_X5_moves rfl (by decide +kernel) (by decide) (by decide) (kd_lt (k := 5) (by decide) (by decide)) (cell_k (k := 5) (by decide)) rfl rfl rfl (Nat.le_of_ble_eq_true rfl) dX5_isFree_23 (fun M2 e2 => ?_)
    refine wl_iload_n C 0 dX5_isFree_26 rfl rfl ?_
    exact hret _ 27 _ (bi (okS s (mvP P (stX d) (stY d)) b)) (narrow_bi _) dX5_isFree_27 (⟨rfl, by rw [e2, e1, rwA_at, rwA_rwA, show (mvP P (stX d) (stY d)).1 = P.1 from rfl, mvR_inv h7 hb, rwA_id]⟩)
set_option maxHeartbeats 4000000 in
set_option maxRecDepth 100000 in
theorem c_X5_freeDirections (l : Launch) (G : Gw) (M : Mem) (s : St) (hs : PkM (M 233) s) (hW : WfS s) (b : Nat) (hb : b < s.1) : Cp l G yX5_freeDirections wsX5_freeDirections 10 230 [.ref (G.2.2.1 232), .int (nI b)] M (frS s b) := by
  refine Ci.of (cc := cX5_freeDirections) (maxL := 4) (ret := (some .int)) (by decide +kernel) rfl (Nat.le_of_ble_eq_true rfl) ?_
  intro x sz hl0 hr C
  subst hl0
  have C : CX x G (AA G sz) RX5 cX5_freeDirections 4 wsX5_freeDirections 10 230 0 0 := C
  have hret : ∀ (M0 : Mem) (pc0 : Nat) (L0 : List (Nat × Value)) (rv0 : Int32), decode cX5_freeDirections pc0 = .ok (.ireturn, 1) → (fun (r : Int32) (M' : Mem) => r = frS s b ∧ M' = M) rv0 M0 → WL x G (AA G sz) 4 0 0 (xQ x (va_Qi (fun (r : Int32) (M' : Mem) => r = frS s b ∧ M' = M) (WE G) (AA G sz)) (AA G sz)) M0 pc0 L0 [.int rv0] := fun M0 pc0 L0 rv0 hd hp => wl_iret (post := (fun (r : Int32) (M' : Mem) => r = frS s b ∧ M' = M)) C hr hd hp
  show WL x G (AA G sz) 4 0 0 (xQ x (va_Qi (fun (r : Int32) (M' : Mem) => r = frS s b ∧ M' = M) (WE G) (AA G sz)) (AA G sz)) M 0 [(0, .ref (G.2.2.1 232)), (1, .int (nI b))] []
  generalize (xQ x (va_Qi (fun (r : Int32) (M' : Mem) => r = frS s b ∧ M' = M) (WE G) (AA G sz)) (AA G sz)) = QQ at hret ⊢
  have h8 := hs.r
  refine wl_iconst (v := bsT (frF s b) 0) C dX5_freeDirections_0 (by first | decide | rfl) ?_
  refine wl_istore_n (L' := [(2, .int (bsT (frF s b) 0)), (0, .ref (G.2.2.1 232)), (1, .int (nI b))]) C dX5_freeDirections_1 rfl (by decide) rfl ?_
  refine wl_iconst (v := nI 0) C dX5_freeDirections_2 (by first | decide | rfl) ?_
  refine wl_istore_n (L' := [(3, .int (nI 0)), (2, .int (bsT (frF s b) 0)), (0, .ref (G.2.2.1 232)), (1, .int (nI b))]) C dX5_freeDirections_3 rfl (by decide) rfl ?_
  have h4 : ∀ d, d ≤ 8 → WL x G (AA G sz) 4 0 0 QQ M 4 [(0, .ref (G.2.2.1 232)), (1, .int (nI b)), (2, .int (bsT (frF s b) d)), (3, .int (nI d))] [] := by
    refine up_loop (8) _ ?_
    intro d hd1 ih
    refine wl_iload_n C 3 dX5_freeDirections_4 rfl rfl ?_
    refine wl_bipush (v := nI 8) C dX5_freeDirections_5 (by decide) ?_
    refine wl_icmp_geN C (a := d) (b := 8) (by omega) (by omega) 35 dX5_freeDirections_7 (by decide) (fun c_7 => ?_) (fun c_7 => ?_)
    · refine wl_iload_n C 2 dX5_freeDirections_35 rfl rfl ?_
      exact hret _ 36 _ (bsT (frF s b) d) dX5_freeDirections_36 (⟨by unfold frS; rw [show 8 = d by omega], rfl⟩)
    · refine wl_iload_n C 2 dX5_freeDirections_10 rfl rfl ?_
      refine wl_aload_n C 0 dX5_freeDirections_11 rfl rfl ?_
      refine wl_iload_n C 1 dX5_freeDirections_12 rfl rfl ?_
      refine wl_iload_n C 3 dX5_freeDirections_13 rfl rfl ?_
      refine wl_callVp (i := 232) (n := 2) C [.int (nI b), .int (nI d)] [.int (bsT (frF s b) d)] (c_X5_isFree _ G M s b d (s.2.2.2 b) (hs.X b) (by omega) (hs.2.2.2.2 b hb) ((hW.2 b hb).smal_mv hW.1 (by omega)) hW (by omega)) gX5_freeDirections_X5_isFree rfl (by decide +kernel) (by decide) (by decide) (kd_lt (k := 5) (by decide) (by decide)) (cell_k (k := 5) (by decide)) rfl rfl rfl (Nat.le_of_ble_eq_true rfl) dX5_freeDirections_14 ?_
      suffices hJ17 : WL x G (AA G sz) 4 0 0 QQ M 27 [(0, .ref (G.2.2.1 232)), (1, .int (nI b)), (2, .int (bsT (frF s b) d)), (3, .int (nI d))] [.int (if (okS s (mvP (s.2.2.2 b) (stX d) (stY d)) b) = true then 1 <<< ((nI d) &&& 31) else (0 : Int32)), .int (bsT (frF s b) d)] by
        refine wl_if_eqB C 26 dX5_freeDirections_17 (by decide) (fun c_17 => ?_) (fun c_17 => ?_)
        · rw [if_neg (by rw [c_17]; exact Bool.false_ne_true)] at hJ17
          refine wl_iconst (v := 0) C dX5_freeDirections_26 (by decide) ?_
          exact hJ17
        · rw [if_pos c_17] at hJ17
          refine wl_iconst (v := 1) C dX5_freeDirections_20 (by decide) ?_
          refine wl_iload_n C 3 dX5_freeDirections_21 rfl rfl ?_
          refine wl_ishl C dX5_freeDirections_22 ?_
          refine wl_goto C 27 dX5_freeDirections_23 (by decide) ?_
          exact hJ17
      refine wl_ior C dX5_freeDirections_27 ?_
      refine wl_eqi (b := bsT (frF s b) (d + 1)) (fr_or fsN_1) ?_
      refine wl_istore_n (L' := [(2, .int (bsT (frF s b) (d + 1))), (0, .ref (G.2.2.1 232)), (1, .int (nI b)), (3, .int (nI d))]) C dX5_freeDirections_28 rfl (by decide) rfl ?_
      refine wl_iinc1 (k := d) (L' := [(3, .int (nI (d + 1))), (2, .int (bsT (frF s b) (d + 1))), (0, .ref (G.2.2.1 232)), (1, .int (nI b))]) C 3 dX5_freeDirections_29 rfl (by decide) rfl ?_
      refine wl_goto C 4 dX5_freeDirections_32 (by decide) ?_
      refine wl_sub (L' := [(0, .ref (G.2.2.1 232)), (1, .int (nI b)), (2, .int (bsT (frF s b) (d + 1))), (3, .int (nI (d + 1)))]) [2, 3, 1, 0] rfl ?_
      exact ih (by omega)
  refine wl_sub (L' := [(0, .ref (G.2.2.1 232)), (1, .int (nI b)), (2, .int (bsT (frF s b) 0)), (3, .int (nI 0))]) [2, 3, 1, 0] rfl ?_
  exact h4 0 (Nat.zero_le _)
set_option maxHeartbeats 4000000 in
set_option maxRecDepth 100000 in
theorem c_X5_isJammed (l : Launch) (G : Gw) (M : Mem) (s : St) (hs : PkM (M 233) s) (hW : WfS s) (b : Nat) (hb : b < s.1) : Cp l G yX5_isJammed wsX5_isJammed 11 253 [.ref (G.2.2.1 232), .int (nI b)] M (bi (!jm4 s b 4)) := by
  refine Ci.of (cc := cX5_isJammed) (maxL := 2) (ret := (some .boolean)) (by decide +kernel) rfl (Nat.le_of_ble_eq_true rfl) ?_
  intro x sz hl0 hr C
  subst hl0
  have C : CX x G (AA G sz) RX5 cX5_isJammed 2 wsX5_isJammed 11 253 0 0 := C
  have hret : ∀ (M0 : Mem) (pc0 : Nat) (L0 : List (Nat × Value)) (rv0 : Int32), narrow .boolean (.int rv0) = .int rv0 → decode cX5_isJammed pc0 = .ok (.ireturn, 1) → (fun (r : Int32) (M' : Mem) => r = bi (!jm4 s b 4) ∧ M' = M) rv0 M0 → WL x G (AA G sz) 2 0 0 (xQ x (va_Qi (fun (r : Int32) (M' : Mem) => r = bi (!jm4 s b 4) ∧ M' = M) (WE G) (AA G sz)) (AA G sz)) M0 pc0 L0 [.int rv0] := fun M0 pc0 L0 rv0 hn hd hp => wl_zret (post := (fun (r : Int32) (M' : Mem) => r = bi (!jm4 s b 4) ∧ M' = M)) C hr hn hd hp
  show WL x G (AA G sz) 2 0 0 (xQ x (va_Qi (fun (r : Int32) (M' : Mem) => r = bi (!jm4 s b 4) ∧ M' = M) (WE G) (AA G sz)) (AA G sz)) M 0 [(0, .ref (G.2.2.1 232)), (1, .int (nI b))] []
  generalize (xQ x (va_Qi (fun (r : Int32) (M' : Mem) => r = bi (!jm4 s b 4) ∧ M' = M) (WE G) (AA G sz)) (AA G sz)) = QQ at hret ⊢
  refine wl_aload_n C 0 dX5_isJammed_0 rfl rfl ?_
  refine wl_iload_n C 1 dX5_isJammed_1 rfl rfl ?_
  refine wl_callVp (i := 232) (n := 1) C [.int (nI b)] [] (c_X5_freeDirections _ G M s hs hW b hb) gX5_isJammed_X5_freeDirections rfl (by decide +kernel) (by decide) (by decide) (kd_lt (k := 5) (by decide) (by decide)) (cell_k (k := 5) (by decide)) rfl rfl rfl (Nat.le_of_ble_eq_true rfl) dX5_isJammed_2 ?_
  refine wl_bipush (v := 85) C dX5_isJammed_5 (by decide) ?_
  refine wl_iand C dX5_isJammed_7 ?_
  refine wl_if_ne C 15 dX5_isJammed_8 (by decide) (fun c_8 => ?_) (fun c_8 => ?_)
  · refine wl_iconst (v := 0) C dX5_isJammed_15 (by decide) ?_
    exact hret _ 16 _ 0 (rfl) dX5_isJammed_16 (⟨(bi_f (by rw [Bool.not_eq_false']; exact tne (fun q => c_8 (fr_85.mpr q)))).symm, rfl⟩)
  · refine wl_iconst (v := 1) C dX5_isJammed_11 (by decide) ?_
    refine wl_goto C 16 dX5_isJammed_12 (by decide) ?_
    exact hret _ 16 _ 1 (rfl) dX5_isJammed_16 (⟨(bi_t (by rw [fr_85.mp c_8]; rfl)).symm, rfl⟩)
set_option maxHeartbeats 4000000 in
set_option maxRecDepth 100000 in
theorem c_X5_slides (l : Launch) (G : Gw) (M : Mem) (s : St) (hs : PkM (M 233) s) (hW : WfS s) (b d most : Nat) (hb : b < s.1) (hd : d < 8) (hm : most < 2 ^ 31) : Ci l G yX5_slides wsX5_slides 9 207 [.ref (G.2.2.1 232), .int (nI b), .int (nI d), .int (nI most)] M (fun r M' => r = nI (fsN s b d most) ∧ On3 M M' ∧ FrB b (M 233) (M' 233) ∧ BdM (M' 233) b (mvN (s.2.2.2 b) d (fsN s b d most))) := by
  refine Ci.of (cc := cX5_slides) (maxL := 5) (ret := (some .int)) (by decide +kernel) rfl (Nat.le_of_ble_eq_true rfl) ?_
  intro x sz hl0 hr C
  subst hl0
  have C : CX x G (AA G sz) RX5 cX5_slides 5 wsX5_slides 9 207 0 0 := C
  have hret : ∀ (M0 : Mem) (pc0 : Nat) (L0 : List (Nat × Value)) (rv0 : Int32), decode cX5_slides pc0 = .ok (.ireturn, 1) → (fun r M' => r = nI (fsN s b d most) ∧ On3 M M' ∧ FrB b (M 233) (M' 233) ∧ BdM (M' 233) b (mvN (s.2.2.2 b) d (fsN s b d most))) rv0 M0 → WL x G (AA G sz) 5 0 0 (xQ x (va_Qi (fun r M' => r = nI (fsN s b d most) ∧ On3 M M' ∧ FrB b (M 233) (M' 233) ∧ BdM (M' 233) b (mvN (s.2.2.2 b) d (fsN s b d most))) (WE G) (AA G sz)) (AA G sz)) M0 pc0 L0 [.int rv0] := fun M0 pc0 L0 rv0 hd hp => wl_iret (post := (fun r M' => r = nI (fsN s b d most) ∧ On3 M M' ∧ FrB b (M 233) (M' 233) ∧ BdM (M' 233) b (mvN (s.2.2.2 b) d (fsN s b d most)))) C hr hd hp
  show WL x G (AA G sz) 5 0 0 (xQ x (va_Qi (fun r M' => r = nI (fsN s b d most) ∧ On3 M M' ∧ FrB b (M 233) (M' 233) ∧ BdM (M' 233) b (mvN (s.2.2.2 b) d (fsN s b d most))) (WE G) (AA G sz)) (AA G sz)) M 0 [(0, .ref (G.2.2.1 232)), (1, .int (nI b)), (2, .int (nI d)), (3, .int (nI most))] []
  generalize (xQ x (va_Qi (fun r M' => r = nI (fsN s b d most) ∧ On3 M M' ∧ FrB b (M 233) (M' 233) ∧ BdM (M' 233) b (mvN (s.2.2.2 b) d (fsN s b d most))) (WE G) (AA G sz)) (AA G sz)) = QQ at hret ⊢
  have h8 := hs.r
  have h6 := (hs.2.2.2.2 b hb).2.1
  refine wl_iconst (v := nI 0) C dX5_slides_0 (by first | decide | rfl) ?_
  refine wl_istore (L' := [(4, .int (nI 0)), (0, .ref (G.2.2.1 232)), (1, .int (nI b)), (2, .int (nI d)), (3, .int (nI most))]) C dX5_slides_1 (by decide) rfl ?_
  have h3 : ∀ t, t ≤ most → anT (fkF s b d) t = false → ∀ M2 : Mem, On3 M M2 ∧ FrB b (M 233) (M2 233) ∧ BdM (M2 233) b (mvN (s.2.2.2 b) d t) → WL x G (AA G sz) 5 0 0 QQ M2 3 [(0, .ref (G.2.2.1 232)), (1, .int (nI b)), (2, .int (nI d)), (3, .int (nI most)), (4, .int (nI t))] [] := by
    refine up_loop most _ ?_
    intro t ht ih hA M2 hI
    refine wl_iload C 4 dX5_slides_3 rfl ?_
    refine wl_iload_n C 3 dX5_slides_5 rfl rfl ?_
    refine wl_icmp_geN C (a := t) (b := most) (by omega) (by omega) 24 dX5_slides_6 (by decide) (fun c_6 => ?_) (fun c_6 => ?_)
    · refine wl_iload C 4 dX5_slides_24 rfl ?_
      exact hret _ 26 _ (nI t) dX5_slides_26 (by (have e : fsN s b d most = t := (by unfold fsN; rw [fsT_none.mpr (by rw [show most = t by omega]; exact hA)]; show most = t; omega)); rw [e]; exact ⟨rfl, hI⟩)
    · refine wl_aload_n C 0 dX5_slides_9 rfl rfl ?_
      refine wl_iload_n C 1 dX5_slides_10 rfl rfl ?_
      refine wl_iload_n C 2 dX5_slides_11 rfl rfl ?_
      refine wl_callVi (i := 232) (n := 2) C [.int (nI b), .int (nI d)] [] (c_X5_steps _ G M2 s b d (mvN (s.2.2.2 b) d t) ((hs.X b).fr hI.2.1 (by omega)) (by omega) hI.2.2 (smal_mvN hW hb hd hA) hW hd) gX5_slides_X5_steps rfl (by decide +kernel) (by decide) (by decide) (kd_lt (k := 5) (by decide) (by decide)) (cell_k (k := 5) (by decide)) rfl rfl rfl (Nat.le_of_ble_eq_true rfl) dX5_slides_12 (fun r1 M3 e3 => ?_)
      obtain ⟨q3, e3⟩ := e3
      subst q3
      refine wl_if_eqB C 24 dX5_slides_15 (by decide) (fun c_15 => ?_) (fun c_15 => ?_)
      · refine wl_iload C 4 dX5_slides_24 rfl ?_
        exact hret _ 26 _ (nI t) dX5_slides_26 (by (have e : fsN s b d most = t := (by unfold fsN; rw [fsT_first hA (by unfold fkF; rw [show mvN (s.2.2.2 b) d (t + 1) = mvP (mvN (s.2.2.2 b) d t) (stX d) (stY d) from rfl, c_15]; rfl) (by omega)])); rw [if_neg (by rw [c_15]; exact Bool.false_ne_true)] at e3; rw [e, e3]; exact ⟨rfl, hI⟩)
      · refine wl_iinc1 (k := t) (L' := [(4, .int (nI (t + 1))), (0, .ref (G.2.2.1 232)), (1, .int (nI b)), (2, .int (nI d)), (3, .int (nI most))]) C 4 dX5_slides_18 rfl (by decide) rfl ?_
        refine wl_goto C 3 dX5_slides_21 (by decide) ?_
        refine wl_sub (L' := [(0, .ref (G.2.2.1 232)), (1, .int (nI b)), (2, .int (nI d)), (3, .int (nI most)), (4, .int (nI (t + 1)))]) [1, 2, 3, 4, 0] rfl ?_
        rw [if_pos c_15] at e3
        exact ih (by omega) (by simp only [anT, hA, Bool.false_or, fkF]; rw [show mvN (s.2.2.2 b) d (t + 1) = mvP (mvN (s.2.2.2 b) d t) (stX d) (stY d) from rfl, c_15]; rfl) M3 ⟨by rw [e3]; exact hI.1.tr On3.rw, by rw [e3, rwA_at]; exact hI.2.1.tr (mvR_fr (by rw [mvN_n]; exact h6)), by rw [e3, rwA_at]; exact mvR_bd hI.2.2 (by omega)⟩
  refine wl_sub (L' := [(0, .ref (G.2.2.1 232)), (1, .int (nI b)), (2, .int (nI d)), (3, .int (nI most)), (4, .int (nI 0))]) [1, 2, 3, 4, 0] rfl ?_
  exact h3 0 (Nat.zero_le _) rfl M ⟨On3.rf, FrB.rf, hs.2.2.2.2 b hb⟩
set_option maxHeartbeats 4000000 in
set_option maxRecDepth 100000 in
theorem c_X5_settles (l : Launch) (G : Gw) (M : Mem) (s : St) (hs : PkM (M 233) s) (hW : WfS s) (d : Nat) (hd : d < 8) : Ci l G yX5_settles wsX5_settles 10 231 [.ref (G.2.2.1 232), .int (nI d)] M (fun r M' => r = nI (seS d 1000 s 0).2 ∧ On3 M M' ∧ PkM (M' 233) (seS d 1000 s 0).1) := by
  refine Ci.of (cc := cX5_settles) (maxL := 5) (ret := (some .int)) (by decide +kernel) rfl (Nat.le_of_ble_eq_true rfl) ?_
  intro x sz hl0 hr C
  subst hl0
  have C : CX x G (AA G sz) RX5 cX5_settles 5 wsX5_settles 10 231 0 0 := C
  have hret : ∀ (M0 : Mem) (pc0 : Nat) (L0 : List (Nat × Value)) (rv0 : Int32), decode cX5_settles pc0 = .ok (.ireturn, 1) → (fun r M' => r = nI (seS d 1000 s 0).2 ∧ On3 M M' ∧ PkM (M' 233) (seS d 1000 s 0).1) rv0 M0 → WL x G (AA G sz) 5 0 0 (xQ x (va_Qi (fun r M' => r = nI (seS d 1000 s 0).2 ∧ On3 M M' ∧ PkM (M' 233) (seS d 1000 s 0).1) (WE G) (AA G sz)) (AA G sz)) M0 pc0 L0 [.int rv0] := fun M0 pc0 L0 rv0 hd hp => wl_iret (post := (fun r M' => r = nI (seS d 1000 s 0).2 ∧ On3 M M' ∧ PkM (M' 233) (seS d 1000 s 0).1)) C hr hd hp
  show WL x G (AA G sz) 5 0 0 (xQ x (va_Qi (fun r M' => r = nI (seS d 1000 s 0).2 ∧ On3 M M' ∧ PkM (M' 233) (seS d 1000 s 0).1) (WE G) (AA G sz)) (AA G sz)) M 0 [(0, .ref (G.2.2.1 232)), (1, .int (nI d))] []
  generalize (xQ x (va_Qi (fun r M' => r = nI (seS d 1000 s 0).2 ∧ On3 M M' ∧ PkM (M' 233) (seS d 1000 s 0).1) (WE G) (AA G sz)) (AA G sz)) = QQ at hret ⊢
  have in5 : ∀ w ∈ wsX50, w ∈ wsX5_settles := by decide +kernel
  have fl7 : Jvm.Cond.fieldLink RX5 7 "JammedBodiesModel" "all" "[I" ∈ wsX5_settles := by decide +kernel
  have h8 := hs.r
  refine wl_iconst (v := nI 0) C dX5_settles_0 (by first | decide | rfl) ?_
  refine wl_istore_n (L' := [(2, .int (nI 0)), (0, .ref (G.2.2.1 232)), (1, .int (nI d))]) C dX5_settles_1 rfl (by decide) rfl ?_
  refine wl_iconst (v := (-1)) C dX5_settles_2 (by decide) ?_
  refine wl_istore_n (L' := [(3, .int (-1)), (2, .int (nI 0)), (0, .ref (G.2.2.1 232)), (1, .int (nI d))]) C dX5_settles_3 rfl (by decide) rfl ?_
  have h4 : ∀ r, r ≤ 1000 → ∀ (s2 : St) (all : Nat) (had : Int32) (M2 : Mem), stI s d r s2 all had → On3 M M2 ∧ PkM (M2 233) s2 → WL x G (AA G sz) 5 0 0 QQ M2 4 [(0, .ref (G.2.2.1 232)), (1, .int (nI d)), (2, .int (nI all)), (3, .int had)] [] := by
    refine up_loop 1000 _ ?_
    intro r hr1 ih s2 all had M2 hJ hI
    have h82 : s2.1 ≤ 8 := by rw [hJ.2.1]; exact h8
    refine wl_iload_n C 2 dX5_settles_4 rfl rfl ?_
    refine wl_iload_n C 3 dX5_settles_5 rfl rfl ?_
    refine wl_icmp_eq C 46 dX5_settles_6 (by decide) (fun c_6 => ?_) (fun c_6 => ?_)
    · refine wl_iload_n C 2 dX5_settles_46 rfl rfl ?_
      exact hret _ 47 _ (nI all) dX5_settles_47 (by (have e := hJ.2.2.2.1 c_6); rw [e]; exact ⟨rfl, hI⟩)
    · refine wl_iload_n C 2 dX5_settles_9 rfl rfl ?_
      refine wl_istore_n (L' := [(3, .int (nI all)), (0, .ref (G.2.2.1 232)), (1, .int (nI d)), (2, .int (nI all))]) C dX5_settles_10 rfl (by decide) rfl ?_
      refine wl_iconst (v := nI 0) C dX5_settles_11 (by first | decide | rfl) ?_
      refine wl_istore (L' := [(4, .int (nI 0)), (3, .int (nI all)), (0, .ref (G.2.2.1 232)), (1, .int (nI d)), (2, .int (nI all))]) C dX5_settles_12 (by decide) rfl ?_
      have h14 : ∀ k, k ≤ s2.1 → ∀ M3 : Mem, On3 M M3 ∧ PkM (M3 233) (rdS s2 d k).1 → WL x G (AA G sz) 5 0 0 QQ M3 14 [(0, .ref (G.2.2.1 232)), (1, .int (nI d)), (2, .int (nI (all + (rdS s2 d k).2))), (3, .int (nI all)), (4, .int (nI k))] [] := by
        refine up_loop s2.1 _ ?_
        intro k hk ih3 M3 hI3
        have wk := rdS_wf (d := d) hJ.1 k hk
        have n1 := (rdS_1 s2 d k).1
        refine wl_iload C 4 dX5_settles_14 rfl ?_
        refine wl_aload_n C 0 dX5_settles_16 rfl rfl ?_
        refine wl_get_Model_all (i := 232) C (by decide) in5 fl7 dX5_settles_17 ?_
        refine wl_iconst (v := 2) C dX5_settles_20 (by decide) ?_
        refine wl_iald (j := 2) (n := 120) (v := nI s2.1) C (by decide) (cell_k (k := 10) (by decide)) (rfl) (by decide) (by decide) (by rw [← (rdS_1 s2 d k).1]; exact hI3.2.2.2.1) dX5_settles_21 ?_
        refine wl_icmp_geN C (a := k) (b := s2.1) (by omega) (by omega) 43 dX5_settles_22 (by decide) (fun c_22 => ?_) (fun c_22 => ?_)
        · refine wl_goto C 4 dX5_settles_43 (by decide) ?_
          refine wl_sub (L' := [(0, .ref (G.2.2.1 232)), (1, .int (nI d)), (2, .int (nI (all + (rdS s2 d k).2))), (3, .int (nI all))]) [0, 1, 2, 3] rfl ?_
          have ek : k = s2.1 := by omega
          have hst := stI_step hW h8 hd hJ c_6
          rw [← ek] at hst
          exact ih (by omega) (rdS s2 d k).1 (all + (rdS s2 d k).2) (nI all) M3 hst.1 hI3
        · refine wl_iload_n C 2 dX5_settles_25 rfl rfl ?_
          refine wl_aload_n C 0 dX5_settles_26 rfl rfl ?_
          refine wl_iload C 4 dX5_settles_27 rfl ?_
          refine wl_iload_n C 1 dX5_settles_29 rfl rfl ?_
          refine wl_bipush (v := nI 61) C dX5_settles_30 (by decide) ?_
          refine wl_callVi (i := 232) (n := 3) C [.int (nI k), .int (nI d), .int (nI 61)] [.int (nI (all + (rdS s2 d k).2))] (c_X5_slides _ G M3 (rdS s2 d k).1 hI3.2 wk k d 61 (by omega) hd (by decide)) gX5_settles_X5_slides rfl (by decide +kernel) (by decide) (by decide) (kd_lt (k := 5) (by decide) (by decide)) (cell_k (k := 5) (by decide)) rfl rfl rfl (Nat.le_of_ble_eq_true rfl) dX5_settles_32 (fun r4 M4 e4 => ?_)
          obtain ⟨q4, f4, g4, b4⟩ := e4
          subst q4
          rw [fs61 wk (by omega) hd] at b4 ⊢
          refine wl_iadd C dX5_settles_35 ?_
          refine wl_eqi (b := nI (all + (rdS s2 d (k + 1)).2)) (by rw [nI_add, Nat.add_assoc]; rfl) ?_
          refine wl_istore_n (L' := [(2, .int (nI (all + (rdS s2 d (k + 1)).2))), (0, .ref (G.2.2.1 232)), (1, .int (nI d)), (3, .int (nI all)), (4, .int (nI k))]) C dX5_settles_36 rfl (by decide) rfl ?_
          refine wl_iinc1 (k := k) (L' := [(4, .int (nI (k + 1))), (2, .int (nI (all + (rdS s2 d (k + 1)).2))), (0, .ref (G.2.2.1 232)), (1, .int (nI d)), (3, .int (nI all))]) C 4 dX5_settles_37 rfl (by decide) rfl ?_
          refine wl_goto C 14 dX5_settles_40 (by decide) ?_
          refine wl_sub (L' := [(0, .ref (G.2.2.1 232)), (1, .int (nI d)), (2, .int (nI (all + (rdS s2 d (k + 1)).2))), (3, .int (nI all)), (4, .int (nI (k + 1)))]) [2, 3, 1, 4, 0] rfl ?_
          rw [mvN_sh] at b4
          exact ih3 (by omega) M4 ⟨hI3.1.tr f4, ((hI3.2.X k).fr g4 (by omega)).M b4⟩
      refine wl_sub (L' := [(0, .ref (G.2.2.1 232)), (1, .int (nI d)), (2, .int (nI all)), (3, .int (nI all)), (4, .int (nI 0))]) [2, 3, 4, 1, 0] rfl ?_
      exact h14 0 (Nat.zero_le _) M2 hI
  refine wl_sub (L' := [(0, .ref (G.2.2.1 232)), (1, .int (nI d)), (2, .int (nI 0)), (3, .int (-1))]) [2, 3, 1, 0] rfl ?_
  exact h4 0 (Nat.zero_le _) s 0 (-1) M (stI_0 hW) ⟨On3.rf, hs⟩
set_option maxHeartbeats 4000000 in
set_option maxRecDepth 100000 in
theorem c_X5_area (l : Launch) (G : Gw) (M : Mem) (b : Nat) (P : Py) (hb : b ≤ 8) (hB : BdM (M 233) b P) (h0 : 0 < P.1) : Cp l G yX5_area wsX5_area 2 43 [.ref (G.2.2.1 232), .int (nI b)] M (pArea P) := by
  refine Ci.of (cc := cX5_area) (maxL := 4) (ret := (some .int)) (by decide +kernel) rfl (Nat.le_of_ble_eq_true rfl) ?_
  intro x sz hl0 hr C
  subst hl0
  have C : CX x G (AA G sz) RX5 cX5_area 4 wsX5_area 2 43 0 0 := C
  have hret : ∀ (M0 : Mem) (pc0 : Nat) (L0 : List (Nat × Value)) (rv0 : Int32), decode cX5_area pc0 = .ok (.ireturn, 1) → (fun (r : Int32) (M' : Mem) => r = pArea P ∧ M' = M) rv0 M0 → WL x G (AA G sz) 4 0 0 (xQ x (va_Qi (fun (r : Int32) (M' : Mem) => r = pArea P ∧ M' = M) (WE G) (AA G sz)) (AA G sz)) M0 pc0 L0 [.int rv0] := fun M0 pc0 L0 rv0 hd hp => wl_iret (post := (fun (r : Int32) (M' : Mem) => r = pArea P ∧ M' = M)) C hr hd hp
  show WL x G (AA G sz) 4 0 0 (xQ x (va_Qi (fun (r : Int32) (M' : Mem) => r = pArea P ∧ M' = M) (WE G) (AA G sz)) (AA G sz)) M 0 [(0, .ref (G.2.2.1 232)), (1, .int (nI b))] []
  generalize (xQ x (va_Qi (fun (r : Int32) (M' : Mem) => r = pArea P ∧ M' = M) (WE G) (AA G sz)) (AA G sz)) = QQ at hret ⊢
  have h7 := hB.2.1
  refine wl_iconst (v := smT (pAf P) 0) C dX5_area_0 (by first | decide | rfl) ?_
  refine wl_istore_n (L' := [(2, .int (smT (pAf P) 0)), (0, .ref (G.2.2.1 232)), (1, .int (nI b))]) C dX5_area_1 rfl (by decide) rfl ?_
  refine wl_iconst (v := nI 0) C dX5_area_2 (by first | decide | rfl) ?_
  refine wl_istore_n (L' := [(3, .int (nI 0)), (2, .int (smT (pAf P) 0)), (0, .ref (G.2.2.1 232)), (1, .int (nI b))]) C dX5_area_3 rfl (by decide) rfl ?_
  have h4 : ∀ c, c ≤ P.1 → WL x G (AA G sz) 4 0 0 QQ M 4 [(0, .ref (G.2.2.1 232)), (1, .int (nI b)), (2, .int (smT (pAf P) c)), (3, .int (nI c))] [] := by
    refine up_loop P.1 _ ?_
    intro c hc ih
    refine wl_iload_n C 3 dX5_area_4 rfl rfl ?_
    refine wl_aload_n C 0 dX5_area_5 rfl rfl ?_
    refine wl_iload_n C 1 dX5_area_6 rfl rfl ?_
    refine wl_callVp (i := 232) (n := 1) C [.int (nI b)] [.int (nI c)] (c_X5_corners _ G M b P hb hB) gX5_area_X5_corners rfl (by decide +kernel) (by decide) (by decide) (kd_lt (k := 5) (by decide) (by decide)) (cell_k (k := 5) (by decide)) rfl rfl rfl (Nat.le_of_ble_eq_true rfl) dX5_area_7 ?_
    refine wl_icmp_geN C (a := c) (b := P.1) (by omega) (by omega) 53 dX5_area_10 (by decide) (fun c_10 => ?_) (fun c_10 => ?_)
    · refine wl_iload_n C 2 dX5_area_53 rfl rfl ?_
      exact hret _ 54 _ (smT (pAf P) c) dX5_area_54 (⟨by unfold pArea; rw [show P.1 = c by omega], rfl⟩)
    · refine wl_iload_n C 2 dX5_area_13 rfl rfl ?_
      refine wl_aload_n C 0 dX5_area_14 rfl rfl ?_
      refine wl_iload_n C 1 dX5_area_15 rfl rfl ?_
      refine wl_iload_n C 3 dX5_area_16 rfl rfl ?_
      refine wl_callVp (i := 232) (n := 2) C [.int (nI b), .int (nI c)] [.int (smT (pAf P) c)] (c_X5_x _ G M b c P hb hB h0 (by omega)) gX5_area_X5_x rfl (by decide +kernel) (by decide) (by decide) (kd_lt (k := 5) (by decide) (by decide)) (cell_k (k := 5) (by decide)) rfl rfl rfl (Nat.le_of_ble_eq_true rfl) dX5_area_17 ?_
      refine wl_eqi (b := P.2.1 c) (by rw [Nat.mod_eq_of_lt (by omega)]) ?_
      refine wl_aload_n C 0 dX5_area_20 rfl rfl ?_
      refine wl_iload_n C 1 dX5_area_21 rfl rfl ?_
      refine wl_iload_n C 3 dX5_area_22 rfl rfl ?_
      refine wl_iconst (v := 1) C dX5_area_23 (by decide) ?_
      refine wl_iadd C dX5_area_24 ?_
      refine wl_eqi (b := nI (c + 1)) (nI_1 c) ?_
      refine wl_callVp (i := 232) (n := 2) C [.int (nI b), .int (nI (c + 1))] [.int (P.2.1 c), .int (smT (pAf P) c)] (c_X5_y _ G M b (c + 1) P hb hB h0 (by omega)) gX5_area_X5_y rfl (by decide +kernel) (by decide) (by decide) (kd_lt (k := 5) (by decide) (by decide)) (cell_k (k := 5) (by decide)) rfl rfl rfl (Nat.le_of_ble_eq_true rfl) dX5_area_25 ?_
      refine wl_eqi (b := P.2.2 (nx P.1 c)) (by rw [nx_mod (by omega)]) ?_
      refine wl_imul C dX5_area_28 ?_
      refine wl_aload_n C 0 dX5_area_29 rfl rfl ?_
      refine wl_iload_n C 1 dX5_area_30 rfl rfl ?_
      refine wl_iload_n C 3 dX5_area_31 rfl rfl ?_
      refine wl_iconst (v := 1) C dX5_area_32 (by decide) ?_
      refine wl_iadd C dX5_area_33 ?_
      refine wl_eqi (b := nI (c + 1)) (nI_1 c) ?_
      refine wl_callVp (i := 232) (n := 2) C [.int (nI b), .int (nI (c + 1))] [.int ((P.2.1 c) * (P.2.2 (nx P.1 c))), .int (smT (pAf P) c)] (c_X5_x _ G M b (c + 1) P hb hB h0 (by omega)) gX5_area_X5_x rfl (by decide +kernel) (by decide) (by decide) (kd_lt (k := 5) (by decide) (by decide)) (cell_k (k := 5) (by decide)) rfl rfl rfl (Nat.le_of_ble_eq_true rfl) dX5_area_34 ?_
      refine wl_eqi (b := P.2.1 (nx P.1 c)) (by rw [nx_mod (by omega)]) ?_
      refine wl_aload_n C 0 dX5_area_37 rfl rfl ?_
      refine wl_iload_n C 1 dX5_area_38 rfl rfl ?_
      refine wl_iload_n C 3 dX5_area_39 rfl rfl ?_
      refine wl_callVp (i := 232) (n := 2) C [.int (nI b), .int (nI c)] [.int (P.2.1 (nx P.1 c)), .int ((P.2.1 c) * (P.2.2 (nx P.1 c))), .int (smT (pAf P) c)] (c_X5_y _ G M b c P hb hB h0 (by omega)) gX5_area_X5_y rfl (by decide +kernel) (by decide) (by decide) (kd_lt (k := 5) (by decide) (by decide)) (cell_k (k := 5) (by decide)) rfl rfl rfl (Nat.le_of_ble_eq_true rfl) dX5_area_40 ?_
      refine wl_eqi (b := P.2.2 c) (by rw [Nat.mod_eq_of_lt (by omega)]) ?_
      refine wl_imul C dX5_area_43 ?_
      refine wl_isub C dX5_area_44 ?_
      refine wl_iadd C dX5_area_45 ?_
      refine wl_eqi (b := smT (pAf P) (c + 1)) (rfl) ?_
      refine wl_istore_n (L' := [(2, .int (smT (pAf P) (c + 1))), (0, .ref (G.2.2.1 232)), (1, .int (nI b)), (3, .int (nI c))]) C dX5_area_46 rfl (by decide) rfl ?_
      refine wl_iinc1 (k := c) (L' := [(3, .int (nI (c + 1))), (2, .int (smT (pAf P) (c + 1))), (0, .ref (G.2.2.1 232)), (1, .int (nI b))]) C 3 dX5_area_47 rfl (by decide) rfl ?_
      refine wl_goto C 4 dX5_area_50 (by decide) ?_
      refine wl_sub (L' := [(0, .ref (G.2.2.1 232)), (1, .int (nI b)), (2, .int (smT (pAf P) (c + 1))), (3, .int (nI (c + 1)))]) [2, 3, 1, 0] rfl ?_
      exact ih (by omega)
  refine wl_sub (L' := [(0, .ref (G.2.2.1 232)), (1, .int (nI b)), (2, .int (smT (pAf P) 0)), (3, .int (nI 0))]) [2, 3, 1, 0] rfl ?_
  exact h4 0 (Nat.zero_le _)
set_option maxHeartbeats 4000000 in
set_option maxRecDepth 100000 in
theorem c_X5_areas (l : Launch) (G : Gw) (M : Mem) (s : St) (hs : PkM (M 233) s) (hW : WfS s) : Cp l G yX5_areas wsX5_areas 3 66 [.ref (G.2.2.1 232)] M (areaS s) := by
  refine Ci.of (cc := cX5_areas) (maxL := 3) (ret := (some .int)) (by decide +kernel) rfl (Nat.le_of_ble_eq_true rfl) ?_
  intro x sz hl0 hr C
  subst hl0
  have C : CX x G (AA G sz) RX5 cX5_areas 3 wsX5_areas 3 66 0 0 := C
  have hret : ∀ (M0 : Mem) (pc0 : Nat) (L0 : List (Nat × Value)) (rv0 : Int32), decode cX5_areas pc0 = .ok (.ireturn, 1) → (fun (r : Int32) (M' : Mem) => r = areaS s ∧ M' = M) rv0 M0 → WL x G (AA G sz) 3 0 0 (xQ x (va_Qi (fun (r : Int32) (M' : Mem) => r = areaS s ∧ M' = M) (WE G) (AA G sz)) (AA G sz)) M0 pc0 L0 [.int rv0] := fun M0 pc0 L0 rv0 hd hp => wl_iret (post := (fun (r : Int32) (M' : Mem) => r = areaS s ∧ M' = M)) C hr hd hp
  show WL x G (AA G sz) 3 0 0 (xQ x (va_Qi (fun (r : Int32) (M' : Mem) => r = areaS s ∧ M' = M) (WE G) (AA G sz)) (AA G sz)) M 0 [(0, .ref (G.2.2.1 232))] []
  generalize (xQ x (va_Qi (fun (r : Int32) (M' : Mem) => r = areaS s ∧ M' = M) (WE G) (AA G sz)) (AA G sz)) = QQ at hret ⊢
  have in5 : ∀ w ∈ wsX50, w ∈ wsX5_areas := by decide +kernel
  have fl7 : Jvm.Cond.fieldLink RX5 7 "JammedBodiesModel" "all" "[I" ∈ wsX5_areas := by decide +kernel
  have h8 := hs.r
  refine wl_iconst (v := smT (arF s) 0) C dX5_areas_0 (by first | decide | rfl) ?_
  refine wl_istore_n (L' := [(1, .int (smT (arF s) 0)), (0, .ref (G.2.2.1 232))]) C dX5_areas_1 rfl (by decide) rfl ?_
  refine wl_iconst (v := nI 0) C dX5_areas_2 (by first | decide | rfl) ?_
  refine wl_istore_n (L' := [(2, .int (nI 0)), (1, .int (smT (arF s) 0)), (0, .ref (G.2.2.1 232))]) C dX5_areas_3 rfl (by decide) rfl ?_
  have h4 : ∀ k, k ≤ s.1 → WL x G (AA G sz) 3 0 0 QQ M 4 [(0, .ref (G.2.2.1 232)), (1, .int (smT (arF s) k)), (2, .int (nI k))] [] := by
    refine up_loop s.1 _ ?_
    intro k hk ih
    refine wl_iload_n C 2 dX5_areas_4 rfl rfl ?_
    refine wl_aload_n C 0 dX5_areas_5 rfl rfl ?_
    refine wl_get_Model_all (i := 232) C (by decide) in5 fl7 dX5_areas_6 ?_
    refine wl_iconst (v := 2) C dX5_areas_9 (by decide) ?_
    refine wl_iald (j := 2) (n := 120) (v := nI s.1) C (by decide) (cell_k (k := 10) (by decide)) (rfl) (by decide) (by decide) hs.2.2.1 dX5_areas_10 ?_
    refine wl_icmp_geN C (a := k) (b := s.1) (by omega) (by omega) 28 dX5_areas_11 (by decide) (fun c_11 => ?_) (fun c_11 => ?_)
    · refine wl_iload_n C 1 dX5_areas_28 rfl rfl ?_
      exact hret _ 29 _ (smT (arF s) k) dX5_areas_29 (⟨by unfold areaS; rw [show s.1 = k by omega], rfl⟩)
    · refine wl_iload_n C 1 dX5_areas_14 rfl rfl ?_
      refine wl_aload_n C 0 dX5_areas_15 rfl rfl ?_
      refine wl_iload_n C 2 dX5_areas_16 rfl rfl ?_
      refine wl_callVp (i := 232) (n := 1) C [.int (nI k)] [.int (smT (arF s) k)] (c_X5_area _ G M k (s.2.2.2 k) (by omega) (hs.2.2.2.2 k (by omega)) (by have := (hW.2 k (by omega)).1; omega)) gX5_areas_X5_area rfl (by decide +kernel) (by decide) (by decide) (kd_lt (k := 5) (by decide) (by decide)) (cell_k (k := 5) (by decide)) rfl rfl rfl (Nat.le_of_ble_eq_true rfl) dX5_areas_17 ?_
      refine wl_iadd C dX5_areas_20 ?_
      refine wl_eqi (b := smT (arF s) (k + 1)) (rfl) ?_
      refine wl_istore_n (L' := [(1, .int (smT (arF s) (k + 1))), (0, .ref (G.2.2.1 232)), (2, .int (nI k))]) C dX5_areas_21 rfl (by decide) rfl ?_
      refine wl_iinc1 (k := k) (L' := [(2, .int (nI (k + 1))), (1, .int (smT (arF s) (k + 1))), (0, .ref (G.2.2.1 232))]) C 2 dX5_areas_22 rfl (by decide) rfl ?_
      refine wl_goto C 4 dX5_areas_25 (by decide) ?_
      refine wl_sub (L' := [(0, .ref (G.2.2.1 232)), (1, .int (smT (arF s) (k + 1))), (2, .int (nI (k + 1)))]) [2, 1, 0] rfl ?_
      exact ih (by omega)
  refine wl_sub (L' := [(0, .ref (G.2.2.1 232)), (1, .int (smT (arF s) 0)), (2, .int (nI 0))]) [2, 1, 0] rfl ?_
  exact h4 0 (Nat.zero_le _)
set_option maxHeartbeats 4000000 in
set_option maxRecDepth 100000 in
theorem c_X5_copyBody (l : Launch) (G : Gw) (M : Mem) (a b : Nat) (ha : a ≤ 8) (hb : b ≤ 8) (hne : a ≠ b) : Cv l G yX5_copyBody wsX5_copyBody 0 0 [.ref (G.2.2.1 232), .int (nI a), .int (nI b)] M (fun M' => On3 M M' ∧ cpM (M 233) a b 6 (M' 233)) := by
  refine Cv.of (cc := cX5_copyBody) (maxL := 4) (ret := none) (by decide +kernel) rfl (Nat.le_of_ble_eq_true rfl) ?_
  intro x sz hl0 hr C
  subst hl0
  have C : CX x G (AA G sz) RX5 cX5_copyBody 4 wsX5_copyBody 0 0 0 0 := C
  have hret : ∀ (M0 : Mem) (pc0 : Nat) (L0 : List (Nat × Value)), decode cX5_copyBody pc0 = .ok (.return_, 1) → (fun M' => On3 M M' ∧ cpM (M 233) a b 6 (M' 233)) M0 → WL x G (AA G sz) 4 0 0 (xQ x (va_Qv (fun M' => On3 M M' ∧ cpM (M 233) a b 6 (M' 233)) (WE G) (AA G sz)) (AA G sz)) M0 pc0 L0 [] := fun M0 pc0 L0 hd hp => wl_vret (post := (fun M' => On3 M M' ∧ cpM (M 233) a b 6 (M' 233))) C hr hd hp
  show WL x G (AA G sz) 4 0 0 (xQ x (va_Qv (fun M' => On3 M M' ∧ cpM (M 233) a b 6 (M' 233)) (WE G) (AA G sz)) (AA G sz)) M 0 [(0, .ref (G.2.2.1 232)), (1, .int (nI a)), (2, .int (nI b))] []
  generalize (xQ x (va_Qv (fun M' => On3 M M' ∧ cpM (M 233) a b 6 (M' 233)) (WE G) (AA G sz)) (AA G sz)) = QQ at hret ⊢
  have in5 : ∀ w ∈ wsX50, w ∈ wsX5_copyBody := by decide +kernel
  have fl7 : Jvm.Cond.fieldLink RX5 7 "JammedBodiesModel" "all" "[I" ∈ wsX5_copyBody := by decide +kernel
  refine wl_aload_n C 0 dX5_copyBody_0 rfl rfl ?_
  refine wl_get_Model_all (i := 232) C (by decide) in5 fl7 dX5_copyBody_1 ?_
  refine wl_iconst (v := 3) C dX5_copyBody_4 (by decide) ?_
  refine wl_iload_n C 2 dX5_copyBody_5 rfl rfl ?_
  refine wl_iadd C dX5_copyBody_6 ?_
  refine wl_aload_n C 0 dX5_copyBody_7 rfl rfl ?_
  refine wl_get_Model_all (i := 232) C (by decide) in5 fl7 dX5_copyBody_8 ?_
  refine wl_iconst (v := 3) C dX5_copyBody_11 (by decide) ?_
  refine wl_iload_n C 1 dX5_copyBody_12 rfl rfl ?_
  refine wl_iadd C dX5_copyBody_13 ?_
  refine wl_iald (j := 3 + a) (n := 120) (v := M 233 (3 + a)) C (by decide) (cell_k (k := 10) (by decide)) (nI_add 3 a) (by omega) (by decide) rfl dX5_copyBody_14 ?_
  refine wl_iast (j := 3 + b) (n := 120) C (by decide) (fun M => (cell_k (k := 10) (by decide))) (nI_add 3 b) (by omega) (by decide) dX5_copyBody_15 ?_
  obtain ⟨M1, eM1⟩ : ∃ z : Mem, z = (mset M 233 (3 + b) (M 233 (3 + a))) := ⟨_, rfl⟩
  rw [← eM1]
  have c1 : cpM (M 233) a b 0 (M1 233) := ⟨by rw [eM1]; exact mset_self _ _ _ _, fun j hj => absurd hj (Nat.not_lt_zero _), fun j hj => by rw [eM1]; exact mset_ne (by unfold ArB at hj; omega)⟩
  refine wl_iconst (v := nI 0) C dX5_copyBody_16 (by first | decide | rfl) ?_
  refine wl_istore_n (L' := [(3, .int (nI 0)), (0, .ref (G.2.2.1 232)), (1, .int (nI a)), (2, .int (nI b))]) C dX5_copyBody_17 rfl (by decide) rfl ?_
  have h18 : ∀ c, c ≤ 6 → ∀ M2 : Mem, On3 M M2 ∧ cpM (M 233) a b c (M2 233) → WL x G (AA G sz) 4 0 0 QQ M2 18 [(0, .ref (G.2.2.1 232)), (1, .int (nI a)), (2, .int (nI b)), (3, .int (nI c))] [] := by
    refine up_loop 6 _ ?_
    intro c hc ih M2 hI
    refine wl_iload_n C 3 dX5_copyBody_18 rfl rfl ?_
    refine wl_bipush (v := nI 6) C dX5_copyBody_19 (by decide) ?_
    refine wl_icmp_geN C (a := c) (b := 6) (by omega) (by omega) 86 dX5_copyBody_21 (by decide) (fun c_21 => ?_) (fun c_21 => ?_)
    · exact hret _ 86 _ dX5_copyBody_86 (⟨hI.1, by rw [show 6 = c by omega]; exact hI.2⟩)
    · refine wl_aload_n C 0 dX5_copyBody_24 rfl rfl ?_
      refine wl_get_Model_all (i := 232) C (by decide) in5 fl7 dX5_copyBody_25 ?_
      refine wl_bipush (v := 12) C dX5_copyBody_28 (by decide) ?_
      refine wl_bipush (v := 6) C dX5_copyBody_30 (by decide) ?_
      refine wl_iload_n C 2 dX5_copyBody_32 rfl rfl ?_
      refine wl_imul C dX5_copyBody_33 ?_
      refine wl_iadd C dX5_copyBody_34 ?_
      refine wl_iload_n C 3 dX5_copyBody_35 rfl rfl ?_
      refine wl_iadd C dX5_copyBody_36 ?_
      refine wl_aload_n C 0 dX5_copyBody_37 rfl rfl ?_
      refine wl_get_Model_all (i := 232) C (by decide) in5 fl7 dX5_copyBody_38 ?_
      refine wl_bipush (v := 12) C dX5_copyBody_41 (by decide) ?_
      refine wl_bipush (v := 6) C dX5_copyBody_43 (by decide) ?_
      refine wl_iload_n C 1 dX5_copyBody_45 rfl rfl ?_
      refine wl_imul C dX5_copyBody_46 ?_
      refine wl_iadd C dX5_copyBody_47 ?_
      refine wl_iload_n C 3 dX5_copyBody_48 rfl rfl ?_
      refine wl_iadd C dX5_copyBody_49 ?_
      refine wl_iald (j := 12 + 6 * a + c) (n := 120) (v := M 233 (12 + 6 * a + c)) C (by decide) (cell_k (k := 10) (by decide)) (ixA 12 a c) (by omega) (by decide) (hI.2.2.2 _ (by unfold ArB; omega)) dX5_copyBody_50 ?_
      refine wl_iast (j := 12 + 6 * b + c) (n := 120) C (by decide) (fun M => (cell_k (k := 10) (by decide))) (ixA 12 b c) (by omega) (by decide) dX5_copyBody_51 ?_
      refine wl_aload_n C 0 dX5_copyBody_52 rfl rfl ?_
      refine wl_get_Model_all (i := 232) C (by decide) in5 fl7 dX5_copyBody_53 ?_
      refine wl_bipush (v := 66) C dX5_copyBody_56 (by decide) ?_
      refine wl_bipush (v := 6) C dX5_copyBody_58 (by decide) ?_
      refine wl_iload_n C 2 dX5_copyBody_60 rfl rfl ?_
      refine wl_imul C dX5_copyBody_61 ?_
      refine wl_iadd C dX5_copyBody_62 ?_
      refine wl_iload_n C 3 dX5_copyBody_63 rfl rfl ?_
      refine wl_iadd C dX5_copyBody_64 ?_
      refine wl_aload_n C 0 dX5_copyBody_65 rfl rfl ?_
      refine wl_get_Model_all (i := 232) C (by decide) in5 fl7 dX5_copyBody_66 ?_
      refine wl_bipush (v := 66) C dX5_copyBody_69 (by decide) ?_
      refine wl_bipush (v := 6) C dX5_copyBody_71 (by decide) ?_
      refine wl_iload_n C 1 dX5_copyBody_73 rfl rfl ?_
      refine wl_imul C dX5_copyBody_74 ?_
      refine wl_iadd C dX5_copyBody_75 ?_
      refine wl_iload_n C 3 dX5_copyBody_76 rfl rfl ?_
      refine wl_iadd C dX5_copyBody_77 ?_
      refine wl_iald (j := 66 + 6 * a + c) (n := 120) (v := M 233 (66 + 6 * a + c)) C (by decide) (cell_k (k := 10) (by decide)) (ixA 66 a c) (by omega) (by decide) (by rw [mset_ne (by omega)]; exact hI.2.2.2 _ (by unfold ArB; omega)) dX5_copyBody_78 ?_
      refine wl_iast (j := 66 + 6 * b + c) (n := 120) C (by decide) (fun M => (cell_k (k := 10) (by decide))) (ixA 66 b c) (by omega) (by decide) dX5_copyBody_79 ?_
      refine wl_iinc1 (k := c) (L' := [(3, .int (nI (c + 1))), (0, .ref (G.2.2.1 232)), (1, .int (nI a)), (2, .int (nI b))]) C 3 dX5_copyBody_80 rfl (by decide) rfl ?_
      refine wl_goto C 18 dX5_copyBody_83 (by decide) ?_
      refine wl_sub (L' := [(0, .ref (G.2.2.1 232)), (1, .int (nI a)), (2, .int (nI b)), (3, .int (nI (c + 1)))]) [1, 2, 3, 0] rfl ?_
      exact ih (by omega) _ ⟨hI.1.tr (On3.set.tr On3.set), cpM_step hI.2 hb (by omega)⟩
  refine wl_sub (L' := [(0, .ref (G.2.2.1 232)), (1, .int (nI a)), (2, .int (nI b)), (3, .int (nI 0))]) [1, 2, 3, 0] rfl ?_
  exact h18 0 (Nat.zero_le _) M1 ⟨by rw [eM1]; exact On3.set, c1⟩
set_option maxHeartbeats 4000000 in
set_option maxRecDepth 100000 in
theorem c_X5_takesOut (l : Launch) (G : Gw) (M : Mem) (s : St) (hs : PkM (M 233) s) (k : Nat) (hk : k < s.1) : Cv l G yX5_takesOut wsX5_takesOut 1 23 [.ref (G.2.2.1 232), .int (nI k)] M (fun M' => On3 M M' ∧ PkM (M' 233) (outS s k)) := by
  refine Cv.of (cc := cX5_takesOut) (maxL := 3) (ret := none) (by decide +kernel) rfl (Nat.le_of_ble_eq_true rfl) ?_
  intro x sz hl0 hr C
  subst hl0
  have C : CX x G (AA G sz) RX5 cX5_takesOut 3 wsX5_takesOut 1 23 0 0 := C
  have hret : ∀ (M0 : Mem) (pc0 : Nat) (L0 : List (Nat × Value)), decode cX5_takesOut pc0 = .ok (.return_, 1) → (fun M' => On3 M M' ∧ PkM (M' 233) (outS s k)) M0 → WL x G (AA G sz) 3 0 0 (xQ x (va_Qv (fun M' => On3 M M' ∧ PkM (M' 233) (outS s k)) (WE G) (AA G sz)) (AA G sz)) M0 pc0 L0 [] := fun M0 pc0 L0 hd hp => wl_vret (post := (fun M' => On3 M M' ∧ PkM (M' 233) (outS s k))) C hr hd hp
  show WL x G (AA G sz) 3 0 0 (xQ x (va_Qv (fun M' => On3 M M' ∧ PkM (M' 233) (outS s k)) (WE G) (AA G sz)) (AA G sz)) M 0 [(0, .ref (G.2.2.1 232)), (1, .int (nI k))] []
  generalize (xQ x (va_Qv (fun M' => On3 M M' ∧ PkM (M' 233) (outS s k)) (WE G) (AA G sz)) (AA G sz)) = QQ at hret ⊢
  have in5 : ∀ w ∈ wsX50, w ∈ wsX5_takesOut := by decide +kernel
  have fl7 : Jvm.Cond.fieldLink RX5 7 "JammedBodiesModel" "all" "[I" ∈ wsX5_takesOut := by decide +kernel
  have h8 := hs.r
  refine wl_aload_n C 0 dX5_takesOut_0 rfl rfl ?_
  refine wl_get_Model_all (i := 232) C (by decide) in5 fl7 dX5_takesOut_1 ?_
  refine wl_iconst (v := 2) C dX5_takesOut_4 (by decide) ?_
  refine wl_dup2 C dX5_takesOut_5 rfl rfl ?_
  refine wl_iald (j := 2) (n := 120) (v := nI s.1) C (by decide) (cell_k (k := 10) (by decide)) (rfl) (by decide) (by decide) hs.2.2.1 dX5_takesOut_6 ?_
  refine wl_iconst (v := 1) C dX5_takesOut_7 (by decide) ?_
  refine wl_isub C dX5_takesOut_8 ?_
  refine wl_eqi (b := nI (s.1 - 1)) (nI_sub1 (by omega)) ?_
  refine wl_iast (j := 2) (n := 120) C (by decide) (fun M => (cell_k (k := 10) (by decide))) (rfl) (by decide) (by decide) dX5_takesOut_9 ?_
  obtain ⟨M1, eM1⟩ : ∃ z : Mem, z = (mset M 233 2 (nI (s.1 - 1))) := ⟨_, rfl⟩
  rw [← eM1]
  have h1 : ∀ j, j ≠ 2 → M1 233 j = M 233 j := fun j hj => by rw [eM1]; exact mset_ne (by omega)
  have h2 : M1 233 2 = nI (s.1 - 1) := by rw [eM1]; exact mset_self _ _ _ _
  refine wl_iload_n C 1 dX5_takesOut_10 rfl rfl ?_
  refine wl_istore_n (L' := [(2, .int (nI k)), (0, .ref (G.2.2.1 232)), (1, .int (nI k))]) C dX5_takesOut_11 rfl (by decide) rfl ?_
  have h12 : ∀ i, i ≤ s.1 - 1 → k ≤ i → ∀ M2 : Mem, On3 M M2 ∧ M2 233 0 = s.2.1 ∧ M2 233 1 = s.2.2.1 ∧ M2 233 2 = nI (s.1 - 1) ∧ (∀ j, j < s.1 → BdM (M2 233) j (toF s k i j)) → WL x G (AA G sz) 3 0 0 QQ M2 12 [(0, .ref (G.2.2.1 232)), (1, .int (nI k)), (2, .int (nI i))] [] := by
    refine up_loop (s.1 - 1) _ ?_
    intro i hi ih hki M2 hI
    refine wl_iload_n C 2 dX5_takesOut_12 rfl rfl ?_
    refine wl_aload_n C 0 dX5_takesOut_13 rfl rfl ?_
    refine wl_get_Model_all (i := 232) C (by decide) in5 fl7 dX5_takesOut_14 ?_
    refine wl_iconst (v := 2) C dX5_takesOut_17 (by decide) ?_
    refine wl_iald (j := 2) (n := 120) (v := nI (s.1 - 1)) C (by decide) (cell_k (k := 10) (by decide)) (rfl) (by decide) (by decide) hI.2.2.2.1 dX5_takesOut_18 ?_
    refine wl_icmp_geN C (a := i) (b := (s.1 - 1)) (by omega) (by omega) 36 dX5_takesOut_19 (by decide) (fun c_19 => ?_) (fun c_19 => ?_)
    · exact hret _ 36 _ dX5_takesOut_36 (⟨hI.1, hI.2.1, hI.2.2.1, hI.2.2.2.1, (by show s.1 - 1 ≤ 8; omega), fun j hj => by
    have hj1 : j < s.1 - 1 := hj
    have f4 := hI.2.2.2.2 j (by omega)
    rw [show i = s.1 - 1 by omega, toF_end (by omega)] at f4
    exact f4⟩)
    · refine wl_aload_n C 0 dX5_takesOut_22 rfl rfl ?_
      refine wl_iload_n C 2 dX5_takesOut_23 rfl rfl ?_
      refine wl_iconst (v := 1) C dX5_takesOut_24 (by decide) ?_
      refine wl_iadd C dX5_takesOut_25 ?_
      refine wl_eqi (b := nI (i + 1)) (nI_1 i) ?_
      refine wl_iload_n C 2 dX5_takesOut_26 rfl rfl ?_
      refine wl_callVv (i := 232) (n := 2) C [.int (nI (i + 1)), .int (nI i)] [] (c_X5_copyBody _ G M2 (i + 1) i (by omega) (by omega) (by omega)) gX5_takesOut_X5_copyBody rfl (by decide +kernel) (by decide) (by decide) (kd_lt (k := 5) (by decide) (by decide)) (cell_k (k := 5) (by decide)) rfl rfl rfl (Nat.le_of_ble_eq_true rfl) dX5_takesOut_27 (fun M3 e3 => ?_)
      have b3 : BdM (M3 233) i (s.2.2.2 (i + 1)) := cpM_end e3.2 (by have := hI.2.2.2.2 (i + 1) (by omega); rw [toF_hi (by omega)] at this; exact this)
      have f3 := e3.2.2.2
      refine wl_iinc1 (k := i) (L' := [(2, .int (nI (i + 1))), (0, .ref (G.2.2.1 232)), (1, .int (nI k))]) C 2 dX5_takesOut_30 rfl (by decide) rfl ?_
      refine wl_goto C 12 dX5_takesOut_33 (by decide) ?_
      refine wl_sub (L' := [(0, .ref (G.2.2.1 232)), (1, .int (nI k)), (2, .int (nI (i + 1)))]) [1, 2, 0] rfl ?_
      exact ih (by omega) (by omega) M3 ⟨hI.1.tr e3.1, by rw [f3 0 (by unfold ArB; omega)]; exact hI.2.1, by rw [f3 1 (by unfold ArB; omega)]; exact hI.2.2.1, by rw [f3 2 (by unfold ArB; omega)]; exact hI.2.2.2.1, fun j hj => by
        by_cases q2 : j = i
        · rw [q2, toF_at hki]; exact b3
        · rw [toF_ne q2]; exact (hI.2.2.2.2 j hj).fr f3 (by omega) (by omega) q2⟩
  refine wl_sub (L' := [(0, .ref (G.2.2.1 232)), (1, .int (nI k)), (2, .int (nI k))]) [1, 2, 0] rfl ?_
  exact h12 k (by omega) (Nat.le_refl k) M1 ⟨by rw [eM1]; exact On3.set, by rw [h1 0 (by omega)]; exact hs.1, by rw [h1 1 (by omega)]; exact hs.2.1, h2, fun j hj => by rw [toF_0]; exact (hs.2.2.2.2 j hj).any (fun x hx => h1 x (by omega))⟩
