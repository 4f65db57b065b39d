set_option maxHeartbeats 4000000 in
set_option maxRecDepth 100000 in
theorem c_X5_counts (l : Launch) (G : Gw) (M : Mem) (s : St) (hs : PkM (M 233) s) (hW : WfS s) (b j : Nat) (hb : b < s.1) (hj : j ≤ 3) : Cp l G yX5_counts wsX5_counts 12 274 [.ref (G.2.2.1 232), .int (nI b), .int (nI j)] M (bi (cnF s j b)) := by
  refine Ci.of (cc := cX5_counts) (maxL := 3) (ret := (some .boolean)) (by decide +kernel) rfl (Nat.le_of_ble_eq_true rfl) ?_
  intro x sz hl0 hr C
  subst hl0
  have C : CX x G (AA G sz) RX5 cX5_counts 3 wsX5_counts 12 274 0 0 := C
  have hret : ∀ (M0 : Mem) (pc0 : Nat) (L0 : List (Nat × Value)) (rv0 : Int32), narrow .boolean (.int rv0) = .int rv0 → decode cX5_counts pc0 = .ok (.ireturn, 1) → (fun (r : Int32) (M' : Mem) => r = bi (cnF s j b) ∧ M' = M) rv0 M0 → WL x G (AA G sz) 3 0 0 (xQ x (va_Qi (fun (r : Int32) (M' : Mem) => r = bi (cnF s j b) ∧ M' = M) (WE G) (AA G sz)) (AA G sz)) M0 pc0 L0 [.int rv0] := fun M0 pc0 L0 rv0 hn hd hp => wl_zret (post := (fun (r : Int32) (M' : Mem) => r = bi (cnF s j b) ∧ M' = M)) C hr hn hd hp
  show WL x G (AA G sz) 3 0 0 (xQ x (va_Qi (fun (r : Int32) (M' : Mem) => r = bi (cnF s j b) ∧ M' = M) (WE G) (AA G sz)) (AA G sz)) M 0 [(0, .ref (G.2.2.1 232)), (1, .int (nI b)), (2, .int (nI j))] []
  generalize (xQ x (va_Qi (fun (r : Int32) (M' : Mem) => r = bi (cnF s j b) ∧ M' = M) (WE G) (AA G sz)) (AA G sz)) = QQ at hret ⊢
  have h8 := hs.r
  refine wl_iload_n C 2 dX5_counts_0 rfl rfl ?_
  refine wl_if_ne C 12 dX5_counts_1 (by decide) (fun c_1 => ?_) (fun c_1 => ?_)
  · refine wl_iload_n C 2 dX5_counts_12 rfl rfl ?_
    refine wl_iconst (v := nI 1) C dX5_counts_13 (by first | decide | rfl) ?_
    refine wl_icmp_neN C (a := j) (b := 1) (by omega) (by omega) 33 dX5_counts_14 (by decide) (fun c_14 => ?_) (fun c_14 => ?_)
    · refine wl_iload_n C 2 dX5_counts_33 rfl rfl ?_
      refine wl_iconst (v := nI 2) C dX5_counts_34 (by first | decide | rfl) ?_
      refine wl_icmp_neN C (a := j) (b := 2) (by omega) (by omega) 55 dX5_counts_35 (by decide) (fun c_35 => ?_) (fun c_35 => ?_)
      · refine wl_aload_n C 0 dX5_counts_55 rfl rfl ?_
        refine wl_iload_n C 1 dX5_counts_56 rfl rfl ?_
        refine wl_iconst (v := 0) C dX5_counts_57 (by decide) ?_
        refine wl_callVp (i := 232) (n := 2) C [.int (nI b), .int 0] [] (c_X5_wallsBy _ G M b (s.2.2.2 b) (by omega) (hs.2.2.2.2 b hb) (hW.sm b hb) s.2.1 s.2.2.1 0 hs.1 hs.2.1) gX5_counts_X5_wallsBy rfl (by decide +kernel) (by decide) (by decide) (kd_lt (k := 5) (by decide) (by decide)) (cell_k (k := 5) (by decide)) rfl rfl rfl (Nat.le_of_ble_eq_true rfl) dX5_counts_58 ?_
        refine wl_eqi (b := pTouched (s.2.2.2 b) s.2.1 s.2.2.1) (mWb_0 (hW.2 b hb)) ?_
        refine wl_iconst (v := 4) C dX5_counts_61 (by decide) ?_
        refine wl_iand C dX5_counts_62 ?_
        suffices hJ63 : WL x G (AA G sz) 3 0 0 QQ M 71 [(0, .ref (G.2.2.1 232)), (1, .int (nI b)), (2, .int (nI j))] [.int (if ((pTouched (s.2.2.2 b) s.2.1 s.2.2.1) &&& 4) = 0 then 0 else 1)] by
          refine wl_if_eq C 70 dX5_counts_63 (by decide) (fun c_63 => ?_) (fun c_63 => ?_)
          · rw [if_pos c_63] at hJ63
            refine wl_iconst (v := 0) C dX5_counts_70 (by decide) ?_
            exact hJ63
          · rw [if_neg c_63] at hJ63
            refine wl_iconst (v := 1) C dX5_counts_66 (by decide) ?_
            refine wl_goto C 71 dX5_counts_67 (by decide) ?_
            exact hJ63
        refine wl_eqi (b := bi (waF s 4 b)) (b2_ne) ?_
        exact hret _ 71 _ (bi (waF s 4 b)) (narrow_bi _) dX5_counts_71 (⟨by rw [show j = 3 from cn_3 hj c_1 c_14 c_35]; rfl, rfl⟩)
      · refine wl_aload_n C 0 dX5_counts_38 rfl rfl ?_
        refine wl_iload_n C 1 dX5_counts_39 rfl rfl ?_
        refine wl_iconst (v := 0) C dX5_counts_40 (by decide) ?_
        refine wl_callVp (i := 232) (n := 2) C [.int (nI b), .int 0] [] (c_X5_wallsBy _ G M b (s.2.2.2 b) (by omega) (hs.2.2.2.2 b hb) (hW.sm b hb) s.2.1 s.2.2.1 0 hs.1 hs.2.1) gX5_counts_X5_wallsBy rfl (by decide +kernel) (by decide) (by decide) (kd_lt (k := 5) (by decide) (by decide)) (cell_k (k := 5) (by decide)) rfl rfl rfl (Nat.le_of_ble_eq_true rfl) dX5_counts_41 ?_
        refine wl_eqi (b := pTouched (s.2.2.2 b) s.2.1 s.2.2.1) (mWb_0 (hW.2 b hb)) ?_
        suffices hJ44 : WL x G (AA G sz) 3 0 0 QQ M 71 [(0, .ref (G.2.2.1 232)), (1, .int (nI b)), (2, .int (nI j))] [.int (if (pTouched (s.2.2.2 b) s.2.1 s.2.2.1) = 0 then 0 else 1)] by
          refine wl_if_eq C 51 dX5_counts_44 (by decide) (fun c_44 => ?_) (fun c_44 => ?_)
          · rw [if_pos c_44] at hJ44
            refine wl_iconst (v := 0) C dX5_counts_51 (by decide) ?_
            refine wl_goto C 71 dX5_counts_52 (by decide) ?_
            exact hJ44
          · rw [if_neg c_44] at hJ44
            refine wl_iconst (v := 1) C dX5_counts_47 (by decide) ?_
            refine wl_goto C 71 dX5_counts_48 (by decide) ?_
            exact hJ44
        refine wl_eqi (b := bi (waF s 15 b)) ((b2_ne).trans (by rw [wa_15])) ?_
        exact hret _ 71 _ (bi (waF s 15 b)) (narrow_bi _) dX5_counts_71 (⟨by rw [c_35]; rfl, rfl⟩)
    · refine wl_aload_n C 0 dX5_counts_17 rfl rfl ?_
      refine wl_iload_n C 1 dX5_counts_18 rfl rfl ?_
      refine wl_callVp (i := 232) (n := 1) C [.int (nI b)] [] (c_X5_touched _ G M s hs hW b hb) gX5_counts_X5_touched rfl (by decide +kernel) (by decide) (by decide) (kd_lt (k := 5) (by decide) (by decide)) (cell_k (k := 5) (by decide)) rfl rfl rfl (Nat.le_of_ble_eq_true rfl) dX5_counts_19 ?_
      suffices hJ22 : WL x G (AA G sz) 3 0 0 QQ M 71 [(0, .ref (G.2.2.1 232)), (1, .int (nI b)), (2, .int (nI j))] [.int (if (tcS s b) = 0 then 1 else 0)] by
        refine wl_if_ne C 29 dX5_counts_22 (by decide) (fun c_22 => ?_) (fun c_22 => ?_)
        · rw [if_neg c_22] at hJ22
          refine wl_iconst (v := 0) C dX5_counts_29 (by decide) ?_
          refine wl_goto C 71 dX5_counts_30 (by decide) ?_
          exact hJ22
        · rw [if_pos c_22] at hJ22
          refine wl_iconst (v := 1) C dX5_counts_25 (by decide) ?_
          refine wl_goto C 71 dX5_counts_26 (by decide) ?_
          exact hJ22
      refine wl_eqi (b := bi (noF s b)) (b2_eq) ?_
      exact hret _ 71 _ (bi (noF s b)) (narrow_bi _) dX5_counts_71 (⟨by rw [c_14]; rfl, rfl⟩)
  · refine wl_aload_n C 0 dX5_counts_4 rfl rfl ?_
    refine wl_iload_n C 1 dX5_counts_5 rfl rfl ?_
    refine wl_callVp (i := 232) (n := 1) C [.int (nI b)] [] (c_X5_isJammed _ G M s hs hW b hb) gX5_counts_X5_isJammed rfl (by decide +kernel) (by decide) (by decide) (kd_lt (k := 5) (by decide) (by decide)) (cell_k (k := 5) (by decide)) rfl rfl rfl (Nat.le_of_ble_eq_true rfl) dX5_counts_6 ?_
    refine wl_goto C 71 dX5_counts_9 (by decide) ?_
    exact hret _ 71 _ (bi (!jm4 s b 4)) (narrow_bi _) dX5_counts_71 (⟨by rw [show j = 0 from (nI_eq (by omega) (by decide)).mp c_1]; rfl, rfl⟩)
set_option maxHeartbeats 4000000 in
set_option maxRecDepth 100000 in
theorem c_X5_bodies (l : Launch) (G : Gw) (M : Mem) (σ : Sy) (hR : RM M σ) (hO : OkY σ) (w : Int32) : Cp l G yX5_bodies wsX5_bodies 13 296 [.ref (G.2.2.1 232), .int w] M (bodY σ w) := by
  refine Ci.of (cc := cX5_bodies) (maxL := 4) (ret := (some .int)) (by decide +kernel) rfl (Nat.le_of_ble_eq_true rfl) ?_
  intro x sz hl0 hr C
  subst hl0
  have C : CX x G (AA G sz) RX5 cX5_bodies 4 wsX5_bodies 13 296 0 0 := C
  have hret : ∀ (M0 : Mem) (pc0 : Nat) (L0 : List (Nat × Value)) (rv0 : Int32), decode cX5_bodies pc0 = .ok (.ireturn, 1) → (fun (r : Int32) (M' : Mem) => r = bodY σ w ∧ M' = M) rv0 M0 → WL x G (AA G sz) 4 0 0 (xQ x (va_Qi (fun (r : Int32) (M' : Mem) => r = bodY σ w ∧ M' = M) (WE G) (AA G sz)) (AA G sz)) M0 pc0 L0 [.int rv0] := fun M0 pc0 L0 rv0 hd hp => wl_iret (post := (fun (r : Int32) (M' : Mem) => r = bodY σ w ∧ M' = M)) C hr hd hp
  show WL x G (AA G sz) 4 0 0 (xQ x (va_Qi (fun (r : Int32) (M' : Mem) => r = bodY σ w ∧ M' = M) (WE G) (AA G sz)) (AA G sz)) M 0 [(0, .ref (G.2.2.1 232)), (1, .int w)] []
  generalize (xQ x (va_Qi (fun (r : Int32) (M' : Mem) => r = bodY σ w ∧ M' = M) (WE G) (AA G sz)) (AA G sz)) = QQ at hret ⊢
  have cn163 : Jvm.Cond.constantLong RX5 163 (3) ∈ wsX5_bodies := by decide +kernel
  have in5 : ∀ w ∈ wsX50, w ∈ wsX5_bodies := by decide +kernel
  have fl7 : Jvm.Cond.fieldLink RX5 7 "JammedBodiesModel" "all" "[I" ∈ wsX5_bodies := by decide +kernel
  have cn120 : Jvm.Cond.constant RX5 120 (-1000001) ∈ wsX5_bodies := by decide +kernel
  have hs := hR.1
  have hW := hO.1.1
  have h8 := hs.r
  refine wl_iload_n C 1 dX5_bodies_0 rfl rfl ?_
  refine wl_i2l (v := w.toInt64) C dX5_bodies_1 (rfl) ?_
  refine wl_lconst (v := 0) C dX5_bodies_2 (by decide) ?_
  refine wl_ldc2 C cn163 dX5_bodies_3 ?_
  refine wl_callSp (n := 3) C [.long w.toInt64, .long 0, .long 3] [] (c_X5_in _ G M w.toInt64 0 3) gX5_bodies_X5_in rfl (by decide +kernel) (by decide) (by decide) rfl rfl (Nat.le_of_ble_eq_true rfl) dX5_bodies_6 ?_
  refine wl_eqi (b := bi (decide (nI 0 ≤ w) && decide (w ≤ nI 3))) (by rw [inL_num (a := nI 0) (b := nI 3) (by decide) (by decide)]) ?_
  refine wl_if_neB C 15 dX5_bodies_9 (by decide) (fun c_9 => ?_) (fun c_9 => ?_)
  · obtain ⟨j, hj0, hj, hw, hwc⟩ := num_k (a := 0) (b := 3) (by decide) (of_decide_eq_true (Bool.and_eq_true_iff.mp c_9).1) (of_decide_eq_true (Bool.and_eq_true_iff.mp c_9).2) (by decide)
    refine wl_iconst (v := bsT (cnF σ.1 j) 0) C dX5_bodies_15 (by first | decide | rfl) ?_
    refine wl_istore_n (L' := [(2, .int (bsT (cnF σ.1 j) 0)), (0, .ref (G.2.2.1 232)), (1, .int w)]) C dX5_bodies_16 rfl (by decide) rfl ?_
    refine wl_iconst (v := nI 0) C dX5_bodies_17 (by first | decide | rfl) ?_
    refine wl_istore_n (L' := [(3, .int (nI 0)), (2, .int (bsT (cnF σ.1 j) 0)), (0, .ref (G.2.2.1 232)), (1, .int w)]) C dX5_bodies_18 rfl (by decide) rfl ?_
    have h19 : ∀ k, k ≤ σ.1.1 → WL x G (AA G sz) 4 0 0 QQ M 19 [(0, .ref (G.2.2.1 232)), (1, .int w), (2, .int (bsT (cnF σ.1 j) k)), (3, .int (nI k))] [] := by
      refine up_loop σ.1.1 _ ?_
      intro k hk ih
      refine wl_iload_n C 3 dX5_bodies_19 rfl rfl ?_
      refine wl_aload_n C 0 dX5_bodies_20 rfl rfl ?_
      refine wl_get_Model_all (i := 232) C (by decide) in5 fl7 dX5_bodies_21 ?_
      refine wl_iconst (v := 2) C dX5_bodies_24 (by decide) ?_
      refine wl_iald (j := 2) (n := 120) (v := nI σ.1.1) C (by decide) (cell_k (k := 10) (by decide)) (rfl) (by decide) (by decide) hs.2.2.1 dX5_bodies_25 ?_
      refine wl_icmp_geN C (a := k) (b := σ.1.1) (by omega) (by omega) 54 dX5_bodies_26 (by decide) (fun c_26 => ?_) (fun c_26 => ?_)
      · refine wl_iload_n C 1 dX5_bodies_54 rfl rfl ?_
        refine wl_eqi (b := nI j) (hw) ?_
        refine wl_iconst (v := nI 3) C dX5_bodies_55 (by first | decide | rfl) ?_
        refine wl_icmp_neN C (a := j) (b := 3) (by omega) (by omega) 67 dX5_bodies_56 (by decide) (fun c_56 => ?_) (fun c_56 => ?_)
        · refine wl_iload_n C 2 dX5_bodies_67 rfl rfl ?_
          exact hret _ 68 _ (bsT (cnF σ.1 j) k) dX5_bodies_68 (⟨by rw [show k = σ.1.1 by omega, hw]; exact bod_at hj c_56, rfl⟩)
        · refine wl_aload_n C 0 dX5_bodies_59 rfl rfl ?_
          refine wl_iload_n C 2 dX5_bodies_60 rfl rfl ?_
          refine wl_eqi (b := bsT (cnF σ.1 j) σ.1.1) (by rw [show σ.1.1 = k by omega]) ?_
          refine wl_callVp (i := 232) (n := 1) C [.int (bsT (cnF σ.1 j) σ.1.1)] [] (c_X5_together _ G M σ.1 hs hW (cnF σ.1 j)) gX5_bodies_X5_together rfl (by decide +kernel) (by decide) (by decide) (kd_lt (k := 5) (by decide) (by decide)) (cell_k (k := 5) (by decide)) rfl rfl rfl (Nat.le_of_ble_eq_true rfl) dX5_bodies_61 ?_
          refine wl_goto C 68 dX5_bodies_64 (by decide) ?_
          exact hret _ 68 _ (clS σ.1 (cnF σ.1 j)) dX5_bodies_68 (⟨by rw [hw, c_56]; rfl, rfl⟩)
      · refine wl_iload_n C 2 dX5_bodies_29 rfl rfl ?_
        refine wl_aload_n C 0 dX5_bodies_30 rfl rfl ?_
        refine wl_iload_n C 3 dX5_bodies_31 rfl rfl ?_
        refine wl_iload_n C 1 dX5_bodies_32 rfl rfl ?_
        refine wl_eqi (b := nI j) (hw) ?_
        refine wl_callVp (i := 232) (n := 2) C [.int (nI k), .int (nI j)] [.int (bsT (cnF σ.1 j) k)] (c_X5_counts _ G M σ.1 hs hW k j (by omega) hj) gX5_bodies_X5_counts rfl (by decide +kernel) (by decide) (by decide) (kd_lt (k := 5) (by decide) (by decide)) (cell_k (k := 5) (by decide)) rfl rfl rfl (Nat.le_of_ble_eq_true rfl) dX5_bodies_33 ?_
        suffices hJ36 : WL x G (AA G sz) 4 0 0 QQ M 46 [(0, .ref (G.2.2.1 232)), (1, .int w), (2, .int (bsT (cnF σ.1 j) k)), (3, .int (nI k))] [.int (if (cnF σ.1 j k) = true then 1 <<< ((nI k) &&& 31) else (0 : Int32)), .int (bsT (cnF σ.1 j) k)] by
          refine wl_if_eqB C 45 dX5_bodies_36 (by decide) (fun c_36 => ?_) (fun c_36 => ?_)
          · rw [if_neg (by rw [c_36]; exact Bool.false_ne_true)] at hJ36
            refine wl_iconst (v := 0) C dX5_bodies_45 (by decide) ?_
            exact hJ36
          · rw [if_pos c_36] at hJ36
            refine wl_iconst (v := 1) C dX5_bodies_39 (by decide) ?_
            refine wl_iload_n C 3 dX5_bodies_40 rfl rfl ?_
            refine wl_ishl C dX5_bodies_41 ?_
            refine wl_goto C 46 dX5_bodies_42 (by decide) ?_
            exact hJ36
        refine wl_ior C dX5_bodies_46 ?_
        refine wl_eqi (b := bsT (cnF σ.1 j) (k + 1)) (fr_or rfl) ?_
        refine wl_istore_n (L' := [(2, .int (bsT (cnF σ.1 j) (k + 1))), (0, .ref (G.2.2.1 232)), (1, .int w), (3, .int (nI k))]) C dX5_bodies_47 rfl (by decide) rfl ?_
        refine wl_iinc1 (k := k) (L' := [(3, .int (nI (k + 1))), (2, .int (bsT (cnF σ.1 j) (k + 1))), (0, .ref (G.2.2.1 232)), (1, .int w)]) C 3 dX5_bodies_48 rfl (by decide) rfl ?_
        refine wl_goto C 19 dX5_bodies_51 (by decide) ?_
        refine wl_sub (L' := [(0, .ref (G.2.2.1 232)), (1, .int w), (2, .int (bsT (cnF σ.1 j) (k + 1))), (3, .int (nI (k + 1)))]) [2, 3, 1, 0] rfl ?_
        exact ih (by omega)
    refine wl_sub (L' := [(0, .ref (G.2.2.1 232)), (1, .int w), (2, .int (bsT (cnF σ.1 j) 0)), (3, .int (nI 0))]) [2, 3, 1, 0] rfl ?_
    exact h19 0 (Nat.zero_le _)
  · refine wl_ldc C cn120 dX5_bodies_12 ?_
    exact hret _ 14 _ (-1000001) dX5_bodies_14 (⟨by rw [bod_no c_9], rfl⟩)
set_option maxHeartbeats 4000000 in
set_option maxRecDepth 100000 in
theorem c_X5_group (l : Launch) (G : Gw) (M : Mem) (σ : Sy) (hR : RM M σ) (hO : OkY σ) (v : Int32) : Cp l G yX5_group wsX5_group 9 210 [.ref (G.2.2.1 232), .int v] M (groY σ v) := by
  refine Ci.of (cc := cX5_group) (maxL := 6) (ret := (some .int)) (by decide +kernel) rfl (Nat.le_of_ble_eq_true rfl) ?_
  intro x sz hl0 hr C
  subst hl0
  have C : CX x G (AA G sz) RX5 cX5_group 6 wsX5_group 9 210 0 0 := C
  have hret : ∀ (M0 : Mem) (pc0 : Nat) (L0 : List (Nat × Value)) (rv0 : Int32), decode cX5_group pc0 = .ok (.ireturn, 1) → (fun (r : Int32) (M' : Mem) => r = groY σ v ∧ M' = M) rv0 M0 → WL x G (AA G sz) 6 0 0 (xQ x (va_Qi (fun (r : Int32) (M' : Mem) => r = groY σ v ∧ M' = M) (WE G) (AA G sz)) (AA G sz)) M0 pc0 L0 [.int rv0] := fun M0 pc0 L0 rv0 hd hp => wl_iret (post := (fun (r : Int32) (M' : Mem) => r = groY σ v ∧ M' = M)) C hr hd hp
  show WL x G (AA G sz) 6 0 0 (xQ x (va_Qi (fun (r : Int32) (M' : Mem) => r = groY σ v ∧ M' = M) (WE G) (AA G sz)) (AA G sz)) M 0 [(0, .ref (G.2.2.1 232)), (1, .int v)] []
  generalize (xQ x (va_Qi (fun (r : Int32) (M' : Mem) => r = groY σ v ∧ M' = M) (WE G) (AA G sz)) (AA G sz)) = QQ at hret ⊢
  have in5 : ∀ w ∈ wsX50, w ∈ wsX5_group := by decide +kernel
  have fl7 : Jvm.Cond.fieldLink RX5 7 "JammedBodiesModel" "all" "[I" ∈ wsX5_group := by decide +kernel
  have cn149 : Jvm.Cond.constant RX5 149 (-1000004) ∈ wsX5_group := by decide +kernel
  have cn120 : Jvm.Cond.constant RX5 120 (-1000001) ∈ wsX5_group := by decide +kernel
  have hs := hR.1
  have hW := hO.1.1
  have h8 := hs.r
  refine wl_iload_n C 1 dX5_group_0 rfl rfl ?_
  refine wl_iconst (v := (-1)) C dX5_group_1 (by decide) ?_
  refine wl_icmp_ge C 8 dX5_group_2 (by decide) (fun c_2 => ?_) (fun c_2 => ?_)
  · refine wl_iconst (v := bsT (grI σ.1 0).1 σ.1.1) C dX5_group_8 (Eq.trans (b := (0 : Int32)) (by decide) (bsT_00.symm)) ?_
    refine wl_istore_n (L' := [(2, .int (bsT (grI σ.1 0).1 σ.1.1)), (0, .ref (G.2.2.1 232)), (1, .int v)]) C dX5_group_9 rfl (by decide) rfl ?_
    refine wl_iconst (v := nI (grI σ.1 0).2) C dX5_group_10 (by first | decide | rfl) ?_
    refine wl_istore_n (L' := [(3, .int (nI (grI σ.1 0).2)), (2, .int (bsT (grI σ.1 0).1 σ.1.1)), (0, .ref (G.2.2.1 232)), (1, .int v)]) C dX5_group_11 rfl (by decide) rfl ?_
    refine wl_iconst (v := nI 0) C dX5_group_12 (by first | decide | rfl) ?_
    refine wl_istore (L' := [(4, .int (nI 0)), (3, .int (nI (grI σ.1 0).2)), (2, .int (bsT (grI σ.1 0).1 σ.1.1)), (0, .ref (G.2.2.1 232)), (1, .int v)]) C dX5_group_13 (by decide) rfl ?_
    have h15 : ∀ k, k ≤ σ.1.1 → anT (grF σ.1 v) k = false → WL x G (AA G sz) 6 0 0 QQ M 15 [(0, .ref (G.2.2.1 232)), (1, .int v), (2, .int (bsT (grI σ.1 k).1 σ.1.1)), (3, .int (nI (grI σ.1 k).2)), (4, .int (nI k))] [] := by
      refine up_loop σ.1.1 _ ?_
      intro k hk ih hI
      refine wl_iload C 4 dX5_group_15 rfl ?_
      refine wl_aload_n C 0 dX5_group_17 rfl rfl ?_
      refine wl_get_Model_all (i := 232) C (by decide) in5 fl7 dX5_group_18 ?_
      refine wl_iconst (v := 2) C dX5_group_21 (by decide) ?_
      refine wl_iald (j := 2) (n := 120) (v := nI σ.1.1) C (by decide) (cell_k (k := 10) (by decide)) (rfl) (by decide) (by decide) hs.2.2.1 dX5_group_22 ?_
      refine wl_icmp_geN C (a := k) (b := σ.1.1) (by omega) (by omega) 67 dX5_group_23 (by decide) (fun c_23 => ?_) (fun c_23 => ?_)
      · refine wl_iload_n C 1 dX5_group_67 rfl rfl ?_
        refine wl_iconst (v := (-1)) C dX5_group_68 (by decide) ?_
        refine wl_icmp_ne C 76 dX5_group_69 (by decide) (fun c_69 => ?_) (fun c_69 => ?_)
        · refine wl_ldc C cn149 dX5_group_76 ?_
          exact hret _ 78 _ (-1000004) dX5_group_78 (⟨by unfold groY; rw [if_neg (Int32.not_lt.mpr c_2), fsT_none.mpr (by rw [show σ.1.1 = k by omega]; exact hI)]; simp only []; rw [if_neg c_69], rfl⟩)
        · refine wl_iload_n C 3 dX5_group_72 rfl rfl ?_
          refine wl_goto C 78 dX5_group_73 (by decide) ?_
          exact hret _ 78 _ (nI (grI σ.1 k).2) dX5_group_78 (⟨by unfold groY; rw [if_neg (Int32.not_lt.mpr c_2), fsT_none.mpr (by rw [show σ.1.1 = k by omega]; exact hI)]; simp only []; rw [if_pos c_69, show σ.1.1 = k by omega], rfl⟩)
      · have h61 : anT (grF σ.1 v) (k + 1) = false → WL x G (AA G sz) 6 0 0 QQ M 61 [(0, .ref (G.2.2.1 232)), (1, .int v), (2, .int (bsT (grI σ.1 (k + 1)).1 σ.1.1)), (3, .int (nI (grI σ.1 (k + 1)).2)), (4, .int (nI k))] [] := by
          intro hA
          refine wl_iinc1 (k := k) (L' := [(4, .int (nI (k + 1))), (0, .ref (G.2.2.1 232)), (1, .int v), (2, .int (bsT (grI σ.1 (k + 1)).1 σ.1.1)), (3, .int (nI (grI σ.1 (k + 1)).2))]) C 4 dX5_group_61 rfl (by decide) rfl ?_
          refine wl_goto C 15 dX5_group_64 (by decide) ?_
          refine wl_sub (L' := [(0, .ref (G.2.2.1 232)), (1, .int v), (2, .int (bsT (grI σ.1 (k + 1)).1 σ.1.1)), (3, .int (nI (grI σ.1 (k + 1)).2)), (4, .int (nI (k + 1)))]) [1, 2, 3, 4, 0] rfl ?_
          exact ih (by omega) hA
        refine wl_iload_n C 2 dX5_group_26 rfl rfl ?_
        refine wl_iload C 4 dX5_group_27 rfl ?_
        refine wl_ishr C dX5_group_29 ?_
        refine wl_iconst (v := 1) C dX5_group_30 (by decide) ?_
        refine wl_iand C dX5_group_31 ?_
        refine wl_eqi (b := bi ((grI σ.1 k).1 k)) (bsT_shr h8 (by omega)) ?_
        refine wl_if_neB C 61 dX5_group_32 (by decide) (fun c_32 => ?_) (fun c_32 => ?_)
        · refine wl_locs (L' := [(0, .ref (G.2.2.1 232)), (1, .int v), (2, .int (bsT (grI σ.1 (k + 1)).1 σ.1.1)), (3, .int (nI (grI σ.1 (k + 1)).2)), (4, .int (nI k))]) (by rw [grI_old c_32]) ?_
          exact h61 (by simp only [anT, hI, Bool.false_or, grF]; rw [c_32]; rfl)
        · refine wl_aload_n C 0 dX5_group_35 rfl rfl ?_
          refine wl_iconst (v := 1) C dX5_group_36 (by decide) ?_
          refine wl_iload C 4 dX5_group_37 rfl ?_
          refine wl_ishl C dX5_group_39 ?_
          refine wl_eqi (b := bsT (fun i => decide (i = k)) σ.1.1) (bsT_one h8 (by omega)) ?_
          refine wl_callVp (i := 232) (n := 1) C [.int (bsT (fun i => decide (i = k)) σ.1.1)] [] (c_X5_together _ G M σ.1 hs hW (fun i => decide (i = k))) gX5_group_X5_together rfl (by decide +kernel) (by decide) (by decide) (kd_lt (k := 5) (by decide) (by decide)) (cell_k (k := 5) (by decide)) rfl rfl rfl (Nat.le_of_ble_eq_true rfl) dX5_group_40 ?_
          refine wl_istore (L' := [(5, .int (clS σ.1 (fun i => decide (i = k)))), (0, .ref (G.2.2.1 232)), (1, .int v), (2, .int (bsT (grI σ.1 k).1 σ.1.1)), (3, .int (nI (grI σ.1 k).2)), (4, .int (nI k))]) C dX5_group_43 (by decide) rfl ?_
          refine wl_iload_n C 4 dX5_group_45 rfl rfl ?_
          refine wl_iload_n C 2 dX5_group_46 rfl rfl ?_
          refine wl_icmp_ne C 53 dX5_group_47 (by decide) (fun c_47 => ?_) (fun c_47 => ?_)
          · refine wl_iload_n C 3 dX5_group_53 rfl rfl ?_
            refine wl_iload C 0 dX5_group_54 rfl ?_
            refine wl_ior C dX5_group_56 ?_
            refine wl_eqi (b := bsT (grI σ.1 (k + 1)).1 σ.1.1) (by rw [grI_new c_32]; unfold clS; rw [bsT_or h8]) ?_
            refine wl_istore_n (L' := [(2, .int (bsT (grI σ.1 (k + 1)).1 σ.1.1)), (5, .int (clS σ.1 (fun i => decide (i = k)))), (0, .ref (G.2.2.1 232)), (1, .int v), (3, .int (nI (grI σ.1 k).2)), (4, .int (nI k))]) C dX5_group_57 rfl (by decide) rfl ?_
            refine wl_iinc1 (k := (grI σ.1 k).2) (L' := [(3, .int (nI ((grI σ.1 k).2 + 1))), (2, .int (bsT (grI σ.1 (k + 1)).1 σ.1.1)), (5, .int (clS σ.1 (fun i => decide (i = k)))), (0, .ref (G.2.2.1 232)), (1, .int v), (4, .int (nI k))]) C 4 dX5_group_58 rfl (by decide) rfl ?_
            refine wl_sub (L' := [(0, .ref (G.2.2.1 232)), (1, .int v), (2, .int (bsT (grI σ.1 (k + 1)).1 σ.1.1)), (3, .int (nI ((grI σ.1 k).2 + 1))), (4, .int (nI k))]) [3, 4, 1, 0, 5] rfl ?_
            refine wl_locs (L' := [(0, .ref (G.2.2.1 232)), (1, .int v), (2, .int (bsT (grI σ.1 (k + 1)).1 σ.1.1)), (3, .int (nI (grI σ.1 (k + 1)).2)), (4, .int (nI k))]) (by rw [grI_new c_32]) ?_
            exact h61 (by simp only [anT, hI, Bool.false_or, grF]; rw [decide_eq_false c_47, Bool.and_false])
          · refine wl_iload C 0 dX5_group_50 rfl ?_
            exact hret _ 52 _ (clS σ.1 (fun i => decide (i = k))) dX5_group_52 (⟨by unfold groY; rw [if_neg (Int32.not_lt.mpr c_2), fsT_first hI (by unfold grF; rw [c_32, decide_eq_true c_47]; rfl) (by omega)], rfl⟩)
    refine wl_sub (L' := [(0, .ref (G.2.2.1 232)), (1, .int v), (2, .int (bsT (grI σ.1 0).1 σ.1.1)), (3, .int (nI (grI σ.1 0).2)), (4, .int (nI 0))]) [3, 4, 2, 1, 0] rfl ?_
    exact h15 0 (Nat.zero_le _) rfl
  · refine wl_ldc C cn120 dX5_group_5 ?_
    exact hret _ 7 _ (-1000001) dX5_group_7 (⟨by unfold groY; rw [if_pos (Int32.not_le.mp c_2)], rfl⟩)
set_option maxHeartbeats 4000000 in
set_option maxRecDepth 100000 in
theorem c_X5_keystone (l : Launch) (G : Gw) (M : Mem) (σ : Sy) (hR : RM M σ) (hO : OkY σ) (d : Int32) (w : Int32) : Ci l G yX5_keystone wsX5_keystone 11 255 [.ref (G.2.2.1 232), .int d, .int w] M (fun r M' => r = keyY σ d w ∧ RM M' σ ∧ FrM M M') := by
  refine Ci.of (cc := cX5_keystone) (maxL := 8) (ret := (some .int)) (by decide +kernel) rfl (Nat.le_of_ble_eq_true rfl) ?_
  intro x sz hl0 hr C
  subst hl0
  have C : CX x G (AA G sz) RX5 cX5_keystone 8 wsX5_keystone 11 255 0 0 := C
  have hret : ∀ (M0 : Mem) (pc0 : Nat) (L0 : List (Nat × Value)) (rv0 : Int32), decode cX5_keystone pc0 = .ok (.ireturn, 1) → (fun r M' => r = keyY σ d w ∧ RM M' σ ∧ FrM M M') rv0 M0 → WL x G (AA G sz) 8 0 0 (xQ x (va_Qi (fun r M' => r = keyY σ d w ∧ RM M' σ ∧ FrM M M') (WE G) (AA G sz)) (AA G sz)) M0 pc0 L0 [.int rv0] := fun M0 pc0 L0 rv0 hd hp => wl_iret (post := (fun r M' => r = keyY σ d w ∧ RM M' σ ∧ FrM M M')) C hr hd hp
  show WL x G (AA G sz) 8 0 0 (xQ x (va_Qi (fun r M' => r = keyY σ d w ∧ RM M' σ ∧ FrM M M') (WE G) (AA G sz)) (AA G sz)) M 0 [(0, .ref (G.2.2.1 232)), (1, .int d), (2, .int w)] []
  generalize (xQ x (va_Qi (fun r M' => r = keyY σ d w ∧ RM M' σ ∧ FrM M M') (WE G) (AA G sz)) (AA G sz)) = QQ at hret ⊢
  have cn120 : Jvm.Cond.constant RX5 120 (-1000001) ∈ wsX5_keystone := by decide +kernel
  have in5 : ∀ w ∈ wsX50, w ∈ wsX5_keystone := by decide +kernel
  have fl7 : Jvm.Cond.fieldLink RX5 7 "JammedBodiesModel" "all" "[I" ∈ wsX5_keystone := by decide +kernel
  have cn149 : Jvm.Cond.constant RX5 149 (-1000004) ∈ wsX5_keystone := by decide +kernel
  have hs := hR.1
  have hW := hO.1.1
  have h8 := hs.r
  refine wl_iload_n C 1 dX5_keystone_0 rfl rfl ?_
  refine wl_callSp (n := 1) C [.int d] [] (c_X5_isDirection _ G M d) gX5_keystone_X5_isDirection rfl (by decide +kernel) (by decide) (by decide) rfl rfl (Nat.le_of_ble_eq_true rfl) dX5_keystone_1 ?_
  refine wl_if_eqB C 17 dX5_keystone_4 (by decide) (fun c_4 => ?_) (fun c_4 => ?_)
  · refine wl_ldc C cn120 dX5_keystone_17 ?_
    exact hret _ 19 _ (-1000001) dX5_keystone_19 (by (have e : keyY σ d w = -1000001 := (by unfold keyY; rw [if_neg (fun q => by first | exact bcf q.1 c_4 | exact bcf (Bool.and_eq_true_iff.mpr ⟨decide_eq_true q.2.1, decide_eq_true q.2.2⟩) c_14)])); rw [e]; exact ⟨rfl, hR, FrM.rf⟩)
  · refine wl_iload_n C 2 dX5_keystone_7 rfl rfl ?_
    refine wl_i2l (v := w.toInt64) C dX5_keystone_8 (rfl) ?_
    refine wl_lconst (v := 0) C dX5_keystone_9 (by decide) ?_
    refine wl_lconst (v := 1) C dX5_keystone_10 (by decide) ?_
    refine wl_callSp (n := 3) C [.long w.toInt64, .long 0, .long 1] [] (c_X5_in _ G M w.toInt64 0 1) gX5_keystone_X5_in rfl (by decide +kernel) (by decide) (by decide) rfl rfl (Nat.le_of_ble_eq_true rfl) dX5_keystone_11 ?_
    refine wl_eqi (b := bi (decide (nI 0 ≤ w) && decide (w ≤ nI 1))) (by rw [inL_num (a := nI 0) (b := nI 1) (by decide) (by decide)]) ?_
    refine wl_if_neB C 20 dX5_keystone_14 (by decide) (fun c_14 => ?_) (fun c_14 => ?_)
    · obtain ⟨d2, hd, hdv, hdc⟩ := isDir_k c_4
      have hg : isDir d = true ∧ 0 ≤ w ∧ w ≤ 1 := ⟨c_4, of_decide_eq_true (Bool.and_eq_true_iff.mp c_14).1, of_decide_eq_true (Bool.and_eq_true_iff.mp c_14).2⟩
      refine wl_iconst (v := kbR σ.1 d2 0) C dX5_keystone_20 (by first | decide | rfl) ?_
      refine wl_istore_n (L' := [(3, .int (kbR σ.1 d2 0)), (0, .ref (G.2.2.1 232)), (1, .int d), (2, .int w)]) C dX5_keystone_21 rfl (by decide) rfl ?_
      refine wl_iconst (v := kmR σ.1 d2 0) C dX5_keystone_22 (by first | decide | rfl) ?_
      refine wl_istore (L' := [(4, .int (kmR σ.1 d2 0)), (3, .int (kbR σ.1 d2 0)), (0, .ref (G.2.2.1 232)), (1, .int d), (2, .int w)]) C dX5_keystone_23 (by decide) rfl ?_
      refine wl_aload_n C 2 dX5_keystone_25 rfl rfl ?_
      refine wl_callVv (i := 232) (n := 0) C [] [] (c_X5_keep _ G M) gX5_keystone_X5_keep rfl (by decide +kernel) (by decide) (by decide) (kd_lt (k := 5) (by decide) (by decide)) (cell_k (k := 5) (by decide)) rfl rfl rfl (Nat.le_of_ble_eq_true rfl) dX5_keystone_26 (fun M1 ek => ?_)
      have t1 : RM M1 σ := hR.on5 ek.2
      have s1 : PkM (M1 233) σ.1 := t1.1
      refine wl_aload_n C 2 dX5_keystone_29 rfl rfl ?_
      refine wl_get_Model_all (i := 232) C (by decide) in5 fl7 dX5_keystone_30 ?_
      refine wl_iconst (v := 2) C dX5_keystone_33 (by decide) ?_
      refine wl_iald (j := 2) (n := 120) (v := nI σ.1.1) C (by decide) (cell_k (k := 10) (by decide)) (rfl) (by decide) (by decide) s1.2.2.1 dX5_keystone_34 ?_
      refine wl_istore (L' := [(5, .int (nI σ.1.1)), (4, .int (kmR σ.1 d2 0)), (3, .int (kbR σ.1 d2 0)), (0, .ref (G.2.2.1 232)), (1, .int d), (2, .int w)]) C dX5_keystone_35 (by decide) rfl ?_
      refine wl_iconst (v := nI 0) C dX5_keystone_37 (by first | decide | rfl) ?_
      refine wl_istore (L' := [(6, .int (nI 0)), (5, .int (nI σ.1.1)), (4, .int (kmR σ.1 d2 0)), (3, .int (kbR σ.1 d2 0)), (0, .ref (G.2.2.1 232)), (1, .int d), (2, .int w)]) C dX5_keystone_38 (by decide) rfl ?_
      have h40 : ∀ k, k ≤ σ.1.1 → ∀ M2 : Mem, On3 M1 M2 ∧ PkM (M2 233) σ.1 → WL x G (AA G sz) 8 0 0 QQ M2 40 [(0, .ref (G.2.2.1 232)), (1, .int d), (2, .int w), (3, .int (kbR σ.1 d2 k)), (4, .int (kmR σ.1 d2 k)), (5, .int (nI σ.1.1)), (6, .int (nI k))] [] := by
        refine up_loop σ.1.1 _ ?_
        intro k hk ih M2 hI
        refine wl_iload C 6 dX5_keystone_40 rfl ?_
        refine wl_iload C 5 dX5_keystone_42 rfl ?_
        refine wl_icmp_geN C (a := k) (b := σ.1.1) (by omega) (by omega) 100 dX5_keystone_44 (by decide) (fun c_44 => ?_) (fun c_44 => ?_)
        · refine wl_iload_n C 3 dX5_keystone_100 rfl rfl ?_
          refine wl_iconst (v := (-1)) C dX5_keystone_101 (by decide) ?_
          refine wl_icmp_ne C 110 dX5_keystone_102 (by decide) (fun c_102 => ?_) (fun c_102 => ?_)
          · refine wl_iload_n C 2 dX5_keystone_110 rfl rfl ?_
            refine wl_if_ne C 118 dX5_keystone_111 (by decide) (fun c_111 => ?_) (fun c_111 => ?_)
            · refine wl_iload C 4 dX5_keystone_118 rfl ?_
              exact hret _ 120 _ (kmR σ.1 d2 k) dX5_keystone_120 (by (have e : keyY σ d w = kmR σ.1 d2 k := (by unfold keyY; rw [if_pos hg, hdc, show σ.1.1 = k by omega]; rw [if_neg c_111]; exact (km_of (fun z => c_102 ((kb_m1 h8 (by omega)).mpr z))).symm)); rw [e]; exact ⟨rfl, t1.on3 hI.1 hI.2, ek.2.M.tr hI.1.M⟩)
            · refine wl_iload_n C 3 dX5_keystone_114 rfl rfl ?_
              refine wl_goto C 120 dX5_keystone_115 (by decide) ?_
              exact hret _ 120 _ (kbR σ.1 d2 k) dX5_keystone_120 (by (have e : keyY σ d w = kbR σ.1 d2 k := (by unfold keyY; rw [if_pos hg, hdc, show σ.1.1 = k by omega]; rw [if_pos c_111]; exact (kb_of (fun z => c_102 ((kb_m1 h8 (by omega)).mpr z))).symm)); rw [e]; exact ⟨rfl, t1.on3 hI.1 hI.2, ek.2.M.tr hI.1.M⟩)
          · refine wl_ldc C cn149 dX5_keystone_105 ?_
            refine wl_goto C 120 dX5_keystone_107 (by decide) ?_
            exact hret _ 120 _ (-1000004) dX5_keystone_120 (by (have e : keyY σ d w = (-1000004) := (by unfold keyY; rw [if_pos hg, hdc, show σ.1.1 = k by omega]; rw [(kb_m1 h8 (by omega)).mp c_102]; split <;> rfl)); rw [e]; exact ⟨rfl, t1.on3 hI.1 hI.2, ek.2.M.tr hI.1.M⟩)
        · refine wl_aload_n C 0 dX5_keystone_47 rfl rfl ?_
          refine wl_iload C 6 dX5_keystone_48 rfl ?_
          refine wl_callVv (i := 232) (n := 1) C [.int (nI k)] [] (c_X5_takesOut _ G M2 σ.1 hI.2 k (by omega)) gX5_keystone_X5_takesOut rfl (by decide +kernel) (by decide) (by decide) (kd_lt (k := 5) (by decide) (by decide)) (cell_k (k := 5) (by decide)) rfl rfl rfl (Nat.le_of_ble_eq_true rfl) dX5_keystone_50 (fun M3 e3 => ?_)
          refine wl_aload_n C 0 dX5_keystone_53 rfl rfl ?_
          refine wl_iload_n C 1 dX5_keystone_54 rfl rfl ?_
          refine wl_eqi (b := nI d2) (hdv) ?_
          refine wl_callVi (i := 232) (n := 1) C [.int (nI d2)] [] (c_X5_settles _ G M3 (outS σ.1 k) e3.2 (outS_wf hW (by omega)) d2 hd) gX5_keystone_X5_settles rfl (by decide +kernel) (by decide) (by decide) (kd_lt (k := 5) (by decide) (by decide)) (cell_k (k := 5) (by decide)) rfl rfl rfl (Nat.le_of_ble_eq_true rfl) dX5_keystone_55 (fun r1 M4 e4 => ?_)
          obtain ⟨q4, w4, p4⟩ := e4
          subst q4
          refine wl_istore (L' := [(7, .int (nI (seS d2 1000 (outS σ.1 k) 0).2)), (0, .ref (G.2.2.1 232)), (1, .int d), (2, .int w), (3, .int (kbR σ.1 d2 k)), (4, .int (kmR σ.1 d2 k)), (5, .int (nI σ.1.1)), (6, .int (nI k))]) C dX5_keystone_58 (by decide) rfl ?_
          refine wl_aload_n C 1 dX5_keystone_60 rfl rfl ?_
          refine wl_callVv (i := 232) (n := 0) C [] [] (c_X5_giveBack _ G M4) gX5_keystone_X5_giveBack rfl (by decide +kernel) (by decide) (by decide) (kd_lt (k := 5) (by decide) (by decide)) (cell_k (k := 5) (by decide)) rfl rfl rfl (Nat.le_of_ble_eq_true rfl) dX5_keystone_61 (fun M5 e5 => ?_)
          have w5 : On3 M1 M4 := (hI.1.tr e3.1).tr w4
          have p5 : PkM (M5 233) σ.1 := hR.1.same (fun j hj => by rw [e5.1 j hj, w5 235 (by decide)]; exact ek.1 j hj)
          refine wl_iload C 0 dX5_keystone_64 rfl ?_
          refine wl_iload C 5 dX5_keystone_66 rfl ?_
          suffices hJ68 : WL x G (AA G sz) 8 0 0 QQ M5 77 [(7, .int (nI (seS d2 1000 (outS σ.1 k) 0).2)), (0, .ref (G.2.2.1 232)), (1, .int d), (2, .int w), (3, .int (kbR σ.1 d2 k)), (4, .int (kmR σ.1 d2 k)), (5, .int (nI σ.1.1)), (6, .int (nI k))] [.int (if (nI (seS d2 1000 (outS σ.1 k) 0).2) ≤ (kmR σ.1 d2 k) then kbR σ.1 d2 k else nI k)] by
            refine wl_icmp_le C 76 dX5_keystone_68 (by decide) (fun c_68 => ?_) (fun c_68 => ?_)
            · rw [if_pos c_68] at hJ68
              refine wl_iload_n C 4 dX5_keystone_76 rfl rfl ?_
              exact hJ68
            · rw [if_neg c_68] at hJ68
              refine wl_iload C 7 dX5_keystone_71 rfl ?_
              refine wl_goto C 77 dX5_keystone_73 (by decide) ?_
              exact hJ68
          refine wl_eqi (b := kbR σ.1 d2 (k + 1)) (kb_step h8) ?_
          refine wl_istore_n (L' := [(3, .int (kbR σ.1 d2 (k + 1))), (7, .int (nI (seS d2 1000 (outS σ.1 k) 0).2)), (0, .ref (G.2.2.1 232)), (1, .int d), (2, .int w), (4, .int (kmR σ.1 d2 k)), (5, .int (nI σ.1.1)), (6, .int (nI k))]) C dX5_keystone_77 rfl (by decide) rfl ?_
          refine wl_iload C 1 dX5_keystone_78 rfl ?_
          refine wl_iload C 5 dX5_keystone_80 rfl ?_
          suffices hJ82 : WL x G (AA G sz) 8 0 0 QQ M5 92 [(3, .int (kbR σ.1 d2 (k + 1))), (7, .int (nI (seS d2 1000 (outS σ.1 k) 0).2)), (0, .ref (G.2.2.1 232)), (1, .int d), (2, .int w), (4, .int (kmR σ.1 d2 k)), (5, .int (nI σ.1.1)), (6, .int (nI k))] [.int (if (nI (seS d2 1000 (outS σ.1 k) 0).2) ≤ (kmR σ.1 d2 k) then kmR σ.1 d2 k else nI (seS d2 1000 (outS σ.1 k) 0).2)] by
            refine wl_icmp_le C 90 dX5_keystone_82 (by decide) (fun c_82 => ?_) (fun c_82 => ?_)
            · rw [if_pos c_82] at hJ82
              refine wl_iload C 5 dX5_keystone_90 rfl ?_
              exact hJ82
            · rw [if_neg c_82] at hJ82
              refine wl_iload C 1 dX5_keystone_85 rfl ?_
              refine wl_goto C 92 dX5_keystone_87 (by decide) ?_
              exact hJ82
          refine wl_eqi (b := kmR σ.1 d2 (k + 1)) (km_step h8) ?_
          refine wl_istore (L' := [(4, .int (kmR σ.1 d2 (k + 1))), (3, .int (kbR σ.1 d2 (k + 1))), (7, .int (nI (seS d2 1000 (outS σ.1 k) 0).2)), (0, .ref (G.2.2.1 232)), (1, .int d), (2, .int w), (5, .int (nI σ.1.1)), (6, .int (nI k))]) C dX5_keystone_92 (by decide) rfl ?_
          refine wl_iinc1 (k := k) (L' := [(6, .int (nI (k + 1))), (4, .int (kmR σ.1 d2 (k + 1))), (3, .int (kbR σ.1 d2 (k + 1))), (7, .int (nI (seS d2 1000 (outS σ.1 k) 0).2)), (0, .ref (G.2.2.1 232)), (1, .int d), (2, .int w), (5, .int (nI σ.1.1))]) C 7 dX5_keystone_94 rfl (by decide) rfl ?_
          refine wl_goto C 40 dX5_keystone_97 (by decide) ?_
          refine wl_sub (L' := [(0, .ref (G.2.2.1 232)), (1, .int d), (2, .int w), (3, .int (kbR σ.1 d2 (k + 1))), (4, .int (kmR σ.1 d2 (k + 1))), (5, .int (nI σ.1.1)), (6, .int (nI (k + 1)))]) [4, 5, 6, 2, 1, 7, 0] rfl ?_
          exact ih (by omega) M5 ⟨w5.tr e5.2, p5⟩
      refine wl_sub (L' := [(0, .ref (G.2.2.1 232)), (1, .int d), (2, .int w), (3, .int (kbR σ.1 d2 0)), (4, .int (kmR σ.1 d2 0)), (5, .int (nI σ.1.1)), (6, .int (nI 0))]) [4, 5, 6, 3, 2, 1, 0] rfl ?_
      exact h40 0 (Nat.zero_le _) M1 ⟨On3.rf, s1⟩
    · refine wl_ldc C cn120 dX5_keystone_17 ?_
      exact hret _ 19 _ (-1000001) dX5_keystone_19 (by (have e : keyY σ d w = -1000001 := (by unfold keyY; rw [if_neg (fun q => by first | exact bcf q.1 c_4 | exact bcf (Bool.and_eq_true_iff.mpr ⟨decide_eq_true q.2.1, decide_eq_true q.2.2⟩) c_14)])); rw [e]; exact ⟨rfl, hR, FrM.rf⟩)
set_option maxHeartbeats 4000000 in
set_option maxRecDepth 100000 in
theorem c_X5_cornersOfAll (l : Launch) (G : Gw) (M : Mem) (s : St) (hs : PkM (M 233) s) (hW : WfS s) : Cp l G yX5_cornersOfAll wsX5_cornersOfAll 1 21 [.ref (G.2.2.1 232)] M (cornS s) := by
  refine Ci.of (cc := cX5_cornersOfAll) (maxL := 3) (ret := (some .int)) (by decide +kernel) rfl (Nat.le_of_ble_eq_true rfl) ?_
  intro x sz hl0 hr C
  subst hl0
  have C : CX x G (AA G sz) RX5 cX5_cornersOfAll 3 wsX5_cornersOfAll 1 21 0 0 := C
  have hret : ∀ (M0 : Mem) (pc0 : Nat) (L0 : List (Nat × Value)) (rv0 : Int32), decode cX5_cornersOfAll pc0 = .ok (.ireturn, 1) → (fun (r : Int32) (M' : Mem) => r = cornS s ∧ M' = M) rv0 M0 → WL x G (AA G sz) 3 0 0 (xQ x (va_Qi (fun (r : Int32) (M' : Mem) => r = cornS s ∧ M' = M) (WE G) (AA G sz)) (AA G sz)) M0 pc0 L0 [.int rv0] := fun M0 pc0 L0 rv0 hd hp => wl_iret (post := (fun (r : Int32) (M' : Mem) => r = cornS s ∧ M' = M)) C hr hd hp
  show WL x G (AA G sz) 3 0 0 (xQ x (va_Qi (fun (r : Int32) (M' : Mem) => r = cornS s ∧ M' = M) (WE G) (AA G sz)) (AA G sz)) M 0 [(0, .ref (G.2.2.1 232))] []
  generalize (xQ x (va_Qi (fun (r : Int32) (M' : Mem) => r = cornS s ∧ M' = M) (WE G) (AA G sz)) (AA G sz)) = QQ at hret ⊢
  have in5 : ∀ w ∈ wsX50, w ∈ wsX5_cornersOfAll := by decide +kernel
  have fl7 : Jvm.Cond.fieldLink RX5 7 "JammedBodiesModel" "all" "[I" ∈ wsX5_cornersOfAll := by decide +kernel
  have h8 := hs.r
  refine wl_iconst (v := smT (coF s) 0) C dX5_cornersOfAll_0 (by first | decide | rfl) ?_
  refine wl_istore_n (L' := [(1, .int (smT (coF s) 0)), (0, .ref (G.2.2.1 232))]) C dX5_cornersOfAll_1 rfl (by decide) rfl ?_
  refine wl_iconst (v := nI 0) C dX5_cornersOfAll_2 (by first | decide | rfl) ?_
  refine wl_istore_n (L' := [(2, .int (nI 0)), (1, .int (smT (coF s) 0)), (0, .ref (G.2.2.1 232))]) C dX5_cornersOfAll_3 rfl (by decide) rfl ?_
  have h4 : ∀ k, k ≤ s.1 → WL x G (AA G sz) 3 0 0 QQ M 4 [(0, .ref (G.2.2.1 232)), (1, .int (smT (coF s) k)), (2, .int (nI k))] [] := by
    refine up_loop s.1 _ ?_
    intro k hk ih
    refine wl_iload_n C 2 dX5_cornersOfAll_4 rfl rfl ?_
    refine wl_aload_n C 0 dX5_cornersOfAll_5 rfl rfl ?_
    refine wl_get_Model_all (i := 232) C (by decide) in5 fl7 dX5_cornersOfAll_6 ?_
    refine wl_iconst (v := 2) C dX5_cornersOfAll_9 (by decide) ?_
    refine wl_iald (j := 2) (n := 120) (v := nI s.1) C (by decide) (cell_k (k := 10) (by decide)) (rfl) (by decide) (by decide) hs.2.2.1 dX5_cornersOfAll_10 ?_
    refine wl_icmp_geN C (a := k) (b := s.1) (by omega) (by omega) 28 dX5_cornersOfAll_11 (by decide) (fun c_11 => ?_) (fun c_11 => ?_)
    · refine wl_iload_n C 1 dX5_cornersOfAll_28 rfl rfl ?_
      exact hret _ 29 _ (smT (coF s) k) dX5_cornersOfAll_29 (⟨by unfold cornS; rw [show s.1 = k by omega], rfl⟩)
    · refine wl_iload_n C 1 dX5_cornersOfAll_14 rfl rfl ?_
      refine wl_aload_n C 0 dX5_cornersOfAll_15 rfl rfl ?_
      refine wl_iload_n C 2 dX5_cornersOfAll_16 rfl rfl ?_
      refine wl_callVp (i := 232) (n := 1) C [.int (nI k)] [.int (smT (coF s) k)] (c_X5_corners _ G M k (s.2.2.2 k) (by omega) (hs.2.2.2.2 k (by omega))) gX5_cornersOfAll_X5_corners rfl (by decide +kernel) (by decide) (by decide) (kd_lt (k := 5) (by decide) (by decide)) (cell_k (k := 5) (by decide)) rfl rfl rfl (Nat.le_of_ble_eq_true rfl) dX5_cornersOfAll_17 ?_
      refine wl_iadd C dX5_cornersOfAll_20 ?_
      refine wl_eqi (b := smT (coF s) (k + 1)) (rfl) ?_
      refine wl_istore_n (L' := [(1, .int (smT (coF s) (k + 1))), (0, .ref (G.2.2.1 232)), (2, .int (nI k))]) C dX5_cornersOfAll_21 rfl (by decide) rfl ?_
      refine wl_iinc1 (k := k) (L' := [(2, .int (nI (k + 1))), (1, .int (smT (coF s) (k + 1))), (0, .ref (G.2.2.1 232))]) C 2 dX5_cornersOfAll_22 rfl (by decide) rfl ?_
      refine wl_goto C 4 dX5_cornersOfAll_25 (by decide) ?_
      refine wl_sub (L' := [(0, .ref (G.2.2.1 232)), (1, .int (smT (coF s) (k + 1))), (2, .int (nI (k + 1)))]) [2, 1, 0] rfl ?_
      exact ih (by omega)
  refine wl_sub (L' := [(0, .ref (G.2.2.1 232)), (1, .int (smT (coF s) 0)), (2, .int (nI 0))]) [2, 1, 0] rfl ?_
  exact h4 0 (Nat.zero_le _)
set_option maxHeartbeats 4000000 in
set_option maxRecDepth 100000 in
theorem c_X5_pairs (l : Launch) (G : Gw) (M : Mem) (s : St) (hs : PkM (M 233) s) (hW : WfS s) : Cp l G yX5_pairs wsX5_pairs 8 186 [.ref (G.2.2.1 232)] M (pairS s) := by
  refine Ci.of (cc := cX5_pairs) (maxL := 4) (ret := (some .int)) (by decide +kernel) rfl (Nat.le_of_ble_eq_true rfl) ?_
  intro x sz hl0 hr C
  subst hl0
  have C : CX x G (AA G sz) RX5 cX5_pairs 4 wsX5_pairs 8 186 0 0 := C
  have hret : ∀ (M0 : Mem) (pc0 : Nat) (L0 : List (Nat × Value)) (rv0 : Int32), decode cX5_pairs pc0 = .ok (.ireturn, 1) → (fun (r : Int32) (M' : Mem) => r = pairS s ∧ M' = M) rv0 M0 → WL x G (AA G sz) 4 0 0 (xQ x (va_Qi (fun (r : Int32) (M' : Mem) => r = pairS s ∧ M' = M) (WE G) (AA G sz)) (AA G sz)) M0 pc0 L0 [.int rv0] := fun M0 pc0 L0 rv0 hd hp => wl_iret (post := (fun (r : Int32) (M' : Mem) => r = pairS s ∧ M' = M)) C hr hd hp
  show WL x G (AA G sz) 4 0 0 (xQ x (va_Qi (fun (r : Int32) (M' : Mem) => r = pairS s ∧ M' = M) (WE G) (AA G sz)) (AA G sz)) M 0 [(0, .ref (G.2.2.1 232))] []
  generalize (xQ x (va_Qi (fun (r : Int32) (M' : Mem) => r = pairS s ∧ M' = M) (WE G) (AA G sz)) (AA G sz)) = QQ at hret ⊢
  have in5 : ∀ w ∈ wsX50, w ∈ wsX5_pairs := by decide +kernel
  have fl7 : Jvm.Cond.fieldLink RX5 7 "JammedBodiesModel" "all" "[I" ∈ wsX5_pairs := by decide +kernel
  have h8 := hs.r
  refine wl_iconst (v := smT (paF s) 0) C dX5_pairs_0 (by first | decide | rfl) ?_
  refine wl_istore_n (L' := [(1, .int (smT (paF s) 0)), (0, .ref (G.2.2.1 232))]) C dX5_pairs_1 rfl (by decide) rfl ?_
  refine wl_iconst (v := nI 0) C dX5_pairs_2 (by first | decide | rfl) ?_
  refine wl_istore_n (L' := [(2, .int (nI 0)), (1, .int (smT (paF s) 0)), (0, .ref (G.2.2.1 232))]) C dX5_pairs_3 rfl (by decide) rfl ?_
  have h4 : ∀ k, k ≤ s.1 → WL x G (AA G sz) 4 0 0 QQ M 4 [(0, .ref (G.2.2.1 232)), (1, .int (smT (paF s) k)), (2, .int (nI k))] [] := by
    refine up_loop s.1 _ ?_
    intro k hk ih
    refine wl_iload_n C 2 dX5_pairs_4 rfl rfl ?_
    refine wl_aload_n C 0 dX5_pairs_5 rfl rfl ?_
    refine wl_get_Model_all (i := 232) C (by decide) in5 fl7 dX5_pairs_6 ?_
    refine wl_iconst (v := 2) C dX5_pairs_9 (by decide) ?_
    refine wl_iald (j := 2) (n := 120) (v := nI s.1) C (by decide) (cell_k (k := 10) (by decide)) (rfl) (by decide) (by decide) hs.2.2.1 dX5_pairs_10 ?_
    refine wl_icmp_geN C (a := k) (b := s.1) (by omega) (by omega) 43 dX5_pairs_11 (by decide) (fun c_11 => ?_) (fun c_11 => ?_)
    · refine wl_iload_n C 1 dX5_pairs_43 rfl rfl ?_
      refine wl_iconst (v := 2) C dX5_pairs_44 (by decide) ?_
      refine wl_idiv C dX5_pairs_45 (by decide) ?_
      refine wl_eqi (b := pairS s) (by rw [show k = s.1 by omega]; exact pa_half h8) ?_
      exact hret _ 46 _ (pairS s) dX5_pairs_46 (⟨rfl, rfl⟩)
    · obtain ⟨z, hz8, hz⟩ := bsT_small (q := tcF s k) h8
      refine wl_aload_n C 0 dX5_pairs_14 rfl rfl ?_
      refine wl_iload_n C 2 dX5_pairs_15 rfl rfl ?_
      refine wl_callVp (i := 232) (n := 1) C [.int (nI k)] [] (c_X5_touched _ G M s hs hW k (by omega)) gX5_pairs_X5_touched rfl (by decide +kernel) (by decide) (by decide) (kd_lt (k := 5) (by decide) (by decide)) (cell_k (k := 5) (by decide)) rfl rfl rfl (Nat.le_of_ble_eq_true rfl) dX5_pairs_16 ?_
      refine wl_eqi (b := nI z) (hz) ?_
      refine wl_istore_n (L' := [(3, .int (nI z)), (0, .ref (G.2.2.1 232)), (1, .int (smT (paF s) k)), (2, .int (nI k))]) C dX5_pairs_19 rfl (by decide) rfl ?_
      have h20 : ∀ t, t ≤ 8 → WL x G (AA G sz) 4 0 0 QQ M 20 [(0, .ref (G.2.2.1 232)), (1, .int (smT (paF s) k + nI (onz z t))), (2, .int (nI k)), (3, .int (nI (z / 2 ^ t)))] [] := by
        refine up_loop 8 _ ?_
        intro t ht ih2
        refine wl_iload_n C 3 dX5_pairs_20 rfl rfl ?_
        refine wl_if_le C 37 dX5_pairs_21 (by decide) (fun c_21 => ?_) (fun c_21 => ?_)
        · refine wl_iinc1 (k := k) (L' := [(2, .int (nI (k + 1))), (0, .ref (G.2.2.1 232)), (1, .int (smT (paF s) k + nI (onz z t))), (3, .int (nI (z / 2 ^ t)))]) C 2 dX5_pairs_37 rfl (by decide) rfl ?_
          refine wl_goto C 4 dX5_pairs_40 (by decide) ?_
          refine wl_sub (L' := [(0, .ref (G.2.2.1 232)), (1, .int (smT (paF s) k + nI (onz z t))), (2, .int (nI (k + 1)))]) [1, 2, 0] rfl ?_
          have hv : smT (paF s) k + nI (onz z t) = smT (paF s) (k + 1) := by
            show smT (paF s) k + nI (onz z t) = smT (paF s) k + paF s k
            unfold paF tcS
            rw [hz, onz_bc z hz8, onz_end z hz8 t (by omega) (Nat.eq_zero_of_not_pos (fun q => nI_npos q (onz_b hz8) c_21))]
          rw [hv]
          exact ih (by omega)
        · refine wl_iload_n C 1 dX5_pairs_24 rfl rfl ?_
          refine wl_iload_n C 3 dX5_pairs_25 rfl rfl ?_
          refine wl_iconst (v := 1) C dX5_pairs_26 (by decide) ?_
          refine wl_iand C dX5_pairs_27 ?_
          refine wl_eqi (b := nI (z / 2 ^ t % 2)) (onz_and hz8) ?_
          refine wl_iadd C dX5_pairs_28 ?_
          refine wl_eqi (b := smT (paF s) k + nI (onz z (t + 1))) (by rw [Int32.add_assoc, nI_add]; rfl) ?_
          refine wl_istore_n (L' := [(1, .int (smT (paF s) k + nI (onz z (t + 1)))), (0, .ref (G.2.2.1 232)), (2, .int (nI k)), (3, .int (nI (z / 2 ^ t)))]) C dX5_pairs_29 rfl (by decide) rfl ?_
          refine wl_iload_n C 3 dX5_pairs_30 rfl rfl ?_
          refine wl_iconst (v := 1) C dX5_pairs_31 (by decide) ?_
          refine wl_ishr C dX5_pairs_32 ?_
          refine wl_eqi (b := nI (z / 2 ^ (t + 1))) (onz_shr hz8) ?_
          refine wl_istore_n (L' := [(3, .int (nI (z / 2 ^ (t + 1)))), (1, .int (smT (paF s) k + nI (onz z (t + 1)))), (0, .ref (G.2.2.1 232)), (2, .int (nI k))]) C dX5_pairs_33 rfl (by decide) rfl ?_
          refine wl_goto C 20 dX5_pairs_34 (by decide) ?_
          refine wl_sub (L' := [(0, .ref (G.2.2.1 232)), (1, .int (smT (paF s) k + nI (onz z (t + 1)))), (2, .int (nI k)), (3, .int (nI (z / 2 ^ (t + 1))))]) [2, 1, 3, 0] rfl ?_
          exact ih2 (onz_t hz8 ht c_21)
      refine wl_sub (L' := [(0, .ref (G.2.2.1 232)), (1, .int (smT (paF s) k)), (2, .int (nI k)), (3, .int (nI z))]) [1, 2, 3, 0] rfl ?_
      have h := h20 0 (Nat.zero_le _)
      rw [show onz z 0 = 0 from rfl, show z / 2 ^ 0 = z by simp, show nI 0 = 0 from rfl, Int32.add_zero] at h
      exact h
  refine wl_sub (L' := [(0, .ref (G.2.2.1 232)), (1, .int (smT (paF s) 0)), (2, .int (nI 0))]) [2, 1, 0] rfl ?_
  exact h4 0 (Nat.zero_le _)
set_option maxHeartbeats 4000000 in
set_option maxRecDepth 100000 in
theorem c_X5_count (l : Launch) (G : Gw) (M : Mem) (σ : Sy) (hR : RM M σ) (hO : OkY σ) (w : Int32) : Cp l G yX5_count wsX5_count 9 209 [.ref (G.2.2.1 232), .int w] M (couY σ w) := by
  refine Ci.of (cc := cX5_count) (maxL := 2) (ret := (some .int)) (by decide +kernel) rfl (Nat.le_of_ble_eq_true rfl) ?_
  intro x sz hl0 hr C
  subst hl0
  have C : CX x G (AA G sz) RX5 cX5_count 2 wsX5_count 9 209 0 0 := C
  have hret : ∀ (M0 : Mem) (pc0 : Nat) (L0 : List (Nat × Value)) (rv0 : Int32), decode cX5_count pc0 = .ok (.ireturn, 1) → (fun (r : Int32) (M' : Mem) => r = couY σ w ∧ M' = M) rv0 M0 → WL x G (AA G sz) 2 0 0 (xQ x (va_Qi (fun (r : Int32) (M' : Mem) => r = couY σ w ∧ M' = M) (WE G) (AA G sz)) (AA G sz)) M0 pc0 L0 [.int rv0] := fun M0 pc0 L0 rv0 hd hp => wl_iret (post := (fun (r : Int32) (M' : Mem) => r = couY σ w ∧ M' = M)) C hr hd hp
  show WL x G (AA G sz) 2 0 0 (xQ x (va_Qi (fun (r : Int32) (M' : Mem) => r = couY σ w ∧ M' = M) (WE G) (AA G sz)) (AA G sz)) M 0 [(0, .ref (G.2.2.1 232)), (1, .int w)] []
  generalize (xQ x (va_Qi (fun (r : Int32) (M' : Mem) => r = couY σ w ∧ M' = M) (WE G) (AA G sz)) (AA G sz)) = QQ at hret ⊢
  have in5 : ∀ w ∈ wsX50, w ∈ wsX5_count := by decide +kernel
  have fl7 : Jvm.Cond.fieldLink RX5 7 "JammedBodiesModel" "all" "[I" ∈ wsX5_count := by decide +kernel
  have fl22 : Jvm.Cond.fieldLink RX5 22 "JammedBodiesModel" "historyLong" "I" ∈ wsX5_count := by decide +kernel
  have fl188 : Jvm.Cond.fieldLink RX5 188 "JammedBodiesModel" "textLong" "I" ∈ wsX5_count := by decide +kernel
  have cn120 : Jvm.Cond.constant RX5 120 (-1000001) ∈ wsX5_count := by decide +kernel
  have hs := hR.1
  have hW := hO.1.1
  have h8 := hs.r
  refine wl_iload_n C 1 dX5_count_0 rfl rfl ?_
  rcases sw8 w with z_1 | z_1 | z_1 | z_1 | z_1 | z_1 | z_1 | z_1 | z_1
  · refine wl_swIn C 48 dX5_count_1 (by rw [z_1]; decide) (by rw [z_1]; decide) (by rw [z_1]; rfl) (by decide) ?_
    refine wl_aload_n C 0 dX5_count_48 rfl rfl ?_
    refine wl_get_Model_all (i := 232) C (by decide) in5 fl7 dX5_count_49 ?_
    refine wl_iconst (v := 2) C dX5_count_52 (by decide) ?_
    refine wl_iald (j := 2) (n := 120) (v := nI σ.1.1) C (by decide) (cell_k (k := 10) (by decide)) (rfl) (by decide) (by decide) hs.2.2.1 dX5_count_53 ?_
    exact hret _ 54 _ (nI σ.1.1) dX5_count_54 (⟨by unfold couY; rw [z_1]; rfl, rfl⟩)
  · refine wl_swIn C 55 dX5_count_1 (by rw [z_1]; decide) (by rw [z_1]; decide) (by rw [z_1]; rfl) (by decide) ?_
    refine wl_aload_n C 0 dX5_count_55 rfl rfl ?_
    refine wl_get_Model_all (i := 232) C (by decide) in5 fl7 dX5_count_56 ?_
    refine wl_iconst (v := 0) C dX5_count_59 (by decide) ?_
    refine wl_iald (j := 0) (n := 120) (v := σ.1.2.1) C (by decide) (cell_k (k := 10) (by decide)) (rfl) (by decide) (by decide) hs.1 dX5_count_60 ?_
    exact hret _ 61 _ σ.1.2.1 dX5_count_61 (⟨by unfold couY; rw [z_1]; rfl, rfl⟩)
  · refine wl_swIn C 62 dX5_count_1 (by rw [z_1]; decide) (by rw [z_1]; decide) (by rw [z_1]; rfl) (by decide) ?_
    refine wl_aload_n C 0 dX5_count_62 rfl rfl ?_
    refine wl_get_Model_all (i := 232) C (by decide) in5 fl7 dX5_count_63 ?_
    refine wl_iconst (v := 1) C dX5_count_66 (by decide) ?_
    refine wl_iald (j := 1) (n := 120) (v := σ.1.2.2.1) C (by decide) (cell_k (k := 10) (by decide)) (rfl) (by decide) (by decide) hs.2.1 dX5_count_67 ?_
    exact hret _ 68 _ σ.1.2.2.1 dX5_count_68 (⟨by unfold couY; rw [z_1]; rfl, rfl⟩)
  · refine wl_swIn C 69 dX5_count_1 (by rw [z_1]; decide) (by rw [z_1]; decide) (by rw [z_1]; rfl) (by decide) ?_
    refine wl_aload_n C 0 dX5_count_69 rfl rfl ?_
    refine wl_callVp (i := 232) (n := 0) C [] [] (c_X5_areas _ G M σ.1 hs hW) gX5_count_X5_areas rfl (by decide +kernel) (by decide) (by decide) (kd_lt (k := 5) (by decide) (by decide)) (cell_k (k := 5) (by decide)) rfl rfl rfl (Nat.le_of_ble_eq_true rfl) dX5_count_70 ?_
    exact hret _ 73 _ (areaS σ.1) dX5_count_73 (⟨by unfold couY; rw [z_1]; rfl, rfl⟩)
  · refine wl_swIn C 74 dX5_count_1 (by rw [z_1]; decide) (by rw [z_1]; decide) (by rw [z_1]; rfl) (by decide) ?_
    refine wl_aload_n C 0 dX5_count_74 rfl rfl ?_
    refine wl_callVp (i := 232) (n := 0) C [] [] (c_X5_cornersOfAll _ G M σ.1 hs hW) gX5_count_X5_cornersOfAll rfl (by decide +kernel) (by decide) (by decide) (kd_lt (k := 5) (by decide) (by decide)) (cell_k (k := 5) (by decide)) rfl rfl rfl (Nat.le_of_ble_eq_true rfl) dX5_count_75 ?_
    exact hret _ 78 _ (cornS σ.1) dX5_count_78 (⟨by unfold couY; rw [z_1]; rfl, rfl⟩)
  · refine wl_swIn C 79 dX5_count_1 (by rw [z_1]; decide) (by rw [z_1]; decide) (by rw [z_1]; rfl) (by decide) ?_
    refine wl_aload_n C 0 dX5_count_79 rfl rfl ?_
    refine wl_callVp (i := 232) (n := 0) C [] [] (c_X5_pairs _ G M σ.1 hs hW) gX5_count_X5_pairs rfl (by decide +kernel) (by decide) (by decide) (kd_lt (k := 5) (by decide) (by decide)) (cell_k (k := 5) (by decide)) rfl rfl rfl (Nat.le_of_ble_eq_true rfl) dX5_count_80 ?_
    exact hret _ 83 _ (pairS σ.1) dX5_count_83 (⟨by unfold couY; rw [z_1]; rfl, rfl⟩)
  · refine wl_swIn C 84 dX5_count_1 (by rw [z_1]; decide) (by rw [z_1]; decide) (by rw [z_1]; rfl) (by decide) ?_
    refine wl_aload_n C 0 dX5_count_84 rfl rfl ?_
    refine wl_get_Model_historyLong (i := 232) (v := nI σ.2.1) C (by decide) in5 fl22 hR.2.1.1 dX5_count_85 ?_
    exact hret _ 88 _ (nI σ.2.1) dX5_count_88 (⟨by unfold couY; rw [z_1]; rfl, rfl⟩)
  · refine wl_swIn C 89 dX5_count_1 (by rw [z_1]; decide) (by rw [z_1]; decide) (by rw [z_1]; rfl) (by decide) ?_
    refine wl_aload_n C 0 dX5_count_89 rfl rfl ?_
    refine wl_get_Model_textLong (i := 232) (v := nI σ.2.2.2.1) C (by decide) in5 fl188 hR.2.2.1 dX5_count_90 ?_
    exact hret _ 93 _ (nI σ.2.2.2.1) dX5_count_93 (⟨by unfold couY; rw [z_1]; rfl, rfl⟩)
  · refine wl_swOut C 94 dX5_count_1 z_1 (by decide) ?_
    refine wl_ldc C cn120 dX5_count_94 ?_
    exact hret _ 96 _ (-1000001) dX5_count_96 (⟨by unfold couY; rw [if_neg (sw_ne z_1 (by decide)), if_neg (sw_ne z_1 (by decide)), if_neg (sw_ne z_1 (by decide)), if_neg (sw_ne z_1 (by decide)), if_neg (sw_ne z_1 (by decide)), if_neg (sw_ne z_1 (by decide)), if_neg (sw_ne z_1 (by decide)), if_neg (sw_ne z_1 (by decide))], rfl⟩)
set_option maxHeartbeats 4000000 in
set_option maxRecDepth 100000 in
theorem c_X5_undo (l : Launch) (G : Gw) (M : Mem) (σ : Sy) (hR : RM M σ) (hO : OkY σ) : Ci l G yX5_undo wsX5_undo 0 0 [.ref (G.2.2.1 232)] M (fun r M' => r = (undY σ).1 ∧ RM M' (undY σ).2 ∧ FrM M M') := by
  refine Ci.of (cc := cX5_undo) (maxL := 2) (ret := (some .int)) (by decide +kernel) rfl (Nat.le_of_ble_eq_true rfl) ?_
  intro x sz hl0 hr C
  subst hl0
  have C : CX x G (AA G sz) RX5 cX5_undo 2 wsX5_undo 0 0 0 0 := C
  have hret : ∀ (M0 : Mem) (pc0 : Nat) (L0 : List (Nat × Value)) (rv0 : Int32), decode cX5_undo pc0 = .ok (.ireturn, 1) → (fun r M' => r = (undY σ).1 ∧ RM M' (undY σ).2 ∧ FrM M M') rv0 M0 → WL x G (AA G sz) 2 0 0 (xQ x (va_Qi (fun r M' => r = (undY σ).1 ∧ RM M' (undY σ).2 ∧ FrM M M') (WE G) (AA G sz)) (AA G sz)) M0 pc0 L0 [.int rv0] := fun M0 pc0 L0 rv0 hd hp => wl_iret (post := (fun r M' => r = (undY σ).1 ∧ RM M' (undY σ).2 ∧ FrM M M')) C hr hd hp
  show WL x G (AA G sz) 2 0 0 (xQ x (va_Qi (fun r M' => r = (undY σ).1 ∧ RM M' (undY σ).2 ∧ FrM M M') (WE G) (AA G sz)) (AA G sz)) M 0 [(0, .ref (G.2.2.1 232))] []
  generalize (xQ x (va_Qi (fun r M' => r = (undY σ).1 ∧ RM M' (undY σ).2 ∧ FrM M M') (WE G) (AA G sz)) (AA G sz)) = QQ at hret ⊢
  have in5 : ∀ w ∈ wsX50, w ∈ wsX5_undo := by decide +kernel
  have fl22 : Jvm.Cond.fieldLink RX5 22 "JammedBodiesModel" "historyLong" "I" ∈ wsX5_undo := by decide +kernel
  have fl7 : Jvm.Cond.fieldLink RX5 7 "JammedBodiesModel" "all" "[I" ∈ wsX5_undo := by decide +kernel
  have fl13 : Jvm.Cond.fieldLink RX5 13 "JammedBodiesModel" "history" "[I" ∈ wsX5_undo := by decide +kernel
  have cn121 : Jvm.Cond.constant RX5 121 (-1000002) ∈ wsX5_undo := by decide +kernel
  have hs := hR.1
  have hW := hO.1.1
  have h8 := hs.r
  obtain ⟨hh, hn4, hHa⟩ := hR.2.1
  refine wl_aload_n C 0 dX5_undo_0 rfl rfl ?_
  refine wl_get_Model_historyLong (i := 232) (v := nI σ.2.1) C (by decide) in5 fl22 hh dX5_undo_1 ?_
  refine wl_if_ne C 10 dX5_undo_4 (by decide) (fun c_4 => ?_) (fun c_4 => ?_)
  · refine wl_aload_n C 0 dX5_undo_10 rfl rfl ?_
    refine wl_dup C dX5_undo_11 rfl ?_
    refine wl_get_Model_historyLong (i := 232) (v := nI σ.2.1) C (by decide) in5 fl22 hh dX5_undo_12 ?_
    refine wl_iconst (v := 1) C dX5_undo_15 (by decide) ?_
    refine wl_isub C dX5_undo_16 ?_
    refine wl_eqi (b := nI (σ.2.1 - 1)) (nI_sub1 (Nat.pos_of_ne_zero (fun z => c_4 (by rw [z]; rfl)))) ?_
    refine wl_put_Model_historyLong (i := 232) C (by decide) in5 fl22 dX5_undo_17 ?_
    obtain ⟨Ma, eMa⟩ : ∃ z : Mem, z = (mset M 232 3 (nI (σ.2.1 - 1))) := ⟨_, rfl⟩
    rw [← eMa]
    have h0 : 0 < σ.2.1 := Nat.pos_of_ne_zero (fun z => c_4 (by rw [z]; rfl))
    have q3 : Ma 232 3 = nI (σ.2.1 - 1) := by rw [eMa]; exact mset_self _ _ _ _
    have q4 : Ma 234 = M 234 := by rw [eMa]; exact mset_off 234 (by decide)
    have fa : OnH M Ma := by rw [eMa]; exact OnH.s3
    refine wl_iconst (v := nI 0) C dX5_undo_20 (by first | decide | rfl) ?_
    refine wl_istore_n (L' := [(1, .int (nI 0)), (0, .ref (G.2.2.1 232))]) C dX5_undo_21 rfl (by decide) rfl ?_
    have h22 : ∀ i, i ≤ 120 → ∀ M2 : Mem, (∀ j, j < i → M2 233 j = M 234 (120 * (σ.2.1 - 1) + j)) ∧ On3 Ma M2 → WL x G (AA G sz) 2 0 0 QQ M2 22 [(0, .ref (G.2.2.1 232)), (1, .int (nI i))] [] := by
      refine up_loop 120 _ ?_
      intro i hi ih M2 hJ
      refine wl_iload_n C 1 dX5_undo_22 rfl rfl ?_
      refine wl_bipush (v := nI 120) C dX5_undo_23 (by decide) ?_
      refine wl_icmp_geN C (a := i) (b := 120) (by omega) (by omega) 54 dX5_undo_25 (by decide) (fun c_25 => ?_) (fun c_25 => ?_)
      · refine wl_aload_n C 0 dX5_undo_54 rfl rfl ?_
        refine wl_get_Model_historyLong (i := 232) (v := nI (σ.2.1 - 1)) C (by decide) in5 fl22 (by rw [hJ.2 232 (by decide)]; exact q3) dX5_undo_55 ?_
        exact hret _ 58 _ (nI (σ.2.1 - 1)) dX5_undo_58 (by (have e : undY σ = (nI (σ.2.1 - 1), (σ.2.2.1 (σ.2.1 - 1), σ.2.1 - 1, σ.2.2.1, σ.2.2.2)) := (by unfold undY; rw [if_neg (fun z => c_4 (by rw [z]; rfl))])); rw [e]; exact ⟨rfl, ⟨(hHa (σ.2.1 - 1) (by omega)).same (fun j hj => hJ.1 j (by omega)), ⟨by rw [hJ.2 232 (by decide)]; exact q3, by show σ.2.1 - 1 ≤ 4; omega, fun a ha => by have ha2 : a < σ.2.1 - 1 := ha; rw [hJ.2 234 (by decide), q4]; exact hHa a (by omega)⟩, (hR.2.2.onH fa).on3 hJ.2⟩, fa.M.tr hJ.2.M⟩)
      · refine wl_aload_n C 0 dX5_undo_28 rfl rfl ?_
        refine wl_get_Model_all (i := 232) C (by decide) in5 fl7 dX5_undo_29 ?_
        refine wl_iload_n C 1 dX5_undo_32 rfl rfl ?_
        refine wl_aload_n C 0 dX5_undo_33 rfl rfl ?_
        refine wl_get_Model_history (i := 232) C (by decide) in5 fl13 dX5_undo_34 ?_
        refine wl_bipush (v := nI 120) C dX5_undo_37 (by decide) ?_
        refine wl_aload_n C 0 dX5_undo_39 rfl rfl ?_
        refine wl_get_Model_historyLong (i := 232) (v := nI (σ.2.1 - 1)) C (by decide) in5 fl22 (by rw [hJ.2 232 (by decide)]; exact q3) dX5_undo_40 ?_
        refine wl_imul C dX5_undo_43 ?_
        refine wl_iload_n C 1 dX5_undo_44 rfl rfl ?_
        refine wl_iadd C dX5_undo_45 ?_
        refine wl_iald (j := 120 * (σ.2.1 - 1) + i) (n := 480) (v := M 234 (120 * (σ.2.1 - 1) + i)) C (by decide) (cell_k (k := 11) (by decide)) (by rw [pk_mul, nI_add]) (by omega) (by decide) (by rw [hJ.2 234 (by decide), q4]) dX5_undo_46 ?_
        refine wl_iast (j := i) (n := 120) C (by decide) (fun M => (cell_k (k := 10) (by decide))) (rfl) (by omega) (by decide) dX5_undo_47 ?_
        refine wl_iinc1 (k := i) (L' := [(1, .int (nI (i + 1))), (0, .ref (G.2.2.1 232))]) C 1 dX5_undo_48 rfl (by decide) rfl ?_
        refine wl_goto C 22 dX5_undo_51 (by decide) ?_
        refine wl_sub (L' := [(0, .ref (G.2.2.1 232)), (1, .int (nI (i + 1)))]) [1, 0] rfl ?_
        exact ih (by omega) _ ⟨set_to (f := fun j => M 234 (120 * (σ.2.1 - 1) + j)) hJ.1, On3.st hJ.2⟩
    refine wl_sub (L' := [(0, .ref (G.2.2.1 232)), (1, .int (nI 0))]) [1, 0] rfl ?_
    exact h22 0 (Nat.zero_le _) Ma ⟨fun j hj => absurd hj (Nat.not_lt_zero _), On3.rf⟩
  · refine wl_ldc C cn121 dX5_undo_7 ?_
    exact hret _ 9 _ (-1000002) dX5_undo_9 (by (have e : undY σ = (-1000002, σ) := (by unfold undY; rw [if_pos (Nat.eq_zero_of_not_pos (fun q => nI_ne0 q (by omega) c_4))])); rw [e]; exact ⟨rfl, hR, FrM.rf⟩)
set_option maxHeartbeats 4000000 in
set_option maxRecDepth 100000 in
theorem c_X5_type (l : Launch) (G : Gw) (M : Mem) (σ : Sy) (hR : RM M σ) (hO : OkY σ) (v : Int32) : Ci l G yX5_type wsX5_type 1 25 [.ref (G.2.2.1 232), .int v] M (fun r M' => r = (typY σ v).1 ∧ RM M' (typY σ v).2 ∧ FrM M M') := by
  refine Ci.of (cc := cX5_type) (maxL := 2) (ret := (some .int)) (by decide +kernel) rfl (Nat.le_of_ble_eq_true rfl) ?_
  intro x sz hl0 hr C
  subst hl0
  have C : CX x G (AA G sz) RX5 cX5_type 2 wsX5_type 1 25 0 0 := C
  have hret : ∀ (M0 : Mem) (pc0 : Nat) (L0 : List (Nat × Value)) (rv0 : Int32), decode cX5_type pc0 = .ok (.ireturn, 1) → (fun r M' => r = (typY σ v).1 ∧ RM M' (typY σ v).2 ∧ FrM M M') rv0 M0 → WL x G (AA G sz) 2 0 0 (xQ x (va_Qi (fun r M' => r = (typY σ v).1 ∧ RM M' (typY σ v).2 ∧ FrM M M') (WE G) (AA G sz)) (AA G sz)) M0 pc0 L0 [.int rv0] := fun M0 pc0 L0 rv0 hd hp => wl_iret (post := (fun r M' => r = (typY σ v).1 ∧ RM M' (typY σ v).2 ∧ FrM M M')) C hr hd hp
  show WL x G (AA G sz) 2 0 0 (xQ x (va_Qi (fun r M' => r = (typY σ v).1 ∧ RM M' (typY σ v).2 ∧ FrM M M') (WE G) (AA G sz)) (AA G sz)) M 0 [(0, .ref (G.2.2.1 232)), (1, .int v)] []
  generalize (xQ x (va_Qi (fun r M' => r = (typY σ v).1 ∧ RM M' (typY σ v).2 ∧ FrM M M') (WE G) (AA G sz)) (AA G sz)) = QQ at hret ⊢
  have cn191 : Jvm.Cond.constantLong RX5 191 (32) ∈ wsX5_type := by decide +kernel
  have cn193 : Jvm.Cond.constantLong RX5 193 (126) ∈ wsX5_type := by decide +kernel
  have in5 : ∀ w ∈ wsX50, w ∈ wsX5_type := by decide +kernel
  have fl188 : Jvm.Cond.fieldLink RX5 188 "JammedBodiesModel" "textLong" "I" ∈ wsX5_type := by decide +kernel
  have fl19 : Jvm.Cond.fieldLink RX5 19 "JammedBodiesModel" "text" "[I" ∈ wsX5_type := by decide +kernel
  have cn132 : Jvm.Cond.constant RX5 132 (-1000003) ∈ wsX5_type := by decide +kernel
  have cn120 : Jvm.Cond.constant RX5 120 (-1000001) ∈ wsX5_type := by decide +kernel
  have hs := hR.1
  have hW := hO.1.1
  have h8 := hs.r
  have h60 := hO.2.2.1
  refine wl_iload_n C 1 dX5_type_0 rfl rfl ?_
  refine wl_i2l (v := v.toInt64) C dX5_type_1 (rfl) ?_
  refine wl_ldc2 C cn191 dX5_type_2 ?_
  refine wl_ldc2 C cn193 dX5_type_5 ?_
  refine wl_callSp (n := 3) C [.long v.toInt64, .long 32, .long 126] [] (c_X5_in _ G M v.toInt64 32 126) gX5_type_X5_in rfl (by decide +kernel) (by decide) (by decide) rfl rfl (Nat.le_of_ble_eq_true rfl) dX5_type_8 ?_
  refine wl_eqi (b := bi (decide (nI 32 ≤ v) && decide (v ≤ nI 126))) (by rw [inL_num (a := nI 32) (b := nI 126) (by decide) (by decide)]) ?_
  refine wl_if_neB C 17 dX5_type_11 (by decide) (fun c_11 => ?_) (fun c_11 => ?_)
  · refine wl_aload_n C 0 dX5_type_17 rfl rfl ?_
    refine wl_get_Model_textLong (i := 232) (v := nI σ.2.2.2.1) C (by decide) in5 fl188 hR.2.2.1 dX5_type_18 ?_
    refine wl_bipush (v := nI 60) C dX5_type_21 (by decide) ?_
    refine wl_icmp_neN C (a := σ.2.2.2.1) (b := 60) (by omega) (by omega) 29 dX5_type_23 (by decide) (fun c_23 => ?_) (fun c_23 => ?_)
    · refine wl_aload_n C 0 dX5_type_29 rfl rfl ?_
      refine wl_get_Model_text (i := 232) C (by decide) in5 fl19 dX5_type_30 ?_
      refine wl_aload_n C 0 dX5_type_33 rfl rfl ?_
      refine wl_get_Model_textLong (i := 232) (v := nI σ.2.2.2.1) C (by decide) in5 fl188 hR.2.2.1 dX5_type_34 ?_
      refine wl_iload_n C 1 dX5_type_37 rfl rfl ?_
      refine wl_iast (j := σ.2.2.2.1) (n := 60) C (by decide) (fun M => (cell_k (k := 12) (by decide))) (rfl) (by omega) (by decide) dX5_type_38 ?_
      refine wl_aload_n C 0 dX5_type_39 rfl rfl ?_
      refine wl_dup C dX5_type_40 rfl ?_
      refine wl_get_Model_textLong (i := 232) (v := nI σ.2.2.2.1) C (by decide) in5 fl188 (by rw [mset_ne (by omega)]; exact hR.2.2.1) dX5_type_41 ?_
      refine wl_iconst (v := 1) C dX5_type_44 (by decide) ?_
      refine wl_iadd C dX5_type_45 ?_
      refine wl_eqi (b := nI (σ.2.2.2.1 + 1)) (nI_1 _) ?_
      refine wl_put_Model_textLong (i := 232) C (by decide) in5 fl188 dX5_type_46 ?_
      obtain ⟨M2, eM2⟩ : ∃ z : Mem, z = (mset (mset M 236 σ.2.2.2.1 v) 232 5 (nI (σ.2.2.2.1 + 1))) := ⟨_, rfl⟩
      rw [← eM2]
      have e2 := eM2
      have hg : 32 ≤ v ∧ v ≤ 126 := ⟨of_decide_eq_true (Bool.and_eq_true_iff.mp c_11).1, of_decide_eq_true (Bool.and_eq_true_iff.mp c_11).2⟩
      refine wl_aload_n C 0 dX5_type_49 rfl rfl ?_
      refine wl_get_Model_textLong (i := 232) (v := nI (σ.2.2.2.1 + 1)) C (by decide) in5 fl188 (by rw [e2]; exact mset_self _ _ _ _) dX5_type_50 ?_
      exact hret _ 53 _ (nI (σ.2.2.2.1 + 1)) dX5_type_53 (by (have e : typY σ v = (nI (σ.2.2.2.1 + 1), (σ.1, σ.2.1, σ.2.2.1, (σ.2.2.2.1 + 1, fun j => if j = σ.2.2.2.1 then v else σ.2.2.2.2 j))) := (by unfold typY; rw [if_pos hg, if_pos (by omega)])); rw [e]; exact ⟨rfl, typ_endM hR e2⟩)
    · refine wl_ldc C cn132 dX5_type_26 ?_
      exact hret _ 28 _ (-1000003) dX5_type_28 (by (have e : typY σ v = (-1000003, σ) := (by unfold typY; rw [if_pos ⟨of_decide_eq_true (Bool.and_eq_true_iff.mp c_11).1, of_decide_eq_true (Bool.and_eq_true_iff.mp c_11).2⟩, if_neg (by omega)])); rw [e]; exact ⟨rfl, hR, FrM.rf⟩)
  · refine wl_ldc C cn120 dX5_type_14 ?_
    exact hret _ 16 _ (-1000001) dX5_type_16 (by (have e : typY σ v = (-1000001, σ) := (by unfold typY; rw [if_neg (fun q => bcf (Bool.and_eq_true_iff.mpr ⟨decide_eq_true q.1, decide_eq_true q.2⟩) c_11)])); rw [e]; exact ⟨rfl, hR, FrM.rf⟩)
set_option maxHeartbeats 4000000 in
set_option maxRecDepth 100000 in
theorem c_X5_clearText (l : Launch) (G : Gw) (M : Mem) (σ : Sy) (hR : RM M σ) (hO : OkY σ) : Ci l G yX5_clearText wsX5_clearText 0 0 [.ref (G.2.2.1 232)] M (fun r M' => r = (cleY σ).1 ∧ RM M' (cleY σ).2 ∧ FrM M M') := by
  refine Ci.of (cc := cX5_clearText) (maxL := 2) (ret := (some .int)) (by decide +kernel) rfl (Nat.le_of_ble_eq_true rfl) ?_
  intro x sz hl0 hr C
  subst hl0
  have C : CX x G (AA G sz) RX5 cX5_clearText 2 wsX5_clearText 0 0 0 0 := C
  have hret : ∀ (M0 : Mem) (pc0 : Nat) (L0 : List (Nat × Value)) (rv0 : Int32), decode cX5_clearText pc0 = .ok (.ireturn, 1) → (fun r M' => r = (cleY σ).1 ∧ RM M' (cleY σ).2 ∧ FrM M M') rv0 M0 → WL x G (AA G sz) 2 0 0 (xQ x (va_Qi (fun r M' => r = (cleY σ).1 ∧ RM M' (cleY σ).2 ∧ FrM M M') (WE G) (AA G sz)) (AA G sz)) M0 pc0 L0 [.int rv0] := fun M0 pc0 L0 rv0 hd hp => wl_iret (post := (fun r M' => r = (cleY σ).1 ∧ RM M' (cleY σ).2 ∧ FrM M M')) C hr hd hp
  show WL x G (AA G sz) 2 0 0 (xQ x (va_Qi (fun r M' => r = (cleY σ).1 ∧ RM M' (cleY σ).2 ∧ FrM M M') (WE G) (AA G sz)) (AA G sz)) M 0 [(0, .ref (G.2.2.1 232))] []
  generalize (xQ x (va_Qi (fun r M' => r = (cleY σ).1 ∧ RM M' (cleY σ).2 ∧ FrM M M') (WE G) (AA G sz)) (AA G sz)) = QQ at hret ⊢
  have in5 : ∀ w ∈ wsX50, w ∈ wsX5_clearText := by decide +kernel
  have fl188 : Jvm.Cond.fieldLink RX5 188 "JammedBodiesModel" "textLong" "I" ∈ wsX5_clearText := by decide +kernel
  have hs := hR.1
  have hW := hO.1.1
  have h8 := hs.r
  refine wl_aload_n C 0 dX5_clearText_0 rfl rfl ?_
  refine wl_get_Model_textLong (i := 232) (v := nI σ.2.2.2.1) C (by decide) in5 fl188 hR.2.2.1 dX5_clearText_1 ?_
  refine wl_istore_n (L' := [(1, .int (nI σ.2.2.2.1)), (0, .ref (G.2.2.1 232))]) C dX5_clearText_4 rfl (by decide) rfl ?_
  refine wl_aload_n C 1 dX5_clearText_5 rfl rfl ?_
  refine wl_iconst (v := 0) C dX5_clearText_6 (by decide) ?_
  refine wl_put_Model_textLong (i := 232) C (by decide) in5 fl188 dX5_clearText_7 ?_
  refine wl_iload_n C 0 dX5_clearText_10 rfl rfl ?_
  exact hret _ 11 _ (nI σ.2.2.2.1) dX5_clearText_11 (⟨rfl, cle_endM hR⟩)
