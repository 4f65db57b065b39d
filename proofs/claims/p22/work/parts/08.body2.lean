set_option maxHeartbeats 4000000 in
set_option maxRecDepth 100000 in
theorem c_X0_copyFrom (l : Launch) (G : Gw) (M : Mem) (b o : Nat) (P : Py) (n0 : Nat) (hb : kd b = 0) (ho : kd o = 0) (hQ : Bd M o P) (hd : o + 3 ≤ b ∨ b + 3 ≤ o) : Cv l G yX0_copyFrom wsX0_copyFrom 1 23 [.ref (G.2.2.1 b), .ref (G.2.2.1 o)] M (fun M' => Bd M' b P ∧ Fr b M M') := by
  refine Cv.of (cc := cX0_copyFrom) (maxL := 3) (ret := none) (by decide +kernel) rfl (Nat.le_of_ble_eq_true rfl) ?_
  intro x sz hl0 hr C
  subst hl0
  have C : CX x G (AA G sz) RX0 cX0_copyFrom 3 wsX0_copyFrom 1 23 0 0 := C
  have hret : ∀ (M0 : Mem) (pc0 : Nat) (L0 : List (Nat × Value)), decode cX0_copyFrom pc0 = .ok (.return_, 1) → (fun M' => Bd M' b P ∧ Fr b M M') M0 → WL x G (AA G sz) 3 0 0 (xQ x (va_Qv (fun M' => Bd M' b P ∧ Fr b M M') (WE G) (AA G sz)) (AA G sz)) M0 pc0 L0 [] := fun M0 pc0 L0 hd hp => wl_vret (post := (fun M' => Bd M' b P ∧ Fr b M M')) C hr hd hp
  show WL x G (AA G sz) 3 0 0 (xQ x (va_Qv (fun M' => Bd M' b P ∧ Fr b M M') (WE G) (AA G sz)) (AA G sz)) M 0 [(0, .ref (G.2.2.1 b)), (1, .ref (G.2.2.1 o))] []
  generalize (xQ x (va_Qv (fun M' => Bd M' b P ∧ Fr b M M') (WE G) (AA G sz)) (AA G sz)) = QQ at hret ⊢
  have in0 : ∀ w ∈ wsX00, w ∈ wsX0_copyFrom := by decide +kernel
  have fl18 : Jvm.Cond.fieldLink RX0 18 "JammedBodies$Body" "corners" "I" ∈ wsX0_copyFrom := by decide +kernel
  have h7 := hQ.2.1
  refine wl_aload_n C 0 dX0_copyFrom_0 rfl rfl ?_
  refine wl_aload_n C 1 dX0_copyFrom_1 rfl rfl ?_
  refine wl_get_Body_corners (i := o) (v := nI P.1) C ho in0 fl18 hQ.1 dX0_copyFrom_2 ?_
  refine wl_put_Body_corners (i := b) C hb in0 fl18 dX0_copyFrom_5 ?_
  obtain ⟨M1, eM1⟩ : ∃ z : Mem, z = (mset M b 2 (nI P.1)) := ⟨_, rfl⟩
  rw [← eM1]
  have h1 : M1 b 2 = nI P.1 := by rw [eM1, mset_self]
  have hf1 : Fr b M M1 := fun i hi => by rw [eM1]; exact mset_off i (by omega)
  refine wl_iconst (v := nI 0) C dX0_copyFrom_8 (by first | decide | rfl) ?_
  refine wl_istore_n (L' := [(2, .int (nI 0)), (0, .ref (G.2.2.1 b)), (1, .ref (G.2.2.1 o))]) C dX0_copyFrom_9 rfl (by decide) rfl ?_
  have h10 : ∀ k, k ≤ P.1 → ∀ M2 : Mem, plI M1 b P.1 P.2.1 P.2.2 k M2 → WL x G (AA G sz) 3 0 0 QQ M2 10 [(0, .ref (G.2.2.1 b)), (1, .ref (G.2.2.1 o)), (2, .int (nI k))] [] := by
    refine up_loop P.1 _ ?_
    intro k hk ih M2 hI
    have hQ2 : Bd M2 o P := hQ.fr (hf1.tr hI.2.2.2) hd
    refine wl_iload_n C 2 dX0_copyFrom_10 rfl rfl ?_
    refine wl_aload_n C 0 dX0_copyFrom_11 rfl rfl ?_
    refine wl_get_Body_corners (i := b) (v := nI P.1) C hb in0 fl18 hI.1 dX0_copyFrom_12 ?_
    refine wl_icmp_geN C (a := k) (b := P.1) (by omega) (by omega) 39 dX0_copyFrom_15 (by decide) (fun c_15 => ?_) (fun c_15 => ?_)
    · exact hret _ 39 _ dX0_copyFrom_39 (⟨(plI_end hI (by omega) h7).1, hf1.tr (plI_end hI (by omega) h7).2⟩)
    · refine wl_aload_n C 0 dX0_copyFrom_18 rfl rfl ?_
      refine wl_iload_n C 2 dX0_copyFrom_19 rfl rfl ?_
      refine wl_aload_n C 1 dX0_copyFrom_20 rfl rfl ?_
      refine wl_iload_n C 2 dX0_copyFrom_21 rfl rfl ?_
      refine wl_callVp (i := o) (n := 1) C [.int (nI k)] [.int (nI k), .ref (G.2.2.1 b)] (c_X0_x _ G M2 o k P ho hQ2 (by omega)) gX0_copyFrom_X0_x rfl (by decide +kernel) (by decide) (by decide) (kd_lt ho (by decide)) (cell_k ho) rfl rfl rfl (Nat.le_of_ble_eq_true rfl) dX0_copyFrom_22 ?_
      refine wl_aload_n C 1 dX0_copyFrom_25 rfl rfl ?_
      refine wl_iload_n C 2 dX0_copyFrom_26 rfl rfl ?_
      refine wl_callVp (i := o) (n := 1) C [.int (nI k)] [.int (P.2.1 k), .int (nI k), .ref (G.2.2.1 b)] (c_X0_y _ G M2 o k P ho hQ2 (by omega)) gX0_copyFrom_X0_y rfl (by decide +kernel) (by decide) (by decide) (kd_lt ho (by decide)) (cell_k ho) rfl rfl rfl (Nat.le_of_ble_eq_true rfl) dX0_copyFrom_27 ?_
      refine wl_callVv (i := b) (n := 3) C [.int (nI k), .int (P.2.1 k), .int (P.2.2 k)] [] (c_X0_place _ G M2 b k (P.2.1 k) (P.2.2 k) hb (by omega)) gX0_copyFrom_X0_place rfl (by decide +kernel) (by decide) (by decide) (kd_lt hb (by decide)) (cell_k hb) rfl rfl rfl (Nat.le_of_ble_eq_true rfl) dX0_copyFrom_30 (fun M3 e3 => ?_)
      refine wl_iinc1 (k := k) (L' := [(2, .int (nI (k + 1))), (0, .ref (G.2.2.1 b)), (1, .ref (G.2.2.1 o))]) C 2 dX0_copyFrom_33 rfl (by decide) rfl ?_
      refine wl_goto C 10 dX0_copyFrom_36 (by decide) ?_
      refine wl_sub (L' := [(0, .ref (G.2.2.1 b)), (1, .ref (G.2.2.1 o)), (2, .int (nI (k + 1)))]) [1, 2, 0] rfl ?_
      exact ih (by omega) M3 (by rw [e3]; exact plI_step hI rfl rfl)
  refine wl_sub (L' := [(0, .ref (G.2.2.1 b)), (1, .ref (G.2.2.1 o)), (2, .int (nI 0))]) [1, 2, 0] rfl ?_
  exact h10 0 (Nat.zero_le _) M1 (plI_0 h1)
set_option maxHeartbeats 4000000 in
set_option maxRecDepth 100000 in
theorem c_X0_move (l : Launch) (G : Gw) (M : Mem) (b : Nat) (P : Py) (hb : kd b = 0) (hB : Bd M b P) (dx dy : Int32) : Cv l G yX0_move wsX0_move 1 23 [.ref (G.2.2.1 b), .int dx, .int dy] M (fun M' => Bd M' b (mvP P dx dy) ∧ Fr b M M') := by
  refine Cv.of (cc := cX0_move) (maxL := 4) (ret := none) (by decide +kernel) rfl (Nat.le_of_ble_eq_true rfl) ?_
  intro x sz hl0 hr C
  subst hl0
  have C : CX x G (AA G sz) RX0 cX0_move 4 wsX0_move 1 23 0 0 := C
  have hret : ∀ (M0 : Mem) (pc0 : Nat) (L0 : List (Nat × Value)), decode cX0_move pc0 = .ok (.return_, 1) → (fun M' => Bd M' b (mvP P dx dy) ∧ Fr b M M') M0 → WL x G (AA G sz) 4 0 0 (xQ x (va_Qv (fun M' => Bd M' b (mvP P dx dy) ∧ Fr b M M') (WE G) (AA G sz)) (AA G sz)) M0 pc0 L0 [] := fun M0 pc0 L0 hd hp => wl_vret (post := (fun M' => Bd M' b (mvP P dx dy) ∧ Fr b M M')) C hr hd hp
  show WL x G (AA G sz) 4 0 0 (xQ x (va_Qv (fun M' => Bd M' b (mvP P dx dy) ∧ Fr b M M') (WE G) (AA G sz)) (AA G sz)) M 0 [(0, .ref (G.2.2.1 b)), (1, .int dx), (2, .int dy)] []
  generalize (xQ x (va_Qv (fun M' => Bd M' b (mvP P dx dy) ∧ Fr b M M') (WE G) (AA G sz)) (AA G sz)) = QQ at hret ⊢
  have in0 : ∀ w ∈ wsX00, w ∈ wsX0_move := by decide +kernel
  have fl18 : Jvm.Cond.fieldLink RX0 18 "JammedBodies$Body" "corners" "I" ∈ wsX0_move := by decide +kernel
  have h7 := hB.2.1
  refine wl_iconst (v := nI 0) C dX0_move_0 (by first | decide | rfl) ?_
  refine wl_istore_n (L' := [(3, .int (nI 0)), (0, .ref (G.2.2.1 b)), (1, .int dx), (2, .int dy)]) C dX0_move_1 rfl (by decide) rfl ?_
  have h2 : ∀ k, k ≤ P.1 → ∀ M2 : Mem, plI M b P.1 (mvP P dx dy).2.1 (mvP P dx dy).2.2 k M2 → WL x G (AA G sz) 4 0 0 QQ M2 2 [(0, .ref (G.2.2.1 b)), (1, .int dx), (2, .int dy), (3, .int (nI k))] [] := by
    refine up_loop P.1 _ ?_
    intro k hk ih M2 hI
    have hW : Bd M2 b (P.1, M2 (b + 1), M2 (b + 2)) := Bd.own hI.1 h7
    refine wl_iload_n C 3 dX0_move_2 rfl rfl ?_
    refine wl_aload_n C 0 dX0_move_3 rfl rfl ?_
    refine wl_get_Body_corners (i := b) (v := nI P.1) C hb in0 fl18 hI.1 dX0_move_4 ?_
    refine wl_icmp_geN C (a := k) (b := P.1) (by omega) (by omega) 35 dX0_move_7 (by decide) (fun c_7 => ?_) (fun c_7 => ?_)
    · exact hret _ 35 _ dX0_move_35 (plI_end hI (by omega) h7)
    · refine wl_aload_n C 0 dX0_move_10 rfl rfl ?_
      refine wl_iload_n C 3 dX0_move_11 rfl rfl ?_
      refine wl_aload_n C 0 dX0_move_12 rfl rfl ?_
      refine wl_iload_n C 3 dX0_move_13 rfl rfl ?_
      refine wl_callVp (i := b) (n := 1) C [.int (nI k)] [.int (nI k), .ref (G.2.2.1 b)] (c_X0_x _ G M2 b k _ hb hW (by show k < P.1; omega)) gX0_move_X0_x rfl (by decide +kernel) (by decide) (by decide) (kd_lt hb (by decide)) (cell_k hb) rfl rfl rfl (Nat.le_of_ble_eq_true rfl) dX0_move_14 ?_
      refine wl_eqi (b := P.2.1 k) ((plI_x hI (by omega)).trans (hB.2.2.1 k (by omega))) ?_
      refine wl_iload_n C 1 dX0_move_17 rfl rfl ?_
      refine wl_iadd C dX0_move_18 ?_
      refine wl_aload_n C 0 dX0_move_19 rfl rfl ?_
      refine wl_iload_n C 3 dX0_move_20 rfl rfl ?_
      refine wl_callVp (i := b) (n := 1) C [.int (nI k)] [.int ((P.2.1 k) + dx), .int (nI k), .ref (G.2.2.1 b)] (c_X0_y _ G M2 b k _ hb hW (by show k < P.1; omega)) gX0_move_X0_y rfl (by decide +kernel) (by decide) (by decide) (kd_lt hb (by decide)) (cell_k hb) rfl rfl rfl (Nat.le_of_ble_eq_true rfl) dX0_move_21 ?_
      refine wl_eqi (b := P.2.2 k) ((plI_y hI (by omega)).trans (hB.2.2.2 k (by omega))) ?_
      refine wl_iload_n C 2 dX0_move_24 rfl rfl ?_
      refine wl_iadd C dX0_move_25 ?_
      refine wl_callVv (i := b) (n := 3) C [.int (nI k), .int ((P.2.1 k) + dx), .int ((P.2.2 k) + dy)] [] (c_X0_place _ G M2 b k (P.2.1 k + dx) (P.2.2 k + dy) hb (by omega)) gX0_move_X0_place rfl (by decide +kernel) (by decide) (by decide) (kd_lt hb (by decide)) (cell_k hb) rfl rfl rfl (Nat.le_of_ble_eq_true rfl) dX0_move_26 (fun M3 e3 => ?_)
      refine wl_iinc1 (k := k) (L' := [(3, .int (nI (k + 1))), (0, .ref (G.2.2.1 b)), (1, .int dx), (2, .int dy)]) C 3 dX0_move_29 rfl (by decide) rfl ?_
      refine wl_goto C 2 dX0_move_32 (by decide) ?_
      refine wl_sub (L' := [(0, .ref (G.2.2.1 b)), (1, .int dx), (2, .int dy), (3, .int (nI (k + 1)))]) [1, 2, 3, 0] rfl ?_
      exact ih (by omega) M3 (by rw [e3]; exact plI_step hI rfl rfl)
  refine wl_sub (L' := [(0, .ref (G.2.2.1 b)), (1, .int dx), (2, .int dy), (3, .int (nI 0))]) [1, 2, 3, 0] rfl ?_
  exact h2 0 (Nat.zero_le _) M (plI_0 hB.1)
set_option maxHeartbeats 4000000 in
set_option maxRecDepth 100000 in
theorem c_X0_reach (l : Launch) (G : Gw) (M : Mem) (b o : Nat) (P Q : Py) (hb : kd b = 0) (ho : kd o = 0) (hB : Bd M b P) (hQ : Bd M o Q) (k : Nat) (hk : k < P.1) (h0 : 0 < Q.1) (hF : Far P Q) : Cp l G yX0_reach wsX0_reach 1 25 [.ref (G.2.2.1 b), .int (nI k), .ref (G.2.2.1 o)] M (pReach P k Q) := by
  refine Ci.of (cc := cX0_reach) (maxL := 10) (ret := (some .int)) (by decide +kernel) rfl (Nat.le_of_ble_eq_true rfl) ?_
  intro x sz hl0 hr C
  subst hl0
  have C : CX x G (AA G sz) RX0 cX0_reach 10 wsX0_reach 1 25 0 0 := C
  have hret : ∀ (M0 : Mem) (pc0 : Nat) (L0 : List (Nat × Value)) (rv0 : Int32), decode cX0_reach pc0 = .ok (.ireturn, 1) → (fun (r : Int32) (M' : Mem) => r = pReach P k Q ∧ M' = M) rv0 M0 → WL x G (AA G sz) 10 0 0 (xQ x (va_Qi (fun (r : Int32) (M' : Mem) => r = pReach P k Q ∧ M' = M) (WE G) (AA G sz)) (AA G sz)) M0 pc0 L0 [.int rv0] := fun M0 pc0 L0 rv0 hd hp => wl_iret (post := (fun (r : Int32) (M' : Mem) => r = pReach P k Q ∧ M' = M)) C hr hd hp
  show WL x G (AA G sz) 10 0 0 (xQ x (va_Qi (fun (r : Int32) (M' : Mem) => r = pReach P k Q ∧ M' = M) (WE G) (AA G sz)) (AA G sz)) M 0 [(0, .ref (G.2.2.1 b)), (1, .int (nI k)), (2, .ref (G.2.2.1 o))] []
  generalize (xQ x (va_Qi (fun (r : Int32) (M' : Mem) => r = pReach P k Q ∧ M' = M) (WE G) (AA G sz)) (AA G sz)) = QQ at hret ⊢
  have cn58 : Jvm.Cond.constant RX0 58 (-1000000) ∈ wsX0_reach := by decide +kernel
  have in0 : ∀ w ∈ wsX00, w ∈ wsX0_reach := by decide +kernel
  have fl18 : Jvm.Cond.fieldLink RX0 18 "JammedBodies$Body" "corners" "I" ∈ wsX0_reach := by decide +kernel
  have ini4 : Jvm.Cond.initialized RX4 ∈ wsX0_reach := by decide +kernel
  have sta59 : Jvm.Cond.static yX4_cross ∈ wsX0_reach := by decide +kernel
  have ml49 : Jvm.Cond.methodLink RX0 49 Lib.Math.max.name ∈ wsX0_reach := by decide +kernel
  have m2max : Jvm.Cond.static Lib.Math.max.name ∈ wsX0_reach := by decide +kernel
  have m3 : Jvm.Cond.initialized "java/lang/Math" ∈ wsX0_reach := by decide +kernel
  have m4max : Jvm.Cond.code Lib.Math.max.name Lib.Math.max.code 2 (some .int) ∈ wsX0_reach := by decide +kernel
  have h7 := hB.2.1
  have h8 := hQ.2.1
  refine wl_aload_n C 0 dX0_reach_0 rfl rfl ?_
  refine wl_iload_n C 1 dX0_reach_1 rfl rfl ?_
  refine wl_callVp (i := b) (n := 1) C [.int (nI k)] [] (c_X0_following _ G M b k P hb hB (by omega)) gX0_reach_X0_following rfl (by decide +kernel) (by decide) (by decide) (kd_lt hb (by decide)) (cell_k hb) rfl rfl rfl (Nat.le_of_ble_eq_true rfl) dX0_reach_2 ?_
  refine wl_istore_n (L' := [(3, .int (nI (nx P.1 k))), (0, .ref (G.2.2.1 b)), (1, .int (nI k)), (2, .ref (G.2.2.1 o))]) C dX0_reach_5 rfl (by decide) rfl ?_
  refine wl_aload_n C 1 dX0_reach_6 rfl rfl ?_
  refine wl_iload_n C 2 dX0_reach_7 rfl rfl ?_
  refine wl_callVp (i := b) (n := 1) C [.int (nI k)] [] (c_X0_x _ G M b k P hb hB (by omega)) gX0_reach_X0_x rfl (by decide +kernel) (by decide) (by decide) (kd_lt hb (by decide)) (cell_k hb) rfl rfl rfl (Nat.le_of_ble_eq_true rfl) dX0_reach_8 ?_
  refine wl_istore (L' := [(4, .int (P.2.1 k)), (3, .int (nI (nx P.1 k))), (0, .ref (G.2.2.1 b)), (1, .int (nI k)), (2, .ref (G.2.2.1 o))]) C dX0_reach_11 (by decide) rfl ?_
  refine wl_aload_n C 2 dX0_reach_13 rfl rfl ?_
  refine wl_iload_n C 3 dX0_reach_14 rfl rfl ?_
  refine wl_callVp (i := b) (n := 1) C [.int (nI k)] [] (c_X0_y _ G M b k P hb hB (by omega)) gX0_reach_X0_y rfl (by decide +kernel) (by decide) (by decide) (kd_lt hb (by decide)) (cell_k hb) rfl rfl rfl (Nat.le_of_ble_eq_true rfl) dX0_reach_15 ?_
  refine wl_istore (L' := [(5, .int (P.2.2 k)), (4, .int (P.2.1 k)), (3, .int (nI (nx P.1 k))), (0, .ref (G.2.2.1 b)), (1, .int (nI k)), (2, .ref (G.2.2.1 o))]) C dX0_reach_18 (by decide) rfl ?_
  refine wl_aload_n C 3 dX0_reach_20 rfl rfl ?_
  refine wl_iload_n C 2 dX0_reach_21 rfl rfl ?_
  refine wl_callVp (i := b) (n := 1) C [.int (nI (nx P.1 k))] [] (c_X0_x _ G M b (nx P.1 k) P hb hB (nx_lt (by omega))) gX0_reach_X0_x rfl (by decide +kernel) (by decide) (by decide) (kd_lt hb (by decide)) (cell_k hb) rfl rfl rfl (Nat.le_of_ble_eq_true rfl) dX0_reach_22 ?_
  refine wl_istore (L' := [(6, .int (P.2.1 (nx P.1 k))), (5, .int (P.2.2 k)), (4, .int (P.2.1 k)), (3, .int (nI (nx P.1 k))), (0, .ref (G.2.2.1 b)), (1, .int (nI k)), (2, .ref (G.2.2.1 o))]) C dX0_reach_25 (by decide) rfl ?_
  refine wl_aload_n C 4 dX0_reach_27 rfl rfl ?_
  refine wl_iload_n C 3 dX0_reach_28 rfl rfl ?_
  refine wl_callVp (i := b) (n := 1) C [.int (nI (nx P.1 k))] [] (c_X0_y _ G M b (nx P.1 k) P hb hB (nx_lt (by omega))) gX0_reach_X0_y rfl (by decide +kernel) (by decide) (by decide) (kd_lt hb (by decide)) (cell_k hb) rfl rfl rfl (Nat.le_of_ble_eq_true rfl) dX0_reach_29 ?_
  refine wl_istore (L' := [(7, .int (P.2.2 (nx P.1 k))), (6, .int (P.2.1 (nx P.1 k))), (5, .int (P.2.2 k)), (4, .int (P.2.1 k)), (3, .int (nI (nx P.1 k))), (0, .ref (G.2.2.1 b)), (1, .int (nI k)), (2, .ref (G.2.2.1 o))]) C dX0_reach_32 (by decide) rfl ?_
  refine wl_ldc C cn58 dX0_reach_34 ?_
  refine wl_eqi (b := rcT (pC P k Q) 0) (rfl) ?_
  refine wl_istore (L' := [(8, .int (rcT (pC P k Q) 0)), (7, .int (P.2.2 (nx P.1 k))), (6, .int (P.2.1 (nx P.1 k))), (5, .int (P.2.2 k)), (4, .int (P.2.1 k)), (3, .int (nI (nx P.1 k))), (0, .ref (G.2.2.1 b)), (1, .int (nI k)), (2, .ref (G.2.2.1 o))]) C dX0_reach_36 (by decide) rfl ?_
  refine wl_iconst (v := nI 0) C dX0_reach_38 (by first | decide | rfl) ?_
  refine wl_istore (L' := [(9, .int (nI 0)), (8, .int (rcT (pC P k Q) 0)), (7, .int (P.2.2 (nx P.1 k))), (6, .int (P.2.1 (nx P.1 k))), (5, .int (P.2.2 k)), (4, .int (P.2.1 k)), (3, .int (nI (nx P.1 k))), (0, .ref (G.2.2.1 b)), (1, .int (nI k)), (2, .ref (G.2.2.1 o))]) C dX0_reach_39 (by decide) rfl ?_
  have h41 : ∀ j, j ≤ Q.1 → WL x G (AA G sz) 10 0 0 QQ M 41 [(0, .ref (G.2.2.1 b)), (2, .ref (G.2.2.1 o)), (4, .int (P.2.1 k)), (5, .int (P.2.2 k)), (6, .int (P.2.1 (nx P.1 k))), (7, .int (P.2.2 (nx P.1 k))), (8, .int (rcT (pC P k Q) j)), (9, .int (nI j))] [] := by
    refine up_loop Q.1 _ ?_
    intro j hj ih
    refine wl_iload C 7 dX0_reach_41 rfl ?_
    refine wl_aload_n C 1 dX0_reach_43 rfl rfl ?_
    refine wl_get_Body_corners (i := o) (v := nI Q.1) C ho in0 fl18 hQ.1 dX0_reach_44 ?_
    refine wl_icmp_geN C (a := j) (b := Q.1) (by omega) (by omega) 86 dX0_reach_47 (by decide) (fun c_47 => ?_) (fun c_47 => ?_)
    · refine wl_iload C 6 dX0_reach_86 rfl ?_
      exact hret _ 88 _ (rcT (pC P k Q) j) dX0_reach_88 (⟨by (have e : j = (Q.1 - 1) + 1 := (by omega)); rw [e]; exact rcT_mx _ (fun i hi => hF k i hk (by omega)), rfl⟩)
    · refine wl_iload C 6 dX0_reach_50 rfl ?_
      refine wl_iload C 2 dX0_reach_52 rfl ?_
      refine wl_iload C 3 dX0_reach_54 rfl ?_
      refine wl_iload C 4 dX0_reach_56 rfl ?_
      refine wl_iload C 5 dX0_reach_58 rfl ?_
      refine wl_aload_n C 1 dX0_reach_60 rfl rfl ?_
      refine wl_iload C 7 dX0_reach_61 rfl ?_
      refine wl_callVp (i := o) (n := 1) C [.int (nI j)] [.int (P.2.2 (nx P.1 k)), .int (P.2.1 (nx P.1 k)), .int (P.2.2 k), .int (P.2.1 k), .int (rcT (pC P k Q) j)] (c_X0_x _ G M o j Q ho hQ (by omega)) gX0_reach_X0_x rfl (by decide +kernel) (by decide) (by decide) (kd_lt ho (by decide)) (cell_k ho) rfl rfl rfl (Nat.le_of_ble_eq_true rfl) dX0_reach_63 ?_
      refine wl_aload_n C 1 dX0_reach_66 rfl rfl ?_
      refine wl_iload C 7 dX0_reach_67 rfl ?_
      refine wl_callVp (i := o) (n := 1) C [.int (nI j)] [.int (Q.2.1 j), .int (P.2.2 (nx P.1 k)), .int (P.2.1 (nx P.1 k)), .int (P.2.2 k), .int (P.2.1 k), .int (rcT (pC P k Q) j)] (c_X0_y _ G M o j Q ho hQ (by omega)) gX0_reach_X0_y rfl (by decide +kernel) (by decide) (by decide) (kd_lt ho (by decide)) (cell_k ho) rfl rfl rfl (Nat.le_of_ble_eq_true rfl) dX0_reach_69 ?_
      refine wl_callNp (n := 6) C [.int (P.2.1 k), .int (P.2.2 k), .int (P.2.1 (nx P.1 k)), .int (P.2.2 (nx P.1 k)), .int (Q.2.1 j), .int (Q.2.2 j)] [.int (rcT (pC P k Q) j)] (c_X4_cross _ G M (P.2.1 k) (P.2.2 k) (P.2.1 (nx P.1 k)) (P.2.2 (nx P.1 k)) (Q.2.1 j) (Q.2.2 j)) gX0_reach_X4_cross_n59 rfl ini4 sta59 (fun h => h.1) (by decide +kernel) (by decide) (by decide) rfl rfl (Nat.le_of_ble_eq_true rfl) dX0_reach_72 ?_
      refine wl_eqi (b := pC P k Q j) (rfl) ?_
      refine wl_max C ml49 m2max m3 m4max (by decide) (Nat.le_of_ble_eq_true rfl) dX0_reach_75 ?_
      refine wl_eqi (b := rcT (pC P k Q) (j + 1)) (rfl) ?_
      refine wl_istore (L' := [(8, .int (rcT (pC P k Q) (j + 1))), (0, .ref (G.2.2.1 b)), (2, .ref (G.2.2.1 o)), (4, .int (P.2.1 k)), (5, .int (P.2.2 k)), (6, .int (P.2.1 (nx P.1 k))), (7, .int (P.2.2 (nx P.1 k))), (9, .int (nI j))]) C dX0_reach_78 (by decide) rfl ?_
      refine wl_iinc1 (k := j) (L' := [(9, .int (nI (j + 1))), (8, .int (rcT (pC P k Q) (j + 1))), (0, .ref (G.2.2.1 b)), (2, .ref (G.2.2.1 o)), (4, .int (P.2.1 k)), (5, .int (P.2.2 k)), (6, .int (P.2.1 (nx P.1 k))), (7, .int (P.2.2 (nx P.1 k)))]) C 7 dX0_reach_80 rfl (by decide) rfl ?_
      refine wl_goto C 41 dX0_reach_83 (by decide) ?_
      refine wl_sub (L' := [(0, .ref (G.2.2.1 b)), (2, .ref (G.2.2.1 o)), (4, .int (P.2.1 k)), (5, .int (P.2.2 k)), (6, .int (P.2.1 (nx P.1 k))), (7, .int (P.2.2 (nx P.1 k))), (8, .int (rcT (pC P k Q) (j + 1))), (9, .int (nI (j + 1)))]) [2, 3, 4, 5, 6, 7, 1, 0] rfl ?_
      exact ih (by omega)
  refine wl_sub (L' := [(0, .ref (G.2.2.1 b)), (2, .ref (G.2.2.1 o)), (4, .int (P.2.1 k)), (5, .int (P.2.2 k)), (6, .int (P.2.1 (nx P.1 k))), (7, .int (P.2.2 (nx P.1 k))), (8, .int (rcT (pC P k Q) 0)), (9, .int (nI 0))]) [7, 9, 5, 4, 3, 2, 1, 0] rfl ?_
  exact h41 0 (Nat.zero_le _)
set_option maxHeartbeats 4000000 in
set_option maxRecDepth 100000 in
theorem c_X0_leastReach (l : Launch) (G : Gw) (M : Mem) (b o : Nat) (P Q : Py) (hb : kd b = 0) (ho : kd o = 0) (hB : Bd M b P) (hQ : Bd M o Q) (h0 : 0 < Q.1) (hF : Far P Q) : Cq l G yX0_leastReach wsX0_leastReach 2 54 [.ref (G.2.2.1 b), .ref (G.2.2.1 o)] M (lrP (fun k => pReach P k Q) P.1) := by
  refine Ci.of (cc := cX0_leastReach) (maxL := 4) (ret := (some .int)) (by decide +kernel) rfl (Nat.le_of_ble_eq_true rfl) ?_
  intro x sz hl0 hr C
  subst hl0
  have C : CX x G (AA G sz) RX0 cX0_leastReach 4 wsX0_leastReach 2 54 0 0 := C
  have hret : ∀ (M0 : Mem) (pc0 : Nat) (L0 : List (Nat × Value)) (rv0 : Int32), decode cX0_leastReach pc0 = .ok (.ireturn, 1) → (fun (r : Int32) (M' : Mem) => (lrP (fun k => pReach P k Q) P.1) r ∧ M' = M) rv0 M0 → WL x G (AA G sz) 4 0 0 (xQ x (va_Qi (fun (r : Int32) (M' : Mem) => (lrP (fun k => pReach P k Q) P.1) r ∧ M' = M) (WE G) (AA G sz)) (AA G sz)) M0 pc0 L0 [.int rv0] := fun M0 pc0 L0 rv0 hd hp => wl_iret (post := (fun (r : Int32) (M' : Mem) => (lrP (fun k => pReach P k Q) P.1) r ∧ M' = M)) C hr hd hp
  show WL x G (AA G sz) 4 0 0 (xQ x (va_Qi (fun (r : Int32) (M' : Mem) => (lrP (fun k => pReach P k Q) P.1) r ∧ M' = M) (WE G) (AA G sz)) (AA G sz)) M 0 [(0, .ref (G.2.2.1 b)), (1, .ref (G.2.2.1 o))] []
  generalize (xQ x (va_Qi (fun (r : Int32) (M' : Mem) => (lrP (fun k => pReach P k Q) P.1) r ∧ M' = M) (WE G) (AA G sz)) (AA G sz)) = QQ at hret ⊢
  have in0 : ∀ w ∈ wsX00, w ∈ wsX0_leastReach := by decide +kernel
  have fl18 : Jvm.Cond.fieldLink RX0 18 "JammedBodies$Body" "corners" "I" ∈ wsX0_leastReach := by decide +kernel
  have ml43 : Jvm.Cond.methodLink RX0 43 Lib.Math.min.name ∈ wsX0_leastReach := by decide +kernel
  have m2min : Jvm.Cond.static Lib.Math.min.name ∈ wsX0_leastReach := by decide +kernel
  have m3 : Jvm.Cond.initialized "java/lang/Math" ∈ wsX0_leastReach := by decide +kernel
  have m4min : Jvm.Cond.code Lib.Math.min.name Lib.Math.min.code 2 (some .int) ∈ wsX0_leastReach := by decide +kernel
  have h7 := hB.2.1
  refine wl_iconst (v := 1) C dX0_leastReach_0 (by decide) ?_
  refine wl_istore_n (L' := [(2, .int 1), (0, .ref (G.2.2.1 b)), (1, .ref (G.2.2.1 o))]) C dX0_leastReach_1 rfl (by decide) rfl ?_
  refine wl_iconst (v := nI 0) C dX0_leastReach_2 (by first | decide | rfl) ?_
  refine wl_istore_n (L' := [(3, .int (nI 0)), (2, .int 1), (0, .ref (G.2.2.1 b)), (1, .ref (G.2.2.1 o))]) C dX0_leastReach_3 rfl (by decide) rfl ?_
  have h4 : ∀ k, k ≤ P.1 → ∀ a : Int32, lrP (fun k => pReach P k Q) k a → WL x G (AA G sz) 4 0 0 QQ M 4 [(0, .ref (G.2.2.1 b)), (1, .ref (G.2.2.1 o)), (2, .int a), (3, .int (nI k))] [] := by
    refine up_loop P.1 _ ?_
    intro k hk ih a hI
    refine wl_iload_n C 3 dX0_leastReach_4 rfl rfl ?_
    refine wl_aload_n C 0 dX0_leastReach_5 rfl rfl ?_
    refine wl_get_Body_corners (i := b) (v := nI P.1) C hb in0 fl18 hB.1 dX0_leastReach_6 ?_
    refine wl_icmp_geN C (a := k) (b := P.1) (by omega) (by omega) 33 dX0_leastReach_9 (by decide) (fun c_9 => ?_) (fun c_9 => ?_)
    · refine wl_iload_n C 2 dX0_leastReach_33 rfl rfl ?_
      exact hret _ 34 _ a dX0_leastReach_34 (⟨by first | exact lrP_neg hI c_13 hk | (rw [show P.1 = k by omega]; exact hI), rfl⟩)
    · refine wl_iload_n C 2 dX0_leastReach_12 rfl rfl ?_
      refine wl_if_lt C 33 dX0_leastReach_13 (by decide) (fun c_13 => ?_) (fun c_13 => ?_)
      · refine wl_iload_n C 2 dX0_leastReach_33 rfl rfl ?_
        exact hret _ 34 _ a dX0_leastReach_34 (⟨by first | exact lrP_neg hI c_13 hk | (rw [show P.1 = k by omega]; exact hI), rfl⟩)
      · refine wl_iload_n C 2 dX0_leastReach_16 rfl rfl ?_
        refine wl_aload_n C 0 dX0_leastReach_17 rfl rfl ?_
        refine wl_iload_n C 3 dX0_leastReach_18 rfl rfl ?_
        refine wl_aload_n C 1 dX0_leastReach_19 rfl rfl ?_
        refine wl_callVp (i := b) (n := 2) C [.int (nI k), .ref (G.2.2.1 o)] [.int a] (c_X0_reach _ G M b o P Q hb ho hB hQ k (by omega) h0 hF) gX0_leastReach_X0_reach rfl (by decide +kernel) (by decide) (by decide) (kd_lt hb (by decide)) (cell_k hb) rfl rfl rfl (Nat.le_of_ble_eq_true rfl) dX0_leastReach_20 ?_
        refine wl_min C ml43 m2min m3 m4min (by decide) (Nat.le_of_ble_eq_true rfl) dX0_leastReach_23 ?_
        refine wl_istore_n (L' := [(2, .int (if pReach P k Q < a then pReach P k Q else a)), (0, .ref (G.2.2.1 b)), (1, .ref (G.2.2.1 o)), (3, .int (nI k))]) C dX0_leastReach_26 rfl (by decide) rfl ?_
        refine wl_iinc1 (k := k) (L' := [(3, .int (nI (k + 1))), (2, .int (if pReach P k Q < a then pReach P k Q else a)), (0, .ref (G.2.2.1 b)), (1, .ref (G.2.2.1 o))]) C 3 dX0_leastReach_27 rfl (by decide) rfl ?_
        refine wl_goto C 4 dX0_leastReach_30 (by decide) ?_
        refine wl_sub (L' := [(0, .ref (G.2.2.1 b)), (1, .ref (G.2.2.1 o)), (2, .int (if pReach P k Q < a then pReach P k Q else a)), (3, .int (nI (k + 1)))]) [2, 3, 1, 0] rfl ?_
        exact ih (by omega) _ (lrP_step hI c_13)
  refine wl_sub (L' := [(0, .ref (G.2.2.1 b)), (1, .ref (G.2.2.1 o)), (2, .int 1), (3, .int (nI 0))]) [2, 3, 1, 0] rfl ?_
  exact h4 0 (Nat.zero_le _) 1 (lrP_0 _)
set_option maxHeartbeats 4000000 in
set_option maxRecDepth 100000 in
theorem c_X0_partingSide (l : Launch) (G : Gw) (M : Mem) (b o : Nat) (P Q : Py) (hb : kd b = 0) (ho : kd o = 0) (hB : Bd M b P) (hQ : Bd M o Q) (h0 : 0 < Q.1) (hF : Far P Q) : Cp l G yX0_partingSide wsX0_partingSide 2 54 [.ref (G.2.2.1 b), .ref (G.2.2.1 o)] M (opI (pSep P Q 0)) := by
  refine Ci.of (cc := cX0_partingSide) (maxL := 3) (ret := (some .int)) (by decide +kernel) rfl (Nat.le_of_ble_eq_true rfl) ?_
  intro x sz hl0 hr C
  subst hl0
  have C : CX x G (AA G sz) RX0 cX0_partingSide 3 wsX0_partingSide 2 54 0 0 := C
  have hret : ∀ (M0 : Mem) (pc0 : Nat) (L0 : List (Nat × Value)) (rv0 : Int32), decode cX0_partingSide pc0 = .ok (.ireturn, 1) → (fun (r : Int32) (M' : Mem) => r = opI (pSep P Q 0) ∧ M' = M) rv0 M0 → WL x G (AA G sz) 3 0 0 (xQ x (va_Qi (fun (r : Int32) (M' : Mem) => r = opI (pSep P Q 0) ∧ M' = M) (WE G) (AA G sz)) (AA G sz)) M0 pc0 L0 [.int rv0] := fun M0 pc0 L0 rv0 hd hp => wl_iret (post := (fun (r : Int32) (M' : Mem) => r = opI (pSep P Q 0) ∧ M' = M)) C hr hd hp
  show WL x G (AA G sz) 3 0 0 (xQ x (va_Qi (fun (r : Int32) (M' : Mem) => r = opI (pSep P Q 0) ∧ M' = M) (WE G) (AA G sz)) (AA G sz)) M 0 [(0, .ref (G.2.2.1 b)), (1, .ref (G.2.2.1 o))] []
  generalize (xQ x (va_Qi (fun (r : Int32) (M' : Mem) => r = opI (pSep P Q 0) ∧ M' = M) (WE G) (AA G sz)) (AA G sz)) = QQ at hret ⊢
  have in0 : ∀ w ∈ wsX00, w ∈ wsX0_partingSide := by decide +kernel
  have fl18 : Jvm.Cond.fieldLink RX0 18 "JammedBodies$Body" "corners" "I" ∈ wsX0_partingSide := by decide +kernel
  have h7 := hB.2.1
  refine wl_iconst (v := nI 0) C dX0_partingSide_0 (by first | decide | rfl) ?_
  refine wl_istore_n (L' := [(2, .int (nI 0)), (0, .ref (G.2.2.1 b)), (1, .ref (G.2.2.1 o))]) C dX0_partingSide_1 rfl (by decide) rfl ?_
  have h2 : ∀ k, k ≤ P.1 → anT (fun k => decide (pReach P k Q ≤ 0)) k = false → WL x G (AA G sz) 3 0 0 QQ M 2 [(0, .ref (G.2.2.1 b)), (1, .ref (G.2.2.1 o)), (2, .int (nI k))] [] := by
    refine up_loop P.1 _ ?_
    intro k hk ih hI
    refine wl_iload_n C 2 dX0_partingSide_2 rfl rfl ?_
    refine wl_aload_n C 0 dX0_partingSide_3 rfl rfl ?_
    refine wl_get_Body_corners (i := b) (v := nI P.1) C hb in0 fl18 hB.1 dX0_partingSide_4 ?_
    refine wl_icmp_geN C (a := k) (b := P.1) (by omega) (by omega) 27 dX0_partingSide_7 (by decide) (fun c_7 => ?_) (fun c_7 => ?_)
    · refine wl_iconst (v := (-1)) C dX0_partingSide_27 (by decide) ?_
      exact hret _ 28 _ (-1) dX0_partingSide_28 (⟨by unfold pSep; rw [fsT_none.mpr (by rw [show P.1 = k by omega]; exact hI)]; rfl, rfl⟩)
    · refine wl_aload_n C 0 dX0_partingSide_10 rfl rfl ?_
      refine wl_iload_n C 2 dX0_partingSide_11 rfl rfl ?_
      refine wl_aload_n C 1 dX0_partingSide_12 rfl rfl ?_
      refine wl_callVp (i := b) (n := 2) C [.int (nI k), .ref (G.2.2.1 o)] [] (c_X0_reach _ G M b o P Q hb ho hB hQ k (by omega) h0 hF) gX0_partingSide_X0_reach rfl (by decide +kernel) (by decide) (by decide) (kd_lt hb (by decide)) (cell_k hb) rfl rfl rfl (Nat.le_of_ble_eq_true rfl) dX0_partingSide_13 ?_
      refine wl_if_gt C 21 dX0_partingSide_16 (by decide) (fun c_16 => ?_) (fun c_16 => ?_)
      · refine wl_iinc1 (k := k) (L' := [(2, .int (nI (k + 1))), (0, .ref (G.2.2.1 b)), (1, .ref (G.2.2.1 o))]) C 2 dX0_partingSide_21 rfl (by decide) rfl ?_
        refine wl_goto C 2 dX0_partingSide_24 (by decide) ?_
        refine wl_sub (L' := [(0, .ref (G.2.2.1 b)), (1, .ref (G.2.2.1 o)), (2, .int (nI (k + 1)))]) [1, 2, 0] rfl ?_
        exact ih (by omega) (by simp only [anT, hI, Bool.false_or, decide_eq_false_iff_not]; exact Int32.not_le.mpr c_16)
      · refine wl_iload_n C 2 dX0_partingSide_19 rfl rfl ?_
        exact hret _ 20 _ (nI k) dX0_partingSide_20 (⟨by unfold pSep; rw [fsT_first hI (decide_eq_true (Int32.not_lt.mp c_16)) (by omega)]; rfl, rfl⟩)
  refine wl_sub (L' := [(0, .ref (G.2.2.1 b)), (1, .ref (G.2.2.1 o)), (2, .int (nI 0))]) [1, 2, 0] rfl ?_
  exact h2 0 (Nat.zero_le _) rfl
set_option maxHeartbeats 4000000 in
set_option maxRecDepth 100000 in
theorem c_X0_nearestCorner (l : Launch) (G : Gw) (M : Mem) (b o : Nat) (P Q : Py) (hb : kd b = 0) (ho : kd o = 0) (hB : Bd M b P) (hQ : Bd M o Q) (k : Nat) (hk : k < P.1) (h0 : 0 < Q.1) (hF : Far P Q) : Cp l G yX0_nearestCorner wsX0_nearestCorner 2 54 [.ref (G.2.2.1 b), .int (nI k), .ref (G.2.2.1 o)] M (nI (pNear P k Q)) := by
  refine Ci.of (cc := cX0_nearestCorner) (maxL := 6) (ret := (some .int)) (by decide +kernel) rfl (Nat.le_of_ble_eq_true rfl) ?_
  intro x sz hl0 hr C
  subst hl0
  have C : CX x G (AA G sz) RX0 cX0_nearestCorner 6 wsX0_nearestCorner 2 54 0 0 := C
  have hret : ∀ (M0 : Mem) (pc0 : Nat) (L0 : List (Nat × Value)) (rv0 : Int32), decode cX0_nearestCorner pc0 = .ok (.ireturn, 1) → (fun (r : Int32) (M' : Mem) => r = nI (pNear P k Q) ∧ M' = M) rv0 M0 → WL x G (AA G sz) 6 0 0 (xQ x (va_Qi (fun (r : Int32) (M' : Mem) => r = nI (pNear P k Q) ∧ M' = M) (WE G) (AA G sz)) (AA G sz)) M0 pc0 L0 [.int rv0] := fun M0 pc0 L0 rv0 hd hp => wl_iret (post := (fun (r : Int32) (M' : Mem) => r = nI (pNear P k Q) ∧ M' = M)) C hr hd hp
  show WL x G (AA G sz) 6 0 0 (xQ x (va_Qi (fun (r : Int32) (M' : Mem) => r = nI (pNear P k Q) ∧ M' = M) (WE G) (AA G sz)) (AA G sz)) M 0 [(0, .ref (G.2.2.1 b)), (1, .int (nI k)), (2, .ref (G.2.2.1 o))] []
  generalize (xQ x (va_Qi (fun (r : Int32) (M' : Mem) => r = nI (pNear P k Q) ∧ M' = M) (WE G) (AA G sz)) (AA G sz)) = QQ at hret ⊢
  have in0 : ∀ w ∈ wsX00, w ∈ wsX0_nearestCorner := by decide +kernel
  have fl18 : Jvm.Cond.fieldLink RX0 18 "JammedBodies$Body" "corners" "I" ∈ wsX0_nearestCorner := by decide +kernel
  have ini4 : Jvm.Cond.initialized RX4 ∈ wsX0_nearestCorner := by decide +kernel
  have sta59 : Jvm.Cond.static yX4_cross ∈ wsX0_nearestCorner := by decide +kernel
  have h7 := hB.2.1
  have h8 := hQ.2.1
  have h9 := amT_le (pC P k Q) (Q.1 - 1)
  refine wl_aload_n C 0 dX0_nearestCorner_0 rfl rfl ?_
  refine wl_iload_n C 1 dX0_nearestCorner_1 rfl rfl ?_
  refine wl_callVp (i := b) (n := 1) C [.int (nI k)] [] (c_X0_following _ G M b k P hb hB (by omega)) gX0_nearestCorner_X0_following rfl (by decide +kernel) (by decide) (by decide) (kd_lt hb (by decide)) (cell_k hb) rfl rfl rfl (Nat.le_of_ble_eq_true rfl) dX0_nearestCorner_2 ?_
  refine wl_istore_n (L' := [(3, .int (nI (nx P.1 k))), (0, .ref (G.2.2.1 b)), (1, .int (nI k)), (2, .ref (G.2.2.1 o))]) C dX0_nearestCorner_5 rfl (by decide) rfl ?_
  refine wl_aload_n C 1 dX0_nearestCorner_6 rfl rfl ?_
  refine wl_iload_n C 2 dX0_nearestCorner_7 rfl rfl ?_
  refine wl_aload_n C 3 dX0_nearestCorner_8 rfl rfl ?_
  refine wl_callVp (i := b) (n := 2) C [.int (nI k), .ref (G.2.2.1 o)] [] (c_X0_reach _ G M b o P Q hb ho hB hQ k hk h0 hF) gX0_nearestCorner_X0_reach rfl (by decide +kernel) (by decide) (by decide) (kd_lt hb (by decide)) (cell_k hb) rfl rfl rfl (Nat.le_of_ble_eq_true rfl) dX0_nearestCorner_9 ?_
  refine wl_istore (L' := [(4, .int (pReach P k Q)), (3, .int (nI (nx P.1 k))), (0, .ref (G.2.2.1 b)), (1, .int (nI k)), (2, .ref (G.2.2.1 o))]) C dX0_nearestCorner_12 (by decide) rfl ?_
  refine wl_iconst (v := nI 0) C dX0_nearestCorner_14 (by first | decide | rfl) ?_
  refine wl_istore (L' := [(5, .int (nI 0)), (4, .int (pReach P k Q)), (3, .int (nI (nx P.1 k))), (0, .ref (G.2.2.1 b)), (1, .int (nI k)), (2, .ref (G.2.2.1 o))]) C dX0_nearestCorner_15 (by decide) rfl ?_
  have h17 : ∀ j, j ≤ Q.1 → j ≤ pNear P k Q → WL x G (AA G sz) 6 0 0 QQ M 17 [(0, .ref (G.2.2.1 b)), (1, .int (nI k)), (2, .ref (G.2.2.1 o)), (3, .int (nI (nx P.1 k))), (4, .int (pReach P k Q)), (5, .int (nI j))] [] := by
    refine up_loop Q.1 _ ?_
    intro j hj ih hI
    refine wl_iload C 5 dX0_nearestCorner_17 rfl ?_
    refine wl_aload_n C 2 dX0_nearestCorner_19 rfl rfl ?_
    refine wl_get_Body_corners (i := o) (v := nI Q.1) C ho in0 fl18 hQ.1 dX0_nearestCorner_20 ?_
    refine wl_icmp_geN C (a := j) (b := Q.1) (by omega) (by omega) 75 dX0_nearestCorner_23 (by decide) (fun c_23 => ?_) (fun c_23 => ?_)
    · refine wl_iconst (v := 0) C dX0_nearestCorner_75 (by decide) ?_
      exact hret _ 76 _ 0 dX0_nearestCorner_76 (by exfalso; unfold pNear at hI; omega)
    · refine wl_aload_n C 0 dX0_nearestCorner_26 rfl rfl ?_
      refine wl_iload_n C 1 dX0_nearestCorner_27 rfl rfl ?_
      refine wl_callVp (i := b) (n := 1) C [.int (nI k)] [] (c_X0_x _ G M b k P hb hB (by omega)) gX0_nearestCorner_X0_x rfl (by decide +kernel) (by decide) (by decide) (kd_lt hb (by decide)) (cell_k hb) rfl rfl rfl (Nat.le_of_ble_eq_true rfl) dX0_nearestCorner_28 ?_
      refine wl_aload_n C 0 dX0_nearestCorner_31 rfl rfl ?_
      refine wl_iload_n C 1 dX0_nearestCorner_32 rfl rfl ?_
      refine wl_callVp (i := b) (n := 1) C [.int (nI k)] [.int (P.2.1 k)] (c_X0_y _ G M b k P hb hB (by omega)) gX0_nearestCorner_X0_y rfl (by decide +kernel) (by decide) (by decide) (kd_lt hb (by decide)) (cell_k hb) rfl rfl rfl (Nat.le_of_ble_eq_true rfl) dX0_nearestCorner_33 ?_
      refine wl_aload_n C 0 dX0_nearestCorner_36 rfl rfl ?_
      refine wl_iload_n C 3 dX0_nearestCorner_37 rfl rfl ?_
      refine wl_callVp (i := b) (n := 1) C [.int (nI (nx P.1 k))] [.int (P.2.2 k), .int (P.2.1 k)] (c_X0_x _ G M b (nx P.1 k) P hb hB (nx_lt (by omega))) gX0_nearestCorner_X0_x rfl (by decide +kernel) (by decide) (by decide) (kd_lt hb (by decide)) (cell_k hb) rfl rfl rfl (Nat.le_of_ble_eq_true rfl) dX0_nearestCorner_38 ?_
      refine wl_aload_n C 0 dX0_nearestCorner_41 rfl rfl ?_
      refine wl_iload_n C 3 dX0_nearestCorner_42 rfl rfl ?_
      refine wl_callVp (i := b) (n := 1) C [.int (nI (nx P.1 k))] [.int (P.2.1 (nx P.1 k)), .int (P.2.2 k), .int (P.2.1 k)] (c_X0_y _ G M b (nx P.1 k) P hb hB (nx_lt (by omega))) gX0_nearestCorner_X0_y rfl (by decide +kernel) (by decide) (by decide) (kd_lt hb (by decide)) (cell_k hb) rfl rfl rfl (Nat.le_of_ble_eq_true rfl) dX0_nearestCorner_43 ?_
      refine wl_aload_n C 2 dX0_nearestCorner_46 rfl rfl ?_
      refine wl_iload C 5 dX0_nearestCorner_47 rfl ?_
      refine wl_callVp (i := o) (n := 1) C [.int (nI j)] [.int (P.2.2 (nx P.1 k)), .int (P.2.1 (nx P.1 k)), .int (P.2.2 k), .int (P.2.1 k)] (c_X0_x _ G M o j Q ho hQ (by omega)) gX0_nearestCorner_X0_x rfl (by decide +kernel) (by decide) (by decide) (kd_lt ho (by decide)) (cell_k ho) rfl rfl rfl (Nat.le_of_ble_eq_true rfl) dX0_nearestCorner_49 ?_
      refine wl_aload_n C 2 dX0_nearestCorner_52 rfl rfl ?_
      refine wl_iload C 5 dX0_nearestCorner_53 rfl ?_
      refine wl_callVp (i := o) (n := 1) C [.int (nI j)] [.int (Q.2.1 j), .int (P.2.2 (nx P.1 k)), .int (P.2.1 (nx P.1 k)), .int (P.2.2 k), .int (P.2.1 k)] (c_X0_y _ G M o j Q ho hQ (by omega)) gX0_nearestCorner_X0_y rfl (by decide +kernel) (by decide) (by decide) (kd_lt ho (by decide)) (cell_k ho) rfl rfl rfl (Nat.le_of_ble_eq_true rfl) dX0_nearestCorner_55 ?_
      refine wl_callNp (n := 6) C [.int (P.2.1 k), .int (P.2.2 k), .int (P.2.1 (nx P.1 k)), .int (P.2.2 (nx P.1 k)), .int (Q.2.1 j), .int (Q.2.2 j)] [] (c_X4_cross _ G M (P.2.1 k) (P.2.2 k) (P.2.1 (nx P.1 k)) (P.2.2 (nx P.1 k)) (Q.2.1 j) (Q.2.2 j)) gX0_nearestCorner_X4_cross_n59 rfl ini4 sta59 (fun h => h.1) (by decide +kernel) (by decide) (by decide) rfl rfl (Nat.le_of_ble_eq_true rfl) dX0_nearestCorner_58 ?_
      refine wl_eqi (b := pC P k Q j) (rfl) ?_
      refine wl_iload C 4 dX0_nearestCorner_61 rfl ?_
      refine wl_icmp_ne C 69 dX0_nearestCorner_63 (by decide) (fun c_63 => ?_) (fun c_63 => ?_)
      · refine wl_iinc1 (k := j) (L' := [(5, .int (nI (j + 1))), (0, .ref (G.2.2.1 b)), (1, .int (nI k)), (2, .ref (G.2.2.1 o)), (3, .int (nI (nx P.1 k))), (4, .int (pReach P k Q))]) C 5 dX0_nearestCorner_69 rfl (by decide) rfl ?_
        refine wl_goto C 17 dX0_nearestCorner_72 (by decide) ?_
        refine wl_sub (L' := [(0, .ref (G.2.2.1 b)), (1, .int (nI k)), (2, .ref (G.2.2.1 o)), (3, .int (nI (nx P.1 k))), (4, .int (pReach P k Q)), (5, .int (nI (j + 1)))]) [1, 2, 3, 4, 5, 0] rfl ?_
        exact ih (by omega) (Nat.lt_of_le_of_ne hI (fun e => c_63 (by rw [e]; exact amT_mx _ _)))
      · refine wl_iload C 5 dX0_nearestCorner_66 rfl ?_
        exact hret _ 68 _ (nI j) dX0_nearestCorner_68 (⟨congrArg nI (Nat.le_antisymm hI (Nat.not_lt.mp (fun q => amT_first _ _ _ q c_63))), rfl⟩)
  refine wl_sub (L' := [(0, .ref (G.2.2.1 b)), (1, .int (nI k)), (2, .ref (G.2.2.1 o)), (3, .int (nI (nx P.1 k))), (4, .int (pReach P k Q)), (5, .int (nI 0))]) [3, 4, 5, 2, 1, 0] rfl ?_
  exact h17 0 (Nat.zero_le _) (Nat.zero_le _)
set_option maxHeartbeats 4000000 in
set_option maxRecDepth 100000 in
theorem c_X0_cornerOutside (l : Launch) (G : Gw) (M : Mem) (b : Nat) (P : Py) (hb : kd b = 0) (hB : Bd M b P) (w h : Int32) : Cp l G yX0_cornerOutside wsX0_cornerOutside 1 21 [.ref (G.2.2.1 b), .int w, .int h] M (opI (pOut P w h)) := by
  refine Ci.of (cc := cX0_cornerOutside) (maxL := 4) (ret := (some .int)) (by decide +kernel) rfl (Nat.le_of_ble_eq_true rfl) ?_
  intro x sz hl0 hr C
  subst hl0
  have C : CX x G (AA G sz) RX0 cX0_cornerOutside 4 wsX0_cornerOutside 1 21 0 0 := C
  have hret : ∀ (M0 : Mem) (pc0 : Nat) (L0 : List (Nat × Value)) (rv0 : Int32), decode cX0_cornerOutside pc0 = .ok (.ireturn, 1) → (fun (r : Int32) (M' : Mem) => r = opI (pOut P w h) ∧ M' = M) rv0 M0 → WL x G (AA G sz) 4 0 0 (xQ x (va_Qi (fun (r : Int32) (M' : Mem) => r = opI (pOut P w h) ∧ M' = M) (WE G) (AA G sz)) (AA G sz)) M0 pc0 L0 [.int rv0] := fun M0 pc0 L0 rv0 hd hp => wl_iret (post := (fun (r : Int32) (M' : Mem) => r = opI (pOut P w h) ∧ M' = M)) C hr hd hp
  show WL x G (AA G sz) 4 0 0 (xQ x (va_Qi (fun (r : Int32) (M' : Mem) => r = opI (pOut P w h) ∧ M' = M) (WE G) (AA G sz)) (AA G sz)) M 0 [(0, .ref (G.2.2.1 b)), (1, .int w), (2, .int h)] []
  generalize (xQ x (va_Qi (fun (r : Int32) (M' : Mem) => r = opI (pOut P w h) ∧ M' = M) (WE G) (AA G sz)) (AA G sz)) = QQ at hret ⊢
  have in0 : ∀ w ∈ wsX00, w ∈ wsX0_cornerOutside := by decide +kernel
  have fl18 : Jvm.Cond.fieldLink RX0 18 "JammedBodies$Body" "corners" "I" ∈ wsX0_cornerOutside := by decide +kernel
  have h7 := hB.2.1
  refine wl_iconst (v := nI 0) C dX0_cornerOutside_0 (by first | decide | rfl) ?_
  refine wl_istore_n (L' := [(3, .int (nI 0)), (0, .ref (G.2.2.1 b)), (1, .int w), (2, .int h)]) C dX0_cornerOutside_1 rfl (by decide) rfl ?_
  have h2 : ∀ k, k ≤ P.1 → anT (fun k => decide (w < P.2.1 k) || decide (h < P.2.2 k)) k = false → WL x G (AA G sz) 4 0 0 QQ M 2 [(0, .ref (G.2.2.1 b)), (1, .int w), (2, .int h), (3, .int (nI k))] [] := by
    refine up_loop P.1 _ ?_
    intro k hk ih hI
    refine wl_iload_n C 3 dX0_cornerOutside_2 rfl rfl ?_
    refine wl_aload_n C 0 dX0_cornerOutside_3 rfl rfl ?_
    refine wl_get_Body_corners (i := b) (v := nI P.1) C hb in0 fl18 hB.1 dX0_cornerOutside_4 ?_
    refine wl_icmp_geN C (a := k) (b := P.1) (by omega) (by omega) 36 dX0_cornerOutside_7 (by decide) (fun c_7 => ?_) (fun c_7 => ?_)
    · refine wl_iconst (v := (-1)) C dX0_cornerOutside_36 (by decide) ?_
      exact hret _ 37 _ (-1) dX0_cornerOutside_37 (⟨by unfold pOut; rw [fsT_none.mpr (by rw [show P.1 = k by omega]; exact hI)]; rfl, rfl⟩)
    · refine wl_aload_n C 0 dX0_cornerOutside_10 rfl rfl ?_
      refine wl_iload_n C 3 dX0_cornerOutside_11 rfl rfl ?_
      refine wl_callVp (i := b) (n := 1) C [.int (nI k)] [] (c_X0_x _ G M b k P hb hB (by omega)) gX0_cornerOutside_X0_x rfl (by decide +kernel) (by decide) (by decide) (kd_lt hb (by decide)) (cell_k hb) rfl rfl rfl (Nat.le_of_ble_eq_true rfl) dX0_cornerOutside_12 ?_
      refine wl_iload_n C 1 dX0_cornerOutside_15 rfl rfl ?_
      refine wl_icmp_gt C 28 dX0_cornerOutside_16 (by decide) (fun c_16 => ?_) (fun c_16 => ?_)
      · refine wl_iload_n C 3 dX0_cornerOutside_28 rfl rfl ?_
        exact hret _ 29 _ (nI k) dX0_cornerOutside_29 (⟨by unfold pOut; rw [fsT_first hI (by first | (rw [decide_eq_true c_16]; rfl) | (rw [decide_eq_true (Int32.not_le.mp c_25)]; exact Bool.or_true _)) (by omega)]; rfl, rfl⟩)
      · refine wl_aload_n C 0 dX0_cornerOutside_19 rfl rfl ?_
        refine wl_iload_n C 3 dX0_cornerOutside_20 rfl rfl ?_
        refine wl_callVp (i := b) (n := 1) C [.int (nI k)] [] (c_X0_y _ G M b k P hb hB (by omega)) gX0_cornerOutside_X0_y rfl (by decide +kernel) (by decide) (by decide) (kd_lt hb (by decide)) (cell_k hb) rfl rfl rfl (Nat.le_of_ble_eq_true rfl) dX0_cornerOutside_21 ?_
        refine wl_iload_n C 2 dX0_cornerOutside_24 rfl rfl ?_
        refine wl_icmp_le C 30 dX0_cornerOutside_25 (by decide) (fun c_25 => ?_) (fun c_25 => ?_)
        · refine wl_iinc1 (k := k) (L' := [(3, .int (nI (k + 1))), (0, .ref (G.2.2.1 b)), (1, .int w), (2, .int h)]) C 3 dX0_cornerOutside_30 rfl (by decide) rfl ?_
          refine wl_goto C 2 dX0_cornerOutside_33 (by decide) ?_
          refine wl_sub (L' := [(0, .ref (G.2.2.1 b)), (1, .int w), (2, .int h), (3, .int (nI (k + 1)))]) [1, 2, 3, 0] rfl ?_
          exact ih (by omega) (by simp only [anT, hI, Bool.false_or, Bool.or_eq_false_iff, decide_eq_false_iff_not]; exact ⟨c_16, Int32.not_lt.mpr c_25⟩)
        · refine wl_iload_n C 3 dX0_cornerOutside_28 rfl rfl ?_
          exact hret _ 29 _ (nI k) dX0_cornerOutside_29 (⟨by unfold pOut; rw [fsT_first hI (by first | (rw [decide_eq_true c_16]; rfl) | (rw [decide_eq_true (Int32.not_le.mp c_25)]; exact Bool.or_true _)) (by omega)]; rfl, rfl⟩)
  refine wl_sub (L' := [(0, .ref (G.2.2.1 b)), (1, .int w), (2, .int h), (3, .int (nI 0))]) [1, 2, 3, 0] rfl ?_
  exact h2 0 (Nat.zero_le _) rfl
set_option maxHeartbeats 4000000 in
set_option maxRecDepth 100000 in
theorem c_X0_pointsUp (l : Launch) (G : Gw) (M : Mem) (b k : Nat) (P : Py) (hb : kd b = 0) (hB : Bd M b P) (hk : k < P.1) : Cp l G yX0_pointsUp wsX0_pointsUp 1 21 [.ref (G.2.2.1 b), .int (nI k)] M (bi (pUp P k)) := by
  refine Ci.of (cc := cX0_pointsUp) (maxL := 3) (ret := (some .boolean)) (by decide +kernel) rfl (Nat.le_of_ble_eq_true rfl) ?_
  intro x sz hl0 hr C
  subst hl0
  have C : CX x G (AA G sz) RX0 cX0_pointsUp 3 wsX0_pointsUp 1 21 0 0 := C
  have hret : ∀ (M0 : Mem) (pc0 : Nat) (L0 : List (Nat × Value)) (rv0 : Int32), narrow .boolean (.int rv0) = .int rv0 → decode cX0_pointsUp pc0 = .ok (.ireturn, 1) → (fun (r : Int32) (M' : Mem) => r = bi (pUp P k) ∧ M' = M) rv0 M0 → WL x G (AA G sz) 3 0 0 (xQ x (va_Qi (fun (r : Int32) (M' : Mem) => r = bi (pUp P k) ∧ M' = M) (WE G) (AA G sz)) (AA G sz)) M0 pc0 L0 [.int rv0] := fun M0 pc0 L0 rv0 hn hd hp => wl_zret (post := (fun (r : Int32) (M' : Mem) => r = bi (pUp P k) ∧ M' = M)) C hr hn hd hp
  show WL x G (AA G sz) 3 0 0 (xQ x (va_Qi (fun (r : Int32) (M' : Mem) => r = bi (pUp P k) ∧ M' = M) (WE G) (AA G sz)) (AA G sz)) M 0 [(0, .ref (G.2.2.1 b)), (1, .int (nI k))] []
  generalize (xQ x (va_Qi (fun (r : Int32) (M' : Mem) => r = bi (pUp P k) ∧ M' = M) (WE G) (AA G sz)) (AA G sz)) = QQ at hret ⊢
  refine wl_aload_n C 0 dX0_pointsUp_0 rfl rfl ?_
  refine wl_iload_n C 1 dX0_pointsUp_1 rfl rfl ?_
  refine wl_callVp (i := b) (n := 1) C [.int (nI k)] [] (c_X0_following _ G M b k P hb hB (by omega)) gX0_pointsUp_X0_following rfl (by decide +kernel) (by decide) (by decide) (kd_lt hb (by decide)) (cell_k hb) rfl rfl rfl (Nat.le_of_ble_eq_true rfl) dX0_pointsUp_2 ?_
  refine wl_istore_n (L' := [(2, .int (nI (nx P.1 k))), (0, .ref (G.2.2.1 b)), (1, .int (nI k))]) C dX0_pointsUp_5 rfl (by decide) rfl ?_
  refine wl_aload_n C 1 dX0_pointsUp_6 rfl rfl ?_
  refine wl_iload_n C 0 dX0_pointsUp_7 rfl rfl ?_
  refine wl_callVp (i := b) (n := 1) C [.int (nI (nx P.1 k))] [] (c_X0_y _ G M b (nx P.1 k) P hb hB (nx_lt (by omega))) gX0_pointsUp_X0_y rfl (by decide +kernel) (by decide) (by decide) (kd_lt hb (by decide)) (cell_k hb) rfl rfl rfl (Nat.le_of_ble_eq_true rfl) dX0_pointsUp_8 ?_
  refine wl_aload_n C 1 dX0_pointsUp_11 rfl rfl ?_
  refine wl_iload_n C 2 dX0_pointsUp_12 rfl rfl ?_
  refine wl_callVp (i := b) (n := 1) C [.int (nI k)] [.int (P.2.2 (nx P.1 k))] (c_X0_y _ G M b k P hb hB (by omega)) gX0_pointsUp_X0_y rfl (by decide +kernel) (by decide) (by decide) (kd_lt hb (by decide)) (cell_k hb) rfl rfl rfl (Nat.le_of_ble_eq_true rfl) dX0_pointsUp_13 ?_
  refine wl_icmp_gt C 45 dX0_pointsUp_16 (by decide) (fun c_16 => ?_) (fun c_16 => ?_)
  · refine wl_iconst (v := 1) C dX0_pointsUp_45 (by decide) ?_
    refine wl_goto C 50 dX0_pointsUp_46 (by decide) ?_
    exact hret _ 50 _ 1 (rfl) dX0_pointsUp_50 (⟨by unfold pUp; simp [bi, *], rfl⟩)
  · refine wl_aload_n C 1 dX0_pointsUp_19 rfl rfl ?_
    refine wl_iload_n C 0 dX0_pointsUp_20 rfl rfl ?_
    refine wl_callVp (i := b) (n := 1) C [.int (nI (nx P.1 k))] [] (c_X0_y _ G M b (nx P.1 k) P hb hB (nx_lt (by omega))) gX0_pointsUp_X0_y rfl (by decide +kernel) (by decide) (by decide) (kd_lt hb (by decide)) (cell_k hb) rfl rfl rfl (Nat.le_of_ble_eq_true rfl) dX0_pointsUp_21 ?_
    refine wl_aload_n C 1 dX0_pointsUp_24 rfl rfl ?_
    refine wl_iload_n C 2 dX0_pointsUp_25 rfl rfl ?_
    refine wl_callVp (i := b) (n := 1) C [.int (nI k)] [.int (P.2.2 (nx P.1 k))] (c_X0_y _ G M b k P hb hB (by omega)) gX0_pointsUp_X0_y rfl (by decide +kernel) (by decide) (by decide) (kd_lt hb (by decide)) (cell_k hb) rfl rfl rfl (Nat.le_of_ble_eq_true rfl) dX0_pointsUp_26 ?_
    refine wl_icmp_ne C 49 dX0_pointsUp_29 (by decide) (fun c_29 => ?_) (fun c_29 => ?_)
    · refine wl_iconst (v := 0) C dX0_pointsUp_49 (by decide) ?_
      exact hret _ 50 _ 0 (rfl) dX0_pointsUp_50 (⟨by unfold pUp; simp [bi, *], rfl⟩)
    · refine wl_aload_n C 1 dX0_pointsUp_32 rfl rfl ?_
      refine wl_iload_n C 0 dX0_pointsUp_33 rfl rfl ?_
      refine wl_callVp (i := b) (n := 1) C [.int (nI (nx P.1 k))] [] (c_X0_x _ G M b (nx P.1 k) P hb hB (nx_lt (by omega))) gX0_pointsUp_X0_x rfl (by decide +kernel) (by decide) (by decide) (kd_lt hb (by decide)) (cell_k hb) rfl rfl rfl (Nat.le_of_ble_eq_true rfl) dX0_pointsUp_34 ?_
      refine wl_aload_n C 1 dX0_pointsUp_37 rfl rfl ?_
      refine wl_iload_n C 2 dX0_pointsUp_38 rfl rfl ?_
      refine wl_callVp (i := b) (n := 1) C [.int (nI k)] [.int (P.2.1 (nx P.1 k))] (c_X0_x _ G M b k P hb hB (by omega)) gX0_pointsUp_X0_x rfl (by decide +kernel) (by decide) (by decide) (kd_lt hb (by decide)) (cell_k hb) rfl rfl rfl (Nat.le_of_ble_eq_true rfl) dX0_pointsUp_39 ?_
      refine wl_icmp_le C 49 dX0_pointsUp_42 (by decide) (fun c_42 => ?_) (fun c_42 => ?_)
      · refine wl_iconst (v := 0) C dX0_pointsUp_49 (by decide) ?_
        exact hret _ 50 _ 0 (rfl) dX0_pointsUp_50 (⟨by unfold pUp; simp [bi, *], rfl⟩)
      · refine wl_iconst (v := 1) C dX0_pointsUp_45 (by decide) ?_
        refine wl_goto C 50 dX0_pointsUp_46 (by decide) ?_
        exact hret _ 50 _ 1 (rfl) dX0_pointsUp_50 (⟨by unfold pUp; simp [bi, *], rfl⟩)
set_option maxHeartbeats 4000000 in
set_option maxRecDepth 100000 in
theorem c_X0_timesRound (l : Launch) (G : Gw) (M : Mem) (b : Nat) (P : Py) (hb : kd b = 0) (hB : Bd M b P) : Cp l G yX0_timesRound wsX0_timesRound 2 43 [.ref (G.2.2.1 b)] M (pRounds P) := by
  refine Ci.of (cc := cX0_timesRound) (maxL := 3) (ret := (some .int)) (by decide +kernel) rfl (Nat.le_of_ble_eq_true rfl) ?_
  intro x sz hl0 hr C
  subst hl0
  have C : CX x G (AA G sz) RX0 cX0_timesRound 3 wsX0_timesRound 2 43 0 0 := C
  have hret : ∀ (M0 : Mem) (pc0 : Nat) (L0 : List (Nat × Value)) (rv0 : Int32), decode cX0_timesRound pc0 = .ok (.ireturn, 1) → (fun (r : Int32) (M' : Mem) => r = pRounds P ∧ M' = M) rv0 M0 → WL x G (AA G sz) 3 0 0 (xQ x (va_Qi (fun (r : Int32) (M' : Mem) => r = pRounds P ∧ M' = M) (WE G) (AA G sz)) (AA G sz)) M0 pc0 L0 [.int rv0] := fun M0 pc0 L0 rv0 hd hp => wl_iret (post := (fun (r : Int32) (M' : Mem) => r = pRounds P ∧ M' = M)) C hr hd hp
  show WL x G (AA G sz) 3 0 0 (xQ x (va_Qi (fun (r : Int32) (M' : Mem) => r = pRounds P ∧ M' = M) (WE G) (AA G sz)) (AA G sz)) M 0 [(0, .ref (G.2.2.1 b))] []
  generalize (xQ x (va_Qi (fun (r : Int32) (M' : Mem) => r = pRounds P ∧ M' = M) (WE G) (AA G sz)) (AA G sz)) = QQ at hret ⊢
  have in0 : ∀ w ∈ wsX00, w ∈ wsX0_timesRound := by decide +kernel
  have fl18 : Jvm.Cond.fieldLink RX0 18 "JammedBodies$Body" "corners" "I" ∈ wsX0_timesRound := by decide +kernel
  have h7 := hB.2.1
  refine wl_iconst (v := smT (pRf P) 0) C dX0_timesRound_0 (by first | decide | rfl) ?_
  refine wl_istore_n (L' := [(1, .int (smT (pRf P) 0)), (0, .ref (G.2.2.1 b))]) C dX0_timesRound_1 rfl (by decide) rfl ?_
  refine wl_iconst (v := nI 0) C dX0_timesRound_2 (by first | decide | rfl) ?_
  refine wl_istore_n (L' := [(2, .int (nI 0)), (1, .int (smT (pRf P) 0)), (0, .ref (G.2.2.1 b))]) C dX0_timesRound_3 rfl (by decide) rfl ?_
  have h4 : ∀ k, k ≤ P.1 → WL x G (AA G sz) 3 0 0 QQ M 4 [(0, .ref (G.2.2.1 b)), (1, .int (smT (pRf P) k)), (2, .int (nI k))] [] := by
    refine up_loop P.1 _ ?_
    intro k hk ih
    refine wl_iload_n C 2 dX0_timesRound_4 rfl rfl ?_
    refine wl_aload_n C 0 dX0_timesRound_5 rfl rfl ?_
    refine wl_get_Body_corners (i := b) (v := nI P.1) C hb in0 fl18 hB.1 dX0_timesRound_6 ?_
    refine wl_icmp_geN C (a := k) (b := P.1) (by omega) (by omega) 41 dX0_timesRound_9 (by decide) (fun c_9 => ?_) (fun c_9 => ?_)
    · refine wl_iload_n C 1 dX0_timesRound_41 rfl rfl ?_
      exact hret _ 42 _ (smT (pRf P) k) dX0_timesRound_42 (⟨by unfold pRounds; rw [show P.1 = k by omega], rfl⟩)
    · have h35 : WL x G (AA G sz) 3 0 0 QQ M 35 [(0, .ref (G.2.2.1 b)), (1, .int (smT (pRf P) (k + 1))), (2, .int (nI k))] [] := by
        refine wl_iinc1 (k := k) (L' := [(2, .int (nI (k + 1))), (0, .ref (G.2.2.1 b)), (1, .int (smT (pRf P) (k + 1)))]) C 2 dX0_timesRound_35 rfl (by decide) rfl ?_
        refine wl_goto C 4 dX0_timesRound_38 (by decide) ?_
        refine wl_sub (L' := [(0, .ref (G.2.2.1 b)), (1, .int (smT (pRf P) (k + 1))), (2, .int (nI (k + 1)))]) [1, 2, 0] rfl ?_
        exact ih (by omega)
      refine wl_aload_n C 0 dX0_timesRound_12 rfl rfl ?_
      refine wl_iload_n C 2 dX0_timesRound_13 rfl rfl ?_
      refine wl_callVp (i := b) (n := 1) C [.int (nI k)] [] (c_X0_pointsUp _ G M b k P hb hB (by omega)) gX0_timesRound_X0_pointsUp rfl (by decide +kernel) (by decide) (by decide) (kd_lt hb (by decide)) (cell_k hb) rfl rfl rfl (Nat.le_of_ble_eq_true rfl) dX0_timesRound_14 ?_
      refine wl_if_neB C 35 dX0_timesRound_17 (by decide) (fun c_17 => ?_) (fun c_17 => ?_)
      · refine wl_locs (L' := [(0, .ref (G.2.2.1 b)), (1, .int (smT (pRf P) (k + 1))), (2, .int (nI k))]) (by rw [show smT (pRf P) (k + 1) = smT (pRf P) k from by simp [smT, pRf, c_17, bi]]) ?_
        exact h35
      · refine wl_aload_n C 0 dX0_timesRound_20 rfl rfl ?_
        refine wl_aload_n C 0 dX0_timesRound_21 rfl rfl ?_
        refine wl_iload_n C 2 dX0_timesRound_22 rfl rfl ?_
        refine wl_callVp (i := b) (n := 1) C [.int (nI k)] [.ref (G.2.2.1 b)] (c_X0_following _ G M b k P hb hB (by omega)) gX0_timesRound_X0_following rfl (by decide +kernel) (by decide) (by decide) (kd_lt hb (by decide)) (cell_k hb) rfl rfl rfl (Nat.le_of_ble_eq_true rfl) dX0_timesRound_23 ?_
        refine wl_callVp (i := b) (n := 1) C [.int (nI (nx P.1 k))] [] (c_X0_pointsUp _ G M b (nx P.1 k) P hb hB (nx_lt (by omega))) gX0_timesRound_X0_pointsUp rfl (by decide +kernel) (by decide) (by decide) (kd_lt hb (by decide)) (cell_k hb) rfl rfl rfl (Nat.le_of_ble_eq_true rfl) dX0_timesRound_26 ?_
        refine wl_if_eqB C 35 dX0_timesRound_29 (by decide) (fun c_29 => ?_) (fun c_29 => ?_)
        · refine wl_locs (L' := [(0, .ref (G.2.2.1 b)), (1, .int (smT (pRf P) (k + 1))), (2, .int (nI k))]) (by rw [show smT (pRf P) (k + 1) = smT (pRf P) k from by simp [smT, pRf, c_17, c_29, bi]]) ?_
          exact h35
        · refine wl_iinc (w := smT (pRf P) k + 1) (L' := [(1, .int (smT (pRf P) k + 1)), (0, .ref (G.2.2.1 b)), (2, .int (nI k))]) C 1 dX0_timesRound_32 rfl (rfl) (by decide) rfl ?_
          refine wl_sub (L' := [(0, .ref (G.2.2.1 b)), (1, .int (smT (pRf P) k + 1)), (2, .int (nI k))]) [1, 0, 2] rfl ?_
          refine wl_locs (L' := [(0, .ref (G.2.2.1 b)), (1, .int (smT (pRf P) (k + 1))), (2, .int (nI k))]) (by rw [show smT (pRf P) (k + 1) = smT (pRf P) k + 1 from by simp [smT, pRf, c_17, c_29, bi]]) ?_
          exact h35
  refine wl_sub (L' := [(0, .ref (G.2.2.1 b)), (1, .int (smT (pRf P) 0)), (2, .int (nI 0))]) [2, 1, 0] rfl ?_
  exact h4 0 (Nat.zero_le _)
set_option maxHeartbeats 4000000 in
set_option maxRecDepth 100000 in
theorem c_X0_causeOfShape (l : Launch) (G : Gw) (M : Mem) (b : Nat) (P : Py) (hb : kd b = 0) (hB : Bd M b P) (h0 : 0 < P.1) : Cp l G yX0_causeOfShape wsX0_causeOfShape 3 65 [.ref (G.2.2.1 b)] M (pShape P) := by
  refine Ci.of (cc := cX0_causeOfShape) (maxL := 4) (ret := (some .int)) (by decide +kernel) rfl (Nat.le_of_ble_eq_true rfl) ?_
  intro x sz hl0 hr C
  subst hl0
  have C : CX x G (AA G sz) RX0 cX0_causeOfShape 4 wsX0_causeOfShape 3 65 0 0 := C
  have hret : ∀ (M0 : Mem) (pc0 : Nat) (L0 : List (Nat × Value)) (rv0 : Int32), decode cX0_causeOfShape pc0 = .ok (.ireturn, 1) → (fun (r : Int32) (M' : Mem) => r = pShape P ∧ M' = M) rv0 M0 → WL x G (AA G sz) 4 0 0 (xQ x (va_Qi (fun (r : Int32) (M' : Mem) => r = pShape P ∧ M' = M) (WE G) (AA G sz)) (AA G sz)) M0 pc0 L0 [.int rv0] := fun M0 pc0 L0 rv0 hd hp => wl_iret (post := (fun (r : Int32) (M' : Mem) => r = pShape P ∧ M' = M)) C hr hd hp
  show WL x G (AA G sz) 4 0 0 (xQ x (va_Qi (fun (r : Int32) (M' : Mem) => r = pShape P ∧ M' = M) (WE G) (AA G sz)) (AA G sz)) M 0 [(0, .ref (G.2.2.1 b))] []
  generalize (xQ x (va_Qi (fun (r : Int32) (M' : Mem) => r = pShape P ∧ M' = M) (WE G) (AA G sz)) (AA G sz)) = QQ at hret ⊢
  have in0 : ∀ w ∈ wsX00, w ∈ wsX0_causeOfShape := by decide +kernel
  have fl18 : Jvm.Cond.fieldLink RX0 18 "JammedBodies$Body" "corners" "I" ∈ wsX0_causeOfShape := by decide +kernel
  have ini4 : Jvm.Cond.initialized RX4 ∈ wsX0_causeOfShape := by decide +kernel
  have sta59 : Jvm.Cond.static yX4_cross ∈ wsX0_causeOfShape := by decide +kernel
  have h7 := hB.2.1
  refine wl_iconst (v := nI 0) C dX0_causeOfShape_0 (by first | decide | rfl) ?_
  refine wl_istore_n (L' := [(1, .int (nI 0)), (0, .ref (G.2.2.1 b))]) C dX0_causeOfShape_1 rfl (by decide) rfl ?_
  have h2 : ∀ k, k ≤ P.1 → anT (fun k => decide (pTurn P k ≤ 0)) k = false → WL x G (AA G sz) 4 0 0 QQ M 2 [(0, .ref (G.2.2.1 b)), (1, .int (nI k))] [] := by
    refine up_loop P.1 _ ?_
    intro k hk ih hI
    refine wl_iload_n C 1 dX0_causeOfShape_2 rfl rfl ?_
    refine wl_aload_n C 0 dX0_causeOfShape_3 rfl rfl ?_
    refine wl_get_Body_corners (i := b) (v := nI P.1) C hb in0 fl18 hB.1 dX0_causeOfShape_4 ?_
    refine wl_icmp_geN C (a := k) (b := P.1) (by omega) (by omega) 77 dX0_causeOfShape_7 (by decide) (fun c_7 => ?_) (fun c_7 => ?_)
    · refine wl_aload_n C 0 dX0_causeOfShape_77 rfl rfl ?_
      refine wl_callVp (i := b) (n := 0) C [] [] (c_X0_timesRound _ G M b P hb hB) gX0_causeOfShape_X0_timesRound rfl (by decide +kernel) (by decide) (by decide) (kd_lt hb (by decide)) (cell_k hb) rfl rfl rfl (Nat.le_of_ble_eq_true rfl) dX0_causeOfShape_78 ?_
      refine wl_iconst (v := 1) C dX0_causeOfShape_81 (by decide) ?_
      suffices hJ82 : WL x G (AA G sz) 4 0 0 QQ M 93 [(0, .ref (G.2.2.1 b)), (1, .int (nI k))] [.int (if (pRounds P) ≤ 1 then (-1) else nI P.1)] by
        refine wl_icmp_le C 92 dX0_causeOfShape_82 (by decide) (fun c_82 => ?_) (fun c_82 => ?_)
        · rw [if_pos c_82] at hJ82
          refine wl_iconst (v := (-1)) C dX0_causeOfShape_92 (by decide) ?_
          exact hJ82
        · rw [if_neg c_82] at hJ82
          refine wl_aload_n C 0 dX0_causeOfShape_85 rfl rfl ?_
          refine wl_get_Body_corners (i := b) (v := nI P.1) C hb in0 fl18 hB.1 dX0_causeOfShape_86 ?_
          refine wl_goto C 93 dX0_causeOfShape_89 (by decide) ?_
          exact hJ82
      exact hret _ 93 _ (if (pRounds P) ≤ 1 then (-1) else nI P.1) dX0_causeOfShape_93 (⟨by unfold pShape; rw [fsT_none.mpr (by rw [show P.1 = k by omega]; exact hI)], rfl⟩)
    · refine wl_iload_n C 1 dX0_causeOfShape_10 rfl rfl ?_
      suffices hJ11 : WL x G (AA G sz) 4 0 0 QQ M 26 [(0, .ref (G.2.2.1 b)), (1, .int (nI k))] [.int (if (nI k) ≤ 0 then (nI P.1) - 1 else (nI k) - 1)] by
        refine wl_if_le C 20 dX0_causeOfShape_11 (by decide) (fun c_11 => ?_) (fun c_11 => ?_)
        · rw [if_pos c_11] at hJ11
          refine wl_aload_n C 0 dX0_causeOfShape_20 rfl rfl ?_
          refine wl_get_Body_corners (i := b) (v := nI P.1) C hb in0 fl18 hB.1 dX0_causeOfShape_21 ?_
          refine wl_iconst (v := 1) C dX0_causeOfShape_24 (by decide) ?_
          refine wl_isub C dX0_causeOfShape_25 ?_
          exact hJ11
        · rw [if_neg c_11] at hJ11
          refine wl_iload_n C 1 dX0_causeOfShape_14 rfl rfl ?_
          refine wl_iconst (v := 1) C dX0_causeOfShape_15 (by decide) ?_
          refine wl_isub C dX0_causeOfShape_16 ?_
          refine wl_goto C 26 dX0_causeOfShape_17 (by decide) ?_
          exact hJ11
      refine wl_eqi (b := nI (pv P.1 k)) (pv_eq (by omega) (by omega)) ?_
      refine wl_istore_n (L' := [(2, .int (nI (pv P.1 k))), (0, .ref (G.2.2.1 b)), (1, .int (nI k))]) C dX0_causeOfShape_26 rfl (by decide) rfl ?_
      refine wl_aload_n C 1 dX0_causeOfShape_27 rfl rfl ?_
      refine wl_iload_n C 2 dX0_causeOfShape_28 rfl rfl ?_
      refine wl_callVp (i := b) (n := 1) C [.int (nI k)] [] (c_X0_following _ G M b k P hb hB (by omega)) gX0_causeOfShape_X0_following rfl (by decide +kernel) (by decide) (by decide) (kd_lt hb (by decide)) (cell_k hb) rfl rfl rfl (Nat.le_of_ble_eq_true rfl) dX0_causeOfShape_29 ?_
      refine wl_istore_n (L' := [(3, .int (nI (nx P.1 k))), (2, .int (nI (pv P.1 k))), (0, .ref (G.2.2.1 b)), (1, .int (nI k))]) C dX0_causeOfShape_32 rfl (by decide) rfl ?_
      refine wl_aload_n C 2 dX0_causeOfShape_33 rfl rfl ?_
      refine wl_iload_n C 1 dX0_causeOfShape_34 rfl rfl ?_
      refine wl_callVp (i := b) (n := 1) C [.int (nI (pv P.1 k))] [] (c_X0_x _ G M b (pv P.1 k) P hb hB (pv_lt (by omega))) gX0_causeOfShape_X0_x rfl (by decide +kernel) (by decide) (by decide) (kd_lt hb (by decide)) (cell_k hb) rfl rfl rfl (Nat.le_of_ble_eq_true rfl) dX0_causeOfShape_35 ?_
      refine wl_aload_n C 2 dX0_causeOfShape_38 rfl rfl ?_
      refine wl_iload_n C 1 dX0_causeOfShape_39 rfl rfl ?_
      refine wl_callVp (i := b) (n := 1) C [.int (nI (pv P.1 k))] [.int (P.2.1 (pv P.1 k))] (c_X0_y _ G M b (pv P.1 k) P hb hB (pv_lt (by omega))) gX0_causeOfShape_X0_y rfl (by decide +kernel) (by decide) (by decide) (kd_lt hb (by decide)) (cell_k hb) rfl rfl rfl (Nat.le_of_ble_eq_true rfl) dX0_causeOfShape_40 ?_
      refine wl_aload_n C 2 dX0_causeOfShape_43 rfl rfl ?_
      refine wl_iload_n C 3 dX0_causeOfShape_44 rfl rfl ?_
      refine wl_callVp (i := b) (n := 1) C [.int (nI k)] [.int (P.2.2 (pv P.1 k)), .int (P.2.1 (pv P.1 k))] (c_X0_x _ G M b k P hb hB (by omega)) gX0_causeOfShape_X0_x rfl (by decide +kernel) (by decide) (by decide) (kd_lt hb (by decide)) (cell_k hb) rfl rfl rfl (Nat.le_of_ble_eq_true rfl) dX0_causeOfShape_45 ?_
      refine wl_aload_n C 2 dX0_causeOfShape_48 rfl rfl ?_
      refine wl_iload_n C 3 dX0_causeOfShape_49 rfl rfl ?_
      refine wl_callVp (i := b) (n := 1) C [.int (nI k)] [.int (P.2.1 k), .int (P.2.2 (pv P.1 k)), .int (P.2.1 (pv P.1 k))] (c_X0_y _ G M b k P hb hB (by omega)) gX0_causeOfShape_X0_y rfl (by decide +kernel) (by decide) (by decide) (kd_lt hb (by decide)) (cell_k hb) rfl rfl rfl (Nat.le_of_ble_eq_true rfl) dX0_causeOfShape_50 ?_
      refine wl_aload_n C 2 dX0_causeOfShape_53 rfl rfl ?_
      refine wl_iload_n C 0 dX0_causeOfShape_54 rfl rfl ?_
      refine wl_callVp (i := b) (n := 1) C [.int (nI (nx P.1 k))] [.int (P.2.2 k), .int (P.2.1 k), .int (P.2.2 (pv P.1 k)), .int (P.2.1 (pv P.1 k))] (c_X0_x _ G M b (nx P.1 k) P hb hB (nx_lt (by omega))) gX0_causeOfShape_X0_x rfl (by decide +kernel) (by decide) (by decide) (kd_lt hb (by decide)) (cell_k hb) rfl rfl rfl (Nat.le_of_ble_eq_true rfl) dX0_causeOfShape_55 ?_
      refine wl_aload_n C 2 dX0_causeOfShape_58 rfl rfl ?_
      refine wl_iload_n C 0 dX0_causeOfShape_59 rfl rfl ?_
      refine wl_callVp (i := b) (n := 1) C [.int (nI (nx P.1 k))] [.int (P.2.1 (nx P.1 k)), .int (P.2.2 k), .int (P.2.1 k), .int (P.2.2 (pv P.1 k)), .int (P.2.1 (pv P.1 k))] (c_X0_y _ G M b (nx P.1 k) P hb hB (nx_lt (by omega))) gX0_causeOfShape_X0_y rfl (by decide +kernel) (by decide) (by decide) (kd_lt hb (by decide)) (cell_k hb) rfl rfl rfl (Nat.le_of_ble_eq_true rfl) dX0_causeOfShape_60 ?_
      refine wl_callNp (n := 6) C [.int (P.2.1 (pv P.1 k)), .int (P.2.2 (pv P.1 k)), .int (P.2.1 k), .int (P.2.2 k), .int (P.2.1 (nx P.1 k)), .int (P.2.2 (nx P.1 k))] [] (c_X4_cross _ G M (P.2.1 (pv P.1 k)) (P.2.2 (pv P.1 k)) (P.2.1 k) (P.2.2 k) (P.2.1 (nx P.1 k)) (P.2.2 (nx P.1 k))) gX0_causeOfShape_X4_cross_n59 rfl ini4 sta59 (fun h => h.1) (by decide +kernel) (by decide) (by decide) rfl rfl (Nat.le_of_ble_eq_true rfl) dX0_causeOfShape_63 ?_
      refine wl_eqi (b := pTurn P k) (rfl) ?_
      refine wl_if_gt C 71 dX0_causeOfShape_66 (by decide) (fun c_66 => ?_) (fun c_66 => ?_)
      · refine wl_iinc1 (k := k) (L' := [(1, .int (nI (k + 1))), (3, .int (nI (nx P.1 k))), (2, .int (nI (pv P.1 k))), (0, .ref (G.2.2.1 b))]) C 3 dX0_causeOfShape_71 rfl (by decide) rfl ?_
        refine wl_goto C 2 dX0_causeOfShape_74 (by decide) ?_
        refine wl_sub (L' := [(0, .ref (G.2.2.1 b)), (1, .int (nI (k + 1)))]) [3, 0] rfl ?_
        exact ih (by omega) (by simp only [anT, hI, Bool.false_or, decide_eq_false_iff_not]; exact Int32.not_le.mpr c_66)
      · refine wl_iload_n C 3 dX0_causeOfShape_69 rfl rfl ?_
        exact hret _ 70 _ (nI k) dX0_causeOfShape_70 (⟨by unfold pShape; rw [fsT_first hI (decide_eq_true (Int32.not_lt.mp c_66)) (by omega)], rfl⟩)
  refine wl_sub (L' := [(0, .ref (G.2.2.1 b)), (1, .int (nI 0))]) [1, 0] rfl ?_
  exact h2 0 (Nat.zero_le _) rfl
