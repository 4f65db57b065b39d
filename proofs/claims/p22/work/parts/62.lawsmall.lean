/-! THE LAW: up, turned, walls, a corner's characters, a number of the script -/
theorem nI48 {q : Nat} (h : q < 10) : 32 ≤ nI (48 + q) ∧ nI (48 + q) ≤ 126 := (dgq q h).1
def upN (v : Int32) (n : Nat) : Nat := v.toBitVec.toNat % 2 ^ 31 % n
theorem upN_lt {v : Int32} {n : Nat} (h : 0 < n) : upN v n < n := Nat.mod_lt _ h
set_option maxHeartbeats 4000000 in
set_option maxRecDepth 100000 in
theorem c_L_up (l : Launch) (G : Gw) (M : Mem) (v : Int32) (n : Nat) (h0 : 0 < n) (hn : n < 2 ^ 31) : Cp l G yL_up wsL_up 0 0 [.int v, .int (nI n)] M (nI (upN v n)) := by
  refine Ci.of (cc := cL_up) (maxL := 2) (ret := (some .int)) (by decide +kernel) rfl (Nat.le_of_ble_eq_true rfl) ?_
  intro x sz hl0 hr C
  subst hl0
  have C : CX x G (AA G sz) RL cL_up 2 wsL_up 0 0 0 0 := C
  have hret : ∀ (M0 : Mem) (pc0 : Nat) (L0 : List (Nat × Value)) (rv0 : Int32), decode cL_up pc0 = .ok (.ireturn, 1) → (fun (r : Int32) (M' : Mem) => r = nI (upN v n) ∧ M' = M) rv0 M0 → WL x G (AA G sz) 2 0 0 (xQ x (va_Qi (fun (r : Int32) (M' : Mem) => r = nI (upN v n) ∧ M' = M) (WE G) (AA G sz)) (AA G sz)) M0 pc0 L0 [.int rv0] := fun M0 pc0 L0 rv0 hd hp => wl_iret (post := (fun (r : Int32) (M' : Mem) => r = nI (upN v n) ∧ M' = M)) C hr hd hp
  show WL x G (AA G sz) 2 0 0 (xQ x (va_Qi (fun (r : Int32) (M' : Mem) => r = nI (upN v n) ∧ M' = M) (WE G) (AA G sz)) (AA G sz)) M 0 [(0, .int v), (1, .int (nI n))] []
  generalize (xQ x (va_Qi (fun (r : Int32) (M' : Mem) => r = nI (upN v n) ∧ M' = M) (WE G) (AA G sz)) (AA G sz)) = QQ at hret ⊢
  have cn8 : Jvm.Cond.constant RL 8 (2147483647) ∈ wsL_up := by decide +kernel
  refine wl_iload_n C 0 dL_up_0 rfl rfl ?_
  refine wl_ldc C cn8 dL_up_1 ?_
  refine wl_iand C dL_up_3 ?_
  refine wl_eqi (b := nI (v.toBitVec.toNat % 2 ^ 31)) (pk_and v 31 (by decide)) ?_
  refine wl_iload_n C 1 dL_up_4 rfl rfl ?_
  refine wl_irem C dL_up_5 (nI_ne0 h0 hn) ?_
  refine wl_eqi (b := nI (upN v n)) (pk_rem (Nat.mod_lt _ (by decide)) h0 hn) ?_
  exact hret _ 6 _ (nI (upN v n)) dL_up_6 (⟨rfl, rfl⟩)

set_option maxHeartbeats 4000000 in
set_option maxRecDepth 100000 in
theorem c_L_turned (l : Launch) (G : Gw) (M : Mem) (v : Int32) : Cp l G yL_turned wsL_turned 0 0 [.int v] M (tuV v) := by
  refine Ci.of (cc := cL_turned) (maxL := 1) (ret := (some .int)) (by decide +kernel) rfl (Nat.le_of_ble_eq_true rfl) ?_
  intro x sz hl0 hr C
  subst hl0
  have C : CX x G (AA G sz) RL cL_turned 1 wsL_turned 0 0 0 0 := C
  have hret : ∀ (M0 : Mem) (pc0 : Nat) (L0 : List (Nat × Value)) (rv0 : Int32), decode cL_turned pc0 = .ok (.ireturn, 1) → (fun (r : Int32) (M' : Mem) => r = tuV v ∧ M' = M) rv0 M0 → WL x G (AA G sz) 1 0 0 (xQ x (va_Qi (fun (r : Int32) (M' : Mem) => r = tuV v ∧ M' = M) (WE G) (AA G sz)) (AA G sz)) M0 pc0 L0 [.int rv0] := fun M0 pc0 L0 rv0 hd hp => wl_iret (post := (fun (r : Int32) (M' : Mem) => r = tuV v ∧ M' = M)) C hr hd hp
  show WL x G (AA G sz) 1 0 0 (xQ x (va_Qi (fun (r : Int32) (M' : Mem) => r = tuV v ∧ M' = M) (WE G) (AA G sz)) (AA G sz)) M 0 [(0, .int v)] []
  generalize (xQ x (va_Qi (fun (r : Int32) (M' : Mem) => r = tuV v ∧ M' = M) (WE G) (AA G sz)) (AA G sz)) = QQ at hret ⊢
  refine wl_iload_n C 0 dL_turned_0 rfl rfl ?_
  refine wl_iconst (v := 2) C dL_turned_1 (by decide) ?_
  refine wl_ishl C dL_turned_2 ?_
  refine wl_iload_n C 0 dL_turned_3 rfl rfl ?_
  refine wl_bipush (v := 6) C dL_turned_4 (by decide) ?_
  refine wl_ishr C dL_turned_6 ?_
  refine wl_ior C dL_turned_7 ?_
  refine wl_sipush (v := 255) C dL_turned_8 (by decide) ?_
  refine wl_iand C dL_turned_11 ?_
  exact hret _ 12 _ (((v <<< ((2 : Int32) &&& 31)) ||| (v >>> ((6 : Int32) &&& 31))) &&& 255) dL_turned_12 (⟨rfl, rfl⟩)

set_option maxHeartbeats 4000000 in
set_option maxRecDepth 100000 in
theorem c_L_walls (l : Launch) (G : Gw) (M : Mem) (v : Int32) : Cp l G yL_walls wsL_walls 0 0 [.int v] M (waV v) := by
  refine Ci.of (cc := cL_walls) (maxL := 1) (ret := (some .int)) (by decide +kernel) rfl (Nat.le_of_ble_eq_true rfl) ?_
  intro x sz hl0 hr C
  subst hl0
  have C : CX x G (AA G sz) RL cL_walls 1 wsL_walls 0 0 0 0 := C
  have hret : ∀ (M0 : Mem) (pc0 : Nat) (L0 : List (Nat × Value)) (rv0 : Int32), decode cL_walls pc0 = .ok (.ireturn, 1) → (fun (r : Int32) (M' : Mem) => r = waV v ∧ M' = M) rv0 M0 → WL x G (AA G sz) 1 0 0 (xQ x (va_Qi (fun (r : Int32) (M' : Mem) => r = waV v ∧ M' = M) (WE G) (AA G sz)) (AA G sz)) M0 pc0 L0 [.int rv0] := fun M0 pc0 L0 rv0 hd hp => wl_iret (post := (fun (r : Int32) (M' : Mem) => r = waV v ∧ M' = M)) C hr hd hp
  show WL x G (AA G sz) 1 0 0 (xQ x (va_Qi (fun (r : Int32) (M' : Mem) => r = waV v ∧ M' = M) (WE G) (AA G sz)) (AA G sz)) M 0 [(0, .int v)] []
  generalize (xQ x (va_Qi (fun (r : Int32) (M' : Mem) => r = waV v ∧ M' = M) (WE G) (AA G sz)) (AA G sz)) = QQ at hret ⊢
  refine wl_iload_n C 0 dL_walls_0 rfl rfl ?_
  refine wl_iconst (v := 1) C dL_walls_1 (by decide) ?_
  refine wl_iand C dL_walls_2 ?_
  refine wl_iconst (v := 4) C dL_walls_3 (by decide) ?_
  refine wl_imul C dL_walls_4 ?_
  refine wl_iload_n C 0 dL_walls_5 rfl rfl ?_
  refine wl_iconst (v := 1) C dL_walls_6 (by decide) ?_
  refine wl_ishr C dL_walls_7 ?_
  refine wl_iconst (v := 1) C dL_walls_8 (by decide) ?_
  refine wl_iand C dL_walls_9 ?_
  refine wl_bipush (v := 8) C dL_walls_10 (by decide) ?_
  refine wl_imul C dL_walls_12 ?_
  refine wl_iadd C dL_walls_13 ?_
  refine wl_iload_n C 0 dL_walls_14 rfl rfl ?_
  refine wl_iconst (v := 2) C dL_walls_15 (by decide) ?_
  refine wl_ishr C dL_walls_16 ?_
  refine wl_iconst (v := 1) C dL_walls_17 (by decide) ?_
  refine wl_iand C dL_walls_18 ?_
  refine wl_iconst (v := 2) C dL_walls_19 (by decide) ?_
  refine wl_imul C dL_walls_20 ?_
  refine wl_iadd C dL_walls_21 ?_
  refine wl_iload_n C 0 dL_walls_22 rfl rfl ?_
  refine wl_iconst (v := 3) C dL_walls_23 (by decide) ?_
  refine wl_ishr C dL_walls_24 ?_
  refine wl_iconst (v := 1) C dL_walls_25 (by decide) ?_
  refine wl_iand C dL_walls_26 ?_
  refine wl_iadd C dL_walls_27 ?_
  exact hret _ 28 _ (((((v &&& 1) * 4) + (((v >>> ((1 : Int32) &&& 31)) &&& 1) * 8)) + (((v >>> ((2 : Int32) &&& 31)) &&& 1) * 2)) + ((v >>> ((3 : Int32) &&& 31)) &&& 1)) dL_walls_28 (⟨rfl, rfl⟩)

set_option maxHeartbeats 4000000 in
set_option maxRecDepth 100000 in
theorem c_L_corner1 (l : Launch) (G : Gw) (M : Mem) (σ : Sy) (hR : RC M σ) (hO : OkY σ) (px py : Nat) (hx : px < 100) (hy : py < 100) (hl : σ.2.2.2.1 + 6 ≤ 60) : Ci l G yL_corner wsL_corner 2 42 [.ref (G.2.2.1 224), .int (nI px), .int (nI py), .int 59] M (fun (r : Int32) (M2 : Mem) => r = 1 ∧ RC M2 (withT σ (coE σ.2.2.2 px py true)) ∧ OkY (withT σ (coE σ.2.2.2 px py true))) := by
  refine Ci.of (cc := cL_corner) (maxL := 5) (ret := (some .boolean)) (by decide +kernel) rfl (Nat.le_of_ble_eq_true rfl) ?_
  intro x sz hl0 hr C
  subst hl0
  have C : CX x G (AA G sz) RL cL_corner 5 wsL_corner 2 42 0 0 := C
  have hret : ∀ (M0 : Mem) (pc0 : Nat) (L0 : List (Nat × Value)) (rv0 : Int32), narrow .boolean (.int rv0) = .int rv0 → decode cL_corner pc0 = .ok (.ireturn, 1) → (fun (r : Int32) (M2 : Mem) => r = 1 ∧ RC M2 (withT σ (coE σ.2.2.2 px py true)) ∧ OkY (withT σ (coE σ.2.2.2 px py true))) rv0 M0 → WL x G (AA G sz) 5 0 0 (xQ x (va_Qi (fun (r : Int32) (M2 : Mem) => r = 1 ∧ RC M2 (withT σ (coE σ.2.2.2 px py true)) ∧ OkY (withT σ (coE σ.2.2.2 px py true))) (WE G) (AA G sz)) (AA G sz)) M0 pc0 L0 [.int rv0] := fun M0 pc0 L0 rv0 hn hd hp => wl_zret (post := (fun (r : Int32) (M2 : Mem) => r = 1 ∧ RC M2 (withT σ (coE σ.2.2.2 px py true)) ∧ OkY (withT σ (coE σ.2.2.2 px py true)))) C hr hn hd hp
  show WL x G (AA G sz) 5 0 0 (xQ x (va_Qi (fun (r : Int32) (M2 : Mem) => r = 1 ∧ RC M2 (withT σ (coE σ.2.2.2 px py true)) ∧ OkY (withT σ (coE σ.2.2.2 px py true))) (WE G) (AA G sz)) (AA G sz)) M 0 [(0, .ref (G.2.2.1 224)), (1, .int (nI px)), (2, .int (nI py)), (3, .int 59)] []
  generalize (xQ x (va_Qi (fun (r : Int32) (M2 : Mem) => r = 1 ∧ RC M2 (withT σ (coE σ.2.2.2 px py true)) ∧ OkY (withT σ (coE σ.2.2.2 px py true))) (WE G) (AA G sz)) (AA G sz)) = QQ at hret ⊢
  refine wl_aload_n C 0 dL_corner_0 rfl rfl ?_
  refine wl_bipush (v := nI 48) C dL_corner_1 (by decide) ?_
  refine wl_iload_n C 1 dL_corner_3 rfl rfl ?_
  refine wl_bipush (v := nI 10) C dL_corner_4 (by decide) ?_
  refine wl_idiv C dL_corner_6 (by decide) ?_
  refine wl_eqi (b := nI (px / 10)) (pk_div (by omega) (by decide) (by decide)) ?_
  refine wl_iadd C dL_corner_7 ?_
  refine wl_eqi (b := nI (48 + px / 10)) (nI_add 48 (px / 10)) ?_
  refine wl_callVi (i := 224) (n := 1) C [.int (nI (48 + px / 10))] [] (c_X4_type _ G M σ hR hO (nI (48 + px / 10))) gL_corner_X4_type rfl (by decide +kernel) (by decide) (by decide) (kd_lt (k := 4) (by decide : kd 224 = 4) (by decide)) (cell_k (k := 4) (by decide : kd 224 = 4)) rfl rfl rfl (Nat.le_of_ble_eq_true rfl) dL_corner_8 (fun r1 M1 h1 => ?_)
  rw [typY_in (σ := σ) (nI48 (by omega)) (by show σ.2.2.2.1 < 60; omega)] at h1
  obtain ⟨T1, eT1⟩ : ∃ z : Tx, z = apT σ.2.2.2 (nI (48 + px / 10)) := ⟨_, rfl⟩
  obtain ⟨a1, R1, -⟩ := h1
  have O1 : OkY (withT σ T1) := by
    have := typ_ok (v := nI (48 + px / 10)) hO
    rw [typY_in (σ := σ) (nI48 (by omega)) (by show σ.2.2.2.1 < 60; omega)] at this
    rw [eT1]; exact this
  replace R1 : RC M1 (withT σ T1) := by rw [eT1]; exact R1
  have l1 : T1.1 = σ.2.2.2.1 + 1 := by rw [eT1]; show σ.2.2.2.1 + 1 = _; omega
  replace a1 : r1 = nI (σ.2.2.2.1 + 1) := a1
  refine wl_if_le C 69 dL_corner_11 (by decide) (fun c_11 => absurd c_11 (by rw [a1]; exact nI_nle (by omega) (by omega))) (fun c_11 => ?_)
  refine wl_aload_n C 0 dL_corner_14 rfl rfl ?_
  refine wl_bipush (v := nI 48) C dL_corner_15 (by decide) ?_
  refine wl_iload_n C 1 dL_corner_17 rfl rfl ?_
  refine wl_bipush (v := nI 10) C dL_corner_18 (by decide) ?_
  refine wl_irem C dL_corner_20 (by decide) ?_
  refine wl_eqi (b := nI (px % 10)) (pk_rem (by omega) (by decide) (by decide)) ?_
  refine wl_iadd C dL_corner_21 ?_
  refine wl_eqi (b := nI (48 + px % 10)) (nI_add 48 (px % 10)) ?_
  refine wl_callVi (i := 224) (n := 1) C [.int (nI (48 + px % 10))] [] (c_X4_type _ G M1 (withT σ T1) R1 O1 (nI (48 + px % 10))) gL_corner_X4_type rfl (by decide +kernel) (by decide) (by decide) (kd_lt (k := 4) (by decide : kd 224 = 4) (by decide)) (cell_k (k := 4) (by decide : kd 224 = 4)) rfl rfl rfl (Nat.le_of_ble_eq_true rfl) dL_corner_22 (fun r2 M2 h2 => ?_)
  rw [typY_in (σ := (withT σ T1)) (nI48 (by omega)) (by show T1.1 < 60; omega)] at h2
  obtain ⟨T2, eT2⟩ : ∃ z : Tx, z = apT T1 (nI (48 + px % 10)) := ⟨_, rfl⟩
  obtain ⟨a2, R2, -⟩ := h2
  have O2 : OkY (withT σ T2) := by
    have := typ_ok (v := nI (48 + px % 10)) O1
    rw [typY_in (σ := (withT σ T1)) (nI48 (by omega)) (by show T1.1 < 60; omega)] at this
    rw [eT2]; exact this
  replace R2 : RC M2 (withT σ T2) := by rw [eT2]; exact R2
  have l2 : T2.1 = σ.2.2.2.1 + 2 := by rw [eT2]; show T1.1 + 1 = _; omega
  replace a2 : r2 = nI (σ.2.2.2.1 + 2) := by rw [a2]; show nI (T1.1 + 1) = _; rw [l1]
  refine wl_if_le C 69 dL_corner_25 (by decide) (fun c_25 => absurd c_25 (by rw [a2]; exact nI_nle (by omega) (by omega))) (fun c_25 => ?_)
  refine wl_aload_n C 0 dL_corner_28 rfl rfl ?_
  refine wl_bipush (v := 44) C dL_corner_29 (by decide) ?_
  refine wl_callVi (i := 224) (n := 1) C [.int 44] [] (c_X4_type _ G M2 (withT σ T2) R2 O2 44) gL_corner_X4_type rfl (by decide +kernel) (by decide) (by decide) (kd_lt (k := 4) (by decide : kd 224 = 4) (by decide)) (cell_k (k := 4) (by decide : kd 224 = 4)) rfl rfl rfl (Nat.le_of_ble_eq_true rfl) dL_corner_31 (fun r3 M3 h3 => ?_)
  rw [typY_in (σ := (withT σ T2)) (by decide : (32 : Int32) ≤ 44 ∧ (44 : Int32) ≤ 126) (by show T2.1 < 60; omega)] at h3
  obtain ⟨T3, eT3⟩ : ∃ z : Tx, z = apT T2 44 := ⟨_, rfl⟩
  obtain ⟨a3, R3, -⟩ := h3
  have O3 : OkY (withT σ T3) := by
    have := typ_ok (v := 44) O2
    rw [typY_in (σ := (withT σ T2)) (by decide : (32 : Int32) ≤ 44 ∧ (44 : Int32) ≤ 126) (by show T2.1 < 60; omega)] at this
    rw [eT3]; exact this
  replace R3 : RC M3 (withT σ T3) := by rw [eT3]; exact R3
  have l3 : T3.1 = σ.2.2.2.1 + 3 := by rw [eT3]; show T2.1 + 1 = _; omega
  replace a3 : r3 = nI (σ.2.2.2.1 + 3) := by rw [a3]; show nI (T2.1 + 1) = _; rw [l2]
  refine wl_if_le C 69 dL_corner_34 (by decide) (fun c_34 => absurd c_34 (by rw [a3]; exact nI_nle (by omega) (by omega))) (fun c_34 => ?_)
  refine wl_aload_n C 0 dL_corner_37 rfl rfl ?_
  refine wl_bipush (v := nI 48) C dL_corner_38 (by decide) ?_
  refine wl_iload_n C 2 dL_corner_40 rfl rfl ?_
  refine wl_bipush (v := nI 10) C dL_corner_41 (by decide) ?_
  refine wl_idiv C dL_corner_43 (by decide) ?_
  refine wl_eqi (b := nI (py / 10)) (pk_div (by omega) (by decide) (by decide)) ?_
  refine wl_iadd C dL_corner_44 ?_
  refine wl_eqi (b := nI (48 + py / 10)) (nI_add 48 (py / 10)) ?_
  refine wl_callVi (i := 224) (n := 1) C [.int (nI (48 + py / 10))] [] (c_X4_type _ G M3 (withT σ T3) R3 O3 (nI (48 + py / 10))) gL_corner_X4_type rfl (by decide +kernel) (by decide) (by decide) (kd_lt (k := 4) (by decide : kd 224 = 4) (by decide)) (cell_k (k := 4) (by decide : kd 224 = 4)) rfl rfl rfl (Nat.le_of_ble_eq_true rfl) dL_corner_45 (fun r4 M4 h4 => ?_)
  rw [typY_in (σ := (withT σ T3)) (nI48 (by omega)) (by show T3.1 < 60; omega)] at h4
  obtain ⟨T4, eT4⟩ : ∃ z : Tx, z = apT T3 (nI (48 + py / 10)) := ⟨_, rfl⟩
  obtain ⟨a4, R4, -⟩ := h4
  have O4 : OkY (withT σ T4) := by
    have := typ_ok (v := nI (48 + py / 10)) O3
    rw [typY_in (σ := (withT σ T3)) (nI48 (by omega)) (by show T3.1 < 60; omega)] at this
    rw [eT4]; exact this
  replace R4 : RC M4 (withT σ T4) := by rw [eT4]; exact R4
  have l4 : T4.1 = σ.2.2.2.1 + 4 := by rw [eT4]; show T3.1 + 1 = _; omega
  replace a4 : r4 = nI (σ.2.2.2.1 + 4) := by rw [a4]; show nI (T3.1 + 1) = _; rw [l3]
  refine wl_if_le C 69 dL_corner_48 (by decide) (fun c_48 => absurd c_48 (by rw [a4]; exact nI_nle (by omega) (by omega))) (fun c_48 => ?_)
  refine wl_aload_n C 0 dL_corner_51 rfl rfl ?_
  refine wl_bipush (v := nI 48) C dL_corner_52 (by decide) ?_
  refine wl_iload_n C 2 dL_corner_54 rfl rfl ?_
  refine wl_bipush (v := nI 10) C dL_corner_55 (by decide) ?_
  refine wl_irem C dL_corner_57 (by decide) ?_
  refine wl_eqi (b := nI (py % 10)) (pk_rem (by omega) (by decide) (by decide)) ?_
  refine wl_iadd C dL_corner_58 ?_
  refine wl_eqi (b := nI (48 + py % 10)) (nI_add 48 (py % 10)) ?_
  refine wl_callVi (i := 224) (n := 1) C [.int (nI (48 + py % 10))] [] (c_X4_type _ G M4 (withT σ T4) R4 O4 (nI (48 + py % 10))) gL_corner_X4_type rfl (by decide +kernel) (by decide) (by decide) (kd_lt (k := 4) (by decide : kd 224 = 4) (by decide)) (cell_k (k := 4) (by decide : kd 224 = 4)) rfl rfl rfl (Nat.le_of_ble_eq_true rfl) dL_corner_59 (fun r5 M5 h5 => ?_)
  rw [typY_in (σ := (withT σ T4)) (nI48 (by omega)) (by show T4.1 < 60; omega)] at h5
  obtain ⟨T5, eT5⟩ : ∃ z : Tx, z = apT T4 (nI (48 + py % 10)) := ⟨_, rfl⟩
  obtain ⟨a5, R5, -⟩ := h5
  have O5 : OkY (withT σ T5) := by
    have := typ_ok (v := nI (48 + py % 10)) O4
    rw [typY_in (σ := (withT σ T4)) (nI48 (by omega)) (by show T4.1 < 60; omega)] at this
    rw [eT5]; exact this
  replace R5 : RC M5 (withT σ T5) := by rw [eT5]; exact R5
  have l5 : T5.1 = σ.2.2.2.1 + 5 := by rw [eT5]; show T4.1 + 1 = _; omega
  replace a5 : r5 = nI (σ.2.2.2.1 + 5) := by rw [a5]; show nI (T4.1 + 1) = _; rw [l4]
  refine wl_if_le C 69 dL_corner_62 (by decide) (fun c_62 => absurd c_62 (by rw [a5]; exact nI_nle (by omega) (by omega))) (fun c_62 => ?_)
  refine wl_iconst (v := 1) C dL_corner_65 (by decide) ?_
  refine wl_goto C 70 dL_corner_66 (by decide) ?_
  refine wl_istore (L' := [(4, .int 1), (0, .ref (G.2.2.1 224)), (1, .int (nI px)), (2, .int (nI py)), (3, .int 59)]) C dL_corner_70 (by decide) rfl ?_
  refine wl_iload C 0 dL_corner_72 rfl ?_
  refine wl_if_eq C 93 dL_corner_74 (by decide) (fun c_74 => absurd c_74 (by decide)) (fun c_74 => ?_)
  refine wl_iload_n C 4 dL_corner_77 rfl rfl ?_
  refine wl_if_eq C 89 dL_corner_78 (by decide) (fun c_78 => absurd c_78 (by decide)) (fun c_78 => ?_)
  refine wl_aload_n C 1 dL_corner_81 rfl rfl ?_
  refine wl_iload_n C 4 dL_corner_82 rfl rfl ?_
  refine wl_callVi (i := 224) (n := 1) C [.int 59] [] (c_X4_type _ G M5 (withT σ T5) R5 O5 59) gL_corner_X4_type rfl (by decide +kernel) (by decide) (by decide) (kd_lt (k := 4) (by decide : kd 224 = 4) (by decide)) (cell_k (k := 4) (by decide : kd 224 = 4)) rfl rfl rfl (Nat.le_of_ble_eq_true rfl) dL_corner_83 (fun r6 M6 h6 => ?_)
  rw [typY_in (σ := (withT σ T5)) (by decide : (32 : Int32) ≤ 59 ∧ (59 : Int32) ≤ 126) (by show T5.1 < 60; omega)] at h6
  obtain ⟨T6, eT6⟩ : ∃ z : Tx, z = apT T5 59 := ⟨_, rfl⟩
  obtain ⟨a6, R6, -⟩ := h6
  have O6 : OkY (withT σ T6) := by
    have := typ_ok (v := 59) O5
    rw [typY_in (σ := (withT σ T5)) (by decide : (32 : Int32) ≤ 59 ∧ (59 : Int32) ≤ 126) (by show T5.1 < 60; omega)] at this
    rw [eT6]; exact this
  replace R6 : RC M6 (withT σ T6) := by rw [eT6]; exact R6
  have l6 : T6.1 = σ.2.2.2.1 + 6 := by rw [eT6]; show T5.1 + 1 = _; omega
  replace a6 : r6 = nI (σ.2.2.2.1 + 6) := by rw [a6]; show nI (T5.1 + 1) = _; rw [l5]
  refine wl_if_le C 93 dL_corner_86 (by decide) (fun c_86 => absurd c_86 (by rw [a6]; exact nI_nle (by omega) (by omega))) (fun c_86 => ?_)
  refine wl_iconst (v := 1) C dL_corner_89 (by decide) ?_
  refine wl_goto C 94 dL_corner_90 (by decide) ?_
  exact hret _ 94 _ 1 (rfl) dL_corner_94 (by rw [show coE σ.2.2.2 px py true = T6 by rw [eT6, eT5, eT4, eT3, eT2, eT1]; rfl]; exact ⟨rfl, R6, O6⟩)

set_option maxHeartbeats 4000000 in
set_option maxRecDepth 100000 in
theorem c_L_corner0 (l : Launch) (G : Gw) (M : Mem) (σ : Sy) (hR : RC M σ) (hO : OkY σ) (px py : Nat) (hx : px < 100) (hy : py < 100) (hl : σ.2.2.2.1 + 6 ≤ 60) : Ci l G yL_corner wsL_corner 2 42 [.ref (G.2.2.1 224), .int (nI px), .int (nI py), .int 0] M (fun (r : Int32) (M2 : Mem) => r = 1 ∧ RC M2 (withT σ (coE σ.2.2.2 px py false)) ∧ OkY (withT σ (coE σ.2.2.2 px py false))) := by
  refine Ci.of (cc := cL_corner) (maxL := 5) (ret := (some .boolean)) (by decide +kernel) rfl (Nat.le_of_ble_eq_true rfl) ?_
  intro x sz hl0 hr C
  subst hl0
  have C : CX x G (AA G sz) RL cL_corner 5 wsL_corner 2 42 0 0 := C
  have hret : ∀ (M0 : Mem) (pc0 : Nat) (L0 : List (Nat × Value)) (rv0 : Int32), narrow .boolean (.int rv0) = .int rv0 → decode cL_corner pc0 = .ok (.ireturn, 1) → (fun (r : Int32) (M2 : Mem) => r = 1 ∧ RC M2 (withT σ (coE σ.2.2.2 px py false)) ∧ OkY (withT σ (coE σ.2.2.2 px py false))) rv0 M0 → WL x G (AA G sz) 5 0 0 (xQ x (va_Qi (fun (r : Int32) (M2 : Mem) => r = 1 ∧ RC M2 (withT σ (coE σ.2.2.2 px py false)) ∧ OkY (withT σ (coE σ.2.2.2 px py false))) (WE G) (AA G sz)) (AA G sz)) M0 pc0 L0 [.int rv0] := fun M0 pc0 L0 rv0 hn hd hp => wl_zret (post := (fun (r : Int32) (M2 : Mem) => r = 1 ∧ RC M2 (withT σ (coE σ.2.2.2 px py false)) ∧ OkY (withT σ (coE σ.2.2.2 px py false)))) C hr hn hd hp
  show WL x G (AA G sz) 5 0 0 (xQ x (va_Qi (fun (r : Int32) (M2 : Mem) => r = 1 ∧ RC M2 (withT σ (coE σ.2.2.2 px py false)) ∧ OkY (withT σ (coE σ.2.2.2 px py false))) (WE G) (AA G sz)) (AA G sz)) M 0 [(0, .ref (G.2.2.1 224)), (1, .int (nI px)), (2, .int (nI py)), (3, .int 0)] []
  generalize (xQ x (va_Qi (fun (r : Int32) (M2 : Mem) => r = 1 ∧ RC M2 (withT σ (coE σ.2.2.2 px py false)) ∧ OkY (withT σ (coE σ.2.2.2 px py false))) (WE G) (AA G sz)) (AA G sz)) = QQ at hret ⊢
  refine wl_aload_n C 0 dL_corner_0 rfl rfl ?_
  refine wl_bipush (v := nI 48) C dL_corner_1 (by decide) ?_
  refine wl_iload_n C 1 dL_corner_3 rfl rfl ?_
  refine wl_bipush (v := nI 10) C dL_corner_4 (by decide) ?_
  refine wl_idiv C dL_corner_6 (by decide) ?_
  refine wl_eqi (b := nI (px / 10)) (pk_div (by omega) (by decide) (by decide)) ?_
  refine wl_iadd C dL_corner_7 ?_
  refine wl_eqi (b := nI (48 + px / 10)) (nI_add 48 (px / 10)) ?_
  refine wl_callVi (i := 224) (n := 1) C [.int (nI (48 + px / 10))] [] (c_X4_type _ G M σ hR hO (nI (48 + px / 10))) gL_corner_X4_type rfl (by decide +kernel) (by decide) (by decide) (kd_lt (k := 4) (by decide : kd 224 = 4) (by decide)) (cell_k (k := 4) (by decide : kd 224 = 4)) rfl rfl rfl (Nat.le_of_ble_eq_true rfl) dL_corner_8 (fun r1 M1 h1 => ?_)
  rw [typY_in (σ := σ) (nI48 (by omega)) (by show σ.2.2.2.1 < 60; omega)] at h1
  obtain ⟨T1, eT1⟩ : ∃ z : Tx, z = apT σ.2.2.2 (nI (48 + px / 10)) := ⟨_, rfl⟩
  obtain ⟨a1, R1, -⟩ := h1
  have O1 : OkY (withT σ T1) := by
    have := typ_ok (v := nI (48 + px / 10)) hO
    rw [typY_in (σ := σ) (nI48 (by omega)) (by show σ.2.2.2.1 < 60; omega)] at this
    rw [eT1]; exact this
  replace R1 : RC M1 (withT σ T1) := by rw [eT1]; exact R1
  have l1 : T1.1 = σ.2.2.2.1 + 1 := by rw [eT1]; show σ.2.2.2.1 + 1 = _; omega
  replace a1 : r1 = nI (σ.2.2.2.1 + 1) := a1
  refine wl_if_le C 69 dL_corner_11 (by decide) (fun c_11 => absurd c_11 (by rw [a1]; exact nI_nle (by omega) (by omega))) (fun c_11 => ?_)
  refine wl_aload_n C 0 dL_corner_14 rfl rfl ?_
  refine wl_bipush (v := nI 48) C dL_corner_15 (by decide) ?_
  refine wl_iload_n C 1 dL_corner_17 rfl rfl ?_
  refine wl_bipush (v := nI 10) C dL_corner_18 (by decide) ?_
  refine wl_irem C dL_corner_20 (by decide) ?_
  refine wl_eqi (b := nI (px % 10)) (pk_rem (by omega) (by decide) (by decide)) ?_
  refine wl_iadd C dL_corner_21 ?_
  refine wl_eqi (b := nI (48 + px % 10)) (nI_add 48 (px % 10)) ?_
  refine wl_callVi (i := 224) (n := 1) C [.int (nI (48 + px % 10))] [] (c_X4_type _ G M1 (withT σ T1) R1 O1 (nI (48 + px % 10))) gL_corner_X4_type rfl (by decide +kernel) (by decide) (by decide) (kd_lt (k := 4) (by decide : kd 224 = 4) (by decide)) (cell_k (k := 4) (by decide : kd 224 = 4)) rfl rfl rfl (Nat.le_of_ble_eq_true rfl) dL_corner_22 (fun r2 M2 h2 => ?_)
  rw [typY_in (σ := (withT σ T1)) (nI48 (by omega)) (by show T1.1 < 60; omega)] at h2
  obtain ⟨T2, eT2⟩ : ∃ z : Tx, z = apT T1 (nI (48 + px % 10)) := ⟨_, rfl⟩
  obtain ⟨a2, R2, -⟩ := h2
  have O2 : OkY (withT σ T2) := by
    have := typ_ok (v := nI (48 + px % 10)) O1
    rw [typY_in (σ := (withT σ T1)) (nI48 (by omega)) (by show T1.1 < 60; omega)] at this
    rw [eT2]; exact this
  replace R2 : RC M2 (withT σ T2) := by rw [eT2]; exact R2
  have l2 : T2.1 = σ.2.2.2.1 + 2 := by rw [eT2]; show T1.1 + 1 = _; omega
  replace a2 : r2 = nI (σ.2.2.2.1 + 2) := by rw [a2]; show nI (T1.1 + 1) = _; rw [l1]
  refine wl_if_le C 69 dL_corner_25 (by decide) (fun c_25 => absurd c_25 (by rw [a2]; exact nI_nle (by omega) (by omega))) (fun c_25 => ?_)
  refine wl_aload_n C 0 dL_corner_28 rfl rfl ?_
  refine wl_bipush (v := 44) C dL_corner_29 (by decide) ?_
  refine wl_callVi (i := 224) (n := 1) C [.int 44] [] (c_X4_type _ G M2 (withT σ T2) R2 O2 44) gL_corner_X4_type rfl (by decide +kernel) (by decide) (by decide) (kd_lt (k := 4) (by decide : kd 224 = 4) (by decide)) (cell_k (k := 4) (by decide : kd 224 = 4)) rfl rfl rfl (Nat.le_of_ble_eq_true rfl) dL_corner_31 (fun r3 M3 h3 => ?_)
  rw [typY_in (σ := (withT σ T2)) (by decide : (32 : Int32) ≤ 44 ∧ (44 : Int32) ≤ 126) (by show T2.1 < 60; omega)] at h3
  obtain ⟨T3, eT3⟩ : ∃ z : Tx, z = apT T2 44 := ⟨_, rfl⟩
  obtain ⟨a3, R3, -⟩ := h3
  have O3 : OkY (withT σ T3) := by
    have := typ_ok (v := 44) O2
    rw [typY_in (σ := (withT σ T2)) (by decide : (32 : Int32) ≤ 44 ∧ (44 : Int32) ≤ 126) (by show T2.1 < 60; omega)] at this
    rw [eT3]; exact this
  replace R3 : RC M3 (withT σ T3) := by rw [eT3]; exact R3
  have l3 : T3.1 = σ.2.2.2.1 + 3 := by rw [eT3]; show T2.1 + 1 = _; omega
  replace a3 : r3 = nI (σ.2.2.2.1 + 3) := by rw [a3]; show nI (T2.1 + 1) = _; rw [l2]
  refine wl_if_le C 69 dL_corner_34 (by decide) (fun c_34 => absurd c_34 (by rw [a3]; exact nI_nle (by omega) (by omega))) (fun c_34 => ?_)
  refine wl_aload_n C 0 dL_corner_37 rfl rfl ?_
  refine wl_bipush (v := nI 48) C dL_corner_38 (by decide) ?_
  refine wl_iload_n C 2 dL_corner_40 rfl rfl ?_
  refine wl_bipush (v := nI 10) C dL_corner_41 (by decide) ?_
  refine wl_idiv C dL_corner_43 (by decide) ?_
  refine wl_eqi (b := nI (py / 10)) (pk_div (by omega) (by decide) (by decide)) ?_
  refine wl_iadd C dL_corner_44 ?_
  refine wl_eqi (b := nI (48 + py / 10)) (nI_add 48 (py / 10)) ?_
  refine wl_callVi (i := 224) (n := 1) C [.int (nI (48 + py / 10))] [] (c_X4_type _ G M3 (withT σ T3) R3 O3 (nI (48 + py / 10))) gL_corner_X4_type rfl (by decide +kernel) (by decide) (by decide) (kd_lt (k := 4) (by decide : kd 224 = 4) (by decide)) (cell_k (k := 4) (by decide : kd 224 = 4)) rfl rfl rfl (Nat.le_of_ble_eq_true rfl) dL_corner_45 (fun r4 M4 h4 => ?_)
  rw [typY_in (σ := (withT σ T3)) (nI48 (by omega)) (by show T3.1 < 60; omega)] at h4
  obtain ⟨T4, eT4⟩ : ∃ z : Tx, z = apT T3 (nI (48 + py / 10)) := ⟨_, rfl⟩
  obtain ⟨a4, R4, -⟩ := h4
  have O4 : OkY (withT σ T4) := by
    have := typ_ok (v := nI (48 + py / 10)) O3
    rw [typY_in (σ := (withT σ T3)) (nI48 (by omega)) (by show T3.1 < 60; omega)] at this
    rw [eT4]; exact this
  replace R4 : RC M4 (withT σ T4) := by rw [eT4]; exact R4
  have l4 : T4.1 = σ.2.2.2.1 + 4 := by rw [eT4]; show T3.1 + 1 = _; omega
  replace a4 : r4 = nI (σ.2.2.2.1 + 4) := by rw [a4]; show nI (T3.1 + 1) = _; rw [l3]
  refine wl_if_le C 69 dL_corner_48 (by decide) (fun c_48 => absurd c_48 (by rw [a4]; exact nI_nle (by omega) (by omega))) (fun c_48 => ?_)
  refine wl_aload_n C 0 dL_corner_51 rfl rfl ?_
  refine wl_bipush (v := nI 48) C dL_corner_52 (by decide) ?_
  refine wl_iload_n C 2 dL_corner_54 rfl rfl ?_
  refine wl_bipush (v := nI 10) C dL_corner_55 (by decide) ?_
  refine wl_irem C dL_corner_57 (by decide) ?_
  refine wl_eqi (b := nI (py % 10)) (pk_rem (by omega) (by decide) (by decide)) ?_
  refine wl_iadd C dL_corner_58 ?_
  refine wl_eqi (b := nI (48 + py % 10)) (nI_add 48 (py % 10)) ?_
  refine wl_callVi (i := 224) (n := 1) C [.int (nI (48 + py % 10))] [] (c_X4_type _ G M4 (withT σ T4) R4 O4 (nI (48 + py % 10))) gL_corner_X4_type rfl (by decide +kernel) (by decide) (by decide) (kd_lt (k := 4) (by decide : kd 224 = 4) (by decide)) (cell_k (k := 4) (by decide : kd 224 = 4)) rfl rfl rfl (Nat.le_of_ble_eq_true rfl) dL_corner_59 (fun r5 M5 h5 => ?_)
  rw [typY_in (σ := (withT σ T4)) (nI48 (by omega)) (by show T4.1 < 60; omega)] at h5
  obtain ⟨T5, eT5⟩ : ∃ z : Tx, z = apT T4 (nI (48 + py % 10)) := ⟨_, rfl⟩
  obtain ⟨a5, R5, -⟩ := h5
  have O5 : OkY (withT σ T5) := by
    have := typ_ok (v := nI (48 + py % 10)) O4
    rw [typY_in (σ := (withT σ T4)) (nI48 (by omega)) (by show T4.1 < 60; omega)] at this
    rw [eT5]; exact this
  replace R5 : RC M5 (withT σ T5) := by rw [eT5]; exact R5
  have l5 : T5.1 = σ.2.2.2.1 + 5 := by rw [eT5]; show T4.1 + 1 = _; omega
  replace a5 : r5 = nI (σ.2.2.2.1 + 5) := by rw [a5]; show nI (T4.1 + 1) = _; rw [l4]
  refine wl_if_le C 69 dL_corner_62 (by decide) (fun c_62 => absurd c_62 (by rw [a5]; exact nI_nle (by omega) (by omega))) (fun c_62 => ?_)
  refine wl_iconst (v := 1) C dL_corner_65 (by decide) ?_
  refine wl_goto C 70 dL_corner_66 (by decide) ?_
  refine wl_istore (L' := [(4, .int 1), (0, .ref (G.2.2.1 224)), (1, .int (nI px)), (2, .int (nI py)), (3, .int 0)]) C dL_corner_70 (by decide) rfl ?_
  refine wl_iload C 0 dL_corner_72 rfl ?_
  refine wl_if_eq C 93 dL_corner_74 (by decide) (fun c_74 => absurd c_74 (by decide)) (fun c_74 => ?_)
  refine wl_iload_n C 4 dL_corner_77 rfl rfl ?_
  refine wl_if_eq C 89 dL_corner_78 (by decide) (fun c_78 => ?_) (fun c_78 => absurd c_78 (by decide))
  refine wl_iconst (v := 1) C dL_corner_89 (by decide) ?_
  refine wl_goto C 94 dL_corner_90 (by decide) ?_
  exact hret _ 94 _ 1 (rfl) dL_corner_94 (by rw [show coE σ.2.2.2 px py false = T5 by rw [eT5, eT4, eT3, eT2, eT1]; rfl]; exact ⟨rfl, R5, O5⟩)

theorem c_L_cell (l : Launch) (G : Gw) (M : Mem) (b n : Nat) (xs : Nat → Int32) (k : Nat) (hk : k < 3000) (hn : n < 3000) : ∀ sz, Met l yL_cell wsL_cell (Rm 0 0) (va_Pc [.ref b, .int (nI k)] (WBS G M b n xs sz)) (va_Qi (fun (_ : Int32) (M' : Mem) => M' = M) (WE G) (AA G sz)) 0 0 (AA G sz) := by
  intro sz
  refine Met.ofW (cc := cL_cell) (maxL := 2) (ret := some .int) (by decide +kernel) rfl ?_
  intro p e s m args below meth c s₁ B hml hv
  obtain ⟨rfl, ⟨hsz, hP, hK, hD0, hST, hNW⟩, hX, hbl, hbA⟩ := hv
  have hts := atoms_spec (ws := wsL_cell) B.pre
  have hown : s.vm.findClass yL_cell.cls = some m.cls := findClass_of_methodNamed B.named
  have hAp := (Ap.of hD0).self (G := G) sz
  have hAu : ∀ q, s.heap.size ≤ q → AA G sz q := fun q hq => Or.inr (by rw [← hsz]; exact hq)
  obtain ⟨x, hxe⟩ : ∃ x : Cn, x = (p, l, e, Rm 0 0, s, m, ([.ref b, .int (nI k)] : List Value).toArray, below, meth, c) := ⟨_, rfl⟩
  have C : CX x G (AA G sz) RL cL_cell 2 wsL_cell 0 0 0 0 := by
    rw [hxe]
    exact ⟨B.exec, B.bytes, hml, hown, hts, hK, hAp, hAu, hST, B.notSynchronized, hNW, Nat.le_refl _, Nat.le_refl _, Nat.le_refl _, Nat.le_refl _⟩
  have hX1 : va_X b n xs (xS x) (xS x).heap := by rw [hxe]; exact hX
  have hbl1 : b < (xS x).heap.size := by rw [hxe]; show b < s.heap.size; rw [hsz]; exact hbl
  have hr : xRet x (some .int) := by rw [hxe]; exact B.returns
  have cn7 : Jvm.Cond.constant RL 7 (1812433253) ∈ wsL_cell := by decide +kernel
  have main : WL x G (AA G sz) 2 0 0 (xQ x (va_Qi (fun (_ : Int32) (M' : Mem) => M' = M) (WE G) (AA G sz)) (AA G sz)) M 0 [(0, .ref b), (1, .int (nI k))] [] := by
    have hret : ∀ (L0 : List (Nat × Value)) (v : Int32), WL x G (AA G sz) 2 0 0 (xQ x (va_Qi (fun (_ : Int32) (M' : Mem) => M' = M) (WE G) (AA G sz)) (AA G sz)) M 20 L0 [.int v] := fun L0 v => wl_iret (post := fun (_ : Int32) (M' : Mem) => M' = M) C hr dL_cell_20 rfl
    generalize xQ x (va_Qi (fun (_ : Int32) (M' : Mem) => M' = M) (WE G) (AA G sz)) (AA G sz) = QQ at hret ⊢
    refine wl_iload_n C 1 dL_cell_0 rfl rfl ?_
    refine wl_aload_n C 0 dL_cell_1 rfl rfl ?_
    refine wl_slen C hX1 hbl1 hbA dL_cell_2 ?_
    refine wl_icmp_geN C (a := k) (b := n) (by omega) (by omega) 12 dL_cell_3 (by decide) (fun c3 => ?_) (fun c3 => ?_)
    · refine wl_ldc C cn7 dL_cell_12 ?_
      refine wl_iload_n C 1 dL_cell_14 rfl rfl ?_
      refine wl_sipush (v := 419) C dL_cell_15 (by decide) ?_
      refine wl_iadd C dL_cell_18 ?_
      refine wl_imul C dL_cell_19 ?_
      exact hret _ _
    · refine wl_aload_n C 0 dL_cell_6 rfl rfl ?_
      refine wl_iload_n C 1 dL_cell_7 rfl rfl ?_
      refine wl_sld C hX1 hbl1 hbA (j := k) (by omega) (by omega) dL_cell_8 ?_
      refine wl_goto C 20 dL_cell_9 (by decide) ?_
      exact hret _ _
  rw [hxe] at main
  rw [lg_entry_eq]
  exact main _ s.heap [] (lv_entry [.ref b, .int (nI k)] (Nat.le_of_ble_eq_true rfl)) hP va_S.rf