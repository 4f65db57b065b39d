set_option maxHeartbeats 4000000 in
set_option maxRecDepth 100000 in
theorem c_X5_parts (l : Launch) (G : Gw) (M : Mem) (σ : Sy) (hR : RM M σ) (hO : OkY σ) (u v w : Int32) : Cp l G yX5_parts wsX5_parts 5 118 [.ref (G.2.2.1 232), .int u, .int v, .int w] M (parY σ u v w) := by
  refine Ci.of (cc := cX5_parts) (maxL := 9) (ret := (some .int)) (by decide +kernel) rfl (Nat.le_of_ble_eq_true rfl) ?_
  intro x sz hl0 hr C
  subst hl0
  have C : CX x G (AA G sz) RX5 cX5_parts 9 wsX5_parts 5 118 0 0 := C
  have hret : ∀ (M0 : Mem) (pc0 : Nat) (L0 : List (Nat × Value)) (rv0 : Int32), decode cX5_parts pc0 = .ok (.ireturn, 1) → (fun (r : Int32) (M' : Mem) => r = parY σ u v w ∧ M' = M) rv0 M0 → WL x G (AA G sz) 9 0 0 (xQ x (va_Qi (fun (r : Int32) (M' : Mem) => r = parY σ u v w ∧ M' = M) (WE G) (AA G sz)) (AA G sz)) M0 pc0 L0 [.int rv0] := fun M0 pc0 L0 rv0 hd hp => wl_iret (post := (fun (r : Int32) (M' : Mem) => r = parY σ u v w ∧ M' = M)) C hr hd hp
  show WL x G (AA G sz) 9 0 0 (xQ x (va_Qi (fun (r : Int32) (M' : Mem) => r = parY σ u v w ∧ M' = M) (WE G) (AA G sz)) (AA G sz)) M 0 [(0, .ref (G.2.2.1 232)), (1, .int u), (2, .int v), (3, .int w)] []
  generalize (xQ x (va_Qi (fun (r : Int32) (M' : Mem) => r = parY σ u v w ∧ M' = M) (WE G) (AA G sz)) (AA G sz)) = QQ at hret ⊢
  have cn120 : Jvm.Cond.constant RX5 120 (-1000001) ∈ wsX5_parts := by decide +kernel
  have cn161 : Jvm.Cond.constantLong RX5 161 (2) ∈ wsX5_parts := by decide +kernel
  have hs := hR.1
  have hW := hO.1.1
  have h8 := hs.r
  refine wl_aload_n C 0 dX5_parts_0 rfl rfl ?_
  refine wl_iload_n C 1 dX5_parts_1 rfl rfl ?_
  refine wl_callVp (i := 232) (n := 1) C [.int u] [] (c_X5_isBody _ G M σ.1 hs u) gX5_parts_X5_isBody rfl (by decide +kernel) (by decide) (by decide) (kd_lt (k := 5) (by decide) (by decide)) (cell_k (k := 5) (by decide)) rfl rfl rfl (Nat.le_of_ble_eq_true rfl) dX5_parts_2 ?_
  refine wl_if_eqB C 33 dX5_parts_5 (by decide) (fun c_5 => ?_) (fun c_5 => ?_)
  · refine wl_ldc C cn120 dX5_parts_33 ?_
    exact hret _ 35 _ (-1000001) dX5_parts_35 (⟨by unfold parY; rw [if_neg (fun q => by first | exact bcf q.1 c_5 | exact bcf q.2.1 c_13 | exact q.2.2.1 c_18 | exact bcf (Bool.and_eq_true_iff.mpr ⟨decide_eq_true q.2.2.2.1, decide_eq_true q.2.2.2.2⟩) c_30)], rfl⟩)
  · refine wl_aload_n C 0 dX5_parts_8 rfl rfl ?_
    refine wl_iload_n C 2 dX5_parts_9 rfl rfl ?_
    refine wl_callVp (i := 232) (n := 1) C [.int v] [] (c_X5_isBody _ G M σ.1 hs v) gX5_parts_X5_isBody rfl (by decide +kernel) (by decide) (by decide) (kd_lt (k := 5) (by decide) (by decide)) (cell_k (k := 5) (by decide)) rfl rfl rfl (Nat.le_of_ble_eq_true rfl) dX5_parts_10 ?_
    refine wl_if_eqB C 33 dX5_parts_13 (by decide) (fun c_13 => ?_) (fun c_13 => ?_)
    · refine wl_ldc C cn120 dX5_parts_33 ?_
      exact hret _ 35 _ (-1000001) dX5_parts_35 (⟨by unfold parY; rw [if_neg (fun q => by first | exact bcf q.1 c_5 | exact bcf q.2.1 c_13 | exact q.2.2.1 c_18 | exact bcf (Bool.and_eq_true_iff.mpr ⟨decide_eq_true q.2.2.2.1, decide_eq_true q.2.2.2.2⟩) c_30)], rfl⟩)
    · refine wl_iload_n C 1 dX5_parts_16 rfl rfl ?_
      refine wl_iload_n C 2 dX5_parts_17 rfl rfl ?_
      refine wl_icmp_eq C 33 dX5_parts_18 (by decide) (fun c_18 => ?_) (fun c_18 => ?_)
      · refine wl_ldc C cn120 dX5_parts_33 ?_
        exact hret _ 35 _ (-1000001) dX5_parts_35 (⟨by unfold parY; rw [if_neg (fun q => by first | exact bcf q.1 c_5 | exact bcf q.2.1 c_13 | exact q.2.2.1 c_18 | exact bcf (Bool.and_eq_true_iff.mpr ⟨decide_eq_true q.2.2.2.1, decide_eq_true q.2.2.2.2⟩) c_30)], rfl⟩)
      · refine wl_iload_n C 3 dX5_parts_21 rfl rfl ?_
        refine wl_i2l (v := w.toInt64) C dX5_parts_22 (rfl) ?_
        refine wl_lconst (v := 0) C dX5_parts_23 (by decide) ?_
        refine wl_ldc2 C cn161 dX5_parts_24 ?_
        refine wl_callSp (n := 3) C [.long w.toInt64, .long 0, .long 2] [] (c_X5_in _ G M w.toInt64 0 2) gX5_parts_X5_in rfl (by decide +kernel) (by decide) (by decide) rfl rfl (Nat.le_of_ble_eq_true rfl) dX5_parts_27 ?_
        refine wl_eqi (b := bi (decide (nI 0 ≤ w) && decide (w ≤ nI 2))) (by rw [inL_num (a := nI 0) (b := nI 2) (by decide) (by decide)]) ?_
        refine wl_if_neB C 36 dX5_parts_30 (by decide) (fun c_30 => ?_) (fun c_30 => ?_)
        · obtain ⟨k1, hk1, hv1, hkc1⟩ := hasB_k c_5 (by omega)
          obtain ⟨k2, hk2, hv2, hkc2⟩ := hasB_k c_13 (by omega)
          have hne : k1 ≠ k2 := fun z => c_18 (by rw [hv1, hv2, z])
          have hg : 0 ≤ w ∧ w ≤ 2 := ⟨of_decide_eq_true (Bool.and_eq_true_iff.mp c_30).1, of_decide_eq_true (Bool.and_eq_true_iff.mp c_30).2⟩
          have hp0 : parY σ u v w = parV (σ.1.2.2.2 k1) (σ.1.2.2.2 k2) w := by unfold parY; rw [if_pos ⟨c_5, c_13, c_18, hg⟩, hkc1, hkc2]
          refine wl_aload_n C 0 dX5_parts_36 rfl rfl ?_
          have h91 : ∀ (a b i : Nat) (t4 : Int32), a < σ.1.1 → b < σ.1.1 → pSep (σ.1.2.2.2 a) (σ.1.2.2.2 b) 0 = some i → parV (σ.1.2.2.2 k1) (σ.1.2.2.2 k2) w = (if w = 0 then nI i + (if t4 = -1 then 10 else 0) else if w = 1 then nI (pNear (σ.1.2.2.2 a) i (σ.1.2.2.2 b)) else -(pReach (σ.1.2.2.2 a) i (σ.1.2.2.2 b))) → WL x G (AA G sz) 9 0 0 QQ M 91 [(0, .ref (G.2.2.1 232)), (3, .int w), (4, .int t4), (5, .int (nI a)), (6, .int (nI b)), (7, .int (nI i))] [] := by
            intro a b i t4 ha hb hi hpv
            have hi2 := (fsT_some hi).1
            have q6 := (hs.2.2.2.2 a ha).2.1
            have q7 := (hs.2.2.2.2 b hb).2.1
            have q8 := (hW.2 b hb).1
            have q9 : pNear (σ.1.2.2.2 a) i (σ.1.2.2.2 b) ≤ (σ.1.2.2.2 b).1 - 1 := amT_le _ _
            refine wl_aload_n C 0 dX5_parts_91 rfl rfl ?_
            refine wl_iload C 3 dX5_parts_92 rfl ?_
            refine wl_iload C 5 dX5_parts_94 rfl ?_
            refine wl_iload C 4 dX5_parts_96 rfl ?_
            refine wl_callVp (i := 232) (n := 3) C [.int (nI a), .int (nI i), .int (nI b)] [] (c_X5_nearest _ G M a b (σ.1.2.2.2 a) (σ.1.2.2.2 b) (by omega) (by omega) (hs.2.2.2.2 a ha) (hs.2.2.2.2 b hb) (by have := (hW.2 a (by omega)).1; omega) (by have := (hW.2 b (by omega)).1; omega) i hi2) gX5_parts_X5_nearest rfl (by decide +kernel) (by decide) (by decide) (kd_lt (k := 5) (by decide) (by decide)) (cell_k (k := 5) (by decide)) rfl rfl rfl (Nat.le_of_ble_eq_true rfl) dX5_parts_98 ?_
            refine wl_istore (L' := [(8, .int (nI (pNear (σ.1.2.2.2 a) i (σ.1.2.2.2 b)))), (0, .ref (G.2.2.1 232)), (3, .int w), (4, .int t4), (5, .int (nI a)), (6, .int (nI b)), (7, .int (nI i))]) C dX5_parts_101 (by decide) rfl ?_
            refine wl_iload_n C 2 dX5_parts_103 rfl rfl ?_
            refine wl_if_ne C 126 dX5_parts_104 (by decide) (fun c_104 => ?_) (fun c_104 => ?_)
            · refine wl_iload_n C 2 dX5_parts_126 rfl rfl ?_
              refine wl_iconst (v := 1) C dX5_parts_127 (by decide) ?_
              refine wl_icmp_ne C 136 dX5_parts_128 (by decide) (fun c_128 => ?_) (fun c_128 => ?_)
              · refine wl_aload_n C 1 dX5_parts_136 rfl rfl ?_
                refine wl_iload C 4 dX5_parts_137 rfl ?_
                refine wl_iload C 6 dX5_parts_139 rfl ?_
                refine wl_iload C 5 dX5_parts_141 rfl ?_
                refine wl_iload C 0 dX5_parts_143 rfl ?_
                refine wl_callVp (i := 232) (n := 4) C [.int (nI a), .int (nI i), .int (nI b), .int (nI (pNear (σ.1.2.2.2 a) i (σ.1.2.2.2 b)))] [] (c_X5_side _ G M a b (σ.1.2.2.2 a) (σ.1.2.2.2 b) (by omega) (by omega) (hs.2.2.2.2 a ha) (hs.2.2.2.2 b hb) (by have := (hW.2 a (by omega)).1; omega) (by have := (hW.2 b (by omega)).1; omega) i (pNear (σ.1.2.2.2 a) i (σ.1.2.2.2 b)) (by omega) (by omega)) gX5_parts_X5_side rfl (by decide +kernel) (by decide) (by decide) (kd_lt (k := 5) (by decide) (by decide)) (cell_k (k := 5) (by decide)) rfl rfl rfl (Nat.le_of_ble_eq_true rfl) dX5_parts_145 ?_
                refine wl_eqi (b := pReach (σ.1.2.2.2 a) i (σ.1.2.2.2 b)) ((sdV_pC hi2 (by omega)).trans (amT_mx _ _)) ?_
                refine wl_ineg C dX5_parts_148 ?_
                exact hret _ 149 _ (-(pReach (σ.1.2.2.2 a) i (σ.1.2.2.2 b))) dX5_parts_149 (⟨by rw [hp0, hpv, if_neg c_104, if_neg c_128], rfl⟩)
              · refine wl_iload C 0 dX5_parts_131 rfl ?_
                refine wl_goto C 149 dX5_parts_133 (by decide) ?_
                exact hret _ 149 _ (nI (pNear (σ.1.2.2.2 a) i (σ.1.2.2.2 b))) dX5_parts_149 (⟨by rw [hp0, hpv, if_neg c_104, if_pos c_128], rfl⟩)
            · refine wl_iload C 3 dX5_parts_107 rfl ?_
              refine wl_iconst (v := (-1)) C dX5_parts_109 (by decide) ?_
              refine wl_icmp_eq C 118 dX5_parts_110 (by decide) (fun c_110 => ?_) (fun c_110 => ?_)
              · refine wl_iload C 6 dX5_parts_118 rfl ?_
                refine wl_bipush (v := 10) C dX5_parts_120 (by decide) ?_
                refine wl_iadd C dX5_parts_122 ?_
                refine wl_goto C 149 dX5_parts_123 (by decide) ?_
                exact hret _ 149 _ ((nI i) + 10) dX5_parts_149 (⟨by rw [hp0, hpv, if_pos c_104, if_pos c_110], rfl⟩)
              · refine wl_iload C 6 dX5_parts_113 rfl ?_
                refine wl_goto C 149 dX5_parts_115 (by decide) ?_
                exact hret _ 149 _ (nI i) dX5_parts_149 (⟨by rw [hp0, hpv, if_pos c_104, if_neg c_110, Int32.add_zero], rfl⟩)
          refine wl_iload_n C 1 dX5_parts_37 rfl rfl ?_
          refine wl_eqi (b := nI k1) (hv1) ?_
          refine wl_iload_n C 2 dX5_parts_38 rfl rfl ?_
          refine wl_eqi (b := nI k2) (hv2) ?_
          refine wl_iconst (v := 0) C dX5_parts_39 (by decide) ?_
          refine wl_callVp (i := 232) (n := 3) C [.int (nI k1), .int (nI k2), .int 0] [] (c_X5_parting _ G M k1 k2 (σ.1.2.2.2 k1) (σ.1.2.2.2 k2) (by omega) (by omega) (hs.2.2.2.2 k1 (by omega)) (hs.2.2.2.2 k2 (by omega)) (by have := (hW.2 k1 (by omega)).1; omega) (by have := (hW.2 k2 (by omega)).1; omega) 0) gX5_parts_X5_parting rfl (by decide +kernel) (by decide) (by decide) (kd_lt (k := 5) (by decide) (by decide)) (cell_k (k := 5) (by decide)) rfl rfl rfl (Nat.le_of_ble_eq_true rfl) dX5_parts_40 ?_
          refine wl_istore (L' := [(4, .int (opI (pSep (σ.1.2.2.2 k1) (σ.1.2.2.2 k2) 0))), (0, .ref (G.2.2.1 232)), (1, .int u), (2, .int v), (3, .int w)]) C dX5_parts_43 (by decide) rfl ?_
          refine wl_iload C 0 dX5_parts_45 rfl ?_
          refine wl_iconst (v := (-1)) C dX5_parts_47 (by decide) ?_
          refine wl_icmp_eq C 55 dX5_parts_48 (by decide) (fun c_48 => ?_) (fun c_48 => ?_)
          · refine wl_iload_n C 3 dX5_parts_55 rfl rfl ?_
            refine wl_eqi (b := nI k2) (hv2) ?_
            refine wl_istore (L' := [(5, .int (nI k2)), (4, .int (opI (pSep (σ.1.2.2.2 k1) (σ.1.2.2.2 k2) 0))), (0, .ref (G.2.2.1 232)), (1, .int u), (2, .int v), (3, .int w)]) C dX5_parts_56 (by decide) rfl ?_
            refine wl_iload C 1 dX5_parts_58 rfl ?_
            refine wl_iconst (v := (-1)) C dX5_parts_60 (by decide) ?_
            refine wl_icmp_eq C 68 dX5_parts_61 (by decide) (fun c_61 => ?_) (fun c_61 => ?_)
            · refine wl_iload_n C 3 dX5_parts_68 rfl rfl ?_
              refine wl_eqi (b := nI k1) (hv1) ?_
              refine wl_istore (L' := [(6, .int (nI k1)), (5, .int (nI k2)), (4, .int (opI (pSep (σ.1.2.2.2 k1) (σ.1.2.2.2 k2) 0))), (0, .ref (G.2.2.1 232)), (1, .int u), (2, .int v), (3, .int w)]) C dX5_parts_69 (by decide) rfl ?_
              refine wl_iload C 2 dX5_parts_71 rfl ?_
              refine wl_iconst (v := (-1)) C dX5_parts_73 (by decide) ?_
              refine wl_icmp_eq C 82 dX5_parts_74 (by decide) (fun c_74 => ?_) (fun c_74 => ?_)
              · refine wl_aload_n C 3 dX5_parts_82 rfl rfl ?_
                refine wl_iload_n C 5 dX5_parts_83 rfl rfl ?_
                refine wl_eqi (b := nI k2) (hv2) ?_
                refine wl_iload_n C 4 dX5_parts_84 rfl rfl ?_
                refine wl_eqi (b := nI k1) (hv1) ?_
                refine wl_iconst (v := 0) C dX5_parts_85 (by decide) ?_
                refine wl_callVp (i := 232) (n := 3) C [.int (nI k2), .int (nI k1), .int 0] [] (c_X5_parting _ G M k2 k1 (σ.1.2.2.2 k2) (σ.1.2.2.2 k1) (by omega) (by omega) (hs.2.2.2.2 k2 (by omega)) (hs.2.2.2.2 k1 (by omega)) (by have := (hW.2 k2 (by omega)).1; omega) (by have := (hW.2 k1 (by omega)).1; omega) 0) gX5_parts_X5_parting rfl (by decide +kernel) (by decide) (by decide) (kd_lt (k := 5) (by decide) (by decide)) (cell_k (k := 5) (by decide)) rfl rfl rfl (Nat.le_of_ble_eq_true rfl) dX5_parts_86 ?_
                refine wl_istore (L' := [(7, .int (opI (pSep (σ.1.2.2.2 k2) (σ.1.2.2.2 k1) 0))), (6, .int (nI k1)), (5, .int (nI k2)), (4, .int (opI (pSep (σ.1.2.2.2 k1) (σ.1.2.2.2 k2) 0))), (0, .ref (G.2.2.1 232)), (1, .int u), (2, .int v), (3, .int w)]) C dX5_parts_89 (by decide) rfl ?_
                refine wl_sub (L' := [(0, .ref (G.2.2.1 232)), (3, .int w), (4, .int (opI (pSep (σ.1.2.2.2 k1) (σ.1.2.2.2 k2) 0))), (5, .int (nI k2)), (6, .int (nI k1)), (7, .int (opI (pSep (σ.1.2.2.2 k2) (σ.1.2.2.2 k1) 0)))]) [4, 7, 3, 2, 1, 0] rfl ?_
                have hn1 := (opI_ne1 (sep_lt (hs.2.2.2.2 k1 hk1).2.1)).mp c_48
                obtain ⟨i2, hi2⟩ := parted hO.1 hk1 hk2 hne hn1
                rw [show opI (pSep (σ.1.2.2.2 k2) (σ.1.2.2.2 k1) 0) = nI i2 by rw [hi2]; rfl, c_48]
                exact h91 k2 k1 i2 (-1) hk2 hk1 hi2 (by unfold parV; rw [hn1, hi2, if_pos rfl])
              · refine wl_iload C 2 dX5_parts_77 rfl ?_
                refine wl_goto C 89 dX5_parts_79 (by decide) ?_
                refine wl_istore (L' := [(7, .int (opI (pSep (σ.1.2.2.2 k1) (σ.1.2.2.2 k2) 0))), (6, .int (nI k1)), (5, .int (nI k2)), (4, .int (opI (pSep (σ.1.2.2.2 k1) (σ.1.2.2.2 k2) 0))), (0, .ref (G.2.2.1 232)), (1, .int u), (2, .int v), (3, .int w)]) C dX5_parts_89 (by decide) rfl ?_
                refine wl_sub (L' := [(0, .ref (G.2.2.1 232)), (3, .int w), (4, .int (opI (pSep (σ.1.2.2.2 k1) (σ.1.2.2.2 k2) 0))), (5, .int (nI k2)), (6, .int (nI k1)), (7, .int (opI (pSep (σ.1.2.2.2 k1) (σ.1.2.2.2 k2) 0)))]) [4, 7, 3, 2, 1, 0] rfl ?_
                exact absurd ‹opI (pSep (σ.1.2.2.2 k1) (σ.1.2.2.2 k2) 0) = -1› ‹¬ opI (pSep (σ.1.2.2.2 k1) (σ.1.2.2.2 k2) 0) = -1›
            · refine wl_iload_n C 4 dX5_parts_64 rfl rfl ?_
              refine wl_eqi (b := nI k2) (hv2) ?_
              refine wl_goto C 69 dX5_parts_65 (by decide) ?_
              refine wl_istore (L' := [(6, .int (nI k2)), (5, .int (nI k2)), (4, .int (opI (pSep (σ.1.2.2.2 k1) (σ.1.2.2.2 k2) 0))), (0, .ref (G.2.2.1 232)), (1, .int u), (2, .int v), (3, .int w)]) C dX5_parts_69 (by decide) rfl ?_
              refine wl_iload C 2 dX5_parts_71 rfl ?_
              refine wl_iconst (v := (-1)) C dX5_parts_73 (by decide) ?_
              refine wl_icmp_eq C 82 dX5_parts_74 (by decide) (fun c_74 => ?_) (fun c_74 => ?_)
              · refine wl_aload_n C 3 dX5_parts_82 rfl rfl ?_
                refine wl_iload_n C 5 dX5_parts_83 rfl rfl ?_
                refine wl_eqi (b := nI k2) (hv2) ?_
                refine wl_iload_n C 4 dX5_parts_84 rfl rfl ?_
                refine wl_eqi (b := nI k1) (hv1) ?_
                refine wl_iconst (v := 0) C dX5_parts_85 (by decide) ?_
                refine wl_callVp (i := 232) (n := 3) C [.int (nI k2), .int (nI k1), .int 0] [] (c_X5_parting _ G M k2 k1 (σ.1.2.2.2 k2) (σ.1.2.2.2 k1) (by omega) (by omega) (hs.2.2.2.2 k2 (by omega)) (hs.2.2.2.2 k1 (by omega)) (by have := (hW.2 k2 (by omega)).1; omega) (by have := (hW.2 k1 (by omega)).1; omega) 0) gX5_parts_X5_parting rfl (by decide +kernel) (by decide) (by decide) (kd_lt (k := 5) (by decide) (by decide)) (cell_k (k := 5) (by decide)) rfl rfl rfl (Nat.le_of_ble_eq_true rfl) dX5_parts_86 ?_
                refine wl_istore (L' := [(7, .int (opI (pSep (σ.1.2.2.2 k2) (σ.1.2.2.2 k1) 0))), (6, .int (nI k2)), (5, .int (nI k2)), (4, .int (opI (pSep (σ.1.2.2.2 k1) (σ.1.2.2.2 k2) 0))), (0, .ref (G.2.2.1 232)), (1, .int u), (2, .int v), (3, .int w)]) C dX5_parts_89 (by decide) rfl ?_
                refine wl_sub (L' := [(0, .ref (G.2.2.1 232)), (3, .int w), (4, .int (opI (pSep (σ.1.2.2.2 k1) (σ.1.2.2.2 k2) 0))), (5, .int (nI k2)), (6, .int (nI k2)), (7, .int (opI (pSep (σ.1.2.2.2 k2) (σ.1.2.2.2 k1) 0)))]) [4, 7, 3, 2, 1, 0] rfl ?_
                exact absurd ‹opI (pSep (σ.1.2.2.2 k1) (σ.1.2.2.2 k2) 0) = -1› ‹¬ opI (pSep (σ.1.2.2.2 k1) (σ.1.2.2.2 k2) 0) = -1›
              · refine wl_iload C 2 dX5_parts_77 rfl ?_
                refine wl_goto C 89 dX5_parts_79 (by decide) ?_
                refine wl_istore (L' := [(7, .int (opI (pSep (σ.1.2.2.2 k1) (σ.1.2.2.2 k2) 0))), (6, .int (nI k2)), (5, .int (nI k2)), (4, .int (opI (pSep (σ.1.2.2.2 k1) (σ.1.2.2.2 k2) 0))), (0, .ref (G.2.2.1 232)), (1, .int u), (2, .int v), (3, .int w)]) C dX5_parts_89 (by decide) rfl ?_
                refine wl_sub (L' := [(0, .ref (G.2.2.1 232)), (3, .int w), (4, .int (opI (pSep (σ.1.2.2.2 k1) (σ.1.2.2.2 k2) 0))), (5, .int (nI k2)), (6, .int (nI k2)), (7, .int (opI (pSep (σ.1.2.2.2 k1) (σ.1.2.2.2 k2) 0)))]) [4, 7, 3, 2, 1, 0] rfl ?_
                exact absurd ‹opI (pSep (σ.1.2.2.2 k1) (σ.1.2.2.2 k2) 0) = -1› ‹¬ opI (pSep (σ.1.2.2.2 k1) (σ.1.2.2.2 k2) 0) = -1›
          · refine wl_iload_n C 2 dX5_parts_51 rfl rfl ?_
            refine wl_eqi (b := nI k1) (hv1) ?_
            refine wl_goto C 56 dX5_parts_52 (by decide) ?_
            refine wl_istore (L' := [(5, .int (nI k1)), (4, .int (opI (pSep (σ.1.2.2.2 k1) (σ.1.2.2.2 k2) 0))), (0, .ref (G.2.2.1 232)), (1, .int u), (2, .int v), (3, .int w)]) C dX5_parts_56 (by decide) rfl ?_
            refine wl_iload C 1 dX5_parts_58 rfl ?_
            refine wl_iconst (v := (-1)) C dX5_parts_60 (by decide) ?_
            refine wl_icmp_eq C 68 dX5_parts_61 (by decide) (fun c_61 => ?_) (fun c_61 => ?_)
            · refine wl_iload_n C 3 dX5_parts_68 rfl rfl ?_
              refine wl_eqi (b := nI k1) (hv1) ?_
              refine wl_istore (L' := [(6, .int (nI k1)), (5, .int (nI k1)), (4, .int (opI (pSep (σ.1.2.2.2 k1) (σ.1.2.2.2 k2) 0))), (0, .ref (G.2.2.1 232)), (1, .int u), (2, .int v), (3, .int w)]) C dX5_parts_69 (by decide) rfl ?_
              refine wl_iload C 2 dX5_parts_71 rfl ?_
              refine wl_iconst (v := (-1)) C dX5_parts_73 (by decide) ?_
              refine wl_icmp_eq C 82 dX5_parts_74 (by decide) (fun c_74 => ?_) (fun c_74 => ?_)
              · refine wl_aload_n C 3 dX5_parts_82 rfl rfl ?_
                refine wl_iload_n C 5 dX5_parts_83 rfl rfl ?_
                refine wl_eqi (b := nI k2) (hv2) ?_
                refine wl_iload_n C 4 dX5_parts_84 rfl rfl ?_
                refine wl_eqi (b := nI k1) (hv1) ?_
                refine wl_iconst (v := 0) C dX5_parts_85 (by decide) ?_
                refine wl_callVp (i := 232) (n := 3) C [.int (nI k2), .int (nI k1), .int 0] [] (c_X5_parting _ G M k2 k1 (σ.1.2.2.2 k2) (σ.1.2.2.2 k1) (by omega) (by omega) (hs.2.2.2.2 k2 (by omega)) (hs.2.2.2.2 k1 (by omega)) (by have := (hW.2 k2 (by omega)).1; omega) (by have := (hW.2 k1 (by omega)).1; omega) 0) gX5_parts_X5_parting rfl (by decide +kernel) (by decide) (by decide) (kd_lt (k := 5) (by decide) (by decide)) (cell_k (k := 5) (by decide)) rfl rfl rfl (Nat.le_of_ble_eq_true rfl) dX5_parts_86 ?_
                refine wl_istore (L' := [(7, .int (opI (pSep (σ.1.2.2.2 k2) (σ.1.2.2.2 k1) 0))), (6, .int (nI k1)), (5, .int (nI k1)), (4, .int (opI (pSep (σ.1.2.2.2 k1) (σ.1.2.2.2 k2) 0))), (0, .ref (G.2.2.1 232)), (1, .int u), (2, .int v), (3, .int w)]) C dX5_parts_89 (by decide) rfl ?_
                refine wl_sub (L' := [(0, .ref (G.2.2.1 232)), (3, .int w), (4, .int (opI (pSep (σ.1.2.2.2 k1) (σ.1.2.2.2 k2) 0))), (5, .int (nI k1)), (6, .int (nI k1)), (7, .int (opI (pSep (σ.1.2.2.2 k2) (σ.1.2.2.2 k1) 0)))]) [4, 7, 3, 2, 1, 0] rfl ?_
                exact absurd ‹opI (pSep (σ.1.2.2.2 k1) (σ.1.2.2.2 k2) 0) = -1› ‹¬ opI (pSep (σ.1.2.2.2 k1) (σ.1.2.2.2 k2) 0) = -1›
              · refine wl_iload C 2 dX5_parts_77 rfl ?_
                refine wl_goto C 89 dX5_parts_79 (by decide) ?_
                refine wl_istore (L' := [(7, .int (opI (pSep (σ.1.2.2.2 k1) (σ.1.2.2.2 k2) 0))), (6, .int (nI k1)), (5, .int (nI k1)), (4, .int (opI (pSep (σ.1.2.2.2 k1) (σ.1.2.2.2 k2) 0))), (0, .ref (G.2.2.1 232)), (1, .int u), (2, .int v), (3, .int w)]) C dX5_parts_89 (by decide) rfl ?_
                refine wl_sub (L' := [(0, .ref (G.2.2.1 232)), (3, .int w), (4, .int (opI (pSep (σ.1.2.2.2 k1) (σ.1.2.2.2 k2) 0))), (5, .int (nI k1)), (6, .int (nI k1)), (7, .int (opI (pSep (σ.1.2.2.2 k1) (σ.1.2.2.2 k2) 0)))]) [4, 7, 3, 2, 1, 0] rfl ?_
                exact absurd ‹opI (pSep (σ.1.2.2.2 k1) (σ.1.2.2.2 k2) 0) = -1› ‹¬ opI (pSep (σ.1.2.2.2 k1) (σ.1.2.2.2 k2) 0) = -1›
            · refine wl_iload_n C 4 dX5_parts_64 rfl rfl ?_
              refine wl_eqi (b := nI k2) (hv2) ?_
              refine wl_goto C 69 dX5_parts_65 (by decide) ?_
              refine wl_istore (L' := [(6, .int (nI k2)), (5, .int (nI k1)), (4, .int (opI (pSep (σ.1.2.2.2 k1) (σ.1.2.2.2 k2) 0))), (0, .ref (G.2.2.1 232)), (1, .int u), (2, .int v), (3, .int w)]) C dX5_parts_69 (by decide) rfl ?_
              refine wl_iload C 2 dX5_parts_71 rfl ?_
              refine wl_iconst (v := (-1)) C dX5_parts_73 (by decide) ?_
              refine wl_icmp_eq C 82 dX5_parts_74 (by decide) (fun c_74 => ?_) (fun c_74 => ?_)
              · refine wl_aload_n C 3 dX5_parts_82 rfl rfl ?_
                refine wl_iload_n C 5 dX5_parts_83 rfl rfl ?_
                refine wl_eqi (b := nI k2) (hv2) ?_
                refine wl_iload_n C 4 dX5_parts_84 rfl rfl ?_
                refine wl_eqi (b := nI k1) (hv1) ?_
                refine wl_iconst (v := 0) C dX5_parts_85 (by decide) ?_
                refine wl_callVp (i := 232) (n := 3) C [.int (nI k2), .int (nI k1), .int 0] [] (c_X5_parting _ G M k2 k1 (σ.1.2.2.2 k2) (σ.1.2.2.2 k1) (by omega) (by omega) (hs.2.2.2.2 k2 (by omega)) (hs.2.2.2.2 k1 (by omega)) (by have := (hW.2 k2 (by omega)).1; omega) (by have := (hW.2 k1 (by omega)).1; omega) 0) gX5_parts_X5_parting rfl (by decide +kernel) (by decide) (by decide) (kd_lt (k := 5) (by decide) (by decide)) (cell_k (k := 5) (by decide)) rfl rfl rfl (Nat.le_of_ble_eq_true rfl) dX5_parts_86 ?_
                refine wl_istore (L' := [(7, .int (opI (pSep (σ.1.2.2.2 k2) (σ.1.2.2.2 k1) 0))), (6, .int (nI k2)), (5, .int (nI k1)), (4, .int (opI (pSep (σ.1.2.2.2 k1) (σ.1.2.2.2 k2) 0))), (0, .ref (G.2.2.1 232)), (1, .int u), (2, .int v), (3, .int w)]) C dX5_parts_89 (by decide) rfl ?_
                refine wl_sub (L' := [(0, .ref (G.2.2.1 232)), (3, .int w), (4, .int (opI (pSep (σ.1.2.2.2 k1) (σ.1.2.2.2 k2) 0))), (5, .int (nI k1)), (6, .int (nI k2)), (7, .int (opI (pSep (σ.1.2.2.2 k2) (σ.1.2.2.2 k1) 0)))]) [4, 7, 3, 2, 1, 0] rfl ?_
                exact absurd ‹opI (pSep (σ.1.2.2.2 k1) (σ.1.2.2.2 k2) 0) = -1› ‹¬ opI (pSep (σ.1.2.2.2 k1) (σ.1.2.2.2 k2) 0) = -1›
              · refine wl_iload C 2 dX5_parts_77 rfl ?_
                refine wl_goto C 89 dX5_parts_79 (by decide) ?_
                refine wl_istore (L' := [(7, .int (opI (pSep (σ.1.2.2.2 k1) (σ.1.2.2.2 k2) 0))), (6, .int (nI k2)), (5, .int (nI k1)), (4, .int (opI (pSep (σ.1.2.2.2 k1) (σ.1.2.2.2 k2) 0))), (0, .ref (G.2.2.1 232)), (1, .int u), (2, .int v), (3, .int w)]) C dX5_parts_89 (by decide) rfl ?_
                refine wl_sub (L' := [(0, .ref (G.2.2.1 232)), (3, .int w), (4, .int (opI (pSep (σ.1.2.2.2 k1) (σ.1.2.2.2 k2) 0))), (5, .int (nI k1)), (6, .int (nI k2)), (7, .int (opI (pSep (σ.1.2.2.2 k1) (σ.1.2.2.2 k2) 0)))]) [4, 7, 3, 2, 1, 0] rfl ?_
                obtain ⟨i1, hi1⟩ := sep_ex c_48
                rw [show opI (pSep (σ.1.2.2.2 k1) (σ.1.2.2.2 k2) 0) = nI i1 by rw [hi1]; rfl]
                exact h91 k1 k2 i1 (nI i1) hk1 hk2 hi1 (by unfold parV; rw [hi1, if_neg (nI_ne1 (by have h1 := (fsT_some hi1).1; have h2 := (hs.2.2.2.2 k1 hk1).2.1; omega)), Int32.add_zero])
        · refine wl_ldc C cn120 dX5_parts_33 ?_
          exact hret _ 35 _ (-1000001) dX5_parts_35 (⟨by unfold parY; rw [if_neg (fun q => by first | exact bcf q.1 c_5 | exact bcf q.2.1 c_13 | exact q.2.2.1 c_18 | exact bcf (Bool.and_eq_true_iff.mpr ⟨decide_eq_true q.2.2.2.1, decide_eq_true q.2.2.2.2⟩) c_30)], rfl⟩)
set_option maxHeartbeats 4000000 in
set_option maxRecDepth 100000 in
theorem c_X5_way (l : Launch) (G : Gw) (M : Mem) (σ : Sy) (hR : RM M σ) (hO : OkY σ) (v : Int32) (d : Int32) (w : Int32) : Ci l G yX5_way wsX5_way 10 231 [.ref (G.2.2.1 232), .int v, .int d, .int w] M (fun r M' => r = wayY σ v d w ∧ RM M' σ ∧ FrM M M') := by
  refine Ci.of (cc := cX5_way) (maxL := 6) (ret := (some .int)) (by decide +kernel) rfl (Nat.le_of_ble_eq_true rfl) ?_
  intro x sz hl0 hr C
  subst hl0
  have C : CX x G (AA G sz) RX5 cX5_way 6 wsX5_way 10 231 0 0 := C
  have hret : ∀ (M0 : Mem) (pc0 : Nat) (L0 : List (Nat × Value)) (rv0 : Int32), decode cX5_way pc0 = .ok (.ireturn, 1) → (fun r M' => r = wayY σ v d w ∧ RM M' σ ∧ FrM M M') rv0 M0 → WL x G (AA G sz) 6 0 0 (xQ x (va_Qi (fun r M' => r = wayY σ v d w ∧ RM M' σ ∧ FrM M M') (WE G) (AA G sz)) (AA G sz)) M0 pc0 L0 [.int rv0] := fun M0 pc0 L0 rv0 hd hp => wl_iret (post := (fun r M' => r = wayY σ v d w ∧ RM M' σ ∧ FrM M M')) C hr hd hp
  show WL x G (AA G sz) 6 0 0 (xQ x (va_Qi (fun r M' => r = wayY σ v d w ∧ RM M' σ ∧ FrM M M') (WE G) (AA G sz)) (AA G sz)) M 0 [(0, .ref (G.2.2.1 232)), (1, .int v), (2, .int d), (3, .int w)] []
  generalize (xQ x (va_Qi (fun r M' => r = wayY σ v d w ∧ RM M' σ ∧ FrM M M') (WE G) (AA G sz)) (AA G sz)) = QQ at hret ⊢
  have cn120 : Jvm.Cond.constant RX5 120 (-1000001) ∈ wsX5_way := by decide +kernel
  have cn161 : Jvm.Cond.constantLong RX5 161 (2) ∈ wsX5_way := by decide +kernel
  have hs := hR.1
  have hW := hO.1.1
  have h8 := hs.r
  refine wl_aload_n C 0 dX5_way_0 rfl rfl ?_
  refine wl_iload_n C 1 dX5_way_1 rfl rfl ?_
  refine wl_callVp (i := 232) (n := 1) C [.int v] [] (c_X5_isBody _ G M σ.1 hs v) gX5_way_X5_isBody rfl (by decide +kernel) (by decide) (by decide) (kd_lt (k := 5) (by decide) (by decide)) (cell_k (k := 5) (by decide)) rfl rfl rfl (Nat.le_of_ble_eq_true rfl) dX5_way_2 ?_
  refine wl_if_eqB C 27 dX5_way_5 (by decide) (fun c_5 => ?_) (fun c_5 => ?_)
  · refine wl_ldc C cn120 dX5_way_27 ?_
    exact hret _ 29 _ (-1000001) dX5_way_29 (by (have e : wayY σ v d w = -1000001 := (by unfold wayY; rw [if_neg (fun q => by first | exact bcf q.1 c_5 | exact bcf q.2.1 c_12 | exact bcf (Bool.and_eq_true_iff.mpr ⟨decide_eq_true q.2.2.1, decide_eq_true q.2.2.2⟩) c_24)])); rw [e]; exact ⟨rfl, hR, FrM.rf⟩)
  · refine wl_iload_n C 2 dX5_way_8 rfl rfl ?_
    refine wl_callSp (n := 1) C [.int d] [] (c_X5_isDirection _ G M d) gX5_way_X5_isDirection rfl (by decide +kernel) (by decide) (by decide) rfl rfl (Nat.le_of_ble_eq_true rfl) dX5_way_9 ?_
    refine wl_if_eqB C 27 dX5_way_12 (by decide) (fun c_12 => ?_) (fun c_12 => ?_)
    · refine wl_ldc C cn120 dX5_way_27 ?_
      exact hret _ 29 _ (-1000001) dX5_way_29 (by (have e : wayY σ v d w = -1000001 := (by unfold wayY; rw [if_neg (fun q => by first | exact bcf q.1 c_5 | exact bcf q.2.1 c_12 | exact bcf (Bool.and_eq_true_iff.mpr ⟨decide_eq_true q.2.2.1, decide_eq_true q.2.2.2⟩) c_24)])); rw [e]; exact ⟨rfl, hR, FrM.rf⟩)
    · refine wl_iload_n C 3 dX5_way_15 rfl rfl ?_
      refine wl_i2l (v := w.toInt64) C dX5_way_16 (rfl) ?_
      refine wl_lconst (v := 0) C dX5_way_17 (by decide) ?_
      refine wl_ldc2 C cn161 dX5_way_18 ?_
      refine wl_callSp (n := 3) C [.long w.toInt64, .long 0, .long 2] [] (c_X5_in _ G M w.toInt64 0 2) gX5_way_X5_in rfl (by decide +kernel) (by decide) (by decide) rfl rfl (Nat.le_of_ble_eq_true rfl) dX5_way_21 ?_
      refine wl_eqi (b := bi (decide (nI 0 ≤ w) && decide (w ≤ nI 2))) (by rw [inL_num (a := nI 0) (b := nI 2) (by decide) (by decide)]) ?_
      refine wl_if_neB C 30 dX5_way_24 (by decide) (fun c_24 => ?_) (fun c_24 => ?_)
      · obtain ⟨k, hk, hv, hkc⟩ := hasB_k c_5 (by omega)
        obtain ⟨d2, hd, hdv, hdc⟩ := isDir_k c_12
        have hg : hasB σ.1.1 v = true ∧ isDir d = true ∧ 0 ≤ w ∧ w ≤ 2 := ⟨c_5, c_12, of_decide_eq_true (Bool.and_eq_true_iff.mp c_24).1, of_decide_eq_true (Bool.and_eq_true_iff.mp c_24).2⟩
        have hle := fsN_le σ.1 k d2 60
        have smw : Smal (shP (σ.1.2.2.2 k) d2 ((fsN σ.1 k d2 60) + 1)) := by rw [← mvN_sh]; exact smal_mvN hW hk hd fsN_ok
        refine wl_aload_n C 0 dX5_way_30 rfl rfl ?_
        refine wl_callVv (i := 232) (n := 0) C [] [] (c_X5_keep _ G M) gX5_way_X5_keep rfl (by decide +kernel) (by decide) (by decide) (kd_lt (k := 5) (by decide) (by decide)) (cell_k (k := 5) (by decide)) rfl rfl rfl (Nat.le_of_ble_eq_true rfl) dX5_way_31 (fun M1 ek => ?_)
        have t1 : RM M1 σ := hR.on5 ek.2
        have s1 : PkM (M1 233) σ.1 := t1.1
        refine wl_aload_n C 0 dX5_way_34 rfl rfl ?_
        refine wl_iload_n C 1 dX5_way_35 rfl rfl ?_
        refine wl_eqi (b := nI k) (hv) ?_
        refine wl_iload_n C 2 dX5_way_36 rfl rfl ?_
        refine wl_eqi (b := nI d2) (hdv) ?_
        refine wl_bipush (v := nI 61) C dX5_way_37 (by decide) ?_
        refine wl_callVi (i := 232) (n := 3) C [.int (nI k), .int (nI d2), .int (nI 61)] [] (c_X5_slides _ G M1 σ.1 s1 hW k d2 61 hk hd (by decide)) gX5_way_X5_slides rfl (by decide +kernel) (by decide) (by decide) (kd_lt (k := 5) (by decide) (by decide)) (cell_k (k := 5) (by decide)) rfl rfl rfl (Nat.le_of_ble_eq_true rfl) dX5_way_39 (fun r1 M2 ea => ?_)
        obtain ⟨qa, w2, fa, ba⟩ := ea
        subst qa
        rw [fs61 hW hk hd] at ba ⊢
        refine wl_istore (L' := [(4, .int (nI (fsN σ.1 k d2 60))), (0, .ref (G.2.2.1 232)), (1, .int v), (2, .int d), (3, .int w)]) C dX5_way_42 (by decide) rfl ?_
        refine wl_aload_n C 1 dX5_way_44 rfl rfl ?_
        refine wl_iload_n C 2 dX5_way_45 rfl rfl ?_
        refine wl_eqi (b := nI k) (hv) ?_
        refine wl_iload_n C 3 dX5_way_46 rfl rfl ?_
        refine wl_eqi (b := nI d2) (hdv) ?_
        refine wl_callSp (n := 1) C [.int (nI d2)] [.int (nI k), .ref (G.2.2.1 232)] (c_X5_dx _ G M2 d2 hd) gX5_way_X5_dx rfl (by decide +kernel) (by decide) (by decide) rfl rfl (Nat.le_of_ble_eq_true rfl) dX5_way_47 ?_
        refine wl_iload_n C 3 dX5_way_50 rfl rfl ?_
        refine wl_eqi (b := nI d2) (hdv) ?_
        refine wl_callSp (n := 1) C [.int (nI d2)] [.int (stX d2), .int (nI k), .ref (G.2.2.1 232)] (c_X5_dy _ G M2 d2 hd) gX5_way_X5_dy rfl (by decide +kernel) (by decide) (by decide) rfl rfl (Nat.le_of_ble_eq_true rfl) dX5_way_51 ?_
        refine wl_callVv (i := 232) (n := 3) C [.int (nI k), .int (stX d2), .int (stY d2)] [] (c_X5_moves _ G M2 k (mvN (σ.1.2.2.2 k) d2 (fsN σ.1 k d2 60)) (by omega) ba (stX d2) (stY d2)) gX5_way_X5_moves rfl (by decide +kernel) (by decide) (by decide) (kd_lt (k := 5) (by decide) (by decide)) (cell_k (k := 5) (by decide)) rfl rfl rfl (Nat.le_of_ble_eq_true rfl) dX5_way_54 (fun M3 e3 => ?_)
        have w3 : On3 M1 M3 := by rw [e3]; exact w2.tr On3.rw
        have b3 : BdM (M3 233) k (shP (σ.1.2.2.2 k) d2 ((fsN σ.1 k d2 60) + 1)) := by rw [← mvN_sh, e3, rwA_at]; exact mvR_bd ba (by omega)
        have x3 : PkX (M3 233) σ.1 k := by rw [e3, rwA_at]; exact ((s1.X k).fr fa (by omega)).fr (mvR_fr ba.2.1) (by omega)
        refine wl_iload_n C 4 dX5_way_57 rfl rfl ?_
        refine wl_if_ne C 66 dX5_way_58 (by decide) (fun c_58 => ?_) (fun c_58 => ?_)
        · refine wl_iload_n C 4 dX5_way_66 rfl rfl ?_
          refine wl_iconst (v := 1) C dX5_way_67 (by decide) ?_
          refine wl_icmp_ne C 79 dX5_way_68 (by decide) (fun c_68 => ?_) (fun c_68 => ?_)
          · refine wl_aload_n C 1 dX5_way_79 rfl rfl ?_
            refine wl_iload_n C 2 dX5_way_80 rfl rfl ?_
            refine wl_eqi (b := nI k) (hv) ?_
            refine wl_iconst (v := 1) C dX5_way_81 (by decide) ?_
            refine wl_callVp (i := 232) (n := 2) C [.int (nI k), .int 1] [] (c_X5_wallsBy _ G M3 k (shP (σ.1.2.2.2 k) d2 ((fsN σ.1 k d2 60) + 1)) (by omega) b3 smw σ.1.2.1 σ.1.2.2.1 1 x3.1 x3.2.1) gX5_way_X5_wallsBy rfl (by decide +kernel) (by decide) (by decide) (kd_lt (k := 5) (by decide) (by decide)) (cell_k (k := 5) (by decide)) rfl rfl rfl (Nat.le_of_ble_eq_true rfl) dX5_way_82 ?_
            refine wl_eqi (b := pBeyond (shP (σ.1.2.2.2 k) d2 ((fsN σ.1 k d2 60) + 1)) σ.1.2.1 σ.1.2.2.1) (mWb_1 smw hW.1) ?_
            refine wl_istore (L' := [(5, .int (pBeyond (shP (σ.1.2.2.2 k) d2 ((fsN σ.1 k d2 60) + 1)) σ.1.2.1 σ.1.2.2.1)), (4, .int (nI (fsN σ.1 k d2 60))), (0, .ref (G.2.2.1 232)), (1, .int v), (2, .int d), (3, .int w)]) C dX5_way_85 (by decide) rfl ?_
            refine wl_aload_n C 2 dX5_way_87 rfl rfl ?_
            refine wl_callVv (i := 232) (n := 0) C [] [] (c_X5_giveBack _ G M3) gX5_way_X5_giveBack rfl (by decide +kernel) (by decide) (by decide) (kd_lt (k := 5) (by decide) (by decide)) (cell_k (k := 5) (by decide)) rfl rfl rfl (Nat.le_of_ble_eq_true rfl) dX5_way_88 (fun M4 eg => ?_)
            refine wl_iload C 0 dX5_way_91 rfl ?_
            exact hret _ 93 _ (pBeyond (shP (σ.1.2.2.2 k) d2 ((fsN σ.1 k d2 60) + 1)) σ.1.2.1 σ.1.2.2.1) dX5_way_93 (by (have e : wayY σ v d w = _ := (by unfold wayY wayV; rw [if_pos hg, hkc, hdc, if_neg c_58, if_neg c_68])); rw [e]; (have q := hR.back ek w3 eg); exact ⟨rfl, q.1, q.2⟩)
          · refine wl_aload_n C 1 dX5_way_71 rfl rfl ?_
            refine wl_iload_n C 2 dX5_way_72 rfl rfl ?_
            refine wl_eqi (b := nI k) (hv) ?_
            refine wl_callVp (i := 232) (n := 1) C [.int (nI k)] [] (c_X5_overlapped _ G M3 σ.1 k (shP (σ.1.2.2.2 k) d2 ((fsN σ.1 k d2 60) + 1)) x3 (by omega) b3 (by have := smw.1; omega) (fun j hj => by have := (hW.2 j hj).1; omega)) gX5_way_X5_overlapped rfl (by decide +kernel) (by decide) (by decide) (kd_lt (k := 5) (by decide) (by decide)) (cell_k (k := 5) (by decide)) rfl rfl rfl (Nat.le_of_ble_eq_true rfl) dX5_way_73 ?_
            refine wl_goto C 85 dX5_way_76 (by decide) ?_
            refine wl_istore (L' := [(5, .int (ovS σ.1 (shP (σ.1.2.2.2 k) d2 ((fsN σ.1 k d2 60) + 1)) (nI k))), (4, .int (nI (fsN σ.1 k d2 60))), (0, .ref (G.2.2.1 232)), (1, .int v), (2, .int d), (3, .int w)]) C dX5_way_85 (by decide) rfl ?_
            refine wl_aload_n C 2 dX5_way_87 rfl rfl ?_
            refine wl_callVv (i := 232) (n := 0) C [] [] (c_X5_giveBack _ G M3) gX5_way_X5_giveBack rfl (by decide +kernel) (by decide) (by decide) (kd_lt (k := 5) (by decide) (by decide)) (cell_k (k := 5) (by decide)) rfl rfl rfl (Nat.le_of_ble_eq_true rfl) dX5_way_88 (fun M4 eg => ?_)
            refine wl_iload C 0 dX5_way_91 rfl ?_
            exact hret _ 93 _ (ovS σ.1 (shP (σ.1.2.2.2 k) d2 ((fsN σ.1 k d2 60) + 1)) (nI k)) dX5_way_93 (by (have e : wayY σ v d w = _ := (by unfold wayY wayV; rw [if_pos hg, hkc, hdc, if_neg c_58, if_pos c_68])); rw [e]; (have q := hR.back ek w3 eg); exact ⟨rfl, q.1, q.2⟩)
        · refine wl_iload C 0 dX5_way_61 rfl ?_
          refine wl_goto C 85 dX5_way_63 (by decide) ?_
          refine wl_istore (L' := [(5, .int (nI (fsN σ.1 k d2 60))), (4, .int (nI (fsN σ.1 k d2 60))), (0, .ref (G.2.2.1 232)), (1, .int v), (2, .int d), (3, .int w)]) C dX5_way_85 (by decide) rfl ?_
          refine wl_aload_n C 2 dX5_way_87 rfl rfl ?_
          refine wl_callVv (i := 232) (n := 0) C [] [] (c_X5_giveBack _ G M3) gX5_way_X5_giveBack rfl (by decide +kernel) (by decide) (by decide) (kd_lt (k := 5) (by decide) (by decide)) (cell_k (k := 5) (by decide)) rfl rfl rfl (Nat.le_of_ble_eq_true rfl) dX5_way_88 (fun M4 eg => ?_)
          refine wl_iload C 0 dX5_way_91 rfl ?_
          exact hret _ 93 _ (nI (fsN σ.1 k d2 60)) dX5_way_93 (by (have e : wayY σ v d w = _ := (by unfold wayY wayV; rw [if_pos hg, hkc, hdc, if_pos c_58])); rw [e]; (have q := hR.back ek w3 eg); exact ⟨rfl, q.1, q.2⟩)
      · refine wl_ldc C cn120 dX5_way_27 ?_
        exact hret _ 29 _ (-1000001) dX5_way_29 (by (have e : wayY σ v d w = -1000001 := (by unfold wayY; rw [if_neg (fun q => by first | exact bcf q.1 c_5 | exact bcf q.2.1 c_12 | exact bcf (Bool.and_eq_true_iff.mpr ⟨decide_eq_true q.2.2.1, decide_eq_true q.2.2.2⟩) c_24)])); rw [e]; exact ⟨rfl, hR, FrM.rf⟩)
set_option maxHeartbeats 4000000 in
set_option maxRecDepth 100000 in
theorem c_X5_together (l : Launch) (G : Gw) (M : Mem) (s : St) (hs : PkM (M 233) s) (hW : WfS s) (q : Nat → Bool) : Cp l G yX5_together wsX5_together 8 186 [.ref (G.2.2.1 232), .int (bsT q s.1)] M (clS s q) := by
  refine Ci.of (cc := cX5_together) (maxL := 5) (ret := (some .int)) (by decide +kernel) rfl (Nat.le_of_ble_eq_true rfl) ?_
  intro x sz hl0 hr C
  subst hl0
  have C : CX x G (AA G sz) RX5 cX5_together 5 wsX5_together 8 186 0 0 := C
  have hret : ∀ (M0 : Mem) (pc0 : Nat) (L0 : List (Nat × Value)) (rv0 : Int32), decode cX5_together pc0 = .ok (.ireturn, 1) → (fun (r : Int32) (M' : Mem) => r = clS s q ∧ M' = M) rv0 M0 → WL x G (AA G sz) 5 0 0 (xQ x (va_Qi (fun (r : Int32) (M' : Mem) => r = clS s q ∧ M' = M) (WE G) (AA G sz)) (AA G sz)) M0 pc0 L0 [.int rv0] := fun M0 pc0 L0 rv0 hd hp => wl_iret (post := (fun (r : Int32) (M' : Mem) => r = clS s q ∧ M' = M)) C hr hd hp
  show WL x G (AA G sz) 5 0 0 (xQ x (va_Qi (fun (r : Int32) (M' : Mem) => r = clS s q ∧ M' = M) (WE G) (AA G sz)) (AA G sz)) M 0 [(0, .ref (G.2.2.1 232)), (1, .int (bsT q s.1))] []
  generalize (xQ x (va_Qi (fun (r : Int32) (M' : Mem) => r = clS s q ∧ M' = M) (WE G) (AA G sz)) (AA G sz)) = QQ at hret ⊢
  have in5 : ∀ w ∈ wsX50, w ∈ wsX5_together := by decide +kernel
  have fl7 : Jvm.Cond.fieldLink RX5 7 "JammedBodiesModel" "all" "[I" ∈ wsX5_together := by decide +kernel
  have h8 := hs.r
  refine wl_iload_n C 1 dX5_together_0 rfl rfl ?_
  refine wl_istore_n (L' := [(2, .int (bsT q s.1)), (0, .ref (G.2.2.1 232)), (1, .int (bsT q s.1))]) C dX5_together_1 rfl (by decide) rfl ?_
  refine wl_iconst (v := bsT (fun _ => false) s.1) C dX5_together_2 (Eq.trans (b := (0 : Int32)) (by decide) (bsT_00.symm)) ?_
  refine wl_istore_n (L' := [(3, .int (bsT (fun _ => false) s.1)), (2, .int (bsT q s.1)), (0, .ref (G.2.2.1 232)), (1, .int (bsT q s.1))]) C dX5_together_3 rfl (by decide) rfl ?_
  have h4 : ∀ r, r ≤ 9 → ∀ A B : Nat → Bool, tgI s q r A B → WL x G (AA G sz) 5 0 0 QQ M 4 [(0, .ref (G.2.2.1 232)), (2, .int (bsT A s.1)), (3, .int (bsT B s.1))] [] := by
    refine up_loop 9 _ ?_
    intro r hr1 ih A B hJ
    refine wl_iload_n C 1 dX5_together_4 rfl rfl ?_
    refine wl_iload_n C 2 dX5_together_5 rfl rfl ?_
    refine wl_icmp_eq C 57 dX5_together_6 (by decide) (fun c_6 => ?_) (fun c_6 => ?_)
    · refine wl_iload_n C 1 dX5_together_57 rfl rfl ?_
      exact hret _ 58 _ (bsT A s.1) dX5_together_58 (⟨tgI_end hJ c_6, rfl⟩)
    · refine wl_iload_n C 1 dX5_together_9 rfl rfl ?_
      refine wl_istore_n (L' := [(3, .int (bsT A s.1)), (0, .ref (G.2.2.1 232)), (2, .int (bsT A s.1))]) C dX5_together_10 rfl (by decide) rfl ?_
      refine wl_iconst (v := nI 0) C dX5_together_11 (by first | decide | rfl) ?_
      refine wl_istore (L' := [(4, .int (nI 0)), (3, .int (bsT A s.1)), (0, .ref (G.2.2.1 232)), (2, .int (bsT A s.1))]) C dX5_together_12 (by decide) rfl ?_
      have h14 : ∀ k, k ≤ s.1 → WL x G (AA G sz) 5 0 0 QQ M 14 [(0, .ref (G.2.2.1 232)), (2, .int (bsT (unT s A k) s.1)), (3, .int (bsT A s.1)), (4, .int (nI k))] [] := by
        refine up_loop s.1 _ ?_
        intro k hk ih2
        refine wl_iload C 3 dX5_together_14 rfl ?_
        refine wl_aload_n C 0 dX5_together_16 rfl rfl ?_
        refine wl_get_Model_all (i := 232) C (by decide) in5 fl7 dX5_together_17 ?_
        refine wl_iconst (v := 2) C dX5_together_20 (by decide) ?_
        refine wl_iald (j := 2) (n := 120) (v := nI s.1) C (by decide) (cell_k (k := 10) (by decide)) (rfl) (by decide) (by decide) hs.2.2.1 dX5_together_21 ?_
        refine wl_icmp_geN C (a := k) (b := s.1) (by omega) (by omega) 54 dX5_together_22 (by decide) (fun c_22 => ?_) (fun c_22 => ?_)
        · refine wl_goto C 4 dX5_together_54 (by decide) ?_
          refine wl_sub (L' := [(0, .ref (G.2.2.1 232)), (2, .int (bsT (unT s A k) s.1)), (3, .int (bsT A s.1))]) [0, 1, 2] rfl ?_
          rw [show k = s.1 by omega]
          exact ih (tgI_lt h8 hJ c_6) _ _ (tgI_step h8 hJ c_6)
        · refine wl_iload_n C 1 dX5_together_25 rfl rfl ?_
          refine wl_iload_n C 2 dX5_together_26 rfl rfl ?_
          refine wl_iload C 3 dX5_together_27 rfl ?_
          refine wl_ishr C dX5_together_29 ?_
          refine wl_iconst (v := 1) C dX5_together_30 (by decide) ?_
          refine wl_iand C dX5_together_31 ?_
          refine wl_eqi (b := bi (A k)) (bsT_shr h8 (by omega)) ?_
          refine wl_iconst (v := 1) C dX5_together_32 (by decide) ?_
          suffices hJ33 : WL x G (AA G sz) 5 0 0 QQ M 46 [(0, .ref (G.2.2.1 232)), (2, .int (bsT (unT s A k) s.1)), (3, .int (bsT A s.1)), (4, .int (nI k))] [.int (if (bi (A k)) = 1 then tcS s k else (0 : Int32)), .int (bsT (unT s A k) s.1)] by
            refine wl_icmp_ne C 45 dX5_together_33 (by decide) (fun c_33 => ?_) (fun c_33 => ?_)
            · rw [if_neg c_33] at hJ33
              refine wl_iconst (v := 0) C dX5_together_45 (by decide) ?_
              exact hJ33
            · rw [if_pos c_33] at hJ33
              refine wl_aload_n C 0 dX5_together_36 rfl rfl ?_
              refine wl_iload C 3 dX5_together_37 rfl ?_
              refine wl_callVp (i := 232) (n := 1) C [.int (nI k)] [.int (bsT (unT s A k) s.1)] (c_X5_touched _ G M s hs hW k (by omega)) gX5_together_X5_touched rfl (by decide +kernel) (by decide) (by decide) (kd_lt (k := 5) (by decide) (by decide)) (cell_k (k := 5) (by decide)) rfl rfl rfl (Nat.le_of_ble_eq_true rfl) dX5_together_39 ?_
              refine wl_goto C 46 dX5_together_42 (by decide) ?_
              exact hJ33
          refine wl_ior C dX5_together_46 ?_
          refine wl_eqi (b := bsT (unT s A (k + 1)) s.1) (un_step h8) ?_
          refine wl_istore_n (L' := [(2, .int (bsT (unT s A (k + 1)) s.1)), (0, .ref (G.2.2.1 232)), (3, .int (bsT A s.1)), (4, .int (nI k))]) C dX5_together_47 rfl (by decide) rfl ?_
          refine wl_iinc1 (k := k) (L' := [(4, .int (nI (k + 1))), (2, .int (bsT (unT s A (k + 1)) s.1)), (0, .ref (G.2.2.1 232)), (3, .int (bsT A s.1))]) C 3 dX5_together_48 rfl (by decide) rfl ?_
          refine wl_goto C 14 dX5_together_51 (by decide) ?_
          refine wl_sub (L' := [(0, .ref (G.2.2.1 232)), (2, .int (bsT (unT s A (k + 1)) s.1)), (3, .int (bsT A s.1)), (4, .int (nI (k + 1)))]) [2, 1, 3, 0] rfl ?_
          exact ih2 (by omega)
      refine wl_sub (L' := [(0, .ref (G.2.2.1 232)), (2, .int (bsT A s.1)), (3, .int (bsT A s.1)), (4, .int (nI 0))]) [2, 3, 1, 0] rfl ?_
      exact h14 0 (Nat.zero_le _)
  refine wl_sub (L' := [(0, .ref (G.2.2.1 232)), (2, .int (bsT q s.1)), (3, .int (bsT (fun _ => false) s.1))]) [2, 1, 0] rfl ?_
  exact h4 0 (Nat.zero_le _) q (fun _ => false) (tgI_0 h8)
