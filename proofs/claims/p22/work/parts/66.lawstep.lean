/-! THE LAW: a step -/
theorem couY_0 (σ : Sy) : couY σ 0 = nI σ.1.1 := if_pos rfl
set_option maxHeartbeats 4000000 in
set_option maxRecDepth 100000 in
theorem c_L_isStep (l : Launch) (G : Gw) (ad : Nat → Nat) (M N : Mem) (σ σ' : Sy) (hR : RC M σ) (hR' : RC N σ') (hY : RY σ σ') (v : Int32) : Cd l G ad yL_isStep wsL_isStep 7 176 1 8 [.ref (G.2.2.1 224), .ref (ad 224), .int v] M N (fun (r : Int32) (M2 N2 : Mem) => r = 1 ∧ ∃ (τ τ' : Sy), RC M2 τ ∧ RC N2 τ' ∧ RY τ τ') := by
  refine Cd.of (cc := cL_isStep) (maxL := 7) (ret := (some .boolean)) (by decide +kernel) rfl (Nat.le_of_ble_eq_true rfl) ?_
  intro x sz hl0 hr C
  subst hl0
  have C : CD x G (A2 G ad sz) RL cL_isStep 7 wsL_isStep 7 176 1 8 := C
  have hret : ∀ (N1 N2 : Mem) (Rr : va_W) (cs sl pc0 : Nat) (L0 : List (Nat × Value)) (rv0 : Int32), cs ≤ 1 → sl ≤ 8 → narrow .boolean (.int rv0) = .int rv0 → decode cL_isStep pc0 = .ok (.ireturn, 1) → (fun (r : Int32) (M2 N2 : Mem) => r = 1 ∧ ∃ (τ τ' : Sy), RC M2 τ ∧ RC N2 τ' ∧ RY τ τ') rv0 N1 N2 → WK x G (A2 G ad sz) 7 cs sl (kQ x (QD G ad sz (fun (r : Int32) (M2 N2 : Mem) => r = 1 ∧ ∃ (τ τ' : Sy), RC M2 τ ∧ RC N2 τ' ∧ RY τ τ')) 1 8 (A2 G ad sz)) (wd G N1 ++ (wd (gA G ad) N2 ++ Rr)) pc0 L0 [.int rv0] := fun N1 N2 Rr cs sl pc0 L0 rv0 h1 h2 hn hd hp => wd_zret (post := (fun (r : Int32) (M2 N2 : Mem) => r = 1 ∧ ∃ (τ τ' : Sy), RC M2 τ ∧ RC N2 τ' ∧ RY τ τ')) C hr hn h1 h2 hd hp
  show WK x G (A2 G ad sz) 7 0 0 (kQ x (QD G ad sz (fun (r : Int32) (M2 N2 : Mem) => r = 1 ∧ ∃ (τ τ' : Sy), RC M2 τ ∧ RC N2 τ' ∧ RY τ τ')) 1 8 (A2 G ad sz)) (wd G M ++ (wd (gA G ad) N ++ [])) 0 [(0, .ref (G.2.2.1 224)), (1, .ref (ad 224)), (2, .int v)] []
  generalize (kQ x (QD G ad sz (fun (r : Int32) (M2 N2 : Mem) => r = 1 ∧ ∃ (τ τ' : Sy), RC M2 τ ∧ RC N2 τ' ∧ RY τ τ')) 1 8 (A2 G ad sz)) = QQ at hret ⊢
  have h8 := hR.size
  refine wk_iload_n C.1 2 dL_isStep_0 rfl rfl ?_
  refine wk_iconst (v := 4) C.1 dL_isStep_1 (by decide) ?_
  obtain ⟨y, ey⟩ : ∃ z : Int32, z = v >>> ((4 : Int32) &&& 31) := ⟨_, rfl⟩
  refine wk_ishr C.1 dL_isStep_2 ?_
  refine wk_eqi (b := y) (ey.symm) ?_
  refine wk_istore_n (L' := [(3, .int y), (0, .ref (G.2.2.1 224)), (1, .ref (ad 224)), (2, .int v)]) C.1 dL_isStep_3 rfl (by decide) rfl ?_
  refine wk_aload_n C.1 1 dL_isStep_4 rfl rfl ?_
  refine wk_iconst (v := 0) C.1 dL_isStep_5 (by decide) ?_
  refine wd_V1 (i := 224) (n := 1) C [.int 0] [] (c_X4_count _ G M σ hR hY.2.1 0) gL_isStep_X4_count rfl (by decide +kernel) (Nat.le_of_ble_eq_true rfl) (Nat.le_of_ble_eq_true rfl) (by decide) (cell_k (k := 4) (by decide)) rfl rfl rfl (Nat.le_of_ble_eq_true rfl) (Nat.le_of_ble_eq_true rfl) (Nat.le_of_ble_eq_true rfl) dL_isStep_6 (fun r6 M6 h6 => ?_)
  obtain ⟨a6, b6⟩ := h6
  rw [a6, b6]
  refine wk_eqi (b := nI σ.1.1) (couY_0 _) ?_
  refine wk_istore (L' := [(4, .int (nI σ.1.1)), (3, .int y), (0, .ref (G.2.2.1 224)), (1, .ref (ad 224)), (2, .int v)]) C.1 dL_isStep_9 (by decide) rfl ?_
  refine wk_iload_n C.1 1 dL_isStep_11 rfl rfl ?_
  refine wk_iload C.1 0 dL_isStep_12 rfl ?_
  refine wk_iconst (v := nI 1) C.1 dL_isStep_14 (by first | decide | rfl) ?_
  refine wk_iadd C.1 dL_isStep_15 ?_
  refine wk_eqi (b := nI (σ.1.1 + 1)) (nI_add σ.1.1 1) ?_
  refine wd_S1 (n := 2) C [.int y, .int (nI (σ.1.1 + 1))] [] (c_L_up _ G M y (σ.1.1 + 1) (by omega) (by omega)) gL_isStep_L_up rfl (by decide +kernel) (Nat.le_of_ble_eq_true rfl) (Nat.le_of_ble_eq_true rfl) rfl rfl (Nat.le_of_ble_eq_true rfl) (Nat.le_of_ble_eq_true rfl) (Nat.le_of_ble_eq_true rfl) dL_isStep_16 (fun r16 M16 h16 => ?_)
  obtain ⟨a16, b16⟩ := h16
  rw [a16, b16]
  obtain ⟨k, ek⟩ : ∃ z : Nat, z = upN y (σ.1.1 + 1) := ⟨_, rfl⟩
  have hk : k < σ.1.1 + 1 := by rw [ek]; exact upN_lt (by omega)
  rw [← ek]
  refine wk_istore (L' := [(5, .int (nI k)), (4, .int (nI σ.1.1)), (3, .int y), (0, .ref (G.2.2.1 224)), (1, .ref (ad 224)), (2, .int v)]) C.1 dL_isStep_19 (by decide) rfl ?_
  refine wk_iload_n C.1 2 dL_isStep_21 rfl rfl ?_
  refine wk_iconst (v := 4) C.1 dL_isStep_22 (by decide) ?_
  refine wk_ishr C.1 dL_isStep_23 ?_
  refine wk_bipush (v := nI 8) C.1 dL_isStep_24 (by decide) ?_
  refine wd_S1 (n := 2) C [.int (y >>> ((4 : Int32) &&& 31)), .int (nI 8)] [] (c_L_up _ G M (y >>> ((4 : Int32) &&& 31)) 8 (by omega) (by omega)) gL_isStep_L_up rfl (by decide +kernel) (Nat.le_of_ble_eq_true rfl) (Nat.le_of_ble_eq_true rfl) rfl rfl (Nat.le_of_ble_eq_true rfl) (Nat.le_of_ble_eq_true rfl) (Nat.le_of_ble_eq_true rfl) dL_isStep_26 (fun r26 M26 h26 => ?_)
  obtain ⟨a26, b26⟩ := h26
  rw [a26, b26]
  obtain ⟨d, ed⟩ : ∃ z : Nat, z = upN (y >>> ((4 : Int32) &&& 31)) 8 := ⟨_, rfl⟩
  have hd : d < 8 := by rw [ed]; exact upN_lt (by decide)
  rw [← ed]
  refine wk_istore (L' := [(6, .int (nI d)), (5, .int (nI k)), (4, .int (nI σ.1.1)), (3, .int y), (0, .ref (G.2.2.1 224)), (1, .ref (ad 224)), (2, .int v)]) C.1 dL_isStep_29 (by decide) rfl ?_
  refine wk_iload_n C.1 6 dL_isStep_31 rfl rfl ?_
  refine wk_bipush (v := nI 9) C.1 dL_isStep_32 (by decide) ?_
  refine wd_S1 (n := 2) C [.int v, .int (nI 9)] [] (c_L_up _ G M v 9 (by omega) (by omega)) gL_isStep_L_up rfl (by decide +kernel) (Nat.le_of_ble_eq_true rfl) (Nat.le_of_ble_eq_true rfl) rfl rfl (Nat.le_of_ble_eq_true rfl) (Nat.le_of_ble_eq_true rfl) (Nat.le_of_ble_eq_true rfl) dL_isStep_34 (fun r34 M34 h34 => ?_)
  obtain ⟨a34, b34⟩ := h34
  rw [a34, b34]
  have h9 : upN v 9 < 9 := upN_lt (by decide)
  generalize upN v 9 = t at h9 ⊢
  have h84 : WK x G (A2 G ad sz) 7 0 0 QQ (wd G M ++ (wd (gA G ad) N ++ [])) 84 [(6, .int (nI d)), (5, .int (nI k)), (4, .int (nI σ.1.1)), (3, .int y), (0, .ref (G.2.2.1 224)), (1, .ref (ad 224)), (2, .int v)] [] := by
    refine wk_aload_n C.1 4 dL_isStep_84 rfl rfl ?_
    refine wk_aload_n C.1 5 dL_isStep_85 rfl rfl ?_
    refine wk_iload_n C.1 3 dL_isStep_86 rfl rfl ?_
    refine wd_callD (n := 3) C [.ref (G.2.2.1 224), .ref (ad 224), .int y] [] (c_L_puts _ G ad M N σ σ' hR hR' hY y) gL_isStep_L_puts rfl (by decide +kernel) (Nat.le_of_ble_eq_true rfl) (Nat.le_of_ble_eq_true rfl) rfl rfl (Nat.le_of_ble_eq_true rfl) (Nat.le_of_ble_eq_true rfl) (Nat.le_of_ble_eq_true rfl) dL_isStep_87 (fun r87 M87 N87 h87 => ?_)
    obtain ⟨a87, τ, τ', b87, c87, d87⟩ := h87
    rw [a87]
    exact hret _ _ _ _ _ 90 _ 1 (Nat.le_of_ble_eq_true rfl) (Nat.le_of_ble_eq_true rfl) rfl dL_isStep_90 ⟨rfl, τ, τ', b87, c87, d87⟩
  have h91 : WK x G (A2 G ad sz) 7 0 0 QQ (wd G M ++ (wd (gA G ad) N ++ [])) 91 [(6, .int (nI d)), (5, .int (nI k)), (4, .int (nI σ.1.1)), (3, .int y), (0, .ref (G.2.2.1 224)), (1, .ref (ad 224)), (2, .int v)] [] := by
    have hm : upN (y >>> ((7 : Int32) &&& 31)) 9 < 9 := upN_lt (by decide)
    have key := rt_sli hY h8 (k := k) (d := d) (m := 1 + upN (y >>> ((7 : Int32) &&& 31)) 9) (by omega) hd (by omega) (by omega)
    refine wk_aload_n C.1 4 dL_isStep_91 rfl rfl ?_
    refine wk_iload C.1 1 dL_isStep_92 rfl ?_
    refine wk_iload C.1 0 dL_isStep_94 rfl ?_
    refine wk_iconst (v := nI 1) C.1 dL_isStep_96 (by first | decide | rfl) ?_
    refine wk_iload_n C.1 3 dL_isStep_97 rfl rfl ?_
    refine wk_bipush (v := 7) C.1 dL_isStep_98 (by decide) ?_
    refine wk_ishr C.1 dL_isStep_100 ?_
    refine wk_bipush (v := nI 9) C.1 dL_isStep_101 (by decide) ?_
    refine wd_S1 (n := 2) C [.int (y >>> ((7 : Int32) &&& 31)), .int (nI 9)] [.int (nI 1), .int (nI d), .int (nI k), .ref (G.2.2.1 224)] (c_L_up _ G M (y >>> ((7 : Int32) &&& 31)) 9 (by omega) (by omega)) gL_isStep_L_up rfl (by decide +kernel) (Nat.le_of_ble_eq_true rfl) (Nat.le_of_ble_eq_true rfl) rfl rfl (Nat.le_of_ble_eq_true rfl) (Nat.le_of_ble_eq_true rfl) (Nat.le_of_ble_eq_true rfl) dL_isStep_103 (fun r103 M103 h103 => ?_)
    obtain ⟨a103, b103⟩ := h103
    rw [a103, b103]
    refine wk_iadd C.1 dL_isStep_106 ?_
    refine wk_eqi (b := nI (1 + upN (y >>> ((7 : Int32) &&& 31)) 9)) (nI_add 1 _) ?_
    refine wd_V1 (i := 224) (n := 3) C [.int (nI k), .int (nI d), .int (nI (1 + upN (y >>> ((7 : Int32) &&& 31)) 9))] [] (c_X4_slide _ G M σ hR hY.2.1 (nI k) (nI d) (nI (1 + upN (y >>> ((7 : Int32) &&& 31)) 9))) gL_isStep_X4_slide rfl (by decide +kernel) (Nat.le_of_ble_eq_true rfl) (Nat.le_of_ble_eq_true rfl) (by decide) (cell_k (k := 4) (by decide)) rfl rfl rfl (Nat.le_of_ble_eq_true rfl) (Nat.le_of_ble_eq_true rfl) (Nat.le_of_ble_eq_true rfl) dL_isStep_107 (fun r107 M107 h107 => ?_)
    obtain ⟨a107, R107, -⟩ := h107
    rw [a107]
    refine wk_aload_n C.1 5 dL_isStep_110 rfl rfl ?_
    refine wk_iload C.1 1 dL_isStep_111 rfl ?_
    refine wk_iload C.1 0 dL_isStep_113 rfl ?_
    refine wk_iconst (v := nI 2) C.1 dL_isStep_115 (by first | decide | rfl) ?_
    refine wk_iadd C.1 dL_isStep_116 ?_
    refine wk_eqi (b := nI (d + 2)) (nI_add d 2) ?_
    refine wk_bipush (v := nI 8) C.1 dL_isStep_117 (by decide) ?_
    refine wk_irem C.1 dL_isStep_119 (by decide) ?_
    refine wk_eqi (b := nI (d2 d)) (pk_rem (by omega) (by decide) (by decide)) ?_
    refine wk_iconst (v := nI 1) C.1 dL_isStep_120 (by first | decide | rfl) ?_
    refine wk_iload_n C.1 3 dL_isStep_121 rfl rfl ?_
    refine wk_bipush (v := 7) C.1 dL_isStep_122 (by decide) ?_
    refine wk_ishr C.1 dL_isStep_124 ?_
    refine wk_bipush (v := nI 9) C.1 dL_isStep_125 (by decide) ?_
    refine wd_S1 (n := 2) C [.int (y >>> ((7 : Int32) &&& 31)), .int (nI 9)] [.int (nI 1), .int (nI (d2 d)), .int (nI k), .ref (ad 224), .int ((sliY σ (nI k) (nI d) (nI (1 + upN (y >>> ((7 : Int32) &&& 31)) 9))).1)] (c_L_up _ G M107 (y >>> ((7 : Int32) &&& 31)) 9 (by omega) (by omega)) gL_isStep_L_up rfl (by decide +kernel) (Nat.le_of_ble_eq_true rfl) (Nat.le_of_ble_eq_true rfl) rfl rfl (Nat.le_of_ble_eq_true rfl) (Nat.le_of_ble_eq_true rfl) (Nat.le_of_ble_eq_true rfl) dL_isStep_127 (fun r127 M127 h127 => ?_)
    obtain ⟨a127, b127⟩ := h127
    rw [a127, b127]
    refine wk_iadd C.1 dL_isStep_130 ?_
    refine wk_eqi (b := nI (1 + upN (y >>> ((7 : Int32) &&& 31)) 9)) (nI_add 1 _) ?_
    refine wd_callVi (F := wd G M107) (ad := ad) (i := 224) (n := 3) C [.int (nI k), .int (nI (d2 d)), .int (nI (1 + upN (y >>> ((7 : Int32) &&& 31)) 9))] [.int ((sliY σ (nI k) (nI d) (nI (1 + upN (y >>> ((7 : Int32) &&& 31)) 9))).1)] (c_X4_slide _ (gA G ad) N σ' hR' hY.2.2 (nI k) (nI (d2 d)) (nI (1 + upN (y >>> ((7 : Int32) &&& 31)) 9))) gL_isStep_X4_slide rfl (by decide +kernel) (Nat.le_of_ble_eq_true rfl) (Nat.le_of_ble_eq_true rfl) (by decide) (cell_k (k := 4) (by decide)) rfl rfl rfl (Nat.le_of_ble_eq_true rfl) (Nat.le_of_ble_eq_true rfl) (Nat.le_of_ble_eq_true rfl) dL_isStep_131 (fun r131 M131 h131 => ?_)
    obtain ⟨a131, R131, -⟩ := h131
    rw [a131]
    refine wk_icmp_ne C.1 141 dL_isStep_134 (by decide) (fun c_134 => absurd c_134 (fun z => z key.1.symm)) (fun c_134 => ?_)
    refine wk_iconst (v := 1) C.1 dL_isStep_137 (by decide) ?_
    refine wk_goto C.1 142 dL_isStep_138 (by decide) ?_
    exact hret _ _ _ _ _ 142 _ 1 (Nat.le_of_ble_eq_true rfl) (Nat.le_of_ble_eq_true rfl) rfl dL_isStep_142 ⟨rfl, _, _, R107, R131, key.2⟩
  have h143 : WK x G (A2 G ad sz) 7 0 0 QQ (wd G M ++ (wd (gA G ad) N ++ [])) 143 [(6, .int (nI d)), (5, .int (nI k)), (4, .int (nI σ.1.1)), (3, .int y), (0, .ref (G.2.2.1 224)), (1, .ref (ad 224)), (2, .int v)] [] := by
    have key := rt_setY hY h8 hd
    refine wk_aload_n C.1 4 dL_isStep_143 rfl rfl ?_
    refine wk_iload C.1 0 dL_isStep_144 rfl ?_
    refine wd_V1 (i := 224) (n := 1) C [.int (nI d)] [] (c_X4_settle _ G M σ hR hY.2.1 (nI d)) gL_isStep_X4_settle rfl (by decide +kernel) (Nat.le_of_ble_eq_true rfl) (Nat.le_of_ble_eq_true rfl) (by decide) (cell_k (k := 4) (by decide)) rfl rfl rfl (Nat.le_of_ble_eq_true rfl) (Nat.le_of_ble_eq_true rfl) (Nat.le_of_ble_eq_true rfl) dL_isStep_146 (fun r146 M146 h146 => ?_)
    obtain ⟨a146, R146, -⟩ := h146
    rw [a146]
    refine wk_aload_n C.1 5 dL_isStep_149 rfl rfl ?_
    refine wk_iload C.1 0 dL_isStep_150 rfl ?_
    refine wk_iconst (v := nI 2) C.1 dL_isStep_152 (by first | decide | rfl) ?_
    refine wk_iadd C.1 dL_isStep_153 ?_
    refine wk_eqi (b := nI (d + 2)) (nI_add d 2) ?_
    refine wk_bipush (v := nI 8) C.1 dL_isStep_154 (by decide) ?_
    refine wk_irem C.1 dL_isStep_156 (by decide) ?_
    refine wk_eqi (b := nI (d2 d)) (pk_rem (by omega) (by decide) (by decide)) ?_
    refine wd_callVi (F := wd G M146) (ad := ad) (i := 224) (n := 1) C [.int (nI (d2 d))] [.int ((setY σ (nI d)).1)] (c_X4_settle _ (gA G ad) N σ' hR' hY.2.2 (nI (d2 d))) gL_isStep_X4_settle rfl (by decide +kernel) (Nat.le_of_ble_eq_true rfl) (Nat.le_of_ble_eq_true rfl) (by decide) (cell_k (k := 4) (by decide)) rfl rfl rfl (Nat.le_of_ble_eq_true rfl) (Nat.le_of_ble_eq_true rfl) (Nat.le_of_ble_eq_true rfl) dL_isStep_157 (fun r157 M157 h157 => ?_)
    obtain ⟨a157, R157, -⟩ := h157
    rw [a157]
    refine wk_icmp_ne C.1 167 dL_isStep_160 (by decide) (fun c_160 => absurd c_160 (fun z => z key.1.symm)) (fun c_160 => ?_)
    refine wk_iconst (v := 1) C.1 dL_isStep_163 (by decide) ?_
    refine wk_goto C.1 168 dL_isStep_164 (by decide) ?_
    exact hret _ _ _ _ _ 168 _ 1 (Nat.le_of_ble_eq_true rfl) (Nat.le_of_ble_eq_true rfl) rfl dL_isStep_168 ⟨rfl, _, _, R146, R157, key.2⟩
  have h169 : WK x G (A2 G ad sz) 7 0 0 QQ (wd G M ++ (wd (gA G ad) N ++ [])) 169 [(6, .int (nI d)), (5, .int (nI k)), (4, .int (nI σ.1.1)), (3, .int y), (0, .ref (G.2.2.1 224)), (1, .ref (ad 224)), (2, .int v)] [] := by
    refine wk_iload_n C.1 3 dL_isStep_169 rfl rfl ?_
    refine wk_bipush (v := 7) C.1 dL_isStep_170 (by decide) ?_
    refine wk_ishr C.1 dL_isStep_172 ?_
    refine wk_iconst (v := nI 4) C.1 dL_isStep_173 (by first | decide | rfl) ?_
    refine wd_S1 (n := 2) C [.int (y >>> ((7 : Int32) &&& 31)), .int (nI 4)] [] (c_L_up _ G M (y >>> ((7 : Int32) &&& 31)) 4 (by omega) (by omega)) gL_isStep_L_up rfl (by decide +kernel) (Nat.le_of_ble_eq_true rfl) (Nat.le_of_ble_eq_true rfl) rfl rfl (Nat.le_of_ble_eq_true rfl) (Nat.le_of_ble_eq_true rfl) (Nat.le_of_ble_eq_true rfl) dL_isStep_174 (fun r174 M174 h174 => ?_)
    obtain ⟨a174, b174⟩ := h174
    rw [a174, b174]
    have key := rt_rem hY h8 (k := k) (by omega)
    refine wk_if_gt C.1 195 dL_isStep_177 (by decide) (fun _ => ?_) (fun _ => ?_)
    · refine wk_iconst (v := 1) C.1 dL_isStep_195 (by decide) ?_
      refine wk_goto C.1 200 dL_isStep_196 (by decide) ?_
      exact hret _ _ _ _ _ 200 _ 1 (Nat.le_of_ble_eq_true rfl) (Nat.le_of_ble_eq_true rfl) rfl dL_isStep_200 ⟨rfl, _, _, hR, hR', hY⟩
    · skip
      refine wk_aload_n C.1 4 dL_isStep_180 rfl rfl ?_
      refine wk_iload C.1 1 dL_isStep_181 rfl ?_
      refine wd_V1 (i := 224) (n := 1) C [.int (nI k)] [] (c_X4_remove _ G M σ hR hY.2.1 (nI k)) gL_isStep_X4_remove rfl (by decide +kernel) (Nat.le_of_ble_eq_true rfl) (Nat.le_of_ble_eq_true rfl) (by decide) (cell_k (k := 4) (by decide)) rfl rfl rfl (Nat.le_of_ble_eq_true rfl) (Nat.le_of_ble_eq_true rfl) (Nat.le_of_ble_eq_true rfl) dL_isStep_183 (fun r183 M183 h183 => ?_)
      obtain ⟨a183, R183, -⟩ := h183
      rw [a183]
      refine wk_aload_n C.1 5 dL_isStep_186 rfl rfl ?_
      refine wk_iload C.1 1 dL_isStep_187 rfl ?_
      refine wd_callVi (F := wd G M183) (ad := ad) (i := 224) (n := 1) C [.int (nI k)] [.int ((remY σ (nI k)).1)] (c_X4_remove _ (gA G ad) N σ' hR' hY.2.2 (nI k)) gL_isStep_X4_remove rfl (by decide +kernel) (Nat.le_of_ble_eq_true rfl) (Nat.le_of_ble_eq_true rfl) (by decide) (cell_k (k := 4) (by decide)) rfl rfl rfl (Nat.le_of_ble_eq_true rfl) (Nat.le_of_ble_eq_true rfl) (Nat.le_of_ble_eq_true rfl) dL_isStep_189 (fun r189 M189 h189 => ?_)
      obtain ⟨a189, R189, -⟩ := h189
      rw [a189]
      refine wk_icmp_ne C.1 199 dL_isStep_192 (by decide) (fun c_192 => absurd c_192 (fun z => z key.1.symm)) (fun c_192 => ?_)
      refine wk_iconst (v := 1) C.1 dL_isStep_195 (by decide) ?_
      refine wk_goto C.1 200 dL_isStep_196 (by decide) ?_
      exact hret _ _ _ _ _ 200 _ 1 (Nat.le_of_ble_eq_true rfl) (Nat.le_of_ble_eq_true rfl) rfl dL_isStep_200 ⟨rfl, _, _, R183, R189, key.2⟩
  have h201 : WK x G (A2 G ad sz) 7 0 0 QQ (wd G M ++ (wd (gA G ad) N ++ [])) 201 [(6, .int (nI d)), (5, .int (nI k)), (4, .int (nI σ.1.1)), (3, .int y), (0, .ref (G.2.2.1 224)), (1, .ref (ad 224)), (2, .int v)] [] := by
    refine wk_iload_n C.1 3 dL_isStep_201 rfl rfl ?_
    refine wk_bipush (v := 7) C.1 dL_isStep_202 (by decide) ?_
    refine wk_ishr C.1 dL_isStep_204 ?_
    refine wk_bipush (v := nI 6) C.1 dL_isStep_205 (by decide) ?_
    refine wd_S1 (n := 2) C [.int (y >>> ((7 : Int32) &&& 31)), .int (nI 6)] [] (c_L_up _ G M (y >>> ((7 : Int32) &&& 31)) 6 (by omega) (by omega)) gL_isStep_L_up rfl (by decide +kernel) (Nat.le_of_ble_eq_true rfl) (Nat.le_of_ble_eq_true rfl) rfl rfl (Nat.le_of_ble_eq_true rfl) (Nat.le_of_ble_eq_true rfl) (Nat.le_of_ble_eq_true rfl) dL_isStep_207 (fun r207 M207 h207 => ?_)
    obtain ⟨a207, b207⟩ := h207
    rw [a207, b207]
    have key := rt_und hY
    refine wk_if_gt C.1 229 dL_isStep_210 (by decide) (fun _ => ?_) (fun _ => ?_)
    · refine wk_iconst (v := 1) C.1 dL_isStep_229 (by decide) ?_
      refine wk_goto C.1 234 dL_isStep_230 (by decide) ?_
      exact hret _ _ _ _ _ 234 _ 1 (Nat.le_of_ble_eq_true rfl) (Nat.le_of_ble_eq_true rfl) rfl dL_isStep_234 ⟨rfl, _, _, hR, hR', hY⟩
    · skip
      refine wk_iload C.1 2 dL_isStep_213 rfl ?_
      refine wk_if_eq C.1 229 dL_isStep_215 (by decide) (fun _ => ?_) (fun _ => ?_)
      · refine wk_iconst (v := 1) C.1 dL_isStep_229 (by decide) ?_
        refine wk_goto C.1 234 dL_isStep_230 (by decide) ?_
        exact hret _ _ _ _ _ 234 _ 1 (Nat.le_of_ble_eq_true rfl) (Nat.le_of_ble_eq_true rfl) rfl dL_isStep_234 ⟨rfl, _, _, hR, hR', hY⟩
      · skip
        refine wk_aload_n C.1 4 dL_isStep_218 rfl rfl ?_
        refine wd_V1 (i := 224) (n := 0) C [] [] (c_X4_undo _ G M σ hR hY.2.1 ) gL_isStep_X4_undo rfl (by decide +kernel) (Nat.le_of_ble_eq_true rfl) (Nat.le_of_ble_eq_true rfl) (by decide) (cell_k (k := 4) (by decide)) rfl rfl rfl (Nat.le_of_ble_eq_true rfl) (Nat.le_of_ble_eq_true rfl) (Nat.le_of_ble_eq_true rfl) dL_isStep_219 (fun r219 M219 h219 => ?_)
        obtain ⟨a219, R219, -⟩ := h219
        rw [a219]
        refine wk_aload_n C.1 5 dL_isStep_222 rfl rfl ?_
        refine wd_callVi (F := wd G M219) (ad := ad) (i := 224) (n := 0) C [] [.int ((undY σ).1)] (c_X4_undo _ (gA G ad) N σ' hR' hY.2.2 ) gL_isStep_X4_undo rfl (by decide +kernel) (Nat.le_of_ble_eq_true rfl) (Nat.le_of_ble_eq_true rfl) (by decide) (cell_k (k := 4) (by decide)) rfl rfl rfl (Nat.le_of_ble_eq_true rfl) (Nat.le_of_ble_eq_true rfl) (Nat.le_of_ble_eq_true rfl) dL_isStep_223 (fun r223 M223 h223 => ?_)
        obtain ⟨a223, R223, -⟩ := h223
        rw [a223]
        refine wk_icmp_ne C.1 233 dL_isStep_226 (by decide) (fun c_226 => absurd c_226 (fun z => z key.1.symm)) (fun c_226 => ?_)
        refine wk_iconst (v := 1) C.1 dL_isStep_229 (by decide) ?_
        refine wk_goto C.1 234 dL_isStep_230 (by decide) ?_
        exact hret _ _ _ _ _ 234 _ 1 (Nat.le_of_ble_eq_true rfl) (Nat.le_of_ble_eq_true rfl) rfl dL_isStep_234 ⟨rfl, _, _, R219, R223, key.2⟩
  rcases (show t = 0 ∨ t = 1 ∨ t = 2 ∨ t = 3 ∨ t = 4 ∨ t = 5 ∨ t = 6 ∨ t = 7 ∨ t = 8 by omega) with rfl | rfl | rfl | rfl | rfl | rfl | rfl | rfl | rfl
  · refine wk_swIn C.1 84 dL_isStep_37 (by decide) (by decide) rfl (by decide) ?_
    exact h84
  · refine wk_swIn C.1 84 dL_isStep_37 (by decide) (by decide) rfl (by decide) ?_
    exact h84
  · refine wk_swIn C.1 84 dL_isStep_37 (by decide) (by decide) rfl (by decide) ?_
    exact h84
  · refine wk_swIn C.1 84 dL_isStep_37 (by decide) (by decide) rfl (by decide) ?_
    exact h84
  · refine wk_swIn C.1 91 dL_isStep_37 (by decide) (by decide) rfl (by decide) ?_
    exact h91
  · refine wk_swIn C.1 91 dL_isStep_37 (by decide) (by decide) rfl (by decide) ?_
    exact h91
  · refine wk_swIn C.1 143 dL_isStep_37 (by decide) (by decide) rfl (by decide) ?_
    exact h143
  · refine wk_swIn C.1 169 dL_isStep_37 (by decide) (by decide) rfl (by decide) ?_
    exact h169
  · refine wk_swOut C.1 201 dL_isStep_37 (by decide) (by decide) ?_
    exact h201
