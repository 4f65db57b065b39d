/-! THE LAW: the two boxes are alike -/
set_option maxHeartbeats 4000000 in
set_option maxRecDepth 100000 in
theorem c_L_areAlike (l : Launch) (G : Gw) (ad : Nat → Nat) (M N : Mem) (σ σ' : Sy) (hR : RC M σ) (hR' : RC N σ') (hY : RY σ σ') (v : Int32) : Cd l G ad yL_areAlike wsL_areAlike 7 172 0 0 [.ref (G.2.2.1 224), .ref (ad 224), .int v] M N (fun (r : Int32) (M2 N2 : Mem) => r = 1 ∧ RC M2 σ ∧ RC N2 σ') := by
  refine Cd.of (cc := cL_areAlike) (maxL := 9) (ret := (some .boolean)) (by decide +kernel) rfl (Nat.le_of_ble_eq_true rfl) ?_
  intro x sz hl0 hr C
  subst hl0
  have C : CD x G (A2 G ad sz) RL cL_areAlike 9 wsL_areAlike 7 172 0 0 := C
  have hret : ∀ (N1 N2 : Mem) (Rr : va_W) (cs sl pc0 : Nat) (L0 : List (Nat × Value)) (rv0 : Int32), cs ≤ 0 → sl ≤ 0 → narrow .boolean (.int rv0) = .int rv0 → decode cL_areAlike pc0 = .ok (.ireturn, 1) → (fun (r : Int32) (M2 N2 : Mem) => r = 1 ∧ RC M2 σ ∧ RC N2 σ') rv0 N1 N2 → WK x G (A2 G ad sz) 9 cs sl (kQ x (QD G ad sz (fun (r : Int32) (M2 N2 : Mem) => r = 1 ∧ RC M2 σ ∧ RC N2 σ')) 0 0 (A2 G ad sz)) (wd G N1 ++ (wd (gA G ad) N2 ++ Rr)) pc0 L0 [.int rv0] := fun N1 N2 Rr cs sl pc0 L0 rv0 h1 h2 hn hd hp => wd_zret (post := (fun (r : Int32) (M2 N2 : Mem) => r = 1 ∧ RC M2 σ ∧ RC N2 σ')) C hr hn h1 h2 hd hp
  show WK x G (A2 G ad sz) 9 0 0 (kQ x (QD G ad sz (fun (r : Int32) (M2 N2 : Mem) => r = 1 ∧ RC M2 σ ∧ RC N2 σ')) 0 0 (A2 G ad sz)) (wd G M ++ (wd (gA G ad) N ++ [])) 0 [(0, .ref (G.2.2.1 224)), (1, .ref (ad 224)), (2, .int v)] []
  generalize (kQ x (QD G ad sz (fun (r : Int32) (M2 N2 : Mem) => r = 1 ∧ RC M2 σ ∧ RC N2 σ')) 0 0 (A2 G ad sz)) = QQ at hret ⊢
  have h8 := hR.size
  refine wk_aload_n C.1 0 dL_areAlike_0 rfl rfl ?_
  refine wk_iconst (v := 0) C.1 dL_areAlike_1 (by decide) ?_
  refine wd_V1 (i := 224) (n := 1) C [.int 0] [] (c_X4_count _ G M σ hR hY.2.1 0) gL_areAlike_X4_count rfl (by decide +kernel) (Nat.le_of_ble_eq_true rfl) (Nat.le_of_ble_eq_true rfl) (by decide) (cell_k (k := 4) (by decide)) rfl rfl rfl (Nat.le_of_ble_eq_true rfl) (Nat.le_of_ble_eq_true rfl) (Nat.le_of_ble_eq_true rfl) dL_areAlike_2 (fun r2 M2 h2 => ?_)
  obtain ⟨a2, b2⟩ := h2
  rw [a2, b2]
  refine wk_eqi (b := nI σ.1.1) (couY_0 _) ?_
  refine wk_istore_n (L' := [(3, .int (nI σ.1.1)), (0, .ref (G.2.2.1 224)), (1, .ref (ad 224)), (2, .int v)]) C.1 dL_areAlike_5 rfl (by decide) rfl ?_
  refine wk_aload_n C.1 1 dL_areAlike_6 rfl rfl ?_
  refine wk_iconst (v := 3) C.1 dL_areAlike_7 (by first | decide | rfl) ?_
  refine wd_V1 (i := 224) (n := 1) C [.int 3] [] (c_X4_count _ G M σ hR hY.2.1 3) gL_areAlike_X4_count rfl (by decide +kernel) (Nat.le_of_ble_eq_true rfl) (Nat.le_of_ble_eq_true rfl) (by decide) (cell_k (k := 4) (by decide)) rfl rfl rfl (Nat.le_of_ble_eq_true rfl) (Nat.le_of_ble_eq_true rfl) (Nat.le_of_ble_eq_true rfl) dL_areAlike_8 (fun r8 M8 h8 => ?_)
  obtain ⟨a8, b8⟩ := h8
  rw [a8, b8]
  refine wk_aload_n C.1 2 dL_areAlike_11 rfl rfl ?_
  refine wk_iconst (v := 3) C.1 dL_areAlike_12 (by first | decide | rfl) ?_
  refine wd_callVi (F := wd G M) (ad := ad) (i := 224) (n := 1) C [.int 3] [.int (couY σ 3)] (c_X4_count _ (gA G ad) N σ' hR' hY.2.2 3) gL_areAlike_X4_count rfl (by decide +kernel) (Nat.le_of_ble_eq_true rfl) (Nat.le_of_ble_eq_true rfl) (by decide) (cell_k (k := 4) (by decide)) rfl rfl rfl (Nat.le_of_ble_eq_true rfl) (Nat.le_of_ble_eq_true rfl) (Nat.le_of_ble_eq_true rfl) dL_areAlike_13 (fun r13 M13 h13 => ?_)
  obtain ⟨a13, b13⟩ := h13
  rw [a13, b13]
  refine wk_icmp_ne C.1 86 dL_areAlike_16 (by decide) (fun c_16 => absurd c_16 (fun z => z ((rt_cou hY).2.1).symm)) (fun c_16 => ?_)
  refine wk_aload_n C.1 1 dL_areAlike_19 rfl rfl ?_
  refine wk_iconst (v := 4) C.1 dL_areAlike_20 (by first | decide | rfl) ?_
  refine wd_V1 (i := 224) (n := 1) C [.int 4] [] (c_X4_count _ G M σ hR hY.2.1 4) gL_areAlike_X4_count rfl (by decide +kernel) (Nat.le_of_ble_eq_true rfl) (Nat.le_of_ble_eq_true rfl) (by decide) (cell_k (k := 4) (by decide)) rfl rfl rfl (Nat.le_of_ble_eq_true rfl) (Nat.le_of_ble_eq_true rfl) (Nat.le_of_ble_eq_true rfl) dL_areAlike_21 (fun r21 M21 h21 => ?_)
  obtain ⟨a21, b21⟩ := h21
  rw [a21, b21]
  refine wk_aload_n C.1 2 dL_areAlike_24 rfl rfl ?_
  refine wk_iconst (v := 4) C.1 dL_areAlike_25 (by first | decide | rfl) ?_
  refine wd_callVi (F := wd G M) (ad := ad) (i := 224) (n := 1) C [.int 4] [.int (couY σ 4)] (c_X4_count _ (gA G ad) N σ' hR' hY.2.2 4) gL_areAlike_X4_count rfl (by decide +kernel) (Nat.le_of_ble_eq_true rfl) (Nat.le_of_ble_eq_true rfl) (by decide) (cell_k (k := 4) (by decide)) rfl rfl rfl (Nat.le_of_ble_eq_true rfl) (Nat.le_of_ble_eq_true rfl) (Nat.le_of_ble_eq_true rfl) dL_areAlike_26 (fun r26 M26 h26 => ?_)
  obtain ⟨a26, b26⟩ := h26
  rw [a26, b26]
  refine wk_icmp_ne C.1 86 dL_areAlike_29 (by decide) (fun c_29 => absurd c_29 (fun z => z ((rt_cou hY).2.2.1).symm)) (fun c_29 => ?_)
  refine wk_aload_n C.1 1 dL_areAlike_32 rfl rfl ?_
  refine wk_iconst (v := 5) C.1 dL_areAlike_33 (by first | decide | rfl) ?_
  refine wd_V1 (i := 224) (n := 1) C [.int 5] [] (c_X4_count _ G M σ hR hY.2.1 5) gL_areAlike_X4_count rfl (by decide +kernel) (Nat.le_of_ble_eq_true rfl) (Nat.le_of_ble_eq_true rfl) (by decide) (cell_k (k := 4) (by decide)) rfl rfl rfl (Nat.le_of_ble_eq_true rfl) (Nat.le_of_ble_eq_true rfl) (Nat.le_of_ble_eq_true rfl) dL_areAlike_34 (fun r34 M34 h34 => ?_)
  obtain ⟨a34, b34⟩ := h34
  rw [a34, b34]
  refine wk_aload_n C.1 2 dL_areAlike_37 rfl rfl ?_
  refine wk_iconst (v := 5) C.1 dL_areAlike_38 (by first | decide | rfl) ?_
  refine wd_callVi (F := wd G M) (ad := ad) (i := 224) (n := 1) C [.int 5] [.int (couY σ 5)] (c_X4_count _ (gA G ad) N σ' hR' hY.2.2 5) gL_areAlike_X4_count rfl (by decide +kernel) (Nat.le_of_ble_eq_true rfl) (Nat.le_of_ble_eq_true rfl) (by decide) (cell_k (k := 4) (by decide)) rfl rfl rfl (Nat.le_of_ble_eq_true rfl) (Nat.le_of_ble_eq_true rfl) (Nat.le_of_ble_eq_true rfl) dL_areAlike_39 (fun r39 M39 h39 => ?_)
  obtain ⟨a39, b39⟩ := h39
  rw [a39, b39]
  refine wk_icmp_ne C.1 86 dL_areAlike_42 (by decide) (fun c_42 => absurd c_42 (fun z => z ((rt_cou hY).2.2.2).symm)) (fun c_42 => ?_)
  refine wk_aload_n C.1 1 dL_areAlike_45 rfl rfl ?_
  refine wd_V1 (i := 224) (n := 0) C [] [] (c_X4_density _ G M σ hR hY.2.1 ) gL_areAlike_X4_density rfl (by decide +kernel) (Nat.le_of_ble_eq_true rfl) (Nat.le_of_ble_eq_true rfl) (by decide) (cell_k (k := 4) (by decide)) rfl rfl rfl (Nat.le_of_ble_eq_true rfl) (Nat.le_of_ble_eq_true rfl) (Nat.le_of_ble_eq_true rfl) dL_areAlike_46 (fun r46 M46 h46 => ?_)
  obtain ⟨a46, R46, -⟩ := h46
  rw [a46]
  refine wk_aload_n C.1 2 dL_areAlike_49 rfl rfl ?_
  refine wd_callVi (F := wd G M46) (ad := ad) (i := 224) (n := 0) C [] [.int (denY σ)] (c_X4_density _ (gA G ad) N σ' hR' hY.2.2 ) gL_areAlike_X4_density rfl (by decide +kernel) (Nat.le_of_ble_eq_true rfl) (Nat.le_of_ble_eq_true rfl) (by decide) (cell_k (k := 4) (by decide)) rfl rfl rfl (Nat.le_of_ble_eq_true rfl) (Nat.le_of_ble_eq_true rfl) (Nat.le_of_ble_eq_true rfl) dL_areAlike_50 (fun r50 M50 h50 => ?_)
  obtain ⟨a50, R50, -⟩ := h50
  rw [a50]
  refine wk_icmp_ne C.1 86 dL_areAlike_53 (by decide) (fun c_53 => absurd c_53 (fun z => z (rt_den hY).symm)) (fun c_53 => ?_)
  refine wk_aload_n C.1 1 dL_areAlike_56 rfl rfl ?_
  refine wk_iconst (v := (-1)) C.1 dL_areAlike_57 (by decide) ?_
  refine wd_V1 (i := 224) (n := 1) C [.int (-1)] [] (c_X4_group _ G M46 σ R46 hY.2.1 (-1)) gL_areAlike_X4_group rfl (by decide +kernel) (Nat.le_of_ble_eq_true rfl) (Nat.le_of_ble_eq_true rfl) (by decide) (cell_k (k := 4) (by decide)) rfl rfl rfl (Nat.le_of_ble_eq_true rfl) (Nat.le_of_ble_eq_true rfl) (Nat.le_of_ble_eq_true rfl) dL_areAlike_58 (fun r58 M58 h58 => ?_)
  obtain ⟨a58, b58⟩ := h58
  rw [a58, b58]
  refine wk_aload_n C.1 2 dL_areAlike_61 rfl rfl ?_
  refine wk_iconst (v := (-1)) C.1 dL_areAlike_62 (by decide) ?_
  refine wd_callVi (F := wd G M46) (ad := ad) (i := 224) (n := 1) C [.int (-1)] [.int (groY σ (-1))] (c_X4_group _ (gA G ad) M50 σ' R50 hY.2.2 (-1)) gL_areAlike_X4_group rfl (by decide +kernel) (Nat.le_of_ble_eq_true rfl) (Nat.le_of_ble_eq_true rfl) (by decide) (cell_k (k := 4) (by decide)) rfl rfl rfl (Nat.le_of_ble_eq_true rfl) (Nat.le_of_ble_eq_true rfl) (Nat.le_of_ble_eq_true rfl) dL_areAlike_63 (fun r63 M63 h63 => ?_)
  obtain ⟨a63, b63⟩ := h63
  rw [a63, b63]
  refine wk_icmp_ne C.1 86 dL_areAlike_66 (by decide) (fun c_66 => absurd c_66 (fun z => z (rt_groY hY.1.1 hY.W (-1)).symm)) (fun c_66 => ?_)
  refine wk_aload_n C.1 1 dL_areAlike_69 rfl rfl ?_
  refine wk_iconst (v := 0) C.1 dL_areAlike_70 (by decide) ?_
  refine wd_V1 (i := 224) (n := 1) C [.int 0] [] (c_X4_group _ G M46 σ R46 hY.2.1 0) gL_areAlike_X4_group rfl (by decide +kernel) (Nat.le_of_ble_eq_true rfl) (Nat.le_of_ble_eq_true rfl) (by decide) (cell_k (k := 4) (by decide)) rfl rfl rfl (Nat.le_of_ble_eq_true rfl) (Nat.le_of_ble_eq_true rfl) (Nat.le_of_ble_eq_true rfl) dL_areAlike_71 (fun r71 M71 h71 => ?_)
  obtain ⟨a71, b71⟩ := h71
  rw [a71, b71]
  refine wk_aload_n C.1 2 dL_areAlike_74 rfl rfl ?_
  refine wk_iconst (v := 0) C.1 dL_areAlike_75 (by decide) ?_
  refine wd_callVi (F := wd G M46) (ad := ad) (i := 224) (n := 1) C [.int 0] [.int (groY σ 0)] (c_X4_group _ (gA G ad) M50 σ' R50 hY.2.2 0) gL_areAlike_X4_group rfl (by decide +kernel) (Nat.le_of_ble_eq_true rfl) (Nat.le_of_ble_eq_true rfl) (by decide) (cell_k (k := 4) (by decide)) rfl rfl rfl (Nat.le_of_ble_eq_true rfl) (Nat.le_of_ble_eq_true rfl) (Nat.le_of_ble_eq_true rfl) dL_areAlike_76 (fun r76 M76 h76 => ?_)
  obtain ⟨a76, b76⟩ := h76
  rw [a76, b76]
  refine wk_icmp_ne C.1 86 dL_areAlike_79 (by decide) (fun c_79 => absurd c_79 (fun z => z (rt_groY hY.1.1 hY.W 0).symm)) (fun c_79 => ?_)
  refine wk_iconst (v := 1) C.1 dL_areAlike_82 (by decide) ?_
  refine wk_goto C.1 87 dL_areAlike_83 (by decide) ?_
  refine wk_istore (L' := [(4, .int 1), (3, .int (nI σ.1.1)), (0, .ref (G.2.2.1 224)), (1, .ref (ad 224)), (2, .int v)]) C.1 dL_areAlike_87 (by decide) rfl ?_
  have h134 : ∀ k, k ≤ σ.1.1 → ∀ (M3 N3 : Mem), RC M3 σ → RC N3 σ' → WK x G (A2 G ad sz) 9 0 0 QQ (wd G M3 ++ (wd (gA G ad) N3 ++ [])) 134 [(5, .int (nI k)), (4, .int 1), (3, .int (nI σ.1.1)), (0, .ref (G.2.2.1 224)), (1, .ref (ad 224)), (2, .int v)] [] := by
    refine up_loop σ.1.1 _ (fun k hk ih => ?_)
    intro M3 N3 R3 S3
    refine wk_iload C.1 0 dL_areAlike_134 rfl ?_
    refine wk_iload_n C.1 2 dL_areAlike_136 rfl rfl ?_
    refine wk_icmp_geN C.1 (a := k) (b := σ.1.1) (by omega) (by omega) 559 dL_areAlike_137 (by decide) (fun g => ?_) (fun g => ?_)
    · refine wk_iload C.1 1 dL_areAlike_559 rfl ?_
      exact hret _ _ _ _ _ 561 _ 1 (Nat.le_of_ble_eq_true rfl) (Nat.le_of_ble_eq_true rfl) rfl dL_areAlike_561 ⟨rfl, R3, S3⟩
    · have kb := rt_bof hY (k := k) (by omega)
      refine wk_iload C.1 1 dL_areAlike_140 rfl ?_
      refine wk_if_eq C.1 559 dL_areAlike_142 (by decide) (fun c_142 => absurd c_142 (by decide)) (fun c_142 => ?_)
      refine wk_aload_n C.1 3 dL_areAlike_145 rfl rfl ?_
      refine wk_iload C.1 0 dL_areAlike_146 rfl ?_
      refine wk_bipush (v := nI 8) C.1 dL_areAlike_148 (by decide) ?_
      refine wd_V1 (i := 224) (n := 2) C [.int (nI k), .int (nI 8)] [] (c_X4_bodyOf _ G M3 σ R3 hY.2.1 (nI k) (nI 8)) gL_areAlike_X4_bodyOf rfl (by decide +kernel) (Nat.le_of_ble_eq_true rfl) (Nat.le_of_ble_eq_true rfl) (by decide) (cell_k (k := 4) (by decide)) rfl rfl rfl (Nat.le_of_ble_eq_true rfl) (Nat.le_of_ble_eq_true rfl) (Nat.le_of_ble_eq_true rfl) dL_areAlike_150 (fun r150 M150 h150 => ?_)
      obtain ⟨a150, R150, -⟩ := h150
      rw [a150]
      refine wk_eqi (b := bofV σ.1 k 8) (bofY_in (by omega) h8 (by decide)) ?_
      refine wk_istore (L' := [(6, .int (bofV σ.1 k 8)), (5, .int (nI k)), (4, .int 1), (3, .int (nI σ.1.1)), (0, .ref (G.2.2.1 224)), (1, .ref (ad 224)), (2, .int v)]) C.1 dL_areAlike_153 (by decide) rfl ?_
      refine wk_aload_n C.1 5 dL_areAlike_155 rfl rfl ?_
      refine wk_iload C.1 1 dL_areAlike_156 rfl ?_
      refine wk_bipush (v := nI 8) C.1 dL_areAlike_158 (by decide) ?_
      refine wd_callVi (F := wd G M150) (ad := ad) (i := 224) (n := 2) C [.int (nI k), .int (nI 8)] [] (c_X4_bodyOf _ (gA G ad) N3 σ' S3 hY.2.2 (nI k) (nI 8)) gL_areAlike_X4_bodyOf rfl (by decide +kernel) (Nat.le_of_ble_eq_true rfl) (Nat.le_of_ble_eq_true rfl) (by decide) (cell_k (k := 4) (by decide)) rfl rfl rfl (Nat.le_of_ble_eq_true rfl) (Nat.le_of_ble_eq_true rfl) (Nat.le_of_ble_eq_true rfl) dL_areAlike_160 (fun r160 M160 h160 => ?_)
      obtain ⟨a160, R160, -⟩ := h160
      rw [a160]
      refine wk_eqi (b := bofV σ'.1 k 8) (bofY_in (by rw [hY.n]; omega) (by rw [hY.n]; exact h8) (by decide)) ?_
      refine wk_iload C.1 0 dL_areAlike_163 rfl ?_
      refine wd_S1 (n := 1) C [.int (bofV σ.1 k 8)] [.int (bofV σ'.1 k 8)] (c_L_turned _ G M150 (bofV σ.1 k 8)) gL_areAlike_L_turned rfl (by decide +kernel) (Nat.le_of_ble_eq_true rfl) (Nat.le_of_ble_eq_true rfl) rfl rfl (Nat.le_of_ble_eq_true rfl) (Nat.le_of_ble_eq_true rfl) (Nat.le_of_ble_eq_true rfl) dL_areAlike_165 (fun r165 M165 h165 => ?_)
      obtain ⟨a165, b165⟩ := h165
      rw [a165, b165]
      refine wk_icmp_ne C.1 266 dL_areAlike_168 (by decide) (fun c_168 => absurd c_168 (fun z => z kb.1)) (fun c_168 => ?_)
      refine wk_aload_n C.1 5 dL_areAlike_171 rfl rfl ?_
      refine wk_iload C.1 1 dL_areAlike_172 rfl ?_
      refine wk_bipush (v := nI 6) C.1 dL_areAlike_174 (by decide) ?_
      refine wd_callVi (F := wd G M150) (ad := ad) (i := 224) (n := 2) C [.int (nI k), .int (nI 6)] [] (c_X4_bodyOf _ (gA G ad) M160 σ' R160 hY.2.2 (nI k) (nI 6)) gL_areAlike_X4_bodyOf rfl (by decide +kernel) (Nat.le_of_ble_eq_true rfl) (Nat.le_of_ble_eq_true rfl) (by decide) (cell_k (k := 4) (by decide)) rfl rfl rfl (Nat.le_of_ble_eq_true rfl) (Nat.le_of_ble_eq_true rfl) (Nat.le_of_ble_eq_true rfl) dL_areAlike_176 (fun r176 M176 h176 => ?_)
      obtain ⟨a176, R176, -⟩ := h176
      rw [a176]
      refine wk_eqi (b := bofV σ'.1 k 6) (bofY_in (by rw [hY.n]; omega) (by rw [hY.n]; exact h8) (by decide)) ?_
      refine wk_aload_n C.1 4 dL_areAlike_179 rfl rfl ?_
      refine wk_iload C.1 1 dL_areAlike_180 rfl ?_
      refine wk_bipush (v := nI 6) C.1 dL_areAlike_182 (by decide) ?_
      refine wd_V1 (i := 224) (n := 2) C [.int (nI k), .int (nI 6)] [.int (bofV σ'.1 k 6)] (c_X4_bodyOf _ G M150 σ R150 hY.2.1 (nI k) (nI 6)) gL_areAlike_X4_bodyOf rfl (by decide +kernel) (Nat.le_of_ble_eq_true rfl) (Nat.le_of_ble_eq_true rfl) (by decide) (cell_k (k := 4) (by decide)) rfl rfl rfl (Nat.le_of_ble_eq_true rfl) (Nat.le_of_ble_eq_true rfl) (Nat.le_of_ble_eq_true rfl) dL_areAlike_184 (fun r184 M184 h184 => ?_)
      obtain ⟨a184, R184, -⟩ := h184
      rw [a184]
      refine wk_eqi (b := bofV σ.1 k 6) (bofY_in (by omega) h8 (by decide)) ?_
      refine wd_S1 (n := 1) C [.int (bofV σ.1 k 6)] [.int (bofV σ'.1 k 6)] (c_L_walls _ G M184 (bofV σ.1 k 6)) gL_areAlike_L_walls rfl (by decide +kernel) (Nat.le_of_ble_eq_true rfl) (Nat.le_of_ble_eq_true rfl) rfl rfl (Nat.le_of_ble_eq_true rfl) (Nat.le_of_ble_eq_true rfl) (Nat.le_of_ble_eq_true rfl) dL_areAlike_187 (fun r187 M187 h187 => ?_)
      obtain ⟨a187, b187⟩ := h187
      rw [a187, b187]
      refine wk_icmp_ne C.1 266 dL_areAlike_190 (by decide) (fun c_190 => absurd c_190 (fun z => z kb.2.1)) (fun c_190 => ?_)
      refine wk_aload_n C.1 5 dL_areAlike_193 rfl rfl ?_
      refine wk_iload C.1 1 dL_areAlike_194 rfl ?_
      refine wk_bipush (v := nI 7) C.1 dL_areAlike_196 (by decide) ?_
      refine wd_callVi (F := wd G M184) (ad := ad) (i := 224) (n := 2) C [.int (nI k), .int (nI 7)] [] (c_X4_bodyOf _ (gA G ad) M176 σ' R176 hY.2.2 (nI k) (nI 7)) gL_areAlike_X4_bodyOf rfl (by decide +kernel) (Nat.le_of_ble_eq_true rfl) (Nat.le_of_ble_eq_true rfl) (by decide) (cell_k (k := 4) (by decide)) rfl rfl rfl (Nat.le_of_ble_eq_true rfl) (Nat.le_of_ble_eq_true rfl) (Nat.le_of_ble_eq_true rfl) dL_areAlike_198 (fun r198 M198 h198 => ?_)
      obtain ⟨a198, R198, -⟩ := h198
      rw [a198]
      refine wk_eqi (b := bofV σ'.1 k 7) (bofY_in (by rw [hY.n]; omega) (by rw [hY.n]; exact h8) (by decide)) ?_
      refine wk_aload_n C.1 4 dL_areAlike_201 rfl rfl ?_
      refine wk_iload C.1 1 dL_areAlike_202 rfl ?_
      refine wk_bipush (v := nI 7) C.1 dL_areAlike_204 (by decide) ?_
      refine wd_V1 (i := 224) (n := 2) C [.int (nI k), .int (nI 7)] [.int (bofV σ'.1 k 7)] (c_X4_bodyOf _ G M184 σ R184 hY.2.1 (nI k) (nI 7)) gL_areAlike_X4_bodyOf rfl (by decide +kernel) (Nat.le_of_ble_eq_true rfl) (Nat.le_of_ble_eq_true rfl) (by decide) (cell_k (k := 4) (by decide)) rfl rfl rfl (Nat.le_of_ble_eq_true rfl) (Nat.le_of_ble_eq_true rfl) (Nat.le_of_ble_eq_true rfl) dL_areAlike_206 (fun r206 M206 h206 => ?_)
      obtain ⟨a206, R206, -⟩ := h206
      rw [a206]
      refine wk_eqi (b := bofV σ.1 k 7) (bofY_in (by omega) h8 (by decide)) ?_
      refine wk_icmp_ne C.1 266 dL_areAlike_209 (by decide) (fun c_209 => absurd c_209 (fun z => z kb.2.2.1)) (fun c_209 => ?_)
      refine wk_aload_n C.1 4 dL_areAlike_212 rfl rfl ?_
      refine wk_iload C.1 1 dL_areAlike_213 rfl ?_
      refine wk_iconst (v := nI 1) C.1 dL_areAlike_215 (by first | decide | rfl) ?_
      refine wd_V1 (i := 224) (n := 2) C [.int (nI k), .int (nI 1)] [] (c_X4_bodyOf _ G M206 σ R206 hY.2.1 (nI k) (nI 1)) gL_areAlike_X4_bodyOf rfl (by decide +kernel) (Nat.le_of_ble_eq_true rfl) (Nat.le_of_ble_eq_true rfl) (by decide) (cell_k (k := 4) (by decide)) rfl rfl rfl (Nat.le_of_ble_eq_true rfl) (Nat.le_of_ble_eq_true rfl) (Nat.le_of_ble_eq_true rfl) dL_areAlike_216 (fun r216 M216 h216 => ?_)
      obtain ⟨a216, R216, -⟩ := h216
      rw [a216]
      refine wk_eqi (b := bofV σ.1 k 1) (bofY_in (by omega) h8 (by decide)) ?_
      refine wk_aload_n C.1 5 dL_areAlike_219 rfl rfl ?_
      refine wk_iload C.1 1 dL_areAlike_220 rfl ?_
      refine wk_iconst (v := nI 1) C.1 dL_areAlike_222 (by first | decide | rfl) ?_
      refine wd_callVi (F := wd G M216) (ad := ad) (i := 224) (n := 2) C [.int (nI k), .int (nI 1)] [.int (bofV σ.1 k 1)] (c_X4_bodyOf _ (gA G ad) M198 σ' R198 hY.2.2 (nI k) (nI 1)) gL_areAlike_X4_bodyOf rfl (by decide +kernel) (Nat.le_of_ble_eq_true rfl) (Nat.le_of_ble_eq_true rfl) (by decide) (cell_k (k := 4) (by decide)) rfl rfl rfl (Nat.le_of_ble_eq_true rfl) (Nat.le_of_ble_eq_true rfl) (Nat.le_of_ble_eq_true rfl) dL_areAlike_223 (fun r223 M223 h223 => ?_)
      obtain ⟨a223, R223, -⟩ := h223
      rw [a223]
      refine wk_eqi (b := bofV σ'.1 k 1) (bofY_in (by rw [hY.n]; omega) (by rw [hY.n]; exact h8) (by decide)) ?_
      refine wk_icmp_ne C.1 266 dL_areAlike_226 (by decide) (fun c_226 => absurd c_226 (fun z => z kb.2.2.2.1.symm)) (fun c_226 => ?_)
      refine wk_aload_n C.1 4 dL_areAlike_229 rfl rfl ?_
      refine wk_iload C.1 1 dL_areAlike_230 rfl ?_
      refine wk_bipush (v := nI 9) C.1 dL_areAlike_232 (by decide) ?_
      refine wd_V1 (i := 224) (n := 2) C [.int (nI k), .int (nI 9)] [] (c_X4_bodyOf _ G M216 σ R216 hY.2.1 (nI k) (nI 9)) gL_areAlike_X4_bodyOf rfl (by decide +kernel) (Nat.le_of_ble_eq_true rfl) (Nat.le_of_ble_eq_true rfl) (by decide) (cell_k (k := 4) (by decide)) rfl rfl rfl (Nat.le_of_ble_eq_true rfl) (Nat.le_of_ble_eq_true rfl) (Nat.le_of_ble_eq_true rfl) dL_areAlike_234 (fun r234 M234 h234 => ?_)
      obtain ⟨a234, R234, -⟩ := h234
      rw [a234]
      refine wk_eqi (b := bofV σ.1 k 9) (bofY_in (by omega) h8 (by decide)) ?_
      have h269 : WK x G (A2 G ad sz) 9 0 0 QQ (wd G M234 ++ (wd (gA G ad) M223 ++ [])) 269 [(4, .int 1), (6, .int (bofV σ.1 k 8)), (5, .int (nI k)), (3, .int (nI σ.1.1)), (0, .ref (G.2.2.1 224)), (1, .ref (ad 224)), (2, .int v)] [] := by
        have h272 : ∀ j, j ≤ σ.1.1 → ∀ (M4 N4 : Mem), RC M4 σ → RC N4 σ' → WK x G (A2 G ad sz) 9 0 0 QQ (wd G M4 ++ (wd (gA G ad) N4 ++ [])) 272 [(7, .int (nI j)), (4, .int 1), (6, .int (bofV σ.1 k 8)), (5, .int (nI k)), (3, .int (nI σ.1.1)), (0, .ref (G.2.2.1 224)), (1, .ref (ad 224)), (2, .int v)] [] := by
          refine up_loop σ.1.1 _ (fun j hj ih2 => ?_)
          intro M4 N4 R4 S4
          refine wk_iload C.1 0 dL_areAlike_272 rfl ?_
          refine wk_iload_n C.1 4 dL_areAlike_274 rfl rfl ?_
          refine wk_icmp_geN C.1 (a := j) (b := σ.1.1) (by omega) (by omega) 395 dL_areAlike_275 (by decide) (fun g2 => ?_) (fun g2 => ?_)
          · skip
            refine wk_iload_n C.1 7 dL_areAlike_395 rfl rfl ?_
            refine wk_iconst (v := 3) C.1 dL_areAlike_396 (by first | decide | rfl) ?_
            refine wk_ishr C.1 dL_areAlike_397 ?_
            refine wk_bipush (v := nI 8) C.1 dL_areAlike_398 (by decide) ?_
            refine wd_S1 (n := 2) C [.int (v >>> ((3 : Int32) &&& 31)), .int (nI 8)] [] (c_L_up _ G M4 (v >>> ((3 : Int32) &&& 31)) 8 (by omega) (by omega)) gL_areAlike_L_up rfl (by decide +kernel) (Nat.le_of_ble_eq_true rfl) (Nat.le_of_ble_eq_true rfl) rfl rfl (Nat.le_of_ble_eq_true rfl) (Nat.le_of_ble_eq_true rfl) (Nat.le_of_ble_eq_true rfl) dL_areAlike_400 (fun r400 M400 h400 => ?_)
            obtain ⟨a400, b400⟩ := h400
            rw [a400, b400]
            obtain ⟨d, ed⟩ : ∃ z : Nat, z = upN (v >>> ((3 : Int32) &&& 31)) 8 := ⟨_, rfl⟩
            have hd : d < 8 := by rw [ed]; exact upN_lt (by decide)
            rw [← ed]
            have kw := rt_way hY (k := k) (d := d) (by omega) hd
            refine wk_istore (L' := [(7, .int (nI d)), (4, .int 1), (6, .int (bofV σ.1 k 8)), (5, .int (nI k)), (3, .int (nI σ.1.1)), (0, .ref (G.2.2.1 224)), (1, .ref (ad 224)), (2, .int v)]) C.1 dL_areAlike_403 (by decide) rfl ?_
            refine wk_aload_n C.1 5 dL_areAlike_405 rfl rfl ?_
            refine wk_iload C.1 3 dL_areAlike_406 rfl ?_
            refine wk_iload C.1 0 dL_areAlike_408 rfl ?_
            refine wk_iconst (v := nI 0) C.1 dL_areAlike_410 (by first | decide | rfl) ?_
            refine wd_V1 (i := 224) (n := 3) C [.int (nI k), .int (nI d), .int (nI 0)] [] (c_X4_way _ G M4 σ R4 hY.2.1 (nI k) (nI d) (nI 0)) gL_areAlike_X4_way rfl (by decide +kernel) (Nat.le_of_ble_eq_true rfl) (Nat.le_of_ble_eq_true rfl) (by decide) (cell_k (k := 4) (by decide)) rfl rfl rfl (Nat.le_of_ble_eq_true rfl) (Nat.le_of_ble_eq_true rfl) (Nat.le_of_ble_eq_true rfl) dL_areAlike_411 (fun r411 M411 h411 => ?_)
            obtain ⟨a411, R411, -⟩ := h411
            rw [a411]
            refine wk_eqi (b := wayV σ.1 k d (nI 0)) (wayY_in (by omega) h8 hd (by decide)) ?_
            refine wk_istore (L' := [(8, .int (wayV σ.1 k d (nI 0))), (7, .int (nI d)), (4, .int 1), (6, .int (bofV σ.1 k 8)), (5, .int (nI k)), (3, .int (nI σ.1.1)), (0, .ref (G.2.2.1 224)), (1, .ref (ad 224)), (2, .int v)]) C.1 dL_areAlike_414 (by decide) rfl ?_
            refine wk_iload C.1 2 dL_areAlike_416 rfl ?_
            refine wk_if_eq C.1 550 dL_areAlike_418 (by decide) (fun c_418 => absurd c_418 (by decide)) (fun c_418 => ?_)
            refine wk_iload C.1 0 dL_areAlike_421 rfl ?_
            refine wk_aload_n C.1 7 dL_areAlike_423 rfl rfl ?_
            refine wk_iload C.1 4 dL_areAlike_424 rfl ?_
            refine wk_iload C.1 1 dL_areAlike_426 rfl ?_
            refine wk_iconst (v := nI 2) C.1 dL_areAlike_428 (by first | decide | rfl) ?_
            refine wk_iadd C.1 dL_areAlike_429 ?_
            refine wk_eqi (b := nI (d + 2)) (nI_add d 2) ?_
            refine wk_bipush (v := nI 8) C.1 dL_areAlike_430 (by decide) ?_
            refine wk_irem C.1 dL_areAlike_432 (by decide) ?_
            refine wk_eqi (b := nI (d2 d)) (pk_rem (by omega) (by decide) (by decide)) ?_
            refine wk_iconst (v := nI 0) C.1 dL_areAlike_433 (by first | decide | rfl) ?_
            refine wd_callVi (F := wd G M411) (ad := ad) (i := 224) (n := 3) C [.int (nI k), .int (nI (d2 d)), .int (nI 0)] [.int (wayV σ.1 k d (nI 0))] (c_X4_way _ (gA G ad) N4 σ' S4 hY.2.2 (nI k) (nI (d2 d)) (nI 0)) gL_areAlike_X4_way rfl (by decide +kernel) (Nat.le_of_ble_eq_true rfl) (Nat.le_of_ble_eq_true rfl) (by decide) (cell_k (k := 4) (by decide)) rfl rfl rfl (Nat.le_of_ble_eq_true rfl) (Nat.le_of_ble_eq_true rfl) (Nat.le_of_ble_eq_true rfl) dL_areAlike_434 (fun r434 M434 h434 => ?_)
            obtain ⟨a434, R434, -⟩ := h434
            rw [a434]
            refine wk_eqi (b := wayV σ'.1 k (d2 d) (nI 0)) (wayY_in (by rw [hY.n]; omega) (by rw [hY.n]; exact h8) (d2_lt d) (by decide)) ?_
            refine wk_icmp_ne C.1 550 dL_areAlike_437 (by decide) (fun c_437 => absurd c_437 (fun z => z kw.1.symm)) (fun c_437 => ?_)
            refine wk_aload_n C.1 6 dL_areAlike_440 rfl rfl ?_
            refine wk_iload C.1 4 dL_areAlike_441 rfl ?_
            refine wk_iload C.1 1 dL_areAlike_443 rfl ?_
            refine wk_iconst (v := nI 1) C.1 dL_areAlike_445 (by first | decide | rfl) ?_
            refine wd_V1 (i := 224) (n := 3) C [.int (nI k), .int (nI d), .int (nI 1)] [] (c_X4_way _ G M411 σ R411 hY.2.1 (nI k) (nI d) (nI 1)) gL_areAlike_X4_way rfl (by decide +kernel) (Nat.le_of_ble_eq_true rfl) (Nat.le_of_ble_eq_true rfl) (by decide) (cell_k (k := 4) (by decide)) rfl rfl rfl (Nat.le_of_ble_eq_true rfl) (Nat.le_of_ble_eq_true rfl) (Nat.le_of_ble_eq_true rfl) dL_areAlike_446 (fun r446 M446 h446 => ?_)
            obtain ⟨a446, R446, -⟩ := h446
            rw [a446]
            refine wk_eqi (b := wayV σ.1 k d (nI 1)) (wayY_in (by omega) h8 hd (by decide)) ?_
            refine wk_aload_n C.1 7 dL_areAlike_449 rfl rfl ?_
            refine wk_iload C.1 4 dL_areAlike_450 rfl ?_
            refine wk_iload C.1 1 dL_areAlike_452 rfl ?_
            refine wk_iconst (v := nI 2) C.1 dL_areAlike_454 (by first | decide | rfl) ?_
            refine wk_iadd C.1 dL_areAlike_455 ?_
            refine wk_eqi (b := nI (d + 2)) (nI_add d 2) ?_
            refine wk_bipush (v := nI 8) C.1 dL_areAlike_456 (by decide) ?_
            refine wk_irem C.1 dL_areAlike_458 (by decide) ?_
            refine wk_eqi (b := nI (d2 d)) (pk_rem (by omega) (by decide) (by decide)) ?_
            refine wk_iconst (v := nI 1) C.1 dL_areAlike_459 (by first | decide | rfl) ?_
            refine wd_callVi (F := wd G M446) (ad := ad) (i := 224) (n := 3) C [.int (nI k), .int (nI (d2 d)), .int (nI 1)] [.int (wayV σ.1 k d (nI 1))] (c_X4_way _ (gA G ad) M434 σ' R434 hY.2.2 (nI k) (nI (d2 d)) (nI 1)) gL_areAlike_X4_way rfl (by decide +kernel) (Nat.le_of_ble_eq_true rfl) (Nat.le_of_ble_eq_true rfl) (by decide) (cell_k (k := 4) (by decide)) rfl rfl rfl (Nat.le_of_ble_eq_true rfl) (Nat.le_of_ble_eq_true rfl) (Nat.le_of_ble_eq_true rfl) dL_areAlike_460 (fun r460 M460 h460 => ?_)
            obtain ⟨a460, R460, -⟩ := h460
            rw [a460]
            refine wk_eqi (b := wayV σ'.1 k (d2 d) (nI 1)) (wayY_in (by rw [hY.n]; omega) (by rw [hY.n]; exact h8) (d2_lt d) (by decide)) ?_
            refine wk_icmp_ne C.1 550 dL_areAlike_463 (by decide) (fun c_463 => absurd c_463 (fun z => z kw.2.1.symm)) (fun c_463 => ?_)
            refine wk_aload_n C.1 6 dL_areAlike_466 rfl rfl ?_
            refine wk_iload C.1 4 dL_areAlike_467 rfl ?_
            refine wk_iload C.1 1 dL_areAlike_469 rfl ?_
            refine wk_iconst (v := nI 2) C.1 dL_areAlike_471 (by first | decide | rfl) ?_
            refine wd_V1 (i := 224) (n := 3) C [.int (nI k), .int (nI d), .int (nI 2)] [] (c_X4_way _ G M446 σ R446 hY.2.1 (nI k) (nI d) (nI 2)) gL_areAlike_X4_way rfl (by decide +kernel) (Nat.le_of_ble_eq_true rfl) (Nat.le_of_ble_eq_true rfl) (by decide) (cell_k (k := 4) (by decide)) rfl rfl rfl (Nat.le_of_ble_eq_true rfl) (Nat.le_of_ble_eq_true rfl) (Nat.le_of_ble_eq_true rfl) dL_areAlike_472 (fun r472 M472 h472 => ?_)
            obtain ⟨a472, R472, -⟩ := h472
            rw [a472]
            refine wk_eqi (b := wayV σ.1 k d (nI 2)) (wayY_in (by omega) h8 hd (by decide)) ?_
            refine wd_S1 (n := 1) C [.int (wayV σ.1 k d (nI 2))] [] (c_L_walls _ G M472 (wayV σ.1 k d (nI 2))) gL_areAlike_L_walls rfl (by decide +kernel) (Nat.le_of_ble_eq_true rfl) (Nat.le_of_ble_eq_true rfl) rfl rfl (Nat.le_of_ble_eq_true rfl) (Nat.le_of_ble_eq_true rfl) (Nat.le_of_ble_eq_true rfl) dL_areAlike_475 (fun r475 M475 h475 => ?_)
            obtain ⟨a475, b475⟩ := h475
            rw [a475, b475]
            refine wk_aload_n C.1 7 dL_areAlike_478 rfl rfl ?_
            refine wk_iload C.1 4 dL_areAlike_479 rfl ?_
            refine wk_iload C.1 1 dL_areAlike_481 rfl ?_
            refine wk_iconst (v := nI 2) C.1 dL_areAlike_483 (by first | decide | rfl) ?_
            refine wk_iadd C.1 dL_areAlike_484 ?_
            refine wk_eqi (b := nI (d + 2)) (nI_add d 2) ?_
            refine wk_bipush (v := nI 8) C.1 dL_areAlike_485 (by decide) ?_
            refine wk_irem C.1 dL_areAlike_487 (by decide) ?_
            refine wk_eqi (b := nI (d2 d)) (pk_rem (by omega) (by decide) (by decide)) ?_
            refine wk_iconst (v := nI 2) C.1 dL_areAlike_488 (by first | decide | rfl) ?_
            refine wd_callVi (F := wd G M472) (ad := ad) (i := 224) (n := 3) C [.int (nI k), .int (nI (d2 d)), .int (nI 2)] [.int (waV (wayV σ.1 k d (nI 2)))] (c_X4_way _ (gA G ad) M460 σ' R460 hY.2.2 (nI k) (nI (d2 d)) (nI 2)) gL_areAlike_X4_way rfl (by decide +kernel) (Nat.le_of_ble_eq_true rfl) (Nat.le_of_ble_eq_true rfl) (by decide) (cell_k (k := 4) (by decide)) rfl rfl rfl (Nat.le_of_ble_eq_true rfl) (Nat.le_of_ble_eq_true rfl) (Nat.le_of_ble_eq_true rfl) dL_areAlike_489 (fun r489 M489 h489 => ?_)
            obtain ⟨a489, R489, -⟩ := h489
            rw [a489]
            refine wk_eqi (b := wayV σ'.1 k (d2 d) (nI 2)) (wayY_in (by rw [hY.n]; omega) (by rw [hY.n]; exact h8) (d2_lt d) (by decide)) ?_
            refine wk_icmp_ne C.1 550 dL_areAlike_492 (by decide) (fun c_492 => absurd c_492 (fun z => z kw.2.2.symm)) (fun c_492 => ?_)
            refine wk_iload C.1 0 dL_areAlike_495 rfl ?_
            have kbit := way_bit (s := σ.1) (k := k) hd
            have h524 : WK x G (A2 G ad sz) 9 0 0 QQ (wd G M472 ++ (wd (gA G ad) M489 ++ [])) 524 [(8, .int (wayV σ.1 k d (nI 0))), (7, .int (nI d)), (4, .int 1), (6, .int (bofV σ.1 k 8)), (5, .int (nI k)), (3, .int (nI σ.1.1)), (0, .ref (G.2.2.1 224)), (1, .ref (ad 224)), (2, .int v)] [] := by
              refine wk_aload_n C.1 6 dL_areAlike_524 rfl rfl ?_
              refine wk_iload C.1 4 dL_areAlike_525 rfl ?_
              refine wk_iload C.1 1 dL_areAlike_527 rfl ?_
              refine wk_iconst (v := nI 1) C.1 dL_areAlike_529 (by first | decide | rfl) ?_
              refine wd_V1 (i := 224) (n := 3) C [.int (nI k), .int (nI d), .int (nI 1)] [] (c_X4_way _ G M472 σ R472 hY.2.1 (nI k) (nI d) (nI 1)) gL_areAlike_X4_way rfl (by decide +kernel) (Nat.le_of_ble_eq_true rfl) (Nat.le_of_ble_eq_true rfl) (by decide) (cell_k (k := 4) (by decide)) rfl rfl rfl (Nat.le_of_ble_eq_true rfl) (Nat.le_of_ble_eq_true rfl) (Nat.le_of_ble_eq_true rfl) dL_areAlike_530 (fun r530 M530 h530 => ?_)
              obtain ⟨a530, R530, -⟩ := h530
              rw [a530]
              refine wk_eqi (b := wayV σ.1 k d (nI 1)) (wayY_in (by omega) h8 hd (by decide)) ?_
              refine wk_aload_n C.1 6 dL_areAlike_533 rfl rfl ?_
              refine wk_iload C.1 4 dL_areAlike_534 rfl ?_
              refine wk_iload C.1 1 dL_areAlike_536 rfl ?_
              refine wk_iconst (v := nI 2) C.1 dL_areAlike_538 (by first | decide | rfl) ?_
              refine wd_V1 (i := 224) (n := 3) C [.int (nI k), .int (nI d), .int (nI 2)] [.int (wayV σ.1 k d (nI 1))] (c_X4_way _ G M530 σ R530 hY.2.1 (nI k) (nI d) (nI 2)) gL_areAlike_X4_way rfl (by decide +kernel) (Nat.le_of_ble_eq_true rfl) (Nat.le_of_ble_eq_true rfl) (by decide) (cell_k (k := 4) (by decide)) rfl rfl rfl (Nat.le_of_ble_eq_true rfl) (Nat.le_of_ble_eq_true rfl) (Nat.le_of_ble_eq_true rfl) dL_areAlike_539 (fun r539 M539 h539 => ?_)
              obtain ⟨a539, R539, -⟩ := h539
              rw [a539]
              refine wk_eqi (b := wayV σ.1 k d (nI 2)) (wayY_in (by omega) h8 hd (by decide)) ?_
              refine wk_iadd C.1 dL_areAlike_542 ?_
              refine wk_if_le C.1 550 dL_areAlike_543 (by decide) (fun c_543 => absurd c_543 (fun z => absurd (show 0 < wayV σ.1 k d (nI 1) + wayV σ.1 k d (nI 2) from way_pos hY.W h8 (by omega) hd) (Int32.not_lt.mpr z))) (fun c_543 => ?_)
              refine wk_iconst (v := 1) C.1 dL_areAlike_546 (by decide) ?_
              refine wk_goto C.1 551 dL_areAlike_547 (by decide) ?_
              refine wk_istore (L' := [(4, .int 1), (8, .int (wayV σ.1 k d (nI 0))), (7, .int (nI d)), (6, .int (bofV σ.1 k 8)), (5, .int (nI k)), (3, .int (nI σ.1.1)), (0, .ref (G.2.2.1 224)), (1, .ref (ad 224)), (2, .int v)]) C.1 dL_areAlike_551 (by decide) rfl ?_
              refine wk_iinc1 (k := k) (L' := [(5, .int (nI (k + 1))), (4, .int 1), (8, .int (wayV σ.1 k d (nI 0))), (7, .int (nI d)), (6, .int (bofV σ.1 k 8)), (3, .int (nI σ.1.1)), (0, .ref (G.2.2.1 224)), (1, .ref (ad 224)), (2, .int v)]) C.1 4 dL_areAlike_553 rfl (by decide) rfl ?_
              refine wk_goto C.1 134 dL_areAlike_556 (by decide) ?_
              refine wk_sub (L' := [(5, .int (nI (k + 1))), (4, .int 1), (3, .int (nI σ.1.1)), (0, .ref (G.2.2.1 224)), (1, .ref (ad 224)), (2, .int v)]) [0, 1, 5, 6, 7, 8] rfl ?_
              exact ih (by omega) M539 M489 R539 R489
            refine wk_if_le C.1 504 dL_areAlike_497 (by decide) (fun g3 => ?_) (fun g3 => ?_)
            · refine wk_iconst (v := 0) C.1 dL_areAlike_504 (by decide) ?_
              refine wk_iload C.1 3 dL_areAlike_505 rfl ?_
              refine wk_iload C.1 1 dL_areAlike_507 rfl ?_
              refine wk_ishr C.1 dL_areAlike_509 ?_
              refine wk_iconst (v := 1) C.1 dL_areAlike_510 (by first | decide | rfl) ?_
              refine wk_iand C.1 dL_areAlike_511 ?_
              refine wk_iconst (v := 1) C.1 dL_areAlike_512 (by first | decide | rfl) ?_
              refine wk_icmp_ne C.1 520 dL_areAlike_513 (by decide) (fun z => ?_) (fun z => ?_)
              · refine wk_iconst (v := 0) C.1 dL_areAlike_520 (by decide) ?_
                refine wk_icmp_ne C.1 550 dL_areAlike_521 (by decide) (fun z => absurd rfl z) (fun _ => ?_)
                exact h524
              · exact absurd (kbit.mpr z) (Int32.not_lt.mpr g3)
            · replace g3 := Int32.not_le.mp g3
              refine wk_iconst (v := 1) C.1 dL_areAlike_500 (by decide) ?_
              refine wk_goto C.1 505 dL_areAlike_501 (by decide) ?_
              refine wk_iload C.1 3 dL_areAlike_505 rfl ?_
              refine wk_iload C.1 1 dL_areAlike_507 rfl ?_
              refine wk_ishr C.1 dL_areAlike_509 ?_
              refine wk_iconst (v := 1) C.1 dL_areAlike_510 (by first | decide | rfl) ?_
              refine wk_iand C.1 dL_areAlike_511 ?_
              refine wk_iconst (v := 1) C.1 dL_areAlike_512 (by first | decide | rfl) ?_
              refine wk_icmp_ne C.1 520 dL_areAlike_513 (by decide) (fun z => ?_) (fun z => ?_)
              · exact absurd (kbit.mp g3) z
              · refine wk_iconst (v := 1) C.1 dL_areAlike_516 (by decide) ?_
                refine wk_goto C.1 521 dL_areAlike_517 (by decide) ?_
                refine wk_icmp_ne C.1 550 dL_areAlike_521 (by decide) (fun z => absurd rfl z) (fun _ => ?_)
                exact h524
          · skip
            refine wk_iload C.1 1 dL_areAlike_278 rfl ?_
            refine wk_if_eq C.1 395 dL_areAlike_280 (by decide) (fun c_280 => absurd c_280 (by decide)) (fun c_280 => ?_)
            refine wk_iload C.1 0 dL_areAlike_283 rfl ?_
            refine wk_iload C.1 3 dL_areAlike_285 rfl ?_
            have h382 : ∀ (M5 N5 : Mem), RC M5 σ → RC N5 σ' → WK x G (A2 G ad sz) 9 0 0 QQ (wd G M5 ++ (wd (gA G ad) N5 ++ [])) 382 [(7, .int (nI j)), (4, .int 1), (6, .int (bofV σ.1 k 8)), (5, .int (nI k)), (3, .int (nI σ.1.1)), (0, .ref (G.2.2.1 224)), (1, .ref (ad 224)), (2, .int v)] [] := by
              intro M5 N5 R5 S5
              refine wk_iconst (v := 1) C.1 dL_areAlike_382 (by decide) ?_
              refine wk_goto C.1 387 dL_areAlike_383 (by decide) ?_
              refine wk_istore (L' := [(4, .int 1), (7, .int (nI j)), (6, .int (bofV σ.1 k 8)), (5, .int (nI k)), (3, .int (nI σ.1.1)), (0, .ref (G.2.2.1 224)), (1, .ref (ad 224)), (2, .int v)]) C.1 dL_areAlike_387 (by decide) rfl ?_
              refine wk_iinc1 (k := j) (L' := [(7, .int (nI (j + 1))), (4, .int 1), (6, .int (bofV σ.1 k 8)), (5, .int (nI k)), (3, .int (nI σ.1.1)), (0, .ref (G.2.2.1 224)), (1, .ref (ad 224)), (2, .int v)]) C.1 1 dL_areAlike_389 rfl (by decide) rfl ?_
              refine wk_goto C.1 272 dL_areAlike_392 (by decide) ?_
              refine wk_sub (L' := [(7, .int (nI (j + 1))), (4, .int 1), (6, .int (bofV σ.1 k 8)), (5, .int (nI k)), (3, .int (nI σ.1.1)), (0, .ref (G.2.2.1 224)), (1, .ref (ad 224)), (2, .int v)]) [0, 1, 2, 3, 4, 5, 6, 7] rfl ?_
              exact ih2 (by omega) M5 N5 R5 S5
            refine wk_icmp_eqN C.1 (a := j) (b := k) (by omega) (by omega) 382 dL_areAlike_287 (by decide) (fun _ => h382 M4 N4 R4 S4) (fun g3 => ?_)
            refine wk_aload_n C.1 5 dL_areAlike_290 rfl rfl ?_
            refine wk_iload C.1 3 dL_areAlike_291 rfl ?_
            refine wk_bipush (v := nI 7) C.1 dL_areAlike_293 (by decide) ?_
            refine wd_V1 (i := 224) (n := 2) C [.int (nI k), .int (nI 7)] [] (c_X4_bodyOf _ G M4 σ R4 hY.2.1 (nI k) (nI 7)) gL_areAlike_X4_bodyOf rfl (by decide +kernel) (Nat.le_of_ble_eq_true rfl) (Nat.le_of_ble_eq_true rfl) (by decide) (cell_k (k := 4) (by decide)) rfl rfl rfl (Nat.le_of_ble_eq_true rfl) (Nat.le_of_ble_eq_true rfl) (Nat.le_of_ble_eq_true rfl) dL_areAlike_295 (fun r295 M295 h295 => ?_)
            obtain ⟨a295, R295, -⟩ := h295
            rw [a295]
            refine wk_eqi (b := bofV σ.1 k 7) (bofY_in (by omega) h8 (by decide)) ?_
            refine wk_iload C.1 0 dL_areAlike_298 rfl ?_
            refine wk_ishr C.1 dL_areAlike_300 ?_
            refine wk_iconst (v := 1) C.1 dL_areAlike_301 (by first | decide | rfl) ?_
            refine wk_iand C.1 dL_areAlike_302 ?_
            refine wk_aload_n C.1 5 dL_areAlike_303 rfl rfl ?_
            refine wk_iload C.1 0 dL_areAlike_304 rfl ?_
            refine wk_bipush (v := nI 7) C.1 dL_areAlike_306 (by decide) ?_
            refine wd_V1 (i := 224) (n := 2) C [.int (nI j), .int (nI 7)] [.int (((bofV σ.1 k 7) >>> ((nI j) &&& 31)) &&& 1)] (c_X4_bodyOf _ G M295 σ R295 hY.2.1 (nI j) (nI 7)) gL_areAlike_X4_bodyOf rfl (by decide +kernel) (Nat.le_of_ble_eq_true rfl) (Nat.le_of_ble_eq_true rfl) (by decide) (cell_k (k := 4) (by decide)) rfl rfl rfl (Nat.le_of_ble_eq_true rfl) (Nat.le_of_ble_eq_true rfl) (Nat.le_of_ble_eq_true rfl) dL_areAlike_308 (fun r308 M308 h308 => ?_)
            obtain ⟨a308, R308, -⟩ := h308
            rw [a308]
            refine wk_eqi (b := bofV σ.1 j 7) (bofY_in (by omega) h8 (by decide)) ?_
            refine wk_iload C.1 3 dL_areAlike_311 rfl ?_
            refine wk_ishr C.1 dL_areAlike_313 ?_
            refine wk_iconst (v := 1) C.1 dL_areAlike_314 (by first | decide | rfl) ?_
            refine wk_iand C.1 dL_areAlike_315 ?_
            refine wk_icmp_ne C.1 386 dL_areAlike_316 (by decide) (fun c_316 => absurd c_316 (fun z => z ((tc_bit h8 (by omega)).trans ((congrArg bi (tcF_comm σ.1 k j)).trans (tc_bit h8 (by omega)).symm)))) (fun c_316 => ?_)
            refine wk_aload_n C.1 5 dL_areAlike_319 rfl rfl ?_
            refine wk_iload C.1 3 dL_areAlike_320 rfl ?_
            refine wk_iload C.1 0 dL_areAlike_322 rfl ?_
            refine wk_iconst (v := nI 0) C.1 dL_areAlike_324 (by first | decide | rfl) ?_
            refine wd_V1 (i := 224) (n := 3) C [.int (nI k), .int (nI j), .int (nI 0)] [] (c_X4_parts _ G M308 σ R308 hY.2.1 (nI k) (nI j) (nI 0)) gL_areAlike_X4_parts rfl (by decide +kernel) (Nat.le_of_ble_eq_true rfl) (Nat.le_of_ble_eq_true rfl) (by decide) (cell_k (k := 4) (by decide)) rfl rfl rfl (Nat.le_of_ble_eq_true rfl) (Nat.le_of_ble_eq_true rfl) (Nat.le_of_ble_eq_true rfl) dL_areAlike_325 (fun r325 M325 h325 => ?_)
            obtain ⟨a325, b325⟩ := h325
            rw [a325, b325]
            refine wk_eqi (b := parV (σ.1.2.2.2 k) (σ.1.2.2.2 j) (nI 0)) (parY_in (by omega) (by omega) h8 g3 (by decide)) ?_
            refine wk_aload_n C.1 6 dL_areAlike_328 rfl rfl ?_
            refine wk_iload C.1 3 dL_areAlike_329 rfl ?_
            refine wk_iload C.1 0 dL_areAlike_331 rfl ?_
            refine wk_iconst (v := nI 0) C.1 dL_areAlike_333 (by first | decide | rfl) ?_
            refine wd_callVi (F := wd G M308) (ad := ad) (i := 224) (n := 3) C [.int (nI k), .int (nI j), .int (nI 0)] [.int (parV (σ.1.2.2.2 k) (σ.1.2.2.2 j) (nI 0))] (c_X4_parts _ (gA G ad) N4 σ' S4 hY.2.2 (nI k) (nI j) (nI 0)) gL_areAlike_X4_parts rfl (by decide +kernel) (Nat.le_of_ble_eq_true rfl) (Nat.le_of_ble_eq_true rfl) (by decide) (cell_k (k := 4) (by decide)) rfl rfl rfl (Nat.le_of_ble_eq_true rfl) (Nat.le_of_ble_eq_true rfl) (Nat.le_of_ble_eq_true rfl) dL_areAlike_334 (fun r334 M334 h334 => ?_)
            obtain ⟨a334, b334⟩ := h334
            rw [a334, b334]
            refine wk_eqi (b := parV (σ'.1.2.2.2 k) (σ'.1.2.2.2 j) (nI 0)) (parY_in (by rw [hY.n]; omega) (by rw [hY.n]; omega) (by rw [hY.n]; exact h8) g3 (by decide)) ?_
            refine wk_icmp_ne C.1 386 dL_areAlike_337 (by decide) (fun c_337 => absurd c_337 (fun z => z (rt_parV (hY.1.1.2.2.2 k (by omega)) (hY.1.1.2.2.2 j (by omega)) (hY.W.p0 (by omega)) (hY.W.p0 (by omega)) (nI 0)).symm)) (fun c_337 => ?_)
            refine wk_aload_n C.1 5 dL_areAlike_340 rfl rfl ?_
            refine wk_iload C.1 3 dL_areAlike_341 rfl ?_
            refine wk_iload C.1 0 dL_areAlike_343 rfl ?_
            refine wk_iconst (v := nI 1) C.1 dL_areAlike_345 (by first | decide | rfl) ?_
            refine wd_V1 (i := 224) (n := 3) C [.int (nI k), .int (nI j), .int (nI 1)] [] (c_X4_parts _ G M308 σ R308 hY.2.1 (nI k) (nI j) (nI 1)) gL_areAlike_X4_parts rfl (by decide +kernel) (Nat.le_of_ble_eq_true rfl) (Nat.le_of_ble_eq_true rfl) (by decide) (cell_k (k := 4) (by decide)) rfl rfl rfl (Nat.le_of_ble_eq_true rfl) (Nat.le_of_ble_eq_true rfl) (Nat.le_of_ble_eq_true rfl) dL_areAlike_346 (fun r346 M346 h346 => ?_)
            obtain ⟨a346, b346⟩ := h346
            rw [a346, b346]
            refine wk_eqi (b := parV (σ.1.2.2.2 k) (σ.1.2.2.2 j) (nI 1)) (parY_in (by omega) (by omega) h8 g3 (by decide)) ?_
            refine wk_aload_n C.1 6 dL_areAlike_349 rfl rfl ?_
            refine wk_iload C.1 3 dL_areAlike_350 rfl ?_
            refine wk_iload C.1 0 dL_areAlike_352 rfl ?_
            refine wk_iconst (v := nI 1) C.1 dL_areAlike_354 (by first | decide | rfl) ?_
            refine wd_callVi (F := wd G M308) (ad := ad) (i := 224) (n := 3) C [.int (nI k), .int (nI j), .int (nI 1)] [.int (parV (σ.1.2.2.2 k) (σ.1.2.2.2 j) (nI 1))] (c_X4_parts _ (gA G ad) N4 σ' S4 hY.2.2 (nI k) (nI j) (nI 1)) gL_areAlike_X4_parts rfl (by decide +kernel) (Nat.le_of_ble_eq_true rfl) (Nat.le_of_ble_eq_true rfl) (by decide) (cell_k (k := 4) (by decide)) rfl rfl rfl (Nat.le_of_ble_eq_true rfl) (Nat.le_of_ble_eq_true rfl) (Nat.le_of_ble_eq_true rfl) dL_areAlike_355 (fun r355 M355 h355 => ?_)
            obtain ⟨a355, b355⟩ := h355
            rw [a355, b355]
            refine wk_eqi (b := parV (σ'.1.2.2.2 k) (σ'.1.2.2.2 j) (nI 1)) (parY_in (by rw [hY.n]; omega) (by rw [hY.n]; omega) (by rw [hY.n]; exact h8) g3 (by decide)) ?_
            refine wk_icmp_ne C.1 386 dL_areAlike_358 (by decide) (fun c_358 => absurd c_358 (fun z => z (rt_parV (hY.1.1.2.2.2 k (by omega)) (hY.1.1.2.2.2 j (by omega)) (hY.W.p0 (by omega)) (hY.W.p0 (by omega)) (nI 1)).symm)) (fun c_358 => ?_)
            refine wk_aload_n C.1 5 dL_areAlike_361 rfl rfl ?_
            refine wk_iload C.1 3 dL_areAlike_362 rfl ?_
            refine wk_iload C.1 0 dL_areAlike_364 rfl ?_
            refine wk_iconst (v := nI 2) C.1 dL_areAlike_366 (by first | decide | rfl) ?_
            refine wd_V1 (i := 224) (n := 3) C [.int (nI k), .int (nI j), .int (nI 2)] [] (c_X4_parts _ G M308 σ R308 hY.2.1 (nI k) (nI j) (nI 2)) gL_areAlike_X4_parts rfl (by decide +kernel) (Nat.le_of_ble_eq_true rfl) (Nat.le_of_ble_eq_true rfl) (by decide) (cell_k (k := 4) (by decide)) rfl rfl rfl (Nat.le_of_ble_eq_true rfl) (Nat.le_of_ble_eq_true rfl) (Nat.le_of_ble_eq_true rfl) dL_areAlike_367 (fun r367 M367 h367 => ?_)
            obtain ⟨a367, b367⟩ := h367
            rw [a367, b367]
            refine wk_eqi (b := parV (σ.1.2.2.2 k) (σ.1.2.2.2 j) (nI 2)) (parY_in (by omega) (by omega) h8 g3 (by decide)) ?_
            refine wk_aload_n C.1 6 dL_areAlike_370 rfl rfl ?_
            refine wk_iload C.1 3 dL_areAlike_371 rfl ?_
            refine wk_iload C.1 0 dL_areAlike_373 rfl ?_
            refine wk_iconst (v := nI 2) C.1 dL_areAlike_375 (by first | decide | rfl) ?_
            refine wd_callVi (F := wd G M308) (ad := ad) (i := 224) (n := 3) C [.int (nI k), .int (nI j), .int (nI 2)] [.int (parV (σ.1.2.2.2 k) (σ.1.2.2.2 j) (nI 2))] (c_X4_parts _ (gA G ad) N4 σ' S4 hY.2.2 (nI k) (nI j) (nI 2)) gL_areAlike_X4_parts rfl (by decide +kernel) (Nat.le_of_ble_eq_true rfl) (Nat.le_of_ble_eq_true rfl) (by decide) (cell_k (k := 4) (by decide)) rfl rfl rfl (Nat.le_of_ble_eq_true rfl) (Nat.le_of_ble_eq_true rfl) (Nat.le_of_ble_eq_true rfl) dL_areAlike_376 (fun r376 M376 h376 => ?_)
            obtain ⟨a376, b376⟩ := h376
            rw [a376, b376]
            refine wk_eqi (b := parV (σ'.1.2.2.2 k) (σ'.1.2.2.2 j) (nI 2)) (parY_in (by rw [hY.n]; omega) (by rw [hY.n]; omega) (by rw [hY.n]; exact h8) g3 (by decide)) ?_
            refine wk_icmp_ne C.1 386 dL_areAlike_379 (by decide) (fun c_379 => absurd c_379 (fun z => z (rt_parV (hY.1.1.2.2.2 k (by omega)) (hY.1.1.2.2.2 j (by omega)) (hY.W.p0 (by omega)) (hY.W.p0 (by omega)) (nI 2)).symm)) (fun c_379 => ?_)
            exact h382 M308 N4 R308 S4
        refine wk_iconst (v := nI 0) C.1 dL_areAlike_269 (by first | decide | rfl) ?_
        refine wk_istore (L' := [(7, .int (nI 0)), (4, .int 1), (6, .int (bofV σ.1 k 8)), (5, .int (nI k)), (3, .int (nI σ.1.1)), (0, .ref (G.2.2.1 224)), (1, .ref (ad 224)), (2, .int v)]) C.1 dL_areAlike_270 (by decide) rfl ?_
        refine wk_sub (L' := [(7, .int (nI 0)), (4, .int 1), (6, .int (bofV σ.1 k 8)), (5, .int (nI k)), (3, .int (nI σ.1.1)), (0, .ref (G.2.2.1 224)), (1, .ref (ad 224)), (2, .int v)]) [0, 1, 2, 3, 4, 5, 6, 7] rfl ?_
        exact h272 0 (Nat.zero_le _) M234 M223 R234 R223
      refine wk_iconst (v := 1) C.1 dL_areAlike_237 (by first | decide | rfl) ?_
      refine wk_icmp_ne C.1 245 dL_areAlike_238 (by decide) (fun g3 => ?_) (fun g3 => ?_)
      · refine wk_iconst (v := 0) C.1 dL_areAlike_245 (by decide) ?_
        refine wk_iload C.1 0 dL_areAlike_246 rfl ?_
        refine wk_bipush (v := 85) C.1 dL_areAlike_248 (by decide) ?_
        refine wk_iand C.1 dL_areAlike_250 ?_
        refine wk_if_ne C.1 258 dL_areAlike_251 (by decide) (fun z => ?_) (fun z => ?_)
        · refine wk_iconst (v := 0) C.1 dL_areAlike_258 (by decide) ?_
          refine wk_icmp_ne C.1 266 dL_areAlike_259 (by decide) (fun z => absurd rfl z) (fun _ => ?_)
          refine wk_iconst (v := 1) C.1 dL_areAlike_262 (by decide) ?_
          refine wk_goto C.1 267 dL_areAlike_263 (by decide) ?_
          refine wk_istore (L' := [(4, .int 1), (6, .int (bofV σ.1 k 8)), (5, .int (nI k)), (3, .int (nI σ.1.1)), (0, .ref (G.2.2.1 224)), (1, .ref (ad 224)), (2, .int v)]) C.1 dL_areAlike_267 (by decide) rfl ?_
          refine wk_sub (L' := [(4, .int 1), (6, .int (bofV σ.1 k 8)), (5, .int (nI k)), (3, .int (nI σ.1.1)), (0, .ref (G.2.2.1 224)), (1, .ref (ad 224)), (2, .int v)]) [0, 1, 2, 3, 4, 5, 6] rfl ?_
          exact h269
        · exact absurd (kb.2.2.2.2.mpr z) g3
      · refine wk_iconst (v := 1) C.1 dL_areAlike_241 (by decide) ?_
        refine wk_goto C.1 246 dL_areAlike_242 (by decide) ?_
        refine wk_iload C.1 0 dL_areAlike_246 rfl ?_
        refine wk_bipush (v := 85) C.1 dL_areAlike_248 (by decide) ?_
        refine wk_iand C.1 dL_areAlike_250 ?_
        refine wk_if_ne C.1 258 dL_areAlike_251 (by decide) (fun z => ?_) (fun z => ?_)
        · exact absurd (kb.2.2.2.2.mp g3) z
        · refine wk_iconst (v := 1) C.1 dL_areAlike_254 (by decide) ?_
          refine wk_goto C.1 259 dL_areAlike_255 (by decide) ?_
          refine wk_icmp_ne C.1 266 dL_areAlike_259 (by decide) (fun z => absurd rfl z) (fun _ => ?_)
          refine wk_iconst (v := 1) C.1 dL_areAlike_262 (by decide) ?_
          refine wk_goto C.1 267 dL_areAlike_263 (by decide) ?_
          refine wk_istore (L' := [(4, .int 1), (6, .int (bofV σ.1 k 8)), (5, .int (nI k)), (3, .int (nI σ.1.1)), (0, .ref (G.2.2.1 224)), (1, .ref (ad 224)), (2, .int v)]) C.1 dL_areAlike_267 (by decide) rfl ?_
          refine wk_sub (L' := [(4, .int 1), (6, .int (bofV σ.1 k 8)), (5, .int (nI k)), (3, .int (nI σ.1.1)), (0, .ref (G.2.2.1 224)), (1, .ref (ad 224)), (2, .int v)]) [0, 1, 2, 3, 4, 5, 6] rfl ?_
          exact h269
  have h92 : ∀ t, t ≤ 3 → ∀ (M3 N3 : Mem), RC M3 σ → RC N3 σ' → WK x G (A2 G ad sz) 9 0 0 QQ (wd G M3 ++ (wd (gA G ad) N3 ++ [])) 92 [(5, .int (nI t)), (4, .int 1), (3, .int (nI σ.1.1)), (0, .ref (G.2.2.1 224)), (1, .ref (ad 224)), (2, .int v)] [] := by
    refine up_loop 3 _ (fun t ht ih => ?_)
    intro M3 N3 R3 S3
    refine wk_iload C.1 0 dL_areAlike_92 rfl ?_
    refine wk_iconst (v := nI 3) C.1 dL_areAlike_94 (by first | decide | rfl) ?_
    refine wk_icmp_geN C.1 (a := t) (b := 3) (by omega) (by omega) 131 dL_areAlike_95 (by decide) (fun g => ?_) (fun g => ?_)
    · refine wk_iconst (v := nI 0) C.1 dL_areAlike_131 (by decide) ?_
      refine wk_istore (L' := [(5, .int (nI 0)), (4, .int 1), (3, .int (nI σ.1.1)), (0, .ref (G.2.2.1 224)), (1, .ref (ad 224)), (2, .int v)]) C.1 dL_areAlike_132 (by decide) rfl ?_
      exact h134 0 (Nat.zero_le _) M3 N3 R3 S3
    · have kt : bodY σ' (nI t) = bodY σ (nI t) := by
        obtain ⟨q0, q1, q2⟩ := rt_bod hY
        rcases (show t = 0 ∨ t = 1 ∨ t = 2 by omega) with rfl | rfl | rfl
        · exact q0
        · exact q1
        · exact q2
      refine wk_iload C.1 1 dL_areAlike_98 rfl ?_
      refine wk_if_eq C.1 122 dL_areAlike_100 (by decide) (fun c_100 => absurd c_100 (by decide)) (fun c_100 => ?_)
      refine wk_aload_n C.1 3 dL_areAlike_103 rfl rfl ?_
      refine wk_iload C.1 0 dL_areAlike_104 rfl ?_
      refine wd_V1 (i := 224) (n := 1) C [.int (nI t)] [] (c_X4_bodies _ G M3 σ R3 hY.2.1 (nI t)) gL_areAlike_X4_bodies rfl (by decide +kernel) (Nat.le_of_ble_eq_true rfl) (Nat.le_of_ble_eq_true rfl) (by decide) (cell_k (k := 4) (by decide)) rfl rfl rfl (Nat.le_of_ble_eq_true rfl) (Nat.le_of_ble_eq_true rfl) (Nat.le_of_ble_eq_true rfl) dL_areAlike_106 (fun r106 M106 h106 => ?_)
      obtain ⟨a106, R106, -⟩ := h106
      rw [a106]
      refine wk_aload_n C.1 4 dL_areAlike_109 rfl rfl ?_
      refine wk_iload C.1 0 dL_areAlike_110 rfl ?_
      refine wd_callVi (F := wd G M106) (ad := ad) (i := 224) (n := 1) C [.int (nI t)] [.int (bodY σ (nI t))] (c_X4_bodies _ (gA G ad) N3 σ' S3 hY.2.2 (nI t)) gL_areAlike_X4_bodies rfl (by decide +kernel) (Nat.le_of_ble_eq_true rfl) (Nat.le_of_ble_eq_true rfl) (by decide) (cell_k (k := 4) (by decide)) rfl rfl rfl (Nat.le_of_ble_eq_true rfl) (Nat.le_of_ble_eq_true rfl) (Nat.le_of_ble_eq_true rfl) dL_areAlike_112 (fun r112 M112 h112 => ?_)
      obtain ⟨a112, R112, -⟩ := h112
      rw [a112]
      refine wk_icmp_ne C.1 122 dL_areAlike_115 (by decide) (fun c_115 => absurd c_115 (fun z => z kt.symm)) (fun c_115 => ?_)
      refine wk_iconst (v := 1) C.1 dL_areAlike_118 (by decide) ?_
      refine wk_goto C.1 123 dL_areAlike_119 (by decide) ?_
      refine wk_istore (L' := [(4, .int 1), (5, .int (nI t)), (3, .int (nI σ.1.1)), (0, .ref (G.2.2.1 224)), (1, .ref (ad 224)), (2, .int v)]) C.1 dL_areAlike_123 (by decide) rfl ?_
      refine wk_iinc1 (k := t) (L' := [(5, .int (nI (t + 1))), (4, .int 1), (3, .int (nI σ.1.1)), (0, .ref (G.2.2.1 224)), (1, .ref (ad 224)), (2, .int v)]) C.1 1 dL_areAlike_125 rfl (by decide) rfl ?_
      refine wk_goto C.1 92 dL_areAlike_128 (by decide) ?_
      refine wk_sub (L' := [(5, .int (nI (t + 1))), (4, .int 1), (3, .int (nI σ.1.1)), (0, .ref (G.2.2.1 224)), (1, .ref (ad 224)), (2, .int v)]) [0, 1, 2, 3, 4, 5] rfl ?_
      exact ih (by omega) M106 M112 R106 R112
  refine wk_iconst (v := nI 0) C.1 dL_areAlike_89 (by first | decide | rfl) ?_
  refine wk_istore (L' := [(5, .int (nI 0)), (4, .int 1), (3, .int (nI σ.1.1)), (0, .ref (G.2.2.1 224)), (1, .ref (ad 224)), (2, .int v)]) C.1 dL_areAlike_90 (by decide) rfl ?_
  refine wk_sub (L' := [(5, .int (nI 0)), (4, .int 1), (3, .int (nI σ.1.1)), (0, .ref (G.2.2.1 224)), (1, .ref (ad 224)), (2, .int v)]) [0, 1, 2, 3, 4, 5] rfl ?_
  exact h92 0 (by decide) M46 M50 R46 R50
