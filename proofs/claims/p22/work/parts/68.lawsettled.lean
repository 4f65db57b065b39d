/-! THE LAW: what is settled stays; the keystone -/
theorem settle_nn {τ : Sy} {d : Nat} (hd : d < 8) (h8 : τ.1.1 ≤ 8) : ¬ (setY τ (nI d)).1 < 0 := by
  rw [setY_in hd]
  exact nI_pos (by have := seS_le d 1000 τ.1 0 h8; omega)
theorem settle_2 {τ : Sy} {d : Nat} (hd : d < 8) (hO : OkY τ) (h8 : τ.1.1 ≤ 8) : setY (setY τ (nI d)).2 (nI d) = (nI 0, pushY (setY τ (nI d)).2 (seS d 1000 τ.1 0).1) := by
  have e : (setY τ (nI d)).2.1 = (seS d 1000 τ.1 0).1 := by rw [setY_in hd]; rfl
  rw [setY_in (σ := (setY τ (nI d)).2) hd, e, se_still (fun k hk => se_all hd hO.1.1 h8 k (by rw [(seS_box d 1000 τ.1 0).1] at hk; exact hk))]
theorem slide_no {τ : Sy} {k d : Nat} (hk : k < τ.1.1) (h8 : τ.1.1 ≤ 8) (hd : d < 8) (h : fsN τ.1 k d 60 = 0) : sliY τ (nI k) (nI d) (nI 1) = (-1000002, τ) := by
  rw [sliY_in hk h8 hd (by decide) (by decide), if_pos]
  have h1 := fs_01 (s := τ.1) (k := k) (d := d)
  have h2 := fsN_le τ.1 k d 1
  omega
set_option maxHeartbeats 4000000 in
set_option maxRecDepth 100000 in
theorem c_L_isSettled (l : Launch) (G : Gw) (ad : Nat → Nat) (M N : Mem) (σ σ' : Sy) (hR : RC M σ) (hR' : RC N σ') (hY : RY σ σ') (v : Int32) : Cd l G ad yL_isSettled wsL_isSettled 7 177 0 0 [.ref (G.2.2.1 224), .ref (ad 224), .int v] M N (fun (r : Int32) (M2 N2 : Mem) => r = 1) := by
  refine Cd.of (cc := cL_isSettled) (maxL := 9) (ret := (some .boolean)) (by decide +kernel) rfl (Nat.le_of_ble_eq_true rfl) ?_
  intro x sz hl0 hr C
  subst hl0
  have C : CD x G (A2 G ad sz) RL cL_isSettled 9 wsL_isSettled 7 177 0 0 := C
  have hret : ∀ (N1 N2 : Mem) (Rr : va_W) (cs sl pc0 : Nat) (L0 : List (Nat × Value)) (rv0 : Int32), cs ≤ 0 → sl ≤ 0 → narrow .boolean (.int rv0) = .int rv0 → decode cL_isSettled pc0 = .ok (.ireturn, 1) → (fun (r : Int32) (M2 N2 : Mem) => r = 1) rv0 N1 N2 → WK x G (A2 G ad sz) 9 cs sl (kQ x (QD G ad sz (fun (r : Int32) (M2 N2 : Mem) => r = 1)) 0 0 (A2 G ad sz)) (wd G N1 ++ (wd (gA G ad) N2 ++ Rr)) pc0 L0 [.int rv0] := fun N1 N2 Rr cs sl pc0 L0 rv0 h1 h2 hn hd hp => wd_zret (post := (fun (r : Int32) (M2 N2 : Mem) => r = 1)) C hr hn h1 h2 hd hp
  show WK x G (A2 G ad sz) 9 0 0 (kQ x (QD G ad sz (fun (r : Int32) (M2 N2 : Mem) => r = 1)) 0 0 (A2 G ad sz)) (wd G M ++ (wd (gA G ad) N ++ [])) 0 [(0, .ref (G.2.2.1 224)), (1, .ref (ad 224)), (2, .int v)] []
  generalize (kQ x (QD G ad sz (fun (r : Int32) (M2 N2 : Mem) => r = 1)) 0 0 (A2 G ad sz)) = QQ at hret ⊢
  have h8 := hR.size
  have cn82 : Jvm.Cond.constant RL 82 (-1000002) ∈ wsL_isSettled := by decide +kernel
  refine wk_iload_n C.1 2 dL_isSettled_0 rfl rfl ?_
  refine wk_bipush (v := nI 8) C.1 dL_isSettled_1 (by decide) ?_
  refine wd_S1 (n := 2) C [.int v, .int (nI 8)] [] (c_L_up _ G M v 8 (by omega) (by omega)) gL_isSettled_L_up rfl (by decide +kernel) (Nat.le_of_ble_eq_true rfl) (Nat.le_of_ble_eq_true rfl) rfl rfl (Nat.le_of_ble_eq_true rfl) (Nat.le_of_ble_eq_true rfl) (Nat.le_of_ble_eq_true rfl) dL_isSettled_3 (fun r3 M3 h3 => ?_)
  obtain ⟨a3, b3⟩ := h3
  rw [a3, b3]
  obtain ⟨d, ed⟩ : ∃ z : Nat, z = upN v 8 := ⟨_, rfl⟩
  have hd : d < 8 := by rw [ed]; exact upN_lt (by decide)
  rw [← ed]
  have kk := rt_key hY hd
  refine wk_istore_n (L' := [(3, .int (nI d)), (0, .ref (G.2.2.1 224)), (1, .ref (ad 224)), (2, .int v)]) C.1 dL_isSettled_6 rfl (by decide) rfl ?_
  refine wk_aload_n C.1 1 dL_isSettled_7 rfl rfl ?_
  refine wk_iconst (v := 0) C.1 dL_isSettled_8 (by decide) ?_
  refine wd_V1 (i := 224) (n := 1) C [.int 0] [] (c_X4_count _ G M σ hR hY.2.1 0) gL_isSettled_X4_count rfl (by decide +kernel) (Nat.le_of_ble_eq_true rfl) (Nat.le_of_ble_eq_true rfl) (by decide) (cell_k (k := 4) (by decide)) rfl rfl rfl (Nat.le_of_ble_eq_true rfl) (Nat.le_of_ble_eq_true rfl) (Nat.le_of_ble_eq_true rfl) dL_isSettled_9 (fun r9 M9 h9 => ?_)
  obtain ⟨a9, b9⟩ := h9
  rw [a9, b9]
  refine wk_eqi (b := nI σ.1.1) (couY_0 _) ?_
  refine wk_istore (L' := [(4, .int (nI σ.1.1)), (3, .int (nI d)), (0, .ref (G.2.2.1 224)), (1, .ref (ad 224)), (2, .int v)]) C.1 dL_isSettled_12 (by decide) rfl ?_
  refine wk_aload_n C.1 2 dL_isSettled_14 rfl rfl ?_
  refine wk_iload_n C.1 1 dL_isSettled_15 rfl rfl ?_
  refine wk_iconst (v := nI 0) C.1 dL_isSettled_16 (by first | decide | rfl) ?_
  refine wd_V1 (i := 224) (n := 2) C [.int (nI d), .int (nI 0)] [] (c_X4_keystone _ G M σ hR hY.2.1 (nI d) (nI 0)) gL_isSettled_X4_keystone rfl (by decide +kernel) (Nat.le_of_ble_eq_true rfl) (Nat.le_of_ble_eq_true rfl) (by decide) (cell_k (k := 4) (by decide)) rfl rfl rfl (Nat.le_of_ble_eq_true rfl) (Nat.le_of_ble_eq_true rfl) (Nat.le_of_ble_eq_true rfl) dL_isSettled_17 (fun r17 M17 h17 => ?_)
  obtain ⟨a17, R17, -⟩ := h17
  rw [a17]
  refine wk_istore (L' := [(5, .int (keyY σ (nI d) (nI 0))), (4, .int (nI σ.1.1)), (3, .int (nI d)), (0, .ref (G.2.2.1 224)), (1, .ref (ad 224)), (2, .int v)]) C.1 dL_isSettled_20 (by decide) rfl ?_
  refine wk_aload_n C.1 3 dL_isSettled_22 rfl rfl ?_
  refine wk_iload_n C.1 2 dL_isSettled_23 rfl rfl ?_
  refine wk_iconst (v := nI 1) C.1 dL_isSettled_24 (by first | decide | rfl) ?_
  refine wd_V1 (i := 224) (n := 2) C [.int (nI d), .int (nI 1)] [] (c_X4_keystone _ G M17 σ R17 hY.2.1 (nI d) (nI 1)) gL_isSettled_X4_keystone rfl (by decide +kernel) (Nat.le_of_ble_eq_true rfl) (Nat.le_of_ble_eq_true rfl) (by decide) (cell_k (k := 4) (by decide)) rfl rfl rfl (Nat.le_of_ble_eq_true rfl) (Nat.le_of_ble_eq_true rfl) (Nat.le_of_ble_eq_true rfl) dL_isSettled_25 (fun r25 M25 h25 => ?_)
  obtain ⟨a25, R25, -⟩ := h25
  rw [a25]
  refine wk_istore (L' := [(6, .int (keyY σ (nI d) (nI 1))), (5, .int (keyY σ (nI d) (nI 0))), (4, .int (nI σ.1.1)), (3, .int (nI d)), (0, .ref (G.2.2.1 224)), (1, .ref (ad 224)), (2, .int v)]) C.1 dL_isSettled_28 (by decide) rfl ?_
  refine wk_iload C.1 1 dL_isSettled_30 rfl ?_
  refine wk_aload_n C.1 5 dL_isSettled_32 rfl rfl ?_
  refine wk_iload_n C.1 3 dL_isSettled_33 rfl rfl ?_
  refine wk_iconst (v := nI 2) C.1 dL_isSettled_34 (by first | decide | rfl) ?_
  refine wk_iadd C.1 dL_isSettled_35 ?_
  refine wk_eqi (b := nI (d + 2)) (nI_add d 2) ?_
  refine wk_bipush (v := nI 8) C.1 dL_isSettled_36 (by decide) ?_
  refine wk_irem C.1 dL_isSettled_38 (by decide) ?_
  refine wk_eqi (b := nI (d2 d)) (pk_rem (by omega) (by decide) (by decide)) ?_
  refine wk_iconst (v := nI 0) C.1 dL_isSettled_39 (by first | decide | rfl) ?_
  refine wd_callVi (F := wd G M25) (ad := ad) (i := 224) (n := 2) C [.int (nI (d2 d)), .int (nI 0)] [.int (keyY σ (nI d) (nI 0))] (c_X4_keystone _ (gA G ad) N σ' hR' hY.2.2 (nI (d2 d)) (nI 0)) gL_isSettled_X4_keystone rfl (by decide +kernel) (Nat.le_of_ble_eq_true rfl) (Nat.le_of_ble_eq_true rfl) (by decide) (cell_k (k := 4) (by decide)) rfl rfl rfl (Nat.le_of_ble_eq_true rfl) (Nat.le_of_ble_eq_true rfl) (Nat.le_of_ble_eq_true rfl) dL_isSettled_40 (fun r40 M40 h40 => ?_)
  obtain ⟨a40, R40, -⟩ := h40
  rw [a40]
  refine wk_icmp_ne C.1 66 dL_isSettled_43 (by decide) (fun c_43 => absurd c_43 (fun z => z kk.1.symm)) (fun c_43 => ?_)
  refine wk_iload C.1 0 dL_isSettled_46 rfl ?_
  refine wk_aload_n C.1 5 dL_isSettled_48 rfl rfl ?_
  refine wk_iload_n C.1 3 dL_isSettled_49 rfl rfl ?_
  refine wk_iconst (v := nI 2) C.1 dL_isSettled_50 (by first | decide | rfl) ?_
  refine wk_iadd C.1 dL_isSettled_51 ?_
  refine wk_eqi (b := nI (d + 2)) (nI_add d 2) ?_
  refine wk_bipush (v := nI 8) C.1 dL_isSettled_52 (by decide) ?_
  refine wk_irem C.1 dL_isSettled_54 (by decide) ?_
  refine wk_eqi (b := nI (d2 d)) (pk_rem (by omega) (by decide) (by decide)) ?_
  refine wk_iconst (v := nI 1) C.1 dL_isSettled_55 (by first | decide | rfl) ?_
  refine wd_callVi (F := wd G M25) (ad := ad) (i := 224) (n := 2) C [.int (nI (d2 d)), .int (nI 1)] [.int (keyY σ (nI d) (nI 1))] (c_X4_keystone _ (gA G ad) M40 σ' R40 hY.2.2 (nI (d2 d)) (nI 1)) gL_isSettled_X4_keystone rfl (by decide +kernel) (Nat.le_of_ble_eq_true rfl) (Nat.le_of_ble_eq_true rfl) (by decide) (cell_k (k := 4) (by decide)) rfl rfl rfl (Nat.le_of_ble_eq_true rfl) (Nat.le_of_ble_eq_true rfl) (Nat.le_of_ble_eq_true rfl) dL_isSettled_56 (fun r56 M56 h56 => ?_)
  obtain ⟨a56, R56, -⟩ := h56
  rw [a56]
  refine wk_icmp_ne C.1 66 dL_isSettled_59 (by decide) (fun c_59 => absurd c_59 (fun z => z kk.2.symm)) (fun c_59 => ?_)
  refine wk_iconst (v := 1) C.1 dL_isSettled_62 (by decide) ?_
  refine wk_goto C.1 67 dL_isSettled_63 (by decide) ?_
  refine wk_istore (L' := [(7, .int 1), (6, .int (keyY σ (nI d) (nI 1))), (5, .int (keyY σ (nI d) (nI 0))), (4, .int (nI σ.1.1)), (3, .int (nI d)), (0, .ref (G.2.2.1 224)), (1, .ref (ad 224)), (2, .int v)]) C.1 dL_isSettled_67 (by decide) rfl ?_
  have h133 : ∀ (ke fa : Int32) (M3 N3 : Mem) (τ : Sy), RC M3 τ → OkY τ → τ.1 = σ.1 → WK x G (A2 G ad sz) 9 0 0 QQ (wd G M3 ++ (wd (gA G ad) N3 ++ [])) 133 [(7, .int 1), (6, .int fa), (5, .int ke), (4, .int (nI σ.1.1)), (3, .int (nI d)), (0, .ref (G.2.2.1 224)), (1, .ref (ad 224)), (2, .int v)] [] := by
    intro ke fa M3 N3 τ R3 O3 e3
    have h83 : τ.1.1 ≤ 8 := R3.size
    have f1 := settle_nn (τ := τ) hd h83
    have f2 := settle_2 (τ := τ) hd O3 h83
    have Oa : OkY (setY τ (nI d)).2 := set_ok O3 h83
    have ea : (setY τ (nI d)).2.1 = (seS d 1000 τ.1 0).1 := by rw [setY_in hd]; rfl
    have na : (seS d 1000 τ.1 0).1.1 = σ.1.1 := by rw [(seS_box d 1000 τ.1 0).1, e3]
    have Ob : OkY (setY (setY τ (nI d)).2 (nI d)).2 := set_ok Oa (by rw [ea, na]; exact h8)
    have eb : (setY (setY τ (nI d)).2 (nI d)).2.1 = (seS d 1000 τ.1 0).1 := by rw [f2]; rfl
    have st := se_all hd O3.1.1 h83
    refine wk_iload C.1 0 dL_isSettled_133 rfl ?_
    refine wk_if_eq C.1 158 dL_isSettled_135 (by decide) (fun c_135 => absurd c_135 (by decide)) (fun c_135 => ?_)
    refine wk_aload_n C.1 5 dL_isSettled_138 rfl rfl ?_
    refine wk_iload_n C.1 4 dL_isSettled_139 rfl rfl ?_
    refine wd_V1 (i := 224) (n := 1) C [.int (nI d)] [] (c_X4_settle _ G M3 τ R3 O3 (nI d)) gL_isSettled_X4_settle rfl (by decide +kernel) (Nat.le_of_ble_eq_true rfl) (Nat.le_of_ble_eq_true rfl) (by decide) (cell_k (k := 4) (by decide)) rfl rfl rfl (Nat.le_of_ble_eq_true rfl) (Nat.le_of_ble_eq_true rfl) (Nat.le_of_ble_eq_true rfl) dL_isSettled_140 (fun r140 M5 h140 => ?_)
    obtain ⟨a140, R5, -⟩ := h140
    rw [a140]
    refine wk_if_lt C.1 158 dL_isSettled_143 (by decide) (fun c_143 => absurd c_143 (f1)) (fun c_143 => ?_)
    refine wk_aload_n C.1 5 dL_isSettled_146 rfl rfl ?_
    refine wk_iload_n C.1 4 dL_isSettled_147 rfl rfl ?_
    refine wd_V1 (i := 224) (n := 1) C [.int (nI d)] [] (c_X4_settle _ G M5 _ R5 Oa (nI d)) gL_isSettled_X4_settle rfl (by decide +kernel) (Nat.le_of_ble_eq_true rfl) (Nat.le_of_ble_eq_true rfl) (by decide) (cell_k (k := 4) (by decide)) rfl rfl rfl (Nat.le_of_ble_eq_true rfl) (Nat.le_of_ble_eq_true rfl) (Nat.le_of_ble_eq_true rfl) dL_isSettled_148 (fun r148 M6 h148 => ?_)
    obtain ⟨a148, R6, -⟩ := h148
    rw [a148]
    refine wk_if_ne C.1 158 dL_isSettled_151 (by decide) (fun c_151 => absurd c_151 (fun z => z (by rw [f2]; rfl))) (fun c_151 => ?_)
    refine wk_iconst (v := 1) C.1 dL_isSettled_154 (by decide) ?_
    refine wk_goto C.1 159 dL_isSettled_155 (by decide) ?_
    refine wk_istore (L' := [(7, .int 1), (6, .int fa), (5, .int ke), (4, .int (nI σ.1.1)), (3, .int (nI d)), (0, .ref (G.2.2.1 224)), (1, .ref (ad 224)), (2, .int v)]) C.1 dL_isSettled_159 (by decide) rfl ?_
    obtain ⟨ω, eω⟩ : ∃ z : Sy, z = (setY (setY τ (nI d)).2 (nI d)).2 := ⟨_, rfl⟩
    rw [← eω] at Ob eb R6
    have nw : ω.1.1 = σ.1.1 := by rw [eb, na]
    have sw : ∀ k, k < σ.1.1 → fsN ω.1 k d 60 = 0 := fun k hk => by rw [eb]; exact st k (by rw [e3]; exact hk)
    refine wk_iconst (v := nI 0) C.1 dL_isSettled_161 (by first | decide | rfl) ?_
    refine wk_istore (L' := [(8, .int (nI 0)), (7, .int 1), (6, .int fa), (5, .int ke), (4, .int (nI σ.1.1)), (3, .int (nI d)), (0, .ref (G.2.2.1 224)), (1, .ref (ad 224)), (2, .int v)]) C.1 dL_isSettled_162 (by decide) rfl ?_
    have h164 : ∀ k, k ≤ σ.1.1 → ∀ (M4 : Mem), RC M4 ω → WK x G (A2 G ad sz) 9 0 0 QQ (wd G M4 ++ (wd (gA G ad) N3 ++ [])) 164 [(8, .int (nI k)), (7, .int 1), (6, .int fa), (5, .int ke), (4, .int (nI σ.1.1)), (3, .int (nI d)), (0, .ref (G.2.2.1 224)), (1, .ref (ad 224)), (2, .int v)] [] := by
      refine up_loop σ.1.1 _ (fun k hk ih => ?_)
      intro M4 R4
      refine wk_iload C.1 0 dL_isSettled_164 rfl ?_
      refine wk_iload C.1 4 dL_isSettled_166 rfl ?_
      refine wk_icmp_geN C.1 (a := k) (b := σ.1.1) (by omega) (by omega) 213 dL_isSettled_168 (by decide) (fun g => ?_) (fun g => ?_)
      · skip
        refine wk_iload C.1 1 dL_isSettled_213 rfl ?_
        refine wk_if_eq C.1 232 dL_isSettled_215 (by decide) (fun c_215 => absurd c_215 (by decide)) (fun c_215 => ?_)
        refine wk_aload_n C.1 6 dL_isSettled_218 rfl rfl ?_
        refine wk_iconst (v := 0) C.1 dL_isSettled_219 (by decide) ?_
        refine wd_V1 (i := 224) (n := 1) C [.int 0] [] (c_X4_count _ G M4 ω R4 Ob 0) gL_isSettled_X4_count rfl (by decide +kernel) (Nat.le_of_ble_eq_true rfl) (Nat.le_of_ble_eq_true rfl) (by decide) (cell_k (k := 4) (by decide)) rfl rfl rfl (Nat.le_of_ble_eq_true rfl) (Nat.le_of_ble_eq_true rfl) (Nat.le_of_ble_eq_true rfl) dL_isSettled_220 (fun r220 M220 h220 => ?_)
        obtain ⟨a220, b220⟩ := h220
        rw [a220, b220]
        refine wk_eqi (b := nI σ.1.1) ((couY_0 _).trans (by rw [nw])) ?_
        refine wk_iload C.1 4 dL_isSettled_223 rfl ?_
        refine wk_icmp_ne C.1 232 dL_isSettled_225 (by decide) (fun z => absurd rfl z) (fun _ => ?_)
        refine wk_iconst (v := 1) C.1 dL_isSettled_228 (by decide) ?_
        refine wk_goto C.1 233 dL_isSettled_229 (by decide) ?_
        exact hret _ _ _ _ _ 233 _ 1 (Nat.le_of_ble_eq_true rfl) (Nat.le_of_ble_eq_true rfl) rfl dL_isSettled_233 rfl
      · have kw : fsN ω.1 k d 60 = 0 := sw k (by omega)
        have kn := slide_no (τ := ω) (k := k) (d := d) (by omega) (by omega) hd kw
        refine wk_iload C.1 1 dL_isSettled_171 rfl ?_
        refine wk_if_eq C.1 204 dL_isSettled_173 (by decide) (fun c_173 => absurd c_173 (by decide)) (fun c_173 => ?_)
        refine wk_aload_n C.1 6 dL_isSettled_176 rfl rfl ?_
        refine wk_iload C.1 0 dL_isSettled_177 rfl ?_
        refine wk_iload_n C.1 5 dL_isSettled_179 rfl rfl ?_
        refine wk_iconst (v := nI 0) C.1 dL_isSettled_180 (by first | decide | rfl) ?_
        refine wd_V1 (i := 224) (n := 3) C [.int (nI k), .int (nI d), .int (nI 0)] [] (c_X4_way _ G M4 ω R4 Ob (nI k) (nI d) (nI 0)) gL_isSettled_X4_way rfl (by decide +kernel) (Nat.le_of_ble_eq_true rfl) (Nat.le_of_ble_eq_true rfl) (by decide) (cell_k (k := 4) (by decide)) rfl rfl rfl (Nat.le_of_ble_eq_true rfl) (Nat.le_of_ble_eq_true rfl) (Nat.le_of_ble_eq_true rfl) dL_isSettled_181 (fun r181 M181 h181 => ?_)
        obtain ⟨a181, R181, -⟩ := h181
        rw [a181]
        refine wk_eqi (b := nI 0) ((wayY_in (by omega) (by omega) hd (by decide)).trans (by show nI (fsN ω.1 k d 60) = nI 0; rw [kw])) ?_
        refine wk_if_ne C.1 204 dL_isSettled_184 (by decide) (fun c_184 => absurd c_184 (by decide)) (fun c_184 => ?_)
        refine wk_aload_n C.1 6 dL_isSettled_187 rfl rfl ?_
        refine wk_iload C.1 0 dL_isSettled_188 rfl ?_
        refine wk_iload_n C.1 5 dL_isSettled_190 rfl rfl ?_
        refine wk_iconst (v := nI 1) C.1 dL_isSettled_191 (by first | decide | rfl) ?_
        refine wd_V1 (i := 224) (n := 3) C [.int (nI k), .int (nI d), .int (nI 1)] [] (c_X4_slide _ G M181 ω R181 Ob (nI k) (nI d) (nI 1)) gL_isSettled_X4_slide rfl (by decide +kernel) (Nat.le_of_ble_eq_true rfl) (Nat.le_of_ble_eq_true rfl) (by decide) (cell_k (k := 4) (by decide)) rfl rfl rfl (Nat.le_of_ble_eq_true rfl) (Nat.le_of_ble_eq_true rfl) (Nat.le_of_ble_eq_true rfl) dL_isSettled_192 (fun r192 M192 h192 => ?_)
        obtain ⟨a192, R192, -⟩ := h192
        rw [a192]
        refine wk_ldc C.1 cn82 dL_isSettled_195 ?_
        refine wk_icmp_ne C.1 204 dL_isSettled_197 (by decide) (fun c_197 => absurd c_197 (fun z => z (by rw [kn]))) (fun c_197 => ?_)
        refine wk_iconst (v := 1) C.1 dL_isSettled_200 (by decide) ?_
        refine wk_goto C.1 205 dL_isSettled_201 (by decide) ?_
        refine wk_istore (L' := [(7, .int 1), (8, .int (nI k)), (6, .int fa), (5, .int ke), (4, .int (nI σ.1.1)), (3, .int (nI d)), (0, .ref (G.2.2.1 224)), (1, .ref (ad 224)), (2, .int v)]) C.1 dL_isSettled_205 (by decide) rfl ?_
        refine wk_iinc1 (k := k) (L' := [(8, .int (nI (k + 1))), (7, .int 1), (6, .int fa), (5, .int ke), (4, .int (nI σ.1.1)), (3, .int (nI d)), (0, .ref (G.2.2.1 224)), (1, .ref (ad 224)), (2, .int v)]) C.1 1 dL_isSettled_207 rfl (by decide) rfl ?_
        rw [kn] at R192
        refine wk_goto C.1 164 dL_isSettled_210 (by decide) ?_
        refine wk_sub (L' := [(8, .int (nI (k + 1))), (7, .int 1), (6, .int fa), (5, .int ke), (4, .int (nI σ.1.1)), (3, .int (nI d)), (0, .ref (G.2.2.1 224)), (1, .ref (ad 224)), (2, .int v)]) [0, 1, 2, 3, 4, 5, 6, 7, 8] rfl ?_
        exact ih (by omega) M192 R192
    refine wk_sub (L' := [(8, .int (nI 0)), (7, .int 1), (6, .int fa), (5, .int ke), (4, .int (nI σ.1.1)), (3, .int (nI d)), (0, .ref (G.2.2.1 224)), (1, .ref (ad 224)), (2, .int v)]) [0, 1, 2, 3, 4, 5, 6, 7, 8] rfl ?_
    exact h164 0 (Nat.zero_le _) M6 R6
  refine wk_iload C.1 3 dL_isSettled_69 rfl ?_
  refine wk_if_le C.1 133 dL_isSettled_71 (by decide) (fun g => ?_) (fun g => ?_)
  · exact h133 _ _ M25 M56 σ R25 hY.2.1 rfl
  · have hn : 0 < σ.1.1 := by
      rcases Nat.eq_zero_or_pos σ.1.1 with q | q
      · rw [q] at g; exact absurd (by decide) g
      · exact q
    obtain ⟨j, hj, hke⟩ := ke_some (s := σ.1) (d := d) h8 σ.1.1 hn (Nat.le_refl _)
    have e5 : keyY σ (nI d) (nI 0) = nI j := by rw [(keyY_in hd).1, hke]
    have e6 : keyY σ (nI d) (nI 1) = nI (seS d 1000 (outS σ.1 j) 0).2 := by rw [(keyY_in hd).2, hke]
    rw [e5, e6]
    have er := remY_in (σ := σ) hj h8
    have Or : OkY (remY σ (nI j)).2 := rem_ok hY.2.1 h8
    have n1 : (remY σ (nI j)).2.1 = outS σ.1 j := by rw [er]; rfl
    have h81 : (remY σ (nI j)).2.1.1 ≤ 8 := by rw [n1]; show σ.1.1 - 1 ≤ 8; omega
    have es := setY_in (σ := (remY σ (nI j)).2) hd
    have Os : OkY (setY (remY σ (nI j)).2 (nI d)).2 := set_ok Or h81
    have Ou : OkY (undY (setY (remY σ (nI j)).2 (nI d)).2).2 := und_ok Os
    have Ov : OkY (undY (undY (setY (remY σ (nI j)).2 (nI d)).2).2).2 := und_ok Ou
    have h4 : σ.2.1 ≤ 4 := by obtain ⟨-, ⟨o, -, -, -, q, -⟩, -⟩ := hR; exact q
    obtain ⟨u1, u2, u3⟩ := und_two (σ := σ) (s := outS σ.1 j) (s2 := (seS d 1000 (outS σ.1 j) 0).1) h4
    have ep : (setY (remY σ (nI j)).2 (nI d)).2 = pushY (pushY σ (outS σ.1 j)) (seS d 1000 (outS σ.1 j) 0).1 := by rw [es, n1, er]
    rw [← ep] at u1 u2 u3
    refine wk_iload C.1 0 dL_isSettled_74 rfl ?_
    refine wk_if_eq C.1 130 dL_isSettled_76 (by decide) (fun c_76 => absurd c_76 (by decide)) (fun c_76 => ?_)
    refine wk_aload_n C.1 5 dL_isSettled_79 rfl rfl ?_
    refine wk_iload C.1 2 dL_isSettled_80 rfl ?_
    refine wd_V1 (i := 224) (n := 1) C [.int (nI j)] [] (c_X4_remove _ G M25 σ R25 hY.2.1 (nI j)) gL_isSettled_X4_remove rfl (by decide +kernel) (Nat.le_of_ble_eq_true rfl) (Nat.le_of_ble_eq_true rfl) (by decide) (cell_k (k := 4) (by decide)) rfl rfl rfl (Nat.le_of_ble_eq_true rfl) (Nat.le_of_ble_eq_true rfl) (Nat.le_of_ble_eq_true rfl) dL_isSettled_82 (fun r82 M82 h82 => ?_)
    obtain ⟨a82, R82, -⟩ := h82
    rw [a82]
    refine wk_iload C.1 3 dL_isSettled_85 rfl ?_
    refine wk_iconst (v := nI 1) C.1 dL_isSettled_87 (by first | decide | rfl) ?_
    refine wk_isub C.1 dL_isSettled_88 ?_
    refine wk_eqi (b := nI (σ.1.1 - 1)) (pk_sub (by omega)) ?_
    refine wk_icmp_ne C.1 130 dL_isSettled_89 (by decide) (fun c_89 => absurd c_89 (fun z => z (by rw [er]))) (fun c_89 => ?_)
    refine wk_aload_n C.1 5 dL_isSettled_92 rfl rfl ?_
    refine wk_iload_n C.1 4 dL_isSettled_93 rfl rfl ?_
    refine wd_V1 (i := 224) (n := 1) C [.int (nI d)] [] (c_X4_settle _ G M82 _ R82 Or (nI d)) gL_isSettled_X4_settle rfl (by decide +kernel) (Nat.le_of_ble_eq_true rfl) (Nat.le_of_ble_eq_true rfl) (by decide) (cell_k (k := 4) (by decide)) rfl rfl rfl (Nat.le_of_ble_eq_true rfl) (Nat.le_of_ble_eq_true rfl) (Nat.le_of_ble_eq_true rfl) dL_isSettled_94 (fun r94 M94 h94 => ?_)
    obtain ⟨a94, R94, -⟩ := h94
    rw [a94]
    refine wk_iload C.1 1 dL_isSettled_97 rfl ?_
    refine wk_icmp_ne C.1 130 dL_isSettled_99 (by decide) (fun c_99 => absurd c_99 (fun z => z (by rw [es, n1]))) (fun c_99 => ?_)
    refine wk_aload_n C.1 5 dL_isSettled_102 rfl rfl ?_
    refine wd_V1 (i := 224) (n := 0) C [] [] (c_X4_undo _ G M94 _ R94 Os) gL_isSettled_X4_undo rfl (by decide +kernel) (Nat.le_of_ble_eq_true rfl) (Nat.le_of_ble_eq_true rfl) (by decide) (cell_k (k := 4) (by decide)) rfl rfl rfl (Nat.le_of_ble_eq_true rfl) (Nat.le_of_ble_eq_true rfl) (Nat.le_of_ble_eq_true rfl) dL_isSettled_103 (fun r103 M103 h103 => ?_)
    obtain ⟨a103, R103, -⟩ := h103
    rw [a103]
    refine wk_if_lt C.1 130 dL_isSettled_106 (by decide) (fun c_106 => absurd c_106 (Int32.not_lt.mpr u1)) (fun c_106 => ?_)
    refine wk_aload_n C.1 5 dL_isSettled_109 rfl rfl ?_
    refine wd_V1 (i := 224) (n := 0) C [] [] (c_X4_undo _ G M103 _ R103 Ou) gL_isSettled_X4_undo rfl (by decide +kernel) (Nat.le_of_ble_eq_true rfl) (Nat.le_of_ble_eq_true rfl) (by decide) (cell_k (k := 4) (by decide)) rfl rfl rfl (Nat.le_of_ble_eq_true rfl) (Nat.le_of_ble_eq_true rfl) (Nat.le_of_ble_eq_true rfl) dL_isSettled_110 (fun r110 M110 h110 => ?_)
    obtain ⟨a110, R110, -⟩ := h110
    rw [a110]
    refine wk_if_lt C.1 130 dL_isSettled_113 (by decide) (fun c_113 => absurd c_113 (Int32.not_lt.mpr u2)) (fun c_113 => ?_)
    refine wk_aload_n C.1 5 dL_isSettled_116 rfl rfl ?_
    refine wk_iconst (v := 0) C.1 dL_isSettled_117 (by decide) ?_
    refine wd_V1 (i := 224) (n := 1) C [.int 0] [] (c_X4_count _ G M110 _ R110 Ov 0) gL_isSettled_X4_count rfl (by decide +kernel) (Nat.le_of_ble_eq_true rfl) (Nat.le_of_ble_eq_true rfl) (by decide) (cell_k (k := 4) (by decide)) rfl rfl rfl (Nat.le_of_ble_eq_true rfl) (Nat.le_of_ble_eq_true rfl) (Nat.le_of_ble_eq_true rfl) dL_isSettled_118 (fun r118 M118 h118 => ?_)
    obtain ⟨a118, b118⟩ := h118
    rw [a118, b118]
    refine wk_eqi (b := nI σ.1.1) ((couY_0 _).trans (by rw [u3])) ?_
    refine wk_iload C.1 3 dL_isSettled_121 rfl ?_
    refine wk_icmp_ne C.1 130 dL_isSettled_123 (by decide) (fun z => absurd rfl z) (fun _ => ?_)
    refine wk_iconst (v := 1) C.1 dL_isSettled_126 (by decide) ?_
    refine wk_goto C.1 131 dL_isSettled_127 (by decide) ?_
    refine wk_istore (L' := [(7, .int 1), (6, .int (nI (seS d 1000 (outS σ.1 j) 0).2)), (5, .int (nI j)), (4, .int (nI σ.1.1)), (3, .int (nI d)), (0, .ref (G.2.2.1 224)), (1, .ref (ad 224)), (2, .int v)]) C.1 dL_isSettled_131 (by decide) rfl ?_
    refine wk_sub (L' := [(7, .int 1), (6, .int (nI (seS d 1000 (outS σ.1 j) 0).2)), (5, .int (nI j)), (4, .int (nI σ.1.1)), (3, .int (nI d)), (0, .ref (G.2.2.1 224)), (1, .ref (ad 224)), (2, .int v)]) [0, 1, 2, 3, 4, 5, 6, 7] rfl ?_
    exact h133 _ _ M110 M56 _ R110 Ov u3
