/-! THE LAW: its loop and start -/
abbrev LCD (x : Cn) (G : Gw) : Prop := CD x G (fun q => (xS x).heap.size ≤ q) RL cL_law 7 wsL_law 10 410 835171 6596735
set_option maxHeartbeats 4000000 in
set_option maxRecDepth 100000 in
theorem law_loop {x : Cn} {G : Gw} {ad : Nat → Nat} {QQ : State → Prop} {b n : Nat} {xs : Nat → Int32} (C : LCD x G) (hX : va_X b n xs (xS x) (xS x).heap) (hbl : b < (xS x).heap.size) (hbA : ¬ (xS x).heap.size ≤ b) (hn : n < 3000) (fin : ∀ (cs sl : Nat) (ws : va_W) (L : List (Nat × Value)), cs ≤ 3000 → sl ≤ 20000 → WK x G (fun q => (xS x).heap.size ≤ q) 7 cs sl QQ ws 186 L [.int 1]) (u t : Nat) : ∀ k, k ≤ 30 → ∀ (cs sl : Nat), cs ≤ 1000 + k → sl ≤ 9000 + 8 * k → ∀ (M N : Mem) (σ σ' : Sy), RC M σ → RC N σ' → RY σ σ' → WK x G (fun q => (xS x).heap.size ≤ q) 7 cs sl QQ (wd G M ++ (wd (gA G ad) N ++ [])) 81 [(6, .int (nI k)), (5, .int 1), (4, .int (nI (18 + t))), (3, .int (nI (18 + u))), (2, .ref (ad 224)), (1, .ref (G.2.2.1 224)), (0, .ref b)] [] := by
  refine up_loop 30 _ (fun k hk ih => ?_)
  intro cs sl hcs hsl M N σ σ' hR hR' hY
  refine wk_iload C.1 0 dL_law_81 rfl ?_
  refine wk_bipush (v := nI 30) C.1 dL_law_83 (by decide) ?_
  refine wk_icmp_geN C.1 (a := k) (b := 30) (by omega) (by omega) 148 dL_law_85 (by decide) (fun g => ?_) (fun g => ?_)
  · skip
    refine wk_iload C.1 1 dL_law_148 rfl ?_
    refine wk_if_eq C.1 185 dL_law_150 (by decide) (fun c_150 => absurd c_150 (by decide)) (fun c_150 => ?_)
    refine wk_aload_n C.1 5 dL_law_153 rfl rfl ?_
    refine wk_aload_n C.1 4 dL_law_154 rfl rfl ?_
    refine wk_aload_n C.1 6 dL_law_155 rfl rfl ?_
    refine wk_bipush (v := nI 30) C.1 dL_law_156 (by decide) ?_
    refine wd_C1 (n := 2) C hX hbl hbA [.ref b, .int (nI 30)] [.ref (ad 224), .ref (G.2.2.1 224)] (c_L_cell _ G M b n xs 30 (by omega) (by omega)) gL_law_L_cell rfl (by decide +kernel) (Nat.le_of_ble_eq_true rfl) (Nat.le_of_ble_eq_true rfl) rfl rfl (Nat.le_of_ble_eq_true rfl) (by omega) (by omega) dL_law_158 (fun r158 M158 h158 => ?_)
    have b158 : M158 = M := h158
    rw [b158]
    refine wd_callD (n := 3) C [.ref (G.2.2.1 224), .ref (ad 224), .int r158] [] (c_L_areAlike _ G ad M N σ σ' hR hR' hY r158) gL_law_L_areAlike rfl (by decide +kernel) (Nat.le_of_ble_eq_true rfl) (Nat.le_of_ble_eq_true rfl) rfl rfl (Nat.le_of_ble_eq_true rfl) (by omega) (by omega) dL_law_161 (fun r161 M161 N161 h161 => ?_)
    obtain ⟨a161, R161, S161⟩ := h161
    rw [a161]
    refine wk_if_eq C.1 185 dL_law_164 (by decide) (fun c_164 => absurd c_164 (by decide)) (fun c_164 => ?_)
    refine wk_aload_n C.1 5 dL_law_167 rfl rfl ?_
    refine wk_aload_n C.1 4 dL_law_168 rfl rfl ?_
    refine wk_aload_n C.1 6 dL_law_169 rfl rfl ?_
    refine wk_bipush (v := nI 31) C.1 dL_law_170 (by decide) ?_
    refine wd_C1 (n := 2) C hX hbl hbA [.ref b, .int (nI 31)] [.ref (ad 224), .ref (G.2.2.1 224)] (c_L_cell _ G M161 b n xs 31 (by omega) (by omega)) gL_law_L_cell rfl (by decide +kernel) (Nat.le_of_ble_eq_true rfl) (Nat.le_of_ble_eq_true rfl) rfl rfl (Nat.le_of_ble_eq_true rfl) (by omega) (by omega) dL_law_172 (fun r172 M172 h172 => ?_)
    have b172 : M172 = M161 := h172
    rw [b172]
    refine wd_callD (n := 3) C [.ref (G.2.2.1 224), .ref (ad 224), .int r172] [] (c_L_isSettled _ G ad M161 N161 σ σ' R161 S161 hY r172) gL_law_L_isSettled rfl (by decide +kernel) (Nat.le_of_ble_eq_true rfl) (Nat.le_of_ble_eq_true rfl) rfl rfl (Nat.le_of_ble_eq_true rfl) (by omega) (by omega) dL_law_175 (fun r175 M175 N175 h175 => ?_)
    have a175 : r175 = 1 := h175
    rw [a175]
    refine wk_if_eq C.1 185 dL_law_178 (by decide) (fun c_178 => absurd c_178 (by decide)) (fun c_178 => ?_)
    refine wk_iconst (v := 1) C.1 dL_law_181 (by decide) ?_
    refine wk_goto C.1 186 dL_law_182 (by decide) ?_
    exact fin _ _ _ _ (by omega) (by omega)
  · skip
    refine wk_iload C.1 1 dL_law_88 rfl ?_
    refine wk_if_eq C.1 148 dL_law_90 (by decide) (fun c_90 => absurd c_90 (by decide)) (fun c_90 => ?_)
    refine wk_aload_n C.1 5 dL_law_93 rfl rfl ?_
    refine wk_aload_n C.1 4 dL_law_94 rfl rfl ?_
    refine wk_aload_n C.1 6 dL_law_95 rfl rfl ?_
    refine wk_iload C.1 0 dL_law_96 rfl ?_
    refine wd_C1 (n := 2) C hX hbl hbA [.ref b, .int (nI k)] [.ref (ad 224), .ref (G.2.2.1 224)] (c_L_cell _ G M b n xs k (by omega) (by omega)) gL_law_L_cell rfl (by decide +kernel) (Nat.le_of_ble_eq_true rfl) (Nat.le_of_ble_eq_true rfl) rfl rfl (Nat.le_of_ble_eq_true rfl) (by omega) (by omega) dL_law_98 (fun r98 M98 h98 => ?_)
    have b98 : M98 = M := h98
    rw [b98]
    refine wd_callD (n := 3) C [.ref (G.2.2.1 224), .ref (ad 224), .int r98] [] (c_L_isStep _ G ad M N σ σ' hR hR' hY r98) gL_law_L_isStep rfl (by decide +kernel) (Nat.le_of_ble_eq_true rfl) (Nat.le_of_ble_eq_true rfl) rfl rfl (Nat.le_of_ble_eq_true rfl) (by omega) (by omega) dL_law_101 (fun r101 M101 N101 h101 => ?_)
    obtain ⟨a101, τ, τ', R101, S101, Y101⟩ := h101
    rw [a101]
    refine wk_istore (L' := [(5, .int 1), (6, .int (nI k)), (4, .int (nI (18 + t))), (3, .int (nI (18 + u))), (2, .ref (ad 224)), (1, .ref (G.2.2.1 224)), (0, .ref b)]) C.1 dL_law_104 (by decide) rfl ?_
    refine wk_iload C.1 0 dL_law_106 rfl ?_
    refine wk_if_eq C.1 139 dL_law_108 (by decide) (fun c_108 => absurd c_108 (by decide)) (fun c_108 => ?_)
    refine wk_iload C.1 1 dL_law_111 rfl ?_
    refine wk_iconst (v := nI 3) C.1 dL_law_113 (by first | decide | rfl) ?_
    refine wk_irem C.1 dL_law_114 (by decide) ?_
    refine wk_eqi (b := nI (k % 3)) (pk_rem (by omega) (by decide) (by decide)) ?_
    have h135 : ∀ (M3 N3 : Mem) (cs2 sl2 : Nat), cs2 ≤ cs + 1 → sl2 ≤ sl + 8 → RC M3 τ → RC N3 τ' → WK x G (fun q => (xS x).heap.size ≤ q) 7 cs2 sl2 QQ (wd G M3 ++ (wd (gA G ad) N3 ++ [])) 135 [(5, .int 1), (6, .int (nI k)), (4, .int (nI (18 + t))), (3, .int (nI (18 + u))), (2, .ref (ad 224)), (1, .ref (G.2.2.1 224)), (0, .ref b)] [] := by
      intro M3 N3 cs2 sl2 h2 h3 R3 S3
      refine wk_iconst (v := 1) C.1 dL_law_135 (by decide) ?_
      refine wk_goto C.1 140 dL_law_136 (by decide) ?_
      refine wk_istore (L' := [(5, .int 1), (6, .int (nI k)), (4, .int (nI (18 + t))), (3, .int (nI (18 + u))), (2, .ref (ad 224)), (1, .ref (G.2.2.1 224)), (0, .ref b)]) C.1 dL_law_140 (by decide) rfl ?_
      refine wk_iinc1 (k := k) (L' := [(6, .int (nI (k + 1))), (5, .int 1), (4, .int (nI (18 + t))), (3, .int (nI (18 + u))), (2, .ref (ad 224)), (1, .ref (G.2.2.1 224)), (0, .ref b)]) C.1 1 dL_law_142 rfl (by decide) rfl ?_
      refine wk_goto C.1 81 dL_law_145 (by decide) ?_
      refine wk_sub (L' := [(6, .int (nI (k + 1))), (5, .int 1), (4, .int (nI (18 + t))), (3, .int (nI (18 + u))), (2, .ref (ad 224)), (1, .ref (G.2.2.1 224)), (0, .ref b)]) [0, 1, 2, 3, 4, 5, 6] rfl ?_
      exact ih (by omega) cs2 sl2 (by omega) (by omega) M3 N3 τ τ' R3 S3 Y101
    refine wk_if_gt C.1 135 dL_law_115 (by decide) (fun _ => h135 M101 N101 _ _ (Nat.le_refl _) (Nat.le_refl _) R101 S101) (fun _ => ?_)
    refine wk_aload_n C.1 5 dL_law_118 rfl rfl ?_
    refine wk_aload_n C.1 4 dL_law_119 rfl rfl ?_
    refine wk_aload_n C.1 6 dL_law_120 rfl rfl ?_
    refine wk_iload C.1 1 dL_law_121 rfl ?_
    refine wd_C1 (n := 2) C hX hbl hbA [.ref b, .int (nI k)] [.ref (ad 224), .ref (G.2.2.1 224)] (c_L_cell _ G M101 b n xs k (by omega) (by omega)) gL_law_L_cell rfl (by decide +kernel) (Nat.le_of_ble_eq_true rfl) (Nat.le_of_ble_eq_true rfl) rfl rfl (Nat.le_of_ble_eq_true rfl) (by omega) (by omega) dL_law_123 (fun r123 M123 h123 => ?_)
    have b123 : M123 = M101 := h123
    rw [b123]
    refine wk_bipush (v := 7) C.1 dL_law_126 (by decide) ?_
    refine wk_ishr C.1 dL_law_128 ?_
    refine wd_callD (n := 3) C [.ref (G.2.2.1 224), .ref (ad 224), .int (r123 >>> ((7 : Int32) &&& 31))] [] (c_L_areAlike _ G ad M101 N101 τ τ' R101 S101 Y101 (r123 >>> ((7 : Int32) &&& 31))) gL_law_L_areAlike rfl (by decide +kernel) (Nat.le_of_ble_eq_true rfl) (Nat.le_of_ble_eq_true rfl) rfl rfl (Nat.le_of_ble_eq_true rfl) (by omega) (by omega) dL_law_129 (fun r129 M129 N129 h129 => ?_)
    obtain ⟨a129, R129, S129⟩ := h129
    rw [a129]
    refine wk_if_eq C.1 139 dL_law_132 (by decide) (fun c_132 => absurd c_132 (by decide)) (fun c_132 => ?_)
    exact h135 M129 N129 _ _ (by omega) (by omega) R129 S129
set_option maxHeartbeats 4000000 in
set_option maxRecDepth 100000 in
theorem law_first {x : Cn} {G : Gw} {ad : Nat → Nat} {QQ : State → Prop} {b n : Nat} {xs : Nat → Int32} (C : LCD x G) (hX : va_X b n xs (xS x) (xS x).heap) (hbl : b < (xS x).heap.size) (hbA : ¬ (xS x).heap.size ≤ b) (hn : n < 3000) (fin : ∀ (cs sl : Nat) (ws : va_W) (L : List (Nat × Value)), cs ≤ 3000 → sl ≤ 20000 → WK x G (fun q => (xS x).heap.size ≤ q) 7 cs sl QQ ws 186 L [.int 1]) (cs sl : Nat) (hcs : cs ≤ 1000) (hsl : sl ≤ 9000) : WK x G (fun q => (xS x).heap.size ≤ q) 7 cs sl QQ (wd G MS ++ (wd (gA G ad) MS ++ [])) 16 [(2, .ref (ad 224)), (1, .ref (G.2.2.1 224)), (0, .ref b)] [] := by
  refine wk_bipush (v := nI 18) C.1 dL_law_16 (by decide) ?_
  refine wk_aload_n C.1 2 dL_law_18 rfl rfl ?_
  refine wk_iconst (v := nI 0) C.1 dL_law_19 (by first | decide | rfl) ?_
  refine wd_C1 (n := 2) C hX hbl hbA [.ref b, .int (nI 0)] [.int (nI 18)] (c_L_cell _ G MS b n xs 0 (by omega) (by omega)) gL_law_L_cell rfl (by decide +kernel) (Nat.le_of_ble_eq_true rfl) (Nat.le_of_ble_eq_true rfl) rfl rfl (Nat.le_of_ble_eq_true rfl) (by omega) (by omega) dL_law_20 (fun r20 M20 h20 => ?_)
  have b20 : M20 = MS := h20
  rw [b20]
  refine wk_bipush (v := nI 7) C.1 dL_law_23 (by decide) ?_
  refine wd_S1 (n := 2) C [.int r20, .int (nI 7)] [.int (nI 18)] (c_L_up _ G MS r20 7 (by omega) (by omega)) gL_law_L_up rfl (by decide +kernel) (Nat.le_of_ble_eq_true rfl) (Nat.le_of_ble_eq_true rfl) rfl rfl (Nat.le_of_ble_eq_true rfl) (by omega) (by omega) dL_law_25 (fun r25 M25 h25 => ?_)
  obtain ⟨a25, b25⟩ := h25
  rw [a25, b25]
  obtain ⟨u, eu⟩ : ∃ z : Nat, z = upN r20 7 := ⟨_, rfl⟩
  have hu : u < 7 := by rw [eu]; exact upN_lt (by decide)
  rw [← eu]
  refine wk_iadd C.1 dL_law_28 ?_
  refine wk_eqi (b := nI (18 + u)) (nI_add 18 u) ?_
  refine wk_istore_n (L' := [(3, .int (nI (18 + u))), (2, .ref (ad 224)), (1, .ref (G.2.2.1 224)), (0, .ref b)]) C.1 dL_law_29 rfl (by decide) rfl ?_
  refine wk_bipush (v := nI 18) C.1 dL_law_30 (by decide) ?_
  refine wk_aload_n C.1 3 dL_law_32 rfl rfl ?_
  refine wk_iconst (v := nI 1) C.1 dL_law_33 (by first | decide | rfl) ?_
  refine wd_C1 (n := 2) C hX hbl hbA [.ref b, .int (nI 1)] [.int (nI 18)] (c_L_cell _ G MS b n xs 1 (by omega) (by omega)) gL_law_L_cell rfl (by decide +kernel) (Nat.le_of_ble_eq_true rfl) (Nat.le_of_ble_eq_true rfl) rfl rfl (Nat.le_of_ble_eq_true rfl) (by omega) (by omega) dL_law_34 (fun r34 M34 h34 => ?_)
  have b34 : M34 = MS := h34
  rw [b34]
  refine wk_bipush (v := nI 7) C.1 dL_law_37 (by decide) ?_
  refine wd_S1 (n := 2) C [.int r34, .int (nI 7)] [.int (nI 18)] (c_L_up _ G MS r34 7 (by omega) (by omega)) gL_law_L_up rfl (by decide +kernel) (Nat.le_of_ble_eq_true rfl) (Nat.le_of_ble_eq_true rfl) rfl rfl (Nat.le_of_ble_eq_true rfl) (by omega) (by omega) dL_law_39 (fun r39 M39 h39 => ?_)
  obtain ⟨a39, b39⟩ := h39
  rw [a39, b39]
  obtain ⟨t, et⟩ : ∃ z : Nat, z = upN r34 7 := ⟨_, rfl⟩
  have ht : t < 7 := by rw [et]; exact upN_lt (by decide)
  rw [← et]
  obtain ⟨k1, k2, kY⟩ := law_box hu ht
  refine wk_iadd C.1 dL_law_42 ?_
  refine wk_eqi (b := nI (18 + t)) (nI_add 18 t) ?_
  refine wk_istore (L' := [(4, .int (nI (18 + t))), (3, .int (nI (18 + u))), (2, .ref (ad 224)), (1, .ref (G.2.2.1 224)), (0, .ref b)]) C.1 dL_law_43 (by decide) rfl ?_
  refine wk_aload_n C.1 3 dL_law_45 rfl rfl ?_
  refine wk_iload_n C.1 1 dL_law_46 rfl rfl ?_
  refine wk_iload C.1 0 dL_law_47 rfl ?_
  refine wd_V1 (i := 224) (n := 2) C [.int (nI (18 + u)), .int (nI (18 + t))] [] (c_X4_box _ G MS Y0 MS_RC start_ok (nI (18 + u)) (nI (18 + t))) gL_law_X4_box rfl (by decide +kernel) (Nat.le_of_ble_eq_true rfl) (Nat.le_of_ble_eq_true rfl) (by decide) (cell_k (k := 4) (by decide)) rfl rfl rfl (Nat.le_of_ble_eq_true rfl) (by omega) (by omega) dL_law_49 (fun r49 M49 h49 => ?_)
  obtain ⟨a49, R49, -⟩ := h49
  rw [a49]
  refine wk_sipush (v := 2020) C.1 dL_law_52 (by decide) ?_
  refine wk_icmp_ne C.1 75 dL_law_55 (by decide) (fun c_55 => absurd c_55 (fun z => z k1)) (fun c_55 => ?_)
  refine wk_aload_n C.1 2 dL_law_58 rfl rfl ?_
  refine wk_iload C.1 0 dL_law_59 rfl ?_
  refine wk_iload_n C.1 1 dL_law_61 rfl rfl ?_
  refine wd_callVi (F := wd G M49) (ad := ad) (i := 224) (n := 2) C [.int (nI (18 + t)), .int (nI (18 + u))] [] (c_X4_box _ (gA G ad) MS Y0 MS_RC start_ok (nI (18 + t)) (nI (18 + u))) gL_law_X4_box rfl (by decide +kernel) (Nat.le_of_ble_eq_true rfl) (Nat.le_of_ble_eq_true rfl) (by decide) (cell_k (k := 4) (by decide)) rfl rfl rfl (Nat.le_of_ble_eq_true rfl) (by omega) (by omega) dL_law_62 (fun r62 M62 h62 => ?_)
  obtain ⟨a62, R62, -⟩ := h62
  rw [a62]
  refine wk_sipush (v := 2020) C.1 dL_law_65 (by decide) ?_
  refine wk_icmp_ne C.1 75 dL_law_68 (by decide) (fun c_68 => absurd c_68 (fun z => z k2)) (fun c_68 => ?_)
  refine wk_iconst (v := 1) C.1 dL_law_71 (by decide) ?_
  refine wk_goto C.1 76 dL_law_72 (by decide) ?_
  refine wk_istore (L' := [(5, .int 1), (4, .int (nI (18 + t))), (3, .int (nI (18 + u))), (2, .ref (ad 224)), (1, .ref (G.2.2.1 224)), (0, .ref b)]) C.1 dL_law_76 (by decide) rfl ?_
  refine wk_iconst (v := nI 2) C.1 dL_law_78 (by first | decide | rfl) ?_
  refine wk_istore (L' := [(6, .int (nI 2)), (5, .int 1), (4, .int (nI (18 + t))), (3, .int (nI (18 + u))), (2, .ref (ad 224)), (1, .ref (G.2.2.1 224)), (0, .ref b)]) C.1 dL_law_79 (by decide) rfl ?_
  refine wk_sub (L' := [(6, .int (nI 2)), (5, .int 1), (4, .int (nI (18 + t))), (3, .int (nI (18 + u))), (2, .ref (ad 224)), (1, .ref (G.2.2.1 224)), (0, .ref b)]) [0, 1, 2, 3, 4, 5, 6] rfl ?_
  exact law_loop C hX hbl hbA hn fin u t 2 (by decide) cs sl (by omega) (by omega) M49 M62 _ _ R49 R62 kY
set_option maxHeartbeats 4000000 in
set_option maxRecDepth 100000 in
theorem whole_start {p : Program} {e : Env} {s : State} {m : MethodId} {below : List Frame} {meth : Method} {c : Code} (l : Launch) (hflags : l.flags = flags0) {b L : Nat} {xs : Nat → Int32} (hL : L ≤ 260) (C0 : lw_At p s m meth c b L xs) : W p l e room_1 s m #[Value.ref b] below meth c s.heap [] 0 0 (lw_Z below #[Value.ref b] s) (entryFrame m ([Value.ref b] : List Value).toArray 7) := by
  obtain ⟨hx, hb, hr, hml, hown, hts, hX, hbl, hlocks, hgv⟩ := id C0
  obtain ⟨D, dA, hK⟩ := law_K hts
  obtain ⟨tX, zX, sX⟩ := law_TX hts hgv
  obtain ⟨tY, zY, sY⟩ := law_TY hts hgv
  obtain ⟨G, hG⟩ : ∃ G : Gw, G = (D, dA, (fun _ => 0), tX, tY) := ⟨_, rfl⟩
  obtain ⟨x, hxe⟩ : ∃ x : Cn, x = (p, l, e, room_1, s, m, #[Value.ref b], below, meth, c) := ⟨_, rfl⟩
  have hsx : xS x = s := by rw [hxe]; rfl
  have hw : ∀ w ∈ wsL_law, w.before #[Value.ref b] s = true := fun w h => hts w (i_wsL w h)
  have C : CK x G (fun q => (xS x).heap.size ≤ q) RL cL_law 7 wsL_law 10 410 835171 6596735 := by
    rw [hxe, hG]
    exact ⟨hx, hb, hml, hown, hw, hK, fun _ h => h, va_AO.of (hts _ i_aB), va_AO.of (hts _ i_aP), hlocks, Nat.le_of_ble_eq_true rfl, Nat.le_of_ble_eq_true rfl, Nat.le_of_ble_eq_true rfl, Nat.le_of_ble_eq_true rfl⟩
  have hX1 : va_X b L xs (xS x) (xS x).heap := by rw [hsx]; exact hX
  have hbl1 : b < (xS x).heap.size := by rw [hsx]; exact hbl
  have hbA1 : ¬ (xS x).heap.size ≤ b := Nat.not_le.mpr hbl1
  have fin : ∀ (G' : Gw) (cs sl : Nat) (ws : va_W) (L' : List (Nat × Value)), cs ≤ 3000 → sl ≤ 20000 → WK x G' (fun q => (xS x).heap.size ≤ q) 7 cs sl (lw_Z below #[Value.ref b] s) ws 186 L' [.int 1] := by
    intro G' cs sl ws L' h1 h2
    rw [hxe]
    exact wk_end C0 (Nat.le_trans h1 (Nat.le_of_ble_eq_true rfl)) (Nat.le_trans h2 (Nat.le_of_ble_eq_true rfl)) dL_law_186
  have cl : ∀ a : Nat → Nat, LCD x (gP G a) := by
    intro a
    rw [hxe, hG]
    exact ⟨⟨hx, hb, hml, hown, hw, hK, fun _ h => h, va_AO.of (hts _ i_aB), va_AO.of (hts _ i_aP), hlocks, Nat.le_of_ble_eq_true rfl, Nat.le_of_ble_eq_true rfl, Nat.le_of_ble_eq_true rfl, Nat.le_of_ble_eq_true rfl⟩, ⟨zX, sX, zY, sY⟩, law_NW hts⟩
  have main : WK x G (fun q => (xS x).heap.size ≤ q) 7 0 0 (lw_Z below #[Value.ref b] s) [] 0 [(0, .ref b)] [] := by
    generalize lw_Z below #[Value.ref b] s = Q at fin ⊢
    clear hxe hsx
    refine wk_new C 4 tyX4 [.null, .null, .null, .null] inlX4 tyX4_ok (by decide +kernel) (by decide +kernel) (by decide +kernel) rfl dfX4 (by omega) (by omega) dL_law_0 (fun q1 => ?_)
    refine wk_dup C dL_law_3 rfl ?_
    refine wk_call (wy := wsX4_init) C [.ref q1] (c_X4_init _ G) gL_law_X4_init rfl (by decide +kernel) (by decide +kernel) (by decide +kernel) rfl (by decide +kernel) (by decide) (by decide) (by omega) (by omega) (Nat.le_of_ble_eq_true rfl) dL_law_4 (fun a ha => ?_)
    refine wk_astore_n (L' := [(1, .ref q1), (0, .ref b)]) C dL_law_7 rfl (by decide) rfl ?_
    refine wk_new C 4 tyX4 [.null, .null, .null, .null] inlX4 tyX4_ok (by decide +kernel) (by decide +kernel) (by decide +kernel) rfl dfX4 (by omega) (by omega) dL_law_8 (fun q2 => ?_)
    refine wk_dup C dL_law_11 rfl ?_
    refine wk_call (wy := wsX4_init) C [.ref q2] (c_X4_init _ G) gL_law_X4_init rfl (by decide +kernel) (by decide +kernel) (by decide +kernel) rfl (by decide +kernel) (by decide) (by decide) (by omega) (by omega) (Nat.le_of_ble_eq_true rfl) dL_law_12 (fun a2 ha2 => ?_)
    subst ha ha2
    refine wk_astore_n (L' := [(2, .ref (a2 0)), (1, .ref (a 0)), (0, .ref b)]) C dL_law_15 rfl (by decide) rfl ?_
    refine wk_ws (ws' := ijw G a ++ ijw G a2) rfl ?_
    refine wk_pool2 ?_
    exact law_first (ad := adP a2) (cl a) hX1 hbl1 hbA1 (by omega) (fin _) _ _ (by omega) (by omega)
  rw [hxe] at main
  rw [lg_entry_eq]
  exact main _ s.heap [] (lv_entry [.ref b] (n := 7) (Nat.le_of_ble_eq_true rfl)) (fun k q h => by simp at h) ⟨fun i j p q h => by simp at h, fun k q h => by simp at h⟩ va_S.rf
