set_option maxHeartbeats 4000000 in
set_option maxRecDepth 100000 in
theorem c_X2_at (l : Launch) (G : Gw) (M : Mem) (o age : Nat) (ho : M 225 2 = nI o) (ho4 : o < 4) (ha : age < 4) : Ca l G yX2_at wsX2_at 0 0 [.ref (G.2.2.1 225), .int (nI age)] M (64 + 32 * ((o + age) % 4)) := by
  refine Cr.of (cc := cX2_at) (maxL := 3) (ret := (some (.object "JammedBodies$Packing"))) (by decide +kernel) rfl (Nat.le_of_ble_eq_true rfl) ?_
  intro x sz hl0 hr C
  subst hl0
  have C : CX x G (AA G sz) RX2 cX2_at 3 wsX2_at 0 0 0 0 := C
  have hret : ∀ (M0 : Mem) (pc0 : Nat) (L0 : List (Nat × Value)) (ri0 : Nat), decode cX2_at pc0 = .ok (.areturn, 1) → (fun (r : Nat) (M' : Mem) => r = 64 + 32 * ((o + age) % 4) ∧ M' = M) ri0 M0 → WL x G (AA G sz) 3 0 0 (xQ x (va_Qr (fun u : Nat × Mem => (fun (r : Nat) (M' : Mem) => r = 64 + 32 * ((o + age) % 4) ∧ M' = M) u.1 u.2) (fun u a t => a = G.2.2.1 u.1 ∧ WE G u.2 t) (AA G sz)) (AA G sz)) M0 pc0 L0 [.ref (G.2.2.1 ri0)] := fun M0 pc0 L0 ri0 hd hp => wl_aret (post := (fun (r : Nat) (M' : Mem) => r = 64 + 32 * ((o + age) % 4) ∧ M' = M)) C hr hd hp
  show WL x G (AA G sz) 3 0 0 (xQ x (va_Qr (fun u : Nat × Mem => (fun (r : Nat) (M' : Mem) => r = 64 + 32 * ((o + age) % 4) ∧ M' = M) u.1 u.2) (fun u a t => a = G.2.2.1 u.1 ∧ WE G u.2 t) (AA G sz)) (AA G sz)) M 0 [(0, .ref (G.2.2.1 225)), (1, .int (nI age))] []
  generalize (xQ x (va_Qr (fun u : Nat × Mem => (fun (r : Nat) (M' : Mem) => r = 64 + 32 * ((o + age) % 4) ∧ M' = M) u.1 u.2) (fun u a t => a = G.2.2.1 u.1 ∧ WE G u.2 t) (AA G sz)) (AA G sz)) = QQ at hret ⊢
  have in2 : ∀ w ∈ wsX20, w ∈ wsX2_at := by decide +kernel
  have fl22 : Jvm.Cond.fieldLink RX2 22 "JammedBodies$History" "oldest" "I" ∈ wsX2_at := by decide +kernel
  have fl11 : Jvm.Cond.fieldLink RX2 11 "JammedBodies$History" "ring" "[LJammedBodies$Packing;" ∈ wsX2_at := by decide +kernel
  have hm : (o + age) % 4 < 4 := Nat.mod_lt _ (by omega)
  refine wl_aload_n C 0 dX2_at_0 rfl rfl ?_
  refine wl_get_History_oldest (i := 225) (v := nI o) C (by decide) in2 fl22 ho dX2_at_1 ?_
  refine wl_iload_n C 1 dX2_at_4 rfl rfl ?_
  refine wl_iadd C dX2_at_5 ?_
  refine wl_eqi (b := nI (o + age)) (nI_add _ _) ?_
  refine wl_istore_n (L' := [(2, .int (nI (o + age))), (0, .ref (G.2.2.1 225)), (1, .int (nI age))]) C dX2_at_6 rfl (by decide) rfl ?_
  have h15 : WL x G (AA G sz) 3 0 0 QQ M 15 [(0, .ref (G.2.2.1 225)), (1, .int (nI age)), (2, .int (nI ((o + age) % 4)))] [] := by
    refine wl_iload_n C 2 dX2_at_15 rfl rfl ?_
    refine wl_if_lt C 37 dX2_at_16 (by decide) (fun c_16 => absurd c_16 (nI_pos (by omega))) (fun c_16 => ?_)
    refine wl_iload_n C 2 dX2_at_19 rfl rfl ?_
    refine wl_aload_n C 0 dX2_at_20 rfl rfl ?_
    refine wl_get_History_ring (i := 225) C (by decide) in2 fl11 dX2_at_21 ?_
    refine wl_alenP (i := 226) C ((by decide)) dX2_at_24 ?_
    refine wl_eqi (b := nI 4) (rfl) ?_
    refine wl_icmp_geN C (a := ((o + age) % 4)) (b := 4) (by omega) (by omega) 37 dX2_at_25 (by decide) (fun c_25 => absurd c_25 (by omega)) (fun c_25 => ?_)
    refine wl_aload_n C 0 dX2_at_28 rfl rfl ?_
    refine wl_get_History_ring (i := 225) C (by decide) in2 fl11 dX2_at_29 ?_
    refine wl_iload_n C 2 dX2_at_32 rfl rfl ?_
    refine wl_aaldP (j := (o + age) % 4) C (rfl) (hm) dX2_at_33 ?_
    refine wl_ifnonnull C 42 dX2_at_34 (by decide) ?_
    refine wl_aload_n C 0 dX2_at_42 rfl rfl ?_
    refine wl_get_History_ring (i := 225) C (by decide) in2 fl11 dX2_at_43 ?_
    refine wl_iload_n C 2 dX2_at_46 rfl rfl ?_
    refine wl_aaldP (j := (o + age) % 4) C (rfl) (hm) dX2_at_47 ?_
    exact hret _ 48 _ (64 + 32 * ((o + age) % 4)) dX2_at_48 (⟨rfl, rfl⟩)
  refine wl_iload_n C 0 dX2_at_7 rfl rfl ?_
  refine wl_iconst (v := nI 4) C dX2_at_8 (by first | decide | rfl) ?_
  refine wl_icmp_ltN C (a := (o + age)) (b := 4) (by omega) (by omega) 15 dX2_at_9 (by decide) (fun c_9 => ?_) (fun c_9 => ?_)
  · refine wl_sub (L' := [(0, .ref (G.2.2.1 225)), (1, .int (nI age)), (2, .int (nI (o + age)))]) [1, 2, 0] rfl ?_
    refine wl_locs (L' := [(0, .ref (G.2.2.1 225)), (1, .int (nI age)), (2, .int (nI ((o + age) % 4)))]) (by rw [Nat.mod_eq_of_lt c_9]) ?_
    exact h15
  · refine wl_iinc (w := nI (o + age - 4)) (L' := [(2, .int (nI (o + age - 4))), (0, .ref (G.2.2.1 225)), (1, .int (nI age))]) C 0 dX2_at_12 rfl (nI_m4 (by omega)) (by decide) rfl ?_
    refine wl_sub (L' := [(0, .ref (G.2.2.1 225)), (1, .int (nI age)), (2, .int (nI (o + age - 4)))]) [1, 2, 0] rfl ?_
    refine wl_locs (L' := [(0, .ref (G.2.2.1 225)), (1, .int (nI age)), (2, .int (nI ((o + age) % 4)))]) (by rw [show (o + age) % 4 = o + age - 4 by omega]) ?_
    exact h15
set_option maxHeartbeats 4000000 in
set_option maxRecDepth 100000 in
theorem c_X2_keep (l : Launch) (G : Gw) (M : Mem) (p hn : Nat) (s : St) (H : Nat → St) (hp : kd p = 3) (hpq : p + 32 ≤ 64) (hs : Pk M p s) (hH : Hs M hn H) : Cv l G yX2_keep wsX2_keep 3 67 [.ref (G.2.2.1 225), .ref (G.2.2.1 p)] M (fun M' => Hs M' (puN hn) (puH hn H s) ∧ FrH M M') := by
  refine Cv.of (cc := cX2_keep) (maxL := 2) (ret := none) (by decide +kernel) rfl (Nat.le_of_ble_eq_true rfl) ?_
  intro x sz hl0 hr C
  subst hl0
  have C : CX x G (AA G sz) RX2 cX2_keep 2 wsX2_keep 3 67 0 0 := C
  have hret : ∀ (M0 : Mem) (pc0 : Nat) (L0 : List (Nat × Value)), decode cX2_keep pc0 = .ok (.return_, 1) → (fun M' => Hs M' (puN hn) (puH hn H s) ∧ FrH M M') M0 → WL x G (AA G sz) 2 0 0 (xQ x (va_Qv (fun M' => Hs M' (puN hn) (puH hn H s) ∧ FrH M M') (WE G) (AA G sz)) (AA G sz)) M0 pc0 L0 [] := fun M0 pc0 L0 hd hp => wl_vret (post := (fun M' => Hs M' (puN hn) (puH hn H s) ∧ FrH M M')) C hr hd hp
  show WL x G (AA G sz) 2 0 0 (xQ x (va_Qv (fun M' => Hs M' (puN hn) (puH hn H s) ∧ FrH M M') (WE G) (AA G sz)) (AA G sz)) M 0 [(0, .ref (G.2.2.1 225)), (1, .ref (G.2.2.1 p))] []
  generalize (xQ x (va_Qv (fun M' => Hs M' (puN hn) (puH hn H s) ∧ FrH M M') (WE G) (AA G sz)) (AA G sz)) = QQ at hret ⊢
  have in2 : ∀ w ∈ wsX20, w ∈ wsX2_keep := by decide +kernel
  have fl26 : Jvm.Cond.fieldLink RX2 26 "JammedBodies$History" "size" "I" ∈ wsX2_keep := by decide +kernel
  have fl22 : Jvm.Cond.fieldLink RX2 22 "JammedBodies$History" "oldest" "I" ∈ wsX2_keep := by decide +kernel
  obtain ⟨o, ho4, ho, hh, hn4, hHa⟩ := hH
  have h42 : ∀ (M3 : Mem) (o3 n3 : Nat) (H3 : Nat → St), o3 < 4 → n3 < 4 → M3 225 2 = nI o3 → M3 225 3 = nI n3 → FrH M M3 → (∀ a, a < n3 → Pk M3 (64 + 32 * ((o3 + a) % 4)) (H3 a)) → puN hn = n3 + 1 → (∀ a, a ≤ n3 → puH hn H s a = if a < n3 then H3 a else s) → WL x G (AA G sz) 2 0 0 QQ M3 42 [(0, .ref (G.2.2.1 225)), (1, .ref (G.2.2.1 p))] [] := by
    intro M3 o3 n3 H3 go gn g2 g3 g4 g5 g6 g7
    refine wl_aload_n C 0 dX2_keep_42 rfl rfl ?_
    refine wl_aload_n C 0 dX2_keep_43 rfl rfl ?_
    refine wl_get_History_size (i := 225) (v := nI n3) C (by decide) in2 fl26 g3 dX2_keep_44 ?_
    refine wl_callVa (i := 225) (n := 1) C [.int (nI n3)] [] (c_X2_at _ G M3 o3 n3 g2 go (by omega)) gX2_keep_X2_at rfl (by decide +kernel) (by decide) (by decide) (kd_lt (k := 2) (by decide) (by decide)) (cell_k (k := 2) (by decide)) rfl rfl rfl (Nat.le_of_ble_eq_true rfl) dX2_keep_47 ?_
    refine wl_aload_n C 1 dX2_keep_50 rfl rfl ?_
    refine wl_callVv (i := 64 + 32 * ((o3 + n3) % 4)) (n := 1) C [.ref (G.2.2.1 p)] [] (c_X3_copyFrom _ G M3 (64 + 32 * ((o3 + n3) % 4)) p s (kd_ring _ (Nat.mod_lt _ (by omega))) hp (hs.frH g4 hpq) (by omega)) gX2_keep_X3_copyFrom rfl (by decide +kernel) (by decide) (by decide) (kd_lt (k := 3) (kd_ring _ (Nat.mod_lt _ (by omega))) (by decide)) (cell_k (k := 3) (kd_ring _ (Nat.mod_lt _ (by omega)))) rfl rfl rfl (Nat.le_of_ble_eq_true rfl) dX2_keep_51 (fun M4 e4 => ?_)
    have hm4 : (o3 + n3) % 4 < 4 := Nat.mod_lt _ (by omega)
    have f225 : M4 225 = M3 225 := e4.2 225 (by omega)
    refine wl_aload_n C 0 dX2_keep_54 rfl rfl ?_
    refine wl_dup C dX2_keep_55 rfl ?_
    refine wl_get_History_size (i := 225) (v := nI n3) C (by decide) in2 fl26 (by rw [f225]; exact g3) dX2_keep_56 ?_
    refine wl_iconst (v := 1) C dX2_keep_59 (by decide) ?_
    refine wl_iadd C dX2_keep_60 ?_
    refine wl_eqi (b := nI (n3 + 1)) (nI_1 n3) ?_
    refine wl_put_History_size (i := 225) C (by decide) in2 fl26 dX2_keep_61 ?_
    exact hret _ 64 _ dX2_keep_64 (keep_end go gn g2 g4 g5 g6 g7 e4 f225 rfl)
  refine wl_aload_n C 0 dX2_keep_0 rfl rfl ?_
  refine wl_get_History_size (i := 225) (v := nI hn) C (by decide) in2 fl26 hh dX2_keep_1 ?_
  refine wl_iconst (v := nI 4) C dX2_keep_4 (by first | decide | rfl) ?_
  refine wl_icmp_neN C (a := hn) (b := 4) (by omega) (by omega) 42 dX2_keep_5 (by decide) (fun c_5 => ?_) (fun c_5 => ?_)
  · exact h42 M o hn H ho4 (by omega) ho hh (fun _ _ _ => rfl) hHa (by unfold puN; rw [if_neg c_5]) (fun a ha => by unfold puH; rw [if_neg c_5])
  · refine wl_aload_n C 0 dX2_keep_8 rfl rfl ?_
    refine wl_aload_n C 0 dX2_keep_9 rfl rfl ?_
    refine wl_get_History_oldest (i := 225) (v := nI o) C (by decide) in2 fl22 ho dX2_keep_10 ?_
    refine wl_iconst (v := 1) C dX2_keep_13 (by decide) ?_
    refine wl_iadd C dX2_keep_14 ?_
    refine wl_eqi (b := nI (o + 1)) (nI_1 o) ?_
    refine wl_iconst (v := nI 4) C dX2_keep_15 (by first | decide | rfl) ?_
    suffices hJ16 : WL x G (AA G sz) 2 0 0 QQ M 29 [(0, .ref (G.2.2.1 225)), (1, .ref (G.2.2.1 p))] [.int (if 4 ≤ (o + 1) then 0 else nI (o + 1)), .ref (G.2.2.1 225)] by
      refine wl_icmp_geN C (a := (o + 1)) (b := 4) (by omega) (by omega) 28 dX2_keep_16 (by decide) (fun c_16 => ?_) (fun c_16 => ?_)
      · rw [if_pos c_16] at hJ16
        refine wl_iconst (v := 0) C dX2_keep_28 (by decide) ?_
        exact hJ16
      · rw [if_neg c_16] at hJ16
        refine wl_aload_n C 0 dX2_keep_19 rfl rfl ?_
        refine wl_get_History_oldest (i := 225) (v := nI o) C (by decide) in2 fl22 ho dX2_keep_20 ?_
        refine wl_iconst (v := 1) C dX2_keep_23 (by decide) ?_
        refine wl_iadd C dX2_keep_24 ?_
        refine wl_eqi (b := nI (o + 1)) (nI_1 o) ?_
        refine wl_goto C 29 dX2_keep_25 (by decide) ?_
        exact hJ16
    refine wl_eqi (b := nI ((o + 1) % 4)) (ring_1 ho4) ?_
    refine wl_put_History_oldest (i := 225) C (by decide) in2 fl22 dX2_keep_29 ?_
    obtain ⟨Ma, eMa⟩ : ∃ z : Mem, z = (mset M 225 2 (nI ((o + 1) % 4))) := ⟨_, rfl⟩
    rw [← eMa]
    have ea : Ma 225 3 = M 225 3 ∧ Ma 225 2 = nI ((o + 1) % 4) ∧ FrH M Ma := ⟨by rw [eMa, mset_ne (by omega)], by rw [eMa]; exact mset_self _ _ _ _, fun i hi hj => by rw [eMa]; exact mset_off i hi⟩
    refine wl_aload_n C 0 dX2_keep_32 rfl rfl ?_
    refine wl_dup C dX2_keep_33 rfl ?_
    refine wl_get_History_size (i := 225) (v := nI hn) C (by decide) in2 fl26 (by rw [ea.1]; exact hh) dX2_keep_34 ?_
    refine wl_iconst (v := 1) C dX2_keep_37 (by decide) ?_
    refine wl_isub C dX2_keep_38 ?_
    refine wl_eqi (b := nI (hn - 1)) (nI_sub1 (by omega)) ?_
    refine wl_put_History_size (i := 225) C (by decide) in2 fl26 dX2_keep_39 ?_
    obtain ⟨Mb, eMb⟩ : ∃ z : Mem, z = (mset Ma 225 3 (nI (hn - 1))) := ⟨_, rfl⟩
    rw [← eMb]
    have eb : Mb 225 3 = nI (hn - 1) ∧ Mb 225 2 = nI ((o + 1) % 4) ∧ FrH M Mb := ⟨by rw [eMb]; exact mset_self _ _ _ _, by rw [eMb, mset_ne (by omega)]; exact ea.2.1, fun i hi hj => by rw [eMb, mset_off i hi]; exact ea.2.2 i hi hj⟩
    exact h42 Mb ((o + 1) % 4) (hn - 1) (fun a => H (a + 1)) (Nat.mod_lt _ (by omega)) (by omega) eb.2.1 eb.1 eb.2.2 (fun a ha => by rw [show ((o + 1) % 4 + a) % 4 = (o + (a + 1)) % 4 by omega]; exact ((hHa (a + 1) (by omega)).off eMa).off eMb) (by unfold puN; rw [if_pos (by omega)]; omega) (fun a ha => by unfold puH; rw [if_pos (by omega), show hn - 1 = 3 by omega])
set_option maxHeartbeats 4000000 in
set_option maxRecDepth 100000 in
theorem c_X2_restore (l : Launch) (G : Gw) (M : Mem) (p hn : Nat) (H : Nat → St) (hp : kd p = 3) (hpq : p + 32 ≤ 64) (hH : Hs M hn H) (h0 : 0 < hn) : Cv l G yX2_restore wsX2_restore 3 67 [.ref (G.2.2.1 225), .ref (G.2.2.1 p)] M (fun M' => Pk M' p (H (hn - 1)) ∧ Hs M' (hn - 1) H ∧ (∀ i, i ≠ 225 → ¬ (p ≤ i ∧ i < p + 32) → M' i = M i)) := by
  refine Cv.of (cc := cX2_restore) (maxL := 2) (ret := none) (by decide +kernel) rfl (Nat.le_of_ble_eq_true rfl) ?_
  intro x sz hl0 hr C
  subst hl0
  have C : CX x G (AA G sz) RX2 cX2_restore 2 wsX2_restore 3 67 0 0 := C
  have hret : ∀ (M0 : Mem) (pc0 : Nat) (L0 : List (Nat × Value)), decode cX2_restore pc0 = .ok (.return_, 1) → (fun M' => Pk M' p (H (hn - 1)) ∧ Hs M' (hn - 1) H ∧ (∀ i, i ≠ 225 → ¬ (p ≤ i ∧ i < p + 32) → M' i = M i)) M0 → WL x G (AA G sz) 2 0 0 (xQ x (va_Qv (fun M' => Pk M' p (H (hn - 1)) ∧ Hs M' (hn - 1) H ∧ (∀ i, i ≠ 225 → ¬ (p ≤ i ∧ i < p + 32) → M' i = M i)) (WE G) (AA G sz)) (AA G sz)) M0 pc0 L0 [] := fun M0 pc0 L0 hd hp => wl_vret (post := (fun M' => Pk M' p (H (hn - 1)) ∧ Hs M' (hn - 1) H ∧ (∀ i, i ≠ 225 → ¬ (p ≤ i ∧ i < p + 32) → M' i = M i))) C hr hd hp
  show WL x G (AA G sz) 2 0 0 (xQ x (va_Qv (fun M' => Pk M' p (H (hn - 1)) ∧ Hs M' (hn - 1) H ∧ (∀ i, i ≠ 225 → ¬ (p ≤ i ∧ i < p + 32) → M' i = M i)) (WE G) (AA G sz)) (AA G sz)) M 0 [(0, .ref (G.2.2.1 225)), (1, .ref (G.2.2.1 p))] []
  generalize (xQ x (va_Qv (fun M' => Pk M' p (H (hn - 1)) ∧ Hs M' (hn - 1) H ∧ (∀ i, i ≠ 225 → ¬ (p ≤ i ∧ i < p + 32) → M' i = M i)) (WE G) (AA G sz)) (AA G sz)) = QQ at hret ⊢
  have in2 : ∀ w ∈ wsX20, w ∈ wsX2_restore := by decide +kernel
  have fl26 : Jvm.Cond.fieldLink RX2 26 "JammedBodies$History" "size" "I" ∈ wsX2_restore := by decide +kernel
  obtain ⟨o, ho4, ho, hh, hn4, hHa⟩ := hH
  have hm4 : (o + (hn - 1)) % 4 < 4 := Nat.mod_lt _ (by omega)
  refine wl_aload_n C 0 dX2_restore_0 rfl rfl ?_
  refine wl_get_History_size (i := 225) (v := nI hn) C (by decide) in2 fl26 hh dX2_restore_1 ?_
  refine wl_if_le C 29 dX2_restore_4 (by decide) (fun c_4 => absurd c_4 (nI_nle h0 (by omega))) (fun c_4 => ?_)
  refine wl_aload_n C 0 dX2_restore_7 rfl rfl ?_
  refine wl_dup C dX2_restore_8 rfl ?_
  refine wl_get_History_size (i := 225) (v := nI hn) C (by decide) in2 fl26 hh dX2_restore_9 ?_
  refine wl_iconst (v := 1) C dX2_restore_12 (by decide) ?_
  refine wl_isub C dX2_restore_13 ?_
  refine wl_eqi (b := nI (hn - 1)) (nI_sub1 h0) ?_
  refine wl_put_History_size (i := 225) C (by decide) in2 fl26 dX2_restore_14 ?_
  obtain ⟨Ma, eMa⟩ : ∃ z : Mem, z = (mset M 225 3 (nI (hn - 1))) := ⟨_, rfl⟩
  rw [← eMa]
  have fa : FrH M Ma := fun i hi hj => by rw [eMa]; exact mset_off i hi
  have oa : Ma 225 2 = nI o := by rw [eMa, mset_ne (by omega)]; exact ho
  have pa : ∀ a, a < hn → Pk Ma (64 + 32 * ((o + a) % 4)) (H a) := fun a ha => (hHa a ha).off eMa
  refine wl_aload_n C 1 dX2_restore_17 rfl rfl ?_
  refine wl_aload_n C 0 dX2_restore_18 rfl rfl ?_
  refine wl_aload_n C 0 dX2_restore_19 rfl rfl ?_
  refine wl_get_History_size (i := 225) (v := nI (hn - 1)) C (by decide) in2 fl26 (by rw [eMa]; exact mset_self _ _ _ _) dX2_restore_20 ?_
  refine wl_callVa (i := 225) (n := 1) C [.int (nI (hn - 1))] [.ref (G.2.2.1 p)] (c_X2_at _ G Ma o (hn - 1) oa ho4 (by omega)) gX2_restore_X2_at rfl (by decide +kernel) (by decide) (by decide) (kd_lt (k := 2) (by decide) (by decide)) (cell_k (k := 2) (by decide)) rfl rfl rfl (Nat.le_of_ble_eq_true rfl) dX2_restore_23 ?_
  refine wl_callVv (i := p) (n := 1) C [.ref (G.2.2.1 (64 + 32 * ((o + (hn - 1)) % 4)))] [] (c_X3_copyFrom _ G Ma p (64 + 32 * ((o + (hn - 1)) % 4)) (H (hn - 1)) hp (kd_ring _ hm4) (pa (hn - 1) (by omega)) (by omega)) gX2_restore_X3_copyFrom rfl (by decide +kernel) (by decide) (by decide) (kd_lt (k := 3) hp (by decide)) (cell_k (k := 3) hp) rfl rfl rfl (Nat.le_of_ble_eq_true rfl) dX2_restore_26 (fun Mb eb => ?_)
  exact hret _ 29 _ dX2_restore_29 (⟨eb.1, ⟨o, ho4, by rw [eb.2 225 (by omega)]; exact oa, by rw [eb.2 225 (by omega), eMa]; exact mset_self _ _ _ _, by omega, fun a ha => (pa a (by omega)).frP eb.2 (by have : (o + a) % 4 < 4 := Nat.mod_lt _ (by omega) ; omega)⟩, fun i hi hj => by rw [eb.2 i (by omega), eMa]; exact mset_off i hi⟩)
