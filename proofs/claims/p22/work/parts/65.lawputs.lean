/-! THE LAW: a body is put into both boxes -/
theorem couY_2 {σ : Sy} {hh : Nat} (eh : σ.1.2.2.1 = nI hh) : couY σ 2 = nI hh := eh
theorem box_h {s : St} (h : BoxIn s) : ∃ hh : Nat, s.2.2.1 = nI hh ∧ 18 ≤ hh ∧ hh ≤ 24 := by
  unfold BoxIn at h
  refine ⟨s.2.2.1.toInt.toNat, i32_eq.mpr ?_, by omega, by omega⟩
  rw [nI_toInt (by omega)]; omega
/-- the first k corners stand in the row -/
def AtI (le lo k : Nat) (f : Nat → Int32) : Prop := ∀ i, i < k → ∃ a b : Nat, f (2 * i) = nI (le + a) ∧ f (2 * i + 1) = nI (lo + b) ∧ ((i = 1 ∨ i = 2) → 3 ≤ a ∧ a < 6) ∧ (¬ (i = 1 ∨ i = 2) → a < 3) ∧ (1 < i → 3 ≤ b ∧ b < 6) ∧ (¬ 1 < i → b < 3)
theorem AtI_step {le lo k a b : Nat} {f : Nat → Int32} (h : AtI le lo k f) (hk : k < 4) (h1 : (k = 1 ∨ k = 2) → 3 ≤ a ∧ a < 6) (h2 : ¬ (k = 1 ∨ k = 2) → a < 3) (h3 : 1 < k → 3 ≤ b ∧ b < 6) (h4 : ¬ 1 < k → b < 3) : AtI le lo (k + 1) (upd (upd f (2 * k) (nI (le + a))) (2 * k + 1) (nI (lo + b))) := by
  intro i hi
  by_cases q : i = k
  · subst q
    refine ⟨a, b, ?_, ?_, h1, h2, h3, h4⟩
    · rw [upd, if_neg (by omega)]; exact if_pos rfl
    · exact if_pos rfl
  · obtain ⟨a', b', e1, e2, g⟩ := h i (by omega)
    refine ⟨a', b', ?_, ?_, g⟩
    · rw [upd, if_neg (by omega), upd, if_neg (by omega)]; exact e1
    · rw [upd, if_neg (by omega), upd, if_neg (by omega)]; exact e2
theorem AtI_end {le lo c : Nat} {f : Nat → Int32} (h : AtI le lo 4 f) (hl : le < 13 := by omega) (hm : lo < 13 := by omega) (hc : c = 3 ∨ c = 4 := by assumption) : ∃ X Y : Nat → Nat, (∀ k, k < c → f (2 * k) = nI (X k) ∧ f (2 * k + 1) = nI (Y k)) ∧ CoL c X Y := by
  obtain ⟨a0, b0, e0, g0, p0, q0, r0, s0⟩ := h 0 (by decide)
  obtain ⟨a1, b1, e1, g1, p1, q1, r1, s1⟩ := h 1 (by decide)
  obtain ⟨a2, b2, e2, g2, p2, q2, r2, s2⟩ := h 2 (by decide)
  obtain ⟨a3, b3, e3, g3, p3, q3, r3, s3⟩ := h 3 (by decide)
  have z0 := q0 (by decide); have z1 := p1 (by decide); have z2 := p2 (by decide); have z3 := q3 (by decide)
  have w0 := s0 (by decide); have w1 := s1 (by decide); have w2 := r2 (by decide); have w3 := r3 (by decide)
  refine ⟨fun k => le + (match k with | 0 => a0 | 1 => a1 | 2 => a2 | _ => a3), fun k => lo + (match k with | 0 => b0 | 1 => b1 | 2 => b2 | _ => b3), fun k hk => ?_, fun k hk => ?_, ?_, ?_⟩
  · rcases (show k = 0 ∨ k = 1 ∨ k = 2 ∨ k = 3 by omega) with rfl | rfl | rfl | rfl
    · exact ⟨e0, g0⟩
    · exact ⟨e1, g1⟩
    · exact ⟨e2, g2⟩
    · exact ⟨e3, g3⟩
  · rcases (show k = 0 ∨ k = 1 ∨ k = 2 ∨ k = 3 by omega) with rfl | rfl | rfl | rfl
    · show le + a0 ≤ 17 ∧ lo + b0 ≤ 17; omega
    · show le + a1 ≤ 17 ∧ lo + b1 ≤ 17; omega
    · show le + a2 ≤ 17 ∧ lo + b2 ≤ 17; omega
    · show le + a3 ≤ 17 ∧ lo + b3 ≤ 17; omega
  · show le + a0 < le + a1 ∧ le + a0 < le + a2 ∧ le + a3 < le + a2; omega
  · show lo + b1 < lo + b2 ∧ lo + b0 < lo + b2 ∧ lo + b0 < lo + b3; omega
set_option maxHeartbeats 4000000 in
set_option maxRecDepth 100000 in
theorem c_L_puts (l : Launch) (G : Gw) (ad : Nat → Nat) (M N : Mem) (σ σ' : Sy) (hR : RC M σ) (hR' : RC N σ') (hY : RY σ σ') (v : Int32) : Cd l G ad yL_puts wsL_puts 6 146 1 8 [.ref (G.2.2.1 224), .ref (ad 224), .int v] M N (fun (r : Int32) (M2 N2 : Mem) => r = 1 ∧ ∃ (τ τ' : Sy), RC M2 τ ∧ RC N2 τ' ∧ RY τ τ') := by
  refine Cd.of (cc := cL_puts) (maxL := 11) (ret := (some .boolean)) (by decide +kernel) rfl (Nat.le_of_ble_eq_true rfl) ?_
  intro x sz hl0 hr C
  subst hl0
  have C : CD x G (A2 G ad sz) RL cL_puts 11 wsL_puts 6 146 1 8 := C
  have hret : ∀ (N1 N2 : Mem) (Rr : va_W) (cs sl pc0 : Nat) (L0 : List (Nat × Value)) (rv0 : Int32), cs ≤ 1 → sl ≤ 8 → narrow .boolean (.int rv0) = .int rv0 → decode cL_puts pc0 = .ok (.ireturn, 1) → (fun (r : Int32) (M2 N2 : Mem) => r = 1 ∧ ∃ (τ τ' : Sy), RC M2 τ ∧ RC N2 τ' ∧ RY τ τ') rv0 N1 N2 → WK x G (A2 G ad sz) 11 cs sl (kQ x (QD G ad sz (fun (r : Int32) (M2 N2 : Mem) => r = 1 ∧ ∃ (τ τ' : Sy), RC M2 τ ∧ RC N2 τ' ∧ RY τ τ')) 1 8 (A2 G ad sz)) (wd G N1 ++ (wd (gA G ad) N2 ++ Rr)) pc0 L0 [.int rv0] := fun N1 N2 Rr cs sl pc0 L0 rv0 h1 h2 hn hd hp => wd_zret (post := (fun (r : Int32) (M2 N2 : Mem) => r = 1 ∧ ∃ (τ τ' : Sy), RC M2 τ ∧ RC N2 τ' ∧ RY τ τ')) C hr hn h1 h2 hd hp
  show WK x G (A2 G ad sz) 11 0 0 (kQ x (QD G ad sz (fun (r : Int32) (M2 N2 : Mem) => r = 1 ∧ ∃ (τ τ' : Sy), RC M2 τ ∧ RC N2 τ' ∧ RY τ τ')) 1 8 (A2 G ad sz)) (wd G M ++ (wd (gA G ad) N ++ [])) 0 [(0, .ref (G.2.2.1 224)), (1, .ref (ad 224)), (2, .int v)] []
  generalize (kQ x (QD G ad sz (fun (r : Int32) (M2 N2 : Mem) => r = 1 ∧ ∃ (τ τ' : Sy), RC M2 τ ∧ RC N2 τ' ∧ RY τ τ')) 1 8 (A2 G ad sz)) = QQ at hret ⊢
  have h8 := hR.size
  obtain ⟨hh, eh, hhb⟩ := box_h hY.1.2.2.2.1
  refine wk_aload_n C.1 0 dL_puts_0 rfl rfl ?_
  refine wk_iconst (v := 2) C.1 dL_puts_1 (by decide) ?_
  refine wd_V1 (i := 224) (n := 1) C [.int 2] [] (c_X4_count _ G M σ hR hY.2.1 2) gL_puts_X4_count rfl (by decide +kernel) (Nat.le_of_ble_eq_true rfl) (Nat.le_of_ble_eq_true rfl) (by decide) (cell_k (k := 4) (by decide)) rfl rfl rfl (Nat.le_of_ble_eq_true rfl) (Nat.le_of_ble_eq_true rfl) (Nat.le_of_ble_eq_true rfl) dL_puts_2 (fun r2 M2 h2 => ?_)
  obtain ⟨a2, b2⟩ := h2
  rw [a2, b2]
  refine wk_eqi (b := nI hh) (couY_2 eh) ?_
  refine wk_istore_n (L' := [(3, .int (nI hh)), (0, .ref (G.2.2.1 224)), (1, .ref (ad 224)), (2, .int v)]) C.1 dL_puts_5 rfl (by decide) rfl ?_
  refine wk_iconst (v := nI 3) C.1 dL_puts_6 (by first | decide | rfl) ?_
  refine wk_iload_n C.1 3 dL_puts_7 rfl rfl ?_
  refine wk_iconst (v := nI 2) C.1 dL_puts_8 (by first | decide | rfl) ?_
  refine wd_S1 (n := 2) C [.int v, .int (nI 2)] [.int (nI 3)] (c_L_up _ G M v 2 (by omega) (by omega)) gL_puts_L_up rfl (by decide +kernel) (Nat.le_of_ble_eq_true rfl) (Nat.le_of_ble_eq_true rfl) rfl rfl (Nat.le_of_ble_eq_true rfl) (Nat.le_of_ble_eq_true rfl) (Nat.le_of_ble_eq_true rfl) dL_puts_9 (fun r9 M9 h9 => ?_)
  obtain ⟨a9, b9⟩ := h9
  rw [a9, b9]
  obtain ⟨c, ec⟩ : ∃ z : Nat, z = 3 + upN v 2 := ⟨_, rfl⟩
  have hc : c = 3 ∨ c = 4 := by have : upN v 2 < 2 := upN_lt (by decide); omega
  refine wk_iadd C.1 dL_puts_12 ?_
  refine wk_eqi (b := nI c) (by rw [ec]; exact nI_add 3 _) ?_
  refine wk_istore (L' := [(4, .int (nI c)), (3, .int (nI hh)), (0, .ref (G.2.2.1 224)), (1, .ref (ad 224)), (2, .int v)]) C.1 dL_puts_13 (by decide) rfl ?_
  refine wk_bipush (v := 8) C.1 dL_puts_15 (by decide) ?_
  have hai : Jvm.Cond.arrayClass .int ∈ wsL_puts := by decide +kernel
  refine wd_new C hai (Nat.le_of_ble_eq_true rfl) (Nat.le_of_ble_eq_true rfl) dL_puts_17 (fun q => ?_)
  refine wk_astore (L' := [(5, .ref q), (4, .int (nI c)), (3, .int (nI hh)), (0, .ref (G.2.2.1 224)), (1, .ref (ad 224)), (2, .int v)]) C.1 dL_puts_19 (by decide) rfl ?_
  refine wk_iload_n C.1 5 dL_puts_21 rfl rfl ?_
  refine wk_iconst (v := 2) C.1 dL_puts_22 (by decide) ?_
  refine wk_ishr C.1 dL_puts_23 ?_
  refine wk_bipush (v := nI 13) C.1 dL_puts_24 (by decide) ?_
  refine wd_S1 (n := 2) C [.int (v >>> ((2 : Int32) &&& 31)), .int (nI 13)] [] (c_L_up _ G M (v >>> ((2 : Int32) &&& 31)) 13 (by omega) (by omega)) gL_puts_L_up rfl (by decide +kernel) (Nat.le_of_ble_eq_true rfl) (Nat.le_of_ble_eq_true rfl) rfl rfl (Nat.le_of_ble_eq_true rfl) (by omega) (by omega) dL_puts_26 (fun r26 M26 h26 => ?_)
  obtain ⟨a26, b26⟩ := h26
  rw [a26, b26]
  obtain ⟨le, ele⟩ : ∃ z : Nat, z = upN (v >>> ((2 : Int32) &&& 31)) 13 := ⟨_, rfl⟩
  have hle : le < 13 := by rw [ele]; exact upN_lt (by decide)
  rw [← ele]
  refine wk_istore (L' := [(6, .int (nI le)), (5, .ref q), (4, .int (nI c)), (3, .int (nI hh)), (0, .ref (G.2.2.1 224)), (1, .ref (ad 224)), (2, .int v)]) C.1 dL_puts_29 (by decide) rfl ?_
  refine wk_iload_n C.1 6 dL_puts_31 rfl rfl ?_
  refine wk_bipush (v := 6) C.1 dL_puts_32 (by decide) ?_
  refine wk_ishr C.1 dL_puts_34 ?_
  refine wk_bipush (v := nI 13) C.1 dL_puts_35 (by decide) ?_
  refine wd_S1 (n := 2) C [.int (v >>> ((6 : Int32) &&& 31)), .int (nI 13)] [] (c_L_up _ G M (v >>> ((6 : Int32) &&& 31)) 13 (by omega) (by omega)) gL_puts_L_up rfl (by decide +kernel) (Nat.le_of_ble_eq_true rfl) (Nat.le_of_ble_eq_true rfl) rfl rfl (Nat.le_of_ble_eq_true rfl) (by omega) (by omega) dL_puts_37 (fun r37 M37 h37 => ?_)
  obtain ⟨a37, b37⟩ := h37
  rw [a37, b37]
  obtain ⟨lo, elo⟩ : ∃ z : Nat, z = upN (v >>> ((6 : Int32) &&& 31)) 13 := ⟨_, rfl⟩
  have hlo : lo < 13 := by rw [elo]; exact upN_lt (by decide)
  rw [← elo]
  refine wk_istore (L' := [(7, .int (nI lo)), (6, .int (nI le)), (5, .ref q), (4, .int (nI c)), (3, .int (nI hh)), (0, .ref (G.2.2.1 224)), (1, .ref (ad 224)), (2, .int v)]) C.1 dL_puts_40 (by decide) rfl ?_
  refine wk_iconst (v := nI 0) C.1 dL_puts_42 (by first | decide | rfl) ?_
  refine wk_istore (L' := [(8, .int (nI 0)), (7, .int (nI lo)), (6, .int (nI le)), (5, .ref q), (4, .int (nI c)), (3, .int (nI hh)), (0, .ref (G.2.2.1 224)), (1, .ref (ad 224)), (2, .int v)]) C.1 dL_puts_43 (by decide) rfl ?_
  have h151 : ∀ f : Nat → Int32, AtI le lo 4 f → WK x G (A2 G ad sz) 11 (0 + 1) (0 + 8) QQ (wd G M ++ (wd (gA G ad) N ++ [(q, .inl (G.2.1 0, 8, .inl f))])) 151 [(8, .int (nI 4)), (7, .int (nI lo)), (6, .int (nI le)), (5, .ref q), (4, .int (nI c)), (3, .int (nI hh)), (0, .ref (G.2.2.1 224)), (1, .ref (ad 224)), (2, .int v)] [] := by
    intro f hf
    refine wk_aload_n C.1 6 dL_puts_151 rfl rfl ?_
    refine wd_V1 (i := 224) (n := 0) C [] [] (c_X4_clearText _ G M σ hR hY.2.1 ) gL_puts_X4_clearText rfl (by decide +kernel) (Nat.le_of_ble_eq_true rfl) (Nat.le_of_ble_eq_true rfl) (by decide) (cell_k (k := 4) (by decide)) rfl rfl rfl (Nat.le_of_ble_eq_true rfl) (by omega) (by omega) dL_puts_152 (fun r152 M152 h152 => ?_)
    obtain ⟨a152, R152, -⟩ := h152
    rw [a152]
    refine wk_if_lt C.1 169 dL_puts_155 (by decide) (fun c_155 => absurd c_155 (by rw [show (cleY σ).1 = nI σ.2.2.2.1 from rfl]; exact nI_pos (by have := hY.2.1.2.2.1; omega))) (fun c_155 => ?_)
    refine wk_aload_n C.1 7 dL_puts_158 rfl rfl ?_
    refine wd_callVi (F := wd G M152) (ad := ad) (i := 224) (n := 0) C [] [] (c_X4_clearText _ (gA G ad) N σ' hR' hY.2.2 ) gL_puts_X4_clearText rfl (by decide +kernel) (Nat.le_of_ble_eq_true rfl) (Nat.le_of_ble_eq_true rfl) (by decide) (cell_k (k := 4) (by decide)) rfl rfl rfl (Nat.le_of_ble_eq_true rfl) (by omega) (by omega) dL_puts_159 (fun r159 M159 h159 => ?_)
    obtain ⟨a159, R159, -⟩ := h159
    rw [a159]
    refine wk_if_lt C.1 169 dL_puts_162 (by decide) (fun c_162 => absurd c_162 (by rw [show (cleY σ').1 = nI σ'.2.2.2.1 from rfl]; exact nI_pos (by have := hY.2.2.2.2.1; omega))) (fun c_162 => ?_)
    refine wk_iconst (v := 1) C.1 dL_puts_165 (by decide) ?_
    refine wk_goto C.1 170 dL_puts_166 (by decide) ?_
    refine wk_istore (L' := [(8, .int 1), (7, .int (nI lo)), (6, .int (nI le)), (5, .ref q), (4, .int (nI c)), (3, .int (nI hh)), (0, .ref (G.2.2.1 224)), (1, .ref (ad 224)), (2, .int v)]) C.1 dL_puts_170 (by decide) rfl ?_
    refine wk_iconst (v := nI 0) C.1 dL_puts_172 (by first | decide | rfl) ?_
    refine wk_istore (L' := [(9, .int (nI 0)), (8, .int 1), (7, .int (nI lo)), (6, .int (nI le)), (5, .ref q), (4, .int (nI c)), (3, .int (nI hh)), (0, .ref (G.2.2.1 224)), (1, .ref (ad 224)), (2, .int v)]) C.1 dL_puts_173 (by decide) rfl ?_
    refine wk_sub (L' := [(9, .int (nI 0)), (8, .int 1), (5, .ref q), (4, .int (nI c)), (3, .int (nI hh)), (0, .ref (G.2.2.1 224)), (1, .ref (ad 224)), (2, .int v)]) [0, 1, 4, 5, 6, 7, 8, 9] rfl ?_
    obtain ⟨X, Y, hXY, hCo⟩ := AtI_end (c := c) hf (by omega) (by omega) hc
    have hX2 : ∀ k, k < c → hh - Y k = hh - Y k := fun _ _ => rfl
    have h175 : ∀ k, k ≤ c → ∀ (M3 N3 : Mem) (T T' : Tx), RC M3 (withT σ T) → RC N3 (withT σ' T') → RY (withT σ T) (withT σ' T') → TxI T c k X Y → TxI T' c k (fun j => hh - Y j) X → WK x G (A2 G ad sz) 11 (0 + 1) (0 + 8) QQ (wd G M3 ++ (wd (gA G ad) N3 ++ [(q, .inl (G.2.1 0, 8, .inl f))])) 175 [(9, .int (nI k)), (8, .int 1), (5, .ref q), (4, .int (nI c)), (3, .int (nI hh)), (0, .ref (G.2.2.1 224)), (1, .ref (ad 224)), (2, .int v)] [] := by
      refine up_loop c _ (fun k hk ih => ?_)
      intro M3 N3 T T' R3 S3 Y3 t1 t2
      refine wk_iload C.1 0 dL_puts_175 rfl ?_
      refine wk_iload C.1 3 dL_puts_177 rfl ?_
      refine wk_icmp_geN C.1 (a := k) (b := c) (by omega) (by omega) 269 dL_puts_179 (by decide) (fun g => ?_) (fun g => ?_)
      · have e : k = c := by omega
        rw [e] at t1 t2
        obtain ⟨kf, kp, kY⟩ := law_put Y3 h8 (hh := hh) hc hCo eh hhb (fun _ _ => rfl) t1 t2
        refine wk_iload C.1 1 dL_puts_269 rfl ?_
        refine wk_if_eq C.1 328 dL_puts_271 (by decide) (fun c_271 => absurd c_271 (by decide)) (fun c_271 => ?_)
        refine wk_aload_n C.1 5 dL_puts_274 rfl rfl ?_
        refine wk_iconst (v := 0) C.1 dL_puts_275 (by decide) ?_
        refine wd_V1 (i := 224) (n := 1) C [.int 0] [] (c_X4_fault _ G M3 (withT σ T) R3 Y3.2.1 0) gL_puts_X4_fault rfl (by decide +kernel) (Nat.le_of_ble_eq_true rfl) (Nat.le_of_ble_eq_true rfl) (by decide) (cell_k (k := 4) (by decide)) rfl rfl rfl (Nat.le_of_ble_eq_true rfl) (by omega) (by omega) dL_puts_276 (fun r276 M276 h276 => ?_)
        obtain ⟨a276, R276, -⟩ := h276
        rw [a276]
        refine wk_aload_n C.1 6 dL_puts_279 rfl rfl ?_
        refine wk_iconst (v := 0) C.1 dL_puts_280 (by decide) ?_
        refine wd_callVi (F := wd G M276) (ad := ad) (i := 224) (n := 1) C [.int 0] [.int (fauY (withT σ T) 0)] (c_X4_fault _ (gA G ad) N3 (withT σ' T') S3 Y3.2.2 0) gL_puts_X4_fault rfl (by decide +kernel) (Nat.le_of_ble_eq_true rfl) (Nat.le_of_ble_eq_true rfl) (by decide) (cell_k (k := 4) (by decide)) rfl rfl rfl (Nat.le_of_ble_eq_true rfl) (by omega) (by omega) dL_puts_281 (fun r281 M281 h281 => ?_)
        obtain ⟨a281, R281, -⟩ := h281
        rw [a281]
        refine wk_icmp_ne C.1 328 dL_puts_284 (by decide) (fun c_284 => absurd c_284 (fun z => z (kf 0).symm)) (fun c_284 => ?_)
        refine wk_aload_n C.1 5 dL_puts_287 rfl rfl ?_
        refine wk_iconst (v := 1) C.1 dL_puts_288 (by decide) ?_
        refine wd_V1 (i := 224) (n := 1) C [.int 1] [] (c_X4_fault _ G M276 (withT σ T) R276 Y3.2.1 1) gL_puts_X4_fault rfl (by decide +kernel) (Nat.le_of_ble_eq_true rfl) (Nat.le_of_ble_eq_true rfl) (by decide) (cell_k (k := 4) (by decide)) rfl rfl rfl (Nat.le_of_ble_eq_true rfl) (by omega) (by omega) dL_puts_289 (fun r289 M289 h289 => ?_)
        obtain ⟨a289, R289, -⟩ := h289
        rw [a289]
        refine wk_aload_n C.1 6 dL_puts_292 rfl rfl ?_
        refine wk_iconst (v := 1) C.1 dL_puts_293 (by decide) ?_
        refine wd_callVi (F := wd G M289) (ad := ad) (i := 224) (n := 1) C [.int 1] [.int (fauY (withT σ T) 1)] (c_X4_fault _ (gA G ad) M281 (withT σ' T') R281 Y3.2.2 1) gL_puts_X4_fault rfl (by decide +kernel) (Nat.le_of_ble_eq_true rfl) (Nat.le_of_ble_eq_true rfl) (by decide) (cell_k (k := 4) (by decide)) rfl rfl rfl (Nat.le_of_ble_eq_true rfl) (by omega) (by omega) dL_puts_294 (fun r294 M294 h294 => ?_)
        obtain ⟨a294, R294, -⟩ := h294
        rw [a294]
        refine wk_icmp_ne C.1 328 dL_puts_297 (by decide) (fun c_297 => absurd c_297 (fun z => z (kf 1).symm)) (fun c_297 => ?_)
        refine wk_aload_n C.1 5 dL_puts_300 rfl rfl ?_
        refine wk_iconst (v := 2) C.1 dL_puts_301 (by decide) ?_
        refine wd_V1 (i := 224) (n := 1) C [.int 2] [] (c_X4_fault _ G M289 (withT σ T) R289 Y3.2.1 2) gL_puts_X4_fault rfl (by decide +kernel) (Nat.le_of_ble_eq_true rfl) (Nat.le_of_ble_eq_true rfl) (by decide) (cell_k (k := 4) (by decide)) rfl rfl rfl (Nat.le_of_ble_eq_true rfl) (by omega) (by omega) dL_puts_302 (fun r302 M302 h302 => ?_)
        obtain ⟨a302, R302, -⟩ := h302
        rw [a302]
        refine wk_aload_n C.1 6 dL_puts_305 rfl rfl ?_
        refine wk_iconst (v := 2) C.1 dL_puts_306 (by decide) ?_
        refine wd_callVi (F := wd G M302) (ad := ad) (i := 224) (n := 1) C [.int 2] [.int (fauY (withT σ T) 2)] (c_X4_fault _ (gA G ad) M294 (withT σ' T') R294 Y3.2.2 2) gL_puts_X4_fault rfl (by decide +kernel) (Nat.le_of_ble_eq_true rfl) (Nat.le_of_ble_eq_true rfl) (by decide) (cell_k (k := 4) (by decide)) rfl rfl rfl (Nat.le_of_ble_eq_true rfl) (by omega) (by omega) dL_puts_307 (fun r307 M307 h307 => ?_)
        obtain ⟨a307, R307, -⟩ := h307
        rw [a307]
        refine wk_icmp_ne C.1 328 dL_puts_310 (by decide) (fun c_310 => absurd c_310 (fun z => z (kf 2).symm)) (fun c_310 => ?_)
        refine wk_aload_n C.1 5 dL_puts_313 rfl rfl ?_
        refine wd_V1 (i := 224) (n := 0) C [] [] (c_X4_put _ G M302 (withT σ T) R302 Y3.2.1 ) gL_puts_X4_put rfl (by decide +kernel) (Nat.le_of_ble_eq_true rfl) (Nat.le_of_ble_eq_true rfl) (by decide) (cell_k (k := 4) (by decide)) rfl rfl rfl (Nat.le_of_ble_eq_true rfl) (by omega) (by omega) dL_puts_314 (fun r314 M314 h314 => ?_)
        obtain ⟨a314, R314, -⟩ := h314
        rw [a314]
        refine wk_aload_n C.1 6 dL_puts_317 rfl rfl ?_
        refine wd_callVi (F := wd G M314) (ad := ad) (i := 224) (n := 0) C [] [.int ((putY (withT σ T)).1)] (c_X4_put _ (gA G ad) M307 (withT σ' T') R307 Y3.2.2 ) gL_puts_X4_put rfl (by decide +kernel) (Nat.le_of_ble_eq_true rfl) (Nat.le_of_ble_eq_true rfl) (by decide) (cell_k (k := 4) (by decide)) rfl rfl rfl (Nat.le_of_ble_eq_true rfl) (by omega) (by omega) dL_puts_318 (fun r318 M318 h318 => ?_)
        obtain ⟨a318, R318, -⟩ := h318
        rw [a318]
        refine wk_icmp_ne C.1 328 dL_puts_321 (by decide) (fun c_321 => absurd c_321 (fun z => z kp.symm)) (fun c_321 => ?_)
        refine wk_iconst (v := 1) C.1 dL_puts_324 (by decide) ?_
        refine wk_goto C.1 329 dL_puts_325 (by decide) ?_
        exact hret _ _ _ _ _ 329 _ 1 (Nat.le_of_ble_eq_true rfl) (Nat.le_of_ble_eq_true rfl) rfl dL_puts_329 ⟨rfl, _, _, R314, R318, kY⟩
      · replace g : k < c := by omega
        obtain ⟨x1, x2⟩ := hXY k g
        have hb := hCo.1 k g
        have k3 : (withT σ T).2.2.2.1 + 6 ≤ 60 := by have := t1.1; rw [if_neg (by omega)] at this; show T.1 + 6 ≤ 60; omega
        have k4 : (withT σ' T').2.2.2.1 + 6 ≤ 60 := by have := t2.1; rw [if_neg (by omega)] at this; show T'.1 + 6 ≤ 60; omega
        have p1 := TxI_step t1 g
        have p2 := TxI_step t2 g
        refine wk_iload C.1 0 dL_puts_182 rfl ?_
        refine wk_iconst (v := nI 1) C.1 dL_puts_184 (by first | decide | rfl) ?_
        refine wk_iadd C.1 dL_puts_185 ?_
        refine wk_eqi (b := nI (k + 1)) (nI_add k 1) ?_
        refine wk_iload C.1 3 dL_puts_186 rfl ?_
        refine wk_icmp_geN C.1 (a := k + 1) (b := c) (by omega) (by omega) 196 dL_puts_188 (by decide) (fun g2 => ?_) (fun g2 => ?_)
        · skip
          refine wk_iconst (v := 0) C.1 dL_puts_196 (by decide) ?_
          rw [decide_eq_false (show ¬ k + 1 < c by omega)] at p1 p2
          refine wk_istore (L' := [(10, .int 0), (9, .int (nI k)), (8, .int 1), (5, .ref q), (4, .int (nI c)), (3, .int (nI hh)), (0, .ref (G.2.2.1 224)), (1, .ref (ad 224)), (2, .int v)]) C.1 dL_puts_197 (by decide) rfl ?_
          refine wk_iload C.1 2 dL_puts_199 rfl ?_
          refine wk_if_eq C.1 260 dL_puts_201 (by decide) (fun c_201 => absurd c_201 (by decide)) (fun c_201 => ?_)
          refine wk_aload_n C.1 6 dL_puts_204 rfl rfl ?_
          refine wk_aload C.1 3 dL_puts_205 rfl ?_
          refine wk_iconst (v := nI 2) C.1 dL_puts_207 (by first | decide | rfl) ?_
          refine wk_iload C.1 1 dL_puts_208 rfl ?_
          refine wk_imul C.1 dL_puts_210 ?_
          refine wk_eqi (b := nI (2 * k)) (pk_mul 2 k) ?_
          refine wd_iald (j := 2 * k) (f := f) (v := nI (X k)) C (by omega) x1 dL_puts_211 ?_
          refine wk_aload C.1 3 dL_puts_212 rfl ?_
          refine wk_iconst (v := nI 2) C.1 dL_puts_214 (by first | decide | rfl) ?_
          refine wk_iload C.1 1 dL_puts_215 rfl ?_
          refine wk_imul C.1 dL_puts_217 ?_
          refine wk_eqi (b := nI (2 * k)) (pk_mul 2 k) ?_
          refine wk_iconst (v := nI 1) C.1 dL_puts_218 (by first | decide | rfl) ?_
          refine wk_iadd C.1 dL_puts_219 ?_
          refine wk_eqi (b := nI (2 * k + 1)) (nI_add (2 * k) 1) ?_
          refine wd_iald (j := 2 * k + 1) (f := f) (v := nI (Y k)) C (by omega) x2 dL_puts_220 ?_
          refine wk_iload C.1 0 dL_puts_221 rfl ?_
          refine wd_S1 (n := 4) C [.ref (G.2.2.1 224), .int (nI (X k)), .int (nI (Y k)), .int 0] [] (c_L_corner0 _ G M3 (withT σ T) R3 Y3.2.1 (X k) (Y k) (by omega) (by omega) k3) gL_puts_L_corner rfl (by decide +kernel) (Nat.le_of_ble_eq_true rfl) (Nat.le_of_ble_eq_true rfl) rfl rfl (Nat.le_of_ble_eq_true rfl) (by omega) (by omega) dL_puts_223 (fun r223 M4 h223 => ?_)
          obtain ⟨a223, R4, O4⟩ := h223
          refine wk_if_eq C.1 260 dL_puts_226 (by decide) (fun c_226 => absurd c_226 (by rw [a223]; decide)) (fun c_226 => ?_)
          refine wk_aload_n C.1 7 dL_puts_229 rfl rfl ?_
          refine wk_iload_n C.1 5 dL_puts_230 rfl rfl ?_
          refine wk_aload C.1 3 dL_puts_231 rfl ?_
          refine wk_iconst (v := nI 2) C.1 dL_puts_233 (by first | decide | rfl) ?_
          refine wk_iload C.1 1 dL_puts_234 rfl ?_
          refine wk_imul C.1 dL_puts_236 ?_
          refine wk_eqi (b := nI (2 * k)) (pk_mul 2 k) ?_
          refine wk_iconst (v := nI 1) C.1 dL_puts_237 (by first | decide | rfl) ?_
          refine wk_iadd C.1 dL_puts_238 ?_
          refine wk_eqi (b := nI (2 * k + 1)) (nI_add (2 * k) 1) ?_
          refine wd_iald (j := 2 * k + 1) (f := f) (v := nI (Y k)) C (by omega) x2 dL_puts_239 ?_
          refine wk_isub C.1 dL_puts_240 ?_
          refine wk_eqi (b := nI (hh - Y k)) (pk_sub (by omega)) ?_
          refine wk_aload C.1 3 dL_puts_241 rfl ?_
          refine wk_iconst (v := nI 2) C.1 dL_puts_243 (by first | decide | rfl) ?_
          refine wk_iload C.1 1 dL_puts_244 rfl ?_
          refine wk_imul C.1 dL_puts_246 ?_
          refine wk_eqi (b := nI (2 * k)) (pk_mul 2 k) ?_
          refine wd_iald (j := 2 * k) (f := f) (v := nI (X k)) C (by omega) x1 dL_puts_247 ?_
          refine wk_iload C.1 0 dL_puts_248 rfl ?_
          refine wd_callSi (F := wd G M4) (ad := ad) (n := 4) C [.ref (ad 224), .int (nI (hh - Y k)), .int (nI (X k)), .int 0] [] (c_L_corner0 _ (gA G ad) N3 (withT σ' T') S3 Y3.2.2 (hh - Y k) (X k) (by omega) (by omega) k4) gL_puts_L_corner rfl (by decide +kernel) (Nat.le_of_ble_eq_true rfl) (Nat.le_of_ble_eq_true rfl) rfl rfl (Nat.le_of_ble_eq_true rfl) (by omega) (by omega) dL_puts_250 (fun r250 N4 h250 => ?_)
          obtain ⟨a250, S4, Q4⟩ := h250
          refine wk_if_eq C.1 260 dL_puts_253 (by decide) (fun c_253 => absurd c_253 (by rw [a250]; decide)) (fun c_253 => ?_)
          refine wk_iconst (v := 1) C.1 dL_puts_256 (by decide) ?_
          refine wk_goto C.1 261 dL_puts_257 (by decide) ?_
          refine wk_istore (L' := [(8, .int 1), (10, .int 0), (9, .int (nI k)), (5, .ref q), (4, .int (nI c)), (3, .int (nI hh)), (0, .ref (G.2.2.1 224)), (1, .ref (ad 224)), (2, .int v)]) C.1 dL_puts_261 (by decide) rfl ?_
          refine wk_iinc1 (k := k) (L' := [(9, .int (nI (k + 1))), (8, .int 1), (10, .int 0), (5, .ref q), (4, .int (nI c)), (3, .int (nI hh)), (0, .ref (G.2.2.1 224)), (1, .ref (ad 224)), (2, .int v)]) C.1 2 dL_puts_263 rfl (by decide) rfl ?_
          refine wk_goto C.1 175 dL_puts_266 (by decide) ?_
          refine wk_sub (L' := [(9, .int (nI (k + 1))), (8, .int 1), (5, .ref q), (4, .int (nI c)), (3, .int (nI hh)), (0, .ref (G.2.2.1 224)), (1, .ref (ad 224)), (2, .int v)]) [0, 1, 3, 4, 5, 6, 7, 8] rfl ?_
          exact ih g M4 N4 (coE T (X k) (Y k) false) (coE T' (hh - Y k) (X k) false) R4 S4 (hY.withT O4.2.2 Q4.2.2) p1 p2
        · skip
          refine wk_bipush (v := 59) C.1 dL_puts_191 (by decide) ?_
          refine wk_goto C.1 197 dL_puts_193 (by decide) ?_
          rw [decide_eq_true (show k + 1 < c by omega)] at p1 p2
          refine wk_istore (L' := [(10, .int 59), (9, .int (nI k)), (8, .int 1), (5, .ref q), (4, .int (nI c)), (3, .int (nI hh)), (0, .ref (G.2.2.1 224)), (1, .ref (ad 224)), (2, .int v)]) C.1 dL_puts_197 (by decide) rfl ?_
          refine wk_iload C.1 2 dL_puts_199 rfl ?_
          refine wk_if_eq C.1 260 dL_puts_201 (by decide) (fun c_201 => absurd c_201 (by decide)) (fun c_201 => ?_)
          refine wk_aload_n C.1 6 dL_puts_204 rfl rfl ?_
          refine wk_aload C.1 3 dL_puts_205 rfl ?_
          refine wk_iconst (v := nI 2) C.1 dL_puts_207 (by first | decide | rfl) ?_
          refine wk_iload C.1 1 dL_puts_208 rfl ?_
          refine wk_imul C.1 dL_puts_210 ?_
          refine wk_eqi (b := nI (2 * k)) (pk_mul 2 k) ?_
          refine wd_iald (j := 2 * k) (f := f) (v := nI (X k)) C (by omega) x1 dL_puts_211 ?_
          refine wk_aload C.1 3 dL_puts_212 rfl ?_
          refine wk_iconst (v := nI 2) C.1 dL_puts_214 (by first | decide | rfl) ?_
          refine wk_iload C.1 1 dL_puts_215 rfl ?_
          refine wk_imul C.1 dL_puts_217 ?_
          refine wk_eqi (b := nI (2 * k)) (pk_mul 2 k) ?_
          refine wk_iconst (v := nI 1) C.1 dL_puts_218 (by first | decide | rfl) ?_
          refine wk_iadd C.1 dL_puts_219 ?_
          refine wk_eqi (b := nI (2 * k + 1)) (nI_add (2 * k) 1) ?_
          refine wd_iald (j := 2 * k + 1) (f := f) (v := nI (Y k)) C (by omega) x2 dL_puts_220 ?_
          refine wk_iload C.1 0 dL_puts_221 rfl ?_
          refine wd_S1 (n := 4) C [.ref (G.2.2.1 224), .int (nI (X k)), .int (nI (Y k)), .int 59] [] (c_L_corner1 _ G M3 (withT σ T) R3 Y3.2.1 (X k) (Y k) (by omega) (by omega) k3) gL_puts_L_corner rfl (by decide +kernel) (Nat.le_of_ble_eq_true rfl) (Nat.le_of_ble_eq_true rfl) rfl rfl (Nat.le_of_ble_eq_true rfl) (by omega) (by omega) dL_puts_223 (fun r223 M4 h223 => ?_)
          obtain ⟨a223, R4, O4⟩ := h223
          refine wk_if_eq C.1 260 dL_puts_226 (by decide) (fun c_226 => absurd c_226 (by rw [a223]; decide)) (fun c_226 => ?_)
          refine wk_aload_n C.1 7 dL_puts_229 rfl rfl ?_
          refine wk_iload_n C.1 5 dL_puts_230 rfl rfl ?_
          refine wk_aload C.1 3 dL_puts_231 rfl ?_
          refine wk_iconst (v := nI 2) C.1 dL_puts_233 (by first | decide | rfl) ?_
          refine wk_iload C.1 1 dL_puts_234 rfl ?_
          refine wk_imul C.1 dL_puts_236 ?_
          refine wk_eqi (b := nI (2 * k)) (pk_mul 2 k) ?_
          refine wk_iconst (v := nI 1) C.1 dL_puts_237 (by first | decide | rfl) ?_
          refine wk_iadd C.1 dL_puts_238 ?_
          refine wk_eqi (b := nI (2 * k + 1)) (nI_add (2 * k) 1) ?_
          refine wd_iald (j := 2 * k + 1) (f := f) (v := nI (Y k)) C (by omega) x2 dL_puts_239 ?_
          refine wk_isub C.1 dL_puts_240 ?_
          refine wk_eqi (b := nI (hh - Y k)) (pk_sub (by omega)) ?_
          refine wk_aload C.1 3 dL_puts_241 rfl ?_
          refine wk_iconst (v := nI 2) C.1 dL_puts_243 (by first | decide | rfl) ?_
          refine wk_iload C.1 1 dL_puts_244 rfl ?_
          refine wk_imul C.1 dL_puts_246 ?_
          refine wk_eqi (b := nI (2 * k)) (pk_mul 2 k) ?_
          refine wd_iald (j := 2 * k) (f := f) (v := nI (X k)) C (by omega) x1 dL_puts_247 ?_
          refine wk_iload C.1 0 dL_puts_248 rfl ?_
          refine wd_callSi (F := wd G M4) (ad := ad) (n := 4) C [.ref (ad 224), .int (nI (hh - Y k)), .int (nI (X k)), .int 59] [] (c_L_corner1 _ (gA G ad) N3 (withT σ' T') S3 Y3.2.2 (hh - Y k) (X k) (by omega) (by omega) k4) gL_puts_L_corner rfl (by decide +kernel) (Nat.le_of_ble_eq_true rfl) (Nat.le_of_ble_eq_true rfl) rfl rfl (Nat.le_of_ble_eq_true rfl) (by omega) (by omega) dL_puts_250 (fun r250 N4 h250 => ?_)
          obtain ⟨a250, S4, Q4⟩ := h250
          refine wk_if_eq C.1 260 dL_puts_253 (by decide) (fun c_253 => absurd c_253 (by rw [a250]; decide)) (fun c_253 => ?_)
          refine wk_iconst (v := 1) C.1 dL_puts_256 (by decide) ?_
          refine wk_goto C.1 261 dL_puts_257 (by decide) ?_
          refine wk_istore (L' := [(8, .int 1), (10, .int 59), (9, .int (nI k)), (5, .ref q), (4, .int (nI c)), (3, .int (nI hh)), (0, .ref (G.2.2.1 224)), (1, .ref (ad 224)), (2, .int v)]) C.1 dL_puts_261 (by decide) rfl ?_
          refine wk_iinc1 (k := k) (L' := [(9, .int (nI (k + 1))), (8, .int 1), (10, .int 59), (5, .ref q), (4, .int (nI c)), (3, .int (nI hh)), (0, .ref (G.2.2.1 224)), (1, .ref (ad 224)), (2, .int v)]) C.1 2 dL_puts_263 rfl (by decide) rfl ?_
          refine wk_goto C.1 175 dL_puts_266 (by decide) ?_
          refine wk_sub (L' := [(9, .int (nI (k + 1))), (8, .int 1), (5, .ref q), (4, .int (nI c)), (3, .int (nI hh)), (0, .ref (G.2.2.1 224)), (1, .ref (ad 224)), (2, .int v)]) [0, 1, 3, 4, 5, 6, 7, 8] rfl ?_
          exact ih g M4 N4 (coE T (X k) (Y k) true) (coE T' (hh - Y k) (X k) true) R4 S4 (hY.withT O4.2.2 Q4.2.2) p1 p2
    exact h175 0 (by omega) M152 M159 (0, σ.2.2.2.2) (0, σ'.2.2.2.2) R152 R159 (hY.withT (cle_ok hY.2.1).2.2 (cle_ok hY.2.2).2.2) (TxI_0 (by omega) rfl) (TxI_0 (by omega) rfl)
  have h45 : ∀ k, k ≤ 4 → ∀ f : Nat → Int32, AtI le lo k f → WK x G (A2 G ad sz) 11 (0 + 1) (0 + 8) QQ (wd G M ++ (wd (gA G ad) N ++ [(q, .inl (G.2.1 0, 8, .inl f))])) 45 [(8, .int (nI k)), (7, .int (nI lo)), (6, .int (nI le)), (5, .ref q), (4, .int (nI c)), (3, .int (nI hh)), (0, .ref (G.2.2.1 224)), (1, .ref (ad 224)), (2, .int v)] [] := by
    refine up_loop 4 _ (fun k hk ih => ?_)
    intro f hf
    refine wk_iload C.1 0 dL_puts_45 rfl ?_
    refine wk_iconst (v := nI 4) C.1 dL_puts_47 (by first | decide | rfl) ?_
    refine wk_icmp_geN C.1 (a := k) (b := 4) (by omega) (by omega) 151 dL_puts_48 (by decide) (fun g => ?_) (fun g => ?_)
    · have e : k = 4 := by omega
      rw [e] at hf ⊢
      exact h151 f hf
    · skip
      have h98 : ∀ a : Nat, ((k = 1 ∨ k = 2) → 3 ≤ a ∧ a < 6) → (¬ (k = 1 ∨ k = 2) → a < 3) → WK x G (A2 G ad sz) 11 (0 + 1) (0 + 8) QQ (wd G M ++ (wd (gA G ad) N ++ [(q, .inl (G.2.1 0, 8, .inl f))])) 98 [(8, .int (nI k)), (7, .int (nI lo)), (6, .int (nI le)), (5, .ref q), (4, .int (nI c)), (3, .int (nI hh)), (0, .ref (G.2.2.1 224)), (1, .ref (ad 224)), (2, .int v)] [.int (nI a), .int (nI le), .int (nI (2 * k)), .ref q] := by
        intro a ha1 ha2
        refine wk_iadd C.1 dL_puts_98 ?_
        refine wk_eqi (b := nI (le + a)) (nI_add le a) ?_
        refine wd_iast C (j := 2 * k) (by omega) dL_puts_99 ?_
        refine wk_aload C.1 3 dL_puts_100 rfl ?_
        refine wk_iconst (v := nI 2) C.1 dL_puts_102 (by first | decide | rfl) ?_
        refine wk_iload C.1 0 dL_puts_103 rfl ?_
        refine wk_imul C.1 dL_puts_105 ?_
        refine wk_eqi (b := nI (2 * k)) (pk_mul 2 k) ?_
        refine wk_iconst (v := nI 1) C.1 dL_puts_106 (by first | decide | rfl) ?_
        refine wk_iadd C.1 dL_puts_107 ?_
        refine wk_eqi (b := nI (2 * k + 1)) (nI_add (2 * k) 1) ?_
        have h143 : ∀ b : Nat, (1 < k → 3 ≤ b ∧ b < 6) → (¬ 1 < k → b < 3) → WK x G (A2 G ad sz) 11 (0 + 1) (0 + 8) QQ (wd G M ++ (wd (gA G ad) N ++ [(q, .inl (G.2.1 0, 8, .inl (upd f (2 * k) (nI (le + a)))))])) 143 [(8, .int (nI k)), (7, .int (nI lo)), (6, .int (nI le)), (5, .ref q), (4, .int (nI c)), (3, .int (nI hh)), (0, .ref (G.2.2.1 224)), (1, .ref (ad 224)), (2, .int v)] [.int (nI b), .int (nI lo), .int (nI (2 * k + 1)), .ref q] := by
          intro b hb1 hb2
          refine wk_iadd C.1 dL_puts_143 ?_
          refine wk_eqi (b := nI (lo + b)) (nI_add lo b) ?_
          refine wd_iast C (j := 2 * k + 1) (by omega) dL_puts_144 ?_
          refine wk_iinc1 (k := k) (L' := [(8, .int (nI (k + 1))), (7, .int (nI lo)), (6, .int (nI le)), (5, .ref q), (4, .int (nI c)), (3, .int (nI hh)), (0, .ref (G.2.2.1 224)), (1, .ref (ad 224)), (2, .int v)]) C.1 0 dL_puts_145 rfl (by decide) rfl ?_
          refine wk_goto C.1 45 dL_puts_148 (by decide) ?_
          exact ih (by omega) _ (AtI_step hf (by omega) ha1 ha2 hb1 hb2)
        refine wk_iload C.1 1 dL_puts_108 rfl ?_
        refine wk_iload C.1 0 dL_puts_110 rfl ?_
        refine wk_iconst (v := nI 1) C.1 dL_puts_112 (by first | decide | rfl) ?_
        refine wk_icmp_leN C.1 (a := k) (b := 1) (by omega) (by omega) 132 dL_puts_113 (by decide) (fun g1 => ?_) (fun g1 => ?_)
        · skip
          refine wk_iload_n C.1 8 dL_puts_132 rfl rfl ?_
          refine wk_bipush (v := nI 15) C.1 dL_puts_133 (by decide) ?_
          refine wk_iload C.1 0 dL_puts_135 rfl ?_
          refine wk_iadd C.1 dL_puts_137 ?_
          refine wk_eqi (b := nI (15 + k)) (nI_add 15 k) ?_
          refine wk_ishr C.1 dL_puts_138 ?_
          refine wk_iconst (v := nI 3) C.1 dL_puts_139 (by first | decide | rfl) ?_
          refine wd_S1 (n := 2) C [.int (v >>> ((nI (15 + k)) &&& 31)), .int (nI 3)] [.int (nI lo), .int (nI (2 * k + 1)), .ref q] (c_L_up _ G M (v >>> ((nI (15 + k)) &&& 31)) 3 (by omega) (by omega)) gL_puts_L_up rfl (by decide +kernel) (Nat.le_of_ble_eq_true rfl) (Nat.le_of_ble_eq_true rfl) rfl rfl (Nat.le_of_ble_eq_true rfl) (by omega) (by omega) dL_puts_140 (fun r140 M140 h140 => ?_)
          obtain ⟨a140, b140⟩ := h140
          rw [a140, b140]
          exact h143 _ (fun z => absurd g1 (by omega)) (fun _ => upN_lt (by decide))
        · skip
          refine wk_iconst (v := nI 3) C.1 dL_puts_116 (by first | decide | rfl) ?_
          refine wk_iload_n C.1 8 dL_puts_117 rfl rfl ?_
          refine wk_bipush (v := nI 13) C.1 dL_puts_118 (by decide) ?_
          refine wk_iload C.1 0 dL_puts_120 rfl ?_
          refine wk_iadd C.1 dL_puts_122 ?_
          refine wk_eqi (b := nI (13 + k)) (nI_add 13 k) ?_
          refine wk_ishr C.1 dL_puts_123 ?_
          refine wk_iconst (v := nI 3) C.1 dL_puts_124 (by first | decide | rfl) ?_
          refine wd_S1 (n := 2) C [.int (v >>> ((nI (13 + k)) &&& 31)), .int (nI 3)] [.int (nI 3), .int (nI lo), .int (nI (2 * k + 1)), .ref q] (c_L_up _ G M (v >>> ((nI (13 + k)) &&& 31)) 3 (by omega) (by omega)) gL_puts_L_up rfl (by decide +kernel) (Nat.le_of_ble_eq_true rfl) (Nat.le_of_ble_eq_true rfl) rfl rfl (Nat.le_of_ble_eq_true rfl) (by omega) (by omega) dL_puts_125 (fun r125 M125 h125 => ?_)
          obtain ⟨a125, b125⟩ := h125
          rw [a125, b125]
          refine wk_iadd C.1 dL_puts_128 ?_
          refine wk_eqi (b := nI (3 + (upN (v >>> ((nI (13 + k)) &&& 31)) 3))) (nI_add 3 _) ?_
          refine wk_goto C.1 143 dL_puts_129 (by decide) ?_
          have hu : (upN (v >>> ((nI (13 + k)) &&& 31)) 3) < 3 := upN_lt (by decide)
          exact h143 _ (fun _ => ⟨by omega, by omega⟩) (fun z => absurd g1 (by omega))
      refine wk_aload C.1 3 dL_puts_51 rfl ?_
      refine wk_iconst (v := nI 2) C.1 dL_puts_53 (by first | decide | rfl) ?_
      refine wk_iload C.1 0 dL_puts_54 rfl ?_
      refine wk_imul C.1 dL_puts_56 ?_
      refine wk_eqi (b := nI (2 * k)) (pk_mul 2 k) ?_
      refine wk_iload C.1 2 dL_puts_57 rfl ?_
      refine wk_iload C.1 0 dL_puts_59 rfl ?_
      refine wk_iconst (v := nI 1) C.1 dL_puts_61 (by first | decide | rfl) ?_
      have h71 : (k = 1 ∨ k = 2) → WK x G (A2 G ad sz) 11 (0 + 1) (0 + 8) QQ (wd G M ++ (wd (gA G ad) N ++ [(q, .inl (G.2.1 0, 8, .inl f))])) 71 [(8, .int (nI k)), (7, .int (nI lo)), (6, .int (nI le)), (5, .ref q), (4, .int (nI c)), (3, .int (nI hh)), (0, .ref (G.2.2.1 224)), (1, .ref (ad 224)), (2, .int v)] [.int (nI le), .int (nI (2 * k)), .ref q] := by
        intro g1
        refine wk_iconst (v := nI 3) C.1 dL_puts_71 (by first | decide | rfl) ?_
        refine wk_iload_n C.1 8 dL_puts_72 rfl rfl ?_
        refine wk_bipush (v := nI 9) C.1 dL_puts_73 (by decide) ?_
        refine wk_iload C.1 0 dL_puts_75 rfl ?_
        refine wk_iadd C.1 dL_puts_77 ?_
        refine wk_eqi (b := nI (9 + k)) (nI_add 9 k) ?_
        refine wk_ishr C.1 dL_puts_78 ?_
        refine wk_iconst (v := nI 3) C.1 dL_puts_79 (by first | decide | rfl) ?_
        refine wd_S1 (n := 2) C [.int (v >>> ((nI (9 + k)) &&& 31)), .int (nI 3)] [.int (nI 3), .int (nI le), .int (nI (2 * k)), .ref q] (c_L_up _ G M (v >>> ((nI (9 + k)) &&& 31)) 3 (by omega) (by omega)) gL_puts_L_up rfl (by decide +kernel) (Nat.le_of_ble_eq_true rfl) (Nat.le_of_ble_eq_true rfl) rfl rfl (Nat.le_of_ble_eq_true rfl) (by omega) (by omega) dL_puts_80 (fun r80 M80 h80 => ?_)
        obtain ⟨a80, b80⟩ := h80
        rw [a80, b80]
        refine wk_iadd C.1 dL_puts_83 ?_
        refine wk_eqi (b := nI (3 + (upN (v >>> ((nI (9 + k)) &&& 31)) 3))) (nI_add 3 _) ?_
        refine wk_goto C.1 98 dL_puts_84 (by decide) ?_
        have hu : (upN (v >>> ((nI (9 + k)) &&& 31)) 3) < 3 := upN_lt (by decide)
        exact h98 _ (fun _ => ⟨by omega, by omega⟩) (fun z => absurd g1 z)
      refine wk_icmp_eqN C.1 (a := k) (b := 1) (by omega) (by omega) 71 dL_puts_62 (by decide) (fun g1 => h71 (Or.inl g1)) (fun g1 => ?_)
      refine wk_iload C.1 0 dL_puts_65 rfl ?_
      refine wk_iconst (v := nI 2) C.1 dL_puts_67 (by first | decide | rfl) ?_
      refine wk_icmp_neN C.1 (a := k) (b := 2) (by omega) (by omega) 87 dL_puts_68 (by decide) (fun g2 => ?_) (fun g2 => h71 (Or.inr g2))
      refine wk_iload_n C.1 8 dL_puts_87 rfl rfl ?_
      refine wk_bipush (v := nI 11) C.1 dL_puts_88 (by decide) ?_
      refine wk_iload C.1 0 dL_puts_90 rfl ?_
      refine wk_iadd C.1 dL_puts_92 ?_
      refine wk_eqi (b := nI (11 + k)) (nI_add 11 k) ?_
      refine wk_ishr C.1 dL_puts_93 ?_
      refine wk_iconst (v := nI 3) C.1 dL_puts_94 (by first | decide | rfl) ?_
      refine wd_S1 (n := 2) C [.int (v >>> ((nI (11 + k)) &&& 31)), .int (nI 3)] [.int (nI le), .int (nI (2 * k)), .ref q] (c_L_up _ G M (v >>> ((nI (11 + k)) &&& 31)) 3 (by omega) (by omega)) gL_puts_L_up rfl (by decide +kernel) (Nat.le_of_ble_eq_true rfl) (Nat.le_of_ble_eq_true rfl) rfl rfl (Nat.le_of_ble_eq_true rfl) (by omega) (by omega) dL_puts_95 (fun r95 M95 h95 => ?_)
      obtain ⟨a95, b95⟩ := h95
      rw [a95, b95]
      exact h98 _ (fun z => absurd z (by omega)) (fun _ => upN_lt (by decide))
  refine wk_sub (L' := [(8, .int (nI 0)), (7, .int (nI lo)), (6, .int (nI le)), (5, .ref q), (4, .int (nI c)), (3, .int (nI hh)), (0, .ref (G.2.2.1 224)), (1, .ref (ad 224)), (2, .int v)]) [0, 1, 2, 3, 4, 5, 6, 7, 8] rfl ?_
  exact h45 0 (by decide) _ (fun i hi => absurd hi (Nat.not_lt_zero _))
