/-! THE LAW'S LOOP AND START -/
set_option maxHeartbeats 4000000 in
set_option maxRecDepth 100000 in
theorem law_loop {x : Cn} {G : Gw} {cs sl : Nat} {Q : State → Prop} {b n : Nat} {xs : Nat → Int32} (C : LCX x G cs sl) (hX : va_X b n xs (xS x) (xS x).heap) (hbl : b < (xS x).heap.size) (hbA : ¬ (xS x).heap.size ≤ b) (hn : n < 3000) (fin : ∀ (M : Mem) (L : List (Nat × Value)), WL x G (fun q => (xS x).heap.size ≤ q) 4 cs sl Q M 608 L [.int 1]) : ∀ (t k : Nat), k < 3000 → n < k + 4 * t + 4 → ∀ (M : Mem) (σ : Sy), RC M σ → RM M σ → OkY σ → LWL x G cs sl Q b M 18 k := by
  intro t
  induction t with
  | zero =>
    intro k hk ht M σ hR hM hO
    refine wl_iload_n C 0 dL_law_18 rfl rfl ?_
    refine wl_aload_n C 3 dL_law_19 rfl rfl ?_
    refine wl_slen C hX hbl hbA dL_law_20 ?_
    refine wl_iconst (v := nI 4) C dL_law_21 (by decide) ?_
    refine wl_isub C dL_law_22 ?_
    refine wl_icmp_gt C 607 dL_law_23 (by decide) (fun _ => ?_) (fun cc => absurd ((guard_k hn hk).mpr (by omega)) cc)
    refine wl_iconst (v := 1) C dL_law_607 (by decide) ?_
    exact fin M _
  | succ t ih =>
    intro k hk ht M σ hR hM hO
    refine wl_iload_n C 0 dL_law_18 rfl rfl ?_
    refine wl_aload_n C 3 dL_law_19 rfl rfl ?_
    refine wl_slen C hX hbl hbA dL_law_20 ?_
    refine wl_iconst (v := nI 4) C dL_law_21 (by decide) ?_
    refine wl_isub C dL_law_22 ?_
    refine wl_icmp_gt C 607 dL_law_23 (by decide) (fun _ => ?_) (fun cc => ?_)
    · refine wl_iconst (v := 1) C dL_law_607 (by decide) ?_
      exact fin M _
    have hg : ¬ n < k + 4 := fun z => cc ((guard_k hn hk).mpr z)
    have go : ∀ (M2 : Mem) (σ2 : Sy), RC M2 σ2 → RM M2 σ2 → OkY σ2 → LWL x G cs sl Q b M2 601 k := by
      intro M2 σ2 g1 g2 g3
      refine wl_iinc (w := nI (k + 4)) (L' := [(3, .int (nI (k + 4))), (2, .ref (G.2.2.1 232)), (1, .ref (G.2.2.1 224)), (0, .ref b)]) C 0 dL_law_601 rfl (by rw [show Int32.ofInt 4 = nI 4 by decide]; exact nI_add k 4) (by decide) rfl ?_
      refine wl_goto C 18 dL_law_604 (by decide) ?_
      exact ih (k + 4) (by omega) (by omega) M2 σ2 g1 g2 g3
    refine wl_aload_n C 3 dL_law_26 rfl rfl ?_
    refine wl_iload_n C 0 dL_law_27 rfl rfl ?_
    refine wl_sld C hX hbl hbA (j := k) (by omega) (by omega) dL_law_28 ?_
    refine wl_bipush (v := 31) C dL_law_29 (by decide) ?_
    refine wl_iand C dL_law_31 ?_
    rcases sw19 (xs k &&& 31) with z | z | z | z | z | z | z | z | z | z | z | z | z | z | z | z | z | z | z | z
    · refine wl_swIn C 124 dL_law_32 (by rw [z]; decide) (by rw [z]; decide) (by rw [z]; rfl) (by decide) ?_
      exact law_0 C hX hbl hbA hn (by omega) hR hM hO go
    · refine wl_swIn C 157 dL_law_32 (by rw [z]; decide) (by rw [z]; decide) (by rw [z]; rfl) (by decide) ?_
      exact law_1 C hX hbl hbA hn (by omega) hR hM hO go
    · refine wl_swIn C 170 dL_law_32 (by rw [z]; decide) (by rw [z]; decide) (by rw [z]; rfl) (by decide) ?_
      exact law_2 C hX hbl hbA hn (by omega) hR hM hO go
    · refine wl_swIn C 193 dL_law_32 (by rw [z]; decide) (by rw [z]; decide) (by rw [z]; rfl) (by decide) ?_
      exact law_3 C hX hbl hbA hn (by omega) hR hM hO go
    · refine wl_swIn C 206 dL_law_32 (by rw [z]; decide) (by rw [z]; decide) (by rw [z]; rfl) (by decide) ?_
      exact law_4 C hX hbl hbA hn (by omega) hR hM hO go
    · refine wl_swIn C 249 dL_law_32 (by rw [z]; decide) (by rw [z]; decide) (by rw [z]; rfl) (by decide) ?_
      exact law_5 C hX hbl hbA hn (by omega) hR hM hO go
    · refine wl_swIn C 272 dL_law_32 (by rw [z]; decide) (by rw [z]; decide) (by rw [z]; rfl) (by decide) ?_
      exact law_6 C hX hbl hbA hn (by omega) hR hM hO go
    · refine wl_swIn C 295 dL_law_32 (by rw [z]; decide) (by rw [z]; decide) (by rw [z]; rfl) (by decide) ?_
      exact law_7 C hX hbl hbA hn (by omega) hR hM hO go
    · refine wl_swIn C 328 dL_law_32 (by rw [z]; decide) (by rw [z]; decide) (by rw [z]; rfl) (by decide) ?_
      exact law_8 C hX hbl hbA hn (by omega) hR hM hO go
    · refine wl_swIn C 371 dL_law_32 (by rw [z]; decide) (by rw [z]; decide) (by rw [z]; rfl) (by decide) ?_
      exact law_9 C hX hbl hbA hn (by omega) hR hM hO go
    · refine wl_swIn C 414 dL_law_32 (by rw [z]; decide) (by rw [z]; decide) (by rw [z]; rfl) (by decide) ?_
      exact law_10 C hX hbl hbA hn (by omega) hR hM hO go
    · refine wl_swIn C 437 dL_law_32 (by rw [z]; decide) (by rw [z]; decide) (by rw [z]; rfl) (by decide) ?_
      exact law_11 C hX hbl hbA hn (by omega) hR hM hO go
    · refine wl_swIn C 460 dL_law_32 (by rw [z]; decide) (by rw [z]; decide) (by rw [z]; rfl) (by decide) ?_
      exact law_12 C hX hbl hbA hn (by omega) hR hM hO go
    · refine wl_swIn C 473 dL_law_32 (by rw [z]; decide) (by rw [z]; decide) (by rw [z]; rfl) (by decide) ?_
      exact law_13 C hX hbl hbA hn (by omega) hR hM hO go
    · refine wl_swIn C 506 dL_law_32 (by rw [z]; decide) (by rw [z]; decide) (by rw [z]; rfl) (by decide) ?_
      exact law_14 C hX hbl hbA hn (by omega) hR hM hO go
    · refine wl_swIn C 529 dL_law_32 (by rw [z]; decide) (by rw [z]; decide) (by rw [z]; rfl) (by decide) ?_
      exact law_15 C hX hbl hbA hn (by omega) hR hM hO go
    · refine wl_swIn C 542 dL_law_32 (by rw [z]; decide) (by rw [z]; decide) (by rw [z]; rfl) (by decide) ?_
      exact law_16 C hX hbl hbA hn (by omega) hR hM hO go
    · refine wl_swIn C 565 dL_law_32 (by rw [z]; decide) (by rw [z]; decide) (by rw [z]; rfl) (by decide) ?_
      exact law_17 C hX hbl hbA hn (by omega) hR hM hO go
    · refine wl_swIn C 578 dL_law_32 (by rw [z]; decide) (by rw [z]; decide) (by rw [z]; rfl) (by decide) ?_
      exact law_18 C hX hbl hbA hn (by omega) hR hM hO go
    · refine wl_swOut C 601 dL_law_32 z (by decide) ?_
      exact go M σ hR hM hO
set_option maxHeartbeats 4000000 in
set_option maxRecDepth 100000 in
theorem whole_start {p : Program} {e : Env} {s : State} {m : MethodId} {below : List Frame} {meth : Method} {c : Code} (l : Launch) (hflags : l.flags = flags0) {b L : Nat} {xs : Nat → Int32} (hL : L ≤ 2048) (C0 : lw_At p s m meth c b L xs) : W p l e room_1 s m #[Value.ref b] below meth c s.heap [] 0 0 (lw_Z below #[Value.ref b] s) (entryFrame m ([Value.ref b] : List Value).toArray 4) := by
  obtain ⟨hx, hb, hr, hml, hown, hts, hX, hbl, hlocks, hgv⟩ := id C0
  obtain ⟨D, dA, hK⟩ := law_K hts
  obtain ⟨tX, zX, sX⟩ := law_TX hts hgv
  obtain ⟨tY, zY, sY⟩ := law_TY hts hgv
  obtain ⟨G, hG⟩ : ∃ G : Gw, G = (D, dA, (fun _ => 0), tX, tY) := ⟨_, rfl⟩
  obtain ⟨x, hxe⟩ : ∃ x : Cn, x = (p, l, e, room_1, s, m, #[Value.ref b], below, meth, c) := ⟨_, rfl⟩
  have hsx : xS x = s := by rw [hxe]; rfl
  have hw : ∀ w ∈ wsL_law, w.before #[Value.ref b] s = true := fun w h => hts w (i_wsL w h)
  have C : CK x G (fun q => (xS x).heap.size ≤ q) RL cL_law 4 wsL_law 16 638 600000 7302249 := by
    rw [hxe, hG]
    exact ⟨hx, hb, hml, hown, hw, hK, fun _ h => h, va_AO.of (hts _ i_aB), va_AO.of (hts _ i_aP), hlocks, Nat.le_of_ble_eq_true rfl, Nat.le_of_ble_eq_true rfl, Nat.le_of_ble_eq_true rfl, Nat.le_of_ble_eq_true rfl⟩
  have hX1 : va_X b L xs (xS x) (xS x).heap := by rw [hsx]; exact hX
  have hbl1 : b < (xS x).heap.size := by rw [hsx]; exact hbl
  have hbA1 : ¬ (xS x).heap.size ≤ b := Nat.not_le.mpr hbl1
  have fin : ∀ (G' : Gw) (cs sl : Nat) (M : Mem) (L' : List (Nat × Value)), cs ≤ 600000 → sl ≤ 7302249 → WL x G' (fun q => (xS x).heap.size ≤ q) 4 cs sl (lw_Z below #[Value.ref b] s) M 608 L' [.int 1] := by
    intro G' cs sl M L' h1 h2
    rw [hxe]
    exact wl_end C0 h1 h2 dL_law_608
  have cl : ∀ (a m0 : Nat → Nat) (cs sl : Nat), cs ≤ 600000 → sl ≤ 7302249 → Ap (fun q => (xS x).heap.size ≤ q) (gP G a m0).2.2.1 → LCX x (gP G a m0) cs sl := by
    intro a m0 cs sl h1 h2 hAp
    rw [hxe, hG] at hAp ⊢
    exact ⟨hx, hb, hml, hown, hw, hK, hAp, fun _ h => h, ⟨zX, sX, zY, sY⟩, hlocks, law_NW hts, Nat.le_of_ble_eq_true rfl, Nat.le_of_ble_eq_true rfl, Nat.le_trans h1 (Nat.le_of_ble_eq_true rfl), Nat.le_trans h2 (Nat.le_of_ble_eq_true rfl)⟩
  have main : WK x G (fun q => (xS x).heap.size ≤ q) 4 0 0 (lw_Z below #[Value.ref b] s) [] 0 [(0, .ref b)] [] := by
    generalize lw_Z below #[Value.ref b] s = Q at fin ⊢
    clear hxe hsx
    refine wk_new C 4 tyX4 [.null, .null, .null, .null] inlX4 tyX4_ok (by decide +kernel) (by decide +kernel) (by decide +kernel) rfl dfX4 (by omega) (by omega) dL_law_0 (fun q1 => ?_)
    refine wk_dup C dL_law_3 rfl ?_
    refine wk_call (wy := wsX4_init) C [.ref q1] (c_X4_init _ G) gL_law_X4_init rfl (by decide +kernel) (by decide +kernel) (by decide +kernel) rfl (by decide +kernel) (by decide) (by decide) (by omega) (by omega) (Nat.le_of_ble_eq_true rfl) dL_law_4 (fun a ha => ?_)
    refine wk_astore_n (L' := [(1, .ref q1), (0, .ref b)]) C dL_law_7 rfl (by decide) rfl ?_
    refine wk_new C 5 tyX5 [.null, .null, .null, .int 0, .null, .int 0, .int 0, .int 0, .int 0, .int 0] inlX5 tyX5_ok (by decide +kernel) (by decide +kernel) (by decide +kernel) rfl dfX5 (by omega) (by omega) dL_law_8 (fun q2 => ?_)
    refine wk_dup C dL_law_11 rfl ?_
    refine wk_call (wy := wsX5_init) C [.ref q2] (c_X5_init _ G) gL_law_X5_init rfl (by decide +kernel) (by decide +kernel) (by decide +kernel) rfl (by decide +kernel) (by decide) (by decide) (by omega) (by omega) (Nat.le_of_ble_eq_true rfl) dL_law_12 (fun a2 ha2 => ?_)
    subst ha ha2
    refine wk_astore_n (L' := [(2, .ref (a2 0)), (1, .ref (a 0)), (0, .ref b)]) C dL_law_15 rfl (by decide) rfl ?_
    refine wk_iconst (v := nI 0) C dL_law_16 (by decide) ?_
    refine wk_istore_n (L' := [(3, .int (nI 0)), (2, .ref (a2 0)), (1, .ref (a 0)), (0, .ref b)]) C dL_law_17 rfl (by decide) rfl ?_
    refine wk_ws (ws' := ijw G a ++ imw G a2) rfl ?_
    refine wk_pool (fun hAp => ?_)
    exact law_loop (cl a a2 _ _ (by omega) (by omega) hAp) hX1 hbl1 hbA1 (by omega) (fun M L1 => fin _ _ _ M L1 (by omega) (by omega)) 600 0 (by decide) (by omega) MS Y0 MS_RC MS_RM start_ok
  rw [hxe] at main
  rw [lg_entry_eq]
  exact main _ s.heap [] (lv_entry [.ref b] (n := 4) (Nat.le_of_ble_eq_true rfl)) (fun k q h => by simp at h) ⟨fun i j p q h => by simp at h, fun k q h => by simp at h⟩ va_S.rf
