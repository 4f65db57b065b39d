/-! THE LAW: one turn of its loop, case by case: both sides at the same state, the same answer, the same state behind it -/
abbrev LWL (x : Cn) (G : Gw) (cs sl : Nat) (Q : State → Prop) (b : Nat) (M : Mem) (pc k : Nat) : Prop := WL x G (fun q => (xS x).heap.size ≤ q) 4 cs sl Q M pc [(3, .int (nI k)), (2, .ref (G.2.2.1 232)), (1, .ref (G.2.2.1 224)), (0, .ref b)] []
abbrev LCX (x : Cn) (G : Gw) (cs sl : Nat) : Prop := CX x G (fun q => (xS x).heap.size ≤ q) RL cL_law 4 wsL_law 16 638 cs sl
set_option maxHeartbeats 4000000 in
set_option maxRecDepth 100000 in
theorem law_0 {x : Cn} {G : Gw} {cs sl : Nat} {Q : State → Prop} {b n : Nat} {xs : Nat → Int32} (C : LCX x G cs sl) (hX : va_X b n xs (xS x) (xS x).heap) (hbl : b < (xS x).heap.size) (hbA : ¬ (xS x).heap.size ≤ b) (hn : n < 3000) {M : Mem} {k : Nat} {σ : Sy} (hk : k + 4 ≤ n) (hR : RC M σ) (hM : RM M σ) (hO : OkY σ) (go : ∀ (M2 : Mem) (σ2 : Sy), RC M2 σ2 → RM M2 σ2 → OkY σ2 → LWL x G cs sl Q b M2 601 k) : LWL x G cs sl Q b M 124 k := by
  have h8 := hR.size
  refine wl_aload_n C 2 dL_law_124 rfl rfl ?_
  refine wl_aload_n C 3 dL_law_125 rfl rfl ?_
  refine wl_iload_n C 0 dL_law_126 rfl rfl ?_
  refine wl_iconst (v := nI 1) C dL_law_127 (by decide) ?_
  refine wl_iadd C dL_law_128 ?_
  refine wl_eqi (b := nI (k + 1)) (nI_add k 1) ?_
  refine wl_sld C hX hbl hbA (j := k + 1) (by omega) (by omega) dL_law_129 ?_
  refine wl_aload_n C 3 dL_law_130 rfl rfl ?_
  refine wl_iload_n C 0 dL_law_131 rfl rfl ?_
  refine wl_iconst (v := nI 2) C dL_law_132 (by decide) ?_
  refine wl_iadd C dL_law_133 ?_
  refine wl_eqi (b := nI (k + 2)) (nI_add k 2) ?_
  refine wl_sld C hX hbl hbA (j := k + 2) (by omega) (by omega) dL_law_134 ?_
  refine wl_callVi (i := 224) (n := 2) C [.int (xs (k + 1)), .int (xs (k + 2))] [] (c_X4_box _ G M σ hR hO (xs (k + 1)) (xs (k + 2))) gL_law_X4_box rfl (by decide +kernel) (by decide) (by decide) (kd_lt (k := 4) (by decide) (by decide)) (cell_k (k := 4) (by decide)) rfl rfl rfl (Nat.le_of_ble_eq_true rfl) dL_law_135 (fun r1 M1 h1 => ?_)
  obtain ⟨q1, R1, F1⟩ := h1
  refine wl_aload_n C 1 dL_law_138 rfl rfl ?_
  refine wl_aload_n C 3 dL_law_139 rfl rfl ?_
  refine wl_iload_n C 0 dL_law_140 rfl rfl ?_
  refine wl_iconst (v := nI 1) C dL_law_141 (by decide) ?_
  refine wl_iadd C dL_law_142 ?_
  refine wl_eqi (b := nI (k + 1)) (nI_add k 1) ?_
  refine wl_sld C hX hbl hbA (j := k + 1) (by omega) (by omega) dL_law_143 ?_
  refine wl_aload_n C 3 dL_law_144 rfl rfl ?_
  refine wl_iload_n C 0 dL_law_145 rfl rfl ?_
  refine wl_iconst (v := nI 2) C dL_law_146 (by decide) ?_
  refine wl_iadd C dL_law_147 ?_
  refine wl_eqi (b := nI (k + 2)) (nI_add k 2) ?_
  refine wl_sld C hX hbl hbA (j := k + 2) (by omega) (by omega) dL_law_148 ?_
  refine wl_callVi (i := 232) (n := 2) C [.int (xs (k + 1)), .int (xs (k + 2))] [.int r1] (c_X5_box _ G M1 σ (hM.frC F1) hO (xs (k + 1)) (xs (k + 2))) gL_law_X5_box rfl (by decide +kernel) (by decide) (by decide) (kd_lt (k := 5) (by decide) (by decide)) (cell_k (k := 5) (by decide)) rfl rfl rfl (Nat.le_of_ble_eq_true rfl) dL_law_149 (fun r2 M2 h2 => ?_)
  obtain ⟨q2, R2, F2⟩ := h2
  refine wl_icmp_eq C 601 dL_law_152 (by decide) (fun _ => ?_) (fun cc => absurd (q1.trans q2.symm) cc)
  exact go M2 (boxY σ (xs (k + 1)) (xs (k + 2))).2 (R1.frM F2) R2 (box_ok hO)
set_option maxHeartbeats 4000000 in
set_option maxRecDepth 100000 in
theorem law_1 {x : Cn} {G : Gw} {cs sl : Nat} {Q : State → Prop} {b n : Nat} {xs : Nat → Int32} (C : LCX x G cs sl) (hX : va_X b n xs (xS x) (xS x).heap) (hbl : b < (xS x).heap.size) (hbA : ¬ (xS x).heap.size ≤ b) (hn : n < 3000) {M : Mem} {k : Nat} {σ : Sy} (hk : k + 4 ≤ n) (hR : RC M σ) (hM : RM M σ) (hO : OkY σ) (go : ∀ (M2 : Mem) (σ2 : Sy), RC M2 σ2 → RM M2 σ2 → OkY σ2 → LWL x G cs sl Q b M2 601 k) : LWL x G cs sl Q b M 157 k := by
  have h8 := hR.size
  refine wl_aload_n C 2 dL_law_157 rfl rfl ?_
  refine wl_callVi (i := 224) (n := 0) C [] [] (c_X4_put _ G M σ hR hO) gL_law_X4_put rfl (by decide +kernel) (by decide) (by decide) (kd_lt (k := 4) (by decide) (by decide)) (cell_k (k := 4) (by decide)) rfl rfl rfl (Nat.le_of_ble_eq_true rfl) dL_law_158 (fun r1 M1 h1 => ?_)
  obtain ⟨q1, R1, F1⟩ := h1
  refine wl_aload_n C 1 dL_law_161 rfl rfl ?_
  refine wl_callVi (i := 232) (n := 0) C [] [.int r1] (c_X5_put _ G M1 σ (hM.frC F1) hO) gL_law_X5_put rfl (by decide +kernel) (by decide) (by decide) (kd_lt (k := 5) (by decide) (by decide)) (cell_k (k := 5) (by decide)) rfl rfl rfl (Nat.le_of_ble_eq_true rfl) dL_law_162 (fun r2 M2 h2 => ?_)
  obtain ⟨q2, R2, F2⟩ := h2
  refine wl_icmp_eq C 601 dL_law_165 (by decide) (fun _ => ?_) (fun cc => absurd (q1.trans q2.symm) cc)
  exact go M2 (putY σ).2 (R1.frM F2) R2 (put_okY hO h8)
set_option maxHeartbeats 4000000 in
set_option maxRecDepth 100000 in
theorem law_2 {x : Cn} {G : Gw} {cs sl : Nat} {Q : State → Prop} {b n : Nat} {xs : Nat → Int32} (C : LCX x G cs sl) (hX : va_X b n xs (xS x) (xS x).heap) (hbl : b < (xS x).heap.size) (hbA : ¬ (xS x).heap.size ≤ b) (hn : n < 3000) {M : Mem} {k : Nat} {σ : Sy} (hk : k + 4 ≤ n) (hR : RC M σ) (hM : RM M σ) (hO : OkY σ) (go : ∀ (M2 : Mem) (σ2 : Sy), RC M2 σ2 → RM M2 σ2 → OkY σ2 → LWL x G cs sl Q b M2 601 k) : LWL x G cs sl Q b M 170 k := by
  have h8 := hR.size
  refine wl_aload_n C 2 dL_law_170 rfl rfl ?_
  refine wl_aload_n C 3 dL_law_171 rfl rfl ?_
  refine wl_iload_n C 0 dL_law_172 rfl rfl ?_
  refine wl_iconst (v := nI 1) C dL_law_173 (by decide) ?_
  refine wl_iadd C dL_law_174 ?_
  refine wl_eqi (b := nI (k + 1)) (nI_add k 1) ?_
  refine wl_sld C hX hbl hbA (j := k + 1) (by omega) (by omega) dL_law_175 ?_
  refine wl_callVi (i := 224) (n := 1) C [.int (xs (k + 1))] [] (c_X4_remove _ G M σ hR hO (xs (k + 1))) gL_law_X4_remove rfl (by decide +kernel) (by decide) (by decide) (kd_lt (k := 4) (by decide) (by decide)) (cell_k (k := 4) (by decide)) rfl rfl rfl (Nat.le_of_ble_eq_true rfl) dL_law_176 (fun r1 M1 h1 => ?_)
  obtain ⟨q1, R1, F1⟩ := h1
  refine wl_aload_n C 1 dL_law_179 rfl rfl ?_
  refine wl_aload_n C 3 dL_law_180 rfl rfl ?_
  refine wl_iload_n C 0 dL_law_181 rfl rfl ?_
  refine wl_iconst (v := nI 1) C dL_law_182 (by decide) ?_
  refine wl_iadd C dL_law_183 ?_
  refine wl_eqi (b := nI (k + 1)) (nI_add k 1) ?_
  refine wl_sld C hX hbl hbA (j := k + 1) (by omega) (by omega) dL_law_184 ?_
  refine wl_callVi (i := 232) (n := 1) C [.int (xs (k + 1))] [.int r1] (c_X5_remove _ G M1 σ (hM.frC F1) hO (xs (k + 1))) gL_law_X5_remove rfl (by decide +kernel) (by decide) (by decide) (kd_lt (k := 5) (by decide) (by decide)) (cell_k (k := 5) (by decide)) rfl rfl rfl (Nat.le_of_ble_eq_true rfl) dL_law_185 (fun r2 M2 h2 => ?_)
  obtain ⟨q2, R2, F2⟩ := h2
  refine wl_icmp_eq C 601 dL_law_188 (by decide) (fun _ => ?_) (fun cc => absurd (q1.trans q2.symm) cc)
  exact go M2 (remY σ (xs (k + 1))).2 (R1.frM F2) R2 (rem_ok hO h8)
set_option maxHeartbeats 4000000 in
set_option maxRecDepth 100000 in
theorem law_3 {x : Cn} {G : Gw} {cs sl : Nat} {Q : State → Prop} {b n : Nat} {xs : Nat → Int32} (C : LCX x G cs sl) (hX : va_X b n xs (xS x) (xS x).heap) (hbl : b < (xS x).heap.size) (hbA : ¬ (xS x).heap.size ≤ b) (hn : n < 3000) {M : Mem} {k : Nat} {σ : Sy} (hk : k + 4 ≤ n) (hR : RC M σ) (hM : RM M σ) (hO : OkY σ) (go : ∀ (M2 : Mem) (σ2 : Sy), RC M2 σ2 → RM M2 σ2 → OkY σ2 → LWL x G cs sl Q b M2 601 k) : LWL x G cs sl Q b M 193 k := by
  have h8 := hR.size
  refine wl_aload_n C 2 dL_law_193 rfl rfl ?_
  refine wl_callVi (i := 224) (n := 0) C [] [] (c_X4_empty _ G M σ hR hO) gL_law_X4_empty rfl (by decide +kernel) (by decide) (by decide) (kd_lt (k := 4) (by decide) (by decide)) (cell_k (k := 4) (by decide)) rfl rfl rfl (Nat.le_of_ble_eq_true rfl) dL_law_194 (fun r1 M1 h1 => ?_)
  obtain ⟨q1, R1, F1⟩ := h1
  refine wl_aload_n C 1 dL_law_197 rfl rfl ?_
  refine wl_callVi (i := 232) (n := 0) C [] [.int r1] (c_X5_empty _ G M1 σ (hM.frC F1) hO) gL_law_X5_empty rfl (by decide +kernel) (by decide) (by decide) (kd_lt (k := 5) (by decide) (by decide)) (cell_k (k := 5) (by decide)) rfl rfl rfl (Nat.le_of_ble_eq_true rfl) dL_law_198 (fun r2 M2 h2 => ?_)
  obtain ⟨q2, R2, F2⟩ := h2
  refine wl_icmp_eq C 601 dL_law_201 (by decide) (fun _ => ?_) (fun cc => absurd (q1.trans q2.symm) cc)
  exact go M2 (empY σ).2 (R1.frM F2) R2 (emp_ok hO)
set_option maxHeartbeats 4000000 in
set_option maxRecDepth 100000 in
theorem law_4 {x : Cn} {G : Gw} {cs sl : Nat} {Q : State → Prop} {b n : Nat} {xs : Nat → Int32} (C : LCX x G cs sl) (hX : va_X b n xs (xS x) (xS x).heap) (hbl : b < (xS x).heap.size) (hbA : ¬ (xS x).heap.size ≤ b) (hn : n < 3000) {M : Mem} {k : Nat} {σ : Sy} (hk : k + 4 ≤ n) (hR : RC M σ) (hM : RM M σ) (hO : OkY σ) (go : ∀ (M2 : Mem) (σ2 : Sy), RC M2 σ2 → RM M2 σ2 → OkY σ2 → LWL x G cs sl Q b M2 601 k) : LWL x G cs sl Q b M 206 k := by
  have h8 := hR.size
  refine wl_aload_n C 2 dL_law_206 rfl rfl ?_
  refine wl_aload_n C 3 dL_law_207 rfl rfl ?_
  refine wl_iload_n C 0 dL_law_208 rfl rfl ?_
  refine wl_iconst (v := nI 1) C dL_law_209 (by decide) ?_
  refine wl_iadd C dL_law_210 ?_
  refine wl_eqi (b := nI (k + 1)) (nI_add k 1) ?_
  refine wl_sld C hX hbl hbA (j := k + 1) (by omega) (by omega) dL_law_211 ?_
  refine wl_aload_n C 3 dL_law_212 rfl rfl ?_
  refine wl_iload_n C 0 dL_law_213 rfl rfl ?_
  refine wl_iconst (v := nI 2) C dL_law_214 (by decide) ?_
  refine wl_iadd C dL_law_215 ?_
  refine wl_eqi (b := nI (k + 2)) (nI_add k 2) ?_
  refine wl_sld C hX hbl hbA (j := k + 2) (by omega) (by omega) dL_law_216 ?_
  refine wl_aload_n C 3 dL_law_217 rfl rfl ?_
  refine wl_iload_n C 0 dL_law_218 rfl rfl ?_
  refine wl_iconst (v := nI 3) C dL_law_219 (by decide) ?_
  refine wl_iadd C dL_law_220 ?_
  refine wl_eqi (b := nI (k + 3)) (nI_add k 3) ?_
  refine wl_sld C hX hbl hbA (j := k + 3) (by omega) (by omega) dL_law_221 ?_
  refine wl_callVi (i := 224) (n := 3) C [.int (xs (k + 1)), .int (xs (k + 2)), .int (xs (k + 3))] [] (c_X4_slide _ G M σ hR hO (xs (k + 1)) (xs (k + 2)) (xs (k + 3))) gL_law_X4_slide rfl (by decide +kernel) (by decide) (by decide) (kd_lt (k := 4) (by decide) (by decide)) (cell_k (k := 4) (by decide)) rfl rfl rfl (Nat.le_of_ble_eq_true rfl) dL_law_222 (fun r1 M1 h1 => ?_)
  obtain ⟨q1, R1, F1⟩ := h1
  refine wl_aload_n C 1 dL_law_225 rfl rfl ?_
  refine wl_aload_n C 3 dL_law_226 rfl rfl ?_
  refine wl_iload_n C 0 dL_law_227 rfl rfl ?_
  refine wl_iconst (v := nI 1) C dL_law_228 (by decide) ?_
  refine wl_iadd C dL_law_229 ?_
  refine wl_eqi (b := nI (k + 1)) (nI_add k 1) ?_
  refine wl_sld C hX hbl hbA (j := k + 1) (by omega) (by omega) dL_law_230 ?_
  refine wl_aload_n C 3 dL_law_231 rfl rfl ?_
  refine wl_iload_n C 0 dL_law_232 rfl rfl ?_
  refine wl_iconst (v := nI 2) C dL_law_233 (by decide) ?_
  refine wl_iadd C dL_law_234 ?_
  refine wl_eqi (b := nI (k + 2)) (nI_add k 2) ?_
  refine wl_sld C hX hbl hbA (j := k + 2) (by omega) (by omega) dL_law_235 ?_
  refine wl_aload_n C 3 dL_law_236 rfl rfl ?_
  refine wl_iload_n C 0 dL_law_237 rfl rfl ?_
  refine wl_iconst (v := nI 3) C dL_law_238 (by decide) ?_
  refine wl_iadd C dL_law_239 ?_
  refine wl_eqi (b := nI (k + 3)) (nI_add k 3) ?_
  refine wl_sld C hX hbl hbA (j := k + 3) (by omega) (by omega) dL_law_240 ?_
  refine wl_callVi (i := 232) (n := 3) C [.int (xs (k + 1)), .int (xs (k + 2)), .int (xs (k + 3))] [.int r1] (c_X5_slide _ G M1 σ (hM.frC F1) hO (xs (k + 1)) (xs (k + 2)) (xs (k + 3))) gL_law_X5_slide rfl (by decide +kernel) (by decide) (by decide) (kd_lt (k := 5) (by decide) (by decide)) (cell_k (k := 5) (by decide)) rfl rfl rfl (Nat.le_of_ble_eq_true rfl) dL_law_241 (fun r2 M2 h2 => ?_)
  obtain ⟨q2, R2, F2⟩ := h2
  refine wl_icmp_eq C 601 dL_law_244 (by decide) (fun _ => ?_) (fun cc => absurd (q1.trans q2.symm) cc)
  exact go M2 (sliY σ (xs (k + 1)) (xs (k + 2)) (xs (k + 3))).2 (R1.frM F2) R2 (sli_ok hO h8)
set_option maxHeartbeats 4000000 in
set_option maxRecDepth 100000 in
theorem law_5 {x : Cn} {G : Gw} {cs sl : Nat} {Q : State → Prop} {b n : Nat} {xs : Nat → Int32} (C : LCX x G cs sl) (hX : va_X b n xs (xS x) (xS x).heap) (hbl : b < (xS x).heap.size) (hbA : ¬ (xS x).heap.size ≤ b) (hn : n < 3000) {M : Mem} {k : Nat} {σ : Sy} (hk : k + 4 ≤ n) (hR : RC M σ) (hM : RM M σ) (hO : OkY σ) (go : ∀ (M2 : Mem) (σ2 : Sy), RC M2 σ2 → RM M2 σ2 → OkY σ2 → LWL x G cs sl Q b M2 601 k) : LWL x G cs sl Q b M 249 k := by
  have h8 := hR.size
  refine wl_aload_n C 2 dL_law_249 rfl rfl ?_
  refine wl_aload_n C 3 dL_law_250 rfl rfl ?_
  refine wl_iload_n C 0 dL_law_251 rfl rfl ?_
  refine wl_iconst (v := nI 1) C dL_law_252 (by decide) ?_
  refine wl_iadd C dL_law_253 ?_
  refine wl_eqi (b := nI (k + 1)) (nI_add k 1) ?_
  refine wl_sld C hX hbl hbA (j := k + 1) (by omega) (by omega) dL_law_254 ?_
  refine wl_callVi (i := 224) (n := 1) C [.int (xs (k + 1))] [] (c_X4_turn _ G M σ hR hO (xs (k + 1))) gL_law_X4_turn rfl (by decide +kernel) (by decide) (by decide) (kd_lt (k := 4) (by decide) (by decide)) (cell_k (k := 4) (by decide)) rfl rfl rfl (Nat.le_of_ble_eq_true rfl) dL_law_255 (fun r1 M1 h1 => ?_)
  obtain ⟨q1, R1, F1⟩ := h1
  refine wl_aload_n C 1 dL_law_258 rfl rfl ?_
  refine wl_aload_n C 3 dL_law_259 rfl rfl ?_
  refine wl_iload_n C 0 dL_law_260 rfl rfl ?_
  refine wl_iconst (v := nI 1) C dL_law_261 (by decide) ?_
  refine wl_iadd C dL_law_262 ?_
  refine wl_eqi (b := nI (k + 1)) (nI_add k 1) ?_
  refine wl_sld C hX hbl hbA (j := k + 1) (by omega) (by omega) dL_law_263 ?_
  refine wl_callVi (i := 232) (n := 1) C [.int (xs (k + 1))] [.int r1] (c_X5_turn _ G M1 σ (hM.frC F1) hO (xs (k + 1))) gL_law_X5_turn rfl (by decide +kernel) (by decide) (by decide) (kd_lt (k := 5) (by decide) (by decide)) (cell_k (k := 5) (by decide)) rfl rfl rfl (Nat.le_of_ble_eq_true rfl) dL_law_264 (fun r2 M2 h2 => ?_)
  obtain ⟨q2, R2, F2⟩ := h2
  refine wl_icmp_eq C 601 dL_law_267 (by decide) (fun _ => ?_) (fun cc => absurd (q1.trans q2.symm) cc)
  exact go M2 (turY σ (xs (k + 1))).2 (R1.frM F2) R2 (tur_ok hO h8)
set_option maxHeartbeats 4000000 in
set_option maxRecDepth 100000 in
theorem law_6 {x : Cn} {G : Gw} {cs sl : Nat} {Q : State → Prop} {b n : Nat} {xs : Nat → Int32} (C : LCX x G cs sl) (hX : va_X b n xs (xS x) (xS x).heap) (hbl : b < (xS x).heap.size) (hbA : ¬ (xS x).heap.size ≤ b) (hn : n < 3000) {M : Mem} {k : Nat} {σ : Sy} (hk : k + 4 ≤ n) (hR : RC M σ) (hM : RM M σ) (hO : OkY σ) (go : ∀ (M2 : Mem) (σ2 : Sy), RC M2 σ2 → RM M2 σ2 → OkY σ2 → LWL x G cs sl Q b M2 601 k) : LWL x G cs sl Q b M 272 k := by
  have h8 := hR.size
  refine wl_aload_n C 2 dL_law_272 rfl rfl ?_
  refine wl_aload_n C 3 dL_law_273 rfl rfl ?_
  refine wl_iload_n C 0 dL_law_274 rfl rfl ?_
  refine wl_iconst (v := nI 1) C dL_law_275 (by decide) ?_
  refine wl_iadd C dL_law_276 ?_
  refine wl_eqi (b := nI (k + 1)) (nI_add k 1) ?_
  refine wl_sld C hX hbl hbA (j := k + 1) (by omega) (by omega) dL_law_277 ?_
  refine wl_callVi (i := 224) (n := 1) C [.int (xs (k + 1))] [] (c_X4_settle _ G M σ hR hO (xs (k + 1))) gL_law_X4_settle rfl (by decide +kernel) (by decide) (by decide) (kd_lt (k := 4) (by decide) (by decide)) (cell_k (k := 4) (by decide)) rfl rfl rfl (Nat.le_of_ble_eq_true rfl) dL_law_278 (fun r1 M1 h1 => ?_)
  obtain ⟨q1, R1, F1⟩ := h1
  refine wl_aload_n C 1 dL_law_281 rfl rfl ?_
  refine wl_aload_n C 3 dL_law_282 rfl rfl ?_
  refine wl_iload_n C 0 dL_law_283 rfl rfl ?_
  refine wl_iconst (v := nI 1) C dL_law_284 (by decide) ?_
  refine wl_iadd C dL_law_285 ?_
  refine wl_eqi (b := nI (k + 1)) (nI_add k 1) ?_
  refine wl_sld C hX hbl hbA (j := k + 1) (by omega) (by omega) dL_law_286 ?_
  refine wl_callVi (i := 232) (n := 1) C [.int (xs (k + 1))] [.int r1] (c_X5_settle _ G M1 σ (hM.frC F1) hO (xs (k + 1))) gL_law_X5_settle rfl (by decide +kernel) (by decide) (by decide) (kd_lt (k := 5) (by decide) (by decide)) (cell_k (k := 5) (by decide)) rfl rfl rfl (Nat.le_of_ble_eq_true rfl) dL_law_287 (fun r2 M2 h2 => ?_)
  obtain ⟨q2, R2, F2⟩ := h2
  refine wl_icmp_eq C 601 dL_law_290 (by decide) (fun _ => ?_) (fun cc => absurd (q1.trans q2.symm) cc)
  exact go M2 (setY σ (xs (k + 1))).2 (R1.frM F2) R2 (set_ok hO h8)
set_option maxHeartbeats 4000000 in
set_option maxRecDepth 100000 in
theorem law_7 {x : Cn} {G : Gw} {cs sl : Nat} {Q : State → Prop} {b n : Nat} {xs : Nat → Int32} (C : LCX x G cs sl) (hX : va_X b n xs (xS x) (xS x).heap) (hbl : b < (xS x).heap.size) (hbA : ¬ (xS x).heap.size ≤ b) (hn : n < 3000) {M : Mem} {k : Nat} {σ : Sy} (hk : k + 4 ≤ n) (hR : RC M σ) (hM : RM M σ) (hO : OkY σ) (go : ∀ (M2 : Mem) (σ2 : Sy), RC M2 σ2 → RM M2 σ2 → OkY σ2 → LWL x G cs sl Q b M2 601 k) : LWL x G cs sl Q b M 295 k := by
  have h8 := hR.size
  refine wl_aload_n C 2 dL_law_295 rfl rfl ?_
  refine wl_aload_n C 3 dL_law_296 rfl rfl ?_
  refine wl_iload_n C 0 dL_law_297 rfl rfl ?_
  refine wl_iconst (v := nI 1) C dL_law_298 (by decide) ?_
  refine wl_iadd C dL_law_299 ?_
  refine wl_eqi (b := nI (k + 1)) (nI_add k 1) ?_
  refine wl_sld C hX hbl hbA (j := k + 1) (by omega) (by omega) dL_law_300 ?_
  refine wl_aload_n C 3 dL_law_301 rfl rfl ?_
  refine wl_iload_n C 0 dL_law_302 rfl rfl ?_
  refine wl_iconst (v := nI 2) C dL_law_303 (by decide) ?_
  refine wl_iadd C dL_law_304 ?_
  refine wl_eqi (b := nI (k + 2)) (nI_add k 2) ?_
  refine wl_sld C hX hbl hbA (j := k + 2) (by omega) (by omega) dL_law_305 ?_
  refine wl_callVi (i := 224) (n := 2) C [.int (xs (k + 1)), .int (xs (k + 2))] [] (c_X4_bodyOf _ G M σ hR hO (xs (k + 1)) (xs (k + 2))) gL_law_X4_bodyOf rfl (by decide +kernel) (by decide) (by decide) (kd_lt (k := 4) (by decide) (by decide)) (cell_k (k := 4) (by decide)) rfl rfl rfl (Nat.le_of_ble_eq_true rfl) dL_law_306 (fun r1 M1 h1 => ?_)
  obtain ⟨q1, R1, F1⟩ := h1
  refine wl_aload_n C 1 dL_law_309 rfl rfl ?_
  refine wl_aload_n C 3 dL_law_310 rfl rfl ?_
  refine wl_iload_n C 0 dL_law_311 rfl rfl ?_
  refine wl_iconst (v := nI 1) C dL_law_312 (by decide) ?_
  refine wl_iadd C dL_law_313 ?_
  refine wl_eqi (b := nI (k + 1)) (nI_add k 1) ?_
  refine wl_sld C hX hbl hbA (j := k + 1) (by omega) (by omega) dL_law_314 ?_
  refine wl_aload_n C 3 dL_law_315 rfl rfl ?_
  refine wl_iload_n C 0 dL_law_316 rfl rfl ?_
  refine wl_iconst (v := nI 2) C dL_law_317 (by decide) ?_
  refine wl_iadd C dL_law_318 ?_
  refine wl_eqi (b := nI (k + 2)) (nI_add k 2) ?_
  refine wl_sld C hX hbl hbA (j := k + 2) (by omega) (by omega) dL_law_319 ?_
  refine wl_callVi (i := 232) (n := 2) C [.int (xs (k + 1)), .int (xs (k + 2))] [.int r1] (c_X5_bodyOf _ G M1 σ (hM.frC F1) hO (xs (k + 1)) (xs (k + 2))) gL_law_X5_bodyOf rfl (by decide +kernel) (by decide) (by decide) (kd_lt (k := 5) (by decide) (by decide)) (cell_k (k := 5) (by decide)) rfl rfl rfl (Nat.le_of_ble_eq_true rfl) dL_law_320 (fun r2 M2 h2 => ?_)
  obtain ⟨q2, R2, F2⟩ := h2
  refine wl_icmp_eq C 601 dL_law_323 (by decide) (fun _ => ?_) (fun cc => absurd (q1.trans q2.symm) cc)
  exact go M2 σ (R1.frM F2) R2 hO
set_option maxHeartbeats 4000000 in
set_option maxRecDepth 100000 in
theorem law_8 {x : Cn} {G : Gw} {cs sl : Nat} {Q : State → Prop} {b n : Nat} {xs : Nat → Int32} (C : LCX x G cs sl) (hX : va_X b n xs (xS x) (xS x).heap) (hbl : b < (xS x).heap.size) (hbA : ¬ (xS x).heap.size ≤ b) (hn : n < 3000) {M : Mem} {k : Nat} {σ : Sy} (hk : k + 4 ≤ n) (hR : RC M σ) (hM : RM M σ) (hO : OkY σ) (go : ∀ (M2 : Mem) (σ2 : Sy), RC M2 σ2 → RM M2 σ2 → OkY σ2 → LWL x G cs sl Q b M2 601 k) : LWL x G cs sl Q b M 328 k := by
  have h8 := hR.size
  refine wl_aload_n C 2 dL_law_328 rfl rfl ?_
  refine wl_aload_n C 3 dL_law_329 rfl rfl ?_
  refine wl_iload_n C 0 dL_law_330 rfl rfl ?_
  refine wl_iconst (v := nI 1) C dL_law_331 (by decide) ?_
  refine wl_iadd C dL_law_332 ?_
  refine wl_eqi (b := nI (k + 1)) (nI_add k 1) ?_
  refine wl_sld C hX hbl hbA (j := k + 1) (by omega) (by omega) dL_law_333 ?_
  refine wl_aload_n C 3 dL_law_334 rfl rfl ?_
  refine wl_iload_n C 0 dL_law_335 rfl rfl ?_
  refine wl_iconst (v := nI 2) C dL_law_336 (by decide) ?_
  refine wl_iadd C dL_law_337 ?_
  refine wl_eqi (b := nI (k + 2)) (nI_add k 2) ?_
  refine wl_sld C hX hbl hbA (j := k + 2) (by omega) (by omega) dL_law_338 ?_
  refine wl_aload_n C 3 dL_law_339 rfl rfl ?_
  refine wl_iload_n C 0 dL_law_340 rfl rfl ?_
  refine wl_iconst (v := nI 3) C dL_law_341 (by decide) ?_
  refine wl_iadd C dL_law_342 ?_
  refine wl_eqi (b := nI (k + 3)) (nI_add k 3) ?_
  refine wl_sld C hX hbl hbA (j := k + 3) (by omega) (by omega) dL_law_343 ?_
  refine wl_callVp (i := 224) (n := 3) C [.int (xs (k + 1)), .int (xs (k + 2)), .int (xs (k + 3))] [] (c_X4_parts _ G M σ hR hO (xs (k + 1)) (xs (k + 2)) (xs (k + 3))) gL_law_X4_parts rfl (by decide +kernel) (by decide) (by decide) (kd_lt (k := 4) (by decide) (by decide)) (cell_k (k := 4) (by decide)) rfl rfl rfl (Nat.le_of_ble_eq_true rfl) dL_law_344 ?_
  refine wl_aload_n C 1 dL_law_347 rfl rfl ?_
  refine wl_aload_n C 3 dL_law_348 rfl rfl ?_
  refine wl_iload_n C 0 dL_law_349 rfl rfl ?_
  refine wl_iconst (v := nI 1) C dL_law_350 (by decide) ?_
  refine wl_iadd C dL_law_351 ?_
  refine wl_eqi (b := nI (k + 1)) (nI_add k 1) ?_
  refine wl_sld C hX hbl hbA (j := k + 1) (by omega) (by omega) dL_law_352 ?_
  refine wl_aload_n C 3 dL_law_353 rfl rfl ?_
  refine wl_iload_n C 0 dL_law_354 rfl rfl ?_
  refine wl_iconst (v := nI 2) C dL_law_355 (by decide) ?_
  refine wl_iadd C dL_law_356 ?_
  refine wl_eqi (b := nI (k + 2)) (nI_add k 2) ?_
  refine wl_sld C hX hbl hbA (j := k + 2) (by omega) (by omega) dL_law_357 ?_
  refine wl_aload_n C 3 dL_law_358 rfl rfl ?_
  refine wl_iload_n C 0 dL_law_359 rfl rfl ?_
  refine wl_iconst (v := nI 3) C dL_law_360 (by decide) ?_
  refine wl_iadd C dL_law_361 ?_
  refine wl_eqi (b := nI (k + 3)) (nI_add k 3) ?_
  refine wl_sld C hX hbl hbA (j := k + 3) (by omega) (by omega) dL_law_362 ?_
  refine wl_callVp (i := 232) (n := 3) C [.int (xs (k + 1)), .int (xs (k + 2)), .int (xs (k + 3))] [.int (parY σ (xs (k + 1)) (xs (k + 2)) (xs (k + 3)))] (c_X5_parts _ G M σ hM hO (xs (k + 1)) (xs (k + 2)) (xs (k + 3))) gL_law_X5_parts rfl (by decide +kernel) (by decide) (by decide) (kd_lt (k := 5) (by decide) (by decide)) (cell_k (k := 5) (by decide)) rfl rfl rfl (Nat.le_of_ble_eq_true rfl) dL_law_363 ?_
  refine wl_icmp_eq C 601 dL_law_366 (by decide) (fun _ => ?_) (fun cc => absurd rfl cc)
  exact go M σ hR hM hO
set_option maxHeartbeats 4000000 in
set_option maxRecDepth 100000 in
theorem law_9 {x : Cn} {G : Gw} {cs sl : Nat} {Q : State → Prop} {b n : Nat} {xs : Nat → Int32} (C : LCX x G cs sl) (hX : va_X b n xs (xS x) (xS x).heap) (hbl : b < (xS x).heap.size) (hbA : ¬ (xS x).heap.size ≤ b) (hn : n < 3000) {M : Mem} {k : Nat} {σ : Sy} (hk : k + 4 ≤ n) (hR : RC M σ) (hM : RM M σ) (hO : OkY σ) (go : ∀ (M2 : Mem) (σ2 : Sy), RC M2 σ2 → RM M2 σ2 → OkY σ2 → LWL x G cs sl Q b M2 601 k) : LWL x G cs sl Q b M 371 k := by
  have h8 := hR.size
  refine wl_aload_n C 2 dL_law_371 rfl rfl ?_
  refine wl_aload_n C 3 dL_law_372 rfl rfl ?_
  refine wl_iload_n C 0 dL_law_373 rfl rfl ?_
  refine wl_iconst (v := nI 1) C dL_law_374 (by decide) ?_
  refine wl_iadd C dL_law_375 ?_
  refine wl_eqi (b := nI (k + 1)) (nI_add k 1) ?_
  refine wl_sld C hX hbl hbA (j := k + 1) (by omega) (by omega) dL_law_376 ?_
  refine wl_aload_n C 3 dL_law_377 rfl rfl ?_
  refine wl_iload_n C 0 dL_law_378 rfl rfl ?_
  refine wl_iconst (v := nI 2) C dL_law_379 (by decide) ?_
  refine wl_iadd C dL_law_380 ?_
  refine wl_eqi (b := nI (k + 2)) (nI_add k 2) ?_
  refine wl_sld C hX hbl hbA (j := k + 2) (by omega) (by omega) dL_law_381 ?_
  refine wl_aload_n C 3 dL_law_382 rfl rfl ?_
  refine wl_iload_n C 0 dL_law_383 rfl rfl ?_
  refine wl_iconst (v := nI 3) C dL_law_384 (by decide) ?_
  refine wl_iadd C dL_law_385 ?_
  refine wl_eqi (b := nI (k + 3)) (nI_add k 3) ?_
  refine wl_sld C hX hbl hbA (j := k + 3) (by omega) (by omega) dL_law_386 ?_
  refine wl_callVi (i := 224) (n := 3) C [.int (xs (k + 1)), .int (xs (k + 2)), .int (xs (k + 3))] [] (c_X4_way _ G M σ hR hO (xs (k + 1)) (xs (k + 2)) (xs (k + 3))) gL_law_X4_way rfl (by decide +kernel) (by decide) (by decide) (kd_lt (k := 4) (by decide) (by decide)) (cell_k (k := 4) (by decide)) rfl rfl rfl (Nat.le_of_ble_eq_true rfl) dL_law_387 (fun r1 M1 h1 => ?_)
  obtain ⟨q1, R1, F1⟩ := h1
  refine wl_aload_n C 1 dL_law_390 rfl rfl ?_
  refine wl_aload_n C 3 dL_law_391 rfl rfl ?_
  refine wl_iload_n C 0 dL_law_392 rfl rfl ?_
  refine wl_iconst (v := nI 1) C dL_law_393 (by decide) ?_
  refine wl_iadd C dL_law_394 ?_
  refine wl_eqi (b := nI (k + 1)) (nI_add k 1) ?_
  refine wl_sld C hX hbl hbA (j := k + 1) (by omega) (by omega) dL_law_395 ?_
  refine wl_aload_n C 3 dL_law_396 rfl rfl ?_
  refine wl_iload_n C 0 dL_law_397 rfl rfl ?_
  refine wl_iconst (v := nI 2) C dL_law_398 (by decide) ?_
  refine wl_iadd C dL_law_399 ?_
  refine wl_eqi (b := nI (k + 2)) (nI_add k 2) ?_
  refine wl_sld C hX hbl hbA (j := k + 2) (by omega) (by omega) dL_law_400 ?_
  refine wl_aload_n C 3 dL_law_401 rfl rfl ?_
  refine wl_iload_n C 0 dL_law_402 rfl rfl ?_
  refine wl_iconst (v := nI 3) C dL_law_403 (by decide) ?_
  refine wl_iadd C dL_law_404 ?_
  refine wl_eqi (b := nI (k + 3)) (nI_add k 3) ?_
  refine wl_sld C hX hbl hbA (j := k + 3) (by omega) (by omega) dL_law_405 ?_
  refine wl_callVi (i := 232) (n := 3) C [.int (xs (k + 1)), .int (xs (k + 2)), .int (xs (k + 3))] [.int r1] (c_X5_way _ G M1 σ (hM.frC F1) hO (xs (k + 1)) (xs (k + 2)) (xs (k + 3))) gL_law_X5_way rfl (by decide +kernel) (by decide) (by decide) (kd_lt (k := 5) (by decide) (by decide)) (cell_k (k := 5) (by decide)) rfl rfl rfl (Nat.le_of_ble_eq_true rfl) dL_law_406 (fun r2 M2 h2 => ?_)
  obtain ⟨q2, R2, F2⟩ := h2
  refine wl_icmp_eq C 601 dL_law_409 (by decide) (fun _ => ?_) (fun cc => absurd (q1.trans q2.symm) cc)
  exact go M2 σ (R1.frM F2) R2 hO
set_option maxHeartbeats 4000000 in
set_option maxRecDepth 100000 in
theorem law_10 {x : Cn} {G : Gw} {cs sl : Nat} {Q : State → Prop} {b n : Nat} {xs : Nat → Int32} (C : LCX x G cs sl) (hX : va_X b n xs (xS x) (xS x).heap) (hbl : b < (xS x).heap.size) (hbA : ¬ (xS x).heap.size ≤ b) (hn : n < 3000) {M : Mem} {k : Nat} {σ : Sy} (hk : k + 4 ≤ n) (hR : RC M σ) (hM : RM M σ) (hO : OkY σ) (go : ∀ (M2 : Mem) (σ2 : Sy), RC M2 σ2 → RM M2 σ2 → OkY σ2 → LWL x G cs sl Q b M2 601 k) : LWL x G cs sl Q b M 414 k := by
  have h8 := hR.size
  refine wl_aload_n C 2 dL_law_414 rfl rfl ?_
  refine wl_aload_n C 3 dL_law_415 rfl rfl ?_
  refine wl_iload_n C 0 dL_law_416 rfl rfl ?_
  refine wl_iconst (v := nI 1) C dL_law_417 (by decide) ?_
  refine wl_iadd C dL_law_418 ?_
  refine wl_eqi (b := nI (k + 1)) (nI_add k 1) ?_
  refine wl_sld C hX hbl hbA (j := k + 1) (by omega) (by omega) dL_law_419 ?_
  refine wl_callVi (i := 224) (n := 1) C [.int (xs (k + 1))] [] (c_X4_bodies _ G M σ hR hO (xs (k + 1))) gL_law_X4_bodies rfl (by decide +kernel) (by decide) (by decide) (kd_lt (k := 4) (by decide) (by decide)) (cell_k (k := 4) (by decide)) rfl rfl rfl (Nat.le_of_ble_eq_true rfl) dL_law_420 (fun r1 M1 h1 => ?_)
  obtain ⟨q1, R1, F1⟩ := h1
  refine wl_aload_n C 1 dL_law_423 rfl rfl ?_
  refine wl_aload_n C 3 dL_law_424 rfl rfl ?_
  refine wl_iload_n C 0 dL_law_425 rfl rfl ?_
  refine wl_iconst (v := nI 1) C dL_law_426 (by decide) ?_
  refine wl_iadd C dL_law_427 ?_
  refine wl_eqi (b := nI (k + 1)) (nI_add k 1) ?_
  refine wl_sld C hX hbl hbA (j := k + 1) (by omega) (by omega) dL_law_428 ?_
  refine wl_callVp (i := 232) (n := 1) C [.int (xs (k + 1))] [.int r1] (c_X5_bodies _ G M1 σ (hM.frC F1) hO (xs (k + 1))) gL_law_X5_bodies rfl (by decide +kernel) (by decide) (by decide) (kd_lt (k := 5) (by decide) (by decide)) (cell_k (k := 5) (by decide)) rfl rfl rfl (Nat.le_of_ble_eq_true rfl) dL_law_429 ?_
  refine wl_icmp_eq C 601 dL_law_432 (by decide) (fun _ => ?_) (fun cc => absurd q1 cc)
  exact go M1 σ R1 (hM.frC F1) hO
set_option maxHeartbeats 4000000 in
set_option maxRecDepth 100000 in
theorem law_11 {x : Cn} {G : Gw} {cs sl : Nat} {Q : State → Prop} {b n : Nat} {xs : Nat → Int32} (C : LCX x G cs sl) (hX : va_X b n xs (xS x) (xS x).heap) (hbl : b < (xS x).heap.size) (hbA : ¬ (xS x).heap.size ≤ b) (hn : n < 3000) {M : Mem} {k : Nat} {σ : Sy} (hk : k + 4 ≤ n) (hR : RC M σ) (hM : RM M σ) (hO : OkY σ) (go : ∀ (M2 : Mem) (σ2 : Sy), RC M2 σ2 → RM M2 σ2 → OkY σ2 → LWL x G cs sl Q b M2 601 k) : LWL x G cs sl Q b M 437 k := by
  have h8 := hR.size
  refine wl_aload_n C 2 dL_law_437 rfl rfl ?_
  refine wl_aload_n C 3 dL_law_438 rfl rfl ?_
  refine wl_iload_n C 0 dL_law_439 rfl rfl ?_
  refine wl_iconst (v := nI 1) C dL_law_440 (by decide) ?_
  refine wl_iadd C dL_law_441 ?_
  refine wl_eqi (b := nI (k + 1)) (nI_add k 1) ?_
  refine wl_sld C hX hbl hbA (j := k + 1) (by omega) (by omega) dL_law_442 ?_
  refine wl_callVp (i := 224) (n := 1) C [.int (xs (k + 1))] [] (c_X4_group _ G M σ hR hO (xs (k + 1))) gL_law_X4_group rfl (by decide +kernel) (by decide) (by decide) (kd_lt (k := 4) (by decide) (by decide)) (cell_k (k := 4) (by decide)) rfl rfl rfl (Nat.le_of_ble_eq_true rfl) dL_law_443 ?_
  refine wl_aload_n C 1 dL_law_446 rfl rfl ?_
  refine wl_aload_n C 3 dL_law_447 rfl rfl ?_
  refine wl_iload_n C 0 dL_law_448 rfl rfl ?_
  refine wl_iconst (v := nI 1) C dL_law_449 (by decide) ?_
  refine wl_iadd C dL_law_450 ?_
  refine wl_eqi (b := nI (k + 1)) (nI_add k 1) ?_
  refine wl_sld C hX hbl hbA (j := k + 1) (by omega) (by omega) dL_law_451 ?_
  refine wl_callVp (i := 232) (n := 1) C [.int (xs (k + 1))] [.int (groY σ (xs (k + 1)))] (c_X5_group _ G M σ hM hO (xs (k + 1))) gL_law_X5_group rfl (by decide +kernel) (by decide) (by decide) (kd_lt (k := 5) (by decide) (by decide)) (cell_k (k := 5) (by decide)) rfl rfl rfl (Nat.le_of_ble_eq_true rfl) dL_law_452 ?_
  refine wl_icmp_eq C 601 dL_law_455 (by decide) (fun _ => ?_) (fun cc => absurd rfl cc)
  exact go M σ hR hM hO
set_option maxHeartbeats 4000000 in
set_option maxRecDepth 100000 in
theorem law_12 {x : Cn} {G : Gw} {cs sl : Nat} {Q : State → Prop} {b n : Nat} {xs : Nat → Int32} (C : LCX x G cs sl) (hX : va_X b n xs (xS x) (xS x).heap) (hbl : b < (xS x).heap.size) (hbA : ¬ (xS x).heap.size ≤ b) (hn : n < 3000) {M : Mem} {k : Nat} {σ : Sy} (hk : k + 4 ≤ n) (hR : RC M σ) (hM : RM M σ) (hO : OkY σ) (go : ∀ (M2 : Mem) (σ2 : Sy), RC M2 σ2 → RM M2 σ2 → OkY σ2 → LWL x G cs sl Q b M2 601 k) : LWL x G cs sl Q b M 460 k := by
  have h8 := hR.size
  refine wl_aload_n C 2 dL_law_460 rfl rfl ?_
  refine wl_callVi (i := 224) (n := 0) C [] [] (c_X4_density _ G M σ hR hO) gL_law_X4_density rfl (by decide +kernel) (by decide) (by decide) (kd_lt (k := 4) (by decide) (by decide)) (cell_k (k := 4) (by decide)) rfl rfl rfl (Nat.le_of_ble_eq_true rfl) dL_law_461 (fun r1 M1 h1 => ?_)
  obtain ⟨q1, R1, F1⟩ := h1
  refine wl_aload_n C 1 dL_law_464 rfl rfl ?_
  refine wl_callVi (i := 232) (n := 0) C [] [.int r1] (c_X5_density _ G M1 σ (hM.frC F1) hO) gL_law_X5_density rfl (by decide +kernel) (by decide) (by decide) (kd_lt (k := 5) (by decide) (by decide)) (cell_k (k := 5) (by decide)) rfl rfl rfl (Nat.le_of_ble_eq_true rfl) dL_law_465 (fun r2 M2 h2 => ?_)
  obtain ⟨q2, R2, F2⟩ := h2
  refine wl_icmp_eq C 601 dL_law_468 (by decide) (fun _ => ?_) (fun cc => absurd (q1.trans q2.symm) cc)
  exact go M2 σ (R1.frM F2) R2 hO
set_option maxHeartbeats 4000000 in
set_option maxRecDepth 100000 in
theorem law_13 {x : Cn} {G : Gw} {cs sl : Nat} {Q : State → Prop} {b n : Nat} {xs : Nat → Int32} (C : LCX x G cs sl) (hX : va_X b n xs (xS x) (xS x).heap) (hbl : b < (xS x).heap.size) (hbA : ¬ (xS x).heap.size ≤ b) (hn : n < 3000) {M : Mem} {k : Nat} {σ : Sy} (hk : k + 4 ≤ n) (hR : RC M σ) (hM : RM M σ) (hO : OkY σ) (go : ∀ (M2 : Mem) (σ2 : Sy), RC M2 σ2 → RM M2 σ2 → OkY σ2 → LWL x G cs sl Q b M2 601 k) : LWL x G cs sl Q b M 473 k := by
  have h8 := hR.size
  refine wl_aload_n C 2 dL_law_473 rfl rfl ?_
  refine wl_aload_n C 3 dL_law_474 rfl rfl ?_
  refine wl_iload_n C 0 dL_law_475 rfl rfl ?_
  refine wl_iconst (v := nI 1) C dL_law_476 (by decide) ?_
  refine wl_iadd C dL_law_477 ?_
  refine wl_eqi (b := nI (k + 1)) (nI_add k 1) ?_
  refine wl_sld C hX hbl hbA (j := k + 1) (by omega) (by omega) dL_law_478 ?_
  refine wl_aload_n C 3 dL_law_479 rfl rfl ?_
  refine wl_iload_n C 0 dL_law_480 rfl rfl ?_
  refine wl_iconst (v := nI 2) C dL_law_481 (by decide) ?_
  refine wl_iadd C dL_law_482 ?_
  refine wl_eqi (b := nI (k + 2)) (nI_add k 2) ?_
  refine wl_sld C hX hbl hbA (j := k + 2) (by omega) (by omega) dL_law_483 ?_
  refine wl_callVi (i := 224) (n := 2) C [.int (xs (k + 1)), .int (xs (k + 2))] [] (c_X4_keystone _ G M σ hR hO (xs (k + 1)) (xs (k + 2))) gL_law_X4_keystone rfl (by decide +kernel) (by decide) (by decide) (kd_lt (k := 4) (by decide) (by decide)) (cell_k (k := 4) (by decide)) rfl rfl rfl (Nat.le_of_ble_eq_true rfl) dL_law_484 (fun r1 M1 h1 => ?_)
  obtain ⟨q1, R1, F1⟩ := h1
  refine wl_aload_n C 1 dL_law_487 rfl rfl ?_
  refine wl_aload_n C 3 dL_law_488 rfl rfl ?_
  refine wl_iload_n C 0 dL_law_489 rfl rfl ?_
  refine wl_iconst (v := nI 1) C dL_law_490 (by decide) ?_
  refine wl_iadd C dL_law_491 ?_
  refine wl_eqi (b := nI (k + 1)) (nI_add k 1) ?_
  refine wl_sld C hX hbl hbA (j := k + 1) (by omega) (by omega) dL_law_492 ?_
  refine wl_aload_n C 3 dL_law_493 rfl rfl ?_
  refine wl_iload_n C 0 dL_law_494 rfl rfl ?_
  refine wl_iconst (v := nI 2) C dL_law_495 (by decide) ?_
  refine wl_iadd C dL_law_496 ?_
  refine wl_eqi (b := nI (k + 2)) (nI_add k 2) ?_
  refine wl_sld C hX hbl hbA (j := k + 2) (by omega) (by omega) dL_law_497 ?_
  refine wl_callVi (i := 232) (n := 2) C [.int (xs (k + 1)), .int (xs (k + 2))] [.int r1] (c_X5_keystone _ G M1 σ (hM.frC F1) hO (xs (k + 1)) (xs (k + 2))) gL_law_X5_keystone rfl (by decide +kernel) (by decide) (by decide) (kd_lt (k := 5) (by decide) (by decide)) (cell_k (k := 5) (by decide)) rfl rfl rfl (Nat.le_of_ble_eq_true rfl) dL_law_498 (fun r2 M2 h2 => ?_)
  obtain ⟨q2, R2, F2⟩ := h2
  refine wl_icmp_eq C 601 dL_law_501 (by decide) (fun _ => ?_) (fun cc => absurd (q1.trans q2.symm) cc)
  exact go M2 σ (R1.frM F2) R2 hO
set_option maxHeartbeats 4000000 in
set_option maxRecDepth 100000 in
theorem law_14 {x : Cn} {G : Gw} {cs sl : Nat} {Q : State → Prop} {b n : Nat} {xs : Nat → Int32} (C : LCX x G cs sl) (hX : va_X b n xs (xS x) (xS x).heap) (hbl : b < (xS x).heap.size) (hbA : ¬ (xS x).heap.size ≤ b) (hn : n < 3000) {M : Mem} {k : Nat} {σ : Sy} (hk : k + 4 ≤ n) (hR : RC M σ) (hM : RM M σ) (hO : OkY σ) (go : ∀ (M2 : Mem) (σ2 : Sy), RC M2 σ2 → RM M2 σ2 → OkY σ2 → LWL x G cs sl Q b M2 601 k) : LWL x G cs sl Q b M 506 k := by
  have h8 := hR.size
  refine wl_aload_n C 2 dL_law_506 rfl rfl ?_
  refine wl_aload_n C 3 dL_law_507 rfl rfl ?_
  refine wl_iload_n C 0 dL_law_508 rfl rfl ?_
  refine wl_iconst (v := nI 1) C dL_law_509 (by decide) ?_
  refine wl_iadd C dL_law_510 ?_
  refine wl_eqi (b := nI (k + 1)) (nI_add k 1) ?_
  refine wl_sld C hX hbl hbA (j := k + 1) (by omega) (by omega) dL_law_511 ?_
  refine wl_callVp (i := 224) (n := 1) C [.int (xs (k + 1))] [] (c_X4_count _ G M σ hR hO (xs (k + 1))) gL_law_X4_count rfl (by decide +kernel) (by decide) (by decide) (kd_lt (k := 4) (by decide) (by decide)) (cell_k (k := 4) (by decide)) rfl rfl rfl (Nat.le_of_ble_eq_true rfl) dL_law_512 ?_
  refine wl_aload_n C 1 dL_law_515 rfl rfl ?_
  refine wl_aload_n C 3 dL_law_516 rfl rfl ?_
  refine wl_iload_n C 0 dL_law_517 rfl rfl ?_
  refine wl_iconst (v := nI 1) C dL_law_518 (by decide) ?_
  refine wl_iadd C dL_law_519 ?_
  refine wl_eqi (b := nI (k + 1)) (nI_add k 1) ?_
  refine wl_sld C hX hbl hbA (j := k + 1) (by omega) (by omega) dL_law_520 ?_
  refine wl_callVp (i := 232) (n := 1) C [.int (xs (k + 1))] [.int (couY σ (xs (k + 1)))] (c_X5_count _ G M σ hM hO (xs (k + 1))) gL_law_X5_count rfl (by decide +kernel) (by decide) (by decide) (kd_lt (k := 5) (by decide) (by decide)) (cell_k (k := 5) (by decide)) rfl rfl rfl (Nat.le_of_ble_eq_true rfl) dL_law_521 ?_
  refine wl_icmp_eq C 601 dL_law_524 (by decide) (fun _ => ?_) (fun cc => absurd rfl cc)
  exact go M σ hR hM hO
set_option maxHeartbeats 4000000 in
set_option maxRecDepth 100000 in
theorem law_15 {x : Cn} {G : Gw} {cs sl : Nat} {Q : State → Prop} {b n : Nat} {xs : Nat → Int32} (C : LCX x G cs sl) (hX : va_X b n xs (xS x) (xS x).heap) (hbl : b < (xS x).heap.size) (hbA : ¬ (xS x).heap.size ≤ b) (hn : n < 3000) {M : Mem} {k : Nat} {σ : Sy} (hk : k + 4 ≤ n) (hR : RC M σ) (hM : RM M σ) (hO : OkY σ) (go : ∀ (M2 : Mem) (σ2 : Sy), RC M2 σ2 → RM M2 σ2 → OkY σ2 → LWL x G cs sl Q b M2 601 k) : LWL x G cs sl Q b M 529 k := by
  have h8 := hR.size
  refine wl_aload_n C 2 dL_law_529 rfl rfl ?_
  refine wl_callVi (i := 224) (n := 0) C [] [] (c_X4_undo _ G M σ hR hO) gL_law_X4_undo rfl (by decide +kernel) (by decide) (by decide) (kd_lt (k := 4) (by decide) (by decide)) (cell_k (k := 4) (by decide)) rfl rfl rfl (Nat.le_of_ble_eq_true rfl) dL_law_530 (fun r1 M1 h1 => ?_)
  obtain ⟨q1, R1, F1⟩ := h1
  refine wl_aload_n C 1 dL_law_533 rfl rfl ?_
  refine wl_callVi (i := 232) (n := 0) C [] [.int r1] (c_X5_undo _ G M1 σ (hM.frC F1) hO) gL_law_X5_undo rfl (by decide +kernel) (by decide) (by decide) (kd_lt (k := 5) (by decide) (by decide)) (cell_k (k := 5) (by decide)) rfl rfl rfl (Nat.le_of_ble_eq_true rfl) dL_law_534 (fun r2 M2 h2 => ?_)
  obtain ⟨q2, R2, F2⟩ := h2
  refine wl_icmp_eq C 601 dL_law_537 (by decide) (fun _ => ?_) (fun cc => absurd (q1.trans q2.symm) cc)
  exact go M2 (undY σ).2 (R1.frM F2) R2 (und_ok hO)
set_option maxHeartbeats 4000000 in
set_option maxRecDepth 100000 in
theorem law_16 {x : Cn} {G : Gw} {cs sl : Nat} {Q : State → Prop} {b n : Nat} {xs : Nat → Int32} (C : LCX x G cs sl) (hX : va_X b n xs (xS x) (xS x).heap) (hbl : b < (xS x).heap.size) (hbA : ¬ (xS x).heap.size ≤ b) (hn : n < 3000) {M : Mem} {k : Nat} {σ : Sy} (hk : k + 4 ≤ n) (hR : RC M σ) (hM : RM M σ) (hO : OkY σ) (go : ∀ (M2 : Mem) (σ2 : Sy), RC M2 σ2 → RM M2 σ2 → OkY σ2 → LWL x G cs sl Q b M2 601 k) : LWL x G cs sl Q b M 542 k := by
  have h8 := hR.size
  refine wl_aload_n C 2 dL_law_542 rfl rfl ?_
  refine wl_aload_n C 3 dL_law_543 rfl rfl ?_
  refine wl_iload_n C 0 dL_law_544 rfl rfl ?_
  refine wl_iconst (v := nI 1) C dL_law_545 (by decide) ?_
  refine wl_iadd C dL_law_546 ?_
  refine wl_eqi (b := nI (k + 1)) (nI_add k 1) ?_
  refine wl_sld C hX hbl hbA (j := k + 1) (by omega) (by omega) dL_law_547 ?_
  refine wl_callVi (i := 224) (n := 1) C [.int (xs (k + 1))] [] (c_X4_type _ G M σ hR hO (xs (k + 1))) gL_law_X4_type rfl (by decide +kernel) (by decide) (by decide) (kd_lt (k := 4) (by decide) (by decide)) (cell_k (k := 4) (by decide)) rfl rfl rfl (Nat.le_of_ble_eq_true rfl) dL_law_548 (fun r1 M1 h1 => ?_)
  obtain ⟨q1, R1, F1⟩ := h1
  refine wl_aload_n C 1 dL_law_551 rfl rfl ?_
  refine wl_aload_n C 3 dL_law_552 rfl rfl ?_
  refine wl_iload_n C 0 dL_law_553 rfl rfl ?_
  refine wl_iconst (v := nI 1) C dL_law_554 (by decide) ?_
  refine wl_iadd C dL_law_555 ?_
  refine wl_eqi (b := nI (k + 1)) (nI_add k 1) ?_
  refine wl_sld C hX hbl hbA (j := k + 1) (by omega) (by omega) dL_law_556 ?_
  refine wl_callVi (i := 232) (n := 1) C [.int (xs (k + 1))] [.int r1] (c_X5_type _ G M1 σ (hM.frC F1) hO (xs (k + 1))) gL_law_X5_type rfl (by decide +kernel) (by decide) (by decide) (kd_lt (k := 5) (by decide) (by decide)) (cell_k (k := 5) (by decide)) rfl rfl rfl (Nat.le_of_ble_eq_true rfl) dL_law_557 (fun r2 M2 h2 => ?_)
  obtain ⟨q2, R2, F2⟩ := h2
  refine wl_icmp_eq C 601 dL_law_560 (by decide) (fun _ => ?_) (fun cc => absurd (q1.trans q2.symm) cc)
  exact go M2 (typY σ (xs (k + 1))).2 (R1.frM F2) R2 (typ_ok hO)
set_option maxHeartbeats 4000000 in
set_option maxRecDepth 100000 in
theorem law_17 {x : Cn} {G : Gw} {cs sl : Nat} {Q : State → Prop} {b n : Nat} {xs : Nat → Int32} (C : LCX x G cs sl) (hX : va_X b n xs (xS x) (xS x).heap) (hbl : b < (xS x).heap.size) (hbA : ¬ (xS x).heap.size ≤ b) (hn : n < 3000) {M : Mem} {k : Nat} {σ : Sy} (hk : k + 4 ≤ n) (hR : RC M σ) (hM : RM M σ) (hO : OkY σ) (go : ∀ (M2 : Mem) (σ2 : Sy), RC M2 σ2 → RM M2 σ2 → OkY σ2 → LWL x G cs sl Q b M2 601 k) : LWL x G cs sl Q b M 565 k := by
  have h8 := hR.size
  refine wl_aload_n C 2 dL_law_565 rfl rfl ?_
  refine wl_callVi (i := 224) (n := 0) C [] [] (c_X4_clearText _ G M σ hR hO) gL_law_X4_clearText rfl (by decide +kernel) (by decide) (by decide) (kd_lt (k := 4) (by decide) (by decide)) (cell_k (k := 4) (by decide)) rfl rfl rfl (Nat.le_of_ble_eq_true rfl) dL_law_566 (fun r1 M1 h1 => ?_)
  obtain ⟨q1, R1, F1⟩ := h1
  refine wl_aload_n C 1 dL_law_569 rfl rfl ?_
  refine wl_callVi (i := 232) (n := 0) C [] [.int r1] (c_X5_clearText _ G M1 σ (hM.frC F1) hO) gL_law_X5_clearText rfl (by decide +kernel) (by decide) (by decide) (kd_lt (k := 5) (by decide) (by decide)) (cell_k (k := 5) (by decide)) rfl rfl rfl (Nat.le_of_ble_eq_true rfl) dL_law_570 (fun r2 M2 h2 => ?_)
  obtain ⟨q2, R2, F2⟩ := h2
  refine wl_icmp_eq C 601 dL_law_573 (by decide) (fun _ => ?_) (fun cc => absurd (q1.trans q2.symm) cc)
  exact go M2 (cleY σ).2 (R1.frM F2) R2 (cle_ok hO)
set_option maxHeartbeats 4000000 in
set_option maxRecDepth 100000 in
theorem law_18 {x : Cn} {G : Gw} {cs sl : Nat} {Q : State → Prop} {b n : Nat} {xs : Nat → Int32} (C : LCX x G cs sl) (hX : va_X b n xs (xS x) (xS x).heap) (hbl : b < (xS x).heap.size) (hbA : ¬ (xS x).heap.size ≤ b) (hn : n < 3000) {M : Mem} {k : Nat} {σ : Sy} (hk : k + 4 ≤ n) (hR : RC M σ) (hM : RM M σ) (hO : OkY σ) (go : ∀ (M2 : Mem) (σ2 : Sy), RC M2 σ2 → RM M2 σ2 → OkY σ2 → LWL x G cs sl Q b M2 601 k) : LWL x G cs sl Q b M 578 k := by
  have h8 := hR.size
  refine wl_aload_n C 2 dL_law_578 rfl rfl ?_
  refine wl_aload_n C 3 dL_law_579 rfl rfl ?_
  refine wl_iload_n C 0 dL_law_580 rfl rfl ?_
  refine wl_iconst (v := nI 1) C dL_law_581 (by decide) ?_
  refine wl_iadd C dL_law_582 ?_
  refine wl_eqi (b := nI (k + 1)) (nI_add k 1) ?_
  refine wl_sld C hX hbl hbA (j := k + 1) (by omega) (by omega) dL_law_583 ?_
  refine wl_callVi (i := 224) (n := 1) C [.int (xs (k + 1))] [] (c_X4_fault _ G M σ hR hO (xs (k + 1))) gL_law_X4_fault rfl (by decide +kernel) (by decide) (by decide) (kd_lt (k := 4) (by decide) (by decide)) (cell_k (k := 4) (by decide)) rfl rfl rfl (Nat.le_of_ble_eq_true rfl) dL_law_584 (fun r1 M1 h1 => ?_)
  obtain ⟨q1, R1, F1⟩ := h1
  refine wl_aload_n C 1 dL_law_587 rfl rfl ?_
  refine wl_aload_n C 3 dL_law_588 rfl rfl ?_
  refine wl_iload_n C 0 dL_law_589 rfl rfl ?_
  refine wl_iconst (v := nI 1) C dL_law_590 (by decide) ?_
  refine wl_iadd C dL_law_591 ?_
  refine wl_eqi (b := nI (k + 1)) (nI_add k 1) ?_
  refine wl_sld C hX hbl hbA (j := k + 1) (by omega) (by omega) dL_law_592 ?_
  refine wl_callVi (i := 232) (n := 1) C [.int (xs (k + 1))] [.int r1] (c_X5_fault _ G M1 σ (hM.frC F1) hO (xs (k + 1))) gL_law_X5_fault rfl (by decide +kernel) (by decide) (by decide) (kd_lt (k := 5) (by decide) (by decide)) (cell_k (k := 5) (by decide)) rfl rfl rfl (Nat.le_of_ble_eq_true rfl) dL_law_593 (fun r2 M2 h2 => ?_)
  obtain ⟨q2, R2, F2⟩ := h2
  refine wl_icmp_eq C 601 dL_law_596 (by decide) (fun _ => ?_) (fun cc => absurd (q1.trans q2.symm) cc)
  exact go M2 σ (R1.frM F2) R2 hO
