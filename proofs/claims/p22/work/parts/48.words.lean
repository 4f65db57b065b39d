/-! THE LAW'S WORDS, by their places in the tables -/
theorem mem_pl {big ws : List Cond} (ps : List Nat) (hp : ws = ps.filterMap (fun i => big[i]?)) : ∀ w ∈ ws, w ∈ big := by
  intro w hw
  rw [hp] at hw
  obtain ⟨i, -, hi⟩ := List.mem_filterMap.mp hw
  exact List.mem_of_getElem? hi
set_option maxRecDepth 100000 in
theorem i_wsL_law_r1 : ∀ w ∈ wsL_law_r1, w ∈ lw_tbl := mem_pl [19, 20, 12, 21, 22, 23, 24, 25, 26, 27, 28, 13, 137, 138, 78, 79, 15, 139, 101, 102, 16, 140, 29, 30] (by decide +kernel)
set_option maxRecDepth 100000 in
theorem i_wsL_law_r2 : ∀ w ∈ wsL_law_r2, w ∈ lw_tbl := mem_pl [31, 32, 33, 54, 35, 14, 55, 56, 57, 59, 62, 36, 37, 38, 39, 53, 40, 41, 42, 80, 81, 82, 83, 84] (by decide +kernel)
set_option maxRecDepth 100000 in
theorem i_wsL_law_r3 : ∀ w ∈ wsL_law_r3, w ∈ lw_tbl := mem_pl [87, 88, 89, 90, 86, 103, 104, 105, 106, 136, 109, 107, 111, 110, 113, 115, 117, 119, 108, 221, 222, 11, 223, 224] (by decide +kernel)
set_option maxRecDepth 100000 in
theorem i_wsL_law_r4 : ∀ w ∈ wsL_law_r4, w ∈ lw_tbl := mem_pl [225, 226, 227, 228, 150, 151, 152, 153, 157, 200, 60, 63, 154, 155, 156, 158, 159, 160, 161, 162, 163, 164, 165, 166] (by decide +kernel)
set_option maxRecDepth 100000 in
theorem i_wsL_law_r5 : ∀ w ∈ wsL_law_r5, w ∈ lw_tbl := mem_pl [167, 168, 169, 170, 171, 172, 173, 178, 179, 17, 180, 174, 175, 176, 177, 181, 182, 183, 184, 185, 186, 187, 188, 189] (by decide +kernel)
set_option maxRecDepth 100000 in
theorem i_wsL_law_r6 : ∀ w ∈ wsL_law_r6, w ∈ lw_tbl := mem_pl [190, 191, 192, 193, 194, 195, 196, 197, 198, 199, 201, 202, 203, 204, 205, 207, 0, 208, 209, 210, 211, 212, 213, 214] (by decide +kernel)
set_option maxRecDepth 100000 in
theorem i_wsL_law_r7 : ∀ w ∈ wsL_law_r7, w ∈ lw_tbl := mem_pl [215, 216, 217, 219, 1, 220, 229, 230, 231, 232, 233, 234, 235, 58, 91, 114, 236, 237, 238, 239, 240, 241, 242, 243] (by decide +kernel)
set_option maxRecDepth 100000 in
theorem i_wsL_law_r8 : ∀ w ∈ wsL_law_r8, w ∈ lw_tbl := mem_pl [244, 246, 2, 247, 248, 249, 250, 251, 45, 252, 253, 254, 255, 256, 257, 258, 259, 272, 260, 261, 262, 263, 264, 265] (by decide +kernel)
set_option maxRecDepth 100000 in
theorem i_wsL_law_r9 : ∀ w ∈ wsL_law_r9, w ∈ lw_tbl := mem_pl [266, 267, 268, 270, 271, 273, 274, 18, 275, 276, 277, 278, 279, 280, 281, 282, 283, 284, 285, 286, 287, 288, 289, 290] (by decide +kernel)
set_option maxRecDepth 100000 in
theorem i_wsL_law_r10 : ∀ w ∈ wsL_law_r10, w ∈ lw_tbl := mem_pl [291, 292, 293, 294, 295, 296, 297, 298, 299, 300, 301, 118, 357, 116, 120, 302, 303, 304, 305, 61, 64, 306, 308, 3] (by decide +kernel)
set_option maxRecDepth 100000 in
theorem i_wsL_law_r11 : ∀ w ∈ wsL_law_r11, w ∈ lw_tbl := mem_pl [309, 310, 312, 4, 313, 43, 314, 316, 5, 317, 318, 320, 6, 321, 322, 324, 7, 325, 326, 328, 8, 329, 330, 331] (by decide +kernel)
set_option maxRecDepth 100000 in
theorem i_wsL_law_r12 : ∀ w ∈ wsL_law_r12, w ∈ lw_tbl := mem_pl [332, 333, 334, 335, 336, 337, 338, 339, 340, 341, 342, 344, 9, 345, 346, 348, 10, 349, 350, 351, 352, 353, 355, 356] (by decide +kernel)
set_option maxRecDepth 100000 in
theorem i_wsL_law_r13 : ∀ w ∈ wsL_law_r13, w ∈ lw_tbl := mem_pl [358, 359, 360, 361, 112, 362, 363, 364, 365, 366, 367, 368, 369, 370, 371, 372, 373, 374, 375, 376, 377, 378, 379, 380] (by decide +kernel)
set_option maxRecDepth 100000 in
theorem i_wsL_law_r14 : ∀ w ∈ wsL_law_r14, w ∈ lw_tbl := mem_pl [382, 383, 384, 387, 388, 389, 391, 392, 393, 394, 395, 396, 397, 398, 399, 400, 401, 402, 403, 404, 405, 406, 407, 408] (by decide +kernel)
set_option maxRecDepth 100000 in
theorem i_wsL_law_r15 : ∀ w ∈ wsL_law_r15, w ∈ lw_tbl := mem_pl [409, 410, 411, 412, 413, 414, 415, 416, 417, 418, 419, 420, 421, 422, 423, 424, 425, 426, 427, 428, 429, 430, 431, 432] (by decide +kernel)
set_option maxRecDepth 100000 in
theorem i_wsL_law_r16 : ∀ w ∈ wsL_law_r16, w ∈ lw_tbl := mem_pl [433, 434, 435, 436, 437, 438, 439, 440, 441, 442, 443, 444, 446, 447, 448, 449, 450, 451, 452, 453, 454, 455, 456, 457] (by decide +kernel)
set_option maxRecDepth 100000 in
theorem i_wsL_law_r17 : ∀ w ∈ wsL_law_r17, w ∈ lw_tbl := mem_pl [458, 459, 460, 461, 462, 463, 464, 465, 466, 467, 468, 469, 44, 470, 471, 472, 473, 474, 475, 476, 477, 478, 479, 480] (by decide +kernel)
set_option maxRecDepth 100000 in
theorem i_wsL_law_r18 : ∀ w ∈ wsL_law_r18, w ∈ lw_tbl := mem_pl [481, 482, 483, 484, 485, 486, 487, 488, 489, 490, 491, 492, 493, 494, 495, 496, 497, 498, 499, 500, 501, 502, 503, 504] (by decide +kernel)
set_option maxRecDepth 100000 in
theorem i_wsL_law_r19 : ∀ w ∈ wsL_law_r19, w ∈ lw_tbl := mem_pl [505, 506, 507, 508, 509, 510, 511, 512, 513, 514, 515, 516, 517, 518, 524, 519, 520, 521, 522, 523] (by decide +kernel)
set_option maxRecDepth 100000 in
theorem i_wsX00 : ∀ w ∈ wsX00, w ∈ lw_tbl := mem_pl [46, 48, 50] (by decide +kernel)
set_option maxRecDepth 100000 in
theorem i_wsX10 : ∀ w ∈ wsX10, w ∈ lw_tbl := mem_pl [121, 123, 125, 127, 129, 131, 133] (by decide +kernel)
set_option maxRecDepth 100000 in
theorem i_wsX20 : ∀ w ∈ wsX20, w ∈ lw_tbl := mem_pl [92, 94, 96, 98] (by decide +kernel)
set_option maxRecDepth 100000 in
theorem i_wsX30 : ∀ w ∈ wsX30, w ∈ lw_tbl := mem_pl [65, 67, 69, 71, 73, 75] (by decide +kernel)
set_option maxRecDepth 100000 in
theorem i_wsX40 : ∀ w ∈ wsX40, w ∈ lw_tbl := mem_pl [141, 143, 145, 147] (by decide +kernel)
theorem i_wsL : ∀ w ∈ wsL_law, w ∈ lw_tbl := List.forall_mem_append.mpr ⟨List.forall_mem_append.mpr ⟨List.forall_mem_append.mpr ⟨List.forall_mem_append.mpr ⟨List.forall_mem_append.mpr ⟨List.forall_mem_append.mpr ⟨List.forall_mem_append.mpr ⟨i_wsL_law_r1, List.forall_mem_append.mpr ⟨i_wsL_law_r2, List.forall_mem_append.mpr ⟨i_wsL_law_r3, List.forall_mem_append.mpr ⟨i_wsL_law_r4, List.forall_mem_append.mpr ⟨i_wsL_law_r5, List.forall_mem_append.mpr ⟨i_wsL_law_r6, List.forall_mem_append.mpr ⟨i_wsL_law_r7, List.forall_mem_append.mpr ⟨i_wsL_law_r8, List.forall_mem_append.mpr ⟨i_wsL_law_r9, List.forall_mem_append.mpr ⟨i_wsL_law_r10, List.forall_mem_append.mpr ⟨i_wsL_law_r11, List.forall_mem_append.mpr ⟨i_wsL_law_r12, List.forall_mem_append.mpr ⟨i_wsL_law_r13, List.forall_mem_append.mpr ⟨i_wsL_law_r14, List.forall_mem_append.mpr ⟨i_wsL_law_r15, List.forall_mem_append.mpr ⟨i_wsL_law_r16, List.forall_mem_append.mpr ⟨i_wsL_law_r17, List.forall_mem_append.mpr ⟨i_wsL_law_r18, i_wsL_law_r19⟩⟩⟩⟩⟩⟩⟩⟩⟩⟩⟩⟩⟩⟩⟩⟩⟩⟩, i_wsX40⟩, i_wsX30⟩, i_wsX20⟩, i_wsX10⟩, i_wsX00⟩, (fun _ h => absurd h List.not_mem_nil)⟩
theorem i_aI : Jvm.Cond.arrayClass .int ∈ lw_tbl := List.mem_of_getElem? (i := 53) (by decide +kernel)
theorem i_aC : Jvm.Cond.arrayClass .char ∈ lw_tbl := List.mem_of_getElem? (i := 136) (by decide +kernel)
theorem i_aB : Jvm.Cond.arrayOver (.object RX0) ∈ lw_tbl := List.mem_of_getElem? (i := 34) (by decide +kernel)
theorem i_aP : Jvm.Cond.arrayOver (.object RX3) ∈ lw_tbl := List.mem_of_getElem? (i := 85) (by decide +kernel)
theorem i_sX : Jvm.Cond.laysStatic "JammedBodies" "STEP_X" "[I" ∈ lw_tbl := List.mem_of_getElem? (i := 385) (by decide +kernel)
theorem i_sY : Jvm.Cond.laysStatic "JammedBodies" "STEP_Y" "[I" ∈ lw_tbl := List.mem_of_getElem? (i := 390) (by decide +kernel)
theorem i_i4 : Jvm.Cond.initialized "JammedBodies" ∈ lw_tbl := List.mem_of_getElem? (i := 12) (by decide +kernel)
theorem i_n59 : Jvm.Cond.methodLinkNest RX0 59 yX4_cross "JammedBodies" ∈ lw_tbl := List.mem_of_getElem? (i := 269) (by decide +kernel)
theorem i_n66 : Jvm.Cond.methodLinkNest RX1 66 yX4_lowest "JammedBodies" ∈ lw_tbl := List.mem_of_getElem? (i := 354) (by decide +kernel)
theorem i_n68 : Jvm.Cond.methodLinkNest RX3 68 yX4_lowest "JammedBodies" ∈ lw_tbl := List.mem_of_getElem? (i := 445) (by decide +kernel)
theorem i_n71 : Jvm.Cond.methodLinkNest RX3 71 yX4_stepX "JammedBodies" ∈ lw_tbl := List.mem_of_getElem? (i := 381) (by decide +kernel)
theorem i_n74 : Jvm.Cond.methodLinkNest RX3 74 yX4_stepY "JammedBodies" ∈ lw_tbl := List.mem_of_getElem? (i := 386) (by decide +kernel)
theorem i_in0 : Jvm.Cond.instantiable RX0 3 ∈ lw_tbl := List.mem_of_getElem? (i := 35) (by decide +kernel)
theorem i_in1 : Jvm.Cond.instantiable RX1 7 ∈ lw_tbl := List.mem_of_getElem? (i := 102) (by decide +kernel)
theorem i_in2 : Jvm.Cond.instantiable RX2 4 ∈ lw_tbl := List.mem_of_getElem? (i := 79) (by decide +kernel)
theorem i_in3 : Jvm.Cond.instantiable RX3 6 ∈ lw_tbl := List.mem_of_getElem? (i := 28) (by decide +kernel)
theorem i_in4 : Jvm.Cond.instantiable RX4 4 ∈ lw_tbl := List.mem_of_getElem? (i := 20) (by decide +kernel)
