/-! THE LAW'S WORDS, by their places in the tables -/
theorem mem_pl {big ws : List Cond} (ps : List Nat) (hp : ws = ps.filterMap (fun i => big[i]?)) : ∀ w ∈ ws, w ∈ big := by
  intro w hw
  rw [hp] at hw
  obtain ⟨i, -, hi⟩ := List.mem_filterMap.mp hw
  exact List.mem_of_getElem? hi
set_option maxRecDepth 100000 in
theorem i_wsL_law_r1 : ∀ w ∈ wsL_law_r1, w ∈ lw_tbl := mem_pl [65, 66, 57, 558, 559, 62, 67, 68, 69, 70, 71, 72, 73, 74, 58, 183, 184, 124, 125, 60, 185, 147, 148, 61] (by decide +kernel)
set_option maxRecDepth 100000 in
theorem i_wsL_law_r2 : ∀ w ∈ wsL_law_r2, w ∈ lw_tbl := mem_pl [186, 75, 76, 77, 78, 79, 100, 81, 59, 101, 102, 103, 105, 108, 82, 83, 84, 85, 99, 86, 87, 88, 126, 127] (by decide +kernel)
set_option maxRecDepth 100000 in
theorem i_wsL_law_r3 : ∀ w ∈ wsL_law_r3, w ∈ lw_tbl := mem_pl [128, 129, 130, 133, 134, 135, 136, 132, 149, 150, 151, 152, 182, 155, 153, 157, 156, 159, 161, 163, 165, 154, 560, 561] (by decide +kernel)
set_option maxRecDepth 100000 in
theorem i_wsL_law_r4 : ∀ w ∈ wsL_law_r4, w ∈ lw_tbl := mem_pl [562, 563, 564, 565, 566, 568, 196, 197, 198, 199, 203, 246, 106, 109, 200, 201, 202, 204, 205, 206, 207, 208, 209, 210] (by decide +kernel)
set_option maxRecDepth 100000 in
theorem i_wsL_law_r5 : ∀ w ∈ wsL_law_r5, w ∈ lw_tbl := mem_pl [211, 212, 213, 214, 215, 216, 217, 218, 219, 224, 225, 63, 226, 220, 221, 222, 223, 227, 228, 229, 230, 231, 232, 233] (by decide +kernel)
set_option maxRecDepth 100000 in
theorem i_wsL_law_r6 : ∀ w ∈ wsL_law_r6, w ∈ lw_tbl := mem_pl [234, 235, 236, 237, 238, 239, 240, 241, 242, 243, 244, 245, 247, 248, 249, 250, 251, 253, 0, 254, 255, 256, 257, 258] (by decide +kernel)
set_option maxRecDepth 100000 in
theorem i_wsL_law_r7 : ∀ w ∈ wsL_law_r7, w ∈ lw_tbl := mem_pl [259, 260, 261, 262, 263, 265, 1, 266, 595, 596, 597, 598, 599, 600, 604, 621, 601, 602, 603, 605, 607, 11, 608, 609] (by decide +kernel)
set_option maxRecDepth 100000 in
theorem i_wsL_law_r8 : ∀ w ∈ wsL_law_r8, w ∈ lw_tbl := mem_pl [611, 12, 612, 613, 615, 13, 616, 617, 619, 14, 620, 622, 624, 15, 625, 626, 628, 16, 629, 567, 267, 268, 269, 270] (by decide +kernel)
set_option maxRecDepth 100000 in
theorem i_wsL_law_r9 : ∀ w ∈ wsL_law_r9, w ∈ lw_tbl := mem_pl [164, 104, 342, 158, 271, 272, 273, 274, 107, 110, 275, 277, 2, 278, 279, 281, 3, 282, 89, 283, 285, 4, 286, 287] (by decide +kernel)
set_option maxRecDepth 100000 in
theorem i_wsL_law_r10 : ∀ w ∈ wsL_law_r10, w ∈ lw_tbl := mem_pl [289, 5, 290, 291, 293, 6, 294, 295, 297, 7, 298, 299, 300, 301, 302, 303, 304, 305, 306, 307, 308, 309, 310, 311] (by decide +kernel)
set_option maxRecDepth 100000 in
theorem i_wsL_law_r11 : ∀ w ∈ wsL_law_r11, w ∈ lw_tbl := mem_pl [313, 8, 314, 316, 317, 318, 320, 9, 321, 322, 324, 10, 325, 326, 327, 328, 329, 330, 331, 332, 333, 334, 335, 336] (by decide +kernel)
set_option maxRecDepth 100000 in
theorem i_wsL_law_r12 : ∀ w ∈ wsL_law_r12, w ∈ lw_tbl := mem_pl [337, 338, 340, 341, 343, 344, 345, 346, 630, 631, 632, 633, 696, 634, 636, 17, 637, 570, 638, 640, 18, 641, 569, 642] (by decide +kernel)
set_option maxRecDepth 100000 in
theorem i_wsL_law_r13 : ∀ w ∈ wsL_law_r13, w ∈ lw_tbl := mem_pl [644, 19, 645, 646, 647, 648, 650, 20, 651, 652, 654, 21, 655, 571, 572, 573, 656, 658, 22, 659, 660, 662, 23, 663] (by decide +kernel)
set_option maxRecDepth 100000 in
theorem i_wsL_law_r14 : ∀ w ∈ wsL_law_r14, w ∈ lw_tbl := mem_pl [664, 666, 24, 667, 668, 670, 25, 671, 672, 674, 26, 675, 676, 678, 27, 679, 680, 682, 28, 683, 684, 686, 29, 687] (by decide +kernel)
set_option maxRecDepth 100000 in
theorem i_wsL_law_r15 : ∀ w ∈ wsL_law_r15, w ∈ lw_tbl := mem_pl [688, 690, 30, 691, 692, 694, 31, 695, 697, 699, 32, 700, 347, 348, 349, 350, 351, 352, 353, 354, 355, 356, 357, 358] (by decide +kernel)
set_option maxRecDepth 100000 in
theorem i_wsL_law_r16 : ∀ w ∈ wsL_law_r16, w ∈ lw_tbl := mem_pl [701, 702, 703, 704, 705, 707, 33, 708, 709, 711, 34, 712, 359, 360, 361, 362, 713, 714, 715, 716, 363, 364, 365, 366] (by decide +kernel)
set_option maxRecDepth 100000 in
theorem i_wsL_law_r17 : ∀ w ∈ wsL_law_r17, w ∈ lw_tbl := mem_pl [367, 368, 369, 370, 371, 372, 373, 375, 376, 377, 380, 381, 382, 384, 385, 386, 387, 388, 389, 390, 391, 392, 717, 718] (by decide +kernel)
set_option maxRecDepth 100000 in
theorem i_wsL_law_r18 : ∀ w ∈ wsL_law_r18, w ∈ lw_tbl := mem_pl [719, 720, 721, 722, 723, 724, 725, 727, 35, 728, 729, 731, 36, 732, 733, 734, 735, 736, 737, 738, 739, 741, 37, 742] (by decide +kernel)
set_option maxRecDepth 100000 in
theorem i_wsL_law_r19 : ∀ w ∈ wsL_law_r19, w ∈ lw_tbl := mem_pl [743, 745, 38, 746, 747, 749, 39, 750, 751, 753, 40, 754, 755, 757, 41, 758, 393, 394, 395, 396, 397, 398, 399, 400] (by decide +kernel)
set_option maxRecDepth 100000 in
theorem i_wsL_law_r20 : ∀ w ∈ wsL_law_r20, w ∈ lw_tbl := mem_pl [401, 402, 403, 404, 405, 406, 407, 408, 759, 760, 761, 762, 763, 765, 42, 766, 409, 410, 411, 412, 413, 414, 415, 416] (by decide +kernel)
set_option maxRecDepth 100000 in
theorem i_wsL_law_r21 : ∀ w ∈ wsL_law_r21, w ∈ lw_tbl := mem_pl [417, 418, 767, 768, 769, 770, 771, 773, 43, 774, 419, 420, 421, 422, 90, 423, 424, 425, 426, 427, 428, 429, 430, 431] (by decide +kernel)
set_option maxRecDepth 100000 in
theorem i_wsL_law_r22 : ∀ w ∈ wsL_law_r22, w ∈ lw_tbl := mem_pl [432, 433, 434, 435, 436, 437, 438, 439, 440, 441, 442, 443, 444, 445, 446, 447, 448, 449, 450, 451, 775, 776, 777, 778] (by decide +kernel)
set_option maxRecDepth 100000 in
theorem i_wsL_law_r23 : ∀ w ∈ wsL_law_r23, w ∈ lw_tbl := mem_pl [779, 780, 782, 44, 783, 784, 786, 45, 787, 788, 790, 46, 791, 792, 794, 47, 795, 796, 798, 48, 799, 800, 802, 49] (by decide +kernel)
set_option maxRecDepth 100000 in
theorem i_wsL_law_r24 : ∀ w ∈ wsL_law_r24, w ∈ lw_tbl := mem_pl [803, 804, 806, 50, 807, 808, 452, 453, 454, 455, 456, 457, 458, 459, 460, 461, 462, 463, 464, 809, 810, 811, 812, 813] (by decide +kernel)
set_option maxRecDepth 100000 in
theorem i_wsL_law_r25 : ∀ w ∈ wsL_law_r25, w ∈ lw_tbl := mem_pl [465, 466, 467, 468, 469, 470, 471, 472, 473, 474, 814, 815, 816, 817, 475, 476, 477, 478, 479, 480, 481, 482, 483, 484] (by decide +kernel)
set_option maxRecDepth 100000 in
theorem i_wsL_law_r26 : ∀ w ∈ wsL_law_r26, w ∈ lw_tbl := mem_pl [485, 486, 487, 488, 489, 490, 491, 492, 818, 819, 820, 821, 822, 823, 825, 51, 826, 827, 829, 52, 830, 494, 495, 496] (by decide +kernel)
set_option maxRecDepth 100000 in
theorem i_wsL_law_r27 : ∀ w ∈ wsL_law_r27, w ∈ lw_tbl := mem_pl [497, 831, 832, 833, 834, 498, 499, 500, 501, 502, 503, 504, 505, 506, 507, 508, 509, 510, 835, 836, 837, 838, 839, 841] (by decide +kernel)
set_option maxRecDepth 100000 in
theorem i_wsL_law_r28 : ∀ w ∈ wsL_law_r28, w ∈ lw_tbl := mem_pl [53, 842, 843, 844, 845, 846, 847, 511, 512, 513, 514, 515, 848, 849, 850, 851, 516, 517, 518, 519, 137, 160, 520, 521] (by decide +kernel)
set_option maxRecDepth 100000 in
theorem i_wsL_law_r29 : ∀ w ∈ wsL_law_r29, w ∈ lw_tbl := mem_pl [522, 523, 91, 524, 525, 526, 527, 528, 529, 64, 530, 531, 532, 533, 852, 853, 854, 855, 856, 858, 54, 859, 860, 862] (by decide +kernel)
set_option maxRecDepth 100000 in
theorem i_wsL_law_r30 : ∀ w ∈ wsL_law_r30, w ∈ lw_tbl := mem_pl [55, 863, 534, 535, 536, 537, 538, 539, 540, 541, 864, 865, 866, 867, 542, 543, 544, 545, 546, 547, 548, 549, 868, 869] (by decide +kernel)
set_option maxRecDepth 100000 in
theorem i_wsL_law_r31 : ∀ w ∈ wsL_law_r31, w ∈ lw_tbl := mem_pl [870, 871, 872, 873, 550, 551, 552, 553, 874, 875, 876, 877, 554, 555, 556, 557, 162, 166, 878, 879, 880, 881] (by decide +kernel)
set_option maxRecDepth 100000 in
theorem i_wsX00 : ∀ w ∈ wsX00, w ∈ lw_tbl := mem_pl [92, 94, 96] (by decide +kernel)
set_option maxRecDepth 100000 in
theorem i_wsX10 : ∀ w ∈ wsX10, w ∈ lw_tbl := mem_pl [167, 169, 171, 173, 175, 177, 179] (by decide +kernel)
set_option maxRecDepth 100000 in
theorem i_wsX20 : ∀ w ∈ wsX20, w ∈ lw_tbl := mem_pl [138, 140, 142, 144] (by decide +kernel)
set_option maxRecDepth 100000 in
theorem i_wsX30 : ∀ w ∈ wsX30, w ∈ lw_tbl := mem_pl [111, 113, 115, 117, 119, 121] (by decide +kernel)
set_option maxRecDepth 100000 in
theorem i_wsX40 : ∀ w ∈ wsX40, w ∈ lw_tbl := mem_pl [187, 189, 191, 193] (by decide +kernel)
set_option maxRecDepth 100000 in
theorem i_wsX50 : ∀ w ∈ wsX50, w ∈ lw_tbl := mem_pl [574, 576, 578, 580, 582, 584, 586, 588, 590, 592] (by decide +kernel)
theorem i_wsL : ∀ w ∈ wsL_law, w ∈ lw_tbl := List.forall_mem_append.mpr ⟨List.forall_mem_append.mpr ⟨List.forall_mem_append.mpr ⟨List.forall_mem_append.mpr ⟨List.forall_mem_append.mpr ⟨List.forall_mem_append.mpr ⟨List.forall_mem_append.mpr ⟨List.forall_mem_append.mpr ⟨i_wsL_law_r1, List.forall_mem_append.mpr ⟨i_wsL_law_r2, List.forall_mem_append.mpr ⟨i_wsL_law_r3, List.forall_mem_append.mpr ⟨i_wsL_law_r4, List.forall_mem_append.mpr ⟨i_wsL_law_r5, List.forall_mem_append.mpr ⟨i_wsL_law_r6, List.forall_mem_append.mpr ⟨i_wsL_law_r7, List.forall_mem_append.mpr ⟨i_wsL_law_r8, List.forall_mem_append.mpr ⟨i_wsL_law_r9, List.forall_mem_append.mpr ⟨i_wsL_law_r10, List.forall_mem_append.mpr ⟨i_wsL_law_r11, List.forall_mem_append.mpr ⟨i_wsL_law_r12, List.forall_mem_append.mpr ⟨i_wsL_law_r13, List.forall_mem_append.mpr ⟨i_wsL_law_r14, List.forall_mem_append.mpr ⟨i_wsL_law_r15, List.forall_mem_append.mpr ⟨i_wsL_law_r16, List.forall_mem_append.mpr ⟨i_wsL_law_r17, List.forall_mem_append.mpr ⟨i_wsL_law_r18, List.forall_mem_append.mpr ⟨i_wsL_law_r19, List.forall_mem_append.mpr ⟨i_wsL_law_r20, List.forall_mem_append.mpr ⟨i_wsL_law_r21, List.forall_mem_append.mpr ⟨i_wsL_law_r22, List.forall_mem_append.mpr ⟨i_wsL_law_r23, List.forall_mem_append.mpr ⟨i_wsL_law_r24, List.forall_mem_append.mpr ⟨i_wsL_law_r25, List.forall_mem_append.mpr ⟨i_wsL_law_r26, List.forall_mem_append.mpr ⟨i_wsL_law_r27, List.forall_mem_append.mpr ⟨i_wsL_law_r28, List.forall_mem_append.mpr ⟨i_wsL_law_r29, List.forall_mem_append.mpr ⟨i_wsL_law_r30, i_wsL_law_r31⟩⟩⟩⟩⟩⟩⟩⟩⟩⟩⟩⟩⟩⟩⟩⟩⟩⟩⟩⟩⟩⟩⟩⟩⟩⟩⟩⟩⟩⟩, i_wsX40⟩, i_wsX50⟩, i_wsX30⟩, i_wsX20⟩, i_wsX10⟩, i_wsX00⟩, (fun _ h => absurd h List.not_mem_nil)⟩
theorem i_aI : Jvm.Cond.arrayClass .int ∈ lw_tbl := List.mem_of_getElem? (i := 99) (by decide +kernel)
theorem i_aC : Jvm.Cond.arrayClass .char ∈ lw_tbl := List.mem_of_getElem? (i := 182) (by decide +kernel)
theorem i_aB : Jvm.Cond.arrayOver (.object RX0) ∈ lw_tbl := List.mem_of_getElem? (i := 80) (by decide +kernel)
theorem i_aP : Jvm.Cond.arrayOver (.object RX3) ∈ lw_tbl := List.mem_of_getElem? (i := 131) (by decide +kernel)
theorem i_sX : Jvm.Cond.laysStatic "JammedBodies" "STEP_X" "[I" ∈ lw_tbl := List.mem_of_getElem? (i := 378) (by decide +kernel)
theorem i_sY : Jvm.Cond.laysStatic "JammedBodies" "STEP_Y" "[I" ∈ lw_tbl := List.mem_of_getElem? (i := 383) (by decide +kernel)
theorem i_i4 : Jvm.Cond.initialized "JammedBodies" ∈ lw_tbl := List.mem_of_getElem? (i := 57) (by decide +kernel)
theorem i_n59 : Jvm.Cond.methodLinkNest RX0 59 yX4_cross "JammedBodies" ∈ lw_tbl := List.mem_of_getElem? (i := 315) (by decide +kernel)
theorem i_n66 : Jvm.Cond.methodLinkNest RX1 66 yX4_lowest "JammedBodies" ∈ lw_tbl := List.mem_of_getElem? (i := 339) (by decide +kernel)
theorem i_n68 : Jvm.Cond.methodLinkNest RX3 68 yX4_lowest "JammedBodies" ∈ lw_tbl := List.mem_of_getElem? (i := 493) (by decide +kernel)
theorem i_n71 : Jvm.Cond.methodLinkNest RX3 71 yX4_stepX "JammedBodies" ∈ lw_tbl := List.mem_of_getElem? (i := 374) (by decide +kernel)
theorem i_n74 : Jvm.Cond.methodLinkNest RX3 74 yX4_stepY "JammedBodies" ∈ lw_tbl := List.mem_of_getElem? (i := 379) (by decide +kernel)
theorem i_in0 : Jvm.Cond.instantiable RX0 3 ∈ lw_tbl := List.mem_of_getElem? (i := 81) (by decide +kernel)
theorem i_in1 : Jvm.Cond.instantiable RX1 7 ∈ lw_tbl := List.mem_of_getElem? (i := 148) (by decide +kernel)
theorem i_in2 : Jvm.Cond.instantiable RX2 4 ∈ lw_tbl := List.mem_of_getElem? (i := 125) (by decide +kernel)
theorem i_in3 : Jvm.Cond.instantiable RX3 6 ∈ lw_tbl := List.mem_of_getElem? (i := 74) (by decide +kernel)
theorem i_in4 : Jvm.Cond.instantiable RX4 4 ∈ lw_tbl := List.mem_of_getElem? (i := 66) (by decide +kernel)
theorem i_in5 : Jvm.Cond.instantiable RX5 10 ∈ lw_tbl := List.mem_of_getElem? (i := 559) (by decide +kernel)
