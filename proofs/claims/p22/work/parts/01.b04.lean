theorem dX4_fault_47 : decode cX4_fault 47 = .ok (.ireturn, 1) := by decide +kernel
theorem dX4_fault_48 : decode cX4_fault 48 = .ok (.iload_n 1, 1) := by decide +kernel
theorem dX4_fault_49 : decode cX4_fault 49 = .ok (.iconst 1, 1) := by decide +kernel
theorem dX4_fault_50 : decode cX4_fault 50 = .ok (.if_icmp .ne 13, 3) := by decide +kernel
theorem dX4_fault_53 : decode cX4_fault 53 = .ok (.aload_n 0, 1) := by decide +kernel
theorem dX4_fault_54 : decode cX4_fault 54 = .ok (.getfield 29, 3) := by decide +kernel
theorem dX4_fault_57 : decode cX4_fault 57 = .ok (.getfield 57, 3) := by decide +kernel
theorem dX4_fault_60 : decode cX4_fault 60 = .ok (.goto 10, 3) := by decide +kernel
theorem dX4_fault_63 : decode cX4_fault 63 = .ok (.aload_n 0, 1) := by decide +kernel
theorem dX4_fault_64 : decode cX4_fault 64 = .ok (.getfield 29, 3) := by decide +kernel
theorem dX4_fault_67 : decode cX4_fault 67 = .ok (.getfield 200, 3) := by decide +kernel
theorem dX4_fault_70 : decode cX4_fault 70 = .ok (.ireturn, 1) := by decide +kernel
theorem dX4_isSize_0 : decode cX4_isSize 0 = .ok (.iload_n 0, 1) := by decide +kernel
theorem dX4_isSize_1 : decode cX4_isSize 1 = .ok (.bipush 10, 2) := by decide +kernel
theorem dX4_isSize_3 : decode cX4_isSize 3 = .ok (.if_icmp .lt 13, 3) := by decide +kernel
theorem dX4_isSize_6 : decode cX4_isSize 6 = .ok (.iload_n 0, 1) := by decide +kernel
theorem dX4_isSize_7 : decode cX4_isSize 7 = .ok (.bipush 60, 2) := by decide +kernel
theorem dX4_isSize_9 : decode cX4_isSize 9 = .ok (.if_icmp .gt 7, 3) := by decide +kernel
theorem dX4_isSize_12 : decode cX4_isSize 12 = .ok (.iconst 1, 1) := by decide +kernel
theorem dX4_isSize_13 : decode cX4_isSize 13 = .ok (.goto 4, 3) := by decide +kernel
theorem dX4_isSize_16 : decode cX4_isSize 16 = .ok (.iconst 0, 1) := by decide +kernel
theorem dX4_isSize_17 : decode cX4_isSize 17 = .ok (.ireturn, 1) := by decide +kernel
theorem dX4_isDirection_0 : decode cX4_isDirection 0 = .ok (.iload_n 0, 1) := by decide +kernel
theorem dX4_isDirection_1 : decode cX4_isDirection 1 = .ok (.ifCond .lt 13, 3) := by decide +kernel
theorem dX4_isDirection_4 : decode cX4_isDirection 4 = .ok (.iload_n 0, 1) := by decide +kernel
theorem dX4_isDirection_5 : decode cX4_isDirection 5 = .ok (.bipush 8, 2) := by decide +kernel
theorem dX4_isDirection_7 : decode cX4_isDirection 7 = .ok (.if_icmp .ge 7, 3) := by decide +kernel
theorem dX4_isDirection_10 : decode cX4_isDirection 10 = .ok (.iconst 1, 1) := by decide +kernel
theorem dX4_isDirection_11 : decode cX4_isDirection 11 = .ok (.goto 4, 3) := by decide +kernel
theorem dX4_isDirection_14 : decode cX4_isDirection 14 = .ok (.iconst 0, 1) := by decide +kernel
theorem dX4_isDirection_15 : decode cX4_isDirection 15 = .ok (.ireturn, 1) := by decide +kernel
theorem dX4_stepX_0 : decode cX4_stepX 0 = .ok (.iload_n 0, 1) := by decide +kernel
theorem dX4_stepX_1 : decode cX4_stepX 1 = .ok (.ifCond .lt 19, 3) := by decide +kernel
theorem dX4_stepX_4 : decode cX4_stepX 4 = .ok (.iload_n 0, 1) := by decide +kernel
theorem dX4_stepX_5 : decode cX4_stepX 5 = .ok (.getstatic 203, 3) := by decide +kernel
theorem dX4_stepX_8 : decode cX4_stepX 8 = .ok (.arraylength, 1) := by decide +kernel
theorem dX4_stepX_9 : decode cX4_stepX 9 = .ok (.if_icmp .ge 11, 3) := by decide +kernel
theorem dX4_stepX_12 : decode cX4_stepX 12 = .ok (.getstatic 203, 3) := by decide +kernel
theorem dX4_stepX_15 : decode cX4_stepX 15 = .ok (.iload_n 0, 1) := by decide +kernel
theorem dX4_stepX_16 : decode cX4_stepX 16 = .ok (.iaload, 1) := by decide +kernel
theorem dX4_stepX_17 : decode cX4_stepX 17 = .ok (.goto 4, 3) := by decide +kernel
theorem dX4_stepX_20 : decode cX4_stepX 20 = .ok (.iconst 0, 1) := by decide +kernel
theorem dX4_stepX_21 : decode cX4_stepX 21 = .ok (.ireturn, 1) := by decide +kernel
theorem dX4_stepY_0 : decode cX4_stepY 0 = .ok (.iload_n 0, 1) := by decide +kernel
theorem dX4_stepY_1 : decode cX4_stepY 1 = .ok (.ifCond .lt 19, 3) := by decide +kernel
theorem dX4_stepY_4 : decode cX4_stepY 4 = .ok (.iload_n 0, 1) := by decide +kernel
theorem dX4_stepY_5 : decode cX4_stepY 5 = .ok (.getstatic 207, 3) := by decide +kernel
theorem dX4_stepY_8 : decode cX4_stepY 8 = .ok (.arraylength, 1) := by decide +kernel
theorem dX4_stepY_9 : decode cX4_stepY 9 = .ok (.if_icmp .ge 11, 3) := by decide +kernel
theorem dX4_stepY_12 : decode cX4_stepY 12 = .ok (.getstatic 207, 3) := by decide +kernel
theorem dX4_stepY_15 : decode cX4_stepY 15 = .ok (.iload_n 0, 1) := by decide +kernel
theorem dX4_stepY_16 : decode cX4_stepY 16 = .ok (.iaload, 1) := by decide +kernel
theorem dX4_stepY_17 : decode cX4_stepY 17 = .ok (.goto 4, 3) := by decide +kernel
theorem dX4_stepY_20 : decode cX4_stepY 20 = .ok (.iconst 0, 1) := by decide +kernel
theorem dX4_stepY_21 : decode cX4_stepY 21 = .ok (.ireturn, 1) := by decide +kernel
set_option maxRecDepth 20000 in
theorem ggX4_placeOfCorner_X0_x : GoodIn wsX4_placeOfCorner wsX0_x := goodIn_r _ [7, 8, 14, 15, 16] (by decide +kernel) (by decide +kernel)
set_option maxRecDepth 20000 in
theorem gX4_placeOfCorner_X0_x : GoodIn wsX4_placeOfCorner (wsV RX4 210 RX0 yX0_x wsX0_x) := goodIn_app (goodIn_of _ (by decide +kernel)) ggX4_placeOfCorner_X0_x
set_option maxRecDepth 20000 in
theorem ggX4_placeOfCorner_X0_y : GoodIn wsX4_placeOfCorner wsX0_y := goodIn_r _ [12, 13, 14, 15, 16] (by decide +kernel) (by decide +kernel)
set_option maxRecDepth 20000 in
theorem gX4_placeOfCorner_X0_y : GoodIn wsX4_placeOfCorner (wsV RX4 213 RX0 yX0_y wsX0_y) := goodIn_app (goodIn_of _ (by decide +kernel)) ggX4_placeOfCorner_X0_y
theorem dX4_placeOfCorner_0 : decode cX4_placeOfCorner 0 = .ok (.iload_n 1, 1) := by decide +kernel
theorem dX4_placeOfCorner_1 : decode cX4_placeOfCorner 1 = .ok (.iconst 1, 1) := by decide +kernel
theorem dX4_placeOfCorner_2 : decode cX4_placeOfCorner 2 = .ok (.ishr, 1) := by decide +kernel
theorem dX4_placeOfCorner_3 : decode cX4_placeOfCorner 3 = .ok (.istore_n 2, 1) := by decide +kernel
theorem dX4_placeOfCorner_4 : decode cX4_placeOfCorner 4 = .ok (.iload_n 2, 1) := by decide +kernel
theorem dX4_placeOfCorner_5 : decode cX4_placeOfCorner 5 = .ok (.aload_n 0, 1) := by decide +kernel
theorem dX4_placeOfCorner_6 : decode cX4_placeOfCorner 6 = .ok (.getfield 113, 3) := by decide +kernel
theorem dX4_placeOfCorner_9 : decode cX4_placeOfCorner 9 = .ok (.if_icmp .lt 6, 3) := by decide +kernel
theorem dX4_placeOfCorner_12 : decode cX4_placeOfCorner 12 = .ok (.ldc 171, 2) := by decide +kernel
theorem dX4_placeOfCorner_14 : decode cX4_placeOfCorner 14 = .ok (.ireturn, 1) := by decide +kernel
theorem dX4_placeOfCorner_15 : decode cX4_placeOfCorner 15 = .ok (.iload_n 1, 1) := by decide +kernel
theorem dX4_placeOfCorner_16 : decode cX4_placeOfCorner 16 = .ok (.iconst 1, 1) := by decide +kernel
theorem dX4_placeOfCorner_17 : decode cX4_placeOfCorner 17 = .ok (.iand, 1) := by decide +kernel
theorem dX4_placeOfCorner_18 : decode cX4_placeOfCorner 18 = .ok (.ifCond .ne 11, 3) := by decide +kernel
theorem dX4_placeOfCorner_21 : decode cX4_placeOfCorner 21 = .ok (.aload_n 0, 1) := by decide +kernel
theorem dX4_placeOfCorner_22 : decode cX4_placeOfCorner 22 = .ok (.iload_n 2, 1) := by decide +kernel
theorem dX4_placeOfCorner_23 : decode cX4_placeOfCorner 23 = .ok (.invokevirtual 210, 3) := by decide +kernel
theorem dX4_placeOfCorner_26 : decode cX4_placeOfCorner 26 = .ok (.goto 8, 3) := by decide +kernel
theorem dX4_placeOfCorner_29 : decode cX4_placeOfCorner 29 = .ok (.aload_n 0, 1) := by decide +kernel
theorem dX4_placeOfCorner_30 : decode cX4_placeOfCorner 30 = .ok (.iload_n 2, 1) := by decide +kernel
theorem dX4_placeOfCorner_31 : decode cX4_placeOfCorner 31 = .ok (.invokevirtual 213, 3) := by decide +kernel
theorem dX4_placeOfCorner_34 : decode cX4_placeOfCorner 34 = .ok (.ireturn, 1) := by decide +kernel
theorem dX4_bitsOfShare_0 : decode cX4_bitsOfShare 0 = .ok (.fload_n 0, 1) := by decide +kernel
theorem dX4_bitsOfShare_1 : decode cX4_bitsOfShare 1 = .ok (.fconst 0, 1) := by decide +kernel
theorem dX4_bitsOfShare_2 : decode cX4_bitsOfShare 2 = .ok (.fcmp .l, 1) := by decide +kernel
theorem dX4_bitsOfShare_3 : decode cX4_bitsOfShare 3 = .ok (.ifCond .gt 5, 3) := by decide +kernel
theorem dX4_bitsOfShare_6 : decode cX4_bitsOfShare 6 = .ok (.iconst 0, 1) := by decide +kernel
theorem dX4_bitsOfShare_7 : decode cX4_bitsOfShare 7 = .ok (.ireturn, 1) := by decide +kernel
theorem dX4_bitsOfShare_8 : decode cX4_bitsOfShare 8 = .ok (.bipush 127, 2) := by decide +kernel
theorem dX4_bitsOfShare_10 : decode cX4_bitsOfShare 10 = .ok (.istore_n 1, 1) := by decide +kernel
theorem dX4_bitsOfShare_11 : decode cX4_bitsOfShare 11 = .ok (.fload_n 0, 1) := by decide +kernel
theorem dX4_bitsOfShare_12 : decode cX4_bitsOfShare 12 = .ok (.fstore_n 2, 1) := by decide +kernel
theorem dX4_bitsOfShare_13 : decode cX4_bitsOfShare 13 = .ok (.fload_n 2, 1) := by decide +kernel
theorem dX4_bitsOfShare_14 : decode cX4_bitsOfShare 14 = .ok (.fconst 1, 1) := by decide +kernel
theorem dX4_bitsOfShare_15 : decode cX4_bitsOfShare 15 = .ok (.fcmp .g, 1) := by decide +kernel
theorem dX4_bitsOfShare_16 : decode cX4_bitsOfShare 16 = .ok (.ifCond .ge 18, 3) := by decide +kernel
theorem dX4_bitsOfShare_19 : decode cX4_bitsOfShare 19 = .ok (.iload_n 1, 1) := by decide +kernel
theorem dX4_bitsOfShare_20 : decode cX4_bitsOfShare 20 = .ok (.iconst 1, 1) := by decide +kernel
theorem dX4_bitsOfShare_21 : decode cX4_bitsOfShare 21 = .ok (.if_icmp .le 13, 3) := by decide +kernel
theorem dX4_bitsOfShare_24 : decode cX4_bitsOfShare 24 = .ok (.fload_n 2, 1) := by decide +kernel
theorem dX4_bitsOfShare_25 : decode cX4_bitsOfShare 25 = .ok (.fconst 2, 1) := by decide +kernel
theorem dX4_bitsOfShare_26 : decode cX4_bitsOfShare 26 = .ok (.fmul, 1) := by decide +kernel
theorem dX4_bitsOfShare_27 : decode cX4_bitsOfShare 27 = .ok (.fstore_n 2, 1) := by decide +kernel
theorem dX4_bitsOfShare_28 : decode cX4_bitsOfShare 28 = .ok (.iinc 1 (-1), 3) := by decide +kernel
theorem dX4_bitsOfShare_31 : decode cX4_bitsOfShare 31 = .ok (.goto (-18), 3) := by decide +kernel
theorem dX4_bitsOfShare_34 : decode cX4_bitsOfShare 34 = .ok (.iload_n 1, 1) := by decide +kernel
theorem dX4_bitsOfShare_35 : decode cX4_bitsOfShare 35 = .ok (.bipush 23, 2) := by decide +kernel
theorem dX4_bitsOfShare_37 : decode cX4_bitsOfShare 37 = .ok (.ishl, 1) := by decide +kernel
theorem dX4_bitsOfShare_38 : decode cX4_bitsOfShare 38 = .ok (.fload_n 2, 1) := by decide +kernel
theorem dX4_bitsOfShare_39 : decode cX4_bitsOfShare 39 = .ok (.fconst 1, 1) := by decide +kernel
theorem dX4_bitsOfShare_40 : decode cX4_bitsOfShare 40 = .ok (.fsub, 1) := by decide +kernel
theorem dX4_bitsOfShare_41 : decode cX4_bitsOfShare 41 = .ok (.ldc 216, 2) := by decide +kernel
theorem dX4_bitsOfShare_43 : decode cX4_bitsOfShare 43 = .ok (.fmul, 1) := by decide +kernel
theorem dX4_bitsOfShare_44 : decode cX4_bitsOfShare 44 = .ok (.f2i, 1) := by decide +kernel
theorem dX4_bitsOfShare_45 : decode cX4_bitsOfShare 45 = .ok (.iadd, 1) := by decide +kernel
theorem dX4_bitsOfShare_46 : decode cX4_bitsOfShare 46 = .ok (.ireturn, 1) := by decide +kernel
theorem dX4_lowest_0 : decode cX4_lowest 0 = .ok (.iconst 0, 1) := by decide +kernel
theorem dX4_lowest_1 : decode cX4_lowest 1 = .ok (.istore_n 1, 1) := by decide +kernel
theorem dX4_lowest_2 : decode cX4_lowest 2 = .ok (.iload_n 1, 1) := by decide +kernel
theorem dX4_lowest_3 : decode cX4_lowest 3 = .ok (.bipush 8, 2) := by decide +kernel
theorem dX4_lowest_5 : decode cX4_lowest 5 = .ok (.if_icmp .ge 17, 3) := by decide +kernel
theorem dX4_lowest_8 : decode cX4_lowest 8 = .ok (.iload_n 0, 1) := by decide +kernel
theorem dX4_lowest_9 : decode cX4_lowest 9 = .ok (.iconst 1, 1) := by decide +kernel
theorem dX4_lowest_10 : decode cX4_lowest 10 = .ok (.iload_n 1, 1) := by decide +kernel
theorem dX4_lowest_11 : decode cX4_lowest 11 = .ok (.ishl, 1) := by decide +kernel
theorem dX4_lowest_12 : decode cX4_lowest 12 = .ok (.iand, 1) := by decide +kernel
theorem dX4_lowest_13 : decode cX4_lowest 13 = .ok (.ifCond .ne 9, 3) := by decide +kernel
theorem dX4_lowest_16 : decode cX4_lowest 16 = .ok (.iinc 1 1, 3) := by decide +kernel
theorem dX4_lowest_19 : decode cX4_lowest 19 = .ok (.goto (-17), 3) := by decide +kernel
theorem dX4_lowest_22 : decode cX4_lowest 22 = .ok (.iload_n 1, 1) := by decide +kernel
theorem dX4_lowest_23 : decode cX4_lowest 23 = .ok (.ireturn, 1) := by decide +kernel
theorem dX4_cross_0 : decode cX4_cross 0 = .ok (.iload_n 2, 1) := by decide +kernel
theorem dX4_cross_1 : decode cX4_cross 1 = .ok (.iload_n 0, 1) := by decide +kernel
theorem dX4_cross_2 : decode cX4_cross 2 = .ok (.isub, 1) := by decide +kernel
theorem dX4_cross_3 : decode cX4_cross 3 = .ok (.iload 5, 2) := by decide +kernel
theorem dX4_cross_5 : decode cX4_cross 5 = .ok (.iload_n 1, 1) := by decide +kernel
theorem dX4_cross_6 : decode cX4_cross 6 = .ok (.isub, 1) := by decide +kernel
theorem dX4_cross_7 : decode cX4_cross 7 = .ok (.imul, 1) := by decide +kernel
theorem dX4_cross_8 : decode cX4_cross 8 = .ok (.iload_n 3, 1) := by decide +kernel
theorem dX4_cross_9 : decode cX4_cross 9 = .ok (.iload_n 1, 1) := by decide +kernel
theorem dX4_cross_10 : decode cX4_cross 10 = .ok (.isub, 1) := by decide +kernel
theorem dX4_cross_11 : decode cX4_cross 11 = .ok (.iload 4, 2) := by decide +kernel
theorem dX4_cross_13 : decode cX4_cross 13 = .ok (.iload_n 0, 1) := by decide +kernel
theorem dX4_cross_14 : decode cX4_cross 14 = .ok (.isub, 1) := by decide +kernel
theorem dX4_cross_15 : decode cX4_cross 15 = .ok (.imul, 1) := by decide +kernel
theorem dX4_cross_16 : decode cX4_cross 16 = .ok (.isub, 1) := by decide +kernel
theorem dX4_cross_17 : decode cX4_cross 17 = .ok (.ireturn, 1) := by decide +kernel
theorem dJ6_bitCount_0f7a4_0 : decode cJ6_bitCount_0f7a4 0 = .ok (.iload_n 0, 1) := by decide +kernel
theorem dJ6_bitCount_0f7a4_1 : decode cJ6_bitCount_0f7a4 1 = .ok (.iload_n 0, 1) := by decide +kernel
theorem dJ6_bitCount_0f7a4_2 : decode cJ6_bitCount_0f7a4 2 = .ok (.iconst 1, 1) := by decide +kernel
theorem dJ6_bitCount_0f7a4_3 : decode cJ6_bitCount_0f7a4 3 = .ok (.iushr, 1) := by decide +kernel
theorem dJ6_bitCount_0f7a4_4 : decode cJ6_bitCount_0f7a4 4 = .ok (.ldc_w 265, 3) := by decide +kernel
theorem dJ6_bitCount_0f7a4_7 : decode cJ6_bitCount_0f7a4 7 = .ok (.iand, 1) := by decide +kernel
theorem dJ6_bitCount_0f7a4_8 : decode cJ6_bitCount_0f7a4 8 = .ok (.isub, 1) := by decide +kernel
theorem dJ6_bitCount_0f7a4_9 : decode cJ6_bitCount_0f7a4 9 = .ok (.istore_n 0, 1) := by decide +kernel
theorem dJ6_bitCount_0f7a4_10 : decode cJ6_bitCount_0f7a4 10 = .ok (.iload_n 0, 1) := by decide +kernel
theorem dJ6_bitCount_0f7a4_11 : decode cJ6_bitCount_0f7a4 11 = .ok (.ldc_w 266, 3) := by decide +kernel
theorem dJ6_bitCount_0f7a4_14 : decode cJ6_bitCount_0f7a4 14 = .ok (.iand, 1) := by decide +kernel
theorem dJ6_bitCount_0f7a4_15 : decode cJ6_bitCount_0f7a4 15 = .ok (.iload_n 0, 1) := by decide +kernel
theorem dJ6_bitCount_0f7a4_16 : decode cJ6_bitCount_0f7a4 16 = .ok (.iconst 2, 1) := by decide +kernel
theorem dJ6_bitCount_0f7a4_17 : decode cJ6_bitCount_0f7a4 17 = .ok (.iushr, 1) := by decide +kernel
theorem dJ6_bitCount_0f7a4_18 : decode cJ6_bitCount_0f7a4 18 = .ok (.ldc_w 266, 3) := by decide +kernel
theorem dJ6_bitCount_0f7a4_21 : decode cJ6_bitCount_0f7a4 21 = .ok (.iand, 1) := by decide +kernel
theorem dJ6_bitCount_0f7a4_22 : decode cJ6_bitCount_0f7a4 22 = .ok (.iadd, 1) := by decide +kernel
theorem dJ6_bitCount_0f7a4_23 : decode cJ6_bitCount_0f7a4 23 = .ok (.istore_n 0, 1) := by decide +kernel
theorem dJ6_bitCount_0f7a4_24 : decode cJ6_bitCount_0f7a4 24 = .ok (.iload_n 0, 1) := by decide +kernel
theorem dJ6_bitCount_0f7a4_25 : decode cJ6_bitCount_0f7a4 25 = .ok (.iload_n 0, 1) := by decide +kernel
theorem dJ6_bitCount_0f7a4_26 : decode cJ6_bitCount_0f7a4 26 = .ok (.iconst 4, 1) := by decide +kernel
theorem dJ6_bitCount_0f7a4_27 : decode cJ6_bitCount_0f7a4 27 = .ok (.iushr, 1) := by decide +kernel
theorem dJ6_bitCount_0f7a4_28 : decode cJ6_bitCount_0f7a4 28 = .ok (.iadd, 1) := by decide +kernel
theorem dJ6_bitCount_0f7a4_29 : decode cJ6_bitCount_0f7a4 29 = .ok (.ldc_w 267, 3) := by decide +kernel
theorem dJ6_bitCount_0f7a4_32 : decode cJ6_bitCount_0f7a4 32 = .ok (.iand, 1) := by decide +kernel
theorem dJ6_bitCount_0f7a4_33 : decode cJ6_bitCount_0f7a4 33 = .ok (.istore_n 0, 1) := by decide +kernel
theorem dJ6_bitCount_0f7a4_34 : decode cJ6_bitCount_0f7a4 34 = .ok (.iload_n 0, 1) := by decide +kernel
theorem dJ6_bitCount_0f7a4_35 : decode cJ6_bitCount_0f7a4 35 = .ok (.iload_n 0, 1) := by decide +kernel
theorem dJ6_bitCount_0f7a4_36 : decode cJ6_bitCount_0f7a4 36 = .ok (.bipush 8, 2) := by decide +kernel
theorem dJ6_bitCount_0f7a4_38 : decode cJ6_bitCount_0f7a4 38 = .ok (.iushr, 1) := by decide +kernel
theorem dJ6_bitCount_0f7a4_39 : decode cJ6_bitCount_0f7a4 39 = .ok (.iadd, 1) := by decide +kernel
theorem dJ6_bitCount_0f7a4_40 : decode cJ6_bitCount_0f7a4 40 = .ok (.istore_n 0, 1) := by decide +kernel
theorem dJ6_bitCount_0f7a4_41 : decode cJ6_bitCount_0f7a4 41 = .ok (.iload_n 0, 1) := by decide +kernel
theorem dJ6_bitCount_0f7a4_42 : decode cJ6_bitCount_0f7a4 42 = .ok (.iload_n 0, 1) := by decide +kernel
theorem dJ6_bitCount_0f7a4_43 : decode cJ6_bitCount_0f7a4 43 = .ok (.bipush 16, 2) := by decide +kernel
theorem dJ6_bitCount_0f7a4_45 : decode cJ6_bitCount_0f7a4 45 = .ok (.iushr, 1) := by decide +kernel
theorem dJ6_bitCount_0f7a4_46 : decode cJ6_bitCount_0f7a4 46 = .ok (.iadd, 1) := by decide +kernel
theorem dJ6_bitCount_0f7a4_47 : decode cJ6_bitCount_0f7a4 47 = .ok (.istore_n 0, 1) := by decide +kernel
theorem dJ6_bitCount_0f7a4_48 : decode cJ6_bitCount_0f7a4 48 = .ok (.iload_n 0, 1) := by decide +kernel
theorem dJ6_bitCount_0f7a4_49 : decode cJ6_bitCount_0f7a4 49 = .ok (.bipush 63, 2) := by decide +kernel
theorem dJ6_bitCount_0f7a4_51 : decode cJ6_bitCount_0f7a4 51 = .ok (.iand, 1) := by decide +kernel
theorem dJ6_bitCount_0f7a4_52 : decode cJ6_bitCount_0f7a4 52 = .ok (.ireturn, 1) := by decide +kernel
theorem dJ9_max_7cf53_0 : decode cJ9_max_7cf53 0 = .ok (.iload_n 0, 1) := by decide +kernel
theorem dJ9_max_7cf53_1 : decode cJ9_max_7cf53 1 = .ok (.iload_n 1, 1) := by decide +kernel
theorem dJ9_max_7cf53_2 : decode cJ9_max_7cf53 2 = .ok (.if_icmp .lt 7, 3) := by decide +kernel
theorem dJ9_max_7cf53_5 : decode cJ9_max_7cf53 5 = .ok (.iload_n 0, 1) := by decide +kernel
theorem dJ9_max_7cf53_6 : decode cJ9_max_7cf53 6 = .ok (.goto 4, 3) := by decide +kernel
theorem dJ9_max_7cf53_9 : decode cJ9_max_7cf53 9 = .ok (.iload_n 1, 1) := by decide +kernel
theorem dJ9_max_7cf53_10 : decode cJ9_max_7cf53 10 = .ok (.ireturn, 1) := by decide +kernel
theorem dJ9_min_7cf53_0 : decode cJ9_min_7cf53 0 = .ok (.iload_n 0, 1) := by decide +kernel
theorem dJ9_min_7cf53_1 : decode cJ9_min_7cf53 1 = .ok (.iload_n 1, 1) := by decide +kernel
theorem dJ9_min_7cf53_2 : decode cJ9_min_7cf53 2 = .ok (.if_icmp .gt 7, 3) := by decide +kernel
theorem dJ9_min_7cf53_5 : decode cJ9_min_7cf53 5 = .ok (.iload_n 0, 1) := by decide +kernel
theorem dJ9_min_7cf53_6 : decode cJ9_min_7cf53 6 = .ok (.goto 4, 3) := by decide +kernel
theorem dJ9_min_7cf53_9 : decode cJ9_min_7cf53 9 = .ok (.iload_n 1, 1) := by decide +kernel
theorem dJ9_min_7cf53_10 : decode cJ9_min_7cf53 10 = .ok (.ireturn, 1) := by decide +kernel
theorem dL_cell_0 : decode cL_cell 0 = .ok (.iload_n 1, 1) := by decide +kernel
theorem dL_cell_1 : decode cL_cell 1 = .ok (.aload_n 0, 1) := by decide +kernel
theorem dL_cell_2 : decode cL_cell 2 = .ok (.arraylength, 1) := by decide +kernel
theorem dL_cell_3 : decode cL_cell 3 = .ok (.if_icmp .ge 9, 3) := by decide +kernel
theorem dL_cell_6 : decode cL_cell 6 = .ok (.aload_n 0, 1) := by decide +kernel
theorem dL_cell_7 : decode cL_cell 7 = .ok (.iload_n 1, 1) := by decide +kernel
theorem dL_cell_8 : decode cL_cell 8 = .ok (.iaload, 1) := by decide +kernel
theorem dL_cell_9 : decode cL_cell 9 = .ok (.goto 11, 3) := by decide +kernel
theorem dL_cell_12 : decode cL_cell 12 = .ok (.ldc 7, 2) := by decide +kernel
theorem dL_cell_14 : decode cL_cell 14 = .ok (.iload_n 1, 1) := by decide +kernel
theorem dL_cell_15 : decode cL_cell 15 = .ok (.sipush 419, 3) := by decide +kernel
theorem dL_cell_18 : decode cL_cell 18 = .ok (.iadd, 1) := by decide +kernel
theorem dL_cell_19 : decode cL_cell 19 = .ok (.imul, 1) := by decide +kernel
theorem dL_cell_20 : decode cL_cell 20 = .ok (.ireturn, 1) := by decide +kernel
theorem dL_up_0 : decode cL_up 0 = .ok (.iload_n 0, 1) := by decide +kernel
theorem dL_up_1 : decode cL_up 1 = .ok (.ldc 8, 2) := by decide +kernel
theorem dL_up_3 : decode cL_up 3 = .ok (.iand, 1) := by decide +kernel
theorem dL_up_4 : decode cL_up 4 = .ok (.iload_n 1, 1) := by decide +kernel
theorem dL_up_5 : decode cL_up 5 = .ok (.irem, 1) := by decide +kernel
theorem dL_up_6 : decode cL_up 6 = .ok (.ireturn, 1) := by decide +kernel
set_option maxRecDepth 20000 in
theorem ggL_corner_X4_type : GoodIn wsL_corner wsX4_type := goodIn_r _ [5, 6, 7, 8, 9, 10, 11, 12, 13, 14, 15, 16, 17, 18, 19, 20, 21, 22, 23, 24, 25, 26, 27] (by decide +kernel) (by decide +kernel)
set_option maxRecDepth 20000 in
theorem gL_corner_X4_type : GoodIn wsL_corner (wsV RL 9 RX4 yX4_type wsX4_type) := goodIn_app (goodIn_of _ (by decide +kernel)) ggL_corner_X4_type
theorem dL_corner_0 : decode cL_corner 0 = .ok (.aload_n 0, 1) := by decide +kernel
theorem dL_corner_1 : decode cL_corner 1 = .ok (.bipush 48, 2) := by decide +kernel
theorem dL_corner_3 : decode cL_corner 3 = .ok (.iload_n 1, 1) := by decide +kernel
theorem dL_corner_4 : decode cL_corner 4 = .ok (.bipush 10, 2) := by decide +kernel
theorem dL_corner_6 : decode cL_corner 6 = .ok (.idiv, 1) := by decide +kernel
theorem dL_corner_7 : decode cL_corner 7 = .ok (.iadd, 1) := by decide +kernel
theorem dL_corner_8 : decode cL_corner 8 = .ok (.invokevirtual 9, 3) := by decide +kernel
theorem dL_corner_11 : decode cL_corner 11 = .ok (.ifCond .le 58, 3) := by decide +kernel
theorem dL_corner_14 : decode cL_corner 14 = .ok (.aload_n 0, 1) := by decide +kernel
theorem dL_corner_15 : decode cL_corner 15 = .ok (.bipush 48, 2) := by decide +kernel
theorem dL_corner_17 : decode cL_corner 17 = .ok (.iload_n 1, 1) := by decide +kernel
theorem dL_corner_18 : decode cL_corner 18 = .ok (.bipush 10, 2) := by decide +kernel
theorem dL_corner_20 : decode cL_corner 20 = .ok (.irem, 1) := by decide +kernel
theorem dL_corner_21 : decode cL_corner 21 = .ok (.iadd, 1) := by decide +kernel
theorem dL_corner_22 : decode cL_corner 22 = .ok (.invokevirtual 9, 3) := by decide +kernel
theorem dL_corner_25 : decode cL_corner 25 = .ok (.ifCond .le 44, 3) := by decide +kernel
theorem dL_corner_28 : decode cL_corner 28 = .ok (.aload_n 0, 1) := by decide +kernel
theorem dL_corner_29 : decode cL_corner 29 = .ok (.bipush 44, 2) := by decide +kernel
theorem dL_corner_31 : decode cL_corner 31 = .ok (.invokevirtual 9, 3) := by decide +kernel
theorem dL_corner_34 : decode cL_corner 34 = .ok (.ifCond .le 35, 3) := by decide +kernel
theorem dL_corner_37 : decode cL_corner 37 = .ok (.aload_n 0, 1) := by decide +kernel
theorem dL_corner_38 : decode cL_corner 38 = .ok (.bipush 48, 2) := by decide +kernel
theorem dL_corner_40 : decode cL_corner 40 = .ok (.iload_n 2, 1) := by decide +kernel
theorem dL_corner_41 : decode cL_corner 41 = .ok (.bipush 10, 2) := by decide +kernel
theorem dL_corner_43 : decode cL_corner 43 = .ok (.idiv, 1) := by decide +kernel
theorem dL_corner_44 : decode cL_corner 44 = .ok (.iadd, 1) := by decide +kernel
theorem dL_corner_45 : decode cL_corner 45 = .ok (.invokevirtual 9, 3) := by decide +kernel
theorem dL_corner_48 : decode cL_corner 48 = .ok (.ifCond .le 21, 3) := by decide +kernel
theorem dL_corner_51 : decode cL_corner 51 = .ok (.aload_n 0, 1) := by decide +kernel
theorem dL_corner_52 : decode cL_corner 52 = .ok (.bipush 48, 2) := by decide +kernel
theorem dL_corner_54 : decode cL_corner 54 = .ok (.iload_n 2, 1) := by decide +kernel
theorem dL_corner_55 : decode cL_corner 55 = .ok (.bipush 10, 2) := by decide +kernel
theorem dL_corner_57 : decode cL_corner 57 = .ok (.irem, 1) := by decide +kernel
theorem dL_corner_58 : decode cL_corner 58 = .ok (.iadd, 1) := by decide +kernel
theorem dL_corner_59 : decode cL_corner 59 = .ok (.invokevirtual 9, 3) := by decide +kernel
theorem dL_corner_62 : decode cL_corner 62 = .ok (.ifCond .le 7, 3) := by decide +kernel
theorem dL_corner_65 : decode cL_corner 65 = .ok (.iconst 1, 1) := by decide +kernel
theorem dL_corner_66 : decode cL_corner 66 = .ok (.goto 4, 3) := by decide +kernel
theorem dL_corner_69 : decode cL_corner 69 = .ok (.iconst 0, 1) := by decide +kernel
theorem dL_corner_70 : decode cL_corner 70 = .ok (.istore 4, 2) := by decide +kernel
theorem dL_corner_72 : decode cL_corner 72 = .ok (.iload 4, 2) := by decide +kernel
theorem dL_corner_74 : decode cL_corner 74 = .ok (.ifCond .eq 19, 3) := by decide +kernel
theorem dL_corner_77 : decode cL_corner 77 = .ok (.iload_n 3, 1) := by decide +kernel
theorem dL_corner_78 : decode cL_corner 78 = .ok (.ifCond .eq 11, 3) := by decide +kernel
theorem dL_corner_81 : decode cL_corner 81 = .ok (.aload_n 0, 1) := by decide +kernel
theorem dL_corner_82 : decode cL_corner 82 = .ok (.iload_n 3, 1) := by decide +kernel
theorem dL_corner_83 : decode cL_corner 83 = .ok (.invokevirtual 9, 3) := by decide +kernel
theorem dL_corner_86 : decode cL_corner 86 = .ok (.ifCond .le 7, 3) := by decide +kernel
theorem dL_corner_89 : decode cL_corner 89 = .ok (.iconst 1, 1) := by decide +kernel
theorem dL_corner_90 : decode cL_corner 90 = .ok (.goto 4, 3) := by decide +kernel
theorem dL_corner_93 : decode cL_corner 93 = .ok (.iconst 0, 1) := by decide +kernel
theorem dL_corner_94 : decode cL_corner 94 = .ok (.ireturn, 1) := by decide +kernel
set_option maxRecDepth 20000 in
theorem ggL_puts_X4_count : GoodIn wsL_puts wsX4_count := goodIn_r _ [6, 7, 8, 9, 10, 11, 12, 13, 14, 15, 16, 17, 18, 19, 20, 21, 22, 23, 24, 25, 26, 27, 28, 29, 30, 31, 32, 33, 34, 35, 36, 37, 38, 39, 40, 41, 42, 43, 44, 45, 46, 47, 48, 49, 50, 51, 52, 53, 54, 55, 56, 57, 58, 59, 60, 61, 62, 63, 64, 65, 66, 67, 68, 69, 70, 71, 72, 73, 74, 75, 76, 77, 78, 5, 79, 80, 81, 82, 83, 84, 85, 86, 218, 219, 220, 221, 222, 223, 224, 225, 226, 227, 228, 229, 230, 231, 232, 233, 234, 235, 236, 237, 238, 239, 240, 241] (by decide +kernel) (by decide +kernel)
set_option maxRecDepth 20000 in
theorem gL_puts_X4_count : GoodIn wsL_puts (wsV RL 15 RX4 yX4_count wsX4_count) := goodIn_app (goodIn_of _ (by decide +kernel)) ggL_puts_X4_count
set_option maxRecDepth 20000 in
theorem ggL_puts_L_up : GoodIn wsL_puts wsL_up := goodIn_r _ [90, 91] (by decide +kernel) (by decide +kernel)
set_option maxRecDepth 20000 in
theorem gL_puts_L_up : GoodIn wsL_puts (va_wsS RL 18 yL_up wsL_up) := goodIn_app (goodIn_of _ (by decide +kernel)) ggL_puts_L_up
set_option maxRecDepth 20000 in
theorem ggL_puts_X4_clearText : GoodIn wsL_puts wsX4_clearText := goodIn_r _ [95, 13, 14, 218, 219, 220, 221, 232, 233, 234, 235, 236, 237, 238] (by decide +kernel) (by decide +kernel)
set_option maxRecDepth 20000 in
theorem gL_puts_X4_clearText : GoodIn wsL_puts (wsV RL 24 RX4 yX4_clearText wsX4_clearText) := goodIn_app (goodIn_of _ (by decide +kernel)) ggL_puts_X4_clearText
set_option maxRecDepth 20000 in
theorem ggL_puts_L_corner : GoodIn wsL_puts wsL_corner := goodIn_r _ [98, 99, 100, 101, 5, 102, 15, 13, 14, 103, 104, 105, 106, 107, 108, 109, 110, 218, 219, 220, 221, 232, 233, 234, 235, 236, 237, 238] (by decide +kernel) (by decide +kernel)
set_option maxRecDepth 20000 in
theorem gL_puts_L_corner : GoodIn wsL_puts (va_wsS RL 28 yL_corner wsL_corner) := goodIn_app (goodIn_of _ (by decide +kernel)) ggL_puts_L_corner
set_option maxRecDepth 20000 in
theorem ggL_puts_X4_fault : GoodIn wsL_puts wsX4_fault := goodIn_r _ [114, 15, 13, 7, 115, 116, 117, 118, 119, 120, 121, 107, 122, 123, 124, 125, 126, 127, 128, 129, 130, 131, 132, 133, 134, 135, 136, 137, 138, 109, 139, 140, 141, 142, 143, 144, 145, 146, 110, 147, 148, 149, 150, 151, 152, 153, 154, 155, 156, 157, 31, 158, 33, 159, 160, 161, 162, 42, 47, 163, 164, 165, 166, 38, 39, 40, 41, 43, 44, 45, 46, 167, 168, 169, 170, 34, 35, 36, 37, 78, 5, 79, 171, 172, 173, 174, 175, 176, 177, 178, 179, 180, 181, 19, 182, 21, 22, 23, 24, 25, 26, 27, 65, 66, 67, 68, 69, 62, 63, 64, 70, 71, 72, 73, 74, 75, 76, 77, 183, 184, 218, 219, 220, 221, 232, 233, 234, 235, 236, 237, 238, 222, 223, 224, 225, 226, 227, 239, 240, 241] (by decide +kernel) (by decide +kernel)
set_option maxRecDepth 20000 in
theorem gL_puts_X4_fault : GoodIn wsL_puts (wsV RL 32 RX4 yX4_fault wsX4_fault) := goodIn_app (goodIn_of _ (by decide +kernel)) ggL_puts_X4_fault
set_option maxRecDepth 20000 in
theorem ggL_puts_X4_put : GoodIn wsL_puts wsX4_put := goodIn_r _ [188, 13, 7, 115, 189, 8, 103, 11, 190, 119, 120, 121, 107, 122, 123, 124, 125, 126, 127, 128, 129, 130, 131, 132, 133, 134, 135, 136, 137, 138, 109, 139, 140, 141, 142, 143, 144, 145, 146, 110, 147, 148, 149, 150, 151, 152, 153, 154, 155, 156, 157, 31, 158, 33, 159, 160, 161, 162, 42, 47, 163, 164, 165, 166, 38, 39, 40, 41, 43, 44, 45, 46, 167, 168, 169, 170, 34, 35, 36, 37, 78, 5, 79, 171, 172, 173, 174, 175, 176, 177, 178, 179, 180, 181, 19, 182, 21, 22, 23, 24, 25, 26, 27, 65, 66, 67, 68, 69, 62, 63, 64, 70, 71, 72, 73, 74, 75, 76, 77, 183, 184, 191, 192, 193, 194, 195, 196, 197, 198, 199, 200, 201, 202, 203, 204, 205, 206, 207, 208, 209, 210, 211, 212, 213, 214, 215, 216, 217, 218, 219, 220, 221, 232, 233, 234, 235, 236, 237, 238, 222, 223, 224, 225, 226, 227, 239, 240, 241, 228, 229, 230, 231] (by decide +kernel) (by decide +kernel)
set_option maxRecDepth 20000 in
theorem gL_puts_X4_put : GoodIn wsL_puts (wsV RL 35 RX4 yX4_put wsX4_put) := goodIn_app (goodIn_of _ (by decide +kernel)) ggL_puts_X4_put
theorem dL_puts_0 : decode cL_puts 0 = .ok (.aload_n 0, 1) := by decide +kernel
theorem dL_puts_1 : decode cL_puts 1 = .ok (.iconst 2, 1) := by decide +kernel
theorem dL_puts_2 : decode cL_puts 2 = .ok (.invokevirtual 15, 3) := by decide +kernel
theorem dL_puts_5 : decode cL_puts 5 = .ok (.istore_n 3, 1) := by decide +kernel
theorem dL_puts_6 : decode cL_puts 6 = .ok (.iconst 3, 1) := by decide +kernel
theorem dL_puts_7 : decode cL_puts 7 = .ok (.iload_n 2, 1) := by decide +kernel
theorem dL_puts_8 : decode cL_puts 8 = .ok (.iconst 2, 1) := by decide +kernel
theorem dL_puts_9 : decode cL_puts 9 = .ok (.invokestatic 18, 3) := by decide +kernel
theorem dL_puts_12 : decode cL_puts 12 = .ok (.iadd, 1) := by decide +kernel
theorem dL_puts_13 : decode cL_puts 13 = .ok (.istore 4, 2) := by decide +kernel
theorem dL_puts_15 : decode cL_puts 15 = .ok (.bipush 8, 2) := by decide +kernel
theorem dL_puts_17 : decode cL_puts 17 = .ok (.newarray .int, 2) := by decide +kernel
theorem dL_puts_19 : decode cL_puts 19 = .ok (.astore 5, 2) := by decide +kernel
theorem dL_puts_21 : decode cL_puts 21 = .ok (.iload_n 2, 1) := by decide +kernel
theorem dL_puts_22 : decode cL_puts 22 = .ok (.iconst 2, 1) := by decide +kernel
theorem dL_puts_23 : decode cL_puts 23 = .ok (.ishr, 1) := by decide +kernel
theorem dL_puts_24 : decode cL_puts 24 = .ok (.bipush 13, 2) := by decide +kernel
theorem dL_puts_26 : decode cL_puts 26 = .ok (.invokestatic 18, 3) := by decide +kernel
theorem dL_puts_29 : decode cL_puts 29 = .ok (.istore 6, 2) := by decide +kernel
theorem dL_puts_31 : decode cL_puts 31 = .ok (.iload_n 2, 1) := by decide +kernel
theorem dL_puts_32 : decode cL_puts 32 = .ok (.bipush 6, 2) := by decide +kernel
theorem dL_puts_34 : decode cL_puts 34 = .ok (.ishr, 1) := by decide +kernel
theorem dL_puts_35 : decode cL_puts 35 = .ok (.bipush 13, 2) := by decide +kernel
theorem dL_puts_37 : decode cL_puts 37 = .ok (.invokestatic 18, 3) := by decide +kernel
theorem dL_puts_40 : decode cL_puts 40 = .ok (.istore 7, 2) := by decide +kernel
theorem dL_puts_42 : decode cL_puts 42 = .ok (.iconst 0, 1) := by decide +kernel
theorem dL_puts_43 : decode cL_puts 43 = .ok (.istore 8, 2) := by decide +kernel
theorem dL_puts_45 : decode cL_puts 45 = .ok (.iload 8, 2) := by decide +kernel
theorem dL_puts_47 : decode cL_puts 47 = .ok (.iconst 4, 1) := by decide +kernel
theorem dL_puts_48 : decode cL_puts 48 = .ok (.if_icmp .ge 103, 3) := by decide +kernel
theorem dL_puts_51 : decode cL_puts 51 = .ok (.aload 5, 2) := by decide +kernel
theorem dL_puts_53 : decode cL_puts 53 = .ok (.iconst 2, 1) := by decide +kernel
theorem dL_puts_54 : decode cL_puts 54 = .ok (.iload 8, 2) := by decide +kernel
theorem dL_puts_56 : decode cL_puts 56 = .ok (.imul, 1) := by decide +kernel
theorem dL_puts_57 : decode cL_puts 57 = .ok (.iload 6, 2) := by decide +kernel
theorem dL_puts_59 : decode cL_puts 59 = .ok (.iload 8, 2) := by decide +kernel
theorem dL_puts_61 : decode cL_puts 61 = .ok (.iconst 1, 1) := by decide +kernel
theorem dL_puts_62 : decode cL_puts 62 = .ok (.if_icmp .eq 9, 3) := by decide +kernel
theorem dL_puts_65 : decode cL_puts 65 = .ok (.iload 8, 2) := by decide +kernel
theorem dL_puts_67 : decode cL_puts 67 = .ok (.iconst 2, 1) := by decide +kernel
theorem dL_puts_68 : decode cL_puts 68 = .ok (.if_icmp .ne 19, 3) := by decide +kernel
theorem dL_puts_71 : decode cL_puts 71 = .ok (.iconst 3, 1) := by decide +kernel
theorem dL_puts_72 : decode cL_puts 72 = .ok (.iload_n 2, 1) := by decide +kernel
theorem dL_puts_73 : decode cL_puts 73 = .ok (.bipush 9, 2) := by decide +kernel
theorem dL_puts_75 : decode cL_puts 75 = .ok (.iload 8, 2) := by decide +kernel
theorem dL_puts_77 : decode cL_puts 77 = .ok (.iadd, 1) := by decide +kernel
theorem dL_puts_78 : decode cL_puts 78 = .ok (.ishr, 1) := by decide +kernel
theorem dL_puts_79 : decode cL_puts 79 = .ok (.iconst 3, 1) := by decide +kernel
theorem dL_puts_80 : decode cL_puts 80 = .ok (.invokestatic 18, 3) := by decide +kernel
theorem dL_puts_83 : decode cL_puts 83 = .ok (.iadd, 1) := by decide +kernel
theorem dL_puts_84 : decode cL_puts 84 = .ok (.goto 14, 3) := by decide +kernel
theorem dL_puts_87 : decode cL_puts 87 = .ok (.iload_n 2, 1) := by decide +kernel
theorem dL_puts_88 : decode cL_puts 88 = .ok (.bipush 11, 2) := by decide +kernel
theorem dL_puts_90 : decode cL_puts 90 = .ok (.iload 8, 2) := by decide +kernel
theorem dL_puts_92 : decode cL_puts 92 = .ok (.iadd, 1) := by decide +kernel
theorem dL_puts_93 : decode cL_puts 93 = .ok (.ishr, 1) := by decide +kernel
theorem dL_puts_94 : decode cL_puts 94 = .ok (.iconst 3, 1) := by decide +kernel
theorem dL_puts_95 : decode cL_puts 95 = .ok (.invokestatic 18, 3) := by decide +kernel
theorem dL_puts_98 : decode cL_puts 98 = .ok (.iadd, 1) := by decide +kernel
theorem dL_puts_99 : decode cL_puts 99 = .ok (.iastore, 1) := by decide +kernel
theorem dL_puts_100 : decode cL_puts 100 = .ok (.aload 5, 2) := by decide +kernel
theorem dL_puts_102 : decode cL_puts 102 = .ok (.iconst 2, 1) := by decide +kernel
theorem dL_puts_103 : decode cL_puts 103 = .ok (.iload 8, 2) := by decide +kernel
theorem dL_puts_105 : decode cL_puts 105 = .ok (.imul, 1) := by decide +kernel
theorem dL_puts_106 : decode cL_puts 106 = .ok (.iconst 1, 1) := by decide +kernel
theorem dL_puts_107 : decode cL_puts 107 = .ok (.iadd, 1) := by decide +kernel
theorem dL_puts_108 : decode cL_puts 108 = .ok (.iload 7, 2) := by decide +kernel
theorem dL_puts_110 : decode cL_puts 110 = .ok (.iload 8, 2) := by decide +kernel
theorem dL_puts_112 : decode cL_puts 112 = .ok (.iconst 1, 1) := by decide +kernel
theorem dL_puts_113 : decode cL_puts 113 = .ok (.if_icmp .le 19, 3) := by decide +kernel
theorem dL_puts_116 : decode cL_puts 116 = .ok (.iconst 3, 1) := by decide +kernel
theorem dL_puts_117 : decode cL_puts 117 = .ok (.iload_n 2, 1) := by decide +kernel
theorem dL_puts_118 : decode cL_puts 118 = .ok (.bipush 13, 2) := by decide +kernel
theorem dL_puts_120 : decode cL_puts 120 = .ok (.iload 8, 2) := by decide +kernel
theorem dL_puts_122 : decode cL_puts 122 = .ok (.iadd, 1) := by decide +kernel
theorem dL_puts_123 : decode cL_puts 123 = .ok (.ishr, 1) := by decide +kernel
theorem dL_puts_124 : decode cL_puts 124 = .ok (.iconst 3, 1) := by decide +kernel
theorem dL_puts_125 : decode cL_puts 125 = .ok (.invokestatic 18, 3) := by decide +kernel
theorem dL_puts_128 : decode cL_puts 128 = .ok (.iadd, 1) := by decide +kernel
theorem dL_puts_129 : decode cL_puts 129 = .ok (.goto 14, 3) := by decide +kernel
theorem dL_puts_132 : decode cL_puts 132 = .ok (.iload_n 2, 1) := by decide +kernel
theorem dL_puts_133 : decode cL_puts 133 = .ok (.bipush 15, 2) := by decide +kernel
theorem dL_puts_135 : decode cL_puts 135 = .ok (.iload 8, 2) := by decide +kernel
theorem dL_puts_137 : decode cL_puts 137 = .ok (.iadd, 1) := by decide +kernel
theorem dL_puts_138 : decode cL_puts 138 = .ok (.ishr, 1) := by decide +kernel
theorem dL_puts_139 : decode cL_puts 139 = .ok (.iconst 3, 1) := by decide +kernel
theorem dL_puts_140 : decode cL_puts 140 = .ok (.invokestatic 18, 3) := by decide +kernel
theorem dL_puts_143 : decode cL_puts 143 = .ok (.iadd, 1) := by decide +kernel
theorem dL_puts_144 : decode cL_puts 144 = .ok (.iastore, 1) := by decide +kernel
theorem dL_puts_145 : decode cL_puts 145 = .ok (.iinc 8 1, 3) := by decide +kernel
theorem dL_puts_148 : decode cL_puts 148 = .ok (.goto (-103), 3) := by decide +kernel
theorem dL_puts_151 : decode cL_puts 151 = .ok (.aload_n 0, 1) := by decide +kernel
theorem dL_puts_152 : decode cL_puts 152 = .ok (.invokevirtual 24, 3) := by decide +kernel
theorem dL_puts_155 : decode cL_puts 155 = .ok (.ifCond .lt 14, 3) := by decide +kernel
theorem dL_puts_158 : decode cL_puts 158 = .ok (.aload_n 1, 1) := by decide +kernel
theorem dL_puts_159 : decode cL_puts 159 = .ok (.invokevirtual 24, 3) := by decide +kernel
theorem dL_puts_162 : decode cL_puts 162 = .ok (.ifCond .lt 7, 3) := by decide +kernel
theorem dL_puts_165 : decode cL_puts 165 = .ok (.iconst 1, 1) := by decide +kernel
theorem dL_puts_166 : decode cL_puts 166 = .ok (.goto 4, 3) := by decide +kernel
theorem dL_puts_169 : decode cL_puts 169 = .ok (.iconst 0, 1) := by decide +kernel
theorem dL_puts_170 : decode cL_puts 170 = .ok (.istore 8, 2) := by decide +kernel
theorem dL_puts_172 : decode cL_puts 172 = .ok (.iconst 0, 1) := by decide +kernel
theorem dL_puts_173 : decode cL_puts 173 = .ok (.istore 9, 2) := by decide +kernel
theorem dL_puts_175 : decode cL_puts 175 = .ok (.iload 9, 2) := by decide +kernel
theorem dL_puts_177 : decode cL_puts 177 = .ok (.iload 4, 2) := by decide +kernel
theorem dL_puts_179 : decode cL_puts 179 = .ok (.if_icmp .ge 90, 3) := by decide +kernel
theorem dL_puts_182 : decode cL_puts 182 = .ok (.iload 9, 2) := by decide +kernel
theorem dL_puts_184 : decode cL_puts 184 = .ok (.iconst 1, 1) := by decide +kernel
theorem dL_puts_185 : decode cL_puts 185 = .ok (.iadd, 1) := by decide +kernel
theorem dL_puts_186 : decode cL_puts 186 = .ok (.iload 4, 2) := by decide +kernel
theorem dL_puts_188 : decode cL_puts 188 = .ok (.if_icmp .ge 8, 3) := by decide +kernel
theorem dL_puts_191 : decode cL_puts 191 = .ok (.bipush 59, 2) := by decide +kernel
theorem dL_puts_193 : decode cL_puts 193 = .ok (.goto 4, 3) := by decide +kernel
theorem dL_puts_196 : decode cL_puts 196 = .ok (.iconst 0, 1) := by decide +kernel
theorem dL_puts_197 : decode cL_puts 197 = .ok (.istore 10, 2) := by decide +kernel
theorem dL_puts_199 : decode cL_puts 199 = .ok (.iload 8, 2) := by decide +kernel
theorem dL_puts_201 : decode cL_puts 201 = .ok (.ifCond .eq 59, 3) := by decide +kernel
theorem dL_puts_204 : decode cL_puts 204 = .ok (.aload_n 0, 1) := by decide +kernel
theorem dL_puts_205 : decode cL_puts 205 = .ok (.aload 5, 2) := by decide +kernel
theorem dL_puts_207 : decode cL_puts 207 = .ok (.iconst 2, 1) := by decide +kernel
theorem dL_puts_208 : decode cL_puts 208 = .ok (.iload 9, 2) := by decide +kernel
theorem dL_puts_210 : decode cL_puts 210 = .ok (.imul, 1) := by decide +kernel
theorem dL_puts_211 : decode cL_puts 211 = .ok (.iaload, 1) := by decide +kernel
theorem dL_puts_212 : decode cL_puts 212 = .ok (.aload 5, 2) := by decide +kernel
theorem dL_puts_214 : decode cL_puts 214 = .ok (.iconst 2, 1) := by decide +kernel
theorem dL_puts_215 : decode cL_puts 215 = .ok (.iload 9, 2) := by decide +kernel
theorem dL_puts_217 : decode cL_puts 217 = .ok (.imul, 1) := by decide +kernel
theorem dL_puts_218 : decode cL_puts 218 = .ok (.iconst 1, 1) := by decide +kernel
theorem dL_puts_219 : decode cL_puts 219 = .ok (.iadd, 1) := by decide +kernel
theorem dL_puts_220 : decode cL_puts 220 = .ok (.iaload, 1) := by decide +kernel
theorem dL_puts_221 : decode cL_puts 221 = .ok (.iload 10, 2) := by decide +kernel
theorem dL_puts_223 : decode cL_puts 223 = .ok (.invokestatic 28, 3) := by decide +kernel
theorem dL_puts_226 : decode cL_puts 226 = .ok (.ifCond .eq 34, 3) := by decide +kernel
theorem dL_puts_229 : decode cL_puts 229 = .ok (.aload_n 1, 1) := by decide +kernel
theorem dL_puts_230 : decode cL_puts 230 = .ok (.iload_n 3, 1) := by decide +kernel
theorem dL_puts_231 : decode cL_puts 231 = .ok (.aload 5, 2) := by decide +kernel
theorem dL_puts_233 : decode cL_puts 233 = .ok (.iconst 2, 1) := by decide +kernel
theorem dL_puts_234 : decode cL_puts 234 = .ok (.iload 9, 2) := by decide +kernel
theorem dL_puts_236 : decode cL_puts 236 = .ok (.imul, 1) := by decide +kernel
theorem dL_puts_237 : decode cL_puts 237 = .ok (.iconst 1, 1) := by decide +kernel
theorem dL_puts_238 : decode cL_puts 238 = .ok (.iadd, 1) := by decide +kernel
theorem dL_puts_239 : decode cL_puts 239 = .ok (.iaload, 1) := by decide +kernel
theorem dL_puts_240 : decode cL_puts 240 = .ok (.isub, 1) := by decide +kernel
theorem dL_puts_241 : decode cL_puts 241 = .ok (.aload 5, 2) := by decide +kernel
theorem dL_puts_243 : decode cL_puts 243 = .ok (.iconst 2, 1) := by decide +kernel
theorem dL_puts_244 : decode cL_puts 244 = .ok (.iload 9, 2) := by decide +kernel
theorem dL_puts_246 : decode cL_puts 246 = .ok (.imul, 1) := by decide +kernel
theorem dL_puts_247 : decode cL_puts 247 = .ok (.iaload, 1) := by decide +kernel
theorem dL_puts_248 : decode cL_puts 248 = .ok (.iload 10, 2) := by decide +kernel
theorem dL_puts_250 : decode cL_puts 250 = .ok (.invokestatic 28, 3) := by decide +kernel
theorem dL_puts_253 : decode cL_puts 253 = .ok (.ifCond .eq 7, 3) := by decide +kernel
theorem dL_puts_256 : decode cL_puts 256 = .ok (.iconst 1, 1) := by decide +kernel
theorem dL_puts_257 : decode cL_puts 257 = .ok (.goto 4, 3) := by decide +kernel
theorem dL_puts_260 : decode cL_puts 260 = .ok (.iconst 0, 1) := by decide +kernel
theorem dL_puts_261 : decode cL_puts 261 = .ok (.istore 8, 2) := by decide +kernel
theorem dL_puts_263 : decode cL_puts 263 = .ok (.iinc 9 1, 3) := by decide +kernel
theorem dL_puts_266 : decode cL_puts 266 = .ok (.goto (-91), 3) := by decide +kernel
theorem dL_puts_269 : decode cL_puts 269 = .ok (.iload 8, 2) := by decide +kernel
theorem dL_puts_271 : decode cL_puts 271 = .ok (.ifCond .eq 57, 3) := by decide +kernel
theorem dL_puts_274 : decode cL_puts 274 = .ok (.aload_n 0, 1) := by decide +kernel
theorem dL_puts_275 : decode cL_puts 275 = .ok (.iconst 0, 1) := by decide +kernel
theorem dL_puts_276 : decode cL_puts 276 = .ok (.invokevirtual 32, 3) := by decide +kernel
theorem dL_puts_279 : decode cL_puts 279 = .ok (.aload_n 1, 1) := by decide +kernel
theorem dL_puts_280 : decode cL_puts 280 = .ok (.iconst 0, 1) := by decide +kernel
theorem dL_puts_281 : decode cL_puts 281 = .ok (.invokevirtual 32, 3) := by decide +kernel
theorem dL_puts_284 : decode cL_puts 284 = .ok (.if_icmp .ne 44, 3) := by decide +kernel
theorem dL_puts_287 : decode cL_puts 287 = .ok (.aload_n 0, 1) := by decide +kernel
theorem dL_puts_288 : decode cL_puts 288 = .ok (.iconst 1, 1) := by decide +kernel
theorem dL_puts_289 : decode cL_puts 289 = .ok (.invokevirtual 32, 3) := by decide +kernel
theorem dL_puts_292 : decode cL_puts 292 = .ok (.aload_n 1, 1) := by decide +kernel
theorem dL_puts_293 : decode cL_puts 293 = .ok (.iconst 1, 1) := by decide +kernel
theorem dL_puts_294 : decode cL_puts 294 = .ok (.invokevirtual 32, 3) := by decide +kernel
theorem dL_puts_297 : decode cL_puts 297 = .ok (.if_icmp .ne 31, 3) := by decide +kernel
theorem dL_puts_300 : decode cL_puts 300 = .ok (.aload_n 0, 1) := by decide +kernel
theorem dL_puts_301 : decode cL_puts 301 = .ok (.iconst 2, 1) := by decide +kernel
theorem dL_puts_302 : decode cL_puts 302 = .ok (.invokevirtual 32, 3) := by decide +kernel
theorem dL_puts_305 : decode cL_puts 305 = .ok (.aload_n 1, 1) := by decide +kernel
theorem dL_puts_306 : decode cL_puts 306 = .ok (.iconst 2, 1) := by decide +kernel
theorem dL_puts_307 : decode cL_puts 307 = .ok (.invokevirtual 32, 3) := by decide +kernel
theorem dL_puts_310 : decode cL_puts 310 = .ok (.if_icmp .ne 18, 3) := by decide +kernel
theorem dL_puts_313 : decode cL_puts 313 = .ok (.aload_n 0, 1) := by decide +kernel
theorem dL_puts_314 : decode cL_puts 314 = .ok (.invokevirtual 35, 3) := by decide +kernel
theorem dL_puts_317 : decode cL_puts 317 = .ok (.aload_n 1, 1) := by decide +kernel
theorem dL_puts_318 : decode cL_puts 318 = .ok (.invokevirtual 35, 3) := by decide +kernel
theorem dL_puts_321 : decode cL_puts 321 = .ok (.if_icmp .ne 7, 3) := by decide +kernel
theorem dL_puts_324 : decode cL_puts 324 = .ok (.iconst 1, 1) := by decide +kernel
theorem dL_puts_325 : decode cL_puts 325 = .ok (.goto 4, 3) := by decide +kernel
theorem dL_puts_328 : decode cL_puts 328 = .ok (.iconst 0, 1) := by decide +kernel
theorem dL_puts_329 : decode cL_puts 329 = .ok (.ireturn, 1) := by decide +kernel
set_option maxRecDepth 20000 in
theorem ggL_isStep_X4_count : GoodIn wsL_isStep wsX4_count := goodIn_r _ [5, 6, 7, 8, 9, 10, 11, 12, 13, 14, 15, 16, 17, 18, 19, 20, 21, 22, 23, 24, 25, 26, 27, 28, 29, 30, 31, 32, 33, 34, 35, 36, 37, 38, 39, 40, 41, 42, 43, 44, 45, 46, 47, 48, 49, 50, 51, 52, 53, 54, 55, 56, 57, 58, 59, 60, 61, 62, 63, 64, 65, 66, 67, 68, 69, 70, 71, 72, 73, 74, 75, 76, 77, 4, 78, 79, 80, 81, 82, 83, 84, 85, 298, 299, 300, 301, 302, 303, 304, 305, 306, 307, 308, 309, 310, 311, 312, 313, 314, 315, 316, 317, 318, 319, 320, 321] (by decide +kernel) (by decide +kernel)
set_option maxRecDepth 20000 in
theorem gL_isStep_X4_count : GoodIn wsL_isStep (wsV RL 15 RX4 yX4_count wsX4_count) := goodIn_app (goodIn_of _ (by decide +kernel)) ggL_isStep_X4_count
set_option maxRecDepth 20000 in
theorem ggL_isStep_L_up : GoodIn wsL_isStep wsL_up := goodIn_r _ [89, 90] (by decide +kernel) (by decide +kernel)
set_option maxRecDepth 20000 in
theorem gL_isStep_L_up : GoodIn wsL_isStep (va_wsS RL 18 yL_up wsL_up) := goodIn_app (goodIn_of _ (by decide +kernel)) ggL_isStep_L_up
set_option maxRecDepth 20000 in
theorem ggL_isStep_L_puts_h : GoodIn wsL_isStep [.code yL_puts cL_puts 11 (some .boolean)] := goodIn_r _ [93] (by decide +kernel) (by decide +kernel)
set_option maxRecDepth 20000 in
theorem ggL_isStep_L_puts_wsL_puts_r1 : GoodIn wsL_isStep wsL_puts_r1 := goodIn_r _ [94, 1, 2, 3, 4, 5, 6, 7, 8, 9, 10, 11, 12, 13, 14, 15, 16, 17, 18, 19, 20, 21, 22, 23] (by decide +kernel) (by decide +kernel)
set_option maxRecDepth 20000 in
theorem ggL_isStep_L_puts_wsL_puts_r2 : GoodIn wsL_isStep wsL_puts_r2 := goodIn_r _ [24, 25, 26, 27, 28, 29, 30, 31, 32, 33, 34, 35, 36, 37, 38, 39, 40, 41, 42, 43, 44, 45, 46, 47] (by decide +kernel) (by decide +kernel)
set_option maxRecDepth 20000 in
theorem ggL_isStep_L_puts_wsL_puts_r3 : GoodIn wsL_isStep wsL_puts_r3 := goodIn_r _ [48, 49, 50, 51, 52, 53, 54, 55, 56, 57, 58, 59, 60, 61, 62, 63, 64, 65, 66, 67, 68, 69, 70, 71] (by decide +kernel) (by decide +kernel)
set_option maxRecDepth 20000 in
theorem ggL_isStep_L_puts_wsL_puts_r4 : GoodIn wsL_isStep wsL_puts_r4 := goodIn_r _ [72, 73, 74, 75, 76, 77, 78, 79, 80, 81, 82, 83, 84, 85, 86, 87, 88, 89, 90, 95, 96, 97, 98, 99] (by decide +kernel) (by decide +kernel)
set_option maxRecDepth 20000 in
theorem ggL_isStep_L_puts_wsL_puts_r5 : GoodIn wsL_isStep wsL_puts_r5 := goodIn_r _ [100, 101, 102, 103, 104, 105, 106, 107, 108, 109, 110, 111, 112, 113, 114, 115, 116, 117, 118, 119, 120, 121, 122, 123] (by decide +kernel) (by decide +kernel)
set_option maxRecDepth 20000 in
theorem ggL_isStep_L_puts_wsL_puts_r6 : GoodIn wsL_isStep wsL_puts_r6 := goodIn_r _ [124, 125, 126, 127, 128, 129, 130, 131, 132, 133, 134, 135, 136, 137, 138, 139, 140, 141, 142, 143, 144, 145, 146, 147] (by decide +kernel) (by decide +kernel)
set_option maxRecDepth 20000 in
theorem ggL_isStep_L_puts_wsL_puts_r7 : GoodIn wsL_isStep wsL_puts_r7 := goodIn_r _ [148, 149, 150, 151, 152, 153, 154, 155, 156, 157, 158, 159, 160, 161, 162, 163, 164, 165, 166, 167, 168, 169, 170, 171] (by decide +kernel) (by decide +kernel)
set_option maxRecDepth 20000 in
theorem ggL_isStep_L_puts_wsL_puts_r8 : GoodIn wsL_isStep wsL_puts_r8 := goodIn_r _ [172, 173, 174, 175, 176, 177, 178, 179, 180, 181, 182, 183, 184, 185, 186, 187, 188, 189, 190, 191, 192, 193, 194, 195] (by decide +kernel) (by decide +kernel)
set_option maxRecDepth 20000 in
theorem ggL_isStep_L_puts_wsL_puts_r9 : GoodIn wsL_isStep wsL_puts_r9 := goodIn_r _ [196, 197, 198, 199, 200, 201, 202, 203, 204, 205, 206, 207, 208, 209, 210, 211, 212, 213, 214, 215, 216, 217, 218, 219] (by decide +kernel) (by decide +kernel)
set_option maxRecDepth 20000 in
theorem ggL_isStep_L_puts_wsL_puts_r10 : GoodIn wsL_isStep wsL_puts_r10 := goodIn_r _ [220] (by decide +kernel) (by decide +kernel)
set_option maxRecDepth 20000 in
theorem ggL_isStep_L_puts_wsX40 : GoodIn wsL_isStep wsX40 := goodIn_r _ [298, 299, 300, 301] (by decide +kernel) (by decide +kernel)
set_option maxRecDepth 20000 in
theorem ggL_isStep_L_puts_wsX30 : GoodIn wsL_isStep wsX30 := goodIn_r _ [302, 303, 304, 305, 306, 307] (by decide +kernel) (by decide +kernel)
set_option maxRecDepth 20000 in
theorem ggL_isStep_L_puts_wsX20 : GoodIn wsL_isStep wsX20 := goodIn_r _ [308, 309, 310, 311] (by decide +kernel) (by decide +kernel)
set_option maxRecDepth 20000 in
theorem ggL_isStep_L_puts_wsX10 : GoodIn wsL_isStep wsX10 := goodIn_r _ [312, 313, 314, 315, 316, 317, 318] (by decide +kernel) (by decide +kernel)
set_option maxRecDepth 20000 in
theorem ggL_isStep_L_puts_wsX00 : GoodIn wsL_isStep wsX00 := goodIn_r _ [319, 320, 321] (by decide +kernel) (by decide +kernel)
theorem ggL_isStep_L_puts : GoodIn wsL_isStep wsL_puts := goodIn_app ggL_isStep_L_puts_h (goodIn_app (goodIn_app (goodIn_app (goodIn_app (goodIn_app (goodIn_app ggL_isStep_L_puts_wsL_puts_r1 (goodIn_app ggL_isStep_L_puts_wsL_puts_r2 (goodIn_app ggL_isStep_L_puts_wsL_puts_r3 (goodIn_app ggL_isStep_L_puts_wsL_puts_r4 (goodIn_app ggL_isStep_L_puts_wsL_puts_r5 (goodIn_app ggL_isStep_L_puts_wsL_puts_r6 (goodIn_app ggL_isStep_L_puts_wsL_puts_r7 (goodIn_app ggL_isStep_L_puts_wsL_puts_r8 (goodIn_app ggL_isStep_L_puts_wsL_puts_r9 ggL_isStep_L_puts_wsL_puts_r10))))))))) ggL_isStep_L_puts_wsX40) ggL_isStep_L_puts_wsX30) ggL_isStep_L_puts_wsX20) ggL_isStep_L_puts_wsX10) ggL_isStep_L_puts_wsX00)
set_option maxRecDepth 20000 in
theorem gL_isStep_L_puts : GoodIn wsL_isStep (va_wsS RL 38 yL_puts wsL_puts) := goodIn_app (goodIn_of _ (by decide +kernel)) ggL_isStep_L_puts
set_option maxRecDepth 20000 in
theorem ggL_isStep_X4_slide : GoodIn wsL_isStep wsX4_slide := goodIn_r _ [224, 6, 14, 192, 10, 225, 226, 227, 18, 228, 20, 229, 230, 4, 231, 232, 233, 234, 235, 236, 211, 212, 21, 22, 23, 24, 25, 26, 213, 214, 215, 30, 216, 32, 37, 38, 39, 40, 41, 42, 43, 44, 45, 46, 162, 163, 164, 165, 237, 238, 239, 240, 241, 242, 243, 244, 245, 246, 247, 248, 249, 250, 251, 252, 253, 254, 68, 61, 62, 63, 255, 256, 257, 258, 74, 75, 76, 259, 260, 261, 262, 263, 264, 265, 266, 267, 183, 184, 185, 64, 65, 66, 67, 69, 70, 71, 72, 73, 33, 34, 35, 36, 77, 78, 194, 195, 196, 197, 198, 199, 200, 201, 202, 203, 204, 205, 206, 207, 208, 209, 210, 268, 269, 270, 271, 298, 299, 300, 301, 302, 303, 304, 305, 306, 307, 319, 320, 321, 308, 309, 310, 311] (by decide +kernel) (by decide +kernel)
set_option maxRecDepth 20000 in
theorem gL_isStep_X4_slide : GoodIn wsL_isStep (wsV RL 42 RX4 yX4_slide wsX4_slide) := goodIn_app (goodIn_of _ (by decide +kernel)) ggL_isStep_X4_slide
set_option maxRecDepth 20000 in
theorem ggL_isStep_X4_settle : GoodIn wsL_isStep wsX4_settle := goodIn_r _ [275, 14, 10, 6, 229, 230, 4, 231, 194, 195, 196, 197, 198, 199, 200, 201, 202, 203, 204, 205, 206, 207, 208, 209, 18, 210, 20, 211, 212, 21, 22, 23, 24, 25, 26, 213, 214, 215, 30, 216, 32, 37, 38, 39, 40, 41, 42, 43, 44, 45, 46, 162, 163, 164, 165, 276, 277, 278, 279, 280, 233, 234, 235, 236, 237, 238, 239, 240, 241, 242, 243, 244, 245, 246, 247, 248, 249, 250, 251, 252, 253, 254, 68, 61, 62, 63, 255, 256, 257, 258, 74, 75, 76, 259, 260, 261, 262, 263, 264, 265, 266, 267, 183, 184, 185, 64, 65, 66, 67, 69, 70, 71, 72, 73, 33, 34, 35, 36, 77, 78, 281, 269, 270, 271, 298, 299, 300, 301, 308, 309, 310, 311, 302, 303, 304, 305, 306, 307, 319, 320, 321] (by decide +kernel) (by decide +kernel)
set_option maxRecDepth 20000 in
theorem gL_isStep_X4_settle : GoodIn wsL_isStep (wsV RL 46 RX4 yX4_settle wsX4_settle) := goodIn_app (goodIn_of _ (by decide +kernel)) ggL_isStep_X4_settle
set_option maxRecDepth 20000 in
theorem ggL_isStep_X4_remove : GoodIn wsL_isStep wsX4_remove := goodIn_r _ [285, 6, 14, 10, 7, 225, 226, 227, 18, 228, 20, 194, 195, 196, 197, 198, 199, 200, 201, 202, 203, 204, 205, 206, 207, 208, 209, 210, 211, 212, 21, 22, 23, 24, 25, 26, 213, 214, 215, 30, 216, 32, 37, 38, 39, 40, 41, 42, 43, 44, 45, 46, 162, 163, 164, 165, 286, 287, 288, 289, 298, 299, 300, 301, 302, 303, 304, 305, 306, 307, 308, 309, 310, 311, 319, 320, 321] (by decide +kernel) (by decide +kernel)
set_option maxRecDepth 20000 in
theorem gL_isStep_X4_remove : GoodIn wsL_isStep (wsV RL 49 RX4 yX4_remove wsX4_remove) := goodIn_app (goodIn_of _ (by decide +kernel)) ggL_isStep_X4_remove
set_option maxRecDepth 20000 in
theorem ggL_isStep_X4_undo : GoodIn wsL_isStep wsX4_undo := goodIn_r _ [293, 10, 11, 192, 6, 294, 295, 296, 197, 297, 199, 201, 202, 203, 204, 200, 205, 206, 207, 208, 209, 18, 210, 20, 211, 212, 21, 22, 23, 24, 25, 26, 213, 214, 215, 30, 216, 32, 37, 38, 39, 40, 41, 42, 43, 44, 45, 46, 162, 163, 164, 165, 298, 299, 300, 301, 308, 309, 310, 311, 302, 303, 304, 305, 306, 307, 319, 320, 321] (by decide +kernel) (by decide +kernel)
set_option maxRecDepth 20000 in
theorem gL_isStep_X4_undo : GoodIn wsL_isStep (wsV RL 52 RX4 yX4_undo wsX4_undo) := goodIn_app (goodIn_of _ (by decide +kernel)) ggL_isStep_X4_undo
theorem dL_isStep_0 : decode cL_isStep 0 = .ok (.iload_n 2, 1) := by decide +kernel
theorem dL_isStep_1 : decode cL_isStep 1 = .ok (.iconst 4, 1) := by decide +kernel
theorem dL_isStep_2 : decode cL_isStep 2 = .ok (.ishr, 1) := by decide +kernel
theorem dL_isStep_3 : decode cL_isStep 3 = .ok (.istore_n 3, 1) := by decide +kernel
theorem dL_isStep_4 : decode cL_isStep 4 = .ok (.aload_n 0, 1) := by decide +kernel
theorem dL_isStep_5 : decode cL_isStep 5 = .ok (.iconst 0, 1) := by decide +kernel
theorem dL_isStep_6 : decode cL_isStep 6 = .ok (.invokevirtual 15, 3) := by decide +kernel
theorem dL_isStep_9 : decode cL_isStep 9 = .ok (.istore 4, 2) := by decide +kernel
theorem dL_isStep_11 : decode cL_isStep 11 = .ok (.iload_n 3, 1) := by decide +kernel
theorem dL_isStep_12 : decode cL_isStep 12 = .ok (.iload 4, 2) := by decide +kernel
theorem dL_isStep_14 : decode cL_isStep 14 = .ok (.iconst 1, 1) := by decide +kernel
theorem dL_isStep_15 : decode cL_isStep 15 = .ok (.iadd, 1) := by decide +kernel
theorem dL_isStep_16 : decode cL_isStep 16 = .ok (.invokestatic 18, 3) := by decide +kernel
theorem dL_isStep_19 : decode cL_isStep 19 = .ok (.istore 5, 2) := by decide +kernel
theorem dL_isStep_21 : decode cL_isStep 21 = .ok (.iload_n 3, 1) := by decide +kernel
theorem dL_isStep_22 : decode cL_isStep 22 = .ok (.iconst 4, 1) := by decide +kernel
theorem dL_isStep_23 : decode cL_isStep 23 = .ok (.ishr, 1) := by decide +kernel
theorem dL_isStep_24 : decode cL_isStep 24 = .ok (.bipush 8, 2) := by decide +kernel
theorem dL_isStep_26 : decode cL_isStep 26 = .ok (.invokestatic 18, 3) := by decide +kernel
theorem dL_isStep_29 : decode cL_isStep 29 = .ok (.istore 6, 2) := by decide +kernel
theorem dL_isStep_31 : decode cL_isStep 31 = .ok (.iload_n 2, 1) := by decide +kernel
theorem dL_isStep_32 : decode cL_isStep 32 = .ok (.bipush 9, 2) := by decide +kernel
theorem dL_isStep_34 : decode cL_isStep 34 = .ok (.invokestatic 18, 3) := by decide +kernel
theorem dL_isStep_37 : decode cL_isStep 37 = .ok (.tableswitch 164 0 7 #[47, 47, 47, 47, 54, 54, 106, 132], 47) := by decide +kernel
theorem dL_isStep_84 : decode cL_isStep 84 = .ok (.aload_n 0, 1) := by decide +kernel
theorem dL_isStep_85 : decode cL_isStep 85 = .ok (.aload_n 1, 1) := by decide +kernel
theorem dL_isStep_86 : decode cL_isStep 86 = .ok (.iload_n 3, 1) := by decide +kernel
theorem dL_isStep_87 : decode cL_isStep 87 = .ok (.invokestatic 38, 3) := by decide +kernel
theorem dL_isStep_90 : decode cL_isStep 90 = .ok (.ireturn, 1) := by decide +kernel
theorem dL_isStep_91 : decode cL_isStep 91 = .ok (.aload_n 0, 1) := by decide +kernel
theorem dL_isStep_92 : decode cL_isStep 92 = .ok (.iload 5, 2) := by decide +kernel
theorem dL_isStep_94 : decode cL_isStep 94 = .ok (.iload 6, 2) := by decide +kernel
theorem dL_isStep_96 : decode cL_isStep 96 = .ok (.iconst 1, 1) := by decide +kernel
theorem dL_isStep_97 : decode cL_isStep 97 = .ok (.iload_n 3, 1) := by decide +kernel
theorem dL_isStep_98 : decode cL_isStep 98 = .ok (.bipush 7, 2) := by decide +kernel
theorem dL_isStep_100 : decode cL_isStep 100 = .ok (.ishr, 1) := by decide +kernel
theorem dL_isStep_101 : decode cL_isStep 101 = .ok (.bipush 9, 2) := by decide +kernel
theorem dL_isStep_103 : decode cL_isStep 103 = .ok (.invokestatic 18, 3) := by decide +kernel
theorem dL_isStep_106 : decode cL_isStep 106 = .ok (.iadd, 1) := by decide +kernel
theorem dL_isStep_107 : decode cL_isStep 107 = .ok (.invokevirtual 42, 3) := by decide +kernel
theorem dL_isStep_110 : decode cL_isStep 110 = .ok (.aload_n 1, 1) := by decide +kernel
theorem dL_isStep_111 : decode cL_isStep 111 = .ok (.iload 5, 2) := by decide +kernel
theorem dL_isStep_113 : decode cL_isStep 113 = .ok (.iload 6, 2) := by decide +kernel
theorem dL_isStep_115 : decode cL_isStep 115 = .ok (.iconst 2, 1) := by decide +kernel
theorem dL_isStep_116 : decode cL_isStep 116 = .ok (.iadd, 1) := by decide +kernel
theorem dL_isStep_117 : decode cL_isStep 117 = .ok (.bipush 8, 2) := by decide +kernel
theorem dL_isStep_119 : decode cL_isStep 119 = .ok (.irem, 1) := by decide +kernel
theorem dL_isStep_120 : decode cL_isStep 120 = .ok (.iconst 1, 1) := by decide +kernel
theorem dL_isStep_121 : decode cL_isStep 121 = .ok (.iload_n 3, 1) := by decide +kernel
theorem dL_isStep_122 : decode cL_isStep 122 = .ok (.bipush 7, 2) := by decide +kernel
theorem dL_isStep_124 : decode cL_isStep 124 = .ok (.ishr, 1) := by decide +kernel
theorem dL_isStep_125 : decode cL_isStep 125 = .ok (.bipush 9, 2) := by decide +kernel
theorem dL_isStep_127 : decode cL_isStep 127 = .ok (.invokestatic 18, 3) := by decide +kernel
theorem dL_isStep_130 : decode cL_isStep 130 = .ok (.iadd, 1) := by decide +kernel
theorem dL_isStep_131 : decode cL_isStep 131 = .ok (.invokevirtual 42, 3) := by decide +kernel
theorem dL_isStep_134 : decode cL_isStep 134 = .ok (.if_icmp .ne 7, 3) := by decide +kernel
theorem dL_isStep_137 : decode cL_isStep 137 = .ok (.iconst 1, 1) := by decide +kernel
theorem dL_isStep_138 : decode cL_isStep 138 = .ok (.goto 4, 3) := by decide +kernel
theorem dL_isStep_141 : decode cL_isStep 141 = .ok (.iconst 0, 1) := by decide +kernel
theorem dL_isStep_142 : decode cL_isStep 142 = .ok (.ireturn, 1) := by decide +kernel
theorem dL_isStep_143 : decode cL_isStep 143 = .ok (.aload_n 0, 1) := by decide +kernel
theorem dL_isStep_144 : decode cL_isStep 144 = .ok (.iload 6, 2) := by decide +kernel
theorem dL_isStep_146 : decode cL_isStep 146 = .ok (.invokevirtual 46, 3) := by decide +kernel
theorem dL_isStep_149 : decode cL_isStep 149 = .ok (.aload_n 1, 1) := by decide +kernel
theorem dL_isStep_150 : decode cL_isStep 150 = .ok (.iload 6, 2) := by decide +kernel
theorem dL_isStep_152 : decode cL_isStep 152 = .ok (.iconst 2, 1) := by decide +kernel
theorem dL_isStep_153 : decode cL_isStep 153 = .ok (.iadd, 1) := by decide +kernel
theorem dL_isStep_154 : decode cL_isStep 154 = .ok (.bipush 8, 2) := by decide +kernel
theorem dL_isStep_156 : decode cL_isStep 156 = .ok (.irem, 1) := by decide +kernel
theorem dL_isStep_157 : decode cL_isStep 157 = .ok (.invokevirtual 46, 3) := by decide +kernel
theorem dL_isStep_160 : decode cL_isStep 160 = .ok (.if_icmp .ne 7, 3) := by decide +kernel
theorem dL_isStep_163 : decode cL_isStep 163 = .ok (.iconst 1, 1) := by decide +kernel
theorem dL_isStep_164 : decode cL_isStep 164 = .ok (.goto 4, 3) := by decide +kernel
theorem dL_isStep_167 : decode cL_isStep 167 = .ok (.iconst 0, 1) := by decide +kernel
theorem dL_isStep_168 : decode cL_isStep 168 = .ok (.ireturn, 1) := by decide +kernel
theorem dL_isStep_169 : decode cL_isStep 169 = .ok (.iload_n 3, 1) := by decide +kernel
theorem dL_isStep_170 : decode cL_isStep 170 = .ok (.bipush 7, 2) := by decide +kernel
theorem dL_isStep_172 : decode cL_isStep 172 = .ok (.ishr, 1) := by decide +kernel
theorem dL_isStep_173 : decode cL_isStep 173 = .ok (.iconst 4, 1) := by decide +kernel
theorem dL_isStep_174 : decode cL_isStep 174 = .ok (.invokestatic 18, 3) := by decide +kernel
theorem dL_isStep_177 : decode cL_isStep 177 = .ok (.ifCond .gt 18, 3) := by decide +kernel
theorem dL_isStep_180 : decode cL_isStep 180 = .ok (.aload_n 0, 1) := by decide +kernel
theorem dL_isStep_181 : decode cL_isStep 181 = .ok (.iload 5, 2) := by decide +kernel
theorem dL_isStep_183 : decode cL_isStep 183 = .ok (.invokevirtual 49, 3) := by decide +kernel
theorem dL_isStep_186 : decode cL_isStep 186 = .ok (.aload_n 1, 1) := by decide +kernel
theorem dL_isStep_187 : decode cL_isStep 187 = .ok (.iload 5, 2) := by decide +kernel
theorem dL_isStep_189 : decode cL_isStep 189 = .ok (.invokevirtual 49, 3) := by decide +kernel
theorem dL_isStep_192 : decode cL_isStep 192 = .ok (.if_icmp .ne 7, 3) := by decide +kernel
theorem dL_isStep_195 : decode cL_isStep 195 = .ok (.iconst 1, 1) := by decide +kernel
theorem dL_isStep_196 : decode cL_isStep 196 = .ok (.goto 4, 3) := by decide +kernel
theorem dL_isStep_199 : decode cL_isStep 199 = .ok (.iconst 0, 1) := by decide +kernel
theorem dL_isStep_200 : decode cL_isStep 200 = .ok (.ireturn, 1) := by decide +kernel
theorem dL_isStep_201 : decode cL_isStep 201 = .ok (.iload_n 3, 1) := by decide +kernel
theorem dL_isStep_202 : decode cL_isStep 202 = .ok (.bipush 7, 2) := by decide +kernel
theorem dL_isStep_204 : decode cL_isStep 204 = .ok (.ishr, 1) := by decide +kernel
theorem dL_isStep_205 : decode cL_isStep 205 = .ok (.bipush 6, 2) := by decide +kernel
theorem dL_isStep_207 : decode cL_isStep 207 = .ok (.invokestatic 18, 3) := by decide +kernel
theorem dL_isStep_210 : decode cL_isStep 210 = .ok (.ifCond .gt 19, 3) := by decide +kernel
theorem dL_isStep_213 : decode cL_isStep 213 = .ok (.iload 4, 2) := by decide +kernel
theorem dL_isStep_215 : decode cL_isStep 215 = .ok (.ifCond .eq 14, 3) := by decide +kernel
theorem dL_isStep_218 : decode cL_isStep 218 = .ok (.aload_n 0, 1) := by decide +kernel
theorem dL_isStep_219 : decode cL_isStep 219 = .ok (.invokevirtual 52, 3) := by decide +kernel
theorem dL_isStep_222 : decode cL_isStep 222 = .ok (.aload_n 1, 1) := by decide +kernel
theorem dL_isStep_223 : decode cL_isStep 223 = .ok (.invokevirtual 52, 3) := by decide +kernel
theorem dL_isStep_226 : decode cL_isStep 226 = .ok (.if_icmp .ne 7, 3) := by decide +kernel
theorem dL_isStep_229 : decode cL_isStep 229 = .ok (.iconst 1, 1) := by decide +kernel
theorem dL_isStep_230 : decode cL_isStep 230 = .ok (.goto 4, 3) := by decide +kernel
theorem dL_isStep_233 : decode cL_isStep 233 = .ok (.iconst 0, 1) := by decide +kernel
theorem dL_isStep_234 : decode cL_isStep 234 = .ok (.ireturn, 1) := by decide +kernel
theorem dL_turned_0 : decode cL_turned 0 = .ok (.iload_n 0, 1) := by decide +kernel
theorem dL_turned_1 : decode cL_turned 1 = .ok (.iconst 2, 1) := by decide +kernel
theorem dL_turned_2 : decode cL_turned 2 = .ok (.ishl, 1) := by decide +kernel
theorem dL_turned_3 : decode cL_turned 3 = .ok (.iload_n 0, 1) := by decide +kernel
theorem dL_turned_4 : decode cL_turned 4 = .ok (.bipush 6, 2) := by decide +kernel
theorem dL_turned_6 : decode cL_turned 6 = .ok (.ishr, 1) := by decide +kernel
theorem dL_turned_7 : decode cL_turned 7 = .ok (.ior, 1) := by decide +kernel
theorem dL_turned_8 : decode cL_turned 8 = .ok (.sipush 255, 3) := by decide +kernel
theorem dL_turned_11 : decode cL_turned 11 = .ok (.iand, 1) := by decide +kernel
theorem dL_turned_12 : decode cL_turned 12 = .ok (.ireturn, 1) := by decide +kernel
theorem dL_walls_0 : decode cL_walls 0 = .ok (.iload_n 0, 1) := by decide +kernel
theorem dL_walls_1 : decode cL_walls 1 = .ok (.iconst 1, 1) := by decide +kernel
theorem dL_walls_2 : decode cL_walls 2 = .ok (.iand, 1) := by decide +kernel
theorem dL_walls_3 : decode cL_walls 3 = .ok (.iconst 4, 1) := by decide +kernel
theorem dL_walls_4 : decode cL_walls 4 = .ok (.imul, 1) := by decide +kernel
theorem dL_walls_5 : decode cL_walls 5 = .ok (.iload_n 0, 1) := by decide +kernel
theorem dL_walls_6 : decode cL_walls 6 = .ok (.iconst 1, 1) := by decide +kernel
theorem dL_walls_7 : decode cL_walls 7 = .ok (.ishr, 1) := by decide +kernel
theorem dL_walls_8 : decode cL_walls 8 = .ok (.iconst 1, 1) := by decide +kernel
theorem dL_walls_9 : decode cL_walls 9 = .ok (.iand, 1) := by decide +kernel
theorem dL_walls_10 : decode cL_walls 10 = .ok (.bipush 8, 2) := by decide +kernel
theorem dL_walls_12 : decode cL_walls 12 = .ok (.imul, 1) := by decide +kernel
theorem dL_walls_13 : decode cL_walls 13 = .ok (.iadd, 1) := by decide +kernel
theorem dL_walls_14 : decode cL_walls 14 = .ok (.iload_n 0, 1) := by decide +kernel
theorem dL_walls_15 : decode cL_walls 15 = .ok (.iconst 2, 1) := by decide +kernel
theorem dL_walls_16 : decode cL_walls 16 = .ok (.ishr, 1) := by decide +kernel
theorem dL_walls_17 : decode cL_walls 17 = .ok (.iconst 1, 1) := by decide +kernel
theorem dL_walls_18 : decode cL_walls 18 = .ok (.iand, 1) := by decide +kernel
theorem dL_walls_19 : decode cL_walls 19 = .ok (.iconst 2, 1) := by decide +kernel
theorem dL_walls_20 : decode cL_walls 20 = .ok (.imul, 1) := by decide +kernel
theorem dL_walls_21 : decode cL_walls 21 = .ok (.iadd, 1) := by decide +kernel
theorem dL_walls_22 : decode cL_walls 22 = .ok (.iload_n 0, 1) := by decide +kernel
theorem dL_walls_23 : decode cL_walls 23 = .ok (.iconst 3, 1) := by decide +kernel
theorem dL_walls_24 : decode cL_walls 24 = .ok (.ishr, 1) := by decide +kernel
theorem dL_walls_25 : decode cL_walls 25 = .ok (.iconst 1, 1) := by decide +kernel
theorem dL_walls_26 : decode cL_walls 26 = .ok (.iand, 1) := by decide +kernel
theorem dL_walls_27 : decode cL_walls 27 = .ok (.iadd, 1) := by decide +kernel
theorem dL_walls_28 : decode cL_walls 28 = .ok (.ireturn, 1) := by decide +kernel
set_option maxRecDepth 20000 in
theorem ggL_areAlike_X4_count : GoodIn wsL_areAlike wsX4_count := goodIn_r _ [5, 6, 7, 8, 9, 10, 11, 12, 13, 14, 15, 16, 17, 18, 19, 20, 21, 22, 23, 24, 25, 26, 27, 28, 29, 30, 31, 32, 33, 34, 35, 36, 37, 38, 39, 40, 41, 42, 43, 44, 45, 46, 47, 48, 49, 50, 51, 52, 53, 54, 55, 56, 57, 58, 59, 60, 61, 62, 63, 64, 65, 66, 67, 68, 69, 70, 71, 72, 73, 74, 75, 76, 77, 4, 78, 79, 80, 81, 82, 83, 84, 85, 238, 239, 240, 241, 242, 243, 244, 245, 246, 247, 248, 249, 250, 251, 252, 253, 254, 255, 256, 257, 258, 259, 260, 261] (by decide +kernel) (by decide +kernel)
set_option maxRecDepth 20000 in
theorem gL_areAlike_X4_count : GoodIn wsL_areAlike (wsV RL 15 RX4 yX4_count wsX4_count) := goodIn_app (goodIn_of _ (by decide +kernel)) ggL_areAlike_X4_count
set_option maxRecDepth 20000 in
theorem ggL_areAlike_X4_density : GoodIn wsL_areAlike wsX4_density := goodIn_r _ [89, 6, 8, 9, 15, 16, 17, 18, 19, 20, 21, 22, 23, 24, 25, 26, 27, 28, 29, 30, 31, 32, 33, 34, 35, 36, 37, 38, 39, 40, 41, 42, 43, 44, 45, 46, 90, 91, 4, 92, 93, 238, 239, 240, 241, 242, 243, 244, 245, 246, 247, 259, 260, 261] (by decide +kernel) (by decide +kernel)
set_option maxRecDepth 20000 in
theorem gL_areAlike_X4_density : GoodIn wsL_areAlike (wsV RL 55 RX4 yX4_density wsX4_density) := goodIn_app (goodIn_of _ (by decide +kernel)) ggL_areAlike_X4_density
set_option maxRecDepth 20000 in
theorem ggL_areAlike_X4_group : GoodIn wsL_areAlike wsX4_group := goodIn_r _ [97, 14, 6, 7, 98, 99, 100, 101, 18, 102, 103, 4, 104, 56, 57, 58, 59, 20, 60, 61, 62, 63, 21, 22, 23, 24, 25, 26, 64, 65, 66, 30, 67, 32, 68, 69, 70, 71, 72, 73, 74, 75, 76, 33, 34, 35, 36, 37, 38, 39, 40, 41, 42, 43, 44, 45, 46, 77, 78, 238, 239, 240, 241, 242, 243, 244, 245, 246, 247, 259, 260, 261] (by decide +kernel) (by decide +kernel)
set_option maxRecDepth 20000 in
theorem gL_areAlike_X4_group : GoodIn wsL_areAlike (wsV RL 58 RX4 yX4_group wsX4_group) := goodIn_app (goodIn_of _ (by decide +kernel)) ggL_areAlike_X4_group
set_option maxRecDepth 20000 in
theorem ggL_areAlike_X4_bodies : GoodIn wsL_areAlike wsX4_bodies := goodIn_r _ [108, 6, 14, 109, 110, 111, 18, 112, 20, 113, 114, 115, 116, 117, 118, 119, 21, 22, 23, 24, 25, 26, 120, 121, 122, 30, 123, 32, 37, 38, 39, 40, 41, 42, 43, 44, 45, 46, 124, 125, 126, 127, 128, 4, 129, 130, 131, 132, 133, 134, 135, 136, 137, 138, 139, 140, 141, 142, 143, 144, 145, 68, 61, 62, 63, 146, 147, 148, 149, 74, 75, 76, 150, 151, 152, 153, 154, 155, 156, 157, 158, 159, 160, 161, 64, 65, 66, 67, 69, 70, 71, 72, 73, 33, 34, 35, 36, 77, 78, 162, 163, 164, 165, 56, 57, 58, 59, 60, 166, 167, 168, 169, 170, 171, 172, 173, 99, 100, 101, 102, 103, 104, 238, 239, 240, 241, 242, 243, 244, 245, 246, 247, 259, 260, 261] (by decide +kernel) (by decide +kernel)
set_option maxRecDepth 20000 in
theorem gL_areAlike_X4_bodies : GoodIn wsL_areAlike (wsV RL 61 RX4 yX4_bodies wsX4_bodies) := goodIn_app (goodIn_of _ (by decide +kernel)) ggL_areAlike_X4_bodies
set_option maxRecDepth 20000 in
theorem ggL_areAlike_X4_bodyOf : GoodIn wsL_areAlike wsX4_bodyOf := goodIn_r _ [177, 6, 14, 178, 8, 9, 179, 180, 181, 18, 182, 20, 183, 22, 23, 24, 25, 26, 184, 28, 29, 30, 31, 32, 33, 34, 35, 36, 37, 38, 39, 40, 41, 42, 43, 44, 45, 46, 185, 143, 144, 145, 68, 61, 62, 63, 186, 147, 148, 149, 74, 75, 76, 187, 151, 152, 153, 188, 155, 156, 157, 189, 171, 172, 173, 142, 146, 150, 154, 190, 57, 58, 59, 60, 21, 64, 65, 66, 67, 69, 70, 71, 72, 73, 77, 4, 78, 191, 192, 193, 194, 113, 114, 115, 116, 117, 118, 119, 120, 121, 122, 123, 124, 125, 126, 127, 128, 129, 130, 131, 132, 133, 134, 135, 136, 137, 138, 139, 140, 141, 158, 159, 160, 161, 109, 110, 111, 112, 195, 196, 197, 98, 198, 199, 238, 239, 240, 241, 259, 260, 261, 242, 243, 244, 245, 246, 247] (by decide +kernel) (by decide +kernel)
set_option maxRecDepth 20000 in
theorem gL_areAlike_X4_bodyOf : GoodIn wsL_areAlike (wsV RL 64 RX4 yX4_bodyOf wsX4_bodyOf) := goodIn_app (goodIn_of _ (by decide +kernel)) ggL_areAlike_X4_bodyOf
set_option maxRecDepth 20000 in
theorem ggL_areAlike_L_turned : GoodIn wsL_areAlike wsL_turned := goodIn_r _ [203] (by decide +kernel) (by decide +kernel)
set_option maxRecDepth 20000 in
theorem gL_areAlike_L_turned : GoodIn wsL_areAlike (va_wsS RL 67 yL_turned wsL_turned) := goodIn_app (goodIn_of _ (by decide +kernel)) ggL_areAlike_L_turned
set_option maxRecDepth 20000 in
theorem ggL_areAlike_L_walls : GoodIn wsL_areAlike wsL_walls := goodIn_r _ [206] (by decide +kernel) (by decide +kernel)
set_option maxRecDepth 20000 in
theorem gL_areAlike_L_walls : GoodIn wsL_areAlike (va_wsS RL 70 yL_walls wsL_walls) := goodIn_app (goodIn_of _ (by decide +kernel)) ggL_areAlike_L_walls
set_option maxRecDepth 20000 in
theorem ggL_areAlike_X4_parts : GoodIn wsL_areAlike wsX4_parts := goodIn_r _ [210, 6, 14, 179, 180, 181, 18, 182, 20, 183, 22, 23, 24, 25, 26, 211, 212, 213, 30, 214, 32, 69, 70, 71, 72, 73, 74, 75, 62, 76, 33, 34, 35, 36, 37, 38, 39, 40, 41, 42, 43, 44, 45, 46, 77, 4, 78, 215, 216, 217, 218, 219, 238, 239, 240, 241, 242, 243, 244, 245, 246, 247, 259, 260, 261] (by decide +kernel) (by decide +kernel)
