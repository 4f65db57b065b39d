theorem dX5_way_45 : decode cX5_way 45 = .ok (.iload_n 1, 1) := by decide +kernel
theorem dX5_way_46 : decode cX5_way 46 = .ok (.iload_n 2, 1) := by decide +kernel
theorem dX5_way_47 : decode cX5_way 47 = .ok (.invokestatic 81, 3) := by decide +kernel
theorem dX5_way_50 : decode cX5_way 50 = .ok (.iload_n 2, 1) := by decide +kernel
theorem dX5_way_51 : decode cX5_way 51 = .ok (.invokestatic 84, 3) := by decide +kernel
theorem dX5_way_54 : decode cX5_way 54 = .ok (.invokevirtual 87, 3) := by decide +kernel
theorem dX5_way_57 : decode cX5_way 57 = .ok (.iload_n 3, 1) := by decide +kernel
theorem dX5_way_58 : decode cX5_way 58 = .ok (.ifCond .ne 8, 3) := by decide +kernel
theorem dX5_way_61 : decode cX5_way 61 = .ok (.iload 4, 2) := by decide +kernel
theorem dX5_way_63 : decode cX5_way 63 = .ok (.goto 22, 3) := by decide +kernel
theorem dX5_way_66 : decode cX5_way 66 = .ok (.iload_n 3, 1) := by decide +kernel
theorem dX5_way_67 : decode cX5_way 67 = .ok (.iconst 1, 1) := by decide +kernel
theorem dX5_way_68 : decode cX5_way 68 = .ok (.if_icmp .ne 11, 3) := by decide +kernel
theorem dX5_way_71 : decode cX5_way 71 = .ok (.aload_n 0, 1) := by decide +kernel
theorem dX5_way_72 : decode cX5_way 72 = .ok (.iload_n 1, 1) := by decide +kernel
theorem dX5_way_73 : decode cX5_way 73 = .ok (.invokevirtual 78, 3) := by decide +kernel
theorem dX5_way_76 : decode cX5_way 76 = .ok (.goto 9, 3) := by decide +kernel
theorem dX5_way_79 : decode cX5_way 79 = .ok (.aload_n 0, 1) := by decide +kernel
theorem dX5_way_80 : decode cX5_way 80 = .ok (.iload_n 1, 1) := by decide +kernel
theorem dX5_way_81 : decode cX5_way 81 = .ok (.iconst 1, 1) := by decide +kernel
theorem dX5_way_82 : decode cX5_way 82 = .ok (.invokevirtual 75, 3) := by decide +kernel
theorem dX5_way_85 : decode cX5_way 85 = .ok (.istore 5, 2) := by decide +kernel
theorem dX5_way_87 : decode cX5_way 87 = .ok (.aload_n 0, 1) := by decide +kernel
theorem dX5_way_88 : decode cX5_way 88 = .ok (.invokevirtual 143, 3) := by decide +kernel
theorem dX5_way_91 : decode cX5_way 91 = .ok (.iload 5, 2) := by decide +kernel
theorem dX5_way_93 : decode cX5_way 93 = .ok (.ireturn, 1) := by decide +kernel
set_option maxRecDepth 20000 in
theorem ggX5_together_X5_touched : GoodIn wsX5_together wsX5_touched := goodIn_r _ [6, 1, 7, 8, 9, 5, 10, 11, 12, 13, 14, 15, 16, 17, 18, 19, 20, 21, 22, 23, 24, 25, 26, 27, 28, 29, 30, 31, 32, 33, 34, 35, 36, 37, 38, 39, 40, 41, 42, 43, 44, 45, 46, 47, 48] (by decide +kernel) (by decide +kernel)
set_option maxRecDepth 20000 in
theorem gX5_together_X5_touched : GoodIn wsX5_together (wsV RX5 152 RX5 yX5_touched wsX5_touched) := goodIn_app (goodIn_of _ (by decide +kernel)) ggX5_together_X5_touched
theorem dX5_together_0 : decode cX5_together 0 = .ok (.iload_n 1, 1) := by decide +kernel
theorem dX5_together_1 : decode cX5_together 1 = .ok (.istore_n 2, 1) := by decide +kernel
theorem dX5_together_2 : decode cX5_together 2 = .ok (.iconst 0, 1) := by decide +kernel
theorem dX5_together_3 : decode cX5_together 3 = .ok (.istore_n 3, 1) := by decide +kernel
theorem dX5_together_4 : decode cX5_together 4 = .ok (.iload_n 2, 1) := by decide +kernel
theorem dX5_together_5 : decode cX5_together 5 = .ok (.iload_n 3, 1) := by decide +kernel
theorem dX5_together_6 : decode cX5_together 6 = .ok (.if_icmp .eq 51, 3) := by decide +kernel
theorem dX5_together_9 : decode cX5_together 9 = .ok (.iload_n 2, 1) := by decide +kernel
theorem dX5_together_10 : decode cX5_together 10 = .ok (.istore_n 3, 1) := by decide +kernel
theorem dX5_together_11 : decode cX5_together 11 = .ok (.iconst 0, 1) := by decide +kernel
theorem dX5_together_12 : decode cX5_together 12 = .ok (.istore 4, 2) := by decide +kernel
theorem dX5_together_14 : decode cX5_together 14 = .ok (.iload 4, 2) := by decide +kernel
theorem dX5_together_16 : decode cX5_together 16 = .ok (.aload_n 0, 1) := by decide +kernel
theorem dX5_together_17 : decode cX5_together 17 = .ok (.getfield 7, 3) := by decide +kernel
theorem dX5_together_20 : decode cX5_together 20 = .ok (.iconst 2, 1) := by decide +kernel
theorem dX5_together_21 : decode cX5_together 21 = .ok (.iaload, 1) := by decide +kernel
theorem dX5_together_22 : decode cX5_together 22 = .ok (.if_icmp .ge 32, 3) := by decide +kernel
theorem dX5_together_25 : decode cX5_together 25 = .ok (.iload_n 2, 1) := by decide +kernel
theorem dX5_together_26 : decode cX5_together 26 = .ok (.iload_n 3, 1) := by decide +kernel
theorem dX5_together_27 : decode cX5_together 27 = .ok (.iload 4, 2) := by decide +kernel
theorem dX5_together_29 : decode cX5_together 29 = .ok (.ishr, 1) := by decide +kernel
theorem dX5_together_30 : decode cX5_together 30 = .ok (.iconst 1, 1) := by decide +kernel
theorem dX5_together_31 : decode cX5_together 31 = .ok (.iand, 1) := by decide +kernel
theorem dX5_together_32 : decode cX5_together 32 = .ok (.iconst 1, 1) := by decide +kernel
theorem dX5_together_33 : decode cX5_together 33 = .ok (.if_icmp .ne 12, 3) := by decide +kernel
theorem dX5_together_36 : decode cX5_together 36 = .ok (.aload_n 0, 1) := by decide +kernel
theorem dX5_together_37 : decode cX5_together 37 = .ok (.iload 4, 2) := by decide +kernel
theorem dX5_together_39 : decode cX5_together 39 = .ok (.invokevirtual 152, 3) := by decide +kernel
theorem dX5_together_42 : decode cX5_together 42 = .ok (.goto 4, 3) := by decide +kernel
theorem dX5_together_45 : decode cX5_together 45 = .ok (.iconst 0, 1) := by decide +kernel
theorem dX5_together_46 : decode cX5_together 46 = .ok (.ior, 1) := by decide +kernel
theorem dX5_together_47 : decode cX5_together 47 = .ok (.istore_n 2, 1) := by decide +kernel
theorem dX5_together_48 : decode cX5_together 48 = .ok (.iinc 4 1, 3) := by decide +kernel
theorem dX5_together_51 : decode cX5_together 51 = .ok (.goto (-37), 3) := by decide +kernel
theorem dX5_together_54 : decode cX5_together 54 = .ok (.goto (-50), 3) := by decide +kernel
theorem dX5_together_57 : decode cX5_together 57 = .ok (.iload_n 2, 1) := by decide +kernel
theorem dX5_together_58 : decode cX5_together 58 = .ok (.ireturn, 1) := by decide +kernel
set_option maxRecDepth 20000 in
theorem ggX5_counts_X5_isJammed : GoodIn wsX5_counts wsX5_isJammed := goodIn_r _ [5, 6, 7, 8, 4, 9, 10, 11, 12, 13, 14, 15, 16, 17, 18, 19, 20, 21, 22, 23, 24, 25, 26, 27, 28, 29, 30, 31, 32, 33, 34, 35, 36, 37, 38, 39, 40, 41, 42, 43, 44, 45, 46, 47, 48, 49, 50, 51, 52, 53, 54, 55, 56, 57, 58, 59, 60, 61, 62, 63, 64, 65, 66, 67, 68, 69, 70, 71, 72, 73, 74, 75, 76, 77, 78, 79, 80, 81, 82, 83, 84, 85, 86, 87, 88, 97, 98, 99, 100, 101, 102, 103, 104, 105, 106] (by decide +kernel) (by decide +kernel)
set_option maxRecDepth 20000 in
theorem gX5_counts_X5_isJammed : GoodIn wsX5_counts (wsV RX5 155 RX5 yX5_isJammed wsX5_isJammed) := goodIn_app (goodIn_of _ (by decide +kernel)) ggX5_counts_X5_isJammed
set_option maxRecDepth 20000 in
theorem ggX5_counts_X5_touched : GoodIn wsX5_counts wsX5_touched := goodIn_r _ [92, 28, 93, 94, 95, 4, 96, 65, 66, 67, 68, 69, 70, 71, 72, 29, 30, 31, 32, 73, 74, 75, 76, 77, 78, 79, 80, 81, 82, 83, 84, 85, 86, 87, 88, 97, 98, 99, 100, 101, 102, 103, 104, 105, 106] (by decide +kernel) (by decide +kernel)
set_option maxRecDepth 20000 in
theorem gX5_counts_X5_touched : GoodIn wsX5_counts (wsV RX5 152 RX5 yX5_touched wsX5_touched) := goodIn_app (goodIn_of _ (by decide +kernel)) ggX5_counts_X5_touched
set_option maxRecDepth 20000 in
theorem ggX5_counts_X5_wallsBy : GoodIn wsX5_counts wsX5_wallsBy := goodIn_r _ [40, 28, 41, 42, 43, 4, 44, 45, 46, 47, 48, 29, 30, 31, 32, 49, 50, 51, 52, 53, 54, 55, 56, 57, 58, 59, 60, 97, 98, 99, 100, 101, 102, 103, 104, 105, 106] (by decide +kernel) (by decide +kernel)
set_option maxRecDepth 20000 in
theorem gX5_counts_X5_wallsBy : GoodIn wsX5_counts (wsV RX5 75 RX5 yX5_wallsBy wsX5_wallsBy) := goodIn_app (goodIn_of _ (by decide +kernel)) ggX5_counts_X5_wallsBy
theorem dX5_counts_0 : decode cX5_counts 0 = .ok (.iload_n 2, 1) := by decide +kernel
theorem dX5_counts_1 : decode cX5_counts 1 = .ok (.ifCond .ne 11, 3) := by decide +kernel
theorem dX5_counts_4 : decode cX5_counts 4 = .ok (.aload_n 0, 1) := by decide +kernel
theorem dX5_counts_5 : decode cX5_counts 5 = .ok (.iload_n 1, 1) := by decide +kernel
theorem dX5_counts_6 : decode cX5_counts 6 = .ok (.invokevirtual 155, 3) := by decide +kernel
theorem dX5_counts_9 : decode cX5_counts 9 = .ok (.goto 62, 3) := by decide +kernel
theorem dX5_counts_12 : decode cX5_counts 12 = .ok (.iload_n 2, 1) := by decide +kernel
theorem dX5_counts_13 : decode cX5_counts 13 = .ok (.iconst 1, 1) := by decide +kernel
theorem dX5_counts_14 : decode cX5_counts 14 = .ok (.if_icmp .ne 19, 3) := by decide +kernel
theorem dX5_counts_17 : decode cX5_counts 17 = .ok (.aload_n 0, 1) := by decide +kernel
theorem dX5_counts_18 : decode cX5_counts 18 = .ok (.iload_n 1, 1) := by decide +kernel
theorem dX5_counts_19 : decode cX5_counts 19 = .ok (.invokevirtual 152, 3) := by decide +kernel
theorem dX5_counts_22 : decode cX5_counts 22 = .ok (.ifCond .ne 7, 3) := by decide +kernel
theorem dX5_counts_25 : decode cX5_counts 25 = .ok (.iconst 1, 1) := by decide +kernel
theorem dX5_counts_26 : decode cX5_counts 26 = .ok (.goto 45, 3) := by decide +kernel
theorem dX5_counts_29 : decode cX5_counts 29 = .ok (.iconst 0, 1) := by decide +kernel
theorem dX5_counts_30 : decode cX5_counts 30 = .ok (.goto 41, 3) := by decide +kernel
theorem dX5_counts_33 : decode cX5_counts 33 = .ok (.iload_n 2, 1) := by decide +kernel
theorem dX5_counts_34 : decode cX5_counts 34 = .ok (.iconst 2, 1) := by decide +kernel
theorem dX5_counts_35 : decode cX5_counts 35 = .ok (.if_icmp .ne 20, 3) := by decide +kernel
theorem dX5_counts_38 : decode cX5_counts 38 = .ok (.aload_n 0, 1) := by decide +kernel
theorem dX5_counts_39 : decode cX5_counts 39 = .ok (.iload_n 1, 1) := by decide +kernel
theorem dX5_counts_40 : decode cX5_counts 40 = .ok (.iconst 0, 1) := by decide +kernel
theorem dX5_counts_41 : decode cX5_counts 41 = .ok (.invokevirtual 75, 3) := by decide +kernel
theorem dX5_counts_44 : decode cX5_counts 44 = .ok (.ifCond .eq 7, 3) := by decide +kernel
theorem dX5_counts_47 : decode cX5_counts 47 = .ok (.iconst 1, 1) := by decide +kernel
theorem dX5_counts_48 : decode cX5_counts 48 = .ok (.goto 23, 3) := by decide +kernel
theorem dX5_counts_51 : decode cX5_counts 51 = .ok (.iconst 0, 1) := by decide +kernel
theorem dX5_counts_52 : decode cX5_counts 52 = .ok (.goto 19, 3) := by decide +kernel
theorem dX5_counts_55 : decode cX5_counts 55 = .ok (.aload_n 0, 1) := by decide +kernel
theorem dX5_counts_56 : decode cX5_counts 56 = .ok (.iload_n 1, 1) := by decide +kernel
theorem dX5_counts_57 : decode cX5_counts 57 = .ok (.iconst 0, 1) := by decide +kernel
theorem dX5_counts_58 : decode cX5_counts 58 = .ok (.invokevirtual 75, 3) := by decide +kernel
theorem dX5_counts_61 : decode cX5_counts 61 = .ok (.iconst 4, 1) := by decide +kernel
theorem dX5_counts_62 : decode cX5_counts 62 = .ok (.iand, 1) := by decide +kernel
theorem dX5_counts_63 : decode cX5_counts 63 = .ok (.ifCond .eq 7, 3) := by decide +kernel
theorem dX5_counts_66 : decode cX5_counts 66 = .ok (.iconst 1, 1) := by decide +kernel
theorem dX5_counts_67 : decode cX5_counts 67 = .ok (.goto 4, 3) := by decide +kernel
theorem dX5_counts_70 : decode cX5_counts 70 = .ok (.iconst 0, 1) := by decide +kernel
theorem dX5_counts_71 : decode cX5_counts 71 = .ok (.ireturn, 1) := by decide +kernel
set_option maxRecDepth 20000 in
theorem ggX5_bodies_X5_in : GoodIn wsX5_bodies wsX5_in := goodIn_r _ [7] (by decide +kernel) (by decide +kernel)
set_option maxRecDepth 20000 in
theorem gX5_bodies_X5_in : GoodIn wsX5_bodies (va_wsS RX5 26 yX5_in wsX5_in) := goodIn_app (goodIn_of _ (by decide +kernel)) ggX5_bodies_X5_in
set_option maxRecDepth 20000 in
theorem ggX5_bodies_X5_counts : GoodIn wsX5_bodies wsX5_counts := goodIn_r _ [11, 12, 13, 14, 6, 15, 16, 17, 18, 19, 20, 21, 22, 23, 24, 25, 26, 27, 28, 29, 30, 31, 32, 33, 34, 35, 36, 37, 3, 38, 39, 40, 41, 42, 43, 44, 45, 46, 47, 48, 49, 50, 51, 52, 53, 54, 55, 56, 57, 58, 59, 60, 61, 62, 63, 64, 65, 66, 67, 68, 69, 70, 71, 72, 73, 74, 75, 76, 77, 78, 79, 80, 81, 82, 83, 84, 85, 86, 87, 88, 89, 90, 91, 92, 93, 94, 95, 96, 97, 98, 99, 100, 101, 102, 103, 104, 105, 110, 111, 112, 113, 114, 115, 116, 117, 118, 119] (by decide +kernel) (by decide +kernel)
set_option maxRecDepth 20000 in
theorem gX5_bodies_X5_counts : GoodIn wsX5_bodies (wsV RX5 165 RX5 yX5_counts wsX5_counts) := goodIn_app (goodIn_of _ (by decide +kernel)) ggX5_bodies_X5_counts
set_option maxRecDepth 20000 in
theorem ggX5_bodies_X5_together : GoodIn wsX5_bodies wsX5_together := goodIn_r _ [109, 3, 98, 99, 100, 6, 101, 102, 103, 104, 105, 74, 75, 76, 77, 78, 79, 80, 81, 38, 39, 40, 41, 82, 83, 84, 85, 86, 87, 88, 89, 90, 91, 92, 93, 94, 95, 96, 97, 110, 111, 112, 113, 114, 115, 116, 117, 118, 119] (by decide +kernel) (by decide +kernel)
set_option maxRecDepth 20000 in
theorem gX5_bodies_X5_together : GoodIn wsX5_bodies (wsV RX5 168 RX5 yX5_together wsX5_together) := goodIn_app (goodIn_of _ (by decide +kernel)) ggX5_bodies_X5_together
theorem dX5_bodies_0 : decode cX5_bodies 0 = .ok (.iload_n 1, 1) := by decide +kernel
theorem dX5_bodies_1 : decode cX5_bodies 1 = .ok (.i2l, 1) := by decide +kernel
theorem dX5_bodies_2 : decode cX5_bodies 2 = .ok (.lconst 0, 1) := by decide +kernel
theorem dX5_bodies_3 : decode cX5_bodies 3 = .ok (.ldc2_w 163, 3) := by decide +kernel
theorem dX5_bodies_6 : decode cX5_bodies 6 = .ok (.invokestatic 26, 3) := by decide +kernel
theorem dX5_bodies_9 : decode cX5_bodies 9 = .ok (.ifCond .ne 6, 3) := by decide +kernel
theorem dX5_bodies_12 : decode cX5_bodies 12 = .ok (.ldc 120, 2) := by decide +kernel
theorem dX5_bodies_14 : decode cX5_bodies 14 = .ok (.ireturn, 1) := by decide +kernel
theorem dX5_bodies_15 : decode cX5_bodies 15 = .ok (.iconst 0, 1) := by decide +kernel
theorem dX5_bodies_16 : decode cX5_bodies 16 = .ok (.istore_n 2, 1) := by decide +kernel
theorem dX5_bodies_17 : decode cX5_bodies 17 = .ok (.iconst 0, 1) := by decide +kernel
theorem dX5_bodies_18 : decode cX5_bodies 18 = .ok (.istore_n 3, 1) := by decide +kernel
theorem dX5_bodies_19 : decode cX5_bodies 19 = .ok (.iload_n 3, 1) := by decide +kernel
theorem dX5_bodies_20 : decode cX5_bodies 20 = .ok (.aload_n 0, 1) := by decide +kernel
theorem dX5_bodies_21 : decode cX5_bodies 21 = .ok (.getfield 7, 3) := by decide +kernel
theorem dX5_bodies_24 : decode cX5_bodies 24 = .ok (.iconst 2, 1) := by decide +kernel
theorem dX5_bodies_25 : decode cX5_bodies 25 = .ok (.iaload, 1) := by decide +kernel
theorem dX5_bodies_26 : decode cX5_bodies 26 = .ok (.if_icmp .ge 28, 3) := by decide +kernel
theorem dX5_bodies_29 : decode cX5_bodies 29 = .ok (.iload_n 2, 1) := by decide +kernel
theorem dX5_bodies_30 : decode cX5_bodies 30 = .ok (.aload_n 0, 1) := by decide +kernel
theorem dX5_bodies_31 : decode cX5_bodies 31 = .ok (.iload_n 3, 1) := by decide +kernel
theorem dX5_bodies_32 : decode cX5_bodies 32 = .ok (.iload_n 1, 1) := by decide +kernel
theorem dX5_bodies_33 : decode cX5_bodies 33 = .ok (.invokevirtual 165, 3) := by decide +kernel
theorem dX5_bodies_36 : decode cX5_bodies 36 = .ok (.ifCond .eq 9, 3) := by decide +kernel
theorem dX5_bodies_39 : decode cX5_bodies 39 = .ok (.iconst 1, 1) := by decide +kernel
theorem dX5_bodies_40 : decode cX5_bodies 40 = .ok (.iload_n 3, 1) := by decide +kernel
theorem dX5_bodies_41 : decode cX5_bodies 41 = .ok (.ishl, 1) := by decide +kernel
theorem dX5_bodies_42 : decode cX5_bodies 42 = .ok (.goto 4, 3) := by decide +kernel
theorem dX5_bodies_45 : decode cX5_bodies 45 = .ok (.iconst 0, 1) := by decide +kernel
theorem dX5_bodies_46 : decode cX5_bodies 46 = .ok (.ior, 1) := by decide +kernel
theorem dX5_bodies_47 : decode cX5_bodies 47 = .ok (.istore_n 2, 1) := by decide +kernel
theorem dX5_bodies_48 : decode cX5_bodies 48 = .ok (.iinc 3 1, 3) := by decide +kernel
theorem dX5_bodies_51 : decode cX5_bodies 51 = .ok (.goto (-32), 3) := by decide +kernel
theorem dX5_bodies_54 : decode cX5_bodies 54 = .ok (.iload_n 1, 1) := by decide +kernel
theorem dX5_bodies_55 : decode cX5_bodies 55 = .ok (.iconst 3, 1) := by decide +kernel
theorem dX5_bodies_56 : decode cX5_bodies 56 = .ok (.if_icmp .ne 11, 3) := by decide +kernel
theorem dX5_bodies_59 : decode cX5_bodies 59 = .ok (.aload_n 0, 1) := by decide +kernel
theorem dX5_bodies_60 : decode cX5_bodies 60 = .ok (.iload_n 2, 1) := by decide +kernel
theorem dX5_bodies_61 : decode cX5_bodies 61 = .ok (.invokevirtual 168, 3) := by decide +kernel
theorem dX5_bodies_64 : decode cX5_bodies 64 = .ok (.goto 4, 3) := by decide +kernel
theorem dX5_bodies_67 : decode cX5_bodies 67 = .ok (.iload_n 2, 1) := by decide +kernel
theorem dX5_bodies_68 : decode cX5_bodies 68 = .ok (.ireturn, 1) := by decide +kernel
set_option maxRecDepth 20000 in
theorem ggX5_group_X5_together : GoodIn wsX5_group wsX5_together := goodIn_r _ [8, 2, 9, 10, 11, 7, 12, 13, 14, 15, 16, 17, 18, 19, 20, 21, 22, 23, 24, 25, 26, 27, 28, 29, 30, 31, 32, 33, 34, 35, 36, 37, 38, 39, 40, 41, 42, 43, 44, 45, 46, 47, 48, 49, 50, 51, 52, 53, 54] (by decide +kernel) (by decide +kernel)
set_option maxRecDepth 20000 in
theorem gX5_group_X5_together : GoodIn wsX5_group (wsV RX5 168 RX5 yX5_together wsX5_together) := goodIn_app (goodIn_of _ (by decide +kernel)) ggX5_group_X5_together
theorem dX5_group_0 : decode cX5_group 0 = .ok (.iload_n 1, 1) := by decide +kernel
theorem dX5_group_1 : decode cX5_group 1 = .ok (.iconst (-1), 1) := by decide +kernel
theorem dX5_group_2 : decode cX5_group 2 = .ok (.if_icmp .ge 6, 3) := by decide +kernel
theorem dX5_group_5 : decode cX5_group 5 = .ok (.ldc 120, 2) := by decide +kernel
theorem dX5_group_7 : decode cX5_group 7 = .ok (.ireturn, 1) := by decide +kernel
theorem dX5_group_8 : decode cX5_group 8 = .ok (.iconst 0, 1) := by decide +kernel
theorem dX5_group_9 : decode cX5_group 9 = .ok (.istore_n 2, 1) := by decide +kernel
theorem dX5_group_10 : decode cX5_group 10 = .ok (.iconst 0, 1) := by decide +kernel
theorem dX5_group_11 : decode cX5_group 11 = .ok (.istore_n 3, 1) := by decide +kernel
theorem dX5_group_12 : decode cX5_group 12 = .ok (.iconst 0, 1) := by decide +kernel
theorem dX5_group_13 : decode cX5_group 13 = .ok (.istore 4, 2) := by decide +kernel
theorem dX5_group_15 : decode cX5_group 15 = .ok (.iload 4, 2) := by decide +kernel
theorem dX5_group_17 : decode cX5_group 17 = .ok (.aload_n 0, 1) := by decide +kernel
theorem dX5_group_18 : decode cX5_group 18 = .ok (.getfield 7, 3) := by decide +kernel
theorem dX5_group_21 : decode cX5_group 21 = .ok (.iconst 2, 1) := by decide +kernel
theorem dX5_group_22 : decode cX5_group 22 = .ok (.iaload, 1) := by decide +kernel
theorem dX5_group_23 : decode cX5_group 23 = .ok (.if_icmp .ge 44, 3) := by decide +kernel
theorem dX5_group_26 : decode cX5_group 26 = .ok (.iload_n 2, 1) := by decide +kernel
theorem dX5_group_27 : decode cX5_group 27 = .ok (.iload 4, 2) := by decide +kernel
theorem dX5_group_29 : decode cX5_group 29 = .ok (.ishr, 1) := by decide +kernel
theorem dX5_group_30 : decode cX5_group 30 = .ok (.iconst 1, 1) := by decide +kernel
theorem dX5_group_31 : decode cX5_group 31 = .ok (.iand, 1) := by decide +kernel
theorem dX5_group_32 : decode cX5_group 32 = .ok (.ifCond .ne 29, 3) := by decide +kernel
theorem dX5_group_35 : decode cX5_group 35 = .ok (.aload_n 0, 1) := by decide +kernel
theorem dX5_group_36 : decode cX5_group 36 = .ok (.iconst 1, 1) := by decide +kernel
theorem dX5_group_37 : decode cX5_group 37 = .ok (.iload 4, 2) := by decide +kernel
theorem dX5_group_39 : decode cX5_group 39 = .ok (.ishl, 1) := by decide +kernel
theorem dX5_group_40 : decode cX5_group 40 = .ok (.invokevirtual 168, 3) := by decide +kernel
theorem dX5_group_43 : decode cX5_group 43 = .ok (.istore 5, 2) := by decide +kernel
theorem dX5_group_45 : decode cX5_group 45 = .ok (.iload_n 3, 1) := by decide +kernel
theorem dX5_group_46 : decode cX5_group 46 = .ok (.iload_n 1, 1) := by decide +kernel
theorem dX5_group_47 : decode cX5_group 47 = .ok (.if_icmp .ne 6, 3) := by decide +kernel
theorem dX5_group_50 : decode cX5_group 50 = .ok (.iload 5, 2) := by decide +kernel
theorem dX5_group_52 : decode cX5_group 52 = .ok (.ireturn, 1) := by decide +kernel
theorem dX5_group_53 : decode cX5_group 53 = .ok (.iload_n 2, 1) := by decide +kernel
theorem dX5_group_54 : decode cX5_group 54 = .ok (.iload 5, 2) := by decide +kernel
theorem dX5_group_56 : decode cX5_group 56 = .ok (.ior, 1) := by decide +kernel
theorem dX5_group_57 : decode cX5_group 57 = .ok (.istore_n 2, 1) := by decide +kernel
theorem dX5_group_58 : decode cX5_group 58 = .ok (.iinc 3 1, 3) := by decide +kernel
theorem dX5_group_61 : decode cX5_group 61 = .ok (.iinc 4 1, 3) := by decide +kernel
theorem dX5_group_64 : decode cX5_group 64 = .ok (.goto (-49), 3) := by decide +kernel
theorem dX5_group_67 : decode cX5_group 67 = .ok (.iload_n 1, 1) := by decide +kernel
theorem dX5_group_68 : decode cX5_group 68 = .ok (.iconst (-1), 1) := by decide +kernel
theorem dX5_group_69 : decode cX5_group 69 = .ok (.if_icmp .ne 7, 3) := by decide +kernel
theorem dX5_group_72 : decode cX5_group 72 = .ok (.iload_n 3, 1) := by decide +kernel
theorem dX5_group_73 : decode cX5_group 73 = .ok (.goto 5, 3) := by decide +kernel
theorem dX5_group_76 : decode cX5_group 76 = .ok (.ldc 149, 2) := by decide +kernel
theorem dX5_group_78 : decode cX5_group 78 = .ok (.ireturn, 1) := by decide +kernel
theorem dX5_shareBits_0 : decode cX5_shareBits 0 = .ok (.iload_n 0, 1) := by decide +kernel
theorem dX5_shareBits_1 : decode cX5_shareBits 1 = .ok (.i2l, 1) := by decide +kernel
theorem dX5_shareBits_2 : decode cX5_shareBits 2 = .ok (.lstore_n 2, 1) := by decide +kernel
theorem dX5_shareBits_3 : decode cX5_shareBits 3 = .ok (.iload_n 1, 1) := by decide +kernel
theorem dX5_shareBits_4 : decode cX5_shareBits 4 = .ok (.i2l, 1) := by decide +kernel
theorem dX5_shareBits_5 : decode cX5_shareBits 5 = .ok (.lstore 4, 2) := by decide +kernel
theorem dX5_shareBits_7 : decode cX5_shareBits 7 = .ok (.bipush 127, 2) := by decide +kernel
theorem dX5_shareBits_9 : decode cX5_shareBits 9 = .ok (.istore 6, 2) := by decide +kernel
theorem dX5_shareBits_11 : decode cX5_shareBits 11 = .ok (.lload_n 2, 1) := by decide +kernel
theorem dX5_shareBits_12 : decode cX5_shareBits 12 = .ok (.ldc2_w 161, 3) := by decide +kernel
theorem dX5_shareBits_15 : decode cX5_shareBits 15 = .ok (.lload 4, 2) := by decide +kernel
theorem dX5_shareBits_17 : decode cX5_shareBits 17 = .ok (.lmul, 1) := by decide +kernel
theorem dX5_shareBits_18 : decode cX5_shareBits 18 = .ok (.lcmp, 1) := by decide +kernel
theorem dX5_shareBits_19 : decode cX5_shareBits 19 = .ok (.ifCond .lt 17, 3) := by decide +kernel
theorem dX5_shareBits_22 : decode cX5_shareBits 22 = .ok (.lload 4, 2) := by decide +kernel
theorem dX5_shareBits_24 : decode cX5_shareBits 24 = .ok (.ldc2_w 161, 3) := by decide +kernel
theorem dX5_shareBits_27 : decode cX5_shareBits 27 = .ok (.lmul, 1) := by decide +kernel
theorem dX5_shareBits_28 : decode cX5_shareBits 28 = .ok (.lstore 4, 2) := by decide +kernel
theorem dX5_shareBits_30 : decode cX5_shareBits 30 = .ok (.iinc 6 1, 3) := by decide +kernel
theorem dX5_shareBits_33 : decode cX5_shareBits 33 = .ok (.goto (-22), 3) := by decide +kernel
theorem dX5_shareBits_36 : decode cX5_shareBits 36 = .ok (.lload_n 2, 1) := by decide +kernel
theorem dX5_shareBits_37 : decode cX5_shareBits 37 = .ok (.lload 4, 2) := by decide +kernel
theorem dX5_shareBits_39 : decode cX5_shareBits 39 = .ok (.lcmp, 1) := by decide +kernel
theorem dX5_shareBits_40 : decode cX5_shareBits 40 = .ok (.ifCond .ge 15, 3) := by decide +kernel
theorem dX5_shareBits_43 : decode cX5_shareBits 43 = .ok (.lload_n 2, 1) := by decide +kernel
theorem dX5_shareBits_44 : decode cX5_shareBits 44 = .ok (.ldc2_w 161, 3) := by decide +kernel
theorem dX5_shareBits_47 : decode cX5_shareBits 47 = .ok (.lmul, 1) := by decide +kernel
theorem dX5_shareBits_48 : decode cX5_shareBits 48 = .ok (.lstore_n 2, 1) := by decide +kernel
theorem dX5_shareBits_49 : decode cX5_shareBits 49 = .ok (.iinc 6 (-1), 3) := by decide +kernel
theorem dX5_shareBits_52 : decode cX5_shareBits 52 = .ok (.goto (-16), 3) := by decide +kernel
theorem dX5_shareBits_55 : decode cX5_shareBits 55 = .ok (.lload_n 2, 1) := by decide +kernel
theorem dX5_shareBits_56 : decode cX5_shareBits 56 = .ok (.ldc2_w 171, 3) := by decide +kernel
theorem dX5_shareBits_59 : decode cX5_shareBits 59 = .ok (.lmul, 1) := by decide +kernel
theorem dX5_shareBits_60 : decode cX5_shareBits 60 = .ok (.lload 4, 2) := by decide +kernel
theorem dX5_shareBits_62 : decode cX5_shareBits 62 = .ok (.ldiv, 1) := by decide +kernel
theorem dX5_shareBits_63 : decode cX5_shareBits 63 = .ok (.lstore 7, 2) := by decide +kernel
theorem dX5_shareBits_65 : decode cX5_shareBits 65 = .ok (.lload_n 2, 1) := by decide +kernel
theorem dX5_shareBits_66 : decode cX5_shareBits 66 = .ok (.ldc2_w 171, 3) := by decide +kernel
theorem dX5_shareBits_69 : decode cX5_shareBits 69 = .ok (.lmul, 1) := by decide +kernel
theorem dX5_shareBits_70 : decode cX5_shareBits 70 = .ok (.lload 4, 2) := by decide +kernel
theorem dX5_shareBits_72 : decode cX5_shareBits 72 = .ok (.lrem, 1) := by decide +kernel
theorem dX5_shareBits_73 : decode cX5_shareBits 73 = .ok (.lstore 9, 2) := by decide +kernel
theorem dX5_shareBits_75 : decode cX5_shareBits 75 = .ok (.ldc2_w 161, 3) := by decide +kernel
theorem dX5_shareBits_78 : decode cX5_shareBits 78 = .ok (.lload 9, 2) := by decide +kernel
theorem dX5_shareBits_80 : decode cX5_shareBits 80 = .ok (.lmul, 1) := by decide +kernel
theorem dX5_shareBits_81 : decode cX5_shareBits 81 = .ok (.lload 4, 2) := by decide +kernel
theorem dX5_shareBits_83 : decode cX5_shareBits 83 = .ok (.lcmp, 1) := by decide +kernel
theorem dX5_shareBits_84 : decode cX5_shareBits 84 = .ok (.ifCond .gt 26, 3) := by decide +kernel
theorem dX5_shareBits_87 : decode cX5_shareBits 87 = .ok (.ldc2_w 161, 3) := by decide +kernel
theorem dX5_shareBits_90 : decode cX5_shareBits 90 = .ok (.lload 9, 2) := by decide +kernel
theorem dX5_shareBits_92 : decode cX5_shareBits 92 = .ok (.lmul, 1) := by decide +kernel
theorem dX5_shareBits_93 : decode cX5_shareBits 93 = .ok (.lload 4, 2) := by decide +kernel
theorem dX5_shareBits_95 : decode cX5_shareBits 95 = .ok (.lcmp, 1) := by decide +kernel
theorem dX5_shareBits_96 : decode cX5_shareBits 96 = .ok (.ifCond .ne 18, 3) := by decide +kernel
theorem dX5_shareBits_99 : decode cX5_shareBits 99 = .ok (.lload 7, 2) := by decide +kernel
theorem dX5_shareBits_101 : decode cX5_shareBits 101 = .ok (.ldc2_w 161, 3) := by decide +kernel
theorem dX5_shareBits_104 : decode cX5_shareBits 104 = .ok (.lrem, 1) := by decide +kernel
theorem dX5_shareBits_105 : decode cX5_shareBits 105 = .ok (.lconst 1, 1) := by decide +kernel
theorem dX5_shareBits_106 : decode cX5_shareBits 106 = .ok (.lcmp, 1) := by decide +kernel
theorem dX5_shareBits_107 : decode cX5_shareBits 107 = .ok (.ifCond .ne 7, 3) := by decide +kernel
theorem dX5_shareBits_110 : decode cX5_shareBits 110 = .ok (.iconst 1, 1) := by decide +kernel
theorem dX5_shareBits_111 : decode cX5_shareBits 111 = .ok (.goto 4, 3) := by decide +kernel
theorem dX5_shareBits_114 : decode cX5_shareBits 114 = .ok (.iconst 0, 1) := by decide +kernel
theorem dX5_shareBits_115 : decode cX5_shareBits 115 = .ok (.istore 11, 2) := by decide +kernel
theorem dX5_shareBits_117 : decode cX5_shareBits 117 = .ok (.lload 7, 2) := by decide +kernel
theorem dX5_shareBits_119 : decode cX5_shareBits 119 = .ok (.iload 11, 2) := by decide +kernel
theorem dX5_shareBits_121 : decode cX5_shareBits 121 = .ok (.ifCond .eq 7, 3) := by decide +kernel
theorem dX5_shareBits_124 : decode cX5_shareBits 124 = .ok (.lconst 1, 1) := by decide +kernel
theorem dX5_shareBits_125 : decode cX5_shareBits 125 = .ok (.goto 4, 3) := by decide +kernel
theorem dX5_shareBits_128 : decode cX5_shareBits 128 = .ok (.lconst 0, 1) := by decide +kernel
theorem dX5_shareBits_129 : decode cX5_shareBits 129 = .ok (.ladd, 1) := by decide +kernel
theorem dX5_shareBits_130 : decode cX5_shareBits 130 = .ok (.lstore 7, 2) := by decide +kernel
theorem dX5_shareBits_132 : decode cX5_shareBits 132 = .ok (.lload 7, 2) := by decide +kernel
theorem dX5_shareBits_134 : decode cX5_shareBits 134 = .ok (.ldc2_w 173, 3) := by decide +kernel
theorem dX5_shareBits_137 : decode cX5_shareBits 137 = .ok (.lcmp, 1) := by decide +kernel
theorem dX5_shareBits_138 : decode cX5_shareBits 138 = .ok (.ifCond .ne 11, 3) := by decide +kernel
theorem dX5_shareBits_141 : decode cX5_shareBits 141 = .ok (.ldc2_w 171, 3) := by decide +kernel
theorem dX5_shareBits_144 : decode cX5_shareBits 144 = .ok (.lstore 7, 2) := by decide +kernel
theorem dX5_shareBits_146 : decode cX5_shareBits 146 = .ok (.iinc 6 1, 3) := by decide +kernel
theorem dX5_shareBits_149 : decode cX5_shareBits 149 = .ok (.iload 6, 2) := by decide +kernel
theorem dX5_shareBits_151 : decode cX5_shareBits 151 = .ok (.i2l, 1) := by decide +kernel
theorem dX5_shareBits_152 : decode cX5_shareBits 152 = .ok (.ldc2_w 171, 3) := by decide +kernel
theorem dX5_shareBits_155 : decode cX5_shareBits 155 = .ok (.lmul, 1) := by decide +kernel
theorem dX5_shareBits_156 : decode cX5_shareBits 156 = .ok (.lload 7, 2) := by decide +kernel
theorem dX5_shareBits_158 : decode cX5_shareBits 158 = .ok (.ladd, 1) := by decide +kernel
theorem dX5_shareBits_159 : decode cX5_shareBits 159 = .ok (.ldc2_w 171, 3) := by decide +kernel
theorem dX5_shareBits_162 : decode cX5_shareBits 162 = .ok (.lsub, 1) := by decide +kernel
theorem dX5_shareBits_163 : decode cX5_shareBits 163 = .ok (.l2i, 1) := by decide +kernel
theorem dX5_shareBits_164 : decode cX5_shareBits 164 = .ok (.ireturn, 1) := by decide +kernel
set_option maxRecDepth 20000 in
theorem ggX5_density_X5_areas : GoodIn wsX5_density wsX5_areas := goodIn_r _ [6, 1, 7, 8, 9, 5, 10, 11, 12, 13, 14, 15, 16, 17, 18, 19, 20, 21, 22, 29, 30, 31, 32, 33, 34, 35, 36, 37, 38] (by decide +kernel) (by decide +kernel)
set_option maxRecDepth 20000 in
theorem gX5_density_X5_areas : GoodIn wsX5_density (wsV RX5 175 RX5 yX5_areas wsX5_areas) := goodIn_app (goodIn_of _ (by decide +kernel)) ggX5_density_X5_areas
set_option maxRecDepth 20000 in
theorem ggX5_density_X5_shareBits : GoodIn wsX5_density wsX5_shareBits := goodIn_r _ [25, 26, 27, 28] (by decide +kernel) (by decide +kernel)
set_option maxRecDepth 20000 in
theorem gX5_density_X5_shareBits : GoodIn wsX5_density (va_wsS RX5 179 yX5_shareBits wsX5_shareBits) := goodIn_app (goodIn_of _ (by decide +kernel)) ggX5_density_X5_shareBits
theorem dX5_density_0 : decode cX5_density 0 = .ok (.aload_n 0, 1) := by decide +kernel
theorem dX5_density_1 : decode cX5_density 1 = .ok (.invokevirtual 175, 3) := by decide +kernel
theorem dX5_density_4 : decode cX5_density 4 = .ok (.istore_n 1, 1) := by decide +kernel
theorem dX5_density_5 : decode cX5_density 5 = .ok (.iload_n 1, 1) := by decide +kernel
theorem dX5_density_6 : decode cX5_density 6 = .ok (.ifCond .ne 7, 3) := by decide +kernel
theorem dX5_density_9 : decode cX5_density 9 = .ok (.iconst 0, 1) := by decide +kernel
theorem dX5_density_10 : decode cX5_density 10 = .ok (.goto 22, 3) := by decide +kernel
theorem dX5_density_13 : decode cX5_density 13 = .ok (.iload_n 1, 1) := by decide +kernel
theorem dX5_density_14 : decode cX5_density 14 = .ok (.iconst 2, 1) := by decide +kernel
theorem dX5_density_15 : decode cX5_density 15 = .ok (.aload_n 0, 1) := by decide +kernel
theorem dX5_density_16 : decode cX5_density 16 = .ok (.getfield 7, 3) := by decide +kernel
theorem dX5_density_19 : decode cX5_density 19 = .ok (.iconst 0, 1) := by decide +kernel
theorem dX5_density_20 : decode cX5_density 20 = .ok (.iaload, 1) := by decide +kernel
theorem dX5_density_21 : decode cX5_density 21 = .ok (.imul, 1) := by decide +kernel
theorem dX5_density_22 : decode cX5_density 22 = .ok (.aload_n 0, 1) := by decide +kernel
theorem dX5_density_23 : decode cX5_density 23 = .ok (.getfield 7, 3) := by decide +kernel
theorem dX5_density_26 : decode cX5_density 26 = .ok (.iconst 1, 1) := by decide +kernel
theorem dX5_density_27 : decode cX5_density 27 = .ok (.iaload, 1) := by decide +kernel
theorem dX5_density_28 : decode cX5_density 28 = .ok (.imul, 1) := by decide +kernel
theorem dX5_density_29 : decode cX5_density 29 = .ok (.invokestatic 179, 3) := by decide +kernel
theorem dX5_density_32 : decode cX5_density 32 = .ok (.ireturn, 1) := by decide +kernel
set_option maxRecDepth 20000 in
theorem ggX5_keystone_X5_isDirection : GoodIn wsX5_keystone wsX5_isDirection := goodIn_r _ [7, 8, 9, 10, 6, 11] (by decide +kernel) (by decide +kernel)
set_option maxRecDepth 20000 in
theorem gX5_keystone_X5_isDirection : GoodIn wsX5_keystone (va_wsS RX5 140 yX5_isDirection wsX5_isDirection) := goodIn_app (goodIn_of _ (by decide +kernel)) ggX5_keystone_X5_isDirection
set_option maxRecDepth 20000 in
theorem ggX5_keystone_X5_in : GoodIn wsX5_keystone wsX5_in := goodIn_r _ [11] (by decide +kernel) (by decide +kernel)
set_option maxRecDepth 20000 in
theorem gX5_keystone_X5_in : GoodIn wsX5_keystone (va_wsS RX5 26 yX5_in wsX5_in) := goodIn_app (goodIn_of _ (by decide +kernel)) ggX5_keystone_X5_in
set_option maxRecDepth 20000 in
theorem ggX5_keystone_X5_keep : GoodIn wsX5_keystone wsX5_keep := goodIn_r _ [15, 16, 2, 111, 112, 113, 114, 115, 116, 117, 118, 119, 120] (by decide +kernel) (by decide +kernel)
set_option maxRecDepth 20000 in
theorem gX5_keystone_X5_keep : GoodIn wsX5_keystone (wsV RX5 122 RX5 yX5_keep wsX5_keep) := goodIn_app (goodIn_of _ (by decide +kernel)) ggX5_keystone_X5_keep
set_option maxRecDepth 20000 in
theorem ggX5_keystone_X5_takesOut : GoodIn wsX5_keystone wsX5_takesOut := goodIn_r _ [20, 2, 21, 22, 23, 6, 24, 111, 112, 113, 114, 115, 116, 117, 118, 119, 120] (by decide +kernel) (by decide +kernel)
set_option maxRecDepth 20000 in
theorem gX5_keystone_X5_takesOut : GoodIn wsX5_keystone (wsV RX5 136 RX5 yX5_takesOut wsX5_takesOut) := goodIn_app (goodIn_of _ (by decide +kernel)) ggX5_keystone_X5_takesOut
set_option maxRecDepth 20000 in
theorem ggX5_keystone_X5_settles : GoodIn wsX5_keystone wsX5_settles := goodIn_r _ [28, 2, 29, 30, 31, 6, 32, 33, 34, 35, 36, 37, 38, 39, 40, 41, 42, 43, 44, 45, 46, 47, 48, 49, 50, 51, 52, 53, 54, 55, 56, 57, 58, 59, 60, 61, 62, 63, 64, 65, 66, 67, 68, 69, 70, 71, 72, 73, 74, 75, 76, 77, 78, 79, 80, 81, 82, 83, 84, 85, 86, 87, 88, 89, 90, 91, 92, 93, 94, 95, 96, 97, 98, 99, 100, 101, 102, 103, 104, 105, 106, 111, 112, 113, 114, 115, 116, 117, 118, 119, 120] (by decide +kernel) (by decide +kernel)
set_option maxRecDepth 20000 in
theorem gX5_keystone_X5_settles : GoodIn wsX5_keystone (wsV RX5 146 RX5 yX5_settles wsX5_settles) := goodIn_app (goodIn_of _ (by decide +kernel)) ggX5_keystone_X5_settles
set_option maxRecDepth 20000 in
theorem ggX5_keystone_X5_giveBack : GoodIn wsX5_keystone wsX5_giveBack := goodIn_r _ [110, 2, 16, 111, 112, 113, 114, 115, 116, 117, 118, 119, 120] (by decide +kernel) (by decide +kernel)
set_option maxRecDepth 20000 in
theorem gX5_keystone_X5_giveBack : GoodIn wsX5_keystone (wsV RX5 143 RX5 yX5_giveBack wsX5_giveBack) := goodIn_app (goodIn_of _ (by decide +kernel)) ggX5_keystone_X5_giveBack
theorem dX5_keystone_0 : decode cX5_keystone 0 = .ok (.iload_n 1, 1) := by decide +kernel
theorem dX5_keystone_1 : decode cX5_keystone 1 = .ok (.invokestatic 140, 3) := by decide +kernel
theorem dX5_keystone_4 : decode cX5_keystone 4 = .ok (.ifCond .eq 13, 3) := by decide +kernel
theorem dX5_keystone_7 : decode cX5_keystone 7 = .ok (.iload_n 2, 1) := by decide +kernel
theorem dX5_keystone_8 : decode cX5_keystone 8 = .ok (.i2l, 1) := by decide +kernel
theorem dX5_keystone_9 : decode cX5_keystone 9 = .ok (.lconst 0, 1) := by decide +kernel
theorem dX5_keystone_10 : decode cX5_keystone 10 = .ok (.lconst 1, 1) := by decide +kernel
theorem dX5_keystone_11 : decode cX5_keystone 11 = .ok (.invokestatic 26, 3) := by decide +kernel
theorem dX5_keystone_14 : decode cX5_keystone 14 = .ok (.ifCond .ne 6, 3) := by decide +kernel
theorem dX5_keystone_17 : decode cX5_keystone 17 = .ok (.ldc 120, 2) := by decide +kernel
theorem dX5_keystone_19 : decode cX5_keystone 19 = .ok (.ireturn, 1) := by decide +kernel
theorem dX5_keystone_20 : decode cX5_keystone 20 = .ok (.iconst (-1), 1) := by decide +kernel
theorem dX5_keystone_21 : decode cX5_keystone 21 = .ok (.istore_n 3, 1) := by decide +kernel
theorem dX5_keystone_22 : decode cX5_keystone 22 = .ok (.iconst (-1), 1) := by decide +kernel
theorem dX5_keystone_23 : decode cX5_keystone 23 = .ok (.istore 4, 2) := by decide +kernel
theorem dX5_keystone_25 : decode cX5_keystone 25 = .ok (.aload_n 0, 1) := by decide +kernel
theorem dX5_keystone_26 : decode cX5_keystone 26 = .ok (.invokevirtual 122, 3) := by decide +kernel
theorem dX5_keystone_29 : decode cX5_keystone 29 = .ok (.aload_n 0, 1) := by decide +kernel
theorem dX5_keystone_30 : decode cX5_keystone 30 = .ok (.getfield 7, 3) := by decide +kernel
theorem dX5_keystone_33 : decode cX5_keystone 33 = .ok (.iconst 2, 1) := by decide +kernel
theorem dX5_keystone_34 : decode cX5_keystone 34 = .ok (.iaload, 1) := by decide +kernel
theorem dX5_keystone_35 : decode cX5_keystone 35 = .ok (.istore 5, 2) := by decide +kernel
theorem dX5_keystone_37 : decode cX5_keystone 37 = .ok (.iconst 0, 1) := by decide +kernel
theorem dX5_keystone_38 : decode cX5_keystone 38 = .ok (.istore 6, 2) := by decide +kernel
theorem dX5_keystone_40 : decode cX5_keystone 40 = .ok (.iload 6, 2) := by decide +kernel
theorem dX5_keystone_42 : decode cX5_keystone 42 = .ok (.iload 5, 2) := by decide +kernel
theorem dX5_keystone_44 : decode cX5_keystone 44 = .ok (.if_icmp .ge 56, 3) := by decide +kernel
theorem dX5_keystone_47 : decode cX5_keystone 47 = .ok (.aload_n 0, 1) := by decide +kernel
theorem dX5_keystone_48 : decode cX5_keystone 48 = .ok (.iload 6, 2) := by decide +kernel
theorem dX5_keystone_50 : decode cX5_keystone 50 = .ok (.invokevirtual 136, 3) := by decide +kernel
theorem dX5_keystone_53 : decode cX5_keystone 53 = .ok (.aload_n 0, 1) := by decide +kernel
theorem dX5_keystone_54 : decode cX5_keystone 54 = .ok (.iload_n 1, 1) := by decide +kernel
theorem dX5_keystone_55 : decode cX5_keystone 55 = .ok (.invokevirtual 146, 3) := by decide +kernel
theorem dX5_keystone_58 : decode cX5_keystone 58 = .ok (.istore 7, 2) := by decide +kernel
theorem dX5_keystone_60 : decode cX5_keystone 60 = .ok (.aload_n 0, 1) := by decide +kernel
theorem dX5_keystone_61 : decode cX5_keystone 61 = .ok (.invokevirtual 143, 3) := by decide +kernel
theorem dX5_keystone_64 : decode cX5_keystone 64 = .ok (.iload 7, 2) := by decide +kernel
theorem dX5_keystone_66 : decode cX5_keystone 66 = .ok (.iload 4, 2) := by decide +kernel
theorem dX5_keystone_68 : decode cX5_keystone 68 = .ok (.if_icmp .le 8, 3) := by decide +kernel
theorem dX5_keystone_71 : decode cX5_keystone 71 = .ok (.iload 6, 2) := by decide +kernel
theorem dX5_keystone_73 : decode cX5_keystone 73 = .ok (.goto 4, 3) := by decide +kernel
theorem dX5_keystone_76 : decode cX5_keystone 76 = .ok (.iload_n 3, 1) := by decide +kernel
theorem dX5_keystone_77 : decode cX5_keystone 77 = .ok (.istore_n 3, 1) := by decide +kernel
theorem dX5_keystone_78 : decode cX5_keystone 78 = .ok (.iload 7, 2) := by decide +kernel
theorem dX5_keystone_80 : decode cX5_keystone 80 = .ok (.iload 4, 2) := by decide +kernel
theorem dX5_keystone_82 : decode cX5_keystone 82 = .ok (.if_icmp .le 8, 3) := by decide +kernel
theorem dX5_keystone_85 : decode cX5_keystone 85 = .ok (.iload 7, 2) := by decide +kernel
theorem dX5_keystone_87 : decode cX5_keystone 87 = .ok (.goto 5, 3) := by decide +kernel
theorem dX5_keystone_90 : decode cX5_keystone 90 = .ok (.iload 4, 2) := by decide +kernel
theorem dX5_keystone_92 : decode cX5_keystone 92 = .ok (.istore 4, 2) := by decide +kernel
theorem dX5_keystone_94 : decode cX5_keystone 94 = .ok (.iinc 6 1, 3) := by decide +kernel
theorem dX5_keystone_97 : decode cX5_keystone 97 = .ok (.goto (-57), 3) := by decide +kernel
theorem dX5_keystone_100 : decode cX5_keystone 100 = .ok (.iload_n 3, 1) := by decide +kernel
theorem dX5_keystone_101 : decode cX5_keystone 101 = .ok (.iconst (-1), 1) := by decide +kernel
theorem dX5_keystone_102 : decode cX5_keystone 102 = .ok (.if_icmp .ne 8, 3) := by decide +kernel
theorem dX5_keystone_105 : decode cX5_keystone 105 = .ok (.ldc 149, 2) := by decide +kernel
theorem dX5_keystone_107 : decode cX5_keystone 107 = .ok (.goto 13, 3) := by decide +kernel
theorem dX5_keystone_110 : decode cX5_keystone 110 = .ok (.iload_n 2, 1) := by decide +kernel
theorem dX5_keystone_111 : decode cX5_keystone 111 = .ok (.ifCond .ne 7, 3) := by decide +kernel
theorem dX5_keystone_114 : decode cX5_keystone 114 = .ok (.iload_n 3, 1) := by decide +kernel
theorem dX5_keystone_115 : decode cX5_keystone 115 = .ok (.goto 5, 3) := by decide +kernel
theorem dX5_keystone_118 : decode cX5_keystone 118 = .ok (.iload 4, 2) := by decide +kernel
theorem dX5_keystone_120 : decode cX5_keystone 120 = .ok (.ireturn, 1) := by decide +kernel
set_option maxRecDepth 20000 in
theorem ggX5_cornersOfAll_X5_corners : GoodIn wsX5_cornersOfAll wsX5_corners := goodIn_r _ [6, 1, 7, 8, 9, 10, 11, 12, 13, 14, 15, 16] (by decide +kernel) (by decide +kernel)
set_option maxRecDepth 20000 in
theorem gX5_cornersOfAll_X5_corners : GoodIn wsX5_cornersOfAll (wsV RX5 30 RX5 yX5_corners wsX5_corners) := goodIn_app (goodIn_of _ (by decide +kernel)) ggX5_cornersOfAll_X5_corners
theorem dX5_cornersOfAll_0 : decode cX5_cornersOfAll 0 = .ok (.iconst 0, 1) := by decide +kernel
theorem dX5_cornersOfAll_1 : decode cX5_cornersOfAll 1 = .ok (.istore_n 1, 1) := by decide +kernel
theorem dX5_cornersOfAll_2 : decode cX5_cornersOfAll 2 = .ok (.iconst 0, 1) := by decide +kernel
theorem dX5_cornersOfAll_3 : decode cX5_cornersOfAll 3 = .ok (.istore_n 2, 1) := by decide +kernel
theorem dX5_cornersOfAll_4 : decode cX5_cornersOfAll 4 = .ok (.iload_n 2, 1) := by decide +kernel
theorem dX5_cornersOfAll_5 : decode cX5_cornersOfAll 5 = .ok (.aload_n 0, 1) := by decide +kernel
theorem dX5_cornersOfAll_6 : decode cX5_cornersOfAll 6 = .ok (.getfield 7, 3) := by decide +kernel
theorem dX5_cornersOfAll_9 : decode cX5_cornersOfAll 9 = .ok (.iconst 2, 1) := by decide +kernel
theorem dX5_cornersOfAll_10 : decode cX5_cornersOfAll 10 = .ok (.iaload, 1) := by decide +kernel
theorem dX5_cornersOfAll_11 : decode cX5_cornersOfAll 11 = .ok (.if_icmp .ge 17, 3) := by decide +kernel
theorem dX5_cornersOfAll_14 : decode cX5_cornersOfAll 14 = .ok (.iload_n 1, 1) := by decide +kernel
theorem dX5_cornersOfAll_15 : decode cX5_cornersOfAll 15 = .ok (.aload_n 0, 1) := by decide +kernel
theorem dX5_cornersOfAll_16 : decode cX5_cornersOfAll 16 = .ok (.iload_n 2, 1) := by decide +kernel
theorem dX5_cornersOfAll_17 : decode cX5_cornersOfAll 17 = .ok (.invokevirtual 30, 3) := by decide +kernel
theorem dX5_cornersOfAll_20 : decode cX5_cornersOfAll 20 = .ok (.iadd, 1) := by decide +kernel
theorem dX5_cornersOfAll_21 : decode cX5_cornersOfAll 21 = .ok (.istore_n 1, 1) := by decide +kernel
theorem dX5_cornersOfAll_22 : decode cX5_cornersOfAll 22 = .ok (.iinc 2 1, 3) := by decide +kernel
theorem dX5_cornersOfAll_25 : decode cX5_cornersOfAll 25 = .ok (.goto (-21), 3) := by decide +kernel
theorem dX5_cornersOfAll_28 : decode cX5_cornersOfAll 28 = .ok (.iload_n 1, 1) := by decide +kernel
theorem dX5_cornersOfAll_29 : decode cX5_cornersOfAll 29 = .ok (.ireturn, 1) := by decide +kernel
set_option maxRecDepth 20000 in
theorem ggX5_pairs_X5_touched : GoodIn wsX5_pairs wsX5_touched := goodIn_r _ [6, 1, 7, 8, 9, 5, 10, 11, 12, 13, 14, 15, 16, 17, 18, 19, 20, 21, 22, 23, 24, 25, 26, 27, 28, 29, 30, 31, 32, 33, 34, 35, 36, 37, 38, 39, 40, 41, 42, 43, 44, 45, 46, 47, 48] (by decide +kernel) (by decide +kernel)
set_option maxRecDepth 20000 in
theorem gX5_pairs_X5_touched : GoodIn wsX5_pairs (wsV RX5 152 RX5 yX5_touched wsX5_touched) := goodIn_app (goodIn_of _ (by decide +kernel)) ggX5_pairs_X5_touched
theorem dX5_pairs_0 : decode cX5_pairs 0 = .ok (.iconst 0, 1) := by decide +kernel
theorem dX5_pairs_1 : decode cX5_pairs 1 = .ok (.istore_n 1, 1) := by decide +kernel
theorem dX5_pairs_2 : decode cX5_pairs 2 = .ok (.iconst 0, 1) := by decide +kernel
theorem dX5_pairs_3 : decode cX5_pairs 3 = .ok (.istore_n 2, 1) := by decide +kernel
theorem dX5_pairs_4 : decode cX5_pairs 4 = .ok (.iload_n 2, 1) := by decide +kernel
theorem dX5_pairs_5 : decode cX5_pairs 5 = .ok (.aload_n 0, 1) := by decide +kernel
theorem dX5_pairs_6 : decode cX5_pairs 6 = .ok (.getfield 7, 3) := by decide +kernel
theorem dX5_pairs_9 : decode cX5_pairs 9 = .ok (.iconst 2, 1) := by decide +kernel
theorem dX5_pairs_10 : decode cX5_pairs 10 = .ok (.iaload, 1) := by decide +kernel
theorem dX5_pairs_11 : decode cX5_pairs 11 = .ok (.if_icmp .ge 32, 3) := by decide +kernel
theorem dX5_pairs_14 : decode cX5_pairs 14 = .ok (.aload_n 0, 1) := by decide +kernel
theorem dX5_pairs_15 : decode cX5_pairs 15 = .ok (.iload_n 2, 1) := by decide +kernel
theorem dX5_pairs_16 : decode cX5_pairs 16 = .ok (.invokevirtual 152, 3) := by decide +kernel
theorem dX5_pairs_19 : decode cX5_pairs 19 = .ok (.istore_n 3, 1) := by decide +kernel
theorem dX5_pairs_20 : decode cX5_pairs 20 = .ok (.iload_n 3, 1) := by decide +kernel
theorem dX5_pairs_21 : decode cX5_pairs 21 = .ok (.ifCond .le 16, 3) := by decide +kernel
theorem dX5_pairs_24 : decode cX5_pairs 24 = .ok (.iload_n 1, 1) := by decide +kernel
theorem dX5_pairs_25 : decode cX5_pairs 25 = .ok (.iload_n 3, 1) := by decide +kernel
theorem dX5_pairs_26 : decode cX5_pairs 26 = .ok (.iconst 1, 1) := by decide +kernel
theorem dX5_pairs_27 : decode cX5_pairs 27 = .ok (.iand, 1) := by decide +kernel
theorem dX5_pairs_28 : decode cX5_pairs 28 = .ok (.iadd, 1) := by decide +kernel
theorem dX5_pairs_29 : decode cX5_pairs 29 = .ok (.istore_n 1, 1) := by decide +kernel
theorem dX5_pairs_30 : decode cX5_pairs 30 = .ok (.iload_n 3, 1) := by decide +kernel
theorem dX5_pairs_31 : decode cX5_pairs 31 = .ok (.iconst 1, 1) := by decide +kernel
theorem dX5_pairs_32 : decode cX5_pairs 32 = .ok (.ishr, 1) := by decide +kernel
theorem dX5_pairs_33 : decode cX5_pairs 33 = .ok (.istore_n 3, 1) := by decide +kernel
theorem dX5_pairs_34 : decode cX5_pairs 34 = .ok (.goto (-14), 3) := by decide +kernel
theorem dX5_pairs_37 : decode cX5_pairs 37 = .ok (.iinc 2 1, 3) := by decide +kernel
theorem dX5_pairs_40 : decode cX5_pairs 40 = .ok (.goto (-36), 3) := by decide +kernel
theorem dX5_pairs_43 : decode cX5_pairs 43 = .ok (.iload_n 1, 1) := by decide +kernel
theorem dX5_pairs_44 : decode cX5_pairs 44 = .ok (.iconst 2, 1) := by decide +kernel
theorem dX5_pairs_45 : decode cX5_pairs 45 = .ok (.idiv, 1) := by decide +kernel
theorem dX5_pairs_46 : decode cX5_pairs 46 = .ok (.ireturn, 1) := by decide +kernel
set_option maxRecDepth 20000 in
theorem ggX5_count_X5_areas : GoodIn wsX5_count wsX5_areas := goodIn_r _ [9, 1, 10, 11, 12, 8, 13, 14, 15, 16, 17, 18, 19, 20, 21, 22, 23, 24, 25, 58, 59, 60, 61, 62, 63, 64, 65, 66, 67] (by decide +kernel) (by decide +kernel)
set_option maxRecDepth 20000 in
theorem gX5_count_X5_areas : GoodIn wsX5_count (wsV RX5 175 RX5 yX5_areas wsX5_areas) := goodIn_app (goodIn_of _ (by decide +kernel)) ggX5_count_X5_areas
set_option maxRecDepth 20000 in
theorem ggX5_count_X5_cornersOfAll : GoodIn wsX5_count wsX5_cornersOfAll := goodIn_r _ [29, 1, 14, 15, 16, 8, 17, 58, 59, 60, 61, 62, 63, 64, 65, 66, 67] (by decide +kernel) (by decide +kernel)
set_option maxRecDepth 20000 in
theorem gX5_count_X5_cornersOfAll : GoodIn wsX5_count (wsV RX5 182 RX5 yX5_cornersOfAll wsX5_cornersOfAll) := goodIn_app (goodIn_of _ (by decide +kernel)) ggX5_count_X5_cornersOfAll
set_option maxRecDepth 20000 in
theorem ggX5_count_X5_pairs : GoodIn wsX5_count wsX5_pairs := goodIn_r _ [33, 1, 34, 35, 36, 8, 37, 38, 39, 40, 41, 42, 43, 44, 45, 46, 47, 48, 49, 14, 15, 16, 17, 50, 51, 52, 53, 54, 55, 56, 57, 18, 19, 20, 21, 22, 23, 24, 25, 58, 59, 60, 61, 62, 63, 64, 65, 66, 67] (by decide +kernel) (by decide +kernel)
set_option maxRecDepth 20000 in
theorem gX5_count_X5_pairs : GoodIn wsX5_count (wsV RX5 185 RX5 yX5_pairs wsX5_pairs) := goodIn_app (goodIn_of _ (by decide +kernel)) ggX5_count_X5_pairs
theorem dX5_count_0 : decode cX5_count 0 = .ok (.iload_n 1, 1) := by decide +kernel
theorem dX5_count_1 : decode cX5_count 1 = .ok (.tableswitch 93 0 7 #[47, 54, 61, 68, 73, 78, 83, 88], 47) := by decide +kernel
theorem dX5_count_48 : decode cX5_count 48 = .ok (.aload_n 0, 1) := by decide +kernel
theorem dX5_count_49 : decode cX5_count 49 = .ok (.getfield 7, 3) := by decide +kernel
theorem dX5_count_52 : decode cX5_count 52 = .ok (.iconst 2, 1) := by decide +kernel
theorem dX5_count_53 : decode cX5_count 53 = .ok (.iaload, 1) := by decide +kernel
theorem dX5_count_54 : decode cX5_count 54 = .ok (.ireturn, 1) := by decide +kernel
theorem dX5_count_55 : decode cX5_count 55 = .ok (.aload_n 0, 1) := by decide +kernel
theorem dX5_count_56 : decode cX5_count 56 = .ok (.getfield 7, 3) := by decide +kernel
theorem dX5_count_59 : decode cX5_count 59 = .ok (.iconst 0, 1) := by decide +kernel
theorem dX5_count_60 : decode cX5_count 60 = .ok (.iaload, 1) := by decide +kernel
theorem dX5_count_61 : decode cX5_count 61 = .ok (.ireturn, 1) := by decide +kernel
theorem dX5_count_62 : decode cX5_count 62 = .ok (.aload_n 0, 1) := by decide +kernel
theorem dX5_count_63 : decode cX5_count 63 = .ok (.getfield 7, 3) := by decide +kernel
theorem dX5_count_66 : decode cX5_count 66 = .ok (.iconst 1, 1) := by decide +kernel
theorem dX5_count_67 : decode cX5_count 67 = .ok (.iaload, 1) := by decide +kernel
theorem dX5_count_68 : decode cX5_count 68 = .ok (.ireturn, 1) := by decide +kernel
theorem dX5_count_69 : decode cX5_count 69 = .ok (.aload_n 0, 1) := by decide +kernel
theorem dX5_count_70 : decode cX5_count 70 = .ok (.invokevirtual 175, 3) := by decide +kernel
theorem dX5_count_73 : decode cX5_count 73 = .ok (.ireturn, 1) := by decide +kernel
theorem dX5_count_74 : decode cX5_count 74 = .ok (.aload_n 0, 1) := by decide +kernel
theorem dX5_count_75 : decode cX5_count 75 = .ok (.invokevirtual 182, 3) := by decide +kernel
theorem dX5_count_78 : decode cX5_count 78 = .ok (.ireturn, 1) := by decide +kernel
theorem dX5_count_79 : decode cX5_count 79 = .ok (.aload_n 0, 1) := by decide +kernel
theorem dX5_count_80 : decode cX5_count 80 = .ok (.invokevirtual 185, 3) := by decide +kernel
theorem dX5_count_83 : decode cX5_count 83 = .ok (.ireturn, 1) := by decide +kernel
theorem dX5_count_84 : decode cX5_count 84 = .ok (.aload_n 0, 1) := by decide +kernel
theorem dX5_count_85 : decode cX5_count 85 = .ok (.getfield 22, 3) := by decide +kernel
theorem dX5_count_88 : decode cX5_count 88 = .ok (.ireturn, 1) := by decide +kernel
theorem dX5_count_89 : decode cX5_count 89 = .ok (.aload_n 0, 1) := by decide +kernel
theorem dX5_count_90 : decode cX5_count 90 = .ok (.getfield 188, 3) := by decide +kernel
theorem dX5_count_93 : decode cX5_count 93 = .ok (.ireturn, 1) := by decide +kernel
theorem dX5_count_94 : decode cX5_count 94 = .ok (.ldc 120, 2) := by decide +kernel
theorem dX5_count_96 : decode cX5_count 96 = .ok (.ireturn, 1) := by decide +kernel
theorem dX5_undo_0 : decode cX5_undo 0 = .ok (.aload_n 0, 1) := by decide +kernel
theorem dX5_undo_1 : decode cX5_undo 1 = .ok (.getfield 22, 3) := by decide +kernel
theorem dX5_undo_4 : decode cX5_undo 4 = .ok (.ifCond .ne 6, 3) := by decide +kernel
theorem dX5_undo_7 : decode cX5_undo 7 = .ok (.ldc 121, 2) := by decide +kernel
theorem dX5_undo_9 : decode cX5_undo 9 = .ok (.ireturn, 1) := by decide +kernel
theorem dX5_undo_10 : decode cX5_undo 10 = .ok (.aload_n 0, 1) := by decide +kernel
theorem dX5_undo_11 : decode cX5_undo 11 = .ok (.dup, 1) := by decide +kernel
theorem dX5_undo_12 : decode cX5_undo 12 = .ok (.getfield 22, 3) := by decide +kernel
theorem dX5_undo_15 : decode cX5_undo 15 = .ok (.iconst 1, 1) := by decide +kernel
theorem dX5_undo_16 : decode cX5_undo 16 = .ok (.isub, 1) := by decide +kernel
theorem dX5_undo_17 : decode cX5_undo 17 = .ok (.putfield 22, 3) := by decide +kernel
theorem dX5_undo_20 : decode cX5_undo 20 = .ok (.iconst 0, 1) := by decide +kernel
theorem dX5_undo_21 : decode cX5_undo 21 = .ok (.istore_n 1, 1) := by decide +kernel
theorem dX5_undo_22 : decode cX5_undo 22 = .ok (.iload_n 1, 1) := by decide +kernel
theorem dX5_undo_23 : decode cX5_undo 23 = .ok (.bipush 120, 2) := by decide +kernel
theorem dX5_undo_25 : decode cX5_undo 25 = .ok (.if_icmp .ge 29, 3) := by decide +kernel
theorem dX5_undo_28 : decode cX5_undo 28 = .ok (.aload_n 0, 1) := by decide +kernel
theorem dX5_undo_29 : decode cX5_undo 29 = .ok (.getfield 7, 3) := by decide +kernel
theorem dX5_undo_32 : decode cX5_undo 32 = .ok (.iload_n 1, 1) := by decide +kernel
theorem dX5_undo_33 : decode cX5_undo 33 = .ok (.aload_n 0, 1) := by decide +kernel
theorem dX5_undo_34 : decode cX5_undo 34 = .ok (.getfield 13, 3) := by decide +kernel
theorem dX5_undo_37 : decode cX5_undo 37 = .ok (.bipush 120, 2) := by decide +kernel
theorem dX5_undo_39 : decode cX5_undo 39 = .ok (.aload_n 0, 1) := by decide +kernel
theorem dX5_undo_40 : decode cX5_undo 40 = .ok (.getfield 22, 3) := by decide +kernel
theorem dX5_undo_43 : decode cX5_undo 43 = .ok (.imul, 1) := by decide +kernel
theorem dX5_undo_44 : decode cX5_undo 44 = .ok (.iload_n 1, 1) := by decide +kernel
theorem dX5_undo_45 : decode cX5_undo 45 = .ok (.iadd, 1) := by decide +kernel
theorem dX5_undo_46 : decode cX5_undo 46 = .ok (.iaload, 1) := by decide +kernel
theorem dX5_undo_47 : decode cX5_undo 47 = .ok (.iastore, 1) := by decide +kernel
theorem dX5_undo_48 : decode cX5_undo 48 = .ok (.iinc 1 1, 3) := by decide +kernel
theorem dX5_undo_51 : decode cX5_undo 51 = .ok (.goto (-29), 3) := by decide +kernel
theorem dX5_undo_54 : decode cX5_undo 54 = .ok (.aload_n 0, 1) := by decide +kernel
theorem dX5_undo_55 : decode cX5_undo 55 = .ok (.getfield 22, 3) := by decide +kernel
theorem dX5_undo_58 : decode cX5_undo 58 = .ok (.ireturn, 1) := by decide +kernel
set_option maxRecDepth 20000 in
theorem ggX5_type_X5_in : GoodIn wsX5_type wsX5_in := goodIn_r _ [10] (by decide +kernel) (by decide +kernel)
set_option maxRecDepth 20000 in
theorem gX5_type_X5_in : GoodIn wsX5_type (va_wsS RX5 26 yX5_in wsX5_in) := goodIn_app (goodIn_of _ (by decide +kernel)) ggX5_type_X5_in
theorem dX5_type_0 : decode cX5_type 0 = .ok (.iload_n 1, 1) := by decide +kernel
theorem dX5_type_1 : decode cX5_type 1 = .ok (.i2l, 1) := by decide +kernel
theorem dX5_type_2 : decode cX5_type 2 = .ok (.ldc2_w 191, 3) := by decide +kernel
theorem dX5_type_5 : decode cX5_type 5 = .ok (.ldc2_w 193, 3) := by decide +kernel
theorem dX5_type_8 : decode cX5_type 8 = .ok (.invokestatic 26, 3) := by decide +kernel
theorem dX5_type_11 : decode cX5_type 11 = .ok (.ifCond .ne 6, 3) := by decide +kernel
theorem dX5_type_14 : decode cX5_type 14 = .ok (.ldc 120, 2) := by decide +kernel
theorem dX5_type_16 : decode cX5_type 16 = .ok (.ireturn, 1) := by decide +kernel
theorem dX5_type_17 : decode cX5_type 17 = .ok (.aload_n 0, 1) := by decide +kernel
theorem dX5_type_18 : decode cX5_type 18 = .ok (.getfield 188, 3) := by decide +kernel
theorem dX5_type_21 : decode cX5_type 21 = .ok (.bipush 60, 2) := by decide +kernel
theorem dX5_type_23 : decode cX5_type 23 = .ok (.if_icmp .ne 6, 3) := by decide +kernel
theorem dX5_type_26 : decode cX5_type 26 = .ok (.ldc 132, 2) := by decide +kernel
theorem dX5_type_28 : decode cX5_type 28 = .ok (.ireturn, 1) := by decide +kernel
theorem dX5_type_29 : decode cX5_type 29 = .ok (.aload_n 0, 1) := by decide +kernel
theorem dX5_type_30 : decode cX5_type 30 = .ok (.getfield 19, 3) := by decide +kernel
theorem dX5_type_33 : decode cX5_type 33 = .ok (.aload_n 0, 1) := by decide +kernel
theorem dX5_type_34 : decode cX5_type 34 = .ok (.getfield 188, 3) := by decide +kernel
theorem dX5_type_37 : decode cX5_type 37 = .ok (.iload_n 1, 1) := by decide +kernel
theorem dX5_type_38 : decode cX5_type 38 = .ok (.iastore, 1) := by decide +kernel
theorem dX5_type_39 : decode cX5_type 39 = .ok (.aload_n 0, 1) := by decide +kernel
theorem dX5_type_40 : decode cX5_type 40 = .ok (.dup, 1) := by decide +kernel
theorem dX5_type_41 : decode cX5_type 41 = .ok (.getfield 188, 3) := by decide +kernel
theorem dX5_type_44 : decode cX5_type 44 = .ok (.iconst 1, 1) := by decide +kernel
theorem dX5_type_45 : decode cX5_type 45 = .ok (.iadd, 1) := by decide +kernel
theorem dX5_type_46 : decode cX5_type 46 = .ok (.putfield 188, 3) := by decide +kernel
theorem dX5_type_49 : decode cX5_type 49 = .ok (.aload_n 0, 1) := by decide +kernel
theorem dX5_type_50 : decode cX5_type 50 = .ok (.getfield 188, 3) := by decide +kernel
theorem dX5_type_53 : decode cX5_type 53 = .ok (.ireturn, 1) := by decide +kernel
theorem dX5_clearText_0 : decode cX5_clearText 0 = .ok (.aload_n 0, 1) := by decide +kernel
theorem dX5_clearText_1 : decode cX5_clearText 1 = .ok (.getfield 188, 3) := by decide +kernel
theorem dX5_clearText_4 : decode cX5_clearText 4 = .ok (.istore_n 1, 1) := by decide +kernel
theorem dX5_clearText_5 : decode cX5_clearText 5 = .ok (.aload_n 0, 1) := by decide +kernel
theorem dX5_clearText_6 : decode cX5_clearText 6 = .ok (.iconst 0, 1) := by decide +kernel
theorem dX5_clearText_7 : decode cX5_clearText 7 = .ok (.putfield 188, 3) := by decide +kernel
theorem dX5_clearText_10 : decode cX5_clearText 10 = .ok (.iload_n 1, 1) := by decide +kernel
theorem dX5_clearText_11 : decode cX5_clearText 11 = .ok (.ireturn, 1) := by decide +kernel
theorem dX5_takes_0 : decode cX5_takes 0 = .ok (.aload_n 0, 1) := by decide +kernel
theorem dX5_takes_1 : decode cX5_takes 1 = .ok (.getfield 195, 3) := by decide +kernel
theorem dX5_takes_4 : decode cX5_takes 4 = .ok (.aload_n 0, 1) := by decide +kernel
theorem dX5_takes_5 : decode cX5_takes 5 = .ok (.getfield 188, 3) := by decide +kernel
theorem dX5_takes_8 : decode cX5_takes 8 = .ok (.if_icmp .ge 20, 3) := by decide +kernel
theorem dX5_takes_11 : decode cX5_takes 11 = .ok (.aload_n 0, 1) := by decide +kernel
theorem dX5_takes_12 : decode cX5_takes 12 = .ok (.getfield 19, 3) := by decide +kernel
theorem dX5_takes_15 : decode cX5_takes 15 = .ok (.aload_n 0, 1) := by decide +kernel
theorem dX5_takes_16 : decode cX5_takes 16 = .ok (.getfield 195, 3) := by decide +kernel
theorem dX5_takes_19 : decode cX5_takes 19 = .ok (.iaload, 1) := by decide +kernel
theorem dX5_takes_20 : decode cX5_takes 20 = .ok (.iload_n 1, 1) := by decide +kernel
theorem dX5_takes_21 : decode cX5_takes 21 = .ok (.if_icmp .ne 7, 3) := by decide +kernel
theorem dX5_takes_24 : decode cX5_takes 24 = .ok (.iconst 1, 1) := by decide +kernel
theorem dX5_takes_25 : decode cX5_takes 25 = .ok (.goto 4, 3) := by decide +kernel
theorem dX5_takes_28 : decode cX5_takes 28 = .ok (.iconst 0, 1) := by decide +kernel
theorem dX5_takes_29 : decode cX5_takes 29 = .ok (.istore_n 2, 1) := by decide +kernel
theorem dX5_takes_30 : decode cX5_takes 30 = .ok (.aload_n 0, 1) := by decide +kernel
theorem dX5_takes_31 : decode cX5_takes 31 = .ok (.dup, 1) := by decide +kernel
theorem dX5_takes_32 : decode cX5_takes 32 = .ok (.getfield 195, 3) := by decide +kernel
theorem dX5_takes_35 : decode cX5_takes 35 = .ok (.iload_n 2, 1) := by decide +kernel
theorem dX5_takes_36 : decode cX5_takes 36 = .ok (.ifCond .eq 7, 3) := by decide +kernel
theorem dX5_takes_39 : decode cX5_takes 39 = .ok (.iconst 1, 1) := by decide +kernel
theorem dX5_takes_40 : decode cX5_takes 40 = .ok (.goto 4, 3) := by decide +kernel
theorem dX5_takes_43 : decode cX5_takes 43 = .ok (.iconst 0, 1) := by decide +kernel
theorem dX5_takes_44 : decode cX5_takes 44 = .ok (.iadd, 1) := by decide +kernel
theorem dX5_takes_45 : decode cX5_takes 45 = .ok (.putfield 195, 3) := by decide +kernel
theorem dX5_takes_48 : decode cX5_takes 48 = .ok (.iload_n 2, 1) := by decide +kernel
theorem dX5_takes_49 : decode cX5_takes 49 = .ok (.ireturn, 1) := by decide +kernel
set_option maxRecDepth 20000 in
theorem ggX5_takesNumber_X5_in : GoodIn wsX5_takesNumber wsX5_in := goodIn_r _ [10] (by decide +kernel) (by decide +kernel)
set_option maxRecDepth 20000 in
theorem gX5_takesNumber_X5_in : GoodIn wsX5_takesNumber (va_wsS RX5 26 yX5_in wsX5_in) := goodIn_app (goodIn_of _ (by decide +kernel)) ggX5_takesNumber_X5_in
theorem dX5_takesNumber_0 : decode cX5_takesNumber 0 = .ok (.aload_n 0, 1) := by decide +kernel
theorem dX5_takesNumber_1 : decode cX5_takesNumber 1 = .ok (.getfield 195, 3) := by decide +kernel
theorem dX5_takesNumber_4 : decode cX5_takesNumber 4 = .ok (.istore_n 2, 1) := by decide +kernel
theorem dX5_takesNumber_5 : decode cX5_takesNumber 5 = .ok (.aload_n 0, 1) := by decide +kernel
theorem dX5_takesNumber_6 : decode cX5_takesNumber 6 = .ok (.getfield 7, 3) := by decide +kernel
theorem dX5_takesNumber_9 : decode cX5_takesNumber 9 = .ok (.iload_n 1, 1) := by decide +kernel
theorem dX5_takesNumber_10 : decode cX5_takesNumber 10 = .ok (.iconst 0, 1) := by decide +kernel
theorem dX5_takesNumber_11 : decode cX5_takesNumber 11 = .ok (.iastore, 1) := by decide +kernel
theorem dX5_takesNumber_12 : decode cX5_takesNumber 12 = .ok (.aload_n 0, 1) := by decide +kernel
theorem dX5_takesNumber_13 : decode cX5_takesNumber 13 = .ok (.getfield 195, 3) := by decide +kernel
theorem dX5_takesNumber_16 : decode cX5_takesNumber 16 = .ok (.aload_n 0, 1) := by decide +kernel
theorem dX5_takesNumber_17 : decode cX5_takesNumber 17 = .ok (.getfield 188, 3) := by decide +kernel
theorem dX5_takesNumber_20 : decode cX5_takesNumber 20 = .ok (.if_icmp .ge 76, 3) := by decide +kernel
theorem dX5_takesNumber_23 : decode cX5_takesNumber 23 = .ok (.aload_n 0, 1) := by decide +kernel
theorem dX5_takesNumber_24 : decode cX5_takesNumber 24 = .ok (.getfield 195, 3) := by decide +kernel
theorem dX5_takesNumber_27 : decode cX5_takesNumber 27 = .ok (.iload_n 2, 1) := by decide +kernel
theorem dX5_takesNumber_28 : decode cX5_takesNumber 28 = .ok (.iconst 2, 1) := by decide +kernel
theorem dX5_takesNumber_29 : decode cX5_takesNumber 29 = .ok (.iadd, 1) := by decide +kernel
theorem dX5_takesNumber_30 : decode cX5_takesNumber 30 = .ok (.if_icmp .ge 66, 3) := by decide +kernel
theorem dX5_takesNumber_33 : decode cX5_takesNumber 33 = .ok (.aload_n 0, 1) := by decide +kernel
theorem dX5_takesNumber_34 : decode cX5_takesNumber 34 = .ok (.getfield 19, 3) := by decide +kernel
theorem dX5_takesNumber_37 : decode cX5_takesNumber 37 = .ok (.aload_n 0, 1) := by decide +kernel
theorem dX5_takesNumber_38 : decode cX5_takesNumber 38 = .ok (.getfield 195, 3) := by decide +kernel
theorem dX5_takesNumber_41 : decode cX5_takesNumber 41 = .ok (.iaload, 1) := by decide +kernel
theorem dX5_takesNumber_42 : decode cX5_takesNumber 42 = .ok (.i2l, 1) := by decide +kernel
theorem dX5_takesNumber_43 : decode cX5_takesNumber 43 = .ok (.ldc2_w 198, 3) := by decide +kernel
theorem dX5_takesNumber_46 : decode cX5_takesNumber 46 = .ok (.ldc2_w 200, 3) := by decide +kernel
theorem dX5_takesNumber_49 : decode cX5_takesNumber 49 = .ok (.invokestatic 26, 3) := by decide +kernel
theorem dX5_takesNumber_52 : decode cX5_takesNumber 52 = .ok (.ifCond .eq 44, 3) := by decide +kernel
theorem dX5_takesNumber_55 : decode cX5_takesNumber 55 = .ok (.aload_n 0, 1) := by decide +kernel
theorem dX5_takesNumber_56 : decode cX5_takesNumber 56 = .ok (.getfield 7, 3) := by decide +kernel
theorem dX5_takesNumber_59 : decode cX5_takesNumber 59 = .ok (.iload_n 1, 1) := by decide +kernel
theorem dX5_takesNumber_60 : decode cX5_takesNumber 60 = .ok (.bipush 10, 2) := by decide +kernel
theorem dX5_takesNumber_62 : decode cX5_takesNumber 62 = .ok (.aload_n 0, 1) := by decide +kernel
theorem dX5_takesNumber_63 : decode cX5_takesNumber 63 = .ok (.getfield 7, 3) := by decide +kernel
theorem dX5_takesNumber_66 : decode cX5_takesNumber 66 = .ok (.iload_n 1, 1) := by decide +kernel
theorem dX5_takesNumber_67 : decode cX5_takesNumber 67 = .ok (.iaload, 1) := by decide +kernel
theorem dX5_takesNumber_68 : decode cX5_takesNumber 68 = .ok (.imul, 1) := by decide +kernel
theorem dX5_takesNumber_69 : decode cX5_takesNumber 69 = .ok (.aload_n 0, 1) := by decide +kernel
theorem dX5_takesNumber_70 : decode cX5_takesNumber 70 = .ok (.getfield 19, 3) := by decide +kernel
theorem dX5_takesNumber_73 : decode cX5_takesNumber 73 = .ok (.aload_n 0, 1) := by decide +kernel
theorem dX5_takesNumber_74 : decode cX5_takesNumber 74 = .ok (.getfield 195, 3) := by decide +kernel
theorem dX5_takesNumber_77 : decode cX5_takesNumber 77 = .ok (.iaload, 1) := by decide +kernel
theorem dX5_takesNumber_78 : decode cX5_takesNumber 78 = .ok (.iadd, 1) := by decide +kernel
theorem dX5_takesNumber_79 : decode cX5_takesNumber 79 = .ok (.bipush 48, 2) := by decide +kernel
theorem dX5_takesNumber_81 : decode cX5_takesNumber 81 = .ok (.isub, 1) := by decide +kernel
theorem dX5_takesNumber_82 : decode cX5_takesNumber 82 = .ok (.iastore, 1) := by decide +kernel
theorem dX5_takesNumber_83 : decode cX5_takesNumber 83 = .ok (.aload_n 0, 1) := by decide +kernel
theorem dX5_takesNumber_84 : decode cX5_takesNumber 84 = .ok (.dup, 1) := by decide +kernel
theorem dX5_takesNumber_85 : decode cX5_takesNumber 85 = .ok (.getfield 195, 3) := by decide +kernel
theorem dX5_takesNumber_88 : decode cX5_takesNumber 88 = .ok (.iconst 1, 1) := by decide +kernel
theorem dX5_takesNumber_89 : decode cX5_takesNumber 89 = .ok (.iadd, 1) := by decide +kernel
theorem dX5_takesNumber_90 : decode cX5_takesNumber 90 = .ok (.putfield 195, 3) := by decide +kernel
theorem dX5_takesNumber_93 : decode cX5_takesNumber 93 = .ok (.goto (-81), 3) := by decide +kernel
theorem dX5_takesNumber_96 : decode cX5_takesNumber 96 = .ok (.aload_n 0, 1) := by decide +kernel
theorem dX5_takesNumber_97 : decode cX5_takesNumber 97 = .ok (.getfield 195, 3) := by decide +kernel
