set_option maxRecDepth 20000 in
theorem ggX4_keystone_X3_settleAll : GoodIn wsX4_keystone wsX3_settleAll := goodIn_r _ [51, 15, 52, 53, 54, 13, 55, 56, 16, 17, 18, 19, 20, 21, 22, 23, 24, 25, 26, 27, 28, 29, 30, 31, 32, 33, 34, 35, 36, 37, 38, 39, 40, 41, 42, 43, 57, 8, 58, 59, 60, 61, 62, 63, 64, 65, 66, 67, 68, 69, 70, 71, 72, 73, 74, 75, 76, 77, 78, 79, 80, 81, 82, 83, 84, 85, 86, 87, 88, 89, 90, 91, 92, 93, 94, 95, 96, 97, 98, 99, 100, 101, 102, 103, 104, 105, 106, 107, 108, 109, 110, 111, 112, 113, 114, 115, 116, 121, 122, 123, 124, 125, 126, 127, 128, 129] (by decide +kernel) (by decide +kernel)
set_option maxRecDepth 20000 in
theorem gX4_keystone_X3_settleAll : GoodIn wsX4_keystone (wsV RX4 109 RX3 yX3_settleAll wsX3_settleAll) := goodIn_app (goodIn_of _ (by decide +kernel)) ggX4_keystone_X3_settleAll
theorem dX4_keystone_0 : decode cX4_keystone 0 = .ok (.iload_n 1, 1) := by decide +kernel
theorem dX4_keystone_1 : decode cX4_keystone 1 = .ok (.invokestatic 79, 3) := by decide +kernel
theorem dX4_keystone_4 : decode cX4_keystone 4 = .ok (.ifCond .eq 12, 3) := by decide +kernel
theorem dX4_keystone_7 : decode cX4_keystone 7 = .ok (.iload_n 2, 1) := by decide +kernel
theorem dX4_keystone_8 : decode cX4_keystone 8 = .ok (.ifCond .lt 8, 3) := by decide +kernel
theorem dX4_keystone_11 : decode cX4_keystone 11 = .ok (.iload_n 2, 1) := by decide +kernel
theorem dX4_keystone_12 : decode cX4_keystone 12 = .ok (.iconst 1, 1) := by decide +kernel
theorem dX4_keystone_13 : decode cX4_keystone 13 = .ok (.if_icmp .le 6, 3) := by decide +kernel
theorem dX4_keystone_16 : decode cX4_keystone 16 = .ok (.ldc 37, 2) := by decide +kernel
theorem dX4_keystone_18 : decode cX4_keystone 18 = .ok (.ireturn, 1) := by decide +kernel
theorem dX4_keystone_19 : decode cX4_keystone 19 = .ok (.ldc 171, 2) := by decide +kernel
theorem dX4_keystone_21 : decode cX4_keystone 21 = .ok (.istore_n 3, 1) := by decide +kernel
theorem dX4_keystone_22 : decode cX4_keystone 22 = .ok (.ldc 171, 2) := by decide +kernel
theorem dX4_keystone_24 : decode cX4_keystone 24 = .ok (.istore 4, 2) := by decide +kernel
theorem dX4_keystone_26 : decode cX4_keystone 26 = .ok (.iconst 0, 1) := by decide +kernel
theorem dX4_keystone_27 : decode cX4_keystone 27 = .ok (.istore 5, 2) := by decide +kernel
theorem dX4_keystone_29 : decode cX4_keystone 29 = .ok (.iload 5, 2) := by decide +kernel
theorem dX4_keystone_31 : decode cX4_keystone 31 = .ok (.aload_n 0, 1) := by decide +kernel
theorem dX4_keystone_32 : decode cX4_keystone 32 = .ok (.getfield 10, 3) := by decide +kernel
theorem dX4_keystone_35 : decode cX4_keystone 35 = .ok (.getfield 60, 3) := by decide +kernel
theorem dX4_keystone_38 : decode cX4_keystone 38 = .ok (.if_icmp .ge 52, 3) := by decide +kernel
theorem dX4_keystone_41 : decode cX4_keystone 41 = .ok (.aload_n 0, 1) := by decide +kernel
theorem dX4_keystone_42 : decode cX4_keystone 42 = .ok (.getfield 16, 3) := by decide +kernel
theorem dX4_keystone_45 : decode cX4_keystone 45 = .ok (.aload_n 0, 1) := by decide +kernel
theorem dX4_keystone_46 : decode cX4_keystone 46 = .ok (.getfield 10, 3) := by decide +kernel
theorem dX4_keystone_49 : decode cX4_keystone 49 = .ok (.invokevirtual 177, 3) := by decide +kernel
theorem dX4_keystone_52 : decode cX4_keystone 52 = .ok (.aload_n 0, 1) := by decide +kernel
theorem dX4_keystone_53 : decode cX4_keystone 53 = .ok (.getfield 16, 3) := by decide +kernel
theorem dX4_keystone_56 : decode cX4_keystone 56 = .ok (.iload 5, 2) := by decide +kernel
theorem dX4_keystone_58 : decode cX4_keystone 58 = .ok (.invokevirtual 75, 3) := by decide +kernel
theorem dX4_keystone_61 : decode cX4_keystone 61 = .ok (.aload_n 0, 1) := by decide +kernel
theorem dX4_keystone_62 : decode cX4_keystone 62 = .ok (.getfield 16, 3) := by decide +kernel
theorem dX4_keystone_65 : decode cX4_keystone 65 = .ok (.iload_n 1, 1) := by decide +kernel
theorem dX4_keystone_66 : decode cX4_keystone 66 = .ok (.invokevirtual 109, 3) := by decide +kernel
theorem dX4_keystone_69 : decode cX4_keystone 69 = .ok (.istore 6, 2) := by decide +kernel
theorem dX4_keystone_71 : decode cX4_keystone 71 = .ok (.iload 6, 2) := by decide +kernel
theorem dX4_keystone_73 : decode cX4_keystone 73 = .ok (.iload_n 3, 1) := by decide +kernel
theorem dX4_keystone_74 : decode cX4_keystone 74 = .ok (.if_icmp .le 10, 3) := by decide +kernel
theorem dX4_keystone_77 : decode cX4_keystone 77 = .ok (.iload 6, 2) := by decide +kernel
theorem dX4_keystone_79 : decode cX4_keystone 79 = .ok (.istore_n 3, 1) := by decide +kernel
theorem dX4_keystone_80 : decode cX4_keystone 80 = .ok (.iload 5, 2) := by decide +kernel
theorem dX4_keystone_82 : decode cX4_keystone 82 = .ok (.istore 4, 2) := by decide +kernel
theorem dX4_keystone_84 : decode cX4_keystone 84 = .ok (.iinc 5 1, 3) := by decide +kernel
theorem dX4_keystone_87 : decode cX4_keystone 87 = .ok (.goto (-58), 3) := by decide +kernel
theorem dX4_keystone_90 : decode cX4_keystone 90 = .ok (.iload_n 2, 1) := by decide +kernel
theorem dX4_keystone_91 : decode cX4_keystone 91 = .ok (.ifCond .ne 8, 3) := by decide +kernel
theorem dX4_keystone_94 : decode cX4_keystone 94 = .ok (.iload 4, 2) := by decide +kernel
theorem dX4_keystone_96 : decode cX4_keystone 96 = .ok (.goto 4, 3) := by decide +kernel
theorem dX4_keystone_99 : decode cX4_keystone 99 = .ok (.iload_n 3, 1) := by decide +kernel
theorem dX4_keystone_100 : decode cX4_keystone 100 = .ok (.ireturn, 1) := by decide +kernel
set_option maxRecDepth 20000 in
theorem ggX4_count_X3_doubleArea : GoodIn wsX4_count wsX3_doubleArea := goodIn_r _ [14, 15, 16, 17, 18, 13, 19, 20, 21, 22, 23, 24, 25, 26, 27, 28, 29, 30, 31, 32, 33, 34, 35, 36, 37, 38, 39, 40, 41, 86, 87, 88, 89, 90, 91, 103, 104, 105] (by decide +kernel) (by decide +kernel)
set_option maxRecDepth 20000 in
theorem gX4_count_X3_doubleArea : GoodIn wsX4_count (wsV RX4 172 RX3 yX3_doubleArea wsX3_doubleArea) := goodIn_app (goodIn_of _ (by decide +kernel)) ggX4_count_X3_doubleArea
set_option maxRecDepth 20000 in
theorem ggX4_count_X3_allCorners : GoodIn wsX4_count wsX3_allCorners := goodIn_r _ [45, 15, 46, 16, 17, 18, 13, 19, 20, 21, 86, 87, 88, 89, 90, 91, 103, 104, 105] (by decide +kernel) (by decide +kernel)
set_option maxRecDepth 20000 in
theorem gX4_count_X3_allCorners : GoodIn wsX4_count (wsV RX4 180 RX3 yX3_allCorners wsX3_allCorners) := goodIn_app (goodIn_of _ (by decide +kernel)) ggX4_count_X3_allCorners
set_option maxRecDepth 20000 in
theorem ggX4_count_X3_touchingPairs : GoodIn wsX4_count wsX3_touchingPairs := goodIn_r _ [50, 15, 51, 52, 53, 13, 54, 55, 56, 57, 58, 16, 17, 18, 19, 20, 21, 59, 60, 61, 25, 62, 27, 63, 64, 65, 66, 67, 68, 69, 70, 71, 28, 29, 30, 31, 32, 33, 34, 35, 36, 37, 38, 39, 40, 41, 72, 73, 74, 75, 76, 77, 78, 79, 80, 81, 86, 87, 88, 89, 90, 91, 103, 104, 105] (by decide +kernel) (by decide +kernel)
set_option maxRecDepth 20000 in
theorem gX4_count_X3_touchingPairs : GoodIn wsX4_count (wsV RX4 183 RX3 yX3_touchingPairs wsX3_touchingPairs) := goodIn_app (goodIn_of _ (by decide +kernel)) ggX4_count_X3_touchingPairs
theorem dX4_count_0 : decode cX4_count 0 = .ok (.iload_n 1, 1) := by decide +kernel
theorem dX4_count_1 : decode cX4_count 1 = .ok (.tableswitch 111 0 7 #[47, 55, 63, 71, 79, 87, 95, 103], 47) := by decide +kernel
theorem dX4_count_48 : decode cX4_count 48 = .ok (.aload_n 0, 1) := by decide +kernel
theorem dX4_count_49 : decode cX4_count 49 = .ok (.getfield 10, 3) := by decide +kernel
theorem dX4_count_52 : decode cX4_count 52 = .ok (.getfield 60, 3) := by decide +kernel
theorem dX4_count_55 : decode cX4_count 55 = .ok (.ireturn, 1) := by decide +kernel
theorem dX4_count_56 : decode cX4_count 56 = .ok (.aload_n 0, 1) := by decide +kernel
theorem dX4_count_57 : decode cX4_count 57 = .ok (.getfield 10, 3) := by decide +kernel
theorem dX4_count_60 : decode cX4_count 60 = .ok (.getfield 47, 3) := by decide +kernel
theorem dX4_count_63 : decode cX4_count 63 = .ok (.ireturn, 1) := by decide +kernel
theorem dX4_count_64 : decode cX4_count 64 = .ok (.aload_n 0, 1) := by decide +kernel
theorem dX4_count_65 : decode cX4_count 65 = .ok (.getfield 10, 3) := by decide +kernel
theorem dX4_count_68 : decode cX4_count 68 = .ok (.getfield 51, 3) := by decide +kernel
theorem dX4_count_71 : decode cX4_count 71 = .ok (.ireturn, 1) := by decide +kernel
theorem dX4_count_72 : decode cX4_count 72 = .ok (.aload_n 0, 1) := by decide +kernel
theorem dX4_count_73 : decode cX4_count 73 = .ok (.getfield 10, 3) := by decide +kernel
theorem dX4_count_76 : decode cX4_count 76 = .ok (.invokevirtual 172, 3) := by decide +kernel
theorem dX4_count_79 : decode cX4_count 79 = .ok (.ireturn, 1) := by decide +kernel
theorem dX4_count_80 : decode cX4_count 80 = .ok (.aload_n 0, 1) := by decide +kernel
theorem dX4_count_81 : decode cX4_count 81 = .ok (.getfield 10, 3) := by decide +kernel
theorem dX4_count_84 : decode cX4_count 84 = .ok (.invokevirtual 180, 3) := by decide +kernel
theorem dX4_count_87 : decode cX4_count 87 = .ok (.ireturn, 1) := by decide +kernel
theorem dX4_count_88 : decode cX4_count 88 = .ok (.aload_n 0, 1) := by decide +kernel
theorem dX4_count_89 : decode cX4_count 89 = .ok (.getfield 10, 3) := by decide +kernel
theorem dX4_count_92 : decode cX4_count 92 = .ok (.invokevirtual 183, 3) := by decide +kernel
theorem dX4_count_95 : decode cX4_count 95 = .ok (.ireturn, 1) := by decide +kernel
theorem dX4_count_96 : decode cX4_count 96 = .ok (.aload_n 0, 1) := by decide +kernel
theorem dX4_count_97 : decode cX4_count 97 = .ok (.getfield 22, 3) := by decide +kernel
theorem dX4_count_100 : decode cX4_count 100 = .ok (.getfield 186, 3) := by decide +kernel
theorem dX4_count_103 : decode cX4_count 103 = .ok (.ireturn, 1) := by decide +kernel
theorem dX4_count_104 : decode cX4_count 104 = .ok (.aload_n 0, 1) := by decide +kernel
theorem dX4_count_105 : decode cX4_count 105 = .ok (.getfield 29, 3) := by decide +kernel
theorem dX4_count_108 : decode cX4_count 108 = .ok (.getfield 187, 3) := by decide +kernel
theorem dX4_count_111 : decode cX4_count 111 = .ok (.ireturn, 1) := by decide +kernel
theorem dX4_count_112 : decode cX4_count 112 = .ok (.ldc 37, 2) := by decide +kernel
theorem dX4_count_114 : decode cX4_count 114 = .ok (.ireturn, 1) := by decide +kernel
set_option maxRecDepth 20000 in
theorem ggX4_undo_X2_restore : GoodIn wsX4_undo wsX2_restore := goodIn_r _ [9, 10, 11, 12, 13, 8, 14, 15, 16, 17, 18, 19, 20, 21, 22, 23, 24, 25, 26, 27, 28, 29, 30, 31, 32, 33, 34, 35, 36, 37, 38, 39, 40, 41, 42, 43, 44, 45, 46, 47, 48, 49, 50, 51, 56, 57, 58, 59, 60, 61, 62, 63, 64, 65, 66, 67, 68] (by decide +kernel) (by decide +kernel)
set_option maxRecDepth 20000 in
theorem gX4_undo_X2_restore : GoodIn wsX4_undo (wsV RX4 190 RX2 yX2_restore wsX2_restore) := goodIn_app (goodIn_of _ (by decide +kernel)) ggX4_undo_X2_restore
theorem dX4_undo_0 : decode cX4_undo 0 = .ok (.aload_n 0, 1) := by decide +kernel
theorem dX4_undo_1 : decode cX4_undo 1 = .ok (.getfield 22, 3) := by decide +kernel
theorem dX4_undo_4 : decode cX4_undo 4 = .ok (.getfield 186, 3) := by decide +kernel
theorem dX4_undo_7 : decode cX4_undo 7 = .ok (.ifCond .ne 6, 3) := by decide +kernel
theorem dX4_undo_10 : decode cX4_undo 10 = .ok (.ldc 42, 2) := by decide +kernel
theorem dX4_undo_12 : decode cX4_undo 12 = .ok (.ireturn, 1) := by decide +kernel
theorem dX4_undo_13 : decode cX4_undo 13 = .ok (.aload_n 0, 1) := by decide +kernel
theorem dX4_undo_14 : decode cX4_undo 14 = .ok (.getfield 22, 3) := by decide +kernel
theorem dX4_undo_17 : decode cX4_undo 17 = .ok (.aload_n 0, 1) := by decide +kernel
theorem dX4_undo_18 : decode cX4_undo 18 = .ok (.getfield 10, 3) := by decide +kernel
theorem dX4_undo_21 : decode cX4_undo 21 = .ok (.invokevirtual 190, 3) := by decide +kernel
theorem dX4_undo_24 : decode cX4_undo 24 = .ok (.aload_n 0, 1) := by decide +kernel
theorem dX4_undo_25 : decode cX4_undo 25 = .ok (.getfield 22, 3) := by decide +kernel
theorem dX4_undo_28 : decode cX4_undo 28 = .ok (.getfield 186, 3) := by decide +kernel
theorem dX4_undo_31 : decode cX4_undo 31 = .ok (.ireturn, 1) := by decide +kernel
set_option maxRecDepth 20000 in
theorem ggX4_type_X1_append : GoodIn wsX4_type wsX1_append := goodIn_r _ [9, 10, 11, 16, 17, 18, 19, 20, 21, 22] (by decide +kernel) (by decide +kernel)
set_option maxRecDepth 20000 in
theorem gX4_type_X1_append : GoodIn wsX4_type (wsV RX4 193 RX1 yX1_append wsX1_append) := goodIn_app (goodIn_of _ (by decide +kernel)) ggX4_type_X1_append
theorem dX4_type_0 : decode cX4_type 0 = .ok (.iload_n 1, 1) := by decide +kernel
theorem dX4_type_1 : decode cX4_type 1 = .ok (.bipush 32, 2) := by decide +kernel
theorem dX4_type_3 : decode cX4_type 3 = .ok (.if_icmp .lt 9, 3) := by decide +kernel
theorem dX4_type_6 : decode cX4_type 6 = .ok (.iload_n 1, 1) := by decide +kernel
theorem dX4_type_7 : decode cX4_type 7 = .ok (.bipush 126, 2) := by decide +kernel
theorem dX4_type_9 : decode cX4_type 9 = .ok (.if_icmp .le 6, 3) := by decide +kernel
theorem dX4_type_12 : decode cX4_type 12 = .ok (.ldc 37, 2) := by decide +kernel
theorem dX4_type_14 : decode cX4_type 14 = .ok (.ireturn, 1) := by decide +kernel
theorem dX4_type_15 : decode cX4_type 15 = .ok (.aload_n 0, 1) := by decide +kernel
theorem dX4_type_16 : decode cX4_type 16 = .ok (.getfield 29, 3) := by decide +kernel
theorem dX4_type_19 : decode cX4_type 19 = .ok (.getfield 187, 3) := by decide +kernel
theorem dX4_type_22 : decode cX4_type 22 = .ok (.bipush 60, 2) := by decide +kernel
theorem dX4_type_24 : decode cX4_type 24 = .ok (.if_icmp .lt 6, 3) := by decide +kernel
theorem dX4_type_27 : decode cX4_type 27 = .ok (.ldc 63, 2) := by decide +kernel
theorem dX4_type_29 : decode cX4_type 29 = .ok (.ireturn, 1) := by decide +kernel
theorem dX4_type_30 : decode cX4_type 30 = .ok (.aload_n 0, 1) := by decide +kernel
theorem dX4_type_31 : decode cX4_type 31 = .ok (.getfield 29, 3) := by decide +kernel
theorem dX4_type_34 : decode cX4_type 34 = .ok (.iload_n 1, 1) := by decide +kernel
theorem dX4_type_35 : decode cX4_type 35 = .ok (.i2c, 1) := by decide +kernel
theorem dX4_type_36 : decode cX4_type 36 = .ok (.invokevirtual 193, 3) := by decide +kernel
theorem dX4_type_39 : decode cX4_type 39 = .ok (.aload_n 0, 1) := by decide +kernel
theorem dX4_type_40 : decode cX4_type 40 = .ok (.getfield 29, 3) := by decide +kernel
theorem dX4_type_43 : decode cX4_type 43 = .ok (.getfield 187, 3) := by decide +kernel
theorem dX4_type_46 : decode cX4_type 46 = .ok (.ireturn, 1) := by decide +kernel
theorem dX4_clearText_0 : decode cX4_clearText 0 = .ok (.aload_n 0, 1) := by decide +kernel
theorem dX4_clearText_1 : decode cX4_clearText 1 = .ok (.getfield 29, 3) := by decide +kernel
theorem dX4_clearText_4 : decode cX4_clearText 4 = .ok (.getfield 187, 3) := by decide +kernel
theorem dX4_clearText_7 : decode cX4_clearText 7 = .ok (.istore_n 1, 1) := by decide +kernel
theorem dX4_clearText_8 : decode cX4_clearText 8 = .ok (.aload_n 0, 1) := by decide +kernel
theorem dX4_clearText_9 : decode cX4_clearText 9 = .ok (.getfield 29, 3) := by decide +kernel
theorem dX4_clearText_12 : decode cX4_clearText 12 = .ok (.iconst 0, 1) := by decide +kernel
theorem dX4_clearText_13 : decode cX4_clearText 13 = .ok (.putfield 187, 3) := by decide +kernel
theorem dX4_clearText_16 : decode cX4_clearText 16 = .ok (.iload_n 1, 1) := by decide +kernel
theorem dX4_clearText_17 : decode cX4_clearText 17 = .ok (.ireturn, 1) := by decide +kernel
set_option maxRecDepth 20000 in
theorem ggX4_fault_X1_examine : GoodIn wsX4_fault wsX1_examine := goodIn_r _ [12, 13, 14, 15, 16, 17, 18, 19, 11, 20, 21, 22, 23, 24, 25, 26, 27, 28, 29, 30, 31, 32, 33, 34, 35, 36, 37, 38, 39, 40, 41, 42, 43, 44, 45, 46, 47, 48, 49, 50, 51, 52, 53, 54, 55, 56, 57, 58, 59, 60, 61, 62, 63, 64, 65, 66, 67, 68, 69, 70, 71, 72, 73, 74, 75, 76, 77, 78, 79, 80, 81, 82, 83, 84, 85, 86, 87, 88, 89, 90, 91, 92, 93, 94, 95, 96, 97, 98, 99, 100, 101, 102, 103, 104, 105, 106, 107, 108, 109, 110, 111, 112, 113, 114, 115, 116, 117, 118, 119, 124, 125, 126, 127, 128, 129, 130, 131, 132, 133, 134, 135, 136, 137, 138, 139] (by decide +kernel) (by decide +kernel)
set_option maxRecDepth 20000 in
theorem gX4_fault_X1_examine : GoodIn wsX4_fault (wsV RX4 54 RX1 yX1_examine wsX1_examine) := goodIn_app (goodIn_of _ (by decide +kernel)) ggX4_fault_X1_examine
theorem dX4_fault_0 : decode cX4_fault 0 = .ok (.iload_n 1, 1) := by decide +kernel
theorem dX4_fault_1 : decode cX4_fault 1 = .ok (.ifCond .lt 8, 3) := by decide +kernel
theorem dX4_fault_4 : decode cX4_fault 4 = .ok (.iload_n 1, 1) := by decide +kernel
theorem dX4_fault_5 : decode cX4_fault 5 = .ok (.iconst 2, 1) := by decide +kernel
theorem dX4_fault_6 : decode cX4_fault 6 = .ok (.if_icmp .le 6, 3) := by decide +kernel
theorem dX4_fault_9 : decode cX4_fault 9 = .ok (.ldc 37, 2) := by decide +kernel
theorem dX4_fault_11 : decode cX4_fault 11 = .ok (.ireturn, 1) := by decide +kernel
theorem dX4_fault_12 : decode cX4_fault 12 = .ok (.aload_n 0, 1) := by decide +kernel
theorem dX4_fault_13 : decode cX4_fault 13 = .ok (.getfield 29, 3) := by decide +kernel
theorem dX4_fault_16 : decode cX4_fault 16 = .ok (.aload_n 0, 1) := by decide +kernel
theorem dX4_fault_17 : decode cX4_fault 17 = .ok (.getfield 10, 3) := by decide +kernel
theorem dX4_fault_20 : decode cX4_fault 20 = .ok (.invokevirtual 54, 3) := by decide +kernel
theorem dX4_fault_23 : decode cX4_fault 23 = .ok (.aload_n 0, 1) := by decide +kernel
theorem dX4_fault_24 : decode cX4_fault 24 = .ok (.getfield 29, 3) := by decide +kernel
theorem dX4_fault_27 : decode cX4_fault 27 = .ok (.getfield 57, 3) := by decide +kernel
theorem dX4_fault_30 : decode cX4_fault 30 = .ok (.ifCond .ne 6, 3) := by decide +kernel
theorem dX4_fault_33 : decode cX4_fault 33 = .ok (.ldc 171, 2) := by decide +kernel
theorem dX4_fault_35 : decode cX4_fault 35 = .ok (.ireturn, 1) := by decide +kernel
theorem dX4_fault_36 : decode cX4_fault 36 = .ok (.iload_n 1, 1) := by decide +kernel
theorem dX4_fault_37 : decode cX4_fault 37 = .ok (.ifCond .ne 11, 3) := by decide +kernel
theorem dX4_fault_40 : decode cX4_fault 40 = .ok (.aload_n 0, 1) := by decide +kernel
theorem dX4_fault_41 : decode cX4_fault 41 = .ok (.getfield 29, 3) := by decide +kernel
theorem dX4_fault_44 : decode cX4_fault 44 = .ok (.getfield 197, 3) := by decide +kernel
theorem dX4_fault_47 : decode cX4_fault 47 = .ok (.ireturn, 1) := by decide +kernel
theorem dX4_fault_48 : decode cX4_fault 48 = .ok (.iload_n 1, 1) := by decide +kernel
theorem dX4_fault_49 : decode cX4_fault 49 = .ok (.iconst 1, 1) := by decide +kernel
theorem dX4_fault_50 : decode cX4_fault 50 = .ok (.if_icmp .ne 13, 3) := by decide +kernel
theorem dX4_fault_53 : decode cX4_fault 53 = .ok (.aload_n 0, 1) := by decide +kernel
theorem dX4_fault_54 : decode cX4_fault 54 = .ok (.getfield 29, 3) := by decide +kernel
theorem dX4_fault_57 : decode cX4_fault 57 = .ok (.getfield 57, 3) := by decide +kernel
theorem dX4_fault_60 : decode cX4_fault 60 = .ok (.goto 10, 3) := by decide +kernel
theorem dX4_fault_63 : decode cX4_fault 63 = .ok (.aload_n 0, 1) := by decide +kernel
theorem dX4_fault_64 : decode cX4_fault 64 = .ok (.getfield 29, 3) := by decide +kernel
theorem dX4_fault_67 : decode cX4_fault 67 = .ok (.getfield 200, 3) := by decide +kernel
theorem dX4_fault_70 : decode cX4_fault 70 = .ok (.ireturn, 1) := by decide +kernel
theorem dX4_isSize_0 : decode cX4_isSize 0 = .ok (.iload_n 0, 1) := by decide +kernel
theorem dX4_isSize_1 : decode cX4_isSize 1 = .ok (.bipush 10, 2) := by decide +kernel
theorem dX4_isSize_3 : decode cX4_isSize 3 = .ok (.if_icmp .lt 13, 3) := by decide +kernel
theorem dX4_isSize_6 : decode cX4_isSize 6 = .ok (.iload_n 0, 1) := by decide +kernel
theorem dX4_isSize_7 : decode cX4_isSize 7 = .ok (.bipush 60, 2) := by decide +kernel
theorem dX4_isSize_9 : decode cX4_isSize 9 = .ok (.if_icmp .gt 7, 3) := by decide +kernel
theorem dX4_isSize_12 : decode cX4_isSize 12 = .ok (.iconst 1, 1) := by decide +kernel
theorem dX4_isSize_13 : decode cX4_isSize 13 = .ok (.goto 4, 3) := by decide +kernel
theorem dX4_isSize_16 : decode cX4_isSize 16 = .ok (.iconst 0, 1) := by decide +kernel
theorem dX4_isSize_17 : decode cX4_isSize 17 = .ok (.ireturn, 1) := by decide +kernel
theorem dX4_isDirection_0 : decode cX4_isDirection 0 = .ok (.iload_n 0, 1) := by decide +kernel
theorem dX4_isDirection_1 : decode cX4_isDirection 1 = .ok (.ifCond .lt 13, 3) := by decide +kernel
theorem dX4_isDirection_4 : decode cX4_isDirection 4 = .ok (.iload_n 0, 1) := by decide +kernel
theorem dX4_isDirection_5 : decode cX4_isDirection 5 = .ok (.bipush 8, 2) := by decide +kernel
theorem dX4_isDirection_7 : decode cX4_isDirection 7 = .ok (.if_icmp .ge 7, 3) := by decide +kernel
theorem dX4_isDirection_10 : decode cX4_isDirection 10 = .ok (.iconst 1, 1) := by decide +kernel
theorem dX4_isDirection_11 : decode cX4_isDirection 11 = .ok (.goto 4, 3) := by decide +kernel
theorem dX4_isDirection_14 : decode cX4_isDirection 14 = .ok (.iconst 0, 1) := by decide +kernel
theorem dX4_isDirection_15 : decode cX4_isDirection 15 = .ok (.ireturn, 1) := by decide +kernel
theorem dX4_stepX_0 : decode cX4_stepX 0 = .ok (.iload_n 0, 1) := by decide +kernel
theorem dX4_stepX_1 : decode cX4_stepX 1 = .ok (.ifCond .lt 19, 3) := by decide +kernel
theorem dX4_stepX_4 : decode cX4_stepX 4 = .ok (.iload_n 0, 1) := by decide +kernel
theorem dX4_stepX_5 : decode cX4_stepX 5 = .ok (.getstatic 203, 3) := by decide +kernel
theorem dX4_stepX_8 : decode cX4_stepX 8 = .ok (.arraylength, 1) := by decide +kernel
theorem dX4_stepX_9 : decode cX4_stepX 9 = .ok (.if_icmp .ge 11, 3) := by decide +kernel
theorem dX4_stepX_12 : decode cX4_stepX 12 = .ok (.getstatic 203, 3) := by decide +kernel
theorem dX4_stepX_15 : decode cX4_stepX 15 = .ok (.iload_n 0, 1) := by decide +kernel
theorem dX4_stepX_16 : decode cX4_stepX 16 = .ok (.iaload, 1) := by decide +kernel
theorem dX4_stepX_17 : decode cX4_stepX 17 = .ok (.goto 4, 3) := by decide +kernel
theorem dX4_stepX_20 : decode cX4_stepX 20 = .ok (.iconst 0, 1) := by decide +kernel
theorem dX4_stepX_21 : decode cX4_stepX 21 = .ok (.ireturn, 1) := by decide +kernel
theorem dX4_stepY_0 : decode cX4_stepY 0 = .ok (.iload_n 0, 1) := by decide +kernel
theorem dX4_stepY_1 : decode cX4_stepY 1 = .ok (.ifCond .lt 19, 3) := by decide +kernel
theorem dX4_stepY_4 : decode cX4_stepY 4 = .ok (.iload_n 0, 1) := by decide +kernel
theorem dX4_stepY_5 : decode cX4_stepY 5 = .ok (.getstatic 207, 3) := by decide +kernel
theorem dX4_stepY_8 : decode cX4_stepY 8 = .ok (.arraylength, 1) := by decide +kernel
theorem dX4_stepY_9 : decode cX4_stepY 9 = .ok (.if_icmp .ge 11, 3) := by decide +kernel
theorem dX4_stepY_12 : decode cX4_stepY 12 = .ok (.getstatic 207, 3) := by decide +kernel
theorem dX4_stepY_15 : decode cX4_stepY 15 = .ok (.iload_n 0, 1) := by decide +kernel
theorem dX4_stepY_16 : decode cX4_stepY 16 = .ok (.iaload, 1) := by decide +kernel
theorem dX4_stepY_17 : decode cX4_stepY 17 = .ok (.goto 4, 3) := by decide +kernel
theorem dX4_stepY_20 : decode cX4_stepY 20 = .ok (.iconst 0, 1) := by decide +kernel
theorem dX4_stepY_21 : decode cX4_stepY 21 = .ok (.ireturn, 1) := by decide +kernel
set_option maxRecDepth 20000 in
theorem ggX4_placeOfCorner_X0_x : GoodIn wsX4_placeOfCorner wsX0_x := goodIn_r _ [7, 8, 14, 15, 16] (by decide +kernel) (by decide +kernel)
set_option maxRecDepth 20000 in
theorem gX4_placeOfCorner_X0_x : GoodIn wsX4_placeOfCorner (wsV RX4 210 RX0 yX0_x wsX0_x) := goodIn_app (goodIn_of _ (by decide +kernel)) ggX4_placeOfCorner_X0_x
set_option maxRecDepth 20000 in
theorem ggX4_placeOfCorner_X0_y : GoodIn wsX4_placeOfCorner wsX0_y := goodIn_r _ [12, 13, 14, 15, 16] (by decide +kernel) (by decide +kernel)
set_option maxRecDepth 20000 in
theorem gX4_placeOfCorner_X0_y : GoodIn wsX4_placeOfCorner (wsV RX4 213 RX0 yX0_y wsX0_y) := goodIn_app (goodIn_of _ (by decide +kernel)) ggX4_placeOfCorner_X0_y
theorem dX4_placeOfCorner_0 : decode cX4_placeOfCorner 0 = .ok (.iload_n 1, 1) := by decide +kernel
theorem dX4_placeOfCorner_1 : decode cX4_placeOfCorner 1 = .ok (.iconst 1, 1) := by decide +kernel
theorem dX4_placeOfCorner_2 : decode cX4_placeOfCorner 2 = .ok (.ishr, 1) := by decide +kernel
theorem dX4_placeOfCorner_3 : decode cX4_placeOfCorner 3 = .ok (.istore_n 2, 1) := by decide +kernel
theorem dX4_placeOfCorner_4 : decode cX4_placeOfCorner 4 = .ok (.iload_n 2, 1) := by decide +kernel
theorem dX4_placeOfCorner_5 : decode cX4_placeOfCorner 5 = .ok (.aload_n 0, 1) := by decide +kernel
theorem dX4_placeOfCorner_6 : decode cX4_placeOfCorner 6 = .ok (.getfield 113, 3) := by decide +kernel
theorem dX4_placeOfCorner_9 : decode cX4_placeOfCorner 9 = .ok (.if_icmp .lt 6, 3) := by decide +kernel
theorem dX4_placeOfCorner_12 : decode cX4_placeOfCorner 12 = .ok (.ldc 171, 2) := by decide +kernel
theorem dX4_placeOfCorner_14 : decode cX4_placeOfCorner 14 = .ok (.ireturn, 1) := by decide +kernel
theorem dX4_placeOfCorner_15 : decode cX4_placeOfCorner 15 = .ok (.iload_n 1, 1) := by decide +kernel
theorem dX4_placeOfCorner_16 : decode cX4_placeOfCorner 16 = .ok (.iconst 1, 1) := by decide +kernel
theorem dX4_placeOfCorner_17 : decode cX4_placeOfCorner 17 = .ok (.iand, 1) := by decide +kernel
theorem dX4_placeOfCorner_18 : decode cX4_placeOfCorner 18 = .ok (.ifCond .ne 11, 3) := by decide +kernel
theorem dX4_placeOfCorner_21 : decode cX4_placeOfCorner 21 = .ok (.aload_n 0, 1) := by decide +kernel
theorem dX4_placeOfCorner_22 : decode cX4_placeOfCorner 22 = .ok (.iload_n 2, 1) := by decide +kernel
theorem dX4_placeOfCorner_23 : decode cX4_placeOfCorner 23 = .ok (.invokevirtual 210, 3) := by decide +kernel
theorem dX4_placeOfCorner_26 : decode cX4_placeOfCorner 26 = .ok (.goto 8, 3) := by decide +kernel
theorem dX4_placeOfCorner_29 : decode cX4_placeOfCorner 29 = .ok (.aload_n 0, 1) := by decide +kernel
theorem dX4_placeOfCorner_30 : decode cX4_placeOfCorner 30 = .ok (.iload_n 2, 1) := by decide +kernel
theorem dX4_placeOfCorner_31 : decode cX4_placeOfCorner 31 = .ok (.invokevirtual 213, 3) := by decide +kernel
theorem dX4_placeOfCorner_34 : decode cX4_placeOfCorner 34 = .ok (.ireturn, 1) := by decide +kernel
theorem dX4_bitsOfShare_0 : decode cX4_bitsOfShare 0 = .ok (.fload_n 0, 1) := by decide +kernel
theorem dX4_bitsOfShare_1 : decode cX4_bitsOfShare 1 = .ok (.fconst 0, 1) := by decide +kernel
theorem dX4_bitsOfShare_2 : decode cX4_bitsOfShare 2 = .ok (.fcmp .l, 1) := by decide +kernel
theorem dX4_bitsOfShare_3 : decode cX4_bitsOfShare 3 = .ok (.ifCond .gt 5, 3) := by decide +kernel
theorem dX4_bitsOfShare_6 : decode cX4_bitsOfShare 6 = .ok (.iconst 0, 1) := by decide +kernel
theorem dX4_bitsOfShare_7 : decode cX4_bitsOfShare 7 = .ok (.ireturn, 1) := by decide +kernel
theorem dX4_bitsOfShare_8 : decode cX4_bitsOfShare 8 = .ok (.bipush 127, 2) := by decide +kernel
theorem dX4_bitsOfShare_10 : decode cX4_bitsOfShare 10 = .ok (.istore_n 1, 1) := by decide +kernel
theorem dX4_bitsOfShare_11 : decode cX4_bitsOfShare 11 = .ok (.fload_n 0, 1) := by decide +kernel
theorem dX4_bitsOfShare_12 : decode cX4_bitsOfShare 12 = .ok (.fstore_n 2, 1) := by decide +kernel
theorem dX4_bitsOfShare_13 : decode cX4_bitsOfShare 13 = .ok (.fload_n 2, 1) := by decide +kernel
theorem dX4_bitsOfShare_14 : decode cX4_bitsOfShare 14 = .ok (.fconst 1, 1) := by decide +kernel
theorem dX4_bitsOfShare_15 : decode cX4_bitsOfShare 15 = .ok (.fcmp .g, 1) := by decide +kernel
theorem dX4_bitsOfShare_16 : decode cX4_bitsOfShare 16 = .ok (.ifCond .ge 18, 3) := by decide +kernel
theorem dX4_bitsOfShare_19 : decode cX4_bitsOfShare 19 = .ok (.iload_n 1, 1) := by decide +kernel
theorem dX4_bitsOfShare_20 : decode cX4_bitsOfShare 20 = .ok (.iconst 1, 1) := by decide +kernel
theorem dX4_bitsOfShare_21 : decode cX4_bitsOfShare 21 = .ok (.if_icmp .le 13, 3) := by decide +kernel
theorem dX4_bitsOfShare_24 : decode cX4_bitsOfShare 24 = .ok (.fload_n 2, 1) := by decide +kernel
theorem dX4_bitsOfShare_25 : decode cX4_bitsOfShare 25 = .ok (.fconst 2, 1) := by decide +kernel
theorem dX4_bitsOfShare_26 : decode cX4_bitsOfShare 26 = .ok (.fmul, 1) := by decide +kernel
theorem dX4_bitsOfShare_27 : decode cX4_bitsOfShare 27 = .ok (.fstore_n 2, 1) := by decide +kernel
theorem dX4_bitsOfShare_28 : decode cX4_bitsOfShare 28 = .ok (.iinc 1 (-1), 3) := by decide +kernel
theorem dX4_bitsOfShare_31 : decode cX4_bitsOfShare 31 = .ok (.goto (-18), 3) := by decide +kernel
theorem dX4_bitsOfShare_34 : decode cX4_bitsOfShare 34 = .ok (.iload_n 1, 1) := by decide +kernel
theorem dX4_bitsOfShare_35 : decode cX4_bitsOfShare 35 = .ok (.bipush 23, 2) := by decide +kernel
theorem dX4_bitsOfShare_37 : decode cX4_bitsOfShare 37 = .ok (.ishl, 1) := by decide +kernel
theorem dX4_bitsOfShare_38 : decode cX4_bitsOfShare 38 = .ok (.fload_n 2, 1) := by decide +kernel
theorem dX4_bitsOfShare_39 : decode cX4_bitsOfShare 39 = .ok (.fconst 1, 1) := by decide +kernel
theorem dX4_bitsOfShare_40 : decode cX4_bitsOfShare 40 = .ok (.fsub, 1) := by decide +kernel
theorem dX4_bitsOfShare_41 : decode cX4_bitsOfShare 41 = .ok (.ldc 216, 2) := by decide +kernel
theorem dX4_bitsOfShare_43 : decode cX4_bitsOfShare 43 = .ok (.fmul, 1) := by decide +kernel
theorem dX4_bitsOfShare_44 : decode cX4_bitsOfShare 44 = .ok (.f2i, 1) := by decide +kernel
theorem dX4_bitsOfShare_45 : decode cX4_bitsOfShare 45 = .ok (.iadd, 1) := by decide +kernel
theorem dX4_bitsOfShare_46 : decode cX4_bitsOfShare 46 = .ok (.ireturn, 1) := by decide +kernel
theorem dX4_lowest_0 : decode cX4_lowest 0 = .ok (.iconst 0, 1) := by decide +kernel
theorem dX4_lowest_1 : decode cX4_lowest 1 = .ok (.istore_n 1, 1) := by decide +kernel
theorem dX4_lowest_2 : decode cX4_lowest 2 = .ok (.iload_n 1, 1) := by decide +kernel
theorem dX4_lowest_3 : decode cX4_lowest 3 = .ok (.bipush 8, 2) := by decide +kernel
theorem dX4_lowest_5 : decode cX4_lowest 5 = .ok (.if_icmp .ge 17, 3) := by decide +kernel
theorem dX4_lowest_8 : decode cX4_lowest 8 = .ok (.iload_n 0, 1) := by decide +kernel
theorem dX4_lowest_9 : decode cX4_lowest 9 = .ok (.iconst 1, 1) := by decide +kernel
theorem dX4_lowest_10 : decode cX4_lowest 10 = .ok (.iload_n 1, 1) := by decide +kernel
theorem dX4_lowest_11 : decode cX4_lowest 11 = .ok (.ishl, 1) := by decide +kernel
theorem dX4_lowest_12 : decode cX4_lowest 12 = .ok (.iand, 1) := by decide +kernel
theorem dX4_lowest_13 : decode cX4_lowest 13 = .ok (.ifCond .ne 9, 3) := by decide +kernel
theorem dX4_lowest_16 : decode cX4_lowest 16 = .ok (.iinc 1 1, 3) := by decide +kernel
theorem dX4_lowest_19 : decode cX4_lowest 19 = .ok (.goto (-17), 3) := by decide +kernel
theorem dX4_lowest_22 : decode cX4_lowest 22 = .ok (.iload_n 1, 1) := by decide +kernel
theorem dX4_lowest_23 : decode cX4_lowest 23 = .ok (.ireturn, 1) := by decide +kernel
theorem dX4_cross_0 : decode cX4_cross 0 = .ok (.iload_n 2, 1) := by decide +kernel
theorem dX4_cross_1 : decode cX4_cross 1 = .ok (.iload_n 0, 1) := by decide +kernel
theorem dX4_cross_2 : decode cX4_cross 2 = .ok (.isub, 1) := by decide +kernel
theorem dX4_cross_3 : decode cX4_cross 3 = .ok (.iload 5, 2) := by decide +kernel
theorem dX4_cross_5 : decode cX4_cross 5 = .ok (.iload_n 1, 1) := by decide +kernel
theorem dX4_cross_6 : decode cX4_cross 6 = .ok (.isub, 1) := by decide +kernel
theorem dX4_cross_7 : decode cX4_cross 7 = .ok (.imul, 1) := by decide +kernel
theorem dX4_cross_8 : decode cX4_cross 8 = .ok (.iload_n 3, 1) := by decide +kernel
theorem dX4_cross_9 : decode cX4_cross 9 = .ok (.iload_n 1, 1) := by decide +kernel
theorem dX4_cross_10 : decode cX4_cross 10 = .ok (.isub, 1) := by decide +kernel
theorem dX4_cross_11 : decode cX4_cross 11 = .ok (.iload 4, 2) := by decide +kernel
theorem dX4_cross_13 : decode cX4_cross 13 = .ok (.iload_n 0, 1) := by decide +kernel
theorem dX4_cross_14 : decode cX4_cross 14 = .ok (.isub, 1) := by decide +kernel
theorem dX4_cross_15 : decode cX4_cross 15 = .ok (.imul, 1) := by decide +kernel
theorem dX4_cross_16 : decode cX4_cross 16 = .ok (.isub, 1) := by decide +kernel
theorem dX4_cross_17 : decode cX4_cross 17 = .ok (.ireturn, 1) := by decide +kernel
theorem dX5_init_0 : decode cX5_init 0 = .ok (.aload_n 0, 1) := by decide +kernel
theorem dX5_init_1 : decode cX5_init 1 = .ok (.invokespecial 1, 3) := by decide +kernel
theorem dX5_init_4 : decode cX5_init 4 = .ok (.aload_n 0, 1) := by decide +kernel
theorem dX5_init_5 : decode cX5_init 5 = .ok (.bipush 120, 2) := by decide +kernel
theorem dX5_init_7 : decode cX5_init 7 = .ok (.newarray .int, 2) := by decide +kernel
theorem dX5_init_9 : decode cX5_init 9 = .ok (.putfield 7, 3) := by decide +kernel
theorem dX5_init_12 : decode cX5_init 12 = .ok (.aload_n 0, 1) := by decide +kernel
theorem dX5_init_13 : decode cX5_init 13 = .ok (.sipush 480, 3) := by decide +kernel
theorem dX5_init_16 : decode cX5_init 16 = .ok (.newarray .int, 2) := by decide +kernel
theorem dX5_init_18 : decode cX5_init 18 = .ok (.putfield 13, 3) := by decide +kernel
theorem dX5_init_21 : decode cX5_init 21 = .ok (.aload_n 0, 1) := by decide +kernel
theorem dX5_init_22 : decode cX5_init 22 = .ok (.bipush 120, 2) := by decide +kernel
theorem dX5_init_24 : decode cX5_init 24 = .ok (.newarray .int, 2) := by decide +kernel
theorem dX5_init_26 : decode cX5_init 26 = .ok (.putfield 16, 3) := by decide +kernel
theorem dX5_init_29 : decode cX5_init 29 = .ok (.aload_n 0, 1) := by decide +kernel
theorem dX5_init_30 : decode cX5_init 30 = .ok (.bipush 60, 2) := by decide +kernel
theorem dX5_init_32 : decode cX5_init 32 = .ok (.newarray .int, 2) := by decide +kernel
theorem dX5_init_34 : decode cX5_init 34 = .ok (.putfield 19, 3) := by decide +kernel
theorem dX5_init_37 : decode cX5_init 37 = .ok (.aload_n 0, 1) := by decide +kernel
theorem dX5_init_38 : decode cX5_init 38 = .ok (.getfield 7, 3) := by decide +kernel
theorem dX5_init_41 : decode cX5_init 41 = .ok (.iconst 0, 1) := by decide +kernel
theorem dX5_init_42 : decode cX5_init 42 = .ok (.bipush 20, 2) := by decide +kernel
theorem dX5_init_44 : decode cX5_init 44 = .ok (.iastore, 1) := by decide +kernel
theorem dX5_init_45 : decode cX5_init 45 = .ok (.aload_n 0, 1) := by decide +kernel
theorem dX5_init_46 : decode cX5_init 46 = .ok (.getfield 7, 3) := by decide +kernel
theorem dX5_init_49 : decode cX5_init 49 = .ok (.iconst 1, 1) := by decide +kernel
theorem dX5_init_50 : decode cX5_init 50 = .ok (.bipush 20, 2) := by decide +kernel
theorem dX5_init_52 : decode cX5_init 52 = .ok (.iastore, 1) := by decide +kernel
theorem dX5_init_53 : decode cX5_init 53 = .ok (.return_, 1) := by decide +kernel
theorem dX5_in_0 : decode cX5_in 0 = .ok (.lload_n 0, 1) := by decide +kernel
theorem dX5_in_1 : decode cX5_in 1 = .ok (.lload_n 2, 1) := by decide +kernel
theorem dX5_in_2 : decode cX5_in 2 = .ok (.lcmp, 1) := by decide +kernel
theorem dX5_in_3 : decode cX5_in 3 = .ok (.ifCond .lt 14, 3) := by decide +kernel
theorem dX5_in_6 : decode cX5_in 6 = .ok (.lload_n 0, 1) := by decide +kernel
theorem dX5_in_7 : decode cX5_in 7 = .ok (.lload 4, 2) := by decide +kernel
theorem dX5_in_9 : decode cX5_in 9 = .ok (.lcmp, 1) := by decide +kernel
theorem dX5_in_10 : decode cX5_in 10 = .ok (.ifCond .gt 7, 3) := by decide +kernel
theorem dX5_in_13 : decode cX5_in 13 = .ok (.iconst 1, 1) := by decide +kernel
theorem dX5_in_14 : decode cX5_in 14 = .ok (.goto 4, 3) := by decide +kernel
theorem dX5_in_17 : decode cX5_in 17 = .ok (.iconst 0, 1) := by decide +kernel
theorem dX5_in_18 : decode cX5_in 18 = .ok (.ireturn, 1) := by decide +kernel
theorem dX5_keep_0 : decode cX5_keep 0 = .ok (.iconst 0, 1) := by decide +kernel
theorem dX5_keep_1 : decode cX5_keep 1 = .ok (.istore_n 1, 1) := by decide +kernel
theorem dX5_keep_2 : decode cX5_keep 2 = .ok (.iload_n 1, 1) := by decide +kernel
theorem dX5_keep_3 : decode cX5_keep 3 = .ok (.bipush 120, 2) := by decide +kernel
theorem dX5_keep_5 : decode cX5_keep 5 = .ok (.if_icmp .ge 21, 3) := by decide +kernel
theorem dX5_keep_8 : decode cX5_keep 8 = .ok (.aload_n 0, 1) := by decide +kernel
theorem dX5_keep_9 : decode cX5_keep 9 = .ok (.getfield 16, 3) := by decide +kernel
theorem dX5_keep_12 : decode cX5_keep 12 = .ok (.iload_n 1, 1) := by decide +kernel
theorem dX5_keep_13 : decode cX5_keep 13 = .ok (.aload_n 0, 1) := by decide +kernel
theorem dX5_keep_14 : decode cX5_keep 14 = .ok (.getfield 7, 3) := by decide +kernel
theorem dX5_keep_17 : decode cX5_keep 17 = .ok (.iload_n 1, 1) := by decide +kernel
theorem dX5_keep_18 : decode cX5_keep 18 = .ok (.iaload, 1) := by decide +kernel
theorem dX5_keep_19 : decode cX5_keep 19 = .ok (.iastore, 1) := by decide +kernel
theorem dX5_keep_20 : decode cX5_keep 20 = .ok (.iinc 1 1, 3) := by decide +kernel
theorem dX5_keep_23 : decode cX5_keep 23 = .ok (.goto (-21), 3) := by decide +kernel
theorem dX5_keep_26 : decode cX5_keep 26 = .ok (.return_, 1) := by decide +kernel
theorem dX5_giveBack_0 : decode cX5_giveBack 0 = .ok (.iconst 0, 1) := by decide +kernel
theorem dX5_giveBack_1 : decode cX5_giveBack 1 = .ok (.istore_n 1, 1) := by decide +kernel
theorem dX5_giveBack_2 : decode cX5_giveBack 2 = .ok (.iload_n 1, 1) := by decide +kernel
theorem dX5_giveBack_3 : decode cX5_giveBack 3 = .ok (.bipush 120, 2) := by decide +kernel
theorem dX5_giveBack_5 : decode cX5_giveBack 5 = .ok (.if_icmp .ge 21, 3) := by decide +kernel
theorem dX5_giveBack_8 : decode cX5_giveBack 8 = .ok (.aload_n 0, 1) := by decide +kernel
theorem dX5_giveBack_9 : decode cX5_giveBack 9 = .ok (.getfield 7, 3) := by decide +kernel
theorem dX5_giveBack_12 : decode cX5_giveBack 12 = .ok (.iload_n 1, 1) := by decide +kernel
theorem dX5_giveBack_13 : decode cX5_giveBack 13 = .ok (.aload_n 0, 1) := by decide +kernel
theorem dX5_giveBack_14 : decode cX5_giveBack 14 = .ok (.getfield 16, 3) := by decide +kernel
theorem dX5_giveBack_17 : decode cX5_giveBack 17 = .ok (.iload_n 1, 1) := by decide +kernel
theorem dX5_giveBack_18 : decode cX5_giveBack 18 = .ok (.iaload, 1) := by decide +kernel
theorem dX5_giveBack_19 : decode cX5_giveBack 19 = .ok (.iastore, 1) := by decide +kernel
theorem dX5_giveBack_20 : decode cX5_giveBack 20 = .ok (.iinc 1 1, 3) := by decide +kernel
theorem dX5_giveBack_23 : decode cX5_giveBack 23 = .ok (.goto (-21), 3) := by decide +kernel
theorem dX5_giveBack_26 : decode cX5_giveBack 26 = .ok (.return_, 1) := by decide +kernel
theorem dX5_changed_0 : decode cX5_changed 0 = .ok (.aload_n 0, 1) := by decide +kernel
theorem dX5_changed_1 : decode cX5_changed 1 = .ok (.getfield 22, 3) := by decide +kernel
theorem dX5_changed_4 : decode cX5_changed 4 = .ok (.iconst 4, 1) := by decide +kernel
theorem dX5_changed_5 : decode cX5_changed 5 = .ok (.if_icmp .ne 43, 3) := by decide +kernel
theorem dX5_changed_8 : decode cX5_changed 8 = .ok (.iconst 0, 1) := by decide +kernel
theorem dX5_changed_9 : decode cX5_changed 9 = .ok (.istore_n 2, 1) := by decide +kernel
theorem dX5_changed_10 : decode cX5_changed 10 = .ok (.iload_n 2, 1) := by decide +kernel
theorem dX5_changed_11 : decode cX5_changed 11 = .ok (.sipush 360, 3) := by decide +kernel
theorem dX5_changed_14 : decode cX5_changed 14 = .ok (.if_icmp .ge 24, 3) := by decide +kernel
theorem dX5_changed_17 : decode cX5_changed 17 = .ok (.aload_n 0, 1) := by decide +kernel
theorem dX5_changed_18 : decode cX5_changed 18 = .ok (.getfield 13, 3) := by decide +kernel
theorem dX5_changed_21 : decode cX5_changed 21 = .ok (.iload_n 2, 1) := by decide +kernel
theorem dX5_changed_22 : decode cX5_changed 22 = .ok (.aload_n 0, 1) := by decide +kernel
theorem dX5_changed_23 : decode cX5_changed 23 = .ok (.getfield 13, 3) := by decide +kernel
theorem dX5_changed_26 : decode cX5_changed 26 = .ok (.iload_n 2, 1) := by decide +kernel
theorem dX5_changed_27 : decode cX5_changed 27 = .ok (.bipush 120, 2) := by decide +kernel
theorem dX5_changed_29 : decode cX5_changed 29 = .ok (.iadd, 1) := by decide +kernel
theorem dX5_changed_30 : decode cX5_changed 30 = .ok (.iaload, 1) := by decide +kernel
theorem dX5_changed_31 : decode cX5_changed 31 = .ok (.iastore, 1) := by decide +kernel
theorem dX5_changed_32 : decode cX5_changed 32 = .ok (.iinc 2 1, 3) := by decide +kernel
theorem dX5_changed_35 : decode cX5_changed 35 = .ok (.goto (-25), 3) := by decide +kernel
theorem dX5_changed_38 : decode cX5_changed 38 = .ok (.aload_n 0, 1) := by decide +kernel
theorem dX5_changed_39 : decode cX5_changed 39 = .ok (.dup, 1) := by decide +kernel
theorem dX5_changed_40 : decode cX5_changed 40 = .ok (.getfield 22, 3) := by decide +kernel
theorem dX5_changed_43 : decode cX5_changed 43 = .ok (.iconst 1, 1) := by decide +kernel
theorem dX5_changed_44 : decode cX5_changed 44 = .ok (.isub, 1) := by decide +kernel
theorem dX5_changed_45 : decode cX5_changed 45 = .ok (.putfield 22, 3) := by decide +kernel
theorem dX5_changed_48 : decode cX5_changed 48 = .ok (.iconst 0, 1) := by decide +kernel
theorem dX5_changed_49 : decode cX5_changed 49 = .ok (.istore_n 2, 1) := by decide +kernel
theorem dX5_changed_50 : decode cX5_changed 50 = .ok (.iload_n 2, 1) := by decide +kernel
theorem dX5_changed_51 : decode cX5_changed 51 = .ok (.bipush 120, 2) := by decide +kernel
theorem dX5_changed_53 : decode cX5_changed 53 = .ok (.if_icmp .ge 29, 3) := by decide +kernel
theorem dX5_changed_56 : decode cX5_changed 56 = .ok (.aload_n 0, 1) := by decide +kernel
theorem dX5_changed_57 : decode cX5_changed 57 = .ok (.getfield 13, 3) := by decide +kernel
theorem dX5_changed_60 : decode cX5_changed 60 = .ok (.bipush 120, 2) := by decide +kernel
theorem dX5_changed_62 : decode cX5_changed 62 = .ok (.aload_n 0, 1) := by decide +kernel
theorem dX5_changed_63 : decode cX5_changed 63 = .ok (.getfield 22, 3) := by decide +kernel
theorem dX5_changed_66 : decode cX5_changed 66 = .ok (.imul, 1) := by decide +kernel
theorem dX5_changed_67 : decode cX5_changed 67 = .ok (.iload_n 2, 1) := by decide +kernel
theorem dX5_changed_68 : decode cX5_changed 68 = .ok (.iadd, 1) := by decide +kernel
theorem dX5_changed_69 : decode cX5_changed 69 = .ok (.aload_n 0, 1) := by decide +kernel
theorem dX5_changed_70 : decode cX5_changed 70 = .ok (.getfield 16, 3) := by decide +kernel
theorem dX5_changed_73 : decode cX5_changed 73 = .ok (.iload_n 2, 1) := by decide +kernel
theorem dX5_changed_74 : decode cX5_changed 74 = .ok (.iaload, 1) := by decide +kernel
theorem dX5_changed_75 : decode cX5_changed 75 = .ok (.iastore, 1) := by decide +kernel
theorem dX5_changed_76 : decode cX5_changed 76 = .ok (.iinc 2 1, 3) := by decide +kernel
theorem dX5_changed_79 : decode cX5_changed 79 = .ok (.goto (-29), 3) := by decide +kernel
theorem dX5_changed_82 : decode cX5_changed 82 = .ok (.aload_n 0, 1) := by decide +kernel
theorem dX5_changed_83 : decode cX5_changed 83 = .ok (.dup, 1) := by decide +kernel
theorem dX5_changed_84 : decode cX5_changed 84 = .ok (.getfield 22, 3) := by decide +kernel
theorem dX5_changed_87 : decode cX5_changed 87 = .ok (.iconst 1, 1) := by decide +kernel
theorem dX5_changed_88 : decode cX5_changed 88 = .ok (.iadd, 1) := by decide +kernel
theorem dX5_changed_89 : decode cX5_changed 89 = .ok (.putfield 22, 3) := by decide +kernel
theorem dX5_changed_92 : decode cX5_changed 92 = .ok (.iload_n 1, 1) := by decide +kernel
theorem dX5_changed_93 : decode cX5_changed 93 = .ok (.ireturn, 1) := by decide +kernel
set_option maxRecDepth 20000 in
theorem ggX5_isBody_X5_in : GoodIn wsX5_isBody wsX5_in := goodIn_r _ [5] (by decide +kernel) (by decide +kernel)
set_option maxRecDepth 20000 in
theorem gX5_isBody_X5_in : GoodIn wsX5_isBody (va_wsS RX5 26 yX5_in wsX5_in) := goodIn_app (goodIn_of _ (by decide +kernel)) ggX5_isBody_X5_in
theorem dX5_isBody_0 : decode cX5_isBody 0 = .ok (.iload_n 1, 1) := by decide +kernel
theorem dX5_isBody_1 : decode cX5_isBody 1 = .ok (.i2l, 1) := by decide +kernel
theorem dX5_isBody_2 : decode cX5_isBody 2 = .ok (.lconst 0, 1) := by decide +kernel
theorem dX5_isBody_3 : decode cX5_isBody 3 = .ok (.aload_n 0, 1) := by decide +kernel
theorem dX5_isBody_4 : decode cX5_isBody 4 = .ok (.getfield 7, 3) := by decide +kernel
theorem dX5_isBody_7 : decode cX5_isBody 7 = .ok (.iconst 2, 1) := by decide +kernel
theorem dX5_isBody_8 : decode cX5_isBody 8 = .ok (.iaload, 1) := by decide +kernel
theorem dX5_isBody_9 : decode cX5_isBody 9 = .ok (.i2l, 1) := by decide +kernel
theorem dX5_isBody_10 : decode cX5_isBody 10 = .ok (.lconst 1, 1) := by decide +kernel
theorem dX5_isBody_11 : decode cX5_isBody 11 = .ok (.lsub, 1) := by decide +kernel
theorem dX5_isBody_12 : decode cX5_isBody 12 = .ok (.invokestatic 26, 3) := by decide +kernel
theorem dX5_isBody_15 : decode cX5_isBody 15 = .ok (.ireturn, 1) := by decide +kernel
theorem dX5_corners_0 : decode cX5_corners 0 = .ok (.aload_n 0, 1) := by decide +kernel
theorem dX5_corners_1 : decode cX5_corners 1 = .ok (.getfield 7, 3) := by decide +kernel
theorem dX5_corners_4 : decode cX5_corners 4 = .ok (.iconst 3, 1) := by decide +kernel
theorem dX5_corners_5 : decode cX5_corners 5 = .ok (.iload_n 1, 1) := by decide +kernel
theorem dX5_corners_6 : decode cX5_corners 6 = .ok (.iadd, 1) := by decide +kernel
theorem dX5_corners_7 : decode cX5_corners 7 = .ok (.iaload, 1) := by decide +kernel
theorem dX5_corners_8 : decode cX5_corners 8 = .ok (.ireturn, 1) := by decide +kernel
set_option maxRecDepth 20000 in
theorem ggX5_x_X5_corners : GoodIn wsX5_x wsX5_corners := goodIn_r _ [6, 1, 7, 8, 9, 10, 11, 12, 13, 14, 15, 16] (by decide +kernel) (by decide +kernel)
set_option maxRecDepth 20000 in
theorem gX5_x_X5_corners : GoodIn wsX5_x (wsV RX5 30 RX5 yX5_corners wsX5_corners) := goodIn_app (goodIn_of _ (by decide +kernel)) ggX5_x_X5_corners
theorem dX5_x_0 : decode cX5_x 0 = .ok (.aload_n 0, 1) := by decide +kernel
theorem dX5_x_1 : decode cX5_x 1 = .ok (.getfield 7, 3) := by decide +kernel
theorem dX5_x_4 : decode cX5_x 4 = .ok (.bipush 12, 2) := by decide +kernel
theorem dX5_x_6 : decode cX5_x 6 = .ok (.bipush 6, 2) := by decide +kernel
theorem dX5_x_8 : decode cX5_x 8 = .ok (.iload_n 1, 1) := by decide +kernel
theorem dX5_x_9 : decode cX5_x 9 = .ok (.imul, 1) := by decide +kernel
theorem dX5_x_10 : decode cX5_x 10 = .ok (.iadd, 1) := by decide +kernel
theorem dX5_x_11 : decode cX5_x 11 = .ok (.iload_n 2, 1) := by decide +kernel
theorem dX5_x_12 : decode cX5_x 12 = .ok (.aload_n 0, 1) := by decide +kernel
theorem dX5_x_13 : decode cX5_x 13 = .ok (.iload_n 1, 1) := by decide +kernel
theorem dX5_x_14 : decode cX5_x 14 = .ok (.invokevirtual 30, 3) := by decide +kernel
theorem dX5_x_17 : decode cX5_x 17 = .ok (.irem, 1) := by decide +kernel
theorem dX5_x_18 : decode cX5_x 18 = .ok (.iadd, 1) := by decide +kernel
theorem dX5_x_19 : decode cX5_x 19 = .ok (.iaload, 1) := by decide +kernel
theorem dX5_x_20 : decode cX5_x 20 = .ok (.ireturn, 1) := by decide +kernel
set_option maxRecDepth 20000 in
theorem ggX5_y_X5_corners : GoodIn wsX5_y wsX5_corners := goodIn_r _ [6, 1, 7, 8, 9, 10, 11, 12, 13, 14, 15, 16] (by decide +kernel) (by decide +kernel)
set_option maxRecDepth 20000 in
theorem gX5_y_X5_corners : GoodIn wsX5_y (wsV RX5 30 RX5 yX5_corners wsX5_corners) := goodIn_app (goodIn_of _ (by decide +kernel)) ggX5_y_X5_corners
theorem dX5_y_0 : decode cX5_y 0 = .ok (.aload_n 0, 1) := by decide +kernel
theorem dX5_y_1 : decode cX5_y 1 = .ok (.getfield 7, 3) := by decide +kernel
theorem dX5_y_4 : decode cX5_y 4 = .ok (.bipush 66, 2) := by decide +kernel
theorem dX5_y_6 : decode cX5_y 6 = .ok (.bipush 6, 2) := by decide +kernel
theorem dX5_y_8 : decode cX5_y 8 = .ok (.iload_n 1, 1) := by decide +kernel
theorem dX5_y_9 : decode cX5_y 9 = .ok (.imul, 1) := by decide +kernel
theorem dX5_y_10 : decode cX5_y 10 = .ok (.iadd, 1) := by decide +kernel
theorem dX5_y_11 : decode cX5_y 11 = .ok (.iload_n 2, 1) := by decide +kernel
theorem dX5_y_12 : decode cX5_y 12 = .ok (.aload_n 0, 1) := by decide +kernel
theorem dX5_y_13 : decode cX5_y 13 = .ok (.iload_n 1, 1) := by decide +kernel
theorem dX5_y_14 : decode cX5_y 14 = .ok (.invokevirtual 30, 3) := by decide +kernel
theorem dX5_y_17 : decode cX5_y 17 = .ok (.irem, 1) := by decide +kernel
theorem dX5_y_18 : decode cX5_y 18 = .ok (.iadd, 1) := by decide +kernel
theorem dX5_y_19 : decode cX5_y 19 = .ok (.iaload, 1) := by decide +kernel
theorem dX5_y_20 : decode cX5_y 20 = .ok (.ireturn, 1) := by decide +kernel
set_option maxRecDepth 20000 in
theorem ggX5_moves_X5_corners : GoodIn wsX5_moves wsX5_corners := goodIn_r _ [6, 1, 7, 8, 9, 10, 11, 12, 13, 14, 15, 16] (by decide +kernel) (by decide +kernel)
set_option maxRecDepth 20000 in
theorem gX5_moves_X5_corners : GoodIn wsX5_moves (wsV RX5 30 RX5 yX5_corners wsX5_corners) := goodIn_app (goodIn_of _ (by decide +kernel)) ggX5_moves_X5_corners
theorem dX5_moves_0 : decode cX5_moves 0 = .ok (.iconst 0, 1) := by decide +kernel
theorem dX5_moves_1 : decode cX5_moves 1 = .ok (.istore 4, 2) := by decide +kernel
theorem dX5_moves_3 : decode cX5_moves 3 = .ok (.iload 4, 2) := by decide +kernel
theorem dX5_moves_5 : decode cX5_moves 5 = .ok (.aload_n 0, 1) := by decide +kernel
theorem dX5_moves_6 : decode cX5_moves 6 = .ok (.iload_n 1, 1) := by decide +kernel
theorem dX5_moves_7 : decode cX5_moves 7 = .ok (.invokevirtual 30, 3) := by decide +kernel
theorem dX5_moves_10 : decode cX5_moves 10 = .ok (.if_icmp .ge 47, 3) := by decide +kernel
theorem dX5_moves_13 : decode cX5_moves 13 = .ok (.aload_n 0, 1) := by decide +kernel
theorem dX5_moves_14 : decode cX5_moves 14 = .ok (.getfield 7, 3) := by decide +kernel
theorem dX5_moves_17 : decode cX5_moves 17 = .ok (.bipush 12, 2) := by decide +kernel
theorem dX5_moves_19 : decode cX5_moves 19 = .ok (.bipush 6, 2) := by decide +kernel
theorem dX5_moves_21 : decode cX5_moves 21 = .ok (.iload_n 1, 1) := by decide +kernel
theorem dX5_moves_22 : decode cX5_moves 22 = .ok (.imul, 1) := by decide +kernel
theorem dX5_moves_23 : decode cX5_moves 23 = .ok (.iadd, 1) := by decide +kernel
theorem dX5_moves_24 : decode cX5_moves 24 = .ok (.iload 4, 2) := by decide +kernel
theorem dX5_moves_26 : decode cX5_moves 26 = .ok (.iadd, 1) := by decide +kernel
theorem dX5_moves_27 : decode cX5_moves 27 = .ok (.dup2, 1) := by decide +kernel
theorem dX5_moves_28 : decode cX5_moves 28 = .ok (.iaload, 1) := by decide +kernel
theorem dX5_moves_29 : decode cX5_moves 29 = .ok (.iload_n 2, 1) := by decide +kernel
theorem dX5_moves_30 : decode cX5_moves 30 = .ok (.iadd, 1) := by decide +kernel
theorem dX5_moves_31 : decode cX5_moves 31 = .ok (.iastore, 1) := by decide +kernel
theorem dX5_moves_32 : decode cX5_moves 32 = .ok (.aload_n 0, 1) := by decide +kernel
theorem dX5_moves_33 : decode cX5_moves 33 = .ok (.getfield 7, 3) := by decide +kernel
theorem dX5_moves_36 : decode cX5_moves 36 = .ok (.bipush 66, 2) := by decide +kernel
theorem dX5_moves_38 : decode cX5_moves 38 = .ok (.bipush 6, 2) := by decide +kernel
theorem dX5_moves_40 : decode cX5_moves 40 = .ok (.iload_n 1, 1) := by decide +kernel
theorem dX5_moves_41 : decode cX5_moves 41 = .ok (.imul, 1) := by decide +kernel
theorem dX5_moves_42 : decode cX5_moves 42 = .ok (.iadd, 1) := by decide +kernel
theorem dX5_moves_43 : decode cX5_moves 43 = .ok (.iload 4, 2) := by decide +kernel
theorem dX5_moves_45 : decode cX5_moves 45 = .ok (.iadd, 1) := by decide +kernel
theorem dX5_moves_46 : decode cX5_moves 46 = .ok (.dup2, 1) := by decide +kernel
theorem dX5_moves_47 : decode cX5_moves 47 = .ok (.iaload, 1) := by decide +kernel
theorem dX5_moves_48 : decode cX5_moves 48 = .ok (.iload_n 3, 1) := by decide +kernel
theorem dX5_moves_49 : decode cX5_moves 49 = .ok (.iadd, 1) := by decide +kernel
theorem dX5_moves_50 : decode cX5_moves 50 = .ok (.iastore, 1) := by decide +kernel
theorem dX5_moves_51 : decode cX5_moves 51 = .ok (.iinc 4 1, 3) := by decide +kernel
theorem dX5_moves_54 : decode cX5_moves 54 = .ok (.goto (-51), 3) := by decide +kernel
theorem dX5_moves_57 : decode cX5_moves 57 = .ok (.return_, 1) := by decide +kernel
set_option maxRecDepth 20000 in
theorem ggX5_side_X5_x : GoodIn wsX5_side wsX5_x := goodIn_r _ [5, 6, 7, 8, 9, 4, 10, 15, 16, 17, 18, 19, 20, 21, 22, 23, 24] (by decide +kernel) (by decide +kernel)
set_option maxRecDepth 20000 in
theorem gX5_side_X5_x : GoodIn wsX5_side (wsV RX5 34 RX5 yX5_x wsX5_x) := goodIn_app (goodIn_of _ (by decide +kernel)) ggX5_side_X5_x
set_option maxRecDepth 20000 in
theorem ggX5_side_X5_y : GoodIn wsX5_side wsX5_y := goodIn_r _ [14, 6, 7, 8, 9, 4, 10, 15, 16, 17, 18, 19, 20, 21, 22, 23, 24] (by decide +kernel) (by decide +kernel)
set_option maxRecDepth 20000 in
theorem gX5_side_X5_y : GoodIn wsX5_side (wsV RX5 38 RX5 yX5_y wsX5_y) := goodIn_app (goodIn_of _ (by decide +kernel)) ggX5_side_X5_y
theorem dX5_side_0 : decode cX5_side 0 = .ok (.aload_n 0, 1) := by decide +kernel
theorem dX5_side_1 : decode cX5_side 1 = .ok (.iload_n 1, 1) := by decide +kernel
theorem dX5_side_2 : decode cX5_side 2 = .ok (.iload_n 2, 1) := by decide +kernel
theorem dX5_side_3 : decode cX5_side 3 = .ok (.iconst 1, 1) := by decide +kernel
theorem dX5_side_4 : decode cX5_side 4 = .ok (.iadd, 1) := by decide +kernel
theorem dX5_side_5 : decode cX5_side 5 = .ok (.invokevirtual 34, 3) := by decide +kernel
theorem dX5_side_8 : decode cX5_side 8 = .ok (.aload_n 0, 1) := by decide +kernel
theorem dX5_side_9 : decode cX5_side 9 = .ok (.iload_n 1, 1) := by decide +kernel
theorem dX5_side_10 : decode cX5_side 10 = .ok (.iload_n 2, 1) := by decide +kernel
theorem dX5_side_11 : decode cX5_side 11 = .ok (.invokevirtual 34, 3) := by decide +kernel
theorem dX5_side_14 : decode cX5_side 14 = .ok (.isub, 1) := by decide +kernel
theorem dX5_side_15 : decode cX5_side 15 = .ok (.istore 5, 2) := by decide +kernel
theorem dX5_side_17 : decode cX5_side 17 = .ok (.aload_n 0, 1) := by decide +kernel
theorem dX5_side_18 : decode cX5_side 18 = .ok (.iload_n 1, 1) := by decide +kernel
theorem dX5_side_19 : decode cX5_side 19 = .ok (.iload_n 2, 1) := by decide +kernel
theorem dX5_side_20 : decode cX5_side 20 = .ok (.iconst 1, 1) := by decide +kernel
theorem dX5_side_21 : decode cX5_side 21 = .ok (.iadd, 1) := by decide +kernel
theorem dX5_side_22 : decode cX5_side 22 = .ok (.invokevirtual 38, 3) := by decide +kernel
theorem dX5_side_25 : decode cX5_side 25 = .ok (.aload_n 0, 1) := by decide +kernel
theorem dX5_side_26 : decode cX5_side 26 = .ok (.iload_n 1, 1) := by decide +kernel
theorem dX5_side_27 : decode cX5_side 27 = .ok (.iload_n 2, 1) := by decide +kernel
theorem dX5_side_28 : decode cX5_side 28 = .ok (.invokevirtual 38, 3) := by decide +kernel
theorem dX5_side_31 : decode cX5_side 31 = .ok (.isub, 1) := by decide +kernel
theorem dX5_side_32 : decode cX5_side 32 = .ok (.istore 6, 2) := by decide +kernel
theorem dX5_side_34 : decode cX5_side 34 = .ok (.iload 5, 2) := by decide +kernel
theorem dX5_side_36 : decode cX5_side 36 = .ok (.aload_n 0, 1) := by decide +kernel
theorem dX5_side_37 : decode cX5_side 37 = .ok (.iload_n 3, 1) := by decide +kernel
theorem dX5_side_38 : decode cX5_side 38 = .ok (.iload 4, 2) := by decide +kernel
theorem dX5_side_40 : decode cX5_side 40 = .ok (.invokevirtual 38, 3) := by decide +kernel
theorem dX5_side_43 : decode cX5_side 43 = .ok (.aload_n 0, 1) := by decide +kernel
theorem dX5_side_44 : decode cX5_side 44 = .ok (.iload_n 1, 1) := by decide +kernel
theorem dX5_side_45 : decode cX5_side 45 = .ok (.iload_n 2, 1) := by decide +kernel
theorem dX5_side_46 : decode cX5_side 46 = .ok (.invokevirtual 38, 3) := by decide +kernel
theorem dX5_side_49 : decode cX5_side 49 = .ok (.isub, 1) := by decide +kernel
theorem dX5_side_50 : decode cX5_side 50 = .ok (.imul, 1) := by decide +kernel
theorem dX5_side_51 : decode cX5_side 51 = .ok (.iload 6, 2) := by decide +kernel
theorem dX5_side_53 : decode cX5_side 53 = .ok (.aload_n 0, 1) := by decide +kernel
theorem dX5_side_54 : decode cX5_side 54 = .ok (.iload_n 3, 1) := by decide +kernel
theorem dX5_side_55 : decode cX5_side 55 = .ok (.iload 4, 2) := by decide +kernel
theorem dX5_side_57 : decode cX5_side 57 = .ok (.invokevirtual 34, 3) := by decide +kernel
theorem dX5_side_60 : decode cX5_side 60 = .ok (.aload_n 0, 1) := by decide +kernel
theorem dX5_side_61 : decode cX5_side 61 = .ok (.iload_n 1, 1) := by decide +kernel
theorem dX5_side_62 : decode cX5_side 62 = .ok (.iload_n 2, 1) := by decide +kernel
theorem dX5_side_63 : decode cX5_side 63 = .ok (.invokevirtual 34, 3) := by decide +kernel
theorem dX5_side_66 : decode cX5_side 66 = .ok (.isub, 1) := by decide +kernel
theorem dX5_side_67 : decode cX5_side 67 = .ok (.imul, 1) := by decide +kernel
theorem dX5_side_68 : decode cX5_side 68 = .ok (.isub, 1) := by decide +kernel
theorem dX5_side_69 : decode cX5_side 69 = .ok (.ireturn, 1) := by decide +kernel
set_option maxRecDepth 20000 in
theorem ggX5_nearest_X5_corners : GoodIn wsX5_nearest wsX5_corners := goodIn_r _ [5, 6, 19, 20, 21, 22, 23, 24, 25, 26, 27, 28] (by decide +kernel) (by decide +kernel)
set_option maxRecDepth 20000 in
theorem gX5_nearest_X5_corners : GoodIn wsX5_nearest (wsV RX5 30 RX5 yX5_corners wsX5_corners) := goodIn_app (goodIn_of _ (by decide +kernel)) ggX5_nearest_X5_corners
set_option maxRecDepth 20000 in
theorem ggX5_nearest_X5_side : GoodIn wsX5_nearest wsX5_side := goodIn_r _ [10, 11, 12, 13, 4, 14, 6, 1, 2, 3, 5, 15, 16, 17, 18, 19, 20, 21, 22, 23, 24, 25, 26, 27, 28] (by decide +kernel) (by decide +kernel)
set_option maxRecDepth 20000 in
theorem gX5_nearest_X5_side : GoodIn wsX5_nearest (wsV RX5 41 RX5 yX5_side wsX5_side) := goodIn_app (goodIn_of _ (by decide +kernel)) ggX5_nearest_X5_side
theorem dX5_nearest_0 : decode cX5_nearest 0 = .ok (.iconst 0, 1) := by decide +kernel
theorem dX5_nearest_1 : decode cX5_nearest 1 = .ok (.istore 4, 2) := by decide +kernel
theorem dX5_nearest_3 : decode cX5_nearest 3 = .ok (.iconst 1, 1) := by decide +kernel
theorem dX5_nearest_4 : decode cX5_nearest 4 = .ok (.istore 5, 2) := by decide +kernel
theorem dX5_nearest_6 : decode cX5_nearest 6 = .ok (.iload 5, 2) := by decide +kernel
theorem dX5_nearest_8 : decode cX5_nearest 8 = .ok (.aload_n 0, 1) := by decide +kernel
theorem dX5_nearest_9 : decode cX5_nearest 9 = .ok (.iload_n 3, 1) := by decide +kernel
theorem dX5_nearest_10 : decode cX5_nearest 10 = .ok (.invokevirtual 30, 3) := by decide +kernel
theorem dX5_nearest_13 : decode cX5_nearest 13 = .ok (.if_icmp .ge 39, 3) := by decide +kernel
theorem dX5_nearest_16 : decode cX5_nearest 16 = .ok (.aload_n 0, 1) := by decide +kernel
theorem dX5_nearest_17 : decode cX5_nearest 17 = .ok (.iload_n 1, 1) := by decide +kernel
theorem dX5_nearest_18 : decode cX5_nearest 18 = .ok (.iload_n 2, 1) := by decide +kernel
theorem dX5_nearest_19 : decode cX5_nearest 19 = .ok (.iload_n 3, 1) := by decide +kernel
theorem dX5_nearest_20 : decode cX5_nearest 20 = .ok (.iload 5, 2) := by decide +kernel
theorem dX5_nearest_22 : decode cX5_nearest 22 = .ok (.invokevirtual 41, 3) := by decide +kernel
theorem dX5_nearest_25 : decode cX5_nearest 25 = .ok (.aload_n 0, 1) := by decide +kernel
theorem dX5_nearest_26 : decode cX5_nearest 26 = .ok (.iload_n 1, 1) := by decide +kernel
theorem dX5_nearest_27 : decode cX5_nearest 27 = .ok (.iload_n 2, 1) := by decide +kernel
theorem dX5_nearest_28 : decode cX5_nearest 28 = .ok (.iload_n 3, 1) := by decide +kernel
theorem dX5_nearest_29 : decode cX5_nearest 29 = .ok (.iload 4, 2) := by decide +kernel
theorem dX5_nearest_31 : decode cX5_nearest 31 = .ok (.invokevirtual 41, 3) := by decide +kernel
theorem dX5_nearest_34 : decode cX5_nearest 34 = .ok (.if_icmp .le 8, 3) := by decide +kernel
theorem dX5_nearest_37 : decode cX5_nearest 37 = .ok (.iload 5, 2) := by decide +kernel
theorem dX5_nearest_39 : decode cX5_nearest 39 = .ok (.goto 5, 3) := by decide +kernel
theorem dX5_nearest_42 : decode cX5_nearest 42 = .ok (.iload 4, 2) := by decide +kernel
theorem dX5_nearest_44 : decode cX5_nearest 44 = .ok (.istore 4, 2) := by decide +kernel
theorem dX5_nearest_46 : decode cX5_nearest 46 = .ok (.iinc 5 1, 3) := by decide +kernel
theorem dX5_nearest_49 : decode cX5_nearest 49 = .ok (.goto (-43), 3) := by decide +kernel
theorem dX5_nearest_52 : decode cX5_nearest 52 = .ok (.iload 4, 2) := by decide +kernel
theorem dX5_nearest_54 : decode cX5_nearest 54 = .ok (.ireturn, 1) := by decide +kernel
set_option maxRecDepth 20000 in
theorem ggX5_parting_X5_corners : GoodIn wsX5_parting wsX5_corners := goodIn_r _ [5, 6, 23, 24, 25, 26, 27, 28, 29, 30, 31, 32] (by decide +kernel) (by decide +kernel)
set_option maxRecDepth 20000 in
theorem gX5_parting_X5_corners : GoodIn wsX5_parting (wsV RX5 30 RX5 yX5_corners wsX5_corners) := goodIn_app (goodIn_of _ (by decide +kernel)) ggX5_parting_X5_corners
set_option maxRecDepth 20000 in
theorem ggX5_parting_X5_nearest : GoodIn wsX5_parting wsX5_nearest := goodIn_r _ [10, 1, 2, 3, 4, 5, 6, 11, 12, 13, 14, 15, 16, 17, 18, 19, 20, 21, 22, 23, 24, 25, 26, 27, 28, 29, 30, 31, 32] (by decide +kernel) (by decide +kernel)
set_option maxRecDepth 20000 in
theorem gX5_parting_X5_nearest : GoodIn wsX5_parting (wsV RX5 45 RX5 yX5_nearest wsX5_nearest) := goodIn_app (goodIn_of _ (by decide +kernel)) ggX5_parting_X5_nearest
set_option maxRecDepth 20000 in
theorem ggX5_parting_X5_side : GoodIn wsX5_parting wsX5_side := goodIn_r _ [14, 15, 16, 17, 4, 18, 6, 1, 2, 3, 5, 19, 20, 21, 22, 23, 24, 25, 26, 27, 28, 29, 30, 31, 32] (by decide +kernel) (by decide +kernel)
set_option maxRecDepth 20000 in
theorem gX5_parting_X5_side : GoodIn wsX5_parting (wsV RX5 41 RX5 yX5_side wsX5_side) := goodIn_app (goodIn_of _ (by decide +kernel)) ggX5_parting_X5_side
theorem dX5_parting_0 : decode cX5_parting 0 = .ok (.iconst 0, 1) := by decide +kernel
theorem dX5_parting_1 : decode cX5_parting 1 = .ok (.istore 4, 2) := by decide +kernel
theorem dX5_parting_3 : decode cX5_parting 3 = .ok (.iload 4, 2) := by decide +kernel
theorem dX5_parting_5 : decode cX5_parting 5 = .ok (.aload_n 0, 1) := by decide +kernel
theorem dX5_parting_6 : decode cX5_parting 6 = .ok (.iload_n 1, 1) := by decide +kernel
theorem dX5_parting_7 : decode cX5_parting 7 = .ok (.invokevirtual 30, 3) := by decide +kernel
theorem dX5_parting_10 : decode cX5_parting 10 = .ok (.if_icmp .ge 32, 3) := by decide +kernel
theorem dX5_parting_13 : decode cX5_parting 13 = .ok (.aload_n 0, 1) := by decide +kernel
theorem dX5_parting_14 : decode cX5_parting 14 = .ok (.iload_n 1, 1) := by decide +kernel
theorem dX5_parting_15 : decode cX5_parting 15 = .ok (.iload 4, 2) := by decide +kernel
theorem dX5_parting_17 : decode cX5_parting 17 = .ok (.iload_n 2, 1) := by decide +kernel
theorem dX5_parting_18 : decode cX5_parting 18 = .ok (.aload_n 0, 1) := by decide +kernel
theorem dX5_parting_19 : decode cX5_parting 19 = .ok (.iload_n 1, 1) := by decide +kernel
theorem dX5_parting_20 : decode cX5_parting 20 = .ok (.iload 4, 2) := by decide +kernel
theorem dX5_parting_22 : decode cX5_parting 22 = .ok (.iload_n 2, 1) := by decide +kernel
theorem dX5_parting_23 : decode cX5_parting 23 = .ok (.invokevirtual 45, 3) := by decide +kernel
theorem dX5_parting_26 : decode cX5_parting 26 = .ok (.invokevirtual 41, 3) := by decide +kernel
theorem dX5_parting_29 : decode cX5_parting 29 = .ok (.iload_n 3, 1) := by decide +kernel
theorem dX5_parting_30 : decode cX5_parting 30 = .ok (.if_icmp .gt 6, 3) := by decide +kernel
theorem dX5_parting_33 : decode cX5_parting 33 = .ok (.iload 4, 2) := by decide +kernel
theorem dX5_parting_35 : decode cX5_parting 35 = .ok (.ireturn, 1) := by decide +kernel
theorem dX5_parting_36 : decode cX5_parting 36 = .ok (.iinc 4 1, 3) := by decide +kernel
theorem dX5_parting_39 : decode cX5_parting 39 = .ok (.goto (-36), 3) := by decide +kernel
theorem dX5_parting_42 : decode cX5_parting 42 = .ok (.iconst (-1), 1) := by decide +kernel
theorem dX5_parting_43 : decode cX5_parting 43 = .ok (.ireturn, 1) := by decide +kernel
set_option maxRecDepth 20000 in
theorem ggX5_isParted_X5_parting : GoodIn wsX5_isParted wsX5_parting := goodIn_r _ [5, 6, 7, 8, 4, 9, 10, 11, 12, 13, 14, 15, 16, 17, 18, 19, 20, 21, 22, 23, 24, 25, 26, 27, 28, 29, 30, 31, 32, 33, 34, 35, 36] (by decide +kernel) (by decide +kernel)
