set_option maxRecDepth 20000 in
theorem gX4_slide_X3_has : GoodIn wsX4_slide (wsV RX4 72 RX3 yX3_has wsX3_has) := goodIn_app (goodIn_of _ (by decide +kernel)) ggX4_slide_X3_has
set_option maxRecDepth 20000 in
theorem ggX4_slide_X4_isDirection : GoodIn wsX4_slide wsX4_isDirection := goodIn_r _ [14] (by decide +kernel) (by decide +kernel)
set_option maxRecDepth 20000 in
theorem gX4_slide_X4_isDirection : GoodIn wsX4_slide (va_wsS RX4 79 yX4_isDirection wsX4_isDirection) := goodIn_app (goodIn_of _ (by decide +kernel)) ggX4_slide_X4_isDirection
set_option maxRecDepth 20000 in
theorem ggX4_slide_X3_freeSteps : GoodIn wsX4_slide wsX3_freeSteps := goodIn_r _ [18, 19, 20, 21, 22, 23, 24, 8, 25, 26, 27, 28, 29, 30, 31, 32, 33, 34, 35, 36, 37, 38, 39, 40, 41, 42, 43, 44, 45, 46, 47, 48, 13, 49, 50, 51, 52, 53, 54, 55, 56, 57, 58, 59, 60, 61, 62, 63, 64, 65, 66, 67, 68, 69, 70, 71, 72, 73, 74, 75, 76, 77, 78, 79, 80, 81, 82, 83, 84, 85, 86, 87, 88, 10, 89, 90, 91, 92, 93, 94, 95, 96, 97, 98, 99, 100, 101, 102, 103, 129, 130, 131, 132, 133, 134, 135, 136, 137] (by decide +kernel) (by decide +kernel)
set_option maxRecDepth 20000 in
theorem gX4_slide_X3_freeSteps : GoodIn wsX4_slide (wsV RX4 82 RX3 yX3_freeSteps wsX3_freeSteps) := goodIn_app (goodIn_of _ (by decide +kernel)) ggX4_slide_X3_freeSteps
set_option maxRecDepth 20000 in
theorem ggX4_slide_X2_keep : GoodIn wsX4_slide wsX2_keep := goodIn_r _ [108, 109, 110, 111, 112, 113, 107, 114, 115, 116, 117, 118, 119, 8, 120, 10, 20, 21, 22, 23, 24, 25, 26, 27, 28, 29, 30, 31, 32, 33, 34, 35, 36, 37, 38, 39, 40, 41, 42, 43, 44, 45, 46, 47, 138, 139, 140, 141, 129, 130, 131, 132, 133, 134, 135, 136, 137] (by decide +kernel) (by decide +kernel)
set_option maxRecDepth 20000 in
theorem gX4_slide_X2_keep : GoodIn wsX4_slide (wsV RX4 43 RX2 yX2_keep wsX2_keep) := goodIn_app (goodIn_of _ (by decide +kernel)) ggX4_slide_X2_keep
set_option maxRecDepth 20000 in
theorem ggX4_slide_X3_shift : GoodIn wsX4_slide wsX3_shift := goodIn_r _ [124, 22, 23, 24, 8, 25, 26, 27, 48, 13, 49, 50, 51, 52, 53, 54, 55, 56, 31, 57, 33, 34, 35, 36, 37, 38, 39, 40, 41, 42, 43, 44, 45, 46, 47, 129, 130, 131, 132, 133, 134, 135, 136, 137] (by decide +kernel) (by decide +kernel)
set_option maxRecDepth 20000 in
theorem gX4_slide_X3_shift : GoodIn wsX4_slide (wsV RX4 86 RX3 yX3_shift wsX3_shift) := goodIn_app (goodIn_of _ (by decide +kernel)) ggX4_slide_X3_shift
theorem dX4_slide_0 : decode cX4_slide 0 = .ok (.aload_n 0, 1) := by decide +kernel
theorem dX4_slide_1 : decode cX4_slide 1 = .ok (.getfield 10, 3) := by decide +kernel
theorem dX4_slide_4 : decode cX4_slide 4 = .ok (.iload_n 1, 1) := by decide +kernel
theorem dX4_slide_5 : decode cX4_slide 5 = .ok (.invokevirtual 72, 3) := by decide +kernel
theorem dX4_slide_8 : decode cX4_slide 8 = .ok (.ifCond .eq 21, 3) := by decide +kernel
theorem dX4_slide_11 : decode cX4_slide 11 = .ok (.iload_n 2, 1) := by decide +kernel
theorem dX4_slide_12 : decode cX4_slide 12 = .ok (.invokestatic 79, 3) := by decide +kernel
theorem dX4_slide_15 : decode cX4_slide 15 = .ok (.ifCond .eq 14, 3) := by decide +kernel
theorem dX4_slide_18 : decode cX4_slide 18 = .ok (.iload_n 3, 1) := by decide +kernel
theorem dX4_slide_19 : decode cX4_slide 19 = .ok (.iconst 1, 1) := by decide +kernel
theorem dX4_slide_20 : decode cX4_slide 20 = .ok (.if_icmp .lt 9, 3) := by decide +kernel
theorem dX4_slide_23 : decode cX4_slide 23 = .ok (.iload_n 3, 1) := by decide +kernel
theorem dX4_slide_24 : decode cX4_slide 24 = .ok (.bipush 60, 2) := by decide +kernel
theorem dX4_slide_26 : decode cX4_slide 26 = .ok (.if_icmp .le 6, 3) := by decide +kernel
theorem dX4_slide_29 : decode cX4_slide 29 = .ok (.ldc 37, 2) := by decide +kernel
theorem dX4_slide_31 : decode cX4_slide 31 = .ok (.ireturn, 1) := by decide +kernel
theorem dX4_slide_32 : decode cX4_slide 32 = .ok (.aload_n 0, 1) := by decide +kernel
theorem dX4_slide_33 : decode cX4_slide 33 = .ok (.getfield 10, 3) := by decide +kernel
theorem dX4_slide_36 : decode cX4_slide 36 = .ok (.iload_n 1, 1) := by decide +kernel
theorem dX4_slide_37 : decode cX4_slide 37 = .ok (.iload_n 2, 1) := by decide +kernel
theorem dX4_slide_38 : decode cX4_slide 38 = .ok (.iload_n 3, 1) := by decide +kernel
theorem dX4_slide_39 : decode cX4_slide 39 = .ok (.invokevirtual 82, 3) := by decide +kernel
theorem dX4_slide_42 : decode cX4_slide 42 = .ok (.istore 4, 2) := by decide +kernel
theorem dX4_slide_44 : decode cX4_slide 44 = .ok (.iload 4, 2) := by decide +kernel
theorem dX4_slide_46 : decode cX4_slide 46 = .ok (.ifCond .ne 6, 3) := by decide +kernel
theorem dX4_slide_49 : decode cX4_slide 49 = .ok (.ldc 42, 2) := by decide +kernel
theorem dX4_slide_51 : decode cX4_slide 51 = .ok (.ireturn, 1) := by decide +kernel
theorem dX4_slide_52 : decode cX4_slide 52 = .ok (.aload_n 0, 1) := by decide +kernel
theorem dX4_slide_53 : decode cX4_slide 53 = .ok (.getfield 22, 3) := by decide +kernel
theorem dX4_slide_56 : decode cX4_slide 56 = .ok (.aload_n 0, 1) := by decide +kernel
theorem dX4_slide_57 : decode cX4_slide 57 = .ok (.getfield 10, 3) := by decide +kernel
theorem dX4_slide_60 : decode cX4_slide 60 = .ok (.invokevirtual 43, 3) := by decide +kernel
theorem dX4_slide_63 : decode cX4_slide 63 = .ok (.aload_n 0, 1) := by decide +kernel
theorem dX4_slide_64 : decode cX4_slide 64 = .ok (.getfield 10, 3) := by decide +kernel
theorem dX4_slide_67 : decode cX4_slide 67 = .ok (.iload_n 1, 1) := by decide +kernel
theorem dX4_slide_68 : decode cX4_slide 68 = .ok (.iload_n 2, 1) := by decide +kernel
theorem dX4_slide_69 : decode cX4_slide 69 = .ok (.iload 4, 2) := by decide +kernel
theorem dX4_slide_71 : decode cX4_slide 71 = .ok (.invokevirtual 86, 3) := by decide +kernel
theorem dX4_slide_74 : decode cX4_slide 74 = .ok (.iload 4, 2) := by decide +kernel
theorem dX4_slide_76 : decode cX4_slide 76 = .ok (.ireturn, 1) := by decide +kernel
set_option maxRecDepth 20000 in
theorem ggX4_settle_X4_isDirection : GoodIn wsX4_settle wsX4_isDirection := goodIn_r _ [7] (by decide +kernel) (by decide +kernel)
set_option maxRecDepth 20000 in
theorem gX4_settle_X4_isDirection : GoodIn wsX4_settle (va_wsS RX4 79 yX4_isDirection wsX4_isDirection) := goodIn_app (goodIn_of _ (by decide +kernel)) ggX4_settle_X4_isDirection
set_option maxRecDepth 20000 in
theorem ggX4_settle_X2_keep : GoodIn wsX4_settle wsX2_keep := goodIn_r _ [12, 13, 14, 15, 16, 17, 11, 18, 19, 20, 21, 22, 23, 24, 25, 26, 27, 28, 29, 30, 31, 32, 33, 34, 35, 36, 37, 38, 39, 40, 41, 42, 43, 44, 45, 46, 47, 48, 49, 50, 51, 52, 53, 54, 128, 129, 130, 131, 132, 133, 134, 135, 136, 137, 138, 139, 140] (by decide +kernel) (by decide +kernel)
set_option maxRecDepth 20000 in
theorem gX4_settle_X2_keep : GoodIn wsX4_settle (wsV RX4 43 RX2 yX2_keep wsX2_keep) := goodIn_app (goodIn_of _ (by decide +kernel)) ggX4_settle_X2_keep
set_option maxRecDepth 20000 in
theorem ggX4_settle_X3_settleAll : GoodIn wsX4_settle wsX3_settleAll := goodIn_r _ [58, 26, 59, 60, 61, 24, 62, 63, 27, 28, 29, 30, 31, 32, 33, 34, 35, 36, 37, 38, 39, 40, 41, 42, 43, 44, 45, 46, 47, 48, 49, 50, 51, 52, 53, 54, 64, 6, 65, 66, 67, 68, 69, 70, 71, 72, 73, 74, 75, 76, 77, 78, 79, 80, 81, 82, 83, 84, 85, 86, 87, 88, 89, 90, 91, 92, 93, 94, 95, 96, 97, 98, 99, 100, 101, 102, 103, 104, 105, 106, 107, 108, 109, 110, 111, 112, 113, 114, 115, 116, 117, 118, 119, 120, 121, 122, 123, 132, 133, 134, 135, 136, 137, 138, 139, 140] (by decide +kernel) (by decide +kernel)
set_option maxRecDepth 20000 in
theorem gX4_settle_X3_settleAll : GoodIn wsX4_settle (wsV RX4 109 RX3 yX3_settleAll wsX3_settleAll) := goodIn_app (goodIn_of _ (by decide +kernel)) ggX4_settle_X3_settleAll
theorem dX4_settle_0 : decode cX4_settle 0 = .ok (.iload_n 1, 1) := by decide +kernel
theorem dX4_settle_1 : decode cX4_settle 1 = .ok (.invokestatic 79, 3) := by decide +kernel
theorem dX4_settle_4 : decode cX4_settle 4 = .ok (.ifCond .ne 6, 3) := by decide +kernel
theorem dX4_settle_7 : decode cX4_settle 7 = .ok (.ldc 37, 2) := by decide +kernel
theorem dX4_settle_9 : decode cX4_settle 9 = .ok (.ireturn, 1) := by decide +kernel
theorem dX4_settle_10 : decode cX4_settle 10 = .ok (.aload_n 0, 1) := by decide +kernel
theorem dX4_settle_11 : decode cX4_settle 11 = .ok (.getfield 22, 3) := by decide +kernel
theorem dX4_settle_14 : decode cX4_settle 14 = .ok (.aload_n 0, 1) := by decide +kernel
theorem dX4_settle_15 : decode cX4_settle 15 = .ok (.getfield 10, 3) := by decide +kernel
theorem dX4_settle_18 : decode cX4_settle 18 = .ok (.invokevirtual 43, 3) := by decide +kernel
theorem dX4_settle_21 : decode cX4_settle 21 = .ok (.aload_n 0, 1) := by decide +kernel
theorem dX4_settle_22 : decode cX4_settle 22 = .ok (.getfield 10, 3) := by decide +kernel
theorem dX4_settle_25 : decode cX4_settle 25 = .ok (.iload_n 1, 1) := by decide +kernel
theorem dX4_settle_26 : decode cX4_settle 26 = .ok (.invokevirtual 109, 3) := by decide +kernel
theorem dX4_settle_29 : decode cX4_settle 29 = .ok (.ireturn, 1) := by decide +kernel
set_option maxRecDepth 20000 in
theorem ggX4_bodyOf_X3_has : GoodIn wsX4_bodyOf wsX3_has := goodIn_r _ [10, 11, 141, 142, 143, 144, 145, 146] (by decide +kernel) (by decide +kernel)
set_option maxRecDepth 20000 in
theorem gX4_bodyOf_X3_has : GoodIn wsX4_bodyOf (wsV RX4 72 RX3 yX3_has wsX3_has) := goodIn_app (goodIn_of _ (by decide +kernel)) ggX4_bodyOf_X3_has
set_option maxRecDepth 20000 in
theorem ggX4_bodyOf_X3_at : GoodIn wsX4_bodyOf wsX3_at := goodIn_r _ [15, 16, 17, 141, 142, 143, 144, 145, 146] (by decide +kernel) (by decide +kernel)
set_option maxRecDepth 20000 in
theorem gX4_bodyOf_X3_at : GoodIn wsX4_bodyOf (wsV RX4 93 RX3 yX3_at wsX3_at) := goodIn_app (goodIn_of _ (by decide +kernel)) ggX4_bodyOf_X3_at
set_option maxRecDepth 20000 in
theorem ggX4_bodyOf_X0_doubleArea : GoodIn wsX4_bodyOf wsX0_doubleArea := goodIn_r _ [22, 23, 24, 25, 26, 21, 27, 28, 29, 30, 31, 32, 33, 34, 35, 36, 37, 138, 139, 140] (by decide +kernel) (by decide +kernel)
set_option maxRecDepth 20000 in
theorem gX4_bodyOf_X0_doubleArea : GoodIn wsX4_bodyOf (wsV RX4 116 RX0 yX0_doubleArea wsX0_doubleArea) := goodIn_app (goodIn_of _ (by decide +kernel)) ggX4_bodyOf_X0_doubleArea
set_option maxRecDepth 20000 in
theorem ggX4_bodyOf_X0_left : GoodIn wsX4_bodyOf wsX0_left := goodIn_r _ [41, 23, 42, 43, 44, 45, 28, 29, 30, 21, 31, 32, 138, 139, 140] (by decide +kernel) (by decide +kernel)
set_option maxRecDepth 20000 in
theorem gX4_bodyOf_X0_left : GoodIn wsX4_bodyOf (wsV RX4 106 RX0 yX0_left wsX0_left) := goodIn_app (goodIn_of _ (by decide +kernel)) ggX4_bodyOf_X0_left
set_option maxRecDepth 20000 in
theorem ggX4_bodyOf_X0_right : GoodIn wsX4_bodyOf wsX0_right := goodIn_r _ [49, 23, 50, 51, 44, 52, 28, 29, 30, 21, 31, 32, 138, 139, 140] (by decide +kernel) (by decide +kernel)
set_option maxRecDepth 20000 in
theorem gX4_bodyOf_X0_right : GoodIn wsX4_bodyOf (wsV RX4 102 RX0 yX0_right wsX0_right) := goodIn_app (goodIn_of _ (by decide +kernel)) ggX4_bodyOf_X0_right
set_option maxRecDepth 20000 in
theorem ggX4_bodyOf_X0_low : GoodIn wsX4_bodyOf wsX0_low := goodIn_r _ [56, 23, 42, 43, 44, 45, 33, 34, 35, 21, 36, 37, 138, 139, 140] (by decide +kernel) (by decide +kernel)
set_option maxRecDepth 20000 in
theorem gX4_bodyOf_X0_low : GoodIn wsX4_bodyOf (wsV RX4 119 RX0 yX0_low wsX0_low) := goodIn_app (goodIn_of _ (by decide +kernel)) ggX4_bodyOf_X0_low
set_option maxRecDepth 20000 in
theorem ggX4_bodyOf_X0_high : GoodIn wsX4_bodyOf wsX0_high := goodIn_r _ [60, 23, 50, 51, 44, 52, 33, 34, 35, 21, 36, 37, 138, 139, 140] (by decide +kernel) (by decide +kernel)
set_option maxRecDepth 20000 in
theorem gX4_bodyOf_X0_high : GoodIn wsX4_bodyOf (wsV RX4 122 RX0 yX0_high wsX0_high) := goodIn_app (goodIn_of _ (by decide +kernel)) ggX4_bodyOf_X0_high
set_option maxRecDepth 20000 in
theorem ggX4_bodyOf_X0_wallsTouched : GoodIn wsX4_bodyOf wsX0_wallsTouched := goodIn_r _ [64, 65, 39, 40, 21, 41, 23, 42, 43, 44, 45, 28, 29, 30, 31, 32, 66, 47, 48, 49, 50, 51, 52, 67, 54, 55, 56, 33, 34, 35, 36, 37, 68, 58, 59, 60, 138, 139, 140] (by decide +kernel) (by decide +kernel)
set_option maxRecDepth 20000 in
theorem gX4_bodyOf_X0_wallsTouched : GoodIn wsX4_bodyOf (wsV RX4 125 RX0 yX0_wallsTouched wsX0_wallsTouched) := goodIn_app (goodIn_of _ (by decide +kernel)) ggX4_bodyOf_X0_wallsTouched
set_option maxRecDepth 20000 in
theorem ggX4_bodyOf_X3_touching : GoodIn wsX4_bodyOf wsX3_touching := goodIn_r _ [72, 11, 73, 43, 44, 45, 74, 13, 14, 9, 15, 16, 17, 75, 76, 77, 21, 78, 23, 42, 79, 80, 81, 82, 83, 50, 51, 52, 24, 25, 26, 27, 28, 29, 30, 31, 32, 33, 34, 35, 36, 37, 84, 85, 86, 141, 142, 143, 144, 145, 146, 138, 139, 140] (by decide +kernel) (by decide +kernel)
set_option maxRecDepth 20000 in
theorem gX4_bodyOf_X3_touching : GoodIn wsX4_bodyOf (wsV RX4 129 RX3 yX3_touching wsX3_touching) := goodIn_app (goodIn_of _ (by decide +kernel)) ggX4_bodyOf_X3_touching
set_option maxRecDepth 20000 in
theorem ggX4_bodyOf_X3_freeDirections : GoodIn wsX4_bodyOf wsX3_freeDirections := goodIn_r _ [90, 91, 92, 93, 9, 94, 95, 96, 97, 74, 13, 14, 15, 16, 17, 98, 99, 100, 21, 101, 23, 28, 29, 30, 31, 32, 33, 34, 35, 36, 37, 102, 103, 104, 105, 106, 85, 107, 108, 109, 110, 111, 112, 113, 114, 115, 116, 117, 118, 119, 65, 39, 40, 41, 42, 43, 44, 45, 66, 47, 48, 49, 50, 51, 52, 67, 54, 55, 56, 68, 58, 59, 60, 120, 121, 122, 123, 11, 75, 76, 77, 78, 79, 80, 81, 82, 83, 24, 25, 26, 27, 84, 86, 141, 142, 143, 144, 145, 146, 138, 139, 140] (by decide +kernel) (by decide +kernel)
set_option maxRecDepth 20000 in
theorem gX4_bodyOf_X3_freeDirections : GoodIn wsX4_bodyOf (wsV RX4 132 RX3 yX3_freeDirections wsX3_freeDirections) := goodIn_app (goodIn_of _ (by decide +kernel)) ggX4_bodyOf_X3_freeDirections
set_option maxRecDepth 20000 in
theorem ggX4_bodyOf_X3_jammed : GoodIn wsX4_bodyOf wsX3_jammed := goodIn_r _ [127, 11, 91, 92, 93, 9, 94, 95, 96, 97, 74, 13, 14, 15, 16, 17, 98, 99, 100, 21, 101, 23, 28, 29, 30, 31, 32, 33, 34, 35, 36, 37, 102, 103, 104, 105, 106, 85, 107, 108, 109, 110, 111, 112, 113, 114, 115, 116, 117, 118, 119, 65, 39, 40, 41, 42, 43, 44, 45, 66, 47, 48, 49, 50, 51, 52, 67, 54, 55, 56, 68, 58, 59, 60, 120, 121, 122, 123, 75, 76, 77, 78, 79, 80, 81, 82, 83, 24, 25, 26, 27, 84, 86, 141, 142, 143, 144, 145, 146, 138, 139, 140] (by decide +kernel) (by decide +kernel)
set_option maxRecDepth 20000 in
theorem gX4_bodyOf_X3_jammed : GoodIn wsX4_bodyOf (wsV RX4 135 RX3 yX3_jammed wsX3_jammed) := goodIn_app (goodIn_of _ (by decide +kernel)) ggX4_bodyOf_X3_jammed
set_option maxRecDepth 20000 in
theorem ggX4_bodyOf_X4_placeOfCorner : GoodIn wsX4_bodyOf wsX4_placeOfCorner := goodIn_r _ [130, 3, 131, 132, 29, 30, 21, 31, 32, 133, 34, 35, 36, 37, 138, 139, 140] (by decide +kernel) (by decide +kernel)
set_option maxRecDepth 20000 in
theorem gX4_bodyOf_X4_placeOfCorner : GoodIn wsX4_bodyOf (va_wsS RX4 138 yX4_placeOfCorner wsX4_placeOfCorner) := goodIn_app (goodIn_of _ (by decide +kernel)) ggX4_bodyOf_X4_placeOfCorner
theorem dX4_bodyOf_0 : decode cX4_bodyOf 0 = .ok (.aload_n 0, 1) := by decide +kernel
theorem dX4_bodyOf_1 : decode cX4_bodyOf 1 = .ok (.getfield 10, 3) := by decide +kernel
theorem dX4_bodyOf_4 : decode cX4_bodyOf 4 = .ok (.iload_n 1, 1) := by decide +kernel
theorem dX4_bodyOf_5 : decode cX4_bodyOf 5 = .ok (.invokevirtual 72, 3) := by decide +kernel
theorem dX4_bodyOf_8 : decode cX4_bodyOf 8 = .ok (.ifCond .eq 13, 3) := by decide +kernel
theorem dX4_bodyOf_11 : decode cX4_bodyOf 11 = .ok (.iload_n 2, 1) := by decide +kernel
theorem dX4_bodyOf_12 : decode cX4_bodyOf 12 = .ok (.ifCond .lt 9, 3) := by decide +kernel
theorem dX4_bodyOf_15 : decode cX4_bodyOf 15 = .ok (.iload_n 2, 1) := by decide +kernel
theorem dX4_bodyOf_16 : decode cX4_bodyOf 16 = .ok (.bipush 22, 2) := by decide +kernel
theorem dX4_bodyOf_18 : decode cX4_bodyOf 18 = .ok (.if_icmp .lt 6, 3) := by decide +kernel
theorem dX4_bodyOf_21 : decode cX4_bodyOf 21 = .ok (.ldc 37, 2) := by decide +kernel
theorem dX4_bodyOf_23 : decode cX4_bodyOf 23 = .ok (.ireturn, 1) := by decide +kernel
theorem dX4_bodyOf_24 : decode cX4_bodyOf 24 = .ok (.aload_n 0, 1) := by decide +kernel
theorem dX4_bodyOf_25 : decode cX4_bodyOf 25 = .ok (.getfield 10, 3) := by decide +kernel
theorem dX4_bodyOf_28 : decode cX4_bodyOf 28 = .ok (.iload_n 1, 1) := by decide +kernel
theorem dX4_bodyOf_29 : decode cX4_bodyOf 29 = .ok (.invokevirtual 93, 3) := by decide +kernel
theorem dX4_bodyOf_32 : decode cX4_bodyOf 32 = .ok (.astore_n 3, 1) := by decide +kernel
theorem dX4_bodyOf_33 : decode cX4_bodyOf 33 = .ok (.iload_n 2, 1) := by decide +kernel
theorem dX4_bodyOf_34 : decode cX4_bodyOf 34 = .ok (.tableswitch 133 0 9 #[54, 59, 64, 69, 74, 79, 84, 103, 112, 121], 54) := by decide +kernel
theorem dX4_bodyOf_88 : decode cX4_bodyOf 88 = .ok (.aload_n 3, 1) := by decide +kernel
theorem dX4_bodyOf_89 : decode cX4_bodyOf 89 = .ok (.getfield 113, 3) := by decide +kernel
theorem dX4_bodyOf_92 : decode cX4_bodyOf 92 = .ok (.ireturn, 1) := by decide +kernel
theorem dX4_bodyOf_93 : decode cX4_bodyOf 93 = .ok (.aload_n 3, 1) := by decide +kernel
theorem dX4_bodyOf_94 : decode cX4_bodyOf 94 = .ok (.invokevirtual 116, 3) := by decide +kernel
theorem dX4_bodyOf_97 : decode cX4_bodyOf 97 = .ok (.ireturn, 1) := by decide +kernel
theorem dX4_bodyOf_98 : decode cX4_bodyOf 98 = .ok (.aload_n 3, 1) := by decide +kernel
theorem dX4_bodyOf_99 : decode cX4_bodyOf 99 = .ok (.invokevirtual 106, 3) := by decide +kernel
theorem dX4_bodyOf_102 : decode cX4_bodyOf 102 = .ok (.ireturn, 1) := by decide +kernel
theorem dX4_bodyOf_103 : decode cX4_bodyOf 103 = .ok (.aload_n 3, 1) := by decide +kernel
theorem dX4_bodyOf_104 : decode cX4_bodyOf 104 = .ok (.invokevirtual 102, 3) := by decide +kernel
theorem dX4_bodyOf_107 : decode cX4_bodyOf 107 = .ok (.ireturn, 1) := by decide +kernel
theorem dX4_bodyOf_108 : decode cX4_bodyOf 108 = .ok (.aload_n 3, 1) := by decide +kernel
theorem dX4_bodyOf_109 : decode cX4_bodyOf 109 = .ok (.invokevirtual 119, 3) := by decide +kernel
theorem dX4_bodyOf_112 : decode cX4_bodyOf 112 = .ok (.ireturn, 1) := by decide +kernel
theorem dX4_bodyOf_113 : decode cX4_bodyOf 113 = .ok (.aload_n 3, 1) := by decide +kernel
theorem dX4_bodyOf_114 : decode cX4_bodyOf 114 = .ok (.invokevirtual 122, 3) := by decide +kernel
theorem dX4_bodyOf_117 : decode cX4_bodyOf 117 = .ok (.ireturn, 1) := by decide +kernel
theorem dX4_bodyOf_118 : decode cX4_bodyOf 118 = .ok (.aload_n 3, 1) := by decide +kernel
theorem dX4_bodyOf_119 : decode cX4_bodyOf 119 = .ok (.aload_n 0, 1) := by decide +kernel
theorem dX4_bodyOf_120 : decode cX4_bodyOf 120 = .ok (.getfield 10, 3) := by decide +kernel
theorem dX4_bodyOf_123 : decode cX4_bodyOf 123 = .ok (.getfield 47, 3) := by decide +kernel
theorem dX4_bodyOf_126 : decode cX4_bodyOf 126 = .ok (.aload_n 0, 1) := by decide +kernel
theorem dX4_bodyOf_127 : decode cX4_bodyOf 127 = .ok (.getfield 10, 3) := by decide +kernel
theorem dX4_bodyOf_130 : decode cX4_bodyOf 130 = .ok (.getfield 51, 3) := by decide +kernel
theorem dX4_bodyOf_133 : decode cX4_bodyOf 133 = .ok (.invokevirtual 125, 3) := by decide +kernel
theorem dX4_bodyOf_136 : decode cX4_bodyOf 136 = .ok (.ireturn, 1) := by decide +kernel
theorem dX4_bodyOf_137 : decode cX4_bodyOf 137 = .ok (.aload_n 0, 1) := by decide +kernel
theorem dX4_bodyOf_138 : decode cX4_bodyOf 138 = .ok (.getfield 10, 3) := by decide +kernel
theorem dX4_bodyOf_141 : decode cX4_bodyOf 141 = .ok (.iload_n 1, 1) := by decide +kernel
theorem dX4_bodyOf_142 : decode cX4_bodyOf 142 = .ok (.invokevirtual 129, 3) := by decide +kernel
theorem dX4_bodyOf_145 : decode cX4_bodyOf 145 = .ok (.ireturn, 1) := by decide +kernel
theorem dX4_bodyOf_146 : decode cX4_bodyOf 146 = .ok (.aload_n 0, 1) := by decide +kernel
theorem dX4_bodyOf_147 : decode cX4_bodyOf 147 = .ok (.getfield 10, 3) := by decide +kernel
theorem dX4_bodyOf_150 : decode cX4_bodyOf 150 = .ok (.iload_n 1, 1) := by decide +kernel
theorem dX4_bodyOf_151 : decode cX4_bodyOf 151 = .ok (.invokevirtual 132, 3) := by decide +kernel
theorem dX4_bodyOf_154 : decode cX4_bodyOf 154 = .ok (.ireturn, 1) := by decide +kernel
theorem dX4_bodyOf_155 : decode cX4_bodyOf 155 = .ok (.aload_n 0, 1) := by decide +kernel
theorem dX4_bodyOf_156 : decode cX4_bodyOf 156 = .ok (.getfield 10, 3) := by decide +kernel
theorem dX4_bodyOf_159 : decode cX4_bodyOf 159 = .ok (.invokevirtual 135, 3) := by decide +kernel
theorem dX4_bodyOf_162 : decode cX4_bodyOf 162 = .ok (.iload_n 1, 1) := by decide +kernel
theorem dX4_bodyOf_163 : decode cX4_bodyOf 163 = .ok (.ishr, 1) := by decide +kernel
theorem dX4_bodyOf_164 : decode cX4_bodyOf 164 = .ok (.iconst 1, 1) := by decide +kernel
theorem dX4_bodyOf_165 : decode cX4_bodyOf 165 = .ok (.iand, 1) := by decide +kernel
theorem dX4_bodyOf_166 : decode cX4_bodyOf 166 = .ok (.ireturn, 1) := by decide +kernel
theorem dX4_bodyOf_167 : decode cX4_bodyOf 167 = .ok (.aload_n 3, 1) := by decide +kernel
theorem dX4_bodyOf_168 : decode cX4_bodyOf 168 = .ok (.iload_n 2, 1) := by decide +kernel
theorem dX4_bodyOf_169 : decode cX4_bodyOf 169 = .ok (.bipush 10, 2) := by decide +kernel
theorem dX4_bodyOf_171 : decode cX4_bodyOf 171 = .ok (.isub, 1) := by decide +kernel
theorem dX4_bodyOf_172 : decode cX4_bodyOf 172 = .ok (.invokestatic 138, 3) := by decide +kernel
theorem dX4_bodyOf_175 : decode cX4_bodyOf 175 = .ok (.ireturn, 1) := by decide +kernel
set_option maxRecDepth 20000 in
theorem ggX4_parts_X3_has : GoodIn wsX4_parts wsX3_has := goodIn_r _ [7, 8, 56, 57, 58, 59, 60, 61] (by decide +kernel) (by decide +kernel)
set_option maxRecDepth 20000 in
theorem gX4_parts_X3_has : GoodIn wsX4_parts (wsV RX4 72 RX3 yX3_has wsX3_has) := goodIn_app (goodIn_of _ (by decide +kernel)) ggX4_parts_X3_has
set_option maxRecDepth 20000 in
theorem ggX4_parts_X3_at : GoodIn wsX4_parts wsX3_at := goodIn_r _ [12, 13, 14, 56, 57, 58, 59, 60, 61] (by decide +kernel) (by decide +kernel)
set_option maxRecDepth 20000 in
theorem gX4_parts_X3_at : GoodIn wsX4_parts (wsV RX4 93 RX3 yX3_at wsX3_at) := goodIn_app (goodIn_of _ (by decide +kernel)) ggX4_parts_X3_at
set_option maxRecDepth 20000 in
theorem ggX4_parts_X0_partingSide : GoodIn wsX4_parts wsX0_partingSide := goodIn_r _ [19, 20, 21, 22, 23, 18, 24, 25, 26, 27, 28, 29, 30, 31, 32, 33, 34, 35, 36, 37, 38, 39, 40, 41, 42, 43, 44, 45, 46, 62, 63, 64] (by decide +kernel) (by decide +kernel)
set_option maxRecDepth 20000 in
theorem gX4_parts_X0_partingSide : GoodIn wsX4_parts (wsV RX4 142 RX0 yX0_partingSide wsX0_partingSide) := goodIn_app (goodIn_of _ (by decide +kernel)) ggX4_parts_X0_partingSide
set_option maxRecDepth 20000 in
theorem ggX4_parts_X0_nearestCorner : GoodIn wsX4_parts wsX0_nearestCorner := goodIn_r _ [50, 20, 30, 31, 32, 18, 33, 21, 22, 23, 24, 25, 26, 27, 28, 29, 34, 35, 36, 37, 38, 39, 40, 41, 42, 43, 44, 45, 46, 62, 63, 64] (by decide +kernel) (by decide +kernel)
set_option maxRecDepth 20000 in
theorem gX4_parts_X0_nearestCorner : GoodIn wsX4_parts (wsV RX4 145 RX0 yX0_nearestCorner wsX0_nearestCorner) := goodIn_app (goodIn_of _ (by decide +kernel)) ggX4_parts_X0_nearestCorner
set_option maxRecDepth 20000 in
theorem ggX4_parts_X0_reach : GoodIn wsX4_parts wsX0_reach := goodIn_r _ [24, 25, 20, 26, 27, 28, 29, 30, 31, 32, 18, 33, 34, 35, 36, 37, 38, 39, 40, 41, 42, 43, 44, 45, 46, 62, 63, 64] (by decide +kernel) (by decide +kernel)
set_option maxRecDepth 20000 in
theorem gX4_parts_X0_reach : GoodIn wsX4_parts (wsV RX4 149 RX0 yX0_reach wsX0_reach) := goodIn_app (goodIn_of _ (by decide +kernel)) ggX4_parts_X0_reach
theorem dX4_parts_0 : decode cX4_parts 0 = .ok (.aload_n 0, 1) := by decide +kernel
theorem dX4_parts_1 : decode cX4_parts 1 = .ok (.getfield 10, 3) := by decide +kernel
theorem dX4_parts_4 : decode cX4_parts 4 = .ok (.iload_n 1, 1) := by decide +kernel
theorem dX4_parts_5 : decode cX4_parts 5 = .ok (.invokevirtual 72, 3) := by decide +kernel
theorem dX4_parts_8 : decode cX4_parts 8 = .ok (.ifCond .eq 28, 3) := by decide +kernel
theorem dX4_parts_11 : decode cX4_parts 11 = .ok (.aload_n 0, 1) := by decide +kernel
theorem dX4_parts_12 : decode cX4_parts 12 = .ok (.getfield 10, 3) := by decide +kernel
theorem dX4_parts_15 : decode cX4_parts 15 = .ok (.iload_n 2, 1) := by decide +kernel
theorem dX4_parts_16 : decode cX4_parts 16 = .ok (.invokevirtual 72, 3) := by decide +kernel
theorem dX4_parts_19 : decode cX4_parts 19 = .ok (.ifCond .eq 17, 3) := by decide +kernel
theorem dX4_parts_22 : decode cX4_parts 22 = .ok (.iload_n 1, 1) := by decide +kernel
theorem dX4_parts_23 : decode cX4_parts 23 = .ok (.iload_n 2, 1) := by decide +kernel
theorem dX4_parts_24 : decode cX4_parts 24 = .ok (.if_icmp .eq 12, 3) := by decide +kernel
theorem dX4_parts_27 : decode cX4_parts 27 = .ok (.iload_n 3, 1) := by decide +kernel
theorem dX4_parts_28 : decode cX4_parts 28 = .ok (.ifCond .lt 8, 3) := by decide +kernel
theorem dX4_parts_31 : decode cX4_parts 31 = .ok (.iload_n 3, 1) := by decide +kernel
theorem dX4_parts_32 : decode cX4_parts 32 = .ok (.iconst 2, 1) := by decide +kernel
theorem dX4_parts_33 : decode cX4_parts 33 = .ok (.if_icmp .le 6, 3) := by decide +kernel
theorem dX4_parts_36 : decode cX4_parts 36 = .ok (.ldc 37, 2) := by decide +kernel
theorem dX4_parts_38 : decode cX4_parts 38 = .ok (.ireturn, 1) := by decide +kernel
theorem dX4_parts_39 : decode cX4_parts 39 = .ok (.aload_n 0, 1) := by decide +kernel
theorem dX4_parts_40 : decode cX4_parts 40 = .ok (.getfield 10, 3) := by decide +kernel
theorem dX4_parts_43 : decode cX4_parts 43 = .ok (.iload_n 1, 1) := by decide +kernel
theorem dX4_parts_44 : decode cX4_parts 44 = .ok (.invokevirtual 93, 3) := by decide +kernel
theorem dX4_parts_47 : decode cX4_parts 47 = .ok (.astore 4, 2) := by decide +kernel
theorem dX4_parts_49 : decode cX4_parts 49 = .ok (.aload_n 0, 1) := by decide +kernel
theorem dX4_parts_50 : decode cX4_parts 50 = .ok (.getfield 10, 3) := by decide +kernel
theorem dX4_parts_53 : decode cX4_parts 53 = .ok (.iload_n 2, 1) := by decide +kernel
theorem dX4_parts_54 : decode cX4_parts 54 = .ok (.invokevirtual 93, 3) := by decide +kernel
theorem dX4_parts_57 : decode cX4_parts 57 = .ok (.astore 5, 2) := by decide +kernel
theorem dX4_parts_59 : decode cX4_parts 59 = .ok (.iconst 0, 1) := by decide +kernel
theorem dX4_parts_60 : decode cX4_parts 60 = .ok (.istore 6, 2) := by decide +kernel
theorem dX4_parts_62 : decode cX4_parts 62 = .ok (.aload 4, 2) := by decide +kernel
theorem dX4_parts_64 : decode cX4_parts 64 = .ok (.aload 5, 2) := by decide +kernel
theorem dX4_parts_66 : decode cX4_parts 66 = .ok (.invokevirtual 142, 3) := by decide +kernel
theorem dX4_parts_69 : decode cX4_parts 69 = .ok (.istore 7, 2) := by decide +kernel
theorem dX4_parts_71 : decode cX4_parts 71 = .ok (.iload 7, 2) := by decide +kernel
theorem dX4_parts_73 : decode cX4_parts 73 = .ok (.ifCond .ge 36, 3) := by decide +kernel
theorem dX4_parts_76 : decode cX4_parts 76 = .ok (.aload_n 0, 1) := by decide +kernel
theorem dX4_parts_77 : decode cX4_parts 77 = .ok (.getfield 10, 3) := by decide +kernel
theorem dX4_parts_80 : decode cX4_parts 80 = .ok (.iload_n 2, 1) := by decide +kernel
theorem dX4_parts_81 : decode cX4_parts 81 = .ok (.invokevirtual 93, 3) := by decide +kernel
theorem dX4_parts_84 : decode cX4_parts 84 = .ok (.astore 4, 2) := by decide +kernel
theorem dX4_parts_86 : decode cX4_parts 86 = .ok (.aload_n 0, 1) := by decide +kernel
theorem dX4_parts_87 : decode cX4_parts 87 = .ok (.getfield 10, 3) := by decide +kernel
theorem dX4_parts_90 : decode cX4_parts 90 = .ok (.iload_n 1, 1) := by decide +kernel
theorem dX4_parts_91 : decode cX4_parts 91 = .ok (.invokevirtual 93, 3) := by decide +kernel
theorem dX4_parts_94 : decode cX4_parts 94 = .ok (.astore 5, 2) := by decide +kernel
theorem dX4_parts_96 : decode cX4_parts 96 = .ok (.bipush 10, 2) := by decide +kernel
theorem dX4_parts_98 : decode cX4_parts 98 = .ok (.istore 6, 2) := by decide +kernel
theorem dX4_parts_100 : decode cX4_parts 100 = .ok (.aload 4, 2) := by decide +kernel
theorem dX4_parts_102 : decode cX4_parts 102 = .ok (.aload 5, 2) := by decide +kernel
theorem dX4_parts_104 : decode cX4_parts 104 = .ok (.invokevirtual 142, 3) := by decide +kernel
theorem dX4_parts_107 : decode cX4_parts 107 = .ok (.istore 7, 2) := by decide +kernel
theorem dX4_parts_109 : decode cX4_parts 109 = .ok (.iload_n 3, 1) := by decide +kernel
theorem dX4_parts_110 : decode cX4_parts 110 = .ok (.ifCond .ne 9, 3) := by decide +kernel
theorem dX4_parts_113 : decode cX4_parts 113 = .ok (.iload 7, 2) := by decide +kernel
theorem dX4_parts_115 : decode cX4_parts 115 = .ok (.iload 6, 2) := by decide +kernel
theorem dX4_parts_117 : decode cX4_parts 117 = .ok (.iadd, 1) := by decide +kernel
theorem dX4_parts_118 : decode cX4_parts 118 = .ok (.ireturn, 1) := by decide +kernel
theorem dX4_parts_119 : decode cX4_parts 119 = .ok (.iload_n 3, 1) := by decide +kernel
theorem dX4_parts_120 : decode cX4_parts 120 = .ok (.iconst 1, 1) := by decide +kernel
theorem dX4_parts_121 : decode cX4_parts 121 = .ok (.if_icmp .ne 15, 3) := by decide +kernel
theorem dX4_parts_124 : decode cX4_parts 124 = .ok (.aload 4, 2) := by decide +kernel
theorem dX4_parts_126 : decode cX4_parts 126 = .ok (.iload 7, 2) := by decide +kernel
theorem dX4_parts_128 : decode cX4_parts 128 = .ok (.aload 5, 2) := by decide +kernel
theorem dX4_parts_130 : decode cX4_parts 130 = .ok (.invokevirtual 145, 3) := by decide +kernel
theorem dX4_parts_133 : decode cX4_parts 133 = .ok (.goto 13, 3) := by decide +kernel
theorem dX4_parts_136 : decode cX4_parts 136 = .ok (.aload 4, 2) := by decide +kernel
theorem dX4_parts_138 : decode cX4_parts 138 = .ok (.iload 7, 2) := by decide +kernel
theorem dX4_parts_140 : decode cX4_parts 140 = .ok (.aload 5, 2) := by decide +kernel
theorem dX4_parts_142 : decode cX4_parts 142 = .ok (.invokevirtual 149, 3) := by decide +kernel
theorem dX4_parts_145 : decode cX4_parts 145 = .ok (.ineg, 1) := by decide +kernel
theorem dX4_parts_146 : decode cX4_parts 146 = .ok (.ireturn, 1) := by decide +kernel
set_option maxRecDepth 20000 in
theorem ggX4_way_X3_has : GoodIn wsX4_way wsX3_has := goodIn_r _ [9, 10, 114, 115, 116, 117, 118, 119] (by decide +kernel) (by decide +kernel)
set_option maxRecDepth 20000 in
theorem gX4_way_X3_has : GoodIn wsX4_way (wsV RX4 72 RX3 yX3_has wsX3_has) := goodIn_app (goodIn_of _ (by decide +kernel)) ggX4_way_X3_has
set_option maxRecDepth 20000 in
theorem ggX4_way_X4_isDirection : GoodIn wsX4_way wsX4_isDirection := goodIn_r _ [14] (by decide +kernel) (by decide +kernel)
set_option maxRecDepth 20000 in
theorem gX4_way_X4_isDirection : GoodIn wsX4_way (va_wsS RX4 79 yX4_isDirection wsX4_isDirection) := goodIn_app (goodIn_of _ (by decide +kernel)) ggX4_way_X4_isDirection
set_option maxRecDepth 20000 in
theorem ggX4_way_X3_freeSteps : GoodIn wsX4_way wsX3_freeSteps := goodIn_r _ [18, 19, 20, 21, 22, 23, 24, 8, 25, 26, 27, 28, 29, 30, 31, 32, 33, 34, 35, 36, 37, 38, 39, 40, 41, 42, 43, 44, 45, 46, 47, 48, 13, 49, 50, 51, 52, 53, 54, 55, 56, 57, 58, 59, 60, 61, 62, 63, 64, 65, 66, 67, 68, 69, 70, 71, 72, 73, 74, 75, 76, 77, 78, 79, 80, 81, 82, 83, 84, 85, 86, 87, 88, 10, 89, 90, 91, 92, 93, 94, 95, 96, 97, 98, 99, 100, 101, 102, 103, 114, 115, 116, 117, 118, 119, 120, 121, 122] (by decide +kernel) (by decide +kernel)
set_option maxRecDepth 20000 in
theorem gX4_way_X3_freeSteps : GoodIn wsX4_way (wsV RX4 82 RX3 yX3_freeSteps wsX3_freeSteps) := goodIn_app (goodIn_of _ (by decide +kernel)) ggX4_way_X3_freeSteps
set_option maxRecDepth 20000 in
theorem ggX4_way_X3_shifted : GoodIn wsX4_way wsX3_shifted := goodIn_r _ [107, 19, 22, 23, 24, 8, 25, 26, 27, 28, 29, 30, 31, 32, 33, 34, 35, 36, 37, 38, 39, 40, 41, 42, 43, 44, 45, 46, 47, 48, 13, 49, 50, 51, 52, 53, 54, 55, 56, 57, 114, 115, 116, 117, 118, 119, 120, 121, 122] (by decide +kernel) (by decide +kernel)
set_option maxRecDepth 20000 in
theorem gX4_way_X3_shifted : GoodIn wsX4_way (wsV RX4 152 RX3 yX3_shifted wsX3_shifted) := goodIn_app (goodIn_of _ (by decide +kernel)) ggX4_way_X3_shifted
set_option maxRecDepth 20000 in
theorem ggX4_way_X3_overlapped : GoodIn wsX4_way wsX3_overlapped := goodIn_r _ [88, 10, 22, 23, 24, 8, 25, 26, 27, 89, 90, 91, 31, 92, 33, 66, 67, 68, 69, 93, 94, 95, 96, 97, 74, 75, 76, 98, 99, 100, 101, 34, 35, 36, 37, 38, 39, 40, 41, 42, 43, 102, 13, 103, 114, 115, 116, 117, 118, 119, 120, 121, 122] (by decide +kernel) (by decide +kernel)
set_option maxRecDepth 20000 in
theorem gX4_way_X3_overlapped : GoodIn wsX4_way (wsV RX4 156 RX3 yX3_overlapped wsX3_overlapped) := goodIn_app (goodIn_of _ (by decide +kernel)) ggX4_way_X3_overlapped
set_option maxRecDepth 20000 in
theorem ggX4_way_X0_wallsBeyond : GoodIn wsX4_way wsX0_wallsBeyond := goodIn_r _ [61, 62, 63, 64, 31, 65, 33, 66, 67, 68, 69, 34, 35, 36, 37, 38, 70, 71, 72, 73, 74, 75, 76, 77, 78, 79, 80, 39, 40, 41, 42, 43, 81, 82, 83, 84, 120, 121, 122] (by decide +kernel) (by decide +kernel)
set_option maxRecDepth 20000 in
theorem gX4_way_X0_wallsBeyond : GoodIn wsX4_way (wsV RX4 159 RX0 yX0_wallsBeyond wsX0_wallsBeyond) := goodIn_app (goodIn_of _ (by decide +kernel)) ggX4_way_X0_wallsBeyond
theorem dX4_way_0 : decode cX4_way 0 = .ok (.aload_n 0, 1) := by decide +kernel
theorem dX4_way_1 : decode cX4_way 1 = .ok (.getfield 10, 3) := by decide +kernel
theorem dX4_way_4 : decode cX4_way 4 = .ok (.iload_n 1, 1) := by decide +kernel
theorem dX4_way_5 : decode cX4_way 5 = .ok (.invokevirtual 72, 3) := by decide +kernel
theorem dX4_way_8 : decode cX4_way 8 = .ok (.ifCond .eq 19, 3) := by decide +kernel
theorem dX4_way_11 : decode cX4_way 11 = .ok (.iload_n 2, 1) := by decide +kernel
theorem dX4_way_12 : decode cX4_way 12 = .ok (.invokestatic 79, 3) := by decide +kernel
theorem dX4_way_15 : decode cX4_way 15 = .ok (.ifCond .eq 12, 3) := by decide +kernel
theorem dX4_way_18 : decode cX4_way 18 = .ok (.iload_n 3, 1) := by decide +kernel
theorem dX4_way_19 : decode cX4_way 19 = .ok (.ifCond .lt 8, 3) := by decide +kernel
theorem dX4_way_22 : decode cX4_way 22 = .ok (.iload_n 3, 1) := by decide +kernel
theorem dX4_way_23 : decode cX4_way 23 = .ok (.iconst 2, 1) := by decide +kernel
theorem dX4_way_24 : decode cX4_way 24 = .ok (.if_icmp .le 6, 3) := by decide +kernel
theorem dX4_way_27 : decode cX4_way 27 = .ok (.ldc 37, 2) := by decide +kernel
theorem dX4_way_29 : decode cX4_way 29 = .ok (.ireturn, 1) := by decide +kernel
theorem dX4_way_30 : decode cX4_way 30 = .ok (.aload_n 0, 1) := by decide +kernel
theorem dX4_way_31 : decode cX4_way 31 = .ok (.getfield 10, 3) := by decide +kernel
theorem dX4_way_34 : decode cX4_way 34 = .ok (.iload_n 1, 1) := by decide +kernel
theorem dX4_way_35 : decode cX4_way 35 = .ok (.iload_n 2, 1) := by decide +kernel
theorem dX4_way_36 : decode cX4_way 36 = .ok (.bipush 60, 2) := by decide +kernel
theorem dX4_way_38 : decode cX4_way 38 = .ok (.invokevirtual 82, 3) := by decide +kernel
theorem dX4_way_41 : decode cX4_way 41 = .ok (.istore 4, 2) := by decide +kernel
theorem dX4_way_43 : decode cX4_way 43 = .ok (.iload_n 3, 1) := by decide +kernel
theorem dX4_way_44 : decode cX4_way 44 = .ok (.ifCond .ne 6, 3) := by decide +kernel
theorem dX4_way_47 : decode cX4_way 47 = .ok (.iload 4, 2) := by decide +kernel
theorem dX4_way_49 : decode cX4_way 49 = .ok (.ireturn, 1) := by decide +kernel
theorem dX4_way_50 : decode cX4_way 50 = .ok (.aload_n 0, 1) := by decide +kernel
theorem dX4_way_51 : decode cX4_way 51 = .ok (.getfield 10, 3) := by decide +kernel
theorem dX4_way_54 : decode cX4_way 54 = .ok (.iload_n 1, 1) := by decide +kernel
theorem dX4_way_55 : decode cX4_way 55 = .ok (.iload_n 2, 1) := by decide +kernel
theorem dX4_way_56 : decode cX4_way 56 = .ok (.iload 4, 2) := by decide +kernel
theorem dX4_way_58 : decode cX4_way 58 = .ok (.iconst 1, 1) := by decide +kernel
theorem dX4_way_59 : decode cX4_way 59 = .ok (.iadd, 1) := by decide +kernel
theorem dX4_way_60 : decode cX4_way 60 = .ok (.invokevirtual 152, 3) := by decide +kernel
theorem dX4_way_63 : decode cX4_way 63 = .ok (.astore 5, 2) := by decide +kernel
theorem dX4_way_65 : decode cX4_way 65 = .ok (.iload_n 3, 1) := by decide +kernel
theorem dX4_way_66 : decode cX4_way 66 = .ok (.iconst 1, 1) := by decide +kernel
theorem dX4_way_67 : decode cX4_way 67 = .ok (.if_icmp .ne 14, 3) := by decide +kernel
theorem dX4_way_70 : decode cX4_way 70 = .ok (.aload_n 0, 1) := by decide +kernel
theorem dX4_way_71 : decode cX4_way 71 = .ok (.getfield 10, 3) := by decide +kernel
theorem dX4_way_74 : decode cX4_way 74 = .ok (.aload 5, 2) := by decide +kernel
theorem dX4_way_76 : decode cX4_way 76 = .ok (.iload_n 1, 1) := by decide +kernel
theorem dX4_way_77 : decode cX4_way 77 = .ok (.invokevirtual 156, 3) := by decide +kernel
theorem dX4_way_80 : decode cX4_way 80 = .ok (.ireturn, 1) := by decide +kernel
theorem dX4_way_81 : decode cX4_way 81 = .ok (.aload 5, 2) := by decide +kernel
theorem dX4_way_83 : decode cX4_way 83 = .ok (.aload_n 0, 1) := by decide +kernel
theorem dX4_way_84 : decode cX4_way 84 = .ok (.getfield 10, 3) := by decide +kernel
theorem dX4_way_87 : decode cX4_way 87 = .ok (.getfield 47, 3) := by decide +kernel
theorem dX4_way_90 : decode cX4_way 90 = .ok (.aload_n 0, 1) := by decide +kernel
theorem dX4_way_91 : decode cX4_way 91 = .ok (.getfield 10, 3) := by decide +kernel
theorem dX4_way_94 : decode cX4_way 94 = .ok (.getfield 51, 3) := by decide +kernel
theorem dX4_way_97 : decode cX4_way 97 = .ok (.invokevirtual 159, 3) := by decide +kernel
theorem dX4_way_100 : decode cX4_way 100 = .ok (.ireturn, 1) := by decide +kernel
set_option maxRecDepth 20000 in
theorem ggX4_bodies_X3_jammed : GoodIn wsX4_bodies wsX3_jammed := goodIn_r _ [7, 8, 9, 10, 11, 6, 12, 13, 14, 15, 16, 17, 18, 19, 20, 21, 22, 23, 24, 25, 26, 27, 28, 29, 30, 31, 32, 33, 34, 35, 36, 37, 38, 39, 40, 41, 42, 43, 44, 45, 46, 47, 48, 49, 50, 51, 52, 53, 54, 55, 56, 57, 58, 59, 60, 61, 62, 63, 64, 65, 66, 67, 68, 69, 70, 71, 72, 73, 74, 75, 76, 77, 78, 79, 80, 81, 82, 83, 84, 85, 86, 87, 88, 89, 90, 91, 92, 93, 94, 95, 96, 97, 98, 126, 127, 128, 129, 130, 131, 132, 133, 134] (by decide +kernel) (by decide +kernel)
set_option maxRecDepth 20000 in
theorem gX4_bodies_X3_jammed : GoodIn wsX4_bodies (wsV RX4 135 RX3 yX3_jammed wsX3_jammed) := goodIn_app (goodIn_of _ (by decide +kernel)) ggX4_bodies_X3_jammed
set_option maxRecDepth 20000 in
theorem ggX4_bodies_X3_touchingNone : GoodIn wsX4_bodies wsX3_touchingNone := goodIn_r _ [102, 8, 103, 104, 105, 6, 106, 107, 62, 63, 64, 16, 17, 18, 19, 20, 21, 84, 85, 86, 25, 87, 27, 61, 88, 89, 90, 91, 92, 69, 70, 71, 93, 94, 95, 96, 28, 29, 30, 31, 32, 33, 34, 35, 36, 37, 97, 43, 98, 126, 127, 128, 129, 130, 131, 132, 133, 134] (by decide +kernel) (by decide +kernel)
set_option maxRecDepth 20000 in
theorem gX4_bodies_X3_touchingNone : GoodIn wsX4_bodies (wsV RX4 162 RX3 yX3_touchingNone wsX3_touchingNone) := goodIn_app (goodIn_of _ (by decide +kernel)) ggX4_bodies_X3_touchingNone
set_option maxRecDepth 20000 in
theorem ggX4_bodies_X3_touchingWalls : GoodIn wsX4_bodies wsX3_touchingWalls := goodIn_r _ [111, 8, 14, 15, 16, 17, 18, 6, 19, 20, 21, 112, 113, 114, 25, 115, 57, 58, 59, 60, 27, 61, 62, 63, 64, 28, 29, 30, 31, 32, 65, 66, 67, 68, 69, 70, 71, 72, 73, 74, 75, 33, 34, 35, 36, 37, 76, 77, 78, 79, 126, 127, 128, 129, 130, 131, 132, 133, 134] (by decide +kernel) (by decide +kernel)
set_option maxRecDepth 20000 in
theorem gX4_bodies_X3_touchingWalls : GoodIn wsX4_bodies (wsV RX4 165 RX3 yX3_touchingWalls wsX3_touchingWalls) := goodIn_app (goodIn_of _ (by decide +kernel)) ggX4_bodies_X3_touchingWalls
set_option maxRecDepth 20000 in
theorem ggX4_bodies_X3_spread : GoodIn wsX4_bodies wsX3_spread := goodIn_r _ [119, 120, 43, 121, 103, 104, 105, 6, 106, 8, 107, 62, 63, 64, 16, 17, 18, 19, 20, 21, 84, 85, 86, 25, 87, 27, 61, 88, 89, 90, 91, 92, 69, 70, 71, 93, 94, 95, 96, 28, 29, 30, 31, 32, 33, 34, 35, 36, 37, 97, 98, 126, 127, 128, 129, 130, 131, 132, 133, 134] (by decide +kernel) (by decide +kernel)
set_option maxRecDepth 20000 in
theorem gX4_bodies_X3_spread : GoodIn wsX4_bodies (wsV RX4 168 RX3 yX3_spread wsX3_spread) := goodIn_app (goodIn_of _ (by decide +kernel)) ggX4_bodies_X3_spread
theorem dX4_bodies_0 : decode cX4_bodies 0 = .ok (.iload_n 1, 1) := by decide +kernel
theorem dX4_bodies_1 : decode cX4_bodies 1 = .ok (.tableswitch 73 0 3 #[31, 39, 47, 57], 31) := by decide +kernel
theorem dX4_bodies_32 : decode cX4_bodies 32 = .ok (.aload_n 0, 1) := by decide +kernel
theorem dX4_bodies_33 : decode cX4_bodies 33 = .ok (.getfield 10, 3) := by decide +kernel
theorem dX4_bodies_36 : decode cX4_bodies 36 = .ok (.invokevirtual 135, 3) := by decide +kernel
theorem dX4_bodies_39 : decode cX4_bodies 39 = .ok (.ireturn, 1) := by decide +kernel
theorem dX4_bodies_40 : decode cX4_bodies 40 = .ok (.aload_n 0, 1) := by decide +kernel
theorem dX4_bodies_41 : decode cX4_bodies 41 = .ok (.getfield 10, 3) := by decide +kernel
theorem dX4_bodies_44 : decode cX4_bodies 44 = .ok (.invokevirtual 162, 3) := by decide +kernel
theorem dX4_bodies_47 : decode cX4_bodies 47 = .ok (.ireturn, 1) := by decide +kernel
theorem dX4_bodies_48 : decode cX4_bodies 48 = .ok (.aload_n 0, 1) := by decide +kernel
theorem dX4_bodies_49 : decode cX4_bodies 49 = .ok (.getfield 10, 3) := by decide +kernel
theorem dX4_bodies_52 : decode cX4_bodies 52 = .ok (.bipush 15, 2) := by decide +kernel
theorem dX4_bodies_54 : decode cX4_bodies 54 = .ok (.invokevirtual 165, 3) := by decide +kernel
theorem dX4_bodies_57 : decode cX4_bodies 57 = .ok (.ireturn, 1) := by decide +kernel
theorem dX4_bodies_58 : decode cX4_bodies 58 = .ok (.aload_n 0, 1) := by decide +kernel
theorem dX4_bodies_59 : decode cX4_bodies 59 = .ok (.getfield 10, 3) := by decide +kernel
theorem dX4_bodies_62 : decode cX4_bodies 62 = .ok (.aload_n 0, 1) := by decide +kernel
theorem dX4_bodies_63 : decode cX4_bodies 63 = .ok (.getfield 10, 3) := by decide +kernel
theorem dX4_bodies_66 : decode cX4_bodies 66 = .ok (.iconst 4, 1) := by decide +kernel
theorem dX4_bodies_67 : decode cX4_bodies 67 = .ok (.invokevirtual 165, 3) := by decide +kernel
theorem dX4_bodies_70 : decode cX4_bodies 70 = .ok (.invokevirtual 168, 3) := by decide +kernel
theorem dX4_bodies_73 : decode cX4_bodies 73 = .ok (.ireturn, 1) := by decide +kernel
theorem dX4_bodies_74 : decode cX4_bodies 74 = .ok (.ldc 37, 2) := by decide +kernel
theorem dX4_bodies_76 : decode cX4_bodies 76 = .ok (.ireturn, 1) := by decide +kernel
set_option maxRecDepth 20000 in
theorem ggX4_group_X3_spread : GoodIn wsX4_group wsX3_spread := goodIn_r _ [9, 10, 11, 12, 13, 14, 15, 8, 16, 17, 18, 19, 20, 21, 22, 23, 24, 25, 26, 27, 28, 29, 30, 31, 32, 33, 34, 35, 36, 37, 38, 39, 40, 41, 42, 43, 44, 45, 46, 47, 48, 49, 50, 51, 52, 53, 54, 55, 56, 57, 58, 63, 64, 65, 66, 67, 68, 69, 70, 71] (by decide +kernel) (by decide +kernel)
set_option maxRecDepth 20000 in
theorem gX4_group_X3_spread : GoodIn wsX4_group (wsV RX4 168 RX3 yX3_spread wsX3_spread) := goodIn_app (goodIn_of _ (by decide +kernel)) ggX4_group_X3_spread
theorem dX4_group_0 : decode cX4_group 0 = .ok (.iload_n 1, 1) := by decide +kernel
theorem dX4_group_1 : decode cX4_group 1 = .ok (.iconst (-1), 1) := by decide +kernel
theorem dX4_group_2 : decode cX4_group 2 = .ok (.if_icmp .ge 6, 3) := by decide +kernel
theorem dX4_group_5 : decode cX4_group 5 = .ok (.ldc 37, 2) := by decide +kernel
theorem dX4_group_7 : decode cX4_group 7 = .ok (.ireturn, 1) := by decide +kernel
theorem dX4_group_8 : decode cX4_group 8 = .ok (.iconst 0, 1) := by decide +kernel
theorem dX4_group_9 : decode cX4_group 9 = .ok (.istore_n 2, 1) := by decide +kernel
theorem dX4_group_10 : decode cX4_group 10 = .ok (.iconst 0, 1) := by decide +kernel
theorem dX4_group_11 : decode cX4_group 11 = .ok (.istore_n 3, 1) := by decide +kernel
theorem dX4_group_12 : decode cX4_group 12 = .ok (.iconst 0, 1) := by decide +kernel
theorem dX4_group_13 : decode cX4_group 13 = .ok (.istore 4, 2) := by decide +kernel
theorem dX4_group_15 : decode cX4_group 15 = .ok (.iload 4, 2) := by decide +kernel
theorem dX4_group_17 : decode cX4_group 17 = .ok (.aload_n 0, 1) := by decide +kernel
theorem dX4_group_18 : decode cX4_group 18 = .ok (.getfield 10, 3) := by decide +kernel
theorem dX4_group_21 : decode cX4_group 21 = .ok (.getfield 60, 3) := by decide +kernel
theorem dX4_group_24 : decode cX4_group 24 = .ok (.if_icmp .ge 47, 3) := by decide +kernel
theorem dX4_group_27 : decode cX4_group 27 = .ok (.iload_n 2, 1) := by decide +kernel
theorem dX4_group_28 : decode cX4_group 28 = .ok (.iconst 1, 1) := by decide +kernel
theorem dX4_group_29 : decode cX4_group 29 = .ok (.iload 4, 2) := by decide +kernel
theorem dX4_group_31 : decode cX4_group 31 = .ok (.ishl, 1) := by decide +kernel
theorem dX4_group_32 : decode cX4_group 32 = .ok (.iand, 1) := by decide +kernel
theorem dX4_group_33 : decode cX4_group 33 = .ok (.ifCond .ne 32, 3) := by decide +kernel
theorem dX4_group_36 : decode cX4_group 36 = .ok (.aload_n 0, 1) := by decide +kernel
theorem dX4_group_37 : decode cX4_group 37 = .ok (.getfield 10, 3) := by decide +kernel
theorem dX4_group_40 : decode cX4_group 40 = .ok (.iconst 1, 1) := by decide +kernel
theorem dX4_group_41 : decode cX4_group 41 = .ok (.iload 4, 2) := by decide +kernel
theorem dX4_group_43 : decode cX4_group 43 = .ok (.ishl, 1) := by decide +kernel
theorem dX4_group_44 : decode cX4_group 44 = .ok (.invokevirtual 168, 3) := by decide +kernel
theorem dX4_group_47 : decode cX4_group 47 = .ok (.istore 5, 2) := by decide +kernel
theorem dX4_group_49 : decode cX4_group 49 = .ok (.iload_n 3, 1) := by decide +kernel
theorem dX4_group_50 : decode cX4_group 50 = .ok (.iload_n 1, 1) := by decide +kernel
theorem dX4_group_51 : decode cX4_group 51 = .ok (.if_icmp .ne 6, 3) := by decide +kernel
theorem dX4_group_54 : decode cX4_group 54 = .ok (.iload 5, 2) := by decide +kernel
theorem dX4_group_56 : decode cX4_group 56 = .ok (.ireturn, 1) := by decide +kernel
theorem dX4_group_57 : decode cX4_group 57 = .ok (.iload_n 2, 1) := by decide +kernel
theorem dX4_group_58 : decode cX4_group 58 = .ok (.iload 5, 2) := by decide +kernel
theorem dX4_group_60 : decode cX4_group 60 = .ok (.ior, 1) := by decide +kernel
theorem dX4_group_61 : decode cX4_group 61 = .ok (.istore_n 2, 1) := by decide +kernel
theorem dX4_group_62 : decode cX4_group 62 = .ok (.iinc 3 1, 3) := by decide +kernel
theorem dX4_group_65 : decode cX4_group 65 = .ok (.iinc 4 1, 3) := by decide +kernel
theorem dX4_group_68 : decode cX4_group 68 = .ok (.goto (-53), 3) := by decide +kernel
theorem dX4_group_71 : decode cX4_group 71 = .ok (.iload_n 1, 1) := by decide +kernel
theorem dX4_group_72 : decode cX4_group 72 = .ok (.iconst (-1), 1) := by decide +kernel
theorem dX4_group_73 : decode cX4_group 73 = .ok (.if_icmp .ne 7, 3) := by decide +kernel
theorem dX4_group_76 : decode cX4_group 76 = .ok (.iload_n 3, 1) := by decide +kernel
theorem dX4_group_77 : decode cX4_group 77 = .ok (.goto 5, 3) := by decide +kernel
theorem dX4_group_80 : decode cX4_group 80 = .ok (.ldc 171, 2) := by decide +kernel
theorem dX4_group_82 : decode cX4_group 82 = .ok (.ireturn, 1) := by decide +kernel
set_option maxRecDepth 20000 in
theorem ggX4_density_X3_doubleArea : GoodIn wsX4_density wsX3_doubleArea := goodIn_r _ [8, 9, 10, 11, 12, 7, 13, 14, 15, 16, 17, 18, 19, 20, 21, 22, 23, 24, 25, 26, 27, 28, 29, 30, 31, 32, 33, 34, 35, 45, 46, 47, 48, 49, 50, 51, 52, 53] (by decide +kernel) (by decide +kernel)
set_option maxRecDepth 20000 in
theorem gX4_density_X3_doubleArea : GoodIn wsX4_density (wsV RX4 172 RX3 yX3_doubleArea wsX3_doubleArea) := goodIn_app (goodIn_of _ (by decide +kernel)) ggX4_density_X3_doubleArea
set_option maxRecDepth 20000 in
theorem ggX4_density_X4_bitsOfShare : GoodIn wsX4_density wsX4_bitsOfShare := goodIn_r _ [39, 40] (by decide +kernel) (by decide +kernel)
set_option maxRecDepth 20000 in
theorem gX4_density_X4_bitsOfShare : GoodIn wsX4_density (va_wsS RX4 173 yX4_bitsOfShare wsX4_bitsOfShare) := goodIn_app (goodIn_of _ (by decide +kernel)) ggX4_density_X4_bitsOfShare
theorem dX4_density_0 : decode cX4_density 0 = .ok (.aload_n 0, 1) := by decide +kernel
theorem dX4_density_1 : decode cX4_density 1 = .ok (.getfield 10, 3) := by decide +kernel
theorem dX4_density_4 : decode cX4_density 4 = .ok (.invokevirtual 172, 3) := by decide +kernel
theorem dX4_density_7 : decode cX4_density 7 = .ok (.i2f, 1) := by decide +kernel
theorem dX4_density_8 : decode cX4_density 8 = .ok (.fstore_n 1, 1) := by decide +kernel
theorem dX4_density_9 : decode cX4_density 9 = .ok (.iconst 2, 1) := by decide +kernel
theorem dX4_density_10 : decode cX4_density 10 = .ok (.aload_n 0, 1) := by decide +kernel
theorem dX4_density_11 : decode cX4_density 11 = .ok (.getfield 10, 3) := by decide +kernel
theorem dX4_density_14 : decode cX4_density 14 = .ok (.getfield 47, 3) := by decide +kernel
theorem dX4_density_17 : decode cX4_density 17 = .ok (.imul, 1) := by decide +kernel
theorem dX4_density_18 : decode cX4_density 18 = .ok (.aload_n 0, 1) := by decide +kernel
theorem dX4_density_19 : decode cX4_density 19 = .ok (.getfield 10, 3) := by decide +kernel
theorem dX4_density_22 : decode cX4_density 22 = .ok (.getfield 51, 3) := by decide +kernel
theorem dX4_density_25 : decode cX4_density 25 = .ok (.imul, 1) := by decide +kernel
theorem dX4_density_26 : decode cX4_density 26 = .ok (.i2f, 1) := by decide +kernel
theorem dX4_density_27 : decode cX4_density 27 = .ok (.fstore_n 2, 1) := by decide +kernel
theorem dX4_density_28 : decode cX4_density 28 = .ok (.fload_n 2, 1) := by decide +kernel
theorem dX4_density_29 : decode cX4_density 29 = .ok (.fconst 0, 1) := by decide +kernel
theorem dX4_density_30 : decode cX4_density 30 = .ok (.fcmp .l, 1) := by decide +kernel
theorem dX4_density_31 : decode cX4_density 31 = .ok (.ifCond .le 12, 3) := by decide +kernel
theorem dX4_density_34 : decode cX4_density 34 = .ok (.fload_n 1, 1) := by decide +kernel
theorem dX4_density_35 : decode cX4_density 35 = .ok (.fload_n 2, 1) := by decide +kernel
theorem dX4_density_36 : decode cX4_density 36 = .ok (.fdiv, 1) := by decide +kernel
theorem dX4_density_37 : decode cX4_density 37 = .ok (.invokestatic 173, 3) := by decide +kernel
theorem dX4_density_40 : decode cX4_density 40 = .ok (.goto 4, 3) := by decide +kernel
theorem dX4_density_43 : decode cX4_density 43 = .ok (.iconst 0, 1) := by decide +kernel
theorem dX4_density_44 : decode cX4_density 44 = .ok (.ireturn, 1) := by decide +kernel
set_option maxRecDepth 20000 in
theorem ggX4_keystone_X4_isDirection : GoodIn wsX4_keystone wsX4_isDirection := goodIn_r _ [9] (by decide +kernel) (by decide +kernel)
set_option maxRecDepth 20000 in
theorem gX4_keystone_X4_isDirection : GoodIn wsX4_keystone (va_wsS RX4 79 yX4_isDirection wsX4_isDirection) := goodIn_app (goodIn_of _ (by decide +kernel)) ggX4_keystone_X4_isDirection
set_option maxRecDepth 20000 in
theorem ggX4_keystone_X3_copyFrom : GoodIn wsX4_keystone wsX3_copyFrom := goodIn_r _ [14, 15, 16, 17, 18, 19, 20, 13, 21, 22, 23, 24, 25, 26, 27, 28, 29, 30, 31, 32, 33, 34, 35, 36, 37, 38, 39, 40, 41, 42, 43, 121, 122, 123, 124, 125, 126, 127, 128, 129] (by decide +kernel) (by decide +kernel)
set_option maxRecDepth 20000 in
theorem gX4_keystone_X3_copyFrom : GoodIn wsX4_keystone (wsV RX4 177 RX3 yX3_copyFrom wsX3_copyFrom) := goodIn_app (goodIn_of _ (by decide +kernel)) ggX4_keystone_X3_copyFrom
set_option maxRecDepth 20000 in
theorem ggX4_keystone_X3_takeOut : GoodIn wsX4_keystone wsX3_takeOut := goodIn_r _ [47, 15, 18, 19, 20, 13, 21, 22, 23, 24, 25, 26, 27, 28, 29, 30, 31, 32, 33, 34, 35, 36, 37, 38, 39, 40, 41, 42, 43, 121, 122, 123, 124, 125, 126, 127, 128, 129] (by decide +kernel) (by decide +kernel)
set_option maxRecDepth 20000 in
theorem gX4_keystone_X3_takeOut : GoodIn wsX4_keystone (wsV RX4 75 RX3 yX3_takeOut wsX3_takeOut) := goodIn_app (goodIn_of _ (by decide +kernel)) ggX4_keystone_X3_takeOut
set_option maxRecDepth 20000 in
theorem ggX4_keystone_X3_settleAll : GoodIn wsX4_keystone wsX3_settleAll := goodIn_r _ [51, 15, 52, 53, 54, 13, 55, 56, 16, 17, 18, 19, 20, 21, 22, 23, 24, 25, 26, 27, 28, 29, 30, 31, 32, 33, 34, 35, 36, 37, 38, 39, 40, 41, 42, 43, 57, 8, 58, 59, 60, 61, 62, 63, 64, 65, 66, 67, 68, 69, 70, 71, 72, 73, 74, 75, 76, 77, 78, 79, 80, 81, 82, 83, 84, 85, 86, 87, 88, 89, 90, 91, 92, 93, 94, 95, 96, 97, 98, 99, 100, 101, 102, 103, 104, 105, 106, 107, 108, 109, 110, 111, 112, 113, 114, 115, 116, 121, 122, 123, 124, 125, 126, 127, 128, 129] (by decide +kernel) (by decide +kernel)
set_option maxRecDepth 20000 in
theorem gX4_keystone_X3_settleAll : GoodIn wsX4_keystone (wsV RX4 109 RX3 yX3_settleAll wsX3_settleAll) := goodIn_app (goodIn_of _ (by decide +kernel)) ggX4_keystone_X3_settleAll
theorem dX4_keystone_0 : decode cX4_keystone 0 = .ok (.iload_n 1, 1) := by decide +kernel
theorem dX4_keystone_1 : decode cX4_keystone 1 = .ok (.invokestatic 79, 3) := by decide +kernel
theorem dX4_keystone_4 : decode cX4_keystone 4 = .ok (.ifCond .eq 12, 3) := by decide +kernel
theorem dX4_keystone_7 : decode cX4_keystone 7 = .ok (.iload_n 2, 1) := by decide +kernel
theorem dX4_keystone_8 : decode cX4_keystone 8 = .ok (.ifCond .lt 8, 3) := by decide +kernel
theorem dX4_keystone_11 : decode cX4_keystone 11 = .ok (.iload_n 2, 1) := by decide +kernel
theorem dX4_keystone_12 : decode cX4_keystone 12 = .ok (.iconst 1, 1) := by decide +kernel
theorem dX4_keystone_13 : decode cX4_keystone 13 = .ok (.if_icmp .le 6, 3) := by decide +kernel
theorem dX4_keystone_16 : decode cX4_keystone 16 = .ok (.ldc 37, 2) := by decide +kernel
theorem dX4_keystone_18 : decode cX4_keystone 18 = .ok (.ireturn, 1) := by decide +kernel
theorem dX4_keystone_19 : decode cX4_keystone 19 = .ok (.ldc 171, 2) := by decide +kernel
theorem dX4_keystone_21 : decode cX4_keystone 21 = .ok (.istore_n 3, 1) := by decide +kernel
theorem dX4_keystone_22 : decode cX4_keystone 22 = .ok (.ldc 171, 2) := by decide +kernel
theorem dX4_keystone_24 : decode cX4_keystone 24 = .ok (.istore 4, 2) := by decide +kernel
theorem dX4_keystone_26 : decode cX4_keystone 26 = .ok (.iconst 0, 1) := by decide +kernel
theorem dX4_keystone_27 : decode cX4_keystone 27 = .ok (.istore 5, 2) := by decide +kernel
theorem dX4_keystone_29 : decode cX4_keystone 29 = .ok (.iload 5, 2) := by decide +kernel
theorem dX4_keystone_31 : decode cX4_keystone 31 = .ok (.aload_n 0, 1) := by decide +kernel
theorem dX4_keystone_32 : decode cX4_keystone 32 = .ok (.getfield 10, 3) := by decide +kernel
theorem dX4_keystone_35 : decode cX4_keystone 35 = .ok (.getfield 60, 3) := by decide +kernel
theorem dX4_keystone_38 : decode cX4_keystone 38 = .ok (.if_icmp .ge 52, 3) := by decide +kernel
theorem dX4_keystone_41 : decode cX4_keystone 41 = .ok (.aload_n 0, 1) := by decide +kernel
theorem dX4_keystone_42 : decode cX4_keystone 42 = .ok (.getfield 16, 3) := by decide +kernel
theorem dX4_keystone_45 : decode cX4_keystone 45 = .ok (.aload_n 0, 1) := by decide +kernel
theorem dX4_keystone_46 : decode cX4_keystone 46 = .ok (.getfield 10, 3) := by decide +kernel
theorem dX4_keystone_49 : decode cX4_keystone 49 = .ok (.invokevirtual 177, 3) := by decide +kernel
theorem dX4_keystone_52 : decode cX4_keystone 52 = .ok (.aload_n 0, 1) := by decide +kernel
theorem dX4_keystone_53 : decode cX4_keystone 53 = .ok (.getfield 16, 3) := by decide +kernel
theorem dX4_keystone_56 : decode cX4_keystone 56 = .ok (.iload 5, 2) := by decide +kernel
theorem dX4_keystone_58 : decode cX4_keystone 58 = .ok (.invokevirtual 75, 3) := by decide +kernel
theorem dX4_keystone_61 : decode cX4_keystone 61 = .ok (.aload_n 0, 1) := by decide +kernel
theorem dX4_keystone_62 : decode cX4_keystone 62 = .ok (.getfield 16, 3) := by decide +kernel
theorem dX4_keystone_65 : decode cX4_keystone 65 = .ok (.iload_n 1, 1) := by decide +kernel
theorem dX4_keystone_66 : decode cX4_keystone 66 = .ok (.invokevirtual 109, 3) := by decide +kernel
theorem dX4_keystone_69 : decode cX4_keystone 69 = .ok (.istore 6, 2) := by decide +kernel
theorem dX4_keystone_71 : decode cX4_keystone 71 = .ok (.iload 6, 2) := by decide +kernel
theorem dX4_keystone_73 : decode cX4_keystone 73 = .ok (.iload_n 3, 1) := by decide +kernel
theorem dX4_keystone_74 : decode cX4_keystone 74 = .ok (.if_icmp .le 10, 3) := by decide +kernel
theorem dX4_keystone_77 : decode cX4_keystone 77 = .ok (.iload 6, 2) := by decide +kernel
theorem dX4_keystone_79 : decode cX4_keystone 79 = .ok (.istore_n 3, 1) := by decide +kernel
theorem dX4_keystone_80 : decode cX4_keystone 80 = .ok (.iload 5, 2) := by decide +kernel
theorem dX4_keystone_82 : decode cX4_keystone 82 = .ok (.istore 4, 2) := by decide +kernel
theorem dX4_keystone_84 : decode cX4_keystone 84 = .ok (.iinc 5 1, 3) := by decide +kernel
theorem dX4_keystone_87 : decode cX4_keystone 87 = .ok (.goto (-58), 3) := by decide +kernel
theorem dX4_keystone_90 : decode cX4_keystone 90 = .ok (.iload_n 2, 1) := by decide +kernel
theorem dX4_keystone_91 : decode cX4_keystone 91 = .ok (.ifCond .ne 8, 3) := by decide +kernel
theorem dX4_keystone_94 : decode cX4_keystone 94 = .ok (.iload 4, 2) := by decide +kernel
theorem dX4_keystone_96 : decode cX4_keystone 96 = .ok (.goto 4, 3) := by decide +kernel
theorem dX4_keystone_99 : decode cX4_keystone 99 = .ok (.iload_n 3, 1) := by decide +kernel
theorem dX4_keystone_100 : decode cX4_keystone 100 = .ok (.ireturn, 1) := by decide +kernel
set_option maxRecDepth 20000 in
theorem ggX4_count_X3_doubleArea : GoodIn wsX4_count wsX3_doubleArea := goodIn_r _ [14, 15, 16, 17, 18, 13, 19, 20, 21, 22, 23, 24, 25, 26, 27, 28, 29, 30, 31, 32, 33, 34, 35, 36, 37, 38, 39, 40, 41, 86, 87, 88, 89, 90, 91, 103, 104, 105] (by decide +kernel) (by decide +kernel)
set_option maxRecDepth 20000 in
theorem gX4_count_X3_doubleArea : GoodIn wsX4_count (wsV RX4 172 RX3 yX3_doubleArea wsX3_doubleArea) := goodIn_app (goodIn_of _ (by decide +kernel)) ggX4_count_X3_doubleArea
set_option maxRecDepth 20000 in
theorem ggX4_count_X3_allCorners : GoodIn wsX4_count wsX3_allCorners := goodIn_r _ [45, 15, 46, 16, 17, 18, 13, 19, 20, 21, 86, 87, 88, 89, 90, 91, 103, 104, 105] (by decide +kernel) (by decide +kernel)
set_option maxRecDepth 20000 in
theorem gX4_count_X3_allCorners : GoodIn wsX4_count (wsV RX4 180 RX3 yX3_allCorners wsX3_allCorners) := goodIn_app (goodIn_of _ (by decide +kernel)) ggX4_count_X3_allCorners
set_option maxRecDepth 20000 in
theorem ggX4_count_X3_touchingPairs : GoodIn wsX4_count wsX3_touchingPairs := goodIn_r _ [50, 15, 51, 52, 53, 13, 54, 55, 56, 57, 58, 16, 17, 18, 19, 20, 21, 59, 60, 61, 25, 62, 27, 63, 64, 65, 66, 67, 68, 69, 70, 71, 28, 29, 30, 31, 32, 33, 34, 35, 36, 37, 38, 39, 40, 41, 72, 73, 74, 75, 76, 77, 78, 79, 80, 81, 86, 87, 88, 89, 90, 91, 103, 104, 105] (by decide +kernel) (by decide +kernel)
set_option maxRecDepth 20000 in
theorem gX4_count_X3_touchingPairs : GoodIn wsX4_count (wsV RX4 183 RX3 yX3_touchingPairs wsX3_touchingPairs) := goodIn_app (goodIn_of _ (by decide +kernel)) ggX4_count_X3_touchingPairs
theorem dX4_count_0 : decode cX4_count 0 = .ok (.iload_n 1, 1) := by decide +kernel
theorem dX4_count_1 : decode cX4_count 1 = .ok (.tableswitch 111 0 7 #[47, 55, 63, 71, 79, 87, 95, 103], 47) := by decide +kernel
theorem dX4_count_48 : decode cX4_count 48 = .ok (.aload_n 0, 1) := by decide +kernel
theorem dX4_count_49 : decode cX4_count 49 = .ok (.getfield 10, 3) := by decide +kernel
theorem dX4_count_52 : decode cX4_count 52 = .ok (.getfield 60, 3) := by decide +kernel
theorem dX4_count_55 : decode cX4_count 55 = .ok (.ireturn, 1) := by decide +kernel
theorem dX4_count_56 : decode cX4_count 56 = .ok (.aload_n 0, 1) := by decide +kernel
theorem dX4_count_57 : decode cX4_count 57 = .ok (.getfield 10, 3) := by decide +kernel
theorem dX4_count_60 : decode cX4_count 60 = .ok (.getfield 47, 3) := by decide +kernel
theorem dX4_count_63 : decode cX4_count 63 = .ok (.ireturn, 1) := by decide +kernel
theorem dX4_count_64 : decode cX4_count 64 = .ok (.aload_n 0, 1) := by decide +kernel
theorem dX4_count_65 : decode cX4_count 65 = .ok (.getfield 10, 3) := by decide +kernel
theorem dX4_count_68 : decode cX4_count 68 = .ok (.getfield 51, 3) := by decide +kernel
theorem dX4_count_71 : decode cX4_count 71 = .ok (.ireturn, 1) := by decide +kernel
theorem dX4_count_72 : decode cX4_count 72 = .ok (.aload_n 0, 1) := by decide +kernel
theorem dX4_count_73 : decode cX4_count 73 = .ok (.getfield 10, 3) := by decide +kernel
theorem dX4_count_76 : decode cX4_count 76 = .ok (.invokevirtual 172, 3) := by decide +kernel
theorem dX4_count_79 : decode cX4_count 79 = .ok (.ireturn, 1) := by decide +kernel
theorem dX4_count_80 : decode cX4_count 80 = .ok (.aload_n 0, 1) := by decide +kernel
theorem dX4_count_81 : decode cX4_count 81 = .ok (.getfield 10, 3) := by decide +kernel
theorem dX4_count_84 : decode cX4_count 84 = .ok (.invokevirtual 180, 3) := by decide +kernel
theorem dX4_count_87 : decode cX4_count 87 = .ok (.ireturn, 1) := by decide +kernel
theorem dX4_count_88 : decode cX4_count 88 = .ok (.aload_n 0, 1) := by decide +kernel
theorem dX4_count_89 : decode cX4_count 89 = .ok (.getfield 10, 3) := by decide +kernel
theorem dX4_count_92 : decode cX4_count 92 = .ok (.invokevirtual 183, 3) := by decide +kernel
theorem dX4_count_95 : decode cX4_count 95 = .ok (.ireturn, 1) := by decide +kernel
theorem dX4_count_96 : decode cX4_count 96 = .ok (.aload_n 0, 1) := by decide +kernel
theorem dX4_count_97 : decode cX4_count 97 = .ok (.getfield 22, 3) := by decide +kernel
theorem dX4_count_100 : decode cX4_count 100 = .ok (.getfield 186, 3) := by decide +kernel
theorem dX4_count_103 : decode cX4_count 103 = .ok (.ireturn, 1) := by decide +kernel
theorem dX4_count_104 : decode cX4_count 104 = .ok (.aload_n 0, 1) := by decide +kernel
theorem dX4_count_105 : decode cX4_count 105 = .ok (.getfield 29, 3) := by decide +kernel
theorem dX4_count_108 : decode cX4_count 108 = .ok (.getfield 187, 3) := by decide +kernel
theorem dX4_count_111 : decode cX4_count 111 = .ok (.ireturn, 1) := by decide +kernel
theorem dX4_count_112 : decode cX4_count 112 = .ok (.ldc 37, 2) := by decide +kernel
theorem dX4_count_114 : decode cX4_count 114 = .ok (.ireturn, 1) := by decide +kernel
set_option maxRecDepth 20000 in
theorem ggX4_undo_X2_restore : GoodIn wsX4_undo wsX2_restore := goodIn_r _ [9, 10, 11, 12, 13, 8, 14, 15, 16, 17, 18, 19, 20, 21, 22, 23, 24, 25, 26, 27, 28, 29, 30, 31, 32, 33, 34, 35, 36, 37, 38, 39, 40, 41, 42, 43, 44, 45, 46, 47, 48, 49, 50, 51, 56, 57, 58, 59, 60, 61, 62, 63, 64, 65, 66, 67, 68] (by decide +kernel) (by decide +kernel)
set_option maxRecDepth 20000 in
theorem gX4_undo_X2_restore : GoodIn wsX4_undo (wsV RX4 190 RX2 yX2_restore wsX2_restore) := goodIn_app (goodIn_of _ (by decide +kernel)) ggX4_undo_X2_restore
theorem dX4_undo_0 : decode cX4_undo 0 = .ok (.aload_n 0, 1) := by decide +kernel
theorem dX4_undo_1 : decode cX4_undo 1 = .ok (.getfield 22, 3) := by decide +kernel
theorem dX4_undo_4 : decode cX4_undo 4 = .ok (.getfield 186, 3) := by decide +kernel
theorem dX4_undo_7 : decode cX4_undo 7 = .ok (.ifCond .ne 6, 3) := by decide +kernel
theorem dX4_undo_10 : decode cX4_undo 10 = .ok (.ldc 42, 2) := by decide +kernel
theorem dX4_undo_12 : decode cX4_undo 12 = .ok (.ireturn, 1) := by decide +kernel
theorem dX4_undo_13 : decode cX4_undo 13 = .ok (.aload_n 0, 1) := by decide +kernel
theorem dX4_undo_14 : decode cX4_undo 14 = .ok (.getfield 22, 3) := by decide +kernel
theorem dX4_undo_17 : decode cX4_undo 17 = .ok (.aload_n 0, 1) := by decide +kernel
theorem dX4_undo_18 : decode cX4_undo 18 = .ok (.getfield 10, 3) := by decide +kernel
theorem dX4_undo_21 : decode cX4_undo 21 = .ok (.invokevirtual 190, 3) := by decide +kernel
theorem dX4_undo_24 : decode cX4_undo 24 = .ok (.aload_n 0, 1) := by decide +kernel
theorem dX4_undo_25 : decode cX4_undo 25 = .ok (.getfield 22, 3) := by decide +kernel
theorem dX4_undo_28 : decode cX4_undo 28 = .ok (.getfield 186, 3) := by decide +kernel
theorem dX4_undo_31 : decode cX4_undo 31 = .ok (.ireturn, 1) := by decide +kernel
set_option maxRecDepth 20000 in
theorem ggX4_type_X1_append : GoodIn wsX4_type wsX1_append := goodIn_r _ [9, 10, 11, 16, 17, 18, 19, 20, 21, 22] (by decide +kernel) (by decide +kernel)
set_option maxRecDepth 20000 in
theorem gX4_type_X1_append : GoodIn wsX4_type (wsV RX4 193 RX1 yX1_append wsX1_append) := goodIn_app (goodIn_of _ (by decide +kernel)) ggX4_type_X1_append
theorem dX4_type_0 : decode cX4_type 0 = .ok (.iload_n 1, 1) := by decide +kernel
theorem dX4_type_1 : decode cX4_type 1 = .ok (.bipush 32, 2) := by decide +kernel
theorem dX4_type_3 : decode cX4_type 3 = .ok (.if_icmp .lt 9, 3) := by decide +kernel
theorem dX4_type_6 : decode cX4_type 6 = .ok (.iload_n 1, 1) := by decide +kernel
theorem dX4_type_7 : decode cX4_type 7 = .ok (.bipush 126, 2) := by decide +kernel
theorem dX4_type_9 : decode cX4_type 9 = .ok (.if_icmp .le 6, 3) := by decide +kernel
theorem dX4_type_12 : decode cX4_type 12 = .ok (.ldc 37, 2) := by decide +kernel
theorem dX4_type_14 : decode cX4_type 14 = .ok (.ireturn, 1) := by decide +kernel
theorem dX4_type_15 : decode cX4_type 15 = .ok (.aload_n 0, 1) := by decide +kernel
theorem dX4_type_16 : decode cX4_type 16 = .ok (.getfield 29, 3) := by decide +kernel
theorem dX4_type_19 : decode cX4_type 19 = .ok (.getfield 187, 3) := by decide +kernel
theorem dX4_type_22 : decode cX4_type 22 = .ok (.bipush 60, 2) := by decide +kernel
theorem dX4_type_24 : decode cX4_type 24 = .ok (.if_icmp .lt 6, 3) := by decide +kernel
theorem dX4_type_27 : decode cX4_type 27 = .ok (.ldc 63, 2) := by decide +kernel
theorem dX4_type_29 : decode cX4_type 29 = .ok (.ireturn, 1) := by decide +kernel
theorem dX4_type_30 : decode cX4_type 30 = .ok (.aload_n 0, 1) := by decide +kernel
theorem dX4_type_31 : decode cX4_type 31 = .ok (.getfield 29, 3) := by decide +kernel
theorem dX4_type_34 : decode cX4_type 34 = .ok (.iload_n 1, 1) := by decide +kernel
theorem dX4_type_35 : decode cX4_type 35 = .ok (.i2c, 1) := by decide +kernel
theorem dX4_type_36 : decode cX4_type 36 = .ok (.invokevirtual 193, 3) := by decide +kernel
theorem dX4_type_39 : decode cX4_type 39 = .ok (.aload_n 0, 1) := by decide +kernel
theorem dX4_type_40 : decode cX4_type 40 = .ok (.getfield 29, 3) := by decide +kernel
theorem dX4_type_43 : decode cX4_type 43 = .ok (.getfield 187, 3) := by decide +kernel
theorem dX4_type_46 : decode cX4_type 46 = .ok (.ireturn, 1) := by decide +kernel
theorem dX4_clearText_0 : decode cX4_clearText 0 = .ok (.aload_n 0, 1) := by decide +kernel
theorem dX4_clearText_1 : decode cX4_clearText 1 = .ok (.getfield 29, 3) := by decide +kernel
theorem dX4_clearText_4 : decode cX4_clearText 4 = .ok (.getfield 187, 3) := by decide +kernel
theorem dX4_clearText_7 : decode cX4_clearText 7 = .ok (.istore_n 1, 1) := by decide +kernel
theorem dX4_clearText_8 : decode cX4_clearText 8 = .ok (.aload_n 0, 1) := by decide +kernel
theorem dX4_clearText_9 : decode cX4_clearText 9 = .ok (.getfield 29, 3) := by decide +kernel
theorem dX4_clearText_12 : decode cX4_clearText 12 = .ok (.iconst 0, 1) := by decide +kernel
theorem dX4_clearText_13 : decode cX4_clearText 13 = .ok (.putfield 187, 3) := by decide +kernel
theorem dX4_clearText_16 : decode cX4_clearText 16 = .ok (.iload_n 1, 1) := by decide +kernel
theorem dX4_clearText_17 : decode cX4_clearText 17 = .ok (.ireturn, 1) := by decide +kernel
set_option maxRecDepth 20000 in
theorem ggX4_fault_X1_examine : GoodIn wsX4_fault wsX1_examine := goodIn_r _ [12, 13, 14, 15, 16, 17, 18, 19, 11, 20, 21, 22, 23, 24, 25, 26, 27, 28, 29, 30, 31, 32, 33, 34, 35, 36, 37, 38, 39, 40, 41, 42, 43, 44, 45, 46, 47, 48, 49, 50, 51, 52, 53, 54, 55, 56, 57, 58, 59, 60, 61, 62, 63, 64, 65, 66, 67, 68, 69, 70, 71, 72, 73, 74, 75, 76, 77, 78, 79, 80, 81, 82, 83, 84, 85, 86, 87, 88, 89, 90, 91, 92, 93, 94, 95, 96, 97, 98, 99, 100, 101, 102, 103, 104, 105, 106, 107, 108, 109, 110, 111, 112, 113, 114, 115, 116, 117, 118, 119, 124, 125, 126, 127, 128, 129, 130, 131, 132, 133, 134, 135, 136, 137, 138, 139] (by decide +kernel) (by decide +kernel)
set_option maxRecDepth 20000 in
theorem gX4_fault_X1_examine : GoodIn wsX4_fault (wsV RX4 54 RX1 yX1_examine wsX1_examine) := goodIn_app (goodIn_of _ (by decide +kernel)) ggX4_fault_X1_examine
theorem dX4_fault_0 : decode cX4_fault 0 = .ok (.iload_n 1, 1) := by decide +kernel
theorem dX4_fault_1 : decode cX4_fault 1 = .ok (.ifCond .lt 8, 3) := by decide +kernel
theorem dX4_fault_4 : decode cX4_fault 4 = .ok (.iload_n 1, 1) := by decide +kernel
theorem dX4_fault_5 : decode cX4_fault 5 = .ok (.iconst 2, 1) := by decide +kernel
theorem dX4_fault_6 : decode cX4_fault 6 = .ok (.if_icmp .le 6, 3) := by decide +kernel
theorem dX4_fault_9 : decode cX4_fault 9 = .ok (.ldc 37, 2) := by decide +kernel
theorem dX4_fault_11 : decode cX4_fault 11 = .ok (.ireturn, 1) := by decide +kernel
theorem dX4_fault_12 : decode cX4_fault 12 = .ok (.aload_n 0, 1) := by decide +kernel
theorem dX4_fault_13 : decode cX4_fault 13 = .ok (.getfield 29, 3) := by decide +kernel
theorem dX4_fault_16 : decode cX4_fault 16 = .ok (.aload_n 0, 1) := by decide +kernel
theorem dX4_fault_17 : decode cX4_fault 17 = .ok (.getfield 10, 3) := by decide +kernel
theorem dX4_fault_20 : decode cX4_fault 20 = .ok (.invokevirtual 54, 3) := by decide +kernel
theorem dX4_fault_23 : decode cX4_fault 23 = .ok (.aload_n 0, 1) := by decide +kernel
theorem dX4_fault_24 : decode cX4_fault 24 = .ok (.getfield 29, 3) := by decide +kernel
theorem dX4_fault_27 : decode cX4_fault 27 = .ok (.getfield 57, 3) := by decide +kernel
theorem dX4_fault_30 : decode cX4_fault 30 = .ok (.ifCond .ne 6, 3) := by decide +kernel
theorem dX4_fault_33 : decode cX4_fault 33 = .ok (.ldc 171, 2) := by decide +kernel
theorem dX4_fault_35 : decode cX4_fault 35 = .ok (.ireturn, 1) := by decide +kernel
theorem dX4_fault_36 : decode cX4_fault 36 = .ok (.iload_n 1, 1) := by decide +kernel
theorem dX4_fault_37 : decode cX4_fault 37 = .ok (.ifCond .ne 11, 3) := by decide +kernel
theorem dX4_fault_40 : decode cX4_fault 40 = .ok (.aload_n 0, 1) := by decide +kernel
theorem dX4_fault_41 : decode cX4_fault 41 = .ok (.getfield 29, 3) := by decide +kernel
theorem dX4_fault_44 : decode cX4_fault 44 = .ok (.getfield 197, 3) := by decide +kernel
