theorem dX5_box_34 : decode cX5_box 34 = .ok (.aload_n 0, 1) := by decide +kernel
theorem dX5_box_35 : decode cX5_box 35 = .ok (.getfield 7, 3) := by decide +kernel
theorem dX5_box_38 : decode cX5_box 38 = .ok (.iconst 2, 1) := by decide +kernel
theorem dX5_box_39 : decode cX5_box 39 = .ok (.iaload, 1) := by decide +kernel
theorem dX5_box_40 : decode cX5_box 40 = .ok (.if_icmp .ge 30, 3) := by decide +kernel
theorem dX5_box_43 : decode cX5_box 43 = .ok (.aload_n 0, 1) := by decide +kernel
theorem dX5_box_44 : decode cX5_box 44 = .ok (.iload_n 3, 1) := by decide +kernel
theorem dX5_box_45 : decode cX5_box 45 = .ok (.invokevirtual 66, 3) := by decide +kernel
theorem dX5_box_48 : decode cX5_box 48 = .ok (.iload_n 1, 1) := by decide +kernel
theorem dX5_box_49 : decode cX5_box 49 = .ok (.if_icmp .gt 12, 3) := by decide +kernel
theorem dX5_box_52 : decode cX5_box 52 = .ok (.aload_n 0, 1) := by decide +kernel
theorem dX5_box_53 : decode cX5_box 53 = .ok (.iload_n 3, 1) := by decide +kernel
theorem dX5_box_54 : decode cX5_box 54 = .ok (.invokevirtual 72, 3) := by decide +kernel
theorem dX5_box_57 : decode cX5_box 57 = .ok (.iload_n 2, 1) := by decide +kernel
theorem dX5_box_58 : decode cX5_box 58 = .ok (.if_icmp .le 6, 3) := by decide +kernel
theorem dX5_box_61 : decode cX5_box 61 = .ok (.ldc 121, 2) := by decide +kernel
theorem dX5_box_63 : decode cX5_box 63 = .ok (.ireturn, 1) := by decide +kernel
theorem dX5_box_64 : decode cX5_box 64 = .ok (.iinc 3 1, 3) := by decide +kernel
theorem dX5_box_67 : decode cX5_box 67 = .ok (.goto (-34), 3) := by decide +kernel
theorem dX5_box_70 : decode cX5_box 70 = .ok (.aload_n 0, 1) := by decide +kernel
theorem dX5_box_71 : decode cX5_box 71 = .ok (.invokevirtual 122, 3) := by decide +kernel
theorem dX5_box_74 : decode cX5_box 74 = .ok (.bipush 100, 2) := by decide +kernel
theorem dX5_box_76 : decode cX5_box 76 = .ok (.aload_n 0, 1) := by decide +kernel
theorem dX5_box_77 : decode cX5_box 77 = .ok (.getfield 7, 3) := by decide +kernel
theorem dX5_box_80 : decode cX5_box 80 = .ok (.iconst 0, 1) := by decide +kernel
theorem dX5_box_81 : decode cX5_box 81 = .ok (.iaload, 1) := by decide +kernel
theorem dX5_box_82 : decode cX5_box 82 = .ok (.imul, 1) := by decide +kernel
theorem dX5_box_83 : decode cX5_box 83 = .ok (.aload_n 0, 1) := by decide +kernel
theorem dX5_box_84 : decode cX5_box 84 = .ok (.getfield 7, 3) := by decide +kernel
theorem dX5_box_87 : decode cX5_box 87 = .ok (.iconst 1, 1) := by decide +kernel
theorem dX5_box_88 : decode cX5_box 88 = .ok (.iaload, 1) := by decide +kernel
theorem dX5_box_89 : decode cX5_box 89 = .ok (.iadd, 1) := by decide +kernel
theorem dX5_box_90 : decode cX5_box 90 = .ok (.istore_n 3, 1) := by decide +kernel
theorem dX5_box_91 : decode cX5_box 91 = .ok (.aload_n 0, 1) := by decide +kernel
theorem dX5_box_92 : decode cX5_box 92 = .ok (.getfield 7, 3) := by decide +kernel
theorem dX5_box_95 : decode cX5_box 95 = .ok (.iconst 0, 1) := by decide +kernel
theorem dX5_box_96 : decode cX5_box 96 = .ok (.iload_n 1, 1) := by decide +kernel
theorem dX5_box_97 : decode cX5_box 97 = .ok (.iastore, 1) := by decide +kernel
theorem dX5_box_98 : decode cX5_box 98 = .ok (.aload_n 0, 1) := by decide +kernel
theorem dX5_box_99 : decode cX5_box 99 = .ok (.getfield 7, 3) := by decide +kernel
theorem dX5_box_102 : decode cX5_box 102 = .ok (.iconst 1, 1) := by decide +kernel
theorem dX5_box_103 : decode cX5_box 103 = .ok (.iload_n 2, 1) := by decide +kernel
theorem dX5_box_104 : decode cX5_box 104 = .ok (.iastore, 1) := by decide +kernel
theorem dX5_box_105 : decode cX5_box 105 = .ok (.aload_n 0, 1) := by decide +kernel
theorem dX5_box_106 : decode cX5_box 106 = .ok (.iload_n 3, 1) := by decide +kernel
theorem dX5_box_107 : decode cX5_box 107 = .ok (.invokevirtual 125, 3) := by decide +kernel
theorem dX5_box_110 : decode cX5_box 110 = .ok (.ireturn, 1) := by decide +kernel
set_option maxRecDepth 20000 in
theorem ggX5_put_X5_hasFault : GoodIn wsX5_put wsX5_hasFault := goodIn_r _ [8, 9, 10, 11, 12, 7, 13, 2, 14, 15, 16, 17, 18, 19, 20, 21, 22, 23, 24, 25, 26, 27, 28, 29, 30, 31, 32, 33, 34, 35, 36, 37, 38, 39, 40, 41, 42, 43, 44, 45, 46, 47, 48, 49, 50, 51, 52, 53, 54, 55, 56, 57, 58, 59, 60, 61, 62, 63, 64, 65, 66, 67, 68, 69, 70, 71, 72, 73, 74, 75, 76, 77, 78, 79, 95, 96, 97, 98, 99, 100, 101, 102, 103, 104] (by decide +kernel) (by decide +kernel)
set_option maxRecDepth 20000 in
theorem gX5_put_X5_hasFault : GoodIn wsX5_put (wsV RX5 128 RX5 yX5_hasFault wsX5_hasFault) := goodIn_app (goodIn_of _ (by decide +kernel)) ggX5_put_X5_hasFault
set_option maxRecDepth 20000 in
theorem ggX5_put_X5_keep : GoodIn wsX5_put wsX5_keep := goodIn_r _ [83, 84, 2, 95, 96, 97, 98, 99, 100, 101, 102, 103, 104] (by decide +kernel) (by decide +kernel)
set_option maxRecDepth 20000 in
theorem gX5_put_X5_keep : GoodIn wsX5_put (wsV RX5 122 RX5 yX5_keep wsX5_keep) := goodIn_app (goodIn_of _ (by decide +kernel)) ggX5_put_X5_keep
set_option maxRecDepth 20000 in
theorem ggX5_put_X5_copyBody : GoodIn wsX5_put wsX5_copyBody := goodIn_r _ [88, 2, 95, 96, 97, 98, 99, 100, 101, 102, 103, 104] (by decide +kernel) (by decide +kernel)
set_option maxRecDepth 20000 in
theorem gX5_put_X5_copyBody : GoodIn wsX5_put (wsV RX5 112 RX5 yX5_copyBody wsX5_copyBody) := goodIn_app (goodIn_of _ (by decide +kernel)) ggX5_put_X5_copyBody
set_option maxRecDepth 20000 in
theorem ggX5_put_X5_changed : GoodIn wsX5_put wsX5_changed := goodIn_r _ [92, 93, 94, 84, 95, 96, 97, 98, 99, 100, 101, 102, 103, 104] (by decide +kernel) (by decide +kernel)
set_option maxRecDepth 20000 in
theorem gX5_put_X5_changed : GoodIn wsX5_put (wsV RX5 125 RX5 yX5_changed wsX5_changed) := goodIn_app (goodIn_of _ (by decide +kernel)) ggX5_put_X5_changed
theorem dX5_put_0 : decode cX5_put 0 = .ok (.aload_n 0, 1) := by decide +kernel
theorem dX5_put_1 : decode cX5_put 1 = .ok (.invokevirtual 128, 3) := by decide +kernel
theorem dX5_put_4 : decode cX5_put 4 = .ok (.ifCond .eq 6, 3) := by decide +kernel
theorem dX5_put_7 : decode cX5_put 7 = .ok (.ldc 121, 2) := by decide +kernel
theorem dX5_put_9 : decode cX5_put 9 = .ok (.ireturn, 1) := by decide +kernel
theorem dX5_put_10 : decode cX5_put 10 = .ok (.aload_n 0, 1) := by decide +kernel
theorem dX5_put_11 : decode cX5_put 11 = .ok (.getfield 7, 3) := by decide +kernel
theorem dX5_put_14 : decode cX5_put 14 = .ok (.iconst 2, 1) := by decide +kernel
theorem dX5_put_15 : decode cX5_put 15 = .ok (.iaload, 1) := by decide +kernel
theorem dX5_put_16 : decode cX5_put 16 = .ok (.bipush 8, 2) := by decide +kernel
theorem dX5_put_18 : decode cX5_put 18 = .ok (.if_icmp .ne 6, 3) := by decide +kernel
theorem dX5_put_21 : decode cX5_put 21 = .ok (.ldc 132, 2) := by decide +kernel
theorem dX5_put_23 : decode cX5_put 23 = .ok (.ireturn, 1) := by decide +kernel
theorem dX5_put_24 : decode cX5_put 24 = .ok (.aload_n 0, 1) := by decide +kernel
theorem dX5_put_25 : decode cX5_put 25 = .ok (.invokevirtual 122, 3) := by decide +kernel
theorem dX5_put_28 : decode cX5_put 28 = .ok (.aload_n 0, 1) := by decide +kernel
theorem dX5_put_29 : decode cX5_put 29 = .ok (.bipush 8, 2) := by decide +kernel
theorem dX5_put_31 : decode cX5_put 31 = .ok (.aload_n 0, 1) := by decide +kernel
theorem dX5_put_32 : decode cX5_put 32 = .ok (.getfield 7, 3) := by decide +kernel
theorem dX5_put_35 : decode cX5_put 35 = .ok (.iconst 2, 1) := by decide +kernel
theorem dX5_put_36 : decode cX5_put 36 = .ok (.iaload, 1) := by decide +kernel
theorem dX5_put_37 : decode cX5_put 37 = .ok (.invokevirtual 112, 3) := by decide +kernel
theorem dX5_put_40 : decode cX5_put 40 = .ok (.aload_n 0, 1) := by decide +kernel
theorem dX5_put_41 : decode cX5_put 41 = .ok (.getfield 7, 3) := by decide +kernel
theorem dX5_put_44 : decode cX5_put 44 = .ok (.iconst 2, 1) := by decide +kernel
theorem dX5_put_45 : decode cX5_put 45 = .ok (.dup2, 1) := by decide +kernel
theorem dX5_put_46 : decode cX5_put 46 = .ok (.iaload, 1) := by decide +kernel
theorem dX5_put_47 : decode cX5_put 47 = .ok (.iconst 1, 1) := by decide +kernel
theorem dX5_put_48 : decode cX5_put 48 = .ok (.iadd, 1) := by decide +kernel
theorem dX5_put_49 : decode cX5_put 49 = .ok (.iastore, 1) := by decide +kernel
theorem dX5_put_50 : decode cX5_put 50 = .ok (.aload_n 0, 1) := by decide +kernel
theorem dX5_put_51 : decode cX5_put 51 = .ok (.aload_n 0, 1) := by decide +kernel
theorem dX5_put_52 : decode cX5_put 52 = .ok (.getfield 7, 3) := by decide +kernel
theorem dX5_put_55 : decode cX5_put 55 = .ok (.iconst 2, 1) := by decide +kernel
theorem dX5_put_56 : decode cX5_put 56 = .ok (.iaload, 1) := by decide +kernel
theorem dX5_put_57 : decode cX5_put 57 = .ok (.iconst 1, 1) := by decide +kernel
theorem dX5_put_58 : decode cX5_put 58 = .ok (.isub, 1) := by decide +kernel
theorem dX5_put_59 : decode cX5_put 59 = .ok (.invokevirtual 125, 3) := by decide +kernel
theorem dX5_put_62 : decode cX5_put 62 = .ok (.ireturn, 1) := by decide +kernel
set_option maxRecDepth 20000 in
theorem ggX5_remove_X5_isBody : GoodIn wsX5_remove wsX5_isBody := goodIn_r _ [7, 2, 8, 9, 6, 10, 30, 31, 32, 33, 34, 35, 36, 37, 38, 39] (by decide +kernel) (by decide +kernel)
set_option maxRecDepth 20000 in
theorem gX5_remove_X5_isBody : GoodIn wsX5_remove (wsV RX5 133 RX5 yX5_isBody wsX5_isBody) := goodIn_app (goodIn_of _ (by decide +kernel)) ggX5_remove_X5_isBody
set_option maxRecDepth 20000 in
theorem ggX5_remove_X5_keep : GoodIn wsX5_remove wsX5_keep := goodIn_r _ [14, 15, 2, 30, 31, 32, 33, 34, 35, 36, 37, 38, 39] (by decide +kernel) (by decide +kernel)
set_option maxRecDepth 20000 in
theorem gX5_remove_X5_keep : GoodIn wsX5_remove (wsV RX5 122 RX5 yX5_keep wsX5_keep) := goodIn_app (goodIn_of _ (by decide +kernel)) ggX5_remove_X5_keep
set_option maxRecDepth 20000 in
theorem ggX5_remove_X5_takesOut : GoodIn wsX5_remove wsX5_takesOut := goodIn_r _ [19, 2, 20, 21, 22, 6, 23, 30, 31, 32, 33, 34, 35, 36, 37, 38, 39] (by decide +kernel) (by decide +kernel)
set_option maxRecDepth 20000 in
theorem gX5_remove_X5_takesOut : GoodIn wsX5_remove (wsV RX5 136 RX5 yX5_takesOut wsX5_takesOut) := goodIn_app (goodIn_of _ (by decide +kernel)) ggX5_remove_X5_takesOut
set_option maxRecDepth 20000 in
theorem ggX5_remove_X5_changed : GoodIn wsX5_remove wsX5_changed := goodIn_r _ [27, 28, 29, 15, 30, 31, 32, 33, 34, 35, 36, 37, 38, 39] (by decide +kernel) (by decide +kernel)
set_option maxRecDepth 20000 in
theorem gX5_remove_X5_changed : GoodIn wsX5_remove (wsV RX5 125 RX5 yX5_changed wsX5_changed) := goodIn_app (goodIn_of _ (by decide +kernel)) ggX5_remove_X5_changed
theorem dX5_remove_0 : decode cX5_remove 0 = .ok (.aload_n 0, 1) := by decide +kernel
theorem dX5_remove_1 : decode cX5_remove 1 = .ok (.iload_n 1, 1) := by decide +kernel
theorem dX5_remove_2 : decode cX5_remove 2 = .ok (.invokevirtual 133, 3) := by decide +kernel
theorem dX5_remove_5 : decode cX5_remove 5 = .ok (.ifCond .ne 6, 3) := by decide +kernel
theorem dX5_remove_8 : decode cX5_remove 8 = .ok (.ldc 120, 2) := by decide +kernel
theorem dX5_remove_10 : decode cX5_remove 10 = .ok (.ireturn, 1) := by decide +kernel
theorem dX5_remove_11 : decode cX5_remove 11 = .ok (.aload_n 0, 1) := by decide +kernel
theorem dX5_remove_12 : decode cX5_remove 12 = .ok (.invokevirtual 122, 3) := by decide +kernel
theorem dX5_remove_15 : decode cX5_remove 15 = .ok (.aload_n 0, 1) := by decide +kernel
theorem dX5_remove_16 : decode cX5_remove 16 = .ok (.iload_n 1, 1) := by decide +kernel
theorem dX5_remove_17 : decode cX5_remove 17 = .ok (.invokevirtual 136, 3) := by decide +kernel
theorem dX5_remove_20 : decode cX5_remove 20 = .ok (.aload_n 0, 1) := by decide +kernel
theorem dX5_remove_21 : decode cX5_remove 21 = .ok (.aload_n 0, 1) := by decide +kernel
theorem dX5_remove_22 : decode cX5_remove 22 = .ok (.getfield 7, 3) := by decide +kernel
theorem dX5_remove_25 : decode cX5_remove 25 = .ok (.iconst 2, 1) := by decide +kernel
theorem dX5_remove_26 : decode cX5_remove 26 = .ok (.iaload, 1) := by decide +kernel
theorem dX5_remove_27 : decode cX5_remove 27 = .ok (.invokevirtual 125, 3) := by decide +kernel
theorem dX5_remove_30 : decode cX5_remove 30 = .ok (.ireturn, 1) := by decide +kernel
set_option maxRecDepth 20000 in
theorem ggX5_empty_X5_keep : GoodIn wsX5_empty wsX5_keep := goodIn_r _ [6, 7, 1, 14, 15, 16, 17, 18, 19, 20, 21, 22, 23] (by decide +kernel) (by decide +kernel)
set_option maxRecDepth 20000 in
theorem gX5_empty_X5_keep : GoodIn wsX5_empty (wsV RX5 122 RX5 yX5_keep wsX5_keep) := goodIn_app (goodIn_of _ (by decide +kernel)) ggX5_empty_X5_keep
set_option maxRecDepth 20000 in
theorem ggX5_empty_X5_changed : GoodIn wsX5_empty wsX5_changed := goodIn_r _ [11, 12, 13, 7, 14, 15, 16, 17, 18, 19, 20, 21, 22, 23] (by decide +kernel) (by decide +kernel)
set_option maxRecDepth 20000 in
theorem gX5_empty_X5_changed : GoodIn wsX5_empty (wsV RX5 125 RX5 yX5_changed wsX5_changed) := goodIn_app (goodIn_of _ (by decide +kernel)) ggX5_empty_X5_changed
theorem dX5_empty_0 : decode cX5_empty 0 = .ok (.aload_n 0, 1) := by decide +kernel
theorem dX5_empty_1 : decode cX5_empty 1 = .ok (.invokevirtual 122, 3) := by decide +kernel
theorem dX5_empty_4 : decode cX5_empty 4 = .ok (.aload_n 0, 1) := by decide +kernel
theorem dX5_empty_5 : decode cX5_empty 5 = .ok (.getfield 7, 3) := by decide +kernel
theorem dX5_empty_8 : decode cX5_empty 8 = .ok (.iconst 2, 1) := by decide +kernel
theorem dX5_empty_9 : decode cX5_empty 9 = .ok (.iaload, 1) := by decide +kernel
theorem dX5_empty_10 : decode cX5_empty 10 = .ok (.istore_n 1, 1) := by decide +kernel
theorem dX5_empty_11 : decode cX5_empty 11 = .ok (.aload_n 0, 1) := by decide +kernel
theorem dX5_empty_12 : decode cX5_empty 12 = .ok (.getfield 7, 3) := by decide +kernel
theorem dX5_empty_15 : decode cX5_empty 15 = .ok (.iconst 2, 1) := by decide +kernel
theorem dX5_empty_16 : decode cX5_empty 16 = .ok (.iconst 0, 1) := by decide +kernel
theorem dX5_empty_17 : decode cX5_empty 17 = .ok (.iastore, 1) := by decide +kernel
theorem dX5_empty_18 : decode cX5_empty 18 = .ok (.aload_n 0, 1) := by decide +kernel
theorem dX5_empty_19 : decode cX5_empty 19 = .ok (.iload_n 1, 1) := by decide +kernel
theorem dX5_empty_20 : decode cX5_empty 20 = .ok (.invokevirtual 125, 3) := by decide +kernel
theorem dX5_empty_23 : decode cX5_empty 23 = .ok (.ireturn, 1) := by decide +kernel
set_option maxRecDepth 20000 in
theorem ggX5_slide_X5_isBody : GoodIn wsX5_slide wsX5_isBody := goodIn_r _ [8, 9, 10, 11, 7, 12, 106, 107, 108, 109, 110, 111, 112, 113, 114, 115] (by decide +kernel) (by decide +kernel)
set_option maxRecDepth 20000 in
theorem gX5_slide_X5_isBody : GoodIn wsX5_slide (wsV RX5 133 RX5 yX5_isBody wsX5_isBody) := goodIn_app (goodIn_of _ (by decide +kernel)) ggX5_slide_X5_isBody
set_option maxRecDepth 20000 in
theorem ggX5_slide_X5_isDirection : GoodIn wsX5_slide wsX5_isDirection := goodIn_r _ [15, 16, 10, 11, 7, 12] (by decide +kernel) (by decide +kernel)
set_option maxRecDepth 20000 in
theorem gX5_slide_X5_isDirection : GoodIn wsX5_slide (va_wsS RX5 140 yX5_isDirection wsX5_isDirection) := goodIn_app (goodIn_of _ (by decide +kernel)) ggX5_slide_X5_isDirection
set_option maxRecDepth 20000 in
theorem ggX5_slide_X5_in : GoodIn wsX5_slide wsX5_in := goodIn_r _ [12] (by decide +kernel) (by decide +kernel)
set_option maxRecDepth 20000 in
theorem gX5_slide_X5_in : GoodIn wsX5_slide (va_wsS RX5 26 yX5_in wsX5_in) := goodIn_app (goodIn_of _ (by decide +kernel)) ggX5_slide_X5_in
set_option maxRecDepth 20000 in
theorem ggX5_slide_X5_keep : GoodIn wsX5_slide wsX5_keep := goodIn_r _ [20, 21, 9, 106, 107, 108, 109, 110, 111, 112, 113, 114, 115] (by decide +kernel) (by decide +kernel)
set_option maxRecDepth 20000 in
theorem gX5_slide_X5_keep : GoodIn wsX5_slide (wsV RX5 122 RX5 yX5_keep wsX5_keep) := goodIn_app (goodIn_of _ (by decide +kernel)) ggX5_slide_X5_keep
set_option maxRecDepth 20000 in
theorem ggX5_slide_X5_slides : GoodIn wsX5_slide wsX5_slides := goodIn_r _ [25, 26, 27, 28, 7, 29, 30, 31, 32, 33, 34, 35, 36, 37, 38, 39, 9, 40, 41, 42, 43, 44, 45, 46, 47, 48, 49, 50, 51, 52, 53, 54, 55, 56, 57, 58, 59, 60, 61, 62, 63, 64, 65, 66, 67, 68, 69, 70, 71, 72, 73, 74, 75, 76, 77, 78, 79, 80, 81, 82, 83, 84, 85, 86, 87, 88, 89, 90, 91, 92, 93, 94, 95, 96, 97, 98, 99, 106, 107, 108, 109, 110, 111, 112, 113, 114, 115] (by decide +kernel) (by decide +kernel)
set_option maxRecDepth 20000 in
theorem gX5_slide_X5_slides : GoodIn wsX5_slide (wsV RX5 106 RX5 yX5_slides wsX5_slides) := goodIn_app (goodIn_of _ (by decide +kernel)) ggX5_slide_X5_slides
set_option maxRecDepth 20000 in
theorem ggX5_slide_X5_changed : GoodIn wsX5_slide wsX5_changed := goodIn_r _ [103, 104, 105, 21, 106, 107, 108, 109, 110, 111, 112, 113, 114, 115] (by decide +kernel) (by decide +kernel)
set_option maxRecDepth 20000 in
theorem gX5_slide_X5_changed : GoodIn wsX5_slide (wsV RX5 125 RX5 yX5_changed wsX5_changed) := goodIn_app (goodIn_of _ (by decide +kernel)) ggX5_slide_X5_changed
theorem dX5_slide_0 : decode cX5_slide 0 = .ok (.aload_n 0, 1) := by decide +kernel
theorem dX5_slide_1 : decode cX5_slide 1 = .ok (.iload_n 1, 1) := by decide +kernel
theorem dX5_slide_2 : decode cX5_slide 2 = .ok (.invokevirtual 133, 3) := by decide +kernel
theorem dX5_slide_5 : decode cX5_slide 5 = .ok (.ifCond .eq 22, 3) := by decide +kernel
theorem dX5_slide_8 : decode cX5_slide 8 = .ok (.iload_n 2, 1) := by decide +kernel
theorem dX5_slide_9 : decode cX5_slide 9 = .ok (.invokestatic 140, 3) := by decide +kernel
theorem dX5_slide_12 : decode cX5_slide 12 = .ok (.ifCond .eq 15, 3) := by decide +kernel
theorem dX5_slide_15 : decode cX5_slide 15 = .ok (.iload_n 3, 1) := by decide +kernel
theorem dX5_slide_16 : decode cX5_slide 16 = .ok (.i2l, 1) := by decide +kernel
theorem dX5_slide_17 : decode cX5_slide 17 = .ok (.lconst 1, 1) := by decide +kernel
theorem dX5_slide_18 : decode cX5_slide 18 = .ok (.ldc2_w 118, 3) := by decide +kernel
theorem dX5_slide_21 : decode cX5_slide 21 = .ok (.invokestatic 26, 3) := by decide +kernel
theorem dX5_slide_24 : decode cX5_slide 24 = .ok (.ifCond .ne 6, 3) := by decide +kernel
theorem dX5_slide_27 : decode cX5_slide 27 = .ok (.ldc 120, 2) := by decide +kernel
theorem dX5_slide_29 : decode cX5_slide 29 = .ok (.ireturn, 1) := by decide +kernel
theorem dX5_slide_30 : decode cX5_slide 30 = .ok (.aload_n 0, 1) := by decide +kernel
theorem dX5_slide_31 : decode cX5_slide 31 = .ok (.invokevirtual 122, 3) := by decide +kernel
theorem dX5_slide_34 : decode cX5_slide 34 = .ok (.aload_n 0, 1) := by decide +kernel
theorem dX5_slide_35 : decode cX5_slide 35 = .ok (.iload_n 1, 1) := by decide +kernel
theorem dX5_slide_36 : decode cX5_slide 36 = .ok (.iload_n 2, 1) := by decide +kernel
theorem dX5_slide_37 : decode cX5_slide 37 = .ok (.iload_n 3, 1) := by decide +kernel
theorem dX5_slide_38 : decode cX5_slide 38 = .ok (.invokevirtual 106, 3) := by decide +kernel
theorem dX5_slide_41 : decode cX5_slide 41 = .ok (.istore 4, 2) := by decide +kernel
theorem dX5_slide_43 : decode cX5_slide 43 = .ok (.iload 4, 2) := by decide +kernel
theorem dX5_slide_45 : decode cX5_slide 45 = .ok (.ifCond .ne 8, 3) := by decide +kernel
theorem dX5_slide_48 : decode cX5_slide 48 = .ok (.ldc 121, 2) := by decide +kernel
theorem dX5_slide_50 : decode cX5_slide 50 = .ok (.goto 9, 3) := by decide +kernel
theorem dX5_slide_53 : decode cX5_slide 53 = .ok (.aload_n 0, 1) := by decide +kernel
theorem dX5_slide_54 : decode cX5_slide 54 = .ok (.iload 4, 2) := by decide +kernel
theorem dX5_slide_56 : decode cX5_slide 56 = .ok (.invokevirtual 125, 3) := by decide +kernel
theorem dX5_slide_59 : decode cX5_slide 59 = .ok (.ireturn, 1) := by decide +kernel
set_option maxRecDepth 20000 in
theorem ggX5_turn_X5_isBody : GoodIn wsX5_turn wsX5_isBody := goodIn_r _ [8, 2, 9, 10, 7, 11, 87, 88, 89, 90, 91, 92, 93, 94, 95, 96] (by decide +kernel) (by decide +kernel)
set_option maxRecDepth 20000 in
theorem gX5_turn_X5_isBody : GoodIn wsX5_turn (wsV RX5 133 RX5 yX5_isBody wsX5_isBody) := goodIn_app (goodIn_of _ (by decide +kernel)) ggX5_turn_X5_isBody
set_option maxRecDepth 20000 in
theorem ggX5_turn_X5_keep : GoodIn wsX5_turn wsX5_keep := goodIn_r _ [15, 16, 2, 87, 88, 89, 90, 91, 92, 93, 94, 95, 96] (by decide +kernel) (by decide +kernel)
set_option maxRecDepth 20000 in
theorem gX5_turn_X5_keep : GoodIn wsX5_turn (wsV RX5 122 RX5 yX5_keep wsX5_keep) := goodIn_app (goodIn_of _ (by decide +kernel)) ggX5_turn_X5_keep
set_option maxRecDepth 20000 in
theorem ggX5_turn_X5_leastX : GoodIn wsX5_turn wsX5_leastX := goodIn_r _ [20, 21, 22, 23, 7, 24, 2, 25, 26, 27, 28, 87, 88, 89, 90, 91, 92, 93, 94, 95, 96] (by decide +kernel) (by decide +kernel)
set_option maxRecDepth 20000 in
theorem gX5_turn_X5_leastX : GoodIn wsX5_turn (wsV RX5 63 RX5 yX5_leastX wsX5_leastX) := goodIn_app (goodIn_of _ (by decide +kernel)) ggX5_turn_X5_leastX
set_option maxRecDepth 20000 in
theorem ggX5_turn_X5_leastY : GoodIn wsX5_turn wsX5_leastY := goodIn_r _ [32, 21, 22, 23, 7, 24, 2, 25, 26, 27, 28, 87, 88, 89, 90, 91, 92, 93, 94, 95, 96] (by decide +kernel) (by decide +kernel)
set_option maxRecDepth 20000 in
theorem gX5_turn_X5_leastY : GoodIn wsX5_turn (wsV RX5 69 RX5 yX5_leastY wsX5_leastY) := goodIn_app (goodIn_of _ (by decide +kernel)) ggX5_turn_X5_leastY
set_option maxRecDepth 20000 in
theorem ggX5_turn_X5_greatestY : GoodIn wsX5_turn wsX5_greatestY := goodIn_r _ [36, 21, 22, 23, 7, 24, 2, 25, 26, 27, 28, 87, 88, 89, 90, 91, 92, 93, 94, 95, 96] (by decide +kernel) (by decide +kernel)
set_option maxRecDepth 20000 in
theorem gX5_turn_X5_greatestY : GoodIn wsX5_turn (wsV RX5 72 RX5 yX5_greatestY wsX5_greatestY) := goodIn_app (goodIn_of _ (by decide +kernel)) ggX5_turn_X5_greatestY
set_option maxRecDepth 20000 in
theorem ggX5_turn_X5_corners : GoodIn wsX5_turn wsX5_corners := goodIn_r _ [28, 2, 87, 88, 89, 90, 91, 92, 93, 94, 95, 96] (by decide +kernel) (by decide +kernel)
set_option maxRecDepth 20000 in
theorem gX5_turn_X5_corners : GoodIn wsX5_turn (wsV RX5 30 RX5 yX5_corners wsX5_corners) := goodIn_app (goodIn_of _ (by decide +kernel)) ggX5_turn_X5_corners
set_option maxRecDepth 20000 in
theorem ggX5_turn_X5_fits : GoodIn wsX5_turn wsX5_fits := goodIn_r _ [40, 41, 42, 43, 7, 44, 2, 17, 18, 19, 20, 21, 22, 23, 24, 25, 26, 27, 28, 45, 46, 47, 48, 29, 30, 31, 32, 33, 34, 35, 36, 49, 50, 51, 52, 53, 54, 55, 56, 57, 58, 59, 60, 61, 62, 63, 64, 65, 66, 67, 68, 69, 70, 71, 72, 73, 74, 75, 76, 87, 88, 89, 90, 91, 92, 93, 94, 95, 96] (by decide +kernel) (by decide +kernel)
set_option maxRecDepth 20000 in
theorem gX5_turn_X5_fits : GoodIn wsX5_turn (wsV RX5 91 RX5 yX5_fits wsX5_fits) := goodIn_app (goodIn_of _ (by decide +kernel)) ggX5_turn_X5_fits
set_option maxRecDepth 20000 in
theorem ggX5_turn_X5_giveBack : GoodIn wsX5_turn wsX5_giveBack := goodIn_r _ [80, 2, 16, 87, 88, 89, 90, 91, 92, 93, 94, 95, 96] (by decide +kernel) (by decide +kernel)
set_option maxRecDepth 20000 in
theorem gX5_turn_X5_giveBack : GoodIn wsX5_turn (wsV RX5 143 RX5 yX5_giveBack wsX5_giveBack) := goodIn_app (goodIn_of _ (by decide +kernel)) ggX5_turn_X5_giveBack
set_option maxRecDepth 20000 in
theorem ggX5_turn_X5_changed : GoodIn wsX5_turn wsX5_changed := goodIn_r _ [84, 85, 86, 16, 87, 88, 89, 90, 91, 92, 93, 94, 95, 96] (by decide +kernel) (by decide +kernel)
set_option maxRecDepth 20000 in
theorem gX5_turn_X5_changed : GoodIn wsX5_turn (wsV RX5 125 RX5 yX5_changed wsX5_changed) := goodIn_app (goodIn_of _ (by decide +kernel)) ggX5_turn_X5_changed
theorem dX5_turn_0 : decode cX5_turn 0 = .ok (.aload_n 0, 1) := by decide +kernel
theorem dX5_turn_1 : decode cX5_turn 1 = .ok (.iload_n 1, 1) := by decide +kernel
theorem dX5_turn_2 : decode cX5_turn 2 = .ok (.invokevirtual 133, 3) := by decide +kernel
theorem dX5_turn_5 : decode cX5_turn 5 = .ok (.ifCond .ne 6, 3) := by decide +kernel
theorem dX5_turn_8 : decode cX5_turn 8 = .ok (.ldc 120, 2) := by decide +kernel
theorem dX5_turn_10 : decode cX5_turn 10 = .ok (.ireturn, 1) := by decide +kernel
theorem dX5_turn_11 : decode cX5_turn 11 = .ok (.aload_n 0, 1) := by decide +kernel
theorem dX5_turn_12 : decode cX5_turn 12 = .ok (.invokevirtual 122, 3) := by decide +kernel
theorem dX5_turn_15 : decode cX5_turn 15 = .ok (.aload_n 0, 1) := by decide +kernel
theorem dX5_turn_16 : decode cX5_turn 16 = .ok (.iload_n 1, 1) := by decide +kernel
theorem dX5_turn_17 : decode cX5_turn 17 = .ok (.invokevirtual 63, 3) := by decide +kernel
theorem dX5_turn_20 : decode cX5_turn 20 = .ok (.istore_n 2, 1) := by decide +kernel
theorem dX5_turn_21 : decode cX5_turn 21 = .ok (.aload_n 0, 1) := by decide +kernel
theorem dX5_turn_22 : decode cX5_turn 22 = .ok (.iload_n 1, 1) := by decide +kernel
theorem dX5_turn_23 : decode cX5_turn 23 = .ok (.invokevirtual 69, 3) := by decide +kernel
theorem dX5_turn_26 : decode cX5_turn 26 = .ok (.istore_n 3, 1) := by decide +kernel
theorem dX5_turn_27 : decode cX5_turn 27 = .ok (.aload_n 0, 1) := by decide +kernel
theorem dX5_turn_28 : decode cX5_turn 28 = .ok (.iload_n 1, 1) := by decide +kernel
theorem dX5_turn_29 : decode cX5_turn 29 = .ok (.invokevirtual 72, 3) := by decide +kernel
theorem dX5_turn_32 : decode cX5_turn 32 = .ok (.iload_n 3, 1) := by decide +kernel
theorem dX5_turn_33 : decode cX5_turn 33 = .ok (.isub, 1) := by decide +kernel
theorem dX5_turn_34 : decode cX5_turn 34 = .ok (.istore 4, 2) := by decide +kernel
theorem dX5_turn_36 : decode cX5_turn 36 = .ok (.iconst 0, 1) := by decide +kernel
theorem dX5_turn_37 : decode cX5_turn 37 = .ok (.istore 5, 2) := by decide +kernel
theorem dX5_turn_39 : decode cX5_turn 39 = .ok (.iload 5, 2) := by decide +kernel
theorem dX5_turn_41 : decode cX5_turn 41 = .ok (.aload_n 0, 1) := by decide +kernel
theorem dX5_turn_42 : decode cX5_turn 42 = .ok (.iload_n 1, 1) := by decide +kernel
theorem dX5_turn_43 : decode cX5_turn 43 = .ok (.invokevirtual 30, 3) := by decide +kernel
theorem dX5_turn_46 : decode cX5_turn 46 = .ok (.if_icmp .ge 88, 3) := by decide +kernel
theorem dX5_turn_49 : decode cX5_turn 49 = .ok (.aload_n 0, 1) := by decide +kernel
theorem dX5_turn_50 : decode cX5_turn 50 = .ok (.getfield 7, 3) := by decide +kernel
theorem dX5_turn_53 : decode cX5_turn 53 = .ok (.bipush 12, 2) := by decide +kernel
theorem dX5_turn_55 : decode cX5_turn 55 = .ok (.bipush 6, 2) := by decide +kernel
theorem dX5_turn_57 : decode cX5_turn 57 = .ok (.iload_n 1, 1) := by decide +kernel
theorem dX5_turn_58 : decode cX5_turn 58 = .ok (.imul, 1) := by decide +kernel
theorem dX5_turn_59 : decode cX5_turn 59 = .ok (.iadd, 1) := by decide +kernel
theorem dX5_turn_60 : decode cX5_turn 60 = .ok (.iload 5, 2) := by decide +kernel
theorem dX5_turn_62 : decode cX5_turn 62 = .ok (.iadd, 1) := by decide +kernel
theorem dX5_turn_63 : decode cX5_turn 63 = .ok (.iaload, 1) := by decide +kernel
theorem dX5_turn_64 : decode cX5_turn 64 = .ok (.iload_n 2, 1) := by decide +kernel
theorem dX5_turn_65 : decode cX5_turn 65 = .ok (.isub, 1) := by decide +kernel
theorem dX5_turn_66 : decode cX5_turn 66 = .ok (.istore 6, 2) := by decide +kernel
theorem dX5_turn_68 : decode cX5_turn 68 = .ok (.aload_n 0, 1) := by decide +kernel
theorem dX5_turn_69 : decode cX5_turn 69 = .ok (.getfield 7, 3) := by decide +kernel
theorem dX5_turn_72 : decode cX5_turn 72 = .ok (.bipush 66, 2) := by decide +kernel
theorem dX5_turn_74 : decode cX5_turn 74 = .ok (.bipush 6, 2) := by decide +kernel
theorem dX5_turn_76 : decode cX5_turn 76 = .ok (.iload_n 1, 1) := by decide +kernel
theorem dX5_turn_77 : decode cX5_turn 77 = .ok (.imul, 1) := by decide +kernel
theorem dX5_turn_78 : decode cX5_turn 78 = .ok (.iadd, 1) := by decide +kernel
theorem dX5_turn_79 : decode cX5_turn 79 = .ok (.iload 5, 2) := by decide +kernel
theorem dX5_turn_81 : decode cX5_turn 81 = .ok (.iadd, 1) := by decide +kernel
theorem dX5_turn_82 : decode cX5_turn 82 = .ok (.iaload, 1) := by decide +kernel
theorem dX5_turn_83 : decode cX5_turn 83 = .ok (.iload_n 3, 1) := by decide +kernel
theorem dX5_turn_84 : decode cX5_turn 84 = .ok (.isub, 1) := by decide +kernel
theorem dX5_turn_85 : decode cX5_turn 85 = .ok (.istore 7, 2) := by decide +kernel
theorem dX5_turn_87 : decode cX5_turn 87 = .ok (.aload_n 0, 1) := by decide +kernel
theorem dX5_turn_88 : decode cX5_turn 88 = .ok (.getfield 7, 3) := by decide +kernel
theorem dX5_turn_91 : decode cX5_turn 91 = .ok (.bipush 12, 2) := by decide +kernel
theorem dX5_turn_93 : decode cX5_turn 93 = .ok (.bipush 6, 2) := by decide +kernel
theorem dX5_turn_95 : decode cX5_turn 95 = .ok (.iload_n 1, 1) := by decide +kernel
theorem dX5_turn_96 : decode cX5_turn 96 = .ok (.imul, 1) := by decide +kernel
theorem dX5_turn_97 : decode cX5_turn 97 = .ok (.iadd, 1) := by decide +kernel
theorem dX5_turn_98 : decode cX5_turn 98 = .ok (.iload 5, 2) := by decide +kernel
theorem dX5_turn_100 : decode cX5_turn 100 = .ok (.iadd, 1) := by decide +kernel
theorem dX5_turn_101 : decode cX5_turn 101 = .ok (.iload_n 2, 1) := by decide +kernel
theorem dX5_turn_102 : decode cX5_turn 102 = .ok (.iload 4, 2) := by decide +kernel
theorem dX5_turn_104 : decode cX5_turn 104 = .ok (.iadd, 1) := by decide +kernel
theorem dX5_turn_105 : decode cX5_turn 105 = .ok (.iload 7, 2) := by decide +kernel
theorem dX5_turn_107 : decode cX5_turn 107 = .ok (.isub, 1) := by decide +kernel
theorem dX5_turn_108 : decode cX5_turn 108 = .ok (.iastore, 1) := by decide +kernel
theorem dX5_turn_109 : decode cX5_turn 109 = .ok (.aload_n 0, 1) := by decide +kernel
theorem dX5_turn_110 : decode cX5_turn 110 = .ok (.getfield 7, 3) := by decide +kernel
theorem dX5_turn_113 : decode cX5_turn 113 = .ok (.bipush 66, 2) := by decide +kernel
theorem dX5_turn_115 : decode cX5_turn 115 = .ok (.bipush 6, 2) := by decide +kernel
theorem dX5_turn_117 : decode cX5_turn 117 = .ok (.iload_n 1, 1) := by decide +kernel
theorem dX5_turn_118 : decode cX5_turn 118 = .ok (.imul, 1) := by decide +kernel
theorem dX5_turn_119 : decode cX5_turn 119 = .ok (.iadd, 1) := by decide +kernel
theorem dX5_turn_120 : decode cX5_turn 120 = .ok (.iload 5, 2) := by decide +kernel
theorem dX5_turn_122 : decode cX5_turn 122 = .ok (.iadd, 1) := by decide +kernel
theorem dX5_turn_123 : decode cX5_turn 123 = .ok (.iload_n 3, 1) := by decide +kernel
theorem dX5_turn_124 : decode cX5_turn 124 = .ok (.iload 6, 2) := by decide +kernel
theorem dX5_turn_126 : decode cX5_turn 126 = .ok (.iadd, 1) := by decide +kernel
theorem dX5_turn_127 : decode cX5_turn 127 = .ok (.iastore, 1) := by decide +kernel
theorem dX5_turn_128 : decode cX5_turn 128 = .ok (.iinc 5 1, 3) := by decide +kernel
theorem dX5_turn_131 : decode cX5_turn 131 = .ok (.goto (-92), 3) := by decide +kernel
theorem dX5_turn_134 : decode cX5_turn 134 = .ok (.aload_n 0, 1) := by decide +kernel
theorem dX5_turn_135 : decode cX5_turn 135 = .ok (.iload_n 1, 1) := by decide +kernel
theorem dX5_turn_136 : decode cX5_turn 136 = .ok (.invokevirtual 91, 3) := by decide +kernel
theorem dX5_turn_139 : decode cX5_turn 139 = .ok (.ifCond .ne 10, 3) := by decide +kernel
theorem dX5_turn_142 : decode cX5_turn 142 = .ok (.aload_n 0, 1) := by decide +kernel
theorem dX5_turn_143 : decode cX5_turn 143 = .ok (.invokevirtual 143, 3) := by decide +kernel
theorem dX5_turn_146 : decode cX5_turn 146 = .ok (.ldc 121, 2) := by decide +kernel
theorem dX5_turn_148 : decode cX5_turn 148 = .ok (.ireturn, 1) := by decide +kernel
theorem dX5_turn_149 : decode cX5_turn 149 = .ok (.aload_n 0, 1) := by decide +kernel
theorem dX5_turn_150 : decode cX5_turn 150 = .ok (.iload 4, 2) := by decide +kernel
theorem dX5_turn_152 : decode cX5_turn 152 = .ok (.invokevirtual 125, 3) := by decide +kernel
theorem dX5_turn_155 : decode cX5_turn 155 = .ok (.ireturn, 1) := by decide +kernel
set_option maxRecDepth 20000 in
theorem ggX5_settle_X5_isDirection : GoodIn wsX5_settle wsX5_isDirection := goodIn_r _ [5, 6, 7, 8, 4, 9] (by decide +kernel) (by decide +kernel)
set_option maxRecDepth 20000 in
theorem gX5_settle_X5_isDirection : GoodIn wsX5_settle (va_wsS RX5 140 yX5_isDirection wsX5_isDirection) := goodIn_app (goodIn_of _ (by decide +kernel)) ggX5_settle_X5_isDirection
set_option maxRecDepth 20000 in
theorem ggX5_settle_X5_keep : GoodIn wsX5_settle wsX5_keep := goodIn_r _ [13, 14, 15, 104, 105, 106, 107, 108, 109, 110, 111, 112, 113] (by decide +kernel) (by decide +kernel)
set_option maxRecDepth 20000 in
theorem gX5_settle_X5_keep : GoodIn wsX5_settle (wsV RX5 122 RX5 yX5_keep wsX5_keep) := goodIn_app (goodIn_of _ (by decide +kernel)) ggX5_settle_X5_keep
set_option maxRecDepth 20000 in
theorem ggX5_settle_X5_settles : GoodIn wsX5_settle wsX5_settles := goodIn_r _ [19, 15, 20, 21, 22, 4, 23, 24, 25, 26, 27, 28, 29, 30, 31, 32, 33, 34, 35, 36, 37, 38, 39, 40, 41, 42, 43, 44, 45, 46, 47, 48, 49, 50, 51, 52, 53, 54, 55, 56, 57, 58, 59, 60, 61, 62, 63, 64, 65, 66, 67, 68, 69, 70, 71, 72, 73, 74, 75, 76, 77, 78, 79, 80, 81, 82, 83, 84, 85, 86, 87, 88, 89, 90, 91, 92, 93, 94, 95, 96, 97, 104, 105, 106, 107, 108, 109, 110, 111, 112, 113] (by decide +kernel) (by decide +kernel)
set_option maxRecDepth 20000 in
theorem gX5_settle_X5_settles : GoodIn wsX5_settle (wsV RX5 146 RX5 yX5_settles wsX5_settles) := goodIn_app (goodIn_of _ (by decide +kernel)) ggX5_settle_X5_settles
set_option maxRecDepth 20000 in
theorem ggX5_settle_X5_changed : GoodIn wsX5_settle wsX5_changed := goodIn_r _ [101, 102, 103, 14, 104, 105, 106, 107, 108, 109, 110, 111, 112, 113] (by decide +kernel) (by decide +kernel)
set_option maxRecDepth 20000 in
theorem gX5_settle_X5_changed : GoodIn wsX5_settle (wsV RX5 125 RX5 yX5_changed wsX5_changed) := goodIn_app (goodIn_of _ (by decide +kernel)) ggX5_settle_X5_changed
theorem dX5_settle_0 : decode cX5_settle 0 = .ok (.iload_n 1, 1) := by decide +kernel
theorem dX5_settle_1 : decode cX5_settle 1 = .ok (.invokestatic 140, 3) := by decide +kernel
theorem dX5_settle_4 : decode cX5_settle 4 = .ok (.ifCond .ne 6, 3) := by decide +kernel
theorem dX5_settle_7 : decode cX5_settle 7 = .ok (.ldc 120, 2) := by decide +kernel
theorem dX5_settle_9 : decode cX5_settle 9 = .ok (.ireturn, 1) := by decide +kernel
theorem dX5_settle_10 : decode cX5_settle 10 = .ok (.aload_n 0, 1) := by decide +kernel
theorem dX5_settle_11 : decode cX5_settle 11 = .ok (.invokevirtual 122, 3) := by decide +kernel
theorem dX5_settle_14 : decode cX5_settle 14 = .ok (.aload_n 0, 1) := by decide +kernel
theorem dX5_settle_15 : decode cX5_settle 15 = .ok (.aload_n 0, 1) := by decide +kernel
theorem dX5_settle_16 : decode cX5_settle 16 = .ok (.iload_n 1, 1) := by decide +kernel
theorem dX5_settle_17 : decode cX5_settle 17 = .ok (.invokevirtual 146, 3) := by decide +kernel
theorem dX5_settle_20 : decode cX5_settle 20 = .ok (.invokevirtual 125, 3) := by decide +kernel
theorem dX5_settle_23 : decode cX5_settle 23 = .ok (.ireturn, 1) := by decide +kernel
set_option maxRecDepth 20000 in
theorem ggX5_cornerValue_X5_corners : GoodIn wsX5_cornerValue wsX5_corners := goodIn_r _ [6, 7, 16, 17, 18, 19, 20, 21, 22, 23, 24, 25] (by decide +kernel) (by decide +kernel)
set_option maxRecDepth 20000 in
theorem gX5_cornerValue_X5_corners : GoodIn wsX5_cornerValue (wsV RX5 30 RX5 yX5_corners wsX5_corners) := goodIn_app (goodIn_of _ (by decide +kernel)) ggX5_cornerValue_X5_corners
set_option maxRecDepth 20000 in
theorem ggX5_cornerValue_X5_x : GoodIn wsX5_cornerValue wsX5_x := goodIn_r _ [11, 7, 2, 3, 4, 5, 6, 16, 17, 18, 19, 20, 21, 22, 23, 24, 25] (by decide +kernel) (by decide +kernel)
set_option maxRecDepth 20000 in
theorem gX5_cornerValue_X5_x : GoodIn wsX5_cornerValue (wsV RX5 34 RX5 yX5_x wsX5_x) := goodIn_app (goodIn_of _ (by decide +kernel)) ggX5_cornerValue_X5_x
set_option maxRecDepth 20000 in
theorem ggX5_cornerValue_X5_y : GoodIn wsX5_cornerValue wsX5_y := goodIn_r _ [15, 7, 2, 3, 4, 5, 6, 16, 17, 18, 19, 20, 21, 22, 23, 24, 25] (by decide +kernel) (by decide +kernel)
set_option maxRecDepth 20000 in
theorem gX5_cornerValue_X5_y : GoodIn wsX5_cornerValue (wsV RX5 38 RX5 yX5_y wsX5_y) := goodIn_app (goodIn_of _ (by decide +kernel)) ggX5_cornerValue_X5_y
theorem dX5_cornerValue_0 : decode cX5_cornerValue 0 = .ok (.iload_n 2, 1) := by decide +kernel
theorem dX5_cornerValue_1 : decode cX5_cornerValue 1 = .ok (.iconst 2, 1) := by decide +kernel
theorem dX5_cornerValue_2 : decode cX5_cornerValue 2 = .ok (.idiv, 1) := by decide +kernel
theorem dX5_cornerValue_3 : decode cX5_cornerValue 3 = .ok (.istore_n 3, 1) := by decide +kernel
theorem dX5_cornerValue_4 : decode cX5_cornerValue 4 = .ok (.iload_n 3, 1) := by decide +kernel
theorem dX5_cornerValue_5 : decode cX5_cornerValue 5 = .ok (.aload_n 0, 1) := by decide +kernel
theorem dX5_cornerValue_6 : decode cX5_cornerValue 6 = .ok (.iload_n 1, 1) := by decide +kernel
theorem dX5_cornerValue_7 : decode cX5_cornerValue 7 = .ok (.invokevirtual 30, 3) := by decide +kernel
theorem dX5_cornerValue_10 : decode cX5_cornerValue 10 = .ok (.if_icmp .lt 8, 3) := by decide +kernel
theorem dX5_cornerValue_13 : decode cX5_cornerValue 13 = .ok (.ldc 149, 2) := by decide +kernel
theorem dX5_cornerValue_15 : decode cX5_cornerValue 15 = .ok (.goto 24, 3) := by decide +kernel
theorem dX5_cornerValue_18 : decode cX5_cornerValue 18 = .ok (.iload_n 2, 1) := by decide +kernel
theorem dX5_cornerValue_19 : decode cX5_cornerValue 19 = .ok (.iconst 2, 1) := by decide +kernel
theorem dX5_cornerValue_20 : decode cX5_cornerValue 20 = .ok (.irem, 1) := by decide +kernel
theorem dX5_cornerValue_21 : decode cX5_cornerValue 21 = .ok (.ifCond .ne 12, 3) := by decide +kernel
theorem dX5_cornerValue_24 : decode cX5_cornerValue 24 = .ok (.aload_n 0, 1) := by decide +kernel
theorem dX5_cornerValue_25 : decode cX5_cornerValue 25 = .ok (.iload_n 1, 1) := by decide +kernel
theorem dX5_cornerValue_26 : decode cX5_cornerValue 26 = .ok (.iload_n 3, 1) := by decide +kernel
theorem dX5_cornerValue_27 : decode cX5_cornerValue 27 = .ok (.invokevirtual 34, 3) := by decide +kernel
theorem dX5_cornerValue_30 : decode cX5_cornerValue 30 = .ok (.goto 9, 3) := by decide +kernel
theorem dX5_cornerValue_33 : decode cX5_cornerValue 33 = .ok (.aload_n 0, 1) := by decide +kernel
theorem dX5_cornerValue_34 : decode cX5_cornerValue 34 = .ok (.iload_n 1, 1) := by decide +kernel
theorem dX5_cornerValue_35 : decode cX5_cornerValue 35 = .ok (.iload_n 3, 1) := by decide +kernel
theorem dX5_cornerValue_36 : decode cX5_cornerValue 36 = .ok (.invokevirtual 38, 3) := by decide +kernel
theorem dX5_cornerValue_39 : decode cX5_cornerValue 39 = .ok (.ireturn, 1) := by decide +kernel
set_option maxRecDepth 20000 in
theorem ggX5_bodyOf_X5_isBody : GoodIn wsX5_bodyOf wsX5_isBody := goodIn_r _ [7, 8, 9, 10, 6, 11, 115, 116, 117, 118, 119, 120, 121, 122, 123, 124] (by decide +kernel) (by decide +kernel)
set_option maxRecDepth 20000 in
theorem gX5_bodyOf_X5_isBody : GoodIn wsX5_bodyOf (wsV RX5 133 RX5 yX5_isBody wsX5_isBody) := goodIn_app (goodIn_of _ (by decide +kernel)) ggX5_bodyOf_X5_isBody
set_option maxRecDepth 20000 in
theorem ggX5_bodyOf_X5_in : GoodIn wsX5_bodyOf wsX5_in := goodIn_r _ [11] (by decide +kernel) (by decide +kernel)
set_option maxRecDepth 20000 in
theorem gX5_bodyOf_X5_in : GoodIn wsX5_bodyOf (va_wsS RX5 26 yX5_in wsX5_in) := goodIn_app (goodIn_of _ (by decide +kernel)) ggX5_bodyOf_X5_in
set_option maxRecDepth 20000 in
theorem ggX5_bodyOf_X5_corners : GoodIn wsX5_bodyOf wsX5_corners := goodIn_r _ [15, 8, 115, 116, 117, 118, 119, 120, 121, 122, 123, 124] (by decide +kernel) (by decide +kernel)
set_option maxRecDepth 20000 in
theorem gX5_bodyOf_X5_corners : GoodIn wsX5_bodyOf (wsV RX5 30 RX5 yX5_corners wsX5_corners) := goodIn_app (goodIn_of _ (by decide +kernel)) ggX5_bodyOf_X5_corners
set_option maxRecDepth 20000 in
theorem ggX5_bodyOf_X5_area : GoodIn wsX5_bodyOf wsX5_area := goodIn_r _ [19, 12, 13, 14, 6, 15, 8, 20, 21, 22, 23, 24, 25, 26, 27, 115, 116, 117, 118, 119, 120, 121, 122, 123, 124] (by decide +kernel) (by decide +kernel)
set_option maxRecDepth 20000 in
theorem gX5_bodyOf_X5_area : GoodIn wsX5_bodyOf (wsV RX5 109 RX5 yX5_area wsX5_area) := goodIn_app (goodIn_of _ (by decide +kernel)) ggX5_bodyOf_X5_area
set_option maxRecDepth 20000 in
theorem ggX5_bodyOf_X5_leastX : GoodIn wsX5_bodyOf wsX5_leastX := goodIn_r _ [31, 32, 33, 34, 6, 35, 8, 12, 13, 14, 15, 115, 116, 117, 118, 119, 120, 121, 122, 123, 124] (by decide +kernel) (by decide +kernel)
set_option maxRecDepth 20000 in
theorem gX5_bodyOf_X5_leastX : GoodIn wsX5_bodyOf (wsV RX5 63 RX5 yX5_leastX wsX5_leastX) := goodIn_app (goodIn_of _ (by decide +kernel)) ggX5_bodyOf_X5_leastX
set_option maxRecDepth 20000 in
theorem ggX5_bodyOf_X5_greatestX : GoodIn wsX5_bodyOf wsX5_greatestX := goodIn_r _ [39, 32, 33, 34, 6, 35, 8, 12, 13, 14, 15, 115, 116, 117, 118, 119, 120, 121, 122, 123, 124] (by decide +kernel) (by decide +kernel)
set_option maxRecDepth 20000 in
theorem gX5_bodyOf_X5_greatestX : GoodIn wsX5_bodyOf (wsV RX5 66 RX5 yX5_greatestX wsX5_greatestX) := goodIn_app (goodIn_of _ (by decide +kernel)) ggX5_bodyOf_X5_greatestX
set_option maxRecDepth 20000 in
theorem ggX5_bodyOf_X5_leastY : GoodIn wsX5_bodyOf wsX5_leastY := goodIn_r _ [43, 32, 33, 34, 6, 35, 8, 12, 13, 14, 15, 115, 116, 117, 118, 119, 120, 121, 122, 123, 124] (by decide +kernel) (by decide +kernel)
set_option maxRecDepth 20000 in
theorem gX5_bodyOf_X5_leastY : GoodIn wsX5_bodyOf (wsV RX5 69 RX5 yX5_leastY wsX5_leastY) := goodIn_app (goodIn_of _ (by decide +kernel)) ggX5_bodyOf_X5_leastY
set_option maxRecDepth 20000 in
theorem ggX5_bodyOf_X5_greatestY : GoodIn wsX5_bodyOf wsX5_greatestY := goodIn_r _ [47, 32, 33, 34, 6, 35, 8, 12, 13, 14, 15, 115, 116, 117, 118, 119, 120, 121, 122, 123, 124] (by decide +kernel) (by decide +kernel)
set_option maxRecDepth 20000 in
theorem gX5_bodyOf_X5_greatestY : GoodIn wsX5_bodyOf (wsV RX5 72 RX5 yX5_greatestY wsX5_greatestY) := goodIn_app (goodIn_of _ (by decide +kernel)) ggX5_bodyOf_X5_greatestY
set_option maxRecDepth 20000 in
theorem ggX5_bodyOf_X5_wallsBy : GoodIn wsX5_bodyOf wsX5_wallsBy := goodIn_r _ [51, 8, 28, 29, 30, 6, 31, 32, 33, 34, 35, 12, 13, 14, 15, 36, 37, 38, 39, 40, 41, 42, 43, 44, 45, 46, 47, 115, 116, 117, 118, 119, 120, 121, 122, 123, 124] (by decide +kernel) (by decide +kernel)
set_option maxRecDepth 20000 in
theorem gX5_bodyOf_X5_wallsBy : GoodIn wsX5_bodyOf (wsV RX5 75 RX5 yX5_wallsBy wsX5_wallsBy) := goodIn_app (goodIn_of _ (by decide +kernel)) ggX5_bodyOf_X5_wallsBy
set_option maxRecDepth 20000 in
theorem ggX5_bodyOf_X5_touched : GoodIn wsX5_bodyOf wsX5_touched := goodIn_r _ [55, 8, 56, 57, 58, 6, 59, 60, 61, 62, 63, 64, 65, 66, 67, 12, 13, 14, 15, 68, 69, 70, 71, 72, 73, 74, 75, 20, 21, 22, 23, 24, 25, 26, 27, 115, 116, 117, 118, 119, 120, 121, 122, 123, 124] (by decide +kernel) (by decide +kernel)
set_option maxRecDepth 20000 in
theorem gX5_bodyOf_X5_touched : GoodIn wsX5_bodyOf (wsV RX5 152 RX5 yX5_touched wsX5_touched) := goodIn_app (goodIn_of _ (by decide +kernel)) ggX5_bodyOf_X5_touched
set_option maxRecDepth 20000 in
theorem ggX5_bodyOf_X5_freeDirections : GoodIn wsX5_bodyOf wsX5_freeDirections := goodIn_r _ [79, 80, 81, 82, 6, 83, 84, 85, 86, 87, 88, 89, 90, 91, 92, 93, 94, 95, 96, 97, 8, 12, 13, 14, 15, 98, 99, 100, 101, 48, 49, 50, 51, 28, 29, 30, 31, 32, 33, 34, 35, 36, 37, 38, 39, 40, 41, 42, 43, 44, 45, 46, 47, 102, 103, 104, 105, 60, 61, 62, 63, 64, 65, 66, 67, 68, 69, 70, 71, 72, 73, 74, 75, 20, 21, 22, 23, 24, 25, 26, 27, 115, 116, 117, 118, 119, 120, 121, 122, 123, 124] (by decide +kernel) (by decide +kernel)
set_option maxRecDepth 20000 in
theorem gX5_bodyOf_X5_freeDirections : GoodIn wsX5_bodyOf (wsV RX5 101 RX5 yX5_freeDirections wsX5_freeDirections) := goodIn_app (goodIn_of _ (by decide +kernel)) ggX5_bodyOf_X5_freeDirections
set_option maxRecDepth 20000 in
theorem ggX5_bodyOf_X5_isJammed : GoodIn wsX5_bodyOf wsX5_isJammed := goodIn_r _ [109, 76, 77, 78, 6, 79, 80, 81, 82, 83, 84, 85, 86, 87, 88, 89, 90, 91, 92, 93, 94, 95, 96, 97, 8, 12, 13, 14, 15, 98, 99, 100, 101, 48, 49, 50, 51, 28, 29, 30, 31, 32, 33, 34, 35, 36, 37, 38, 39, 40, 41, 42, 43, 44, 45, 46, 47, 102, 103, 104, 105, 60, 61, 62, 63, 64, 65, 66, 67, 68, 69, 70, 71, 72, 73, 74, 75, 20, 21, 22, 23, 24, 25, 26, 27, 115, 116, 117, 118, 119, 120, 121, 122, 123, 124] (by decide +kernel) (by decide +kernel)
set_option maxRecDepth 20000 in
theorem gX5_bodyOf_X5_isJammed : GoodIn wsX5_bodyOf (wsV RX5 155 RX5 yX5_isJammed wsX5_isJammed) := goodIn_app (goodIn_of _ (by decide +kernel)) ggX5_bodyOf_X5_isJammed
set_option maxRecDepth 20000 in
theorem ggX5_bodyOf_X5_cornerValue : GoodIn wsX5_bodyOf wsX5_cornerValue := goodIn_r _ [113, 114, 12, 13, 14, 6, 15, 8, 20, 21, 22, 23, 24, 25, 26, 27, 115, 116, 117, 118, 119, 120, 121, 122, 123, 124] (by decide +kernel) (by decide +kernel)
set_option maxRecDepth 20000 in
theorem gX5_bodyOf_X5_cornerValue : GoodIn wsX5_bodyOf (wsV RX5 158 RX5 yX5_cornerValue wsX5_cornerValue) := goodIn_app (goodIn_of _ (by decide +kernel)) ggX5_bodyOf_X5_cornerValue
theorem dX5_bodyOf_0 : decode cX5_bodyOf 0 = .ok (.aload_n 0, 1) := by decide +kernel
theorem dX5_bodyOf_1 : decode cX5_bodyOf 1 = .ok (.iload_n 1, 1) := by decide +kernel
theorem dX5_bodyOf_2 : decode cX5_bodyOf 2 = .ok (.invokevirtual 133, 3) := by decide +kernel
theorem dX5_bodyOf_5 : decode cX5_bodyOf 5 = .ok (.ifCond .eq 15, 3) := by decide +kernel
theorem dX5_bodyOf_8 : decode cX5_bodyOf 8 = .ok (.iload_n 2, 1) := by decide +kernel
theorem dX5_bodyOf_9 : decode cX5_bodyOf 9 = .ok (.i2l, 1) := by decide +kernel
theorem dX5_bodyOf_10 : decode cX5_bodyOf 10 = .ok (.lconst 0, 1) := by decide +kernel
theorem dX5_bodyOf_11 : decode cX5_bodyOf 11 = .ok (.ldc2_w 150, 3) := by decide +kernel
theorem dX5_bodyOf_14 : decode cX5_bodyOf 14 = .ok (.invokestatic 26, 3) := by decide +kernel
theorem dX5_bodyOf_17 : decode cX5_bodyOf 17 = .ok (.ifCond .ne 6, 3) := by decide +kernel
theorem dX5_bodyOf_20 : decode cX5_bodyOf 20 = .ok (.ldc 120, 2) := by decide +kernel
theorem dX5_bodyOf_22 : decode cX5_bodyOf 22 = .ok (.ireturn, 1) := by decide +kernel
theorem dX5_bodyOf_23 : decode cX5_bodyOf 23 = .ok (.iload_n 2, 1) := by decide +kernel
theorem dX5_bodyOf_24 : decode cX5_bodyOf 24 = .ok (.tableswitch 125 0 9 #[56, 62, 68, 74, 80, 86, 92, 99, 105, 111], 56) := by decide +kernel
theorem dX5_bodyOf_80 : decode cX5_bodyOf 80 = .ok (.aload_n 0, 1) := by decide +kernel
theorem dX5_bodyOf_81 : decode cX5_bodyOf 81 = .ok (.iload_n 1, 1) := by decide +kernel
theorem dX5_bodyOf_82 : decode cX5_bodyOf 82 = .ok (.invokevirtual 30, 3) := by decide +kernel
theorem dX5_bodyOf_85 : decode cX5_bodyOf 85 = .ok (.ireturn, 1) := by decide +kernel
theorem dX5_bodyOf_86 : decode cX5_bodyOf 86 = .ok (.aload_n 0, 1) := by decide +kernel
theorem dX5_bodyOf_87 : decode cX5_bodyOf 87 = .ok (.iload_n 1, 1) := by decide +kernel
theorem dX5_bodyOf_88 : decode cX5_bodyOf 88 = .ok (.invokevirtual 109, 3) := by decide +kernel
theorem dX5_bodyOf_91 : decode cX5_bodyOf 91 = .ok (.ireturn, 1) := by decide +kernel
theorem dX5_bodyOf_92 : decode cX5_bodyOf 92 = .ok (.aload_n 0, 1) := by decide +kernel
theorem dX5_bodyOf_93 : decode cX5_bodyOf 93 = .ok (.iload_n 1, 1) := by decide +kernel
theorem dX5_bodyOf_94 : decode cX5_bodyOf 94 = .ok (.invokevirtual 63, 3) := by decide +kernel
theorem dX5_bodyOf_97 : decode cX5_bodyOf 97 = .ok (.ireturn, 1) := by decide +kernel
theorem dX5_bodyOf_98 : decode cX5_bodyOf 98 = .ok (.aload_n 0, 1) := by decide +kernel
theorem dX5_bodyOf_99 : decode cX5_bodyOf 99 = .ok (.iload_n 1, 1) := by decide +kernel
theorem dX5_bodyOf_100 : decode cX5_bodyOf 100 = .ok (.invokevirtual 66, 3) := by decide +kernel
theorem dX5_bodyOf_103 : decode cX5_bodyOf 103 = .ok (.ireturn, 1) := by decide +kernel
theorem dX5_bodyOf_104 : decode cX5_bodyOf 104 = .ok (.aload_n 0, 1) := by decide +kernel
theorem dX5_bodyOf_105 : decode cX5_bodyOf 105 = .ok (.iload_n 1, 1) := by decide +kernel
theorem dX5_bodyOf_106 : decode cX5_bodyOf 106 = .ok (.invokevirtual 69, 3) := by decide +kernel
theorem dX5_bodyOf_109 : decode cX5_bodyOf 109 = .ok (.ireturn, 1) := by decide +kernel
theorem dX5_bodyOf_110 : decode cX5_bodyOf 110 = .ok (.aload_n 0, 1) := by decide +kernel
theorem dX5_bodyOf_111 : decode cX5_bodyOf 111 = .ok (.iload_n 1, 1) := by decide +kernel
theorem dX5_bodyOf_112 : decode cX5_bodyOf 112 = .ok (.invokevirtual 72, 3) := by decide +kernel
theorem dX5_bodyOf_115 : decode cX5_bodyOf 115 = .ok (.ireturn, 1) := by decide +kernel
theorem dX5_bodyOf_116 : decode cX5_bodyOf 116 = .ok (.aload_n 0, 1) := by decide +kernel
theorem dX5_bodyOf_117 : decode cX5_bodyOf 117 = .ok (.iload_n 1, 1) := by decide +kernel
theorem dX5_bodyOf_118 : decode cX5_bodyOf 118 = .ok (.iconst 0, 1) := by decide +kernel
theorem dX5_bodyOf_119 : decode cX5_bodyOf 119 = .ok (.invokevirtual 75, 3) := by decide +kernel
theorem dX5_bodyOf_122 : decode cX5_bodyOf 122 = .ok (.ireturn, 1) := by decide +kernel
theorem dX5_bodyOf_123 : decode cX5_bodyOf 123 = .ok (.aload_n 0, 1) := by decide +kernel
theorem dX5_bodyOf_124 : decode cX5_bodyOf 124 = .ok (.iload_n 1, 1) := by decide +kernel
theorem dX5_bodyOf_125 : decode cX5_bodyOf 125 = .ok (.invokevirtual 152, 3) := by decide +kernel
theorem dX5_bodyOf_128 : decode cX5_bodyOf 128 = .ok (.ireturn, 1) := by decide +kernel
theorem dX5_bodyOf_129 : decode cX5_bodyOf 129 = .ok (.aload_n 0, 1) := by decide +kernel
theorem dX5_bodyOf_130 : decode cX5_bodyOf 130 = .ok (.iload_n 1, 1) := by decide +kernel
theorem dX5_bodyOf_131 : decode cX5_bodyOf 131 = .ok (.invokevirtual 101, 3) := by decide +kernel
theorem dX5_bodyOf_134 : decode cX5_bodyOf 134 = .ok (.ireturn, 1) := by decide +kernel
theorem dX5_bodyOf_135 : decode cX5_bodyOf 135 = .ok (.aload_n 0, 1) := by decide +kernel
theorem dX5_bodyOf_136 : decode cX5_bodyOf 136 = .ok (.iload_n 1, 1) := by decide +kernel
theorem dX5_bodyOf_137 : decode cX5_bodyOf 137 = .ok (.invokevirtual 155, 3) := by decide +kernel
theorem dX5_bodyOf_140 : decode cX5_bodyOf 140 = .ok (.ifCond .eq 7, 3) := by decide +kernel
theorem dX5_bodyOf_143 : decode cX5_bodyOf 143 = .ok (.iconst 1, 1) := by decide +kernel
theorem dX5_bodyOf_144 : decode cX5_bodyOf 144 = .ok (.goto 4, 3) := by decide +kernel
theorem dX5_bodyOf_147 : decode cX5_bodyOf 147 = .ok (.iconst 0, 1) := by decide +kernel
theorem dX5_bodyOf_148 : decode cX5_bodyOf 148 = .ok (.ireturn, 1) := by decide +kernel
theorem dX5_bodyOf_149 : decode cX5_bodyOf 149 = .ok (.aload_n 0, 1) := by decide +kernel
theorem dX5_bodyOf_150 : decode cX5_bodyOf 150 = .ok (.iload_n 1, 1) := by decide +kernel
theorem dX5_bodyOf_151 : decode cX5_bodyOf 151 = .ok (.iload_n 2, 1) := by decide +kernel
theorem dX5_bodyOf_152 : decode cX5_bodyOf 152 = .ok (.bipush 10, 2) := by decide +kernel
theorem dX5_bodyOf_154 : decode cX5_bodyOf 154 = .ok (.isub, 1) := by decide +kernel
theorem dX5_bodyOf_155 : decode cX5_bodyOf 155 = .ok (.invokevirtual 158, 3) := by decide +kernel
theorem dX5_bodyOf_158 : decode cX5_bodyOf 158 = .ok (.ireturn, 1) := by decide +kernel
set_option maxRecDepth 20000 in
theorem ggX5_parts_X5_isBody : GoodIn wsX5_parts wsX5_isBody := goodIn_r _ [7, 8, 9, 10, 6, 11, 36, 37, 38, 39, 40, 41, 42, 43, 44, 45] (by decide +kernel) (by decide +kernel)
set_option maxRecDepth 20000 in
theorem gX5_parts_X5_isBody : GoodIn wsX5_parts (wsV RX5 133 RX5 yX5_isBody wsX5_isBody) := goodIn_app (goodIn_of _ (by decide +kernel)) ggX5_parts_X5_isBody
set_option maxRecDepth 20000 in
theorem ggX5_parts_X5_in : GoodIn wsX5_parts wsX5_in := goodIn_r _ [11] (by decide +kernel) (by decide +kernel)
set_option maxRecDepth 20000 in
theorem gX5_parts_X5_in : GoodIn wsX5_parts (va_wsS RX5 26 yX5_in wsX5_in) := goodIn_app (goodIn_of _ (by decide +kernel)) ggX5_parts_X5_in
set_option maxRecDepth 20000 in
theorem ggX5_parts_X5_parting : GoodIn wsX5_parts wsX5_parting := goodIn_r _ [15, 16, 17, 18, 6, 19, 8, 20, 21, 22, 23, 24, 25, 26, 27, 28, 29, 30, 31, 32, 33, 34, 35, 36, 37, 38, 39, 40, 41, 42, 43, 44, 45] (by decide +kernel) (by decide +kernel)
set_option maxRecDepth 20000 in
theorem gX5_parts_X5_parting : GoodIn wsX5_parts (wsV RX5 49 RX5 yX5_parting wsX5_parting) := goodIn_app (goodIn_of _ (by decide +kernel)) ggX5_parts_X5_parting
set_option maxRecDepth 20000 in
theorem ggX5_parts_X5_nearest : GoodIn wsX5_parts wsX5_nearest := goodIn_r _ [23, 16, 17, 18, 6, 19, 8, 24, 25, 26, 27, 28, 29, 30, 31, 32, 33, 34, 35, 36, 37, 38, 39, 40, 41, 42, 43, 44, 45] (by decide +kernel) (by decide +kernel)
set_option maxRecDepth 20000 in
theorem gX5_parts_X5_nearest : GoodIn wsX5_parts (wsV RX5 45 RX5 yX5_nearest wsX5_nearest) := goodIn_app (goodIn_of _ (by decide +kernel)) ggX5_parts_X5_nearest
set_option maxRecDepth 20000 in
theorem ggX5_parts_X5_side : GoodIn wsX5_parts wsX5_side := goodIn_r _ [27, 28, 29, 30, 6, 31, 8, 16, 17, 18, 19, 32, 33, 34, 35, 36, 37, 38, 39, 40, 41, 42, 43, 44, 45] (by decide +kernel) (by decide +kernel)
set_option maxRecDepth 20000 in
theorem gX5_parts_X5_side : GoodIn wsX5_parts (wsV RX5 41 RX5 yX5_side wsX5_side) := goodIn_app (goodIn_of _ (by decide +kernel)) ggX5_parts_X5_side
theorem dX5_parts_0 : decode cX5_parts 0 = .ok (.aload_n 0, 1) := by decide +kernel
theorem dX5_parts_1 : decode cX5_parts 1 = .ok (.iload_n 1, 1) := by decide +kernel
theorem dX5_parts_2 : decode cX5_parts 2 = .ok (.invokevirtual 133, 3) := by decide +kernel
theorem dX5_parts_5 : decode cX5_parts 5 = .ok (.ifCond .eq 28, 3) := by decide +kernel
theorem dX5_parts_8 : decode cX5_parts 8 = .ok (.aload_n 0, 1) := by decide +kernel
theorem dX5_parts_9 : decode cX5_parts 9 = .ok (.iload_n 2, 1) := by decide +kernel
theorem dX5_parts_10 : decode cX5_parts 10 = .ok (.invokevirtual 133, 3) := by decide +kernel
theorem dX5_parts_13 : decode cX5_parts 13 = .ok (.ifCond .eq 20, 3) := by decide +kernel
theorem dX5_parts_16 : decode cX5_parts 16 = .ok (.iload_n 1, 1) := by decide +kernel
theorem dX5_parts_17 : decode cX5_parts 17 = .ok (.iload_n 2, 1) := by decide +kernel
theorem dX5_parts_18 : decode cX5_parts 18 = .ok (.if_icmp .eq 15, 3) := by decide +kernel
theorem dX5_parts_21 : decode cX5_parts 21 = .ok (.iload_n 3, 1) := by decide +kernel
theorem dX5_parts_22 : decode cX5_parts 22 = .ok (.i2l, 1) := by decide +kernel
theorem dX5_parts_23 : decode cX5_parts 23 = .ok (.lconst 0, 1) := by decide +kernel
theorem dX5_parts_24 : decode cX5_parts 24 = .ok (.ldc2_w 161, 3) := by decide +kernel
theorem dX5_parts_27 : decode cX5_parts 27 = .ok (.invokestatic 26, 3) := by decide +kernel
theorem dX5_parts_30 : decode cX5_parts 30 = .ok (.ifCond .ne 6, 3) := by decide +kernel
theorem dX5_parts_33 : decode cX5_parts 33 = .ok (.ldc 120, 2) := by decide +kernel
theorem dX5_parts_35 : decode cX5_parts 35 = .ok (.ireturn, 1) := by decide +kernel
theorem dX5_parts_36 : decode cX5_parts 36 = .ok (.aload_n 0, 1) := by decide +kernel
theorem dX5_parts_37 : decode cX5_parts 37 = .ok (.iload_n 1, 1) := by decide +kernel
theorem dX5_parts_38 : decode cX5_parts 38 = .ok (.iload_n 2, 1) := by decide +kernel
theorem dX5_parts_39 : decode cX5_parts 39 = .ok (.iconst 0, 1) := by decide +kernel
theorem dX5_parts_40 : decode cX5_parts 40 = .ok (.invokevirtual 49, 3) := by decide +kernel
theorem dX5_parts_43 : decode cX5_parts 43 = .ok (.istore 4, 2) := by decide +kernel
theorem dX5_parts_45 : decode cX5_parts 45 = .ok (.iload 4, 2) := by decide +kernel
theorem dX5_parts_47 : decode cX5_parts 47 = .ok (.iconst (-1), 1) := by decide +kernel
theorem dX5_parts_48 : decode cX5_parts 48 = .ok (.if_icmp .eq 7, 3) := by decide +kernel
theorem dX5_parts_51 : decode cX5_parts 51 = .ok (.iload_n 1, 1) := by decide +kernel
theorem dX5_parts_52 : decode cX5_parts 52 = .ok (.goto 4, 3) := by decide +kernel
theorem dX5_parts_55 : decode cX5_parts 55 = .ok (.iload_n 2, 1) := by decide +kernel
theorem dX5_parts_56 : decode cX5_parts 56 = .ok (.istore 5, 2) := by decide +kernel
theorem dX5_parts_58 : decode cX5_parts 58 = .ok (.iload 4, 2) := by decide +kernel
theorem dX5_parts_60 : decode cX5_parts 60 = .ok (.iconst (-1), 1) := by decide +kernel
theorem dX5_parts_61 : decode cX5_parts 61 = .ok (.if_icmp .eq 7, 3) := by decide +kernel
theorem dX5_parts_64 : decode cX5_parts 64 = .ok (.iload_n 2, 1) := by decide +kernel
theorem dX5_parts_65 : decode cX5_parts 65 = .ok (.goto 4, 3) := by decide +kernel
theorem dX5_parts_68 : decode cX5_parts 68 = .ok (.iload_n 1, 1) := by decide +kernel
theorem dX5_parts_69 : decode cX5_parts 69 = .ok (.istore 6, 2) := by decide +kernel
theorem dX5_parts_71 : decode cX5_parts 71 = .ok (.iload 4, 2) := by decide +kernel
theorem dX5_parts_73 : decode cX5_parts 73 = .ok (.iconst (-1), 1) := by decide +kernel
theorem dX5_parts_74 : decode cX5_parts 74 = .ok (.if_icmp .eq 8, 3) := by decide +kernel
theorem dX5_parts_77 : decode cX5_parts 77 = .ok (.iload 4, 2) := by decide +kernel
theorem dX5_parts_79 : decode cX5_parts 79 = .ok (.goto 10, 3) := by decide +kernel
theorem dX5_parts_82 : decode cX5_parts 82 = .ok (.aload_n 0, 1) := by decide +kernel
theorem dX5_parts_83 : decode cX5_parts 83 = .ok (.iload_n 2, 1) := by decide +kernel
theorem dX5_parts_84 : decode cX5_parts 84 = .ok (.iload_n 1, 1) := by decide +kernel
theorem dX5_parts_85 : decode cX5_parts 85 = .ok (.iconst 0, 1) := by decide +kernel
theorem dX5_parts_86 : decode cX5_parts 86 = .ok (.invokevirtual 49, 3) := by decide +kernel
theorem dX5_parts_89 : decode cX5_parts 89 = .ok (.istore 7, 2) := by decide +kernel
theorem dX5_parts_91 : decode cX5_parts 91 = .ok (.aload_n 0, 1) := by decide +kernel
theorem dX5_parts_92 : decode cX5_parts 92 = .ok (.iload 5, 2) := by decide +kernel
theorem dX5_parts_94 : decode cX5_parts 94 = .ok (.iload 7, 2) := by decide +kernel
theorem dX5_parts_96 : decode cX5_parts 96 = .ok (.iload 6, 2) := by decide +kernel
theorem dX5_parts_98 : decode cX5_parts 98 = .ok (.invokevirtual 45, 3) := by decide +kernel
theorem dX5_parts_101 : decode cX5_parts 101 = .ok (.istore 8, 2) := by decide +kernel
theorem dX5_parts_103 : decode cX5_parts 103 = .ok (.iload_n 3, 1) := by decide +kernel
theorem dX5_parts_104 : decode cX5_parts 104 = .ok (.ifCond .ne 22, 3) := by decide +kernel
theorem dX5_parts_107 : decode cX5_parts 107 = .ok (.iload 4, 2) := by decide +kernel
theorem dX5_parts_109 : decode cX5_parts 109 = .ok (.iconst (-1), 1) := by decide +kernel
theorem dX5_parts_110 : decode cX5_parts 110 = .ok (.if_icmp .eq 8, 3) := by decide +kernel
theorem dX5_parts_113 : decode cX5_parts 113 = .ok (.iload 7, 2) := by decide +kernel
theorem dX5_parts_115 : decode cX5_parts 115 = .ok (.goto 34, 3) := by decide +kernel
theorem dX5_parts_118 : decode cX5_parts 118 = .ok (.iload 7, 2) := by decide +kernel
theorem dX5_parts_120 : decode cX5_parts 120 = .ok (.bipush 10, 2) := by decide +kernel
theorem dX5_parts_122 : decode cX5_parts 122 = .ok (.iadd, 1) := by decide +kernel
theorem dX5_parts_123 : decode cX5_parts 123 = .ok (.goto 26, 3) := by decide +kernel
theorem dX5_parts_126 : decode cX5_parts 126 = .ok (.iload_n 3, 1) := by decide +kernel
theorem dX5_parts_127 : decode cX5_parts 127 = .ok (.iconst 1, 1) := by decide +kernel
theorem dX5_parts_128 : decode cX5_parts 128 = .ok (.if_icmp .ne 8, 3) := by decide +kernel
theorem dX5_parts_131 : decode cX5_parts 131 = .ok (.iload 8, 2) := by decide +kernel
theorem dX5_parts_133 : decode cX5_parts 133 = .ok (.goto 16, 3) := by decide +kernel
theorem dX5_parts_136 : decode cX5_parts 136 = .ok (.aload_n 0, 1) := by decide +kernel
theorem dX5_parts_137 : decode cX5_parts 137 = .ok (.iload 5, 2) := by decide +kernel
theorem dX5_parts_139 : decode cX5_parts 139 = .ok (.iload 7, 2) := by decide +kernel
theorem dX5_parts_141 : decode cX5_parts 141 = .ok (.iload 6, 2) := by decide +kernel
theorem dX5_parts_143 : decode cX5_parts 143 = .ok (.iload 8, 2) := by decide +kernel
theorem dX5_parts_145 : decode cX5_parts 145 = .ok (.invokevirtual 41, 3) := by decide +kernel
theorem dX5_parts_148 : decode cX5_parts 148 = .ok (.ineg, 1) := by decide +kernel
theorem dX5_parts_149 : decode cX5_parts 149 = .ok (.ireturn, 1) := by decide +kernel
set_option maxRecDepth 20000 in
theorem ggX5_way_X5_isBody : GoodIn wsX5_way wsX5_isBody := goodIn_r _ [7, 8, 9, 10, 6, 11, 103, 104, 105, 106, 107, 108, 109, 110, 111, 112] (by decide +kernel) (by decide +kernel)
set_option maxRecDepth 20000 in
theorem gX5_way_X5_isBody : GoodIn wsX5_way (wsV RX5 133 RX5 yX5_isBody wsX5_isBody) := goodIn_app (goodIn_of _ (by decide +kernel)) ggX5_way_X5_isBody
set_option maxRecDepth 20000 in
theorem ggX5_way_X5_isDirection : GoodIn wsX5_way wsX5_isDirection := goodIn_r _ [14, 15, 9, 10, 6, 11] (by decide +kernel) (by decide +kernel)
set_option maxRecDepth 20000 in
theorem gX5_way_X5_isDirection : GoodIn wsX5_way (va_wsS RX5 140 yX5_isDirection wsX5_isDirection) := goodIn_app (goodIn_of _ (by decide +kernel)) ggX5_way_X5_isDirection
set_option maxRecDepth 20000 in
theorem ggX5_way_X5_in : GoodIn wsX5_way wsX5_in := goodIn_r _ [11] (by decide +kernel) (by decide +kernel)
set_option maxRecDepth 20000 in
theorem gX5_way_X5_in : GoodIn wsX5_way (va_wsS RX5 26 yX5_in wsX5_in) := goodIn_app (goodIn_of _ (by decide +kernel)) ggX5_way_X5_in
set_option maxRecDepth 20000 in
theorem ggX5_way_X5_keep : GoodIn wsX5_way wsX5_keep := goodIn_r _ [19, 20, 8, 103, 104, 105, 106, 107, 108, 109, 110, 111, 112] (by decide +kernel) (by decide +kernel)
set_option maxRecDepth 20000 in
theorem gX5_way_X5_keep : GoodIn wsX5_way (wsV RX5 122 RX5 yX5_keep wsX5_keep) := goodIn_app (goodIn_of _ (by decide +kernel)) ggX5_way_X5_keep
set_option maxRecDepth 20000 in
theorem ggX5_way_X5_slides : GoodIn wsX5_way wsX5_slides := goodIn_r _ [24, 25, 26, 27, 6, 28, 29, 30, 31, 32, 33, 34, 35, 36, 37, 38, 8, 39, 40, 41, 42, 43, 44, 45, 46, 47, 48, 49, 50, 51, 52, 53, 54, 55, 56, 57, 58, 59, 60, 61, 62, 63, 64, 65, 66, 67, 68, 69, 70, 71, 72, 73, 74, 75, 76, 77, 78, 79, 80, 81, 82, 83, 84, 85, 86, 87, 88, 89, 90, 91, 92, 93, 94, 95, 96, 97, 98, 103, 104, 105, 106, 107, 108, 109, 110, 111, 112] (by decide +kernel) (by decide +kernel)
set_option maxRecDepth 20000 in
theorem gX5_way_X5_slides : GoodIn wsX5_way (wsV RX5 106 RX5 yX5_slides wsX5_slides) := goodIn_app (goodIn_of _ (by decide +kernel)) ggX5_way_X5_slides
set_option maxRecDepth 20000 in
theorem ggX5_way_X5_dx : GoodIn wsX5_way wsX5_dx := goodIn_r _ [31] (by decide +kernel) (by decide +kernel)
set_option maxRecDepth 20000 in
theorem gX5_way_X5_dx : GoodIn wsX5_way (va_wsS RX5 81 yX5_dx wsX5_dx) := goodIn_app (goodIn_of _ (by decide +kernel)) ggX5_way_X5_dx
set_option maxRecDepth 20000 in
theorem ggX5_way_X5_dy : GoodIn wsX5_way wsX5_dy := goodIn_r _ [34] (by decide +kernel) (by decide +kernel)
set_option maxRecDepth 20000 in
theorem gX5_way_X5_dy : GoodIn wsX5_way (va_wsS RX5 84 yX5_dy wsX5_dy) := goodIn_app (goodIn_of _ (by decide +kernel)) ggX5_way_X5_dy
set_option maxRecDepth 20000 in
theorem ggX5_way_X5_moves : GoodIn wsX5_way wsX5_moves := goodIn_r _ [38, 8, 39, 40, 41, 6, 42, 103, 104, 105, 106, 107, 108, 109, 110, 111, 112] (by decide +kernel) (by decide +kernel)
set_option maxRecDepth 20000 in
theorem gX5_way_X5_moves : GoodIn wsX5_way (wsV RX5 87 RX5 yX5_moves wsX5_moves) := goodIn_app (goodIn_of _ (by decide +kernel)) ggX5_way_X5_moves
set_option maxRecDepth 20000 in
theorem ggX5_way_X5_overlapped : GoodIn wsX5_way wsX5_overlapped := goodIn_r _ [74, 8, 75, 76, 77, 6, 78, 79, 80, 81, 82, 39, 40, 41, 42, 83, 84, 85, 86, 87, 88, 89, 90, 91, 92, 93, 94, 95, 96, 97, 98, 103, 104, 105, 106, 107, 108, 109, 110, 111, 112] (by decide +kernel) (by decide +kernel)
set_option maxRecDepth 20000 in
theorem gX5_way_X5_overlapped : GoodIn wsX5_way (wsV RX5 78 RX5 yX5_overlapped wsX5_overlapped) := goodIn_app (goodIn_of _ (by decide +kernel)) ggX5_way_X5_overlapped
set_option maxRecDepth 20000 in
theorem ggX5_way_X5_wallsBy : GoodIn wsX5_way wsX5_wallsBy := goodIn_r _ [50, 8, 51, 52, 53, 6, 54, 55, 56, 57, 58, 39, 40, 41, 42, 59, 60, 61, 62, 63, 64, 65, 66, 67, 68, 69, 70, 103, 104, 105, 106, 107, 108, 109, 110, 111, 112] (by decide +kernel) (by decide +kernel)
set_option maxRecDepth 20000 in
theorem gX5_way_X5_wallsBy : GoodIn wsX5_way (wsV RX5 75 RX5 yX5_wallsBy wsX5_wallsBy) := goodIn_app (goodIn_of _ (by decide +kernel)) ggX5_way_X5_wallsBy
set_option maxRecDepth 20000 in
theorem ggX5_way_X5_giveBack : GoodIn wsX5_way wsX5_giveBack := goodIn_r _ [102, 8, 20, 103, 104, 105, 106, 107, 108, 109, 110, 111, 112] (by decide +kernel) (by decide +kernel)
set_option maxRecDepth 20000 in
theorem gX5_way_X5_giveBack : GoodIn wsX5_way (wsV RX5 143 RX5 yX5_giveBack wsX5_giveBack) := goodIn_app (goodIn_of _ (by decide +kernel)) ggX5_way_X5_giveBack
theorem dX5_way_0 : decode cX5_way 0 = .ok (.aload_n 0, 1) := by decide +kernel
theorem dX5_way_1 : decode cX5_way 1 = .ok (.iload_n 1, 1) := by decide +kernel
theorem dX5_way_2 : decode cX5_way 2 = .ok (.invokevirtual 133, 3) := by decide +kernel
theorem dX5_way_5 : decode cX5_way 5 = .ok (.ifCond .eq 22, 3) := by decide +kernel
theorem dX5_way_8 : decode cX5_way 8 = .ok (.iload_n 2, 1) := by decide +kernel
theorem dX5_way_9 : decode cX5_way 9 = .ok (.invokestatic 140, 3) := by decide +kernel
theorem dX5_way_12 : decode cX5_way 12 = .ok (.ifCond .eq 15, 3) := by decide +kernel
theorem dX5_way_15 : decode cX5_way 15 = .ok (.iload_n 3, 1) := by decide +kernel
theorem dX5_way_16 : decode cX5_way 16 = .ok (.i2l, 1) := by decide +kernel
theorem dX5_way_17 : decode cX5_way 17 = .ok (.lconst 0, 1) := by decide +kernel
theorem dX5_way_18 : decode cX5_way 18 = .ok (.ldc2_w 161, 3) := by decide +kernel
theorem dX5_way_21 : decode cX5_way 21 = .ok (.invokestatic 26, 3) := by decide +kernel
theorem dX5_way_24 : decode cX5_way 24 = .ok (.ifCond .ne 6, 3) := by decide +kernel
theorem dX5_way_27 : decode cX5_way 27 = .ok (.ldc 120, 2) := by decide +kernel
theorem dX5_way_29 : decode cX5_way 29 = .ok (.ireturn, 1) := by decide +kernel
theorem dX5_way_30 : decode cX5_way 30 = .ok (.aload_n 0, 1) := by decide +kernel
theorem dX5_way_31 : decode cX5_way 31 = .ok (.invokevirtual 122, 3) := by decide +kernel
theorem dX5_way_34 : decode cX5_way 34 = .ok (.aload_n 0, 1) := by decide +kernel
theorem dX5_way_35 : decode cX5_way 35 = .ok (.iload_n 1, 1) := by decide +kernel
theorem dX5_way_36 : decode cX5_way 36 = .ok (.iload_n 2, 1) := by decide +kernel
theorem dX5_way_37 : decode cX5_way 37 = .ok (.bipush 61, 2) := by decide +kernel
theorem dX5_way_39 : decode cX5_way 39 = .ok (.invokevirtual 106, 3) := by decide +kernel
theorem dX5_way_42 : decode cX5_way 42 = .ok (.istore 4, 2) := by decide +kernel
theorem dX5_way_44 : decode cX5_way 44 = .ok (.aload_n 0, 1) := by decide +kernel
