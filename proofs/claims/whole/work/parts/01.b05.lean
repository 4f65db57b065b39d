set_option maxRecDepth 20000 in
theorem gX5_isParted_X5_parting : GoodIn wsX5_isParted (wsV RX5 49 RX5 yX5_parting wsX5_parting) := goodIn_app (goodIn_of _ (by decide +kernel)) ggX5_isParted_X5_parting
theorem dX5_isParted_0 : decode cX5_isParted 0 = .ok (.aload_n 0, 1) := by decide +kernel
theorem dX5_isParted_1 : decode cX5_isParted 1 = .ok (.iload_n 1, 1) := by decide +kernel
theorem dX5_isParted_2 : decode cX5_isParted 2 = .ok (.iload_n 2, 1) := by decide +kernel
theorem dX5_isParted_3 : decode cX5_isParted 3 = .ok (.iload_n 3, 1) := by decide +kernel
theorem dX5_isParted_4 : decode cX5_isParted 4 = .ok (.invokevirtual 49, 3) := by decide +kernel
theorem dX5_isParted_7 : decode cX5_isParted 7 = .ok (.iconst (-1), 1) := by decide +kernel
theorem dX5_isParted_8 : decode cX5_isParted 8 = .ok (.if_icmp .ne 14, 3) := by decide +kernel
theorem dX5_isParted_11 : decode cX5_isParted 11 = .ok (.aload_n 0, 1) := by decide +kernel
theorem dX5_isParted_12 : decode cX5_isParted 12 = .ok (.iload_n 2, 1) := by decide +kernel
theorem dX5_isParted_13 : decode cX5_isParted 13 = .ok (.iload_n 1, 1) := by decide +kernel
theorem dX5_isParted_14 : decode cX5_isParted 14 = .ok (.iload_n 3, 1) := by decide +kernel
theorem dX5_isParted_15 : decode cX5_isParted 15 = .ok (.invokevirtual 49, 3) := by decide +kernel
theorem dX5_isParted_18 : decode cX5_isParted 18 = .ok (.iconst (-1), 1) := by decide +kernel
theorem dX5_isParted_19 : decode cX5_isParted 19 = .ok (.if_icmp .eq 7, 3) := by decide +kernel
theorem dX5_isParted_22 : decode cX5_isParted 22 = .ok (.iconst 1, 1) := by decide +kernel
theorem dX5_isParted_23 : decode cX5_isParted 23 = .ok (.goto 4, 3) := by decide +kernel
theorem dX5_isParted_26 : decode cX5_isParted 26 = .ok (.iconst 0, 1) := by decide +kernel
theorem dX5_isParted_27 : decode cX5_isParted 27 = .ok (.ireturn, 1) := by decide +kernel
set_option maxRecDepth 20000 in
theorem ggX5_touch_X5_isParted : GoodIn wsX5_touch wsX5_isParted := goodIn_r _ [5, 6, 7, 8, 4, 9, 10, 11, 12, 13, 14, 15, 16, 17, 18, 19, 20, 21, 22, 23, 24, 25, 26, 27, 28, 29, 30, 31, 32, 33, 34, 35, 36, 37, 38, 39, 40] (by decide +kernel) (by decide +kernel)
set_option maxRecDepth 20000 in
theorem gX5_touch_X5_isParted : GoodIn wsX5_touch (wsV RX5 52 RX5 yX5_isParted wsX5_isParted) := goodIn_app (goodIn_of _ (by decide +kernel)) ggX5_touch_X5_isParted
theorem dX5_touch_0 : decode cX5_touch 0 = .ok (.aload_n 0, 1) := by decide +kernel
theorem dX5_touch_1 : decode cX5_touch 1 = .ok (.iload_n 1, 1) := by decide +kernel
theorem dX5_touch_2 : decode cX5_touch 2 = .ok (.iload_n 2, 1) := by decide +kernel
theorem dX5_touch_3 : decode cX5_touch 3 = .ok (.iconst 0, 1) := by decide +kernel
theorem dX5_touch_4 : decode cX5_touch 4 = .ok (.invokevirtual 52, 3) := by decide +kernel
theorem dX5_touch_7 : decode cX5_touch 7 = .ok (.ifCond .eq 17, 3) := by decide +kernel
theorem dX5_touch_10 : decode cX5_touch 10 = .ok (.aload_n 0, 1) := by decide +kernel
theorem dX5_touch_11 : decode cX5_touch 11 = .ok (.iload_n 1, 1) := by decide +kernel
theorem dX5_touch_12 : decode cX5_touch 12 = .ok (.iload_n 2, 1) := by decide +kernel
theorem dX5_touch_13 : decode cX5_touch 13 = .ok (.iconst (-1), 1) := by decide +kernel
theorem dX5_touch_14 : decode cX5_touch 14 = .ok (.invokevirtual 52, 3) := by decide +kernel
theorem dX5_touch_17 : decode cX5_touch 17 = .ok (.ifCond .ne 7, 3) := by decide +kernel
theorem dX5_touch_20 : decode cX5_touch 20 = .ok (.iconst 1, 1) := by decide +kernel
theorem dX5_touch_21 : decode cX5_touch 21 = .ok (.goto 4, 3) := by decide +kernel
theorem dX5_touch_24 : decode cX5_touch 24 = .ok (.iconst 0, 1) := by decide +kernel
theorem dX5_touch_25 : decode cX5_touch 25 = .ok (.ireturn, 1) := by decide +kernel
set_option maxRecDepth 20000 in
theorem ggX5_overlapped_X5_isParted : GoodIn wsX5_overlapped wsX5_isParted := goodIn_r _ [6, 7, 8, 9, 5, 10, 11, 12, 13, 14, 1, 15, 16, 17, 18, 19, 20, 21, 22, 23, 24, 25, 26, 27, 28, 29, 30, 31, 32, 33, 34, 35, 36, 37, 38, 39, 40] (by decide +kernel) (by decide +kernel)
set_option maxRecDepth 20000 in
theorem gX5_overlapped_X5_isParted : GoodIn wsX5_overlapped (wsV RX5 52 RX5 yX5_isParted wsX5_isParted) := goodIn_app (goodIn_of _ (by decide +kernel)) ggX5_overlapped_X5_isParted
theorem dX5_overlapped_0 : decode cX5_overlapped 0 = .ok (.iconst 0, 1) := by decide +kernel
theorem dX5_overlapped_1 : decode cX5_overlapped 1 = .ok (.istore_n 2, 1) := by decide +kernel
theorem dX5_overlapped_2 : decode cX5_overlapped 2 = .ok (.iconst 0, 1) := by decide +kernel
theorem dX5_overlapped_3 : decode cX5_overlapped 3 = .ok (.istore_n 3, 1) := by decide +kernel
theorem dX5_overlapped_4 : decode cX5_overlapped 4 = .ok (.iload_n 3, 1) := by decide +kernel
theorem dX5_overlapped_5 : decode cX5_overlapped 5 = .ok (.aload_n 0, 1) := by decide +kernel
theorem dX5_overlapped_6 : decode cX5_overlapped 6 = .ok (.getfield 7, 3) := by decide +kernel
theorem dX5_overlapped_9 : decode cX5_overlapped 9 = .ok (.iconst 2, 1) := by decide +kernel
theorem dX5_overlapped_10 : decode cX5_overlapped 10 = .ok (.iaload, 1) := by decide +kernel
theorem dX5_overlapped_11 : decode cX5_overlapped 11 = .ok (.if_icmp .ge 34, 3) := by decide +kernel
theorem dX5_overlapped_14 : decode cX5_overlapped 14 = .ok (.iload_n 2, 1) := by decide +kernel
theorem dX5_overlapped_15 : decode cX5_overlapped 15 = .ok (.iload_n 3, 1) := by decide +kernel
theorem dX5_overlapped_16 : decode cX5_overlapped 16 = .ok (.iload_n 1, 1) := by decide +kernel
theorem dX5_overlapped_17 : decode cX5_overlapped 17 = .ok (.if_icmp .eq 19, 3) := by decide +kernel
theorem dX5_overlapped_20 : decode cX5_overlapped 20 = .ok (.aload_n 0, 1) := by decide +kernel
theorem dX5_overlapped_21 : decode cX5_overlapped 21 = .ok (.iload_n 1, 1) := by decide +kernel
theorem dX5_overlapped_22 : decode cX5_overlapped 22 = .ok (.iload_n 3, 1) := by decide +kernel
theorem dX5_overlapped_23 : decode cX5_overlapped 23 = .ok (.iconst 0, 1) := by decide +kernel
theorem dX5_overlapped_24 : decode cX5_overlapped 24 = .ok (.invokevirtual 52, 3) := by decide +kernel
theorem dX5_overlapped_27 : decode cX5_overlapped 27 = .ok (.ifCond .ne 9, 3) := by decide +kernel
theorem dX5_overlapped_30 : decode cX5_overlapped 30 = .ok (.iconst 1, 1) := by decide +kernel
theorem dX5_overlapped_31 : decode cX5_overlapped 31 = .ok (.iload_n 3, 1) := by decide +kernel
theorem dX5_overlapped_32 : decode cX5_overlapped 32 = .ok (.ishl, 1) := by decide +kernel
theorem dX5_overlapped_33 : decode cX5_overlapped 33 = .ok (.goto 4, 3) := by decide +kernel
theorem dX5_overlapped_36 : decode cX5_overlapped 36 = .ok (.iconst 0, 1) := by decide +kernel
theorem dX5_overlapped_37 : decode cX5_overlapped 37 = .ok (.ior, 1) := by decide +kernel
theorem dX5_overlapped_38 : decode cX5_overlapped 38 = .ok (.istore_n 2, 1) := by decide +kernel
theorem dX5_overlapped_39 : decode cX5_overlapped 39 = .ok (.iinc 3 1, 3) := by decide +kernel
theorem dX5_overlapped_42 : decode cX5_overlapped 42 = .ok (.goto (-38), 3) := by decide +kernel
theorem dX5_overlapped_45 : decode cX5_overlapped 45 = .ok (.iload_n 2, 1) := by decide +kernel
theorem dX5_overlapped_46 : decode cX5_overlapped 46 = .ok (.ireturn, 1) := by decide +kernel
set_option maxRecDepth 20000 in
theorem ggX5_touched_X5_touch : GoodIn wsX5_touched wsX5_touch := goodIn_r _ [6, 7, 8, 9, 5, 10, 11, 12, 13, 14, 15, 16, 17, 18, 1, 19, 20, 21, 22, 23, 24, 25, 26, 27, 28, 29, 30, 31, 32, 33, 34, 35, 36, 37, 38, 39, 40, 41, 42, 43, 44] (by decide +kernel) (by decide +kernel)
set_option maxRecDepth 20000 in
theorem gX5_touched_X5_touch : GoodIn wsX5_touched (wsV RX5 56 RX5 yX5_touch wsX5_touch) := goodIn_app (goodIn_of _ (by decide +kernel)) ggX5_touched_X5_touch
theorem dX5_touched_0 : decode cX5_touched 0 = .ok (.iconst 0, 1) := by decide +kernel
theorem dX5_touched_1 : decode cX5_touched 1 = .ok (.istore_n 2, 1) := by decide +kernel
theorem dX5_touched_2 : decode cX5_touched 2 = .ok (.iconst 0, 1) := by decide +kernel
theorem dX5_touched_3 : decode cX5_touched 3 = .ok (.istore_n 3, 1) := by decide +kernel
theorem dX5_touched_4 : decode cX5_touched 4 = .ok (.iload_n 3, 1) := by decide +kernel
theorem dX5_touched_5 : decode cX5_touched 5 = .ok (.aload_n 0, 1) := by decide +kernel
theorem dX5_touched_6 : decode cX5_touched 6 = .ok (.getfield 7, 3) := by decide +kernel
theorem dX5_touched_9 : decode cX5_touched 9 = .ok (.iconst 2, 1) := by decide +kernel
theorem dX5_touched_10 : decode cX5_touched 10 = .ok (.iaload, 1) := by decide +kernel
theorem dX5_touched_11 : decode cX5_touched 11 = .ok (.if_icmp .ge 33, 3) := by decide +kernel
theorem dX5_touched_14 : decode cX5_touched 14 = .ok (.iload_n 2, 1) := by decide +kernel
theorem dX5_touched_15 : decode cX5_touched 15 = .ok (.iload_n 3, 1) := by decide +kernel
theorem dX5_touched_16 : decode cX5_touched 16 = .ok (.iload_n 1, 1) := by decide +kernel
theorem dX5_touched_17 : decode cX5_touched 17 = .ok (.if_icmp .eq 18, 3) := by decide +kernel
theorem dX5_touched_20 : decode cX5_touched 20 = .ok (.aload_n 0, 1) := by decide +kernel
theorem dX5_touched_21 : decode cX5_touched 21 = .ok (.iload_n 1, 1) := by decide +kernel
theorem dX5_touched_22 : decode cX5_touched 22 = .ok (.iload_n 3, 1) := by decide +kernel
theorem dX5_touched_23 : decode cX5_touched 23 = .ok (.invokevirtual 56, 3) := by decide +kernel
theorem dX5_touched_26 : decode cX5_touched 26 = .ok (.ifCond .eq 9, 3) := by decide +kernel
theorem dX5_touched_29 : decode cX5_touched 29 = .ok (.iconst 1, 1) := by decide +kernel
theorem dX5_touched_30 : decode cX5_touched 30 = .ok (.iload_n 3, 1) := by decide +kernel
theorem dX5_touched_31 : decode cX5_touched 31 = .ok (.ishl, 1) := by decide +kernel
theorem dX5_touched_32 : decode cX5_touched 32 = .ok (.goto 4, 3) := by decide +kernel
theorem dX5_touched_35 : decode cX5_touched 35 = .ok (.iconst 0, 1) := by decide +kernel
theorem dX5_touched_36 : decode cX5_touched 36 = .ok (.ior, 1) := by decide +kernel
theorem dX5_touched_37 : decode cX5_touched 37 = .ok (.istore_n 2, 1) := by decide +kernel
theorem dX5_touched_38 : decode cX5_touched 38 = .ok (.iinc 3 1, 3) := by decide +kernel
theorem dX5_touched_41 : decode cX5_touched 41 = .ok (.goto (-37), 3) := by decide +kernel
theorem dX5_touched_44 : decode cX5_touched 44 = .ok (.iload_n 2, 1) := by decide +kernel
theorem dX5_touched_45 : decode cX5_touched 45 = .ok (.ireturn, 1) := by decide +kernel
set_option maxRecDepth 20000 in
theorem ggX5_extreme_X5_corners : GoodIn wsX5_extreme wsX5_corners := goodIn_r _ [6, 1, 7, 8, 9, 10, 11, 12, 13, 14, 15, 16] (by decide +kernel) (by decide +kernel)
set_option maxRecDepth 20000 in
theorem gX5_extreme_X5_corners : GoodIn wsX5_extreme (wsV RX5 30 RX5 yX5_corners wsX5_corners) := goodIn_app (goodIn_of _ (by decide +kernel)) ggX5_extreme_X5_corners
theorem dX5_extreme_0 : decode cX5_extreme 0 = .ok (.iload_n 3, 1) := by decide +kernel
theorem dX5_extreme_1 : decode cX5_extreme 1 = .ok (.aload_n 0, 1) := by decide +kernel
theorem dX5_extreme_2 : decode cX5_extreme 2 = .ok (.getfield 7, 3) := by decide +kernel
theorem dX5_extreme_5 : decode cX5_extreme 5 = .ok (.iload_n 2, 1) := by decide +kernel
theorem dX5_extreme_6 : decode cX5_extreme 6 = .ok (.bipush 6, 2) := by decide +kernel
theorem dX5_extreme_8 : decode cX5_extreme 8 = .ok (.iload_n 1, 1) := by decide +kernel
theorem dX5_extreme_9 : decode cX5_extreme 9 = .ok (.imul, 1) := by decide +kernel
theorem dX5_extreme_10 : decode cX5_extreme 10 = .ok (.iadd, 1) := by decide +kernel
theorem dX5_extreme_11 : decode cX5_extreme 11 = .ok (.iaload, 1) := by decide +kernel
theorem dX5_extreme_12 : decode cX5_extreme 12 = .ok (.imul, 1) := by decide +kernel
theorem dX5_extreme_13 : decode cX5_extreme 13 = .ok (.istore 4, 2) := by decide +kernel
theorem dX5_extreme_15 : decode cX5_extreme 15 = .ok (.iconst 1, 1) := by decide +kernel
theorem dX5_extreme_16 : decode cX5_extreme 16 = .ok (.istore 5, 2) := by decide +kernel
theorem dX5_extreme_18 : decode cX5_extreme 18 = .ok (.iload 5, 2) := by decide +kernel
theorem dX5_extreme_20 : decode cX5_extreme 20 = .ok (.aload_n 0, 1) := by decide +kernel
theorem dX5_extreme_21 : decode cX5_extreme 21 = .ok (.iload_n 1, 1) := by decide +kernel
theorem dX5_extreme_22 : decode cX5_extreme 22 = .ok (.invokevirtual 30, 3) := by decide +kernel
theorem dX5_extreme_25 : decode cX5_extreme 25 = .ok (.if_icmp .ge 43, 3) := by decide +kernel
theorem dX5_extreme_28 : decode cX5_extreme 28 = .ok (.iload_n 3, 1) := by decide +kernel
theorem dX5_extreme_29 : decode cX5_extreme 29 = .ok (.aload_n 0, 1) := by decide +kernel
theorem dX5_extreme_30 : decode cX5_extreme 30 = .ok (.getfield 7, 3) := by decide +kernel
theorem dX5_extreme_33 : decode cX5_extreme 33 = .ok (.iload_n 2, 1) := by decide +kernel
theorem dX5_extreme_34 : decode cX5_extreme 34 = .ok (.bipush 6, 2) := by decide +kernel
theorem dX5_extreme_36 : decode cX5_extreme 36 = .ok (.iload_n 1, 1) := by decide +kernel
theorem dX5_extreme_37 : decode cX5_extreme 37 = .ok (.imul, 1) := by decide +kernel
theorem dX5_extreme_38 : decode cX5_extreme 38 = .ok (.iadd, 1) := by decide +kernel
theorem dX5_extreme_39 : decode cX5_extreme 39 = .ok (.iload 5, 2) := by decide +kernel
theorem dX5_extreme_41 : decode cX5_extreme 41 = .ok (.iadd, 1) := by decide +kernel
theorem dX5_extreme_42 : decode cX5_extreme 42 = .ok (.iaload, 1) := by decide +kernel
theorem dX5_extreme_43 : decode cX5_extreme 43 = .ok (.imul, 1) := by decide +kernel
theorem dX5_extreme_44 : decode cX5_extreme 44 = .ok (.istore 6, 2) := by decide +kernel
theorem dX5_extreme_46 : decode cX5_extreme 46 = .ok (.iload 6, 2) := by decide +kernel
theorem dX5_extreme_48 : decode cX5_extreme 48 = .ok (.iload 4, 2) := by decide +kernel
theorem dX5_extreme_50 : decode cX5_extreme 50 = .ok (.if_icmp .le 8, 3) := by decide +kernel
theorem dX5_extreme_53 : decode cX5_extreme 53 = .ok (.iload 6, 2) := by decide +kernel
theorem dX5_extreme_55 : decode cX5_extreme 55 = .ok (.goto 5, 3) := by decide +kernel
theorem dX5_extreme_58 : decode cX5_extreme 58 = .ok (.iload 4, 2) := by decide +kernel
theorem dX5_extreme_60 : decode cX5_extreme 60 = .ok (.istore 4, 2) := by decide +kernel
theorem dX5_extreme_62 : decode cX5_extreme 62 = .ok (.iinc 5 1, 3) := by decide +kernel
theorem dX5_extreme_65 : decode cX5_extreme 65 = .ok (.goto (-47), 3) := by decide +kernel
theorem dX5_extreme_68 : decode cX5_extreme 68 = .ok (.iload_n 3, 1) := by decide +kernel
theorem dX5_extreme_69 : decode cX5_extreme 69 = .ok (.iload 4, 2) := by decide +kernel
theorem dX5_extreme_71 : decode cX5_extreme 71 = .ok (.imul, 1) := by decide +kernel
theorem dX5_extreme_72 : decode cX5_extreme 72 = .ok (.ireturn, 1) := by decide +kernel
set_option maxRecDepth 20000 in
theorem ggX5_leastX_X5_extreme : GoodIn wsX5_leastX wsX5_extreme := goodIn_r _ [5, 6, 7, 8, 9, 4, 10, 11, 12, 13, 14, 15, 16, 17, 18, 19, 20] (by decide +kernel) (by decide +kernel)
set_option maxRecDepth 20000 in
theorem gX5_leastX_X5_extreme : GoodIn wsX5_leastX (wsV RX5 60 RX5 yX5_extreme wsX5_extreme) := goodIn_app (goodIn_of _ (by decide +kernel)) ggX5_leastX_X5_extreme
theorem dX5_leastX_0 : decode cX5_leastX 0 = .ok (.aload_n 0, 1) := by decide +kernel
theorem dX5_leastX_1 : decode cX5_leastX 1 = .ok (.iload_n 1, 1) := by decide +kernel
theorem dX5_leastX_2 : decode cX5_leastX 2 = .ok (.bipush 12, 2) := by decide +kernel
theorem dX5_leastX_4 : decode cX5_leastX 4 = .ok (.iconst (-1), 1) := by decide +kernel
theorem dX5_leastX_5 : decode cX5_leastX 5 = .ok (.invokevirtual 60, 3) := by decide +kernel
theorem dX5_leastX_8 : decode cX5_leastX 8 = .ok (.ireturn, 1) := by decide +kernel
set_option maxRecDepth 20000 in
theorem ggX5_greatestX_X5_extreme : GoodIn wsX5_greatestX wsX5_extreme := goodIn_r _ [5, 6, 7, 8, 9, 4, 10, 11, 12, 13, 14, 15, 16, 17, 18, 19, 20] (by decide +kernel) (by decide +kernel)
set_option maxRecDepth 20000 in
theorem gX5_greatestX_X5_extreme : GoodIn wsX5_greatestX (wsV RX5 60 RX5 yX5_extreme wsX5_extreme) := goodIn_app (goodIn_of _ (by decide +kernel)) ggX5_greatestX_X5_extreme
theorem dX5_greatestX_0 : decode cX5_greatestX 0 = .ok (.aload_n 0, 1) := by decide +kernel
theorem dX5_greatestX_1 : decode cX5_greatestX 1 = .ok (.iload_n 1, 1) := by decide +kernel
theorem dX5_greatestX_2 : decode cX5_greatestX 2 = .ok (.bipush 12, 2) := by decide +kernel
theorem dX5_greatestX_4 : decode cX5_greatestX 4 = .ok (.iconst 1, 1) := by decide +kernel
theorem dX5_greatestX_5 : decode cX5_greatestX 5 = .ok (.invokevirtual 60, 3) := by decide +kernel
theorem dX5_greatestX_8 : decode cX5_greatestX 8 = .ok (.ireturn, 1) := by decide +kernel
set_option maxRecDepth 20000 in
theorem ggX5_leastY_X5_extreme : GoodIn wsX5_leastY wsX5_extreme := goodIn_r _ [5, 6, 7, 8, 9, 4, 10, 11, 12, 13, 14, 15, 16, 17, 18, 19, 20] (by decide +kernel) (by decide +kernel)
set_option maxRecDepth 20000 in
theorem gX5_leastY_X5_extreme : GoodIn wsX5_leastY (wsV RX5 60 RX5 yX5_extreme wsX5_extreme) := goodIn_app (goodIn_of _ (by decide +kernel)) ggX5_leastY_X5_extreme
theorem dX5_leastY_0 : decode cX5_leastY 0 = .ok (.aload_n 0, 1) := by decide +kernel
theorem dX5_leastY_1 : decode cX5_leastY 1 = .ok (.iload_n 1, 1) := by decide +kernel
theorem dX5_leastY_2 : decode cX5_leastY 2 = .ok (.bipush 66, 2) := by decide +kernel
theorem dX5_leastY_4 : decode cX5_leastY 4 = .ok (.iconst (-1), 1) := by decide +kernel
theorem dX5_leastY_5 : decode cX5_leastY 5 = .ok (.invokevirtual 60, 3) := by decide +kernel
theorem dX5_leastY_8 : decode cX5_leastY 8 = .ok (.ireturn, 1) := by decide +kernel
set_option maxRecDepth 20000 in
theorem ggX5_greatestY_X5_extreme : GoodIn wsX5_greatestY wsX5_extreme := goodIn_r _ [5, 6, 7, 8, 9, 4, 10, 11, 12, 13, 14, 15, 16, 17, 18, 19, 20] (by decide +kernel) (by decide +kernel)
set_option maxRecDepth 20000 in
theorem gX5_greatestY_X5_extreme : GoodIn wsX5_greatestY (wsV RX5 60 RX5 yX5_extreme wsX5_extreme) := goodIn_app (goodIn_of _ (by decide +kernel)) ggX5_greatestY_X5_extreme
theorem dX5_greatestY_0 : decode cX5_greatestY 0 = .ok (.aload_n 0, 1) := by decide +kernel
theorem dX5_greatestY_1 : decode cX5_greatestY 1 = .ok (.iload_n 1, 1) := by decide +kernel
theorem dX5_greatestY_2 : decode cX5_greatestY 2 = .ok (.bipush 66, 2) := by decide +kernel
theorem dX5_greatestY_4 : decode cX5_greatestY 4 = .ok (.iconst 1, 1) := by decide +kernel
theorem dX5_greatestY_5 : decode cX5_greatestY 5 = .ok (.invokevirtual 60, 3) := by decide +kernel
theorem dX5_greatestY_8 : decode cX5_greatestY 8 = .ok (.ireturn, 1) := by decide +kernel
set_option maxRecDepth 20000 in
theorem ggX5_wallsBy_X5_leastX : GoodIn wsX5_wallsBy wsX5_leastX := goodIn_r _ [6, 7, 8, 9, 5, 10, 1, 11, 12, 13, 14, 27, 28, 29, 30, 31, 32, 33, 34, 35, 36] (by decide +kernel) (by decide +kernel)
set_option maxRecDepth 20000 in
theorem gX5_wallsBy_X5_leastX : GoodIn wsX5_wallsBy (wsV RX5 63 RX5 yX5_leastX wsX5_leastX) := goodIn_app (goodIn_of _ (by decide +kernel)) ggX5_wallsBy_X5_leastX
set_option maxRecDepth 20000 in
theorem ggX5_wallsBy_X5_greatestX : GoodIn wsX5_wallsBy wsX5_greatestX := goodIn_r _ [18, 7, 8, 9, 5, 10, 1, 11, 12, 13, 14, 27, 28, 29, 30, 31, 32, 33, 34, 35, 36] (by decide +kernel) (by decide +kernel)
set_option maxRecDepth 20000 in
theorem gX5_wallsBy_X5_greatestX : GoodIn wsX5_wallsBy (wsV RX5 66 RX5 yX5_greatestX wsX5_greatestX) := goodIn_app (goodIn_of _ (by decide +kernel)) ggX5_wallsBy_X5_greatestX
set_option maxRecDepth 20000 in
theorem ggX5_wallsBy_X5_leastY : GoodIn wsX5_wallsBy wsX5_leastY := goodIn_r _ [22, 7, 8, 9, 5, 10, 1, 11, 12, 13, 14, 27, 28, 29, 30, 31, 32, 33, 34, 35, 36] (by decide +kernel) (by decide +kernel)
set_option maxRecDepth 20000 in
theorem gX5_wallsBy_X5_leastY : GoodIn wsX5_wallsBy (wsV RX5 69 RX5 yX5_leastY wsX5_leastY) := goodIn_app (goodIn_of _ (by decide +kernel)) ggX5_wallsBy_X5_leastY
set_option maxRecDepth 20000 in
theorem ggX5_wallsBy_X5_greatestY : GoodIn wsX5_wallsBy wsX5_greatestY := goodIn_r _ [26, 7, 8, 9, 5, 10, 1, 11, 12, 13, 14, 27, 28, 29, 30, 31, 32, 33, 34, 35, 36] (by decide +kernel) (by decide +kernel)
set_option maxRecDepth 20000 in
theorem gX5_wallsBy_X5_greatestY : GoodIn wsX5_wallsBy (wsV RX5 72 RX5 yX5_greatestY wsX5_greatestY) := goodIn_app (goodIn_of _ (by decide +kernel)) ggX5_wallsBy_X5_greatestY
theorem dX5_wallsBy_0 : decode cX5_wallsBy 0 = .ok (.aload_n 0, 1) := by decide +kernel
theorem dX5_wallsBy_1 : decode cX5_wallsBy 1 = .ok (.iload_n 1, 1) := by decide +kernel
theorem dX5_wallsBy_2 : decode cX5_wallsBy 2 = .ok (.invokevirtual 63, 3) := by decide +kernel
theorem dX5_wallsBy_5 : decode cX5_wallsBy 5 = .ok (.iload_n 2, 1) := by decide +kernel
theorem dX5_wallsBy_6 : decode cX5_wallsBy 6 = .ok (.ineg, 1) := by decide +kernel
theorem dX5_wallsBy_7 : decode cX5_wallsBy 7 = .ok (.if_icmp .gt 7, 3) := by decide +kernel
theorem dX5_wallsBy_10 : decode cX5_wallsBy 10 = .ok (.iconst 1, 1) := by decide +kernel
theorem dX5_wallsBy_11 : decode cX5_wallsBy 11 = .ok (.goto 4, 3) := by decide +kernel
theorem dX5_wallsBy_14 : decode cX5_wallsBy 14 = .ok (.iconst 0, 1) := by decide +kernel
theorem dX5_wallsBy_15 : decode cX5_wallsBy 15 = .ok (.istore_n 3, 1) := by decide +kernel
theorem dX5_wallsBy_16 : decode cX5_wallsBy 16 = .ok (.iload_n 3, 1) := by decide +kernel
theorem dX5_wallsBy_17 : decode cX5_wallsBy 17 = .ok (.aload_n 0, 1) := by decide +kernel
theorem dX5_wallsBy_18 : decode cX5_wallsBy 18 = .ok (.iload_n 1, 1) := by decide +kernel
theorem dX5_wallsBy_19 : decode cX5_wallsBy 19 = .ok (.invokevirtual 66, 3) := by decide +kernel
theorem dX5_wallsBy_22 : decode cX5_wallsBy 22 = .ok (.aload_n 0, 1) := by decide +kernel
theorem dX5_wallsBy_23 : decode cX5_wallsBy 23 = .ok (.getfield 7, 3) := by decide +kernel
theorem dX5_wallsBy_26 : decode cX5_wallsBy 26 = .ok (.iconst 0, 1) := by decide +kernel
theorem dX5_wallsBy_27 : decode cX5_wallsBy 27 = .ok (.iaload, 1) := by decide +kernel
theorem dX5_wallsBy_28 : decode cX5_wallsBy 28 = .ok (.iload_n 2, 1) := by decide +kernel
theorem dX5_wallsBy_29 : decode cX5_wallsBy 29 = .ok (.iadd, 1) := by decide +kernel
theorem dX5_wallsBy_30 : decode cX5_wallsBy 30 = .ok (.if_icmp .lt 7, 3) := by decide +kernel
theorem dX5_wallsBy_33 : decode cX5_wallsBy 33 = .ok (.iconst 2, 1) := by decide +kernel
theorem dX5_wallsBy_34 : decode cX5_wallsBy 34 = .ok (.goto 4, 3) := by decide +kernel
theorem dX5_wallsBy_37 : decode cX5_wallsBy 37 = .ok (.iconst 0, 1) := by decide +kernel
theorem dX5_wallsBy_38 : decode cX5_wallsBy 38 = .ok (.ior, 1) := by decide +kernel
theorem dX5_wallsBy_39 : decode cX5_wallsBy 39 = .ok (.istore_n 3, 1) := by decide +kernel
theorem dX5_wallsBy_40 : decode cX5_wallsBy 40 = .ok (.iload_n 3, 1) := by decide +kernel
theorem dX5_wallsBy_41 : decode cX5_wallsBy 41 = .ok (.aload_n 0, 1) := by decide +kernel
theorem dX5_wallsBy_42 : decode cX5_wallsBy 42 = .ok (.iload_n 1, 1) := by decide +kernel
theorem dX5_wallsBy_43 : decode cX5_wallsBy 43 = .ok (.invokevirtual 69, 3) := by decide +kernel
theorem dX5_wallsBy_46 : decode cX5_wallsBy 46 = .ok (.iload_n 2, 1) := by decide +kernel
theorem dX5_wallsBy_47 : decode cX5_wallsBy 47 = .ok (.ineg, 1) := by decide +kernel
theorem dX5_wallsBy_48 : decode cX5_wallsBy 48 = .ok (.if_icmp .gt 7, 3) := by decide +kernel
theorem dX5_wallsBy_51 : decode cX5_wallsBy 51 = .ok (.iconst 4, 1) := by decide +kernel
theorem dX5_wallsBy_52 : decode cX5_wallsBy 52 = .ok (.goto 4, 3) := by decide +kernel
theorem dX5_wallsBy_55 : decode cX5_wallsBy 55 = .ok (.iconst 0, 1) := by decide +kernel
theorem dX5_wallsBy_56 : decode cX5_wallsBy 56 = .ok (.ior, 1) := by decide +kernel
theorem dX5_wallsBy_57 : decode cX5_wallsBy 57 = .ok (.istore_n 3, 1) := by decide +kernel
theorem dX5_wallsBy_58 : decode cX5_wallsBy 58 = .ok (.iload_n 3, 1) := by decide +kernel
theorem dX5_wallsBy_59 : decode cX5_wallsBy 59 = .ok (.aload_n 0, 1) := by decide +kernel
theorem dX5_wallsBy_60 : decode cX5_wallsBy 60 = .ok (.iload_n 1, 1) := by decide +kernel
theorem dX5_wallsBy_61 : decode cX5_wallsBy 61 = .ok (.invokevirtual 72, 3) := by decide +kernel
theorem dX5_wallsBy_64 : decode cX5_wallsBy 64 = .ok (.aload_n 0, 1) := by decide +kernel
theorem dX5_wallsBy_65 : decode cX5_wallsBy 65 = .ok (.getfield 7, 3) := by decide +kernel
theorem dX5_wallsBy_68 : decode cX5_wallsBy 68 = .ok (.iconst 1, 1) := by decide +kernel
theorem dX5_wallsBy_69 : decode cX5_wallsBy 69 = .ok (.iaload, 1) := by decide +kernel
theorem dX5_wallsBy_70 : decode cX5_wallsBy 70 = .ok (.iload_n 2, 1) := by decide +kernel
theorem dX5_wallsBy_71 : decode cX5_wallsBy 71 = .ok (.iadd, 1) := by decide +kernel
theorem dX5_wallsBy_72 : decode cX5_wallsBy 72 = .ok (.if_icmp .lt 8, 3) := by decide +kernel
theorem dX5_wallsBy_75 : decode cX5_wallsBy 75 = .ok (.bipush 8, 2) := by decide +kernel
theorem dX5_wallsBy_77 : decode cX5_wallsBy 77 = .ok (.goto 4, 3) := by decide +kernel
theorem dX5_wallsBy_80 : decode cX5_wallsBy 80 = .ok (.iconst 0, 1) := by decide +kernel
theorem dX5_wallsBy_81 : decode cX5_wallsBy 81 = .ok (.ior, 1) := by decide +kernel
theorem dX5_wallsBy_82 : decode cX5_wallsBy 82 = .ok (.istore_n 3, 1) := by decide +kernel
theorem dX5_wallsBy_83 : decode cX5_wallsBy 83 = .ok (.iload_n 3, 1) := by decide +kernel
theorem dX5_wallsBy_84 : decode cX5_wallsBy 84 = .ok (.ireturn, 1) := by decide +kernel
set_option maxRecDepth 20000 in
theorem ggX5_fits_X5_wallsBy : GoodIn wsX5_fits wsX5_wallsBy := goodIn_r _ [5, 6, 7, 8, 9, 4, 10, 11, 12, 13, 14, 15, 16, 17, 18, 19, 20, 21, 22, 23, 24, 25, 26, 27, 28, 29, 30, 59, 60, 61, 62, 63, 64, 65, 66, 67, 68] (by decide +kernel) (by decide +kernel)
set_option maxRecDepth 20000 in
theorem gX5_fits_X5_wallsBy : GoodIn wsX5_fits (wsV RX5 75 RX5 yX5_wallsBy wsX5_wallsBy) := goodIn_app (goodIn_of _ (by decide +kernel)) ggX5_fits_X5_wallsBy
set_option maxRecDepth 20000 in
theorem ggX5_fits_X5_overlapped : GoodIn wsX5_fits wsX5_overlapped := goodIn_r _ [34, 6, 35, 36, 37, 4, 38, 39, 40, 41, 42, 15, 16, 17, 18, 43, 44, 45, 46, 47, 48, 49, 50, 51, 52, 53, 54, 55, 56, 57, 58, 59, 60, 61, 62, 63, 64, 65, 66, 67, 68] (by decide +kernel) (by decide +kernel)
set_option maxRecDepth 20000 in
theorem gX5_fits_X5_overlapped : GoodIn wsX5_fits (wsV RX5 78 RX5 yX5_overlapped wsX5_overlapped) := goodIn_app (goodIn_of _ (by decide +kernel)) ggX5_fits_X5_overlapped
theorem dX5_fits_0 : decode cX5_fits 0 = .ok (.aload_n 0, 1) := by decide +kernel
theorem dX5_fits_1 : decode cX5_fits 1 = .ok (.iload_n 1, 1) := by decide +kernel
theorem dX5_fits_2 : decode cX5_fits 2 = .ok (.iconst 1, 1) := by decide +kernel
theorem dX5_fits_3 : decode cX5_fits 3 = .ok (.invokevirtual 75, 3) := by decide +kernel
theorem dX5_fits_6 : decode cX5_fits 6 = .ok (.ifCond .ne 15, 3) := by decide +kernel
theorem dX5_fits_9 : decode cX5_fits 9 = .ok (.aload_n 0, 1) := by decide +kernel
theorem dX5_fits_10 : decode cX5_fits 10 = .ok (.iload_n 1, 1) := by decide +kernel
theorem dX5_fits_11 : decode cX5_fits 11 = .ok (.invokevirtual 78, 3) := by decide +kernel
theorem dX5_fits_14 : decode cX5_fits 14 = .ok (.ifCond .ne 7, 3) := by decide +kernel
theorem dX5_fits_17 : decode cX5_fits 17 = .ok (.iconst 1, 1) := by decide +kernel
theorem dX5_fits_18 : decode cX5_fits 18 = .ok (.goto 4, 3) := by decide +kernel
theorem dX5_fits_21 : decode cX5_fits 21 = .ok (.iconst 0, 1) := by decide +kernel
theorem dX5_fits_22 : decode cX5_fits 22 = .ok (.ireturn, 1) := by decide +kernel
theorem dX5_dx_0 : decode cX5_dx 0 = .ok (.iload_n 0, 1) := by decide +kernel
theorem dX5_dx_1 : decode cX5_dx 1 = .ok (.iconst 2, 1) := by decide +kernel
theorem dX5_dx_2 : decode cX5_dx 2 = .ok (.if_icmp .eq 9, 3) := by decide +kernel
theorem dX5_dx_5 : decode cX5_dx 5 = .ok (.iload_n 0, 1) := by decide +kernel
theorem dX5_dx_6 : decode cX5_dx 6 = .ok (.bipush 6, 2) := by decide +kernel
theorem dX5_dx_8 : decode cX5_dx 8 = .ok (.if_icmp .ne 7, 3) := by decide +kernel
theorem dX5_dx_11 : decode cX5_dx 11 = .ok (.iconst 0, 1) := by decide +kernel
theorem dX5_dx_12 : decode cX5_dx 12 = .ok (.goto 19, 3) := by decide +kernel
theorem dX5_dx_15 : decode cX5_dx 15 = .ok (.iload_n 0, 1) := by decide +kernel
theorem dX5_dx_16 : decode cX5_dx 16 = .ok (.iconst 2, 1) := by decide +kernel
theorem dX5_dx_17 : decode cX5_dx 17 = .ok (.if_icmp .le 13, 3) := by decide +kernel
theorem dX5_dx_20 : decode cX5_dx 20 = .ok (.iload_n 0, 1) := by decide +kernel
theorem dX5_dx_21 : decode cX5_dx 21 = .ok (.bipush 6, 2) := by decide +kernel
theorem dX5_dx_23 : decode cX5_dx 23 = .ok (.if_icmp .ge 7, 3) := by decide +kernel
theorem dX5_dx_26 : decode cX5_dx 26 = .ok (.iconst (-1), 1) := by decide +kernel
theorem dX5_dx_27 : decode cX5_dx 27 = .ok (.goto 4, 3) := by decide +kernel
theorem dX5_dx_30 : decode cX5_dx 30 = .ok (.iconst 1, 1) := by decide +kernel
theorem dX5_dx_31 : decode cX5_dx 31 = .ok (.ireturn, 1) := by decide +kernel
theorem dX5_dy_0 : decode cX5_dy 0 = .ok (.iload_n 0, 1) := by decide +kernel
theorem dX5_dy_1 : decode cX5_dy 1 = .ok (.iconst 4, 1) := by decide +kernel
theorem dX5_dy_2 : decode cX5_dy 2 = .ok (.irem, 1) := by decide +kernel
theorem dX5_dy_3 : decode cX5_dy 3 = .ok (.ifCond .ne 7, 3) := by decide +kernel
theorem dX5_dy_6 : decode cX5_dy 6 = .ok (.iconst 0, 1) := by decide +kernel
theorem dX5_dy_7 : decode cX5_dy 7 = .ok (.goto 13, 3) := by decide +kernel
theorem dX5_dy_10 : decode cX5_dy 10 = .ok (.iload_n 0, 1) := by decide +kernel
theorem dX5_dy_11 : decode cX5_dy 11 = .ok (.iconst 4, 1) := by decide +kernel
theorem dX5_dy_12 : decode cX5_dy 12 = .ok (.if_icmp .ge 7, 3) := by decide +kernel
theorem dX5_dy_15 : decode cX5_dy 15 = .ok (.iconst 1, 1) := by decide +kernel
theorem dX5_dy_16 : decode cX5_dy 16 = .ok (.goto 4, 3) := by decide +kernel
theorem dX5_dy_19 : decode cX5_dy 19 = .ok (.iconst (-1), 1) := by decide +kernel
theorem dX5_dy_20 : decode cX5_dy 20 = .ok (.ireturn, 1) := by decide +kernel
set_option maxRecDepth 20000 in
theorem ggX5_steps_X5_dx : GoodIn wsX5_steps wsX5_dx := goodIn_r _ [4] (by decide +kernel) (by decide +kernel)
set_option maxRecDepth 20000 in
theorem gX5_steps_X5_dx : GoodIn wsX5_steps (va_wsS RX5 81 yX5_dx wsX5_dx) := goodIn_app (goodIn_of _ (by decide +kernel)) ggX5_steps_X5_dx
set_option maxRecDepth 20000 in
theorem ggX5_steps_X5_dy : GoodIn wsX5_steps wsX5_dy := goodIn_r _ [7] (by decide +kernel) (by decide +kernel)
set_option maxRecDepth 20000 in
theorem gX5_steps_X5_dy : GoodIn wsX5_steps (va_wsS RX5 84 yX5_dy wsX5_dy) := goodIn_app (goodIn_of _ (by decide +kernel)) ggX5_steps_X5_dy
set_option maxRecDepth 20000 in
theorem ggX5_steps_X5_moves : GoodIn wsX5_steps wsX5_moves := goodIn_r _ [11, 12, 13, 14, 15, 3, 16, 73, 74, 75, 76, 77, 78, 79, 80, 81, 82] (by decide +kernel) (by decide +kernel)
set_option maxRecDepth 20000 in
theorem gX5_steps_X5_moves : GoodIn wsX5_steps (wsV RX5 87 RX5 yX5_moves wsX5_moves) := goodIn_app (goodIn_of _ (by decide +kernel)) ggX5_steps_X5_moves
set_option maxRecDepth 20000 in
theorem ggX5_steps_X5_fits : GoodIn wsX5_steps wsX5_fits := goodIn_r _ [20, 21, 22, 23, 3, 24, 12, 25, 26, 27, 28, 29, 30, 31, 32, 13, 14, 15, 16, 33, 34, 35, 36, 37, 38, 39, 40, 41, 42, 43, 44, 45, 46, 47, 48, 49, 50, 51, 52, 53, 54, 55, 56, 57, 58, 59, 60, 61, 62, 63, 64, 65, 66, 67, 68, 69, 70, 71, 72, 73, 74, 75, 76, 77, 78, 79, 80, 81, 82] (by decide +kernel) (by decide +kernel)
set_option maxRecDepth 20000 in
theorem gX5_steps_X5_fits : GoodIn wsX5_steps (wsV RX5 91 RX5 yX5_fits wsX5_fits) := goodIn_app (goodIn_of _ (by decide +kernel)) ggX5_steps_X5_fits
theorem dX5_steps_0 : decode cX5_steps 0 = .ok (.aload_n 0, 1) := by decide +kernel
theorem dX5_steps_1 : decode cX5_steps 1 = .ok (.iload_n 1, 1) := by decide +kernel
theorem dX5_steps_2 : decode cX5_steps 2 = .ok (.iload_n 2, 1) := by decide +kernel
theorem dX5_steps_3 : decode cX5_steps 3 = .ok (.invokestatic 81, 3) := by decide +kernel
theorem dX5_steps_6 : decode cX5_steps 6 = .ok (.iload_n 2, 1) := by decide +kernel
theorem dX5_steps_7 : decode cX5_steps 7 = .ok (.invokestatic 84, 3) := by decide +kernel
theorem dX5_steps_10 : decode cX5_steps 10 = .ok (.invokevirtual 87, 3) := by decide +kernel
theorem dX5_steps_13 : decode cX5_steps 13 = .ok (.aload_n 0, 1) := by decide +kernel
theorem dX5_steps_14 : decode cX5_steps 14 = .ok (.iload_n 1, 1) := by decide +kernel
theorem dX5_steps_15 : decode cX5_steps 15 = .ok (.invokevirtual 91, 3) := by decide +kernel
theorem dX5_steps_18 : decode cX5_steps 18 = .ok (.ifCond .eq 5, 3) := by decide +kernel
theorem dX5_steps_21 : decode cX5_steps 21 = .ok (.iconst 1, 1) := by decide +kernel
theorem dX5_steps_22 : decode cX5_steps 22 = .ok (.ireturn, 1) := by decide +kernel
theorem dX5_steps_23 : decode cX5_steps 23 = .ok (.aload_n 0, 1) := by decide +kernel
theorem dX5_steps_24 : decode cX5_steps 24 = .ok (.iload_n 1, 1) := by decide +kernel
theorem dX5_steps_25 : decode cX5_steps 25 = .ok (.iload_n 2, 1) := by decide +kernel
theorem dX5_steps_26 : decode cX5_steps 26 = .ok (.invokestatic 81, 3) := by decide +kernel
theorem dX5_steps_29 : decode cX5_steps 29 = .ok (.ineg, 1) := by decide +kernel
theorem dX5_steps_30 : decode cX5_steps 30 = .ok (.iload_n 2, 1) := by decide +kernel
theorem dX5_steps_31 : decode cX5_steps 31 = .ok (.invokestatic 84, 3) := by decide +kernel
theorem dX5_steps_34 : decode cX5_steps 34 = .ok (.ineg, 1) := by decide +kernel
theorem dX5_steps_35 : decode cX5_steps 35 = .ok (.invokevirtual 87, 3) := by decide +kernel
theorem dX5_steps_38 : decode cX5_steps 38 = .ok (.iconst 0, 1) := by decide +kernel
theorem dX5_steps_39 : decode cX5_steps 39 = .ok (.ireturn, 1) := by decide +kernel
set_option maxRecDepth 20000 in
theorem ggX5_isFree_X5_steps : GoodIn wsX5_isFree wsX5_steps := goodIn_r _ [5, 6, 7, 4, 8, 9, 10, 11, 12, 13, 14, 15, 16, 17, 18, 19, 20, 21, 22, 23, 24, 25, 26, 27, 28, 29, 30, 31, 32, 33, 34, 35, 36, 37, 38, 39, 40, 41, 42, 43, 44, 45, 46, 47, 48, 49, 50, 51, 52, 53, 54, 55, 56, 57, 58, 59, 60, 61, 62, 63, 64, 65, 66, 67, 68, 69, 70, 71, 72, 73, 74, 75, 76, 77, 78, 79, 80, 81, 82, 83, 84, 85, 86] (by decide +kernel) (by decide +kernel)
set_option maxRecDepth 20000 in
theorem gX5_isFree_X5_steps : GoodIn wsX5_isFree (wsV RX5 95 RX5 yX5_steps wsX5_steps) := goodIn_app (goodIn_of _ (by decide +kernel)) ggX5_isFree_X5_steps
set_option maxRecDepth 20000 in
theorem ggX5_isFree_X5_dx : GoodIn wsX5_isFree wsX5_dx := goodIn_r _ [8] (by decide +kernel) (by decide +kernel)
set_option maxRecDepth 20000 in
theorem gX5_isFree_X5_dx : GoodIn wsX5_isFree (va_wsS RX5 81 yX5_dx wsX5_dx) := goodIn_app (goodIn_of _ (by decide +kernel)) ggX5_isFree_X5_dx
set_option maxRecDepth 20000 in
theorem ggX5_isFree_X5_dy : GoodIn wsX5_isFree wsX5_dy := goodIn_r _ [11] (by decide +kernel) (by decide +kernel)
set_option maxRecDepth 20000 in
theorem gX5_isFree_X5_dy : GoodIn wsX5_isFree (va_wsS RX5 84 yX5_dy wsX5_dy) := goodIn_app (goodIn_of _ (by decide +kernel)) ggX5_isFree_X5_dy
set_option maxRecDepth 20000 in
theorem ggX5_isFree_X5_moves : GoodIn wsX5_isFree wsX5_moves := goodIn_r _ [15, 16, 17, 18, 19, 4, 20, 77, 78, 79, 80, 81, 82, 83, 84, 85, 86] (by decide +kernel) (by decide +kernel)
set_option maxRecDepth 20000 in
theorem gX5_isFree_X5_moves : GoodIn wsX5_isFree (wsV RX5 87 RX5 yX5_moves wsX5_moves) := goodIn_app (goodIn_of _ (by decide +kernel)) ggX5_isFree_X5_moves
theorem dX5_isFree_0 : decode cX5_isFree 0 = .ok (.aload_n 0, 1) := by decide +kernel
theorem dX5_isFree_1 : decode cX5_isFree 1 = .ok (.iload_n 1, 1) := by decide +kernel
theorem dX5_isFree_2 : decode cX5_isFree 2 = .ok (.iload_n 2, 1) := by decide +kernel
theorem dX5_isFree_3 : decode cX5_isFree 3 = .ok (.invokevirtual 95, 3) := by decide +kernel
theorem dX5_isFree_6 : decode cX5_isFree 6 = .ok (.istore_n 3, 1) := by decide +kernel
theorem dX5_isFree_7 : decode cX5_isFree 7 = .ok (.iload_n 3, 1) := by decide +kernel
theorem dX5_isFree_8 : decode cX5_isFree 8 = .ok (.ifCond .eq 18, 3) := by decide +kernel
theorem dX5_isFree_11 : decode cX5_isFree 11 = .ok (.aload_n 0, 1) := by decide +kernel
theorem dX5_isFree_12 : decode cX5_isFree 12 = .ok (.iload_n 1, 1) := by decide +kernel
theorem dX5_isFree_13 : decode cX5_isFree 13 = .ok (.iload_n 2, 1) := by decide +kernel
theorem dX5_isFree_14 : decode cX5_isFree 14 = .ok (.invokestatic 81, 3) := by decide +kernel
theorem dX5_isFree_17 : decode cX5_isFree 17 = .ok (.ineg, 1) := by decide +kernel
theorem dX5_isFree_18 : decode cX5_isFree 18 = .ok (.iload_n 2, 1) := by decide +kernel
theorem dX5_isFree_19 : decode cX5_isFree 19 = .ok (.invokestatic 84, 3) := by decide +kernel
theorem dX5_isFree_22 : decode cX5_isFree 22 = .ok (.ineg, 1) := by decide +kernel
theorem dX5_isFree_23 : decode cX5_isFree 23 = .ok (.invokevirtual 87, 3) := by decide +kernel
theorem dX5_isFree_26 : decode cX5_isFree 26 = .ok (.iload_n 3, 1) := by decide +kernel
theorem dX5_isFree_27 : decode cX5_isFree 27 = .ok (.ireturn, 1) := by decide +kernel
set_option maxRecDepth 20000 in
theorem ggX5_freeDirections_X5_isFree : GoodIn wsX5_freeDirections wsX5_isFree := goodIn_r _ [5, 6, 7, 8, 4, 9, 10, 11, 12, 13, 14, 15, 16, 17, 18, 19, 20, 21, 22, 23, 24, 25, 26, 27, 28, 29, 30, 31, 32, 33, 34, 35, 36, 37, 38, 39, 40, 41, 42, 43, 44, 45, 46, 47, 48, 49, 50, 51, 52, 53, 54, 55, 56, 57, 58, 59, 60, 61, 62, 63, 64, 65, 66, 67, 68, 69, 70, 71, 72, 73, 74, 75, 76, 77, 78, 79, 80, 81, 82, 83, 84, 85, 86, 87, 88, 89, 90] (by decide +kernel) (by decide +kernel)
set_option maxRecDepth 20000 in
theorem gX5_freeDirections_X5_isFree : GoodIn wsX5_freeDirections (wsV RX5 98 RX5 yX5_isFree wsX5_isFree) := goodIn_app (goodIn_of _ (by decide +kernel)) ggX5_freeDirections_X5_isFree
theorem dX5_freeDirections_0 : decode cX5_freeDirections 0 = .ok (.iconst 0, 1) := by decide +kernel
theorem dX5_freeDirections_1 : decode cX5_freeDirections 1 = .ok (.istore_n 2, 1) := by decide +kernel
theorem dX5_freeDirections_2 : decode cX5_freeDirections 2 = .ok (.iconst 0, 1) := by decide +kernel
theorem dX5_freeDirections_3 : decode cX5_freeDirections 3 = .ok (.istore_n 3, 1) := by decide +kernel
theorem dX5_freeDirections_4 : decode cX5_freeDirections 4 = .ok (.iload_n 3, 1) := by decide +kernel
theorem dX5_freeDirections_5 : decode cX5_freeDirections 5 = .ok (.bipush 8, 2) := by decide +kernel
theorem dX5_freeDirections_7 : decode cX5_freeDirections 7 = .ok (.if_icmp .ge 28, 3) := by decide +kernel
theorem dX5_freeDirections_10 : decode cX5_freeDirections 10 = .ok (.iload_n 2, 1) := by decide +kernel
theorem dX5_freeDirections_11 : decode cX5_freeDirections 11 = .ok (.aload_n 0, 1) := by decide +kernel
theorem dX5_freeDirections_12 : decode cX5_freeDirections 12 = .ok (.iload_n 1, 1) := by decide +kernel
theorem dX5_freeDirections_13 : decode cX5_freeDirections 13 = .ok (.iload_n 3, 1) := by decide +kernel
theorem dX5_freeDirections_14 : decode cX5_freeDirections 14 = .ok (.invokevirtual 98, 3) := by decide +kernel
theorem dX5_freeDirections_17 : decode cX5_freeDirections 17 = .ok (.ifCond .eq 9, 3) := by decide +kernel
theorem dX5_freeDirections_20 : decode cX5_freeDirections 20 = .ok (.iconst 1, 1) := by decide +kernel
theorem dX5_freeDirections_21 : decode cX5_freeDirections 21 = .ok (.iload_n 3, 1) := by decide +kernel
theorem dX5_freeDirections_22 : decode cX5_freeDirections 22 = .ok (.ishl, 1) := by decide +kernel
theorem dX5_freeDirections_23 : decode cX5_freeDirections 23 = .ok (.goto 4, 3) := by decide +kernel
theorem dX5_freeDirections_26 : decode cX5_freeDirections 26 = .ok (.iconst 0, 1) := by decide +kernel
theorem dX5_freeDirections_27 : decode cX5_freeDirections 27 = .ok (.ior, 1) := by decide +kernel
theorem dX5_freeDirections_28 : decode cX5_freeDirections 28 = .ok (.istore_n 2, 1) := by decide +kernel
theorem dX5_freeDirections_29 : decode cX5_freeDirections 29 = .ok (.iinc 3 1, 3) := by decide +kernel
theorem dX5_freeDirections_32 : decode cX5_freeDirections 32 = .ok (.goto (-28), 3) := by decide +kernel
theorem dX5_freeDirections_35 : decode cX5_freeDirections 35 = .ok (.iload_n 2, 1) := by decide +kernel
theorem dX5_freeDirections_36 : decode cX5_freeDirections 36 = .ok (.ireturn, 1) := by decide +kernel
set_option maxRecDepth 20000 in
theorem ggX5_isJammed_X5_freeDirections : GoodIn wsX5_isJammed wsX5_freeDirections := goodIn_r _ [5, 6, 7, 8, 4, 9, 10, 11, 12, 13, 14, 15, 16, 17, 18, 19, 20, 21, 22, 23, 24, 25, 26, 27, 28, 29, 30, 31, 32, 33, 34, 35, 36, 37, 38, 39, 40, 41, 42, 43, 44, 45, 46, 47, 48, 49, 50, 51, 52, 53, 54, 55, 56, 57, 58, 59, 60, 61, 62, 63, 64, 65, 66, 67, 68, 69, 70, 71, 72, 73, 74, 75, 76, 77, 78, 79, 80, 81, 82, 83, 84, 85, 86, 87, 88, 89, 90, 91, 92, 93, 94] (by decide +kernel) (by decide +kernel)
set_option maxRecDepth 20000 in
theorem gX5_isJammed_X5_freeDirections : GoodIn wsX5_isJammed (wsV RX5 101 RX5 yX5_freeDirections wsX5_freeDirections) := goodIn_app (goodIn_of _ (by decide +kernel)) ggX5_isJammed_X5_freeDirections
theorem dX5_isJammed_0 : decode cX5_isJammed 0 = .ok (.aload_n 0, 1) := by decide +kernel
theorem dX5_isJammed_1 : decode cX5_isJammed 1 = .ok (.iload_n 1, 1) := by decide +kernel
theorem dX5_isJammed_2 : decode cX5_isJammed 2 = .ok (.invokevirtual 101, 3) := by decide +kernel
theorem dX5_isJammed_5 : decode cX5_isJammed 5 = .ok (.bipush 85, 2) := by decide +kernel
theorem dX5_isJammed_7 : decode cX5_isJammed 7 = .ok (.iand, 1) := by decide +kernel
theorem dX5_isJammed_8 : decode cX5_isJammed 8 = .ok (.ifCond .ne 7, 3) := by decide +kernel
theorem dX5_isJammed_11 : decode cX5_isJammed 11 = .ok (.iconst 1, 1) := by decide +kernel
theorem dX5_isJammed_12 : decode cX5_isJammed 12 = .ok (.goto 4, 3) := by decide +kernel
theorem dX5_isJammed_15 : decode cX5_isJammed 15 = .ok (.iconst 0, 1) := by decide +kernel
theorem dX5_isJammed_16 : decode cX5_isJammed 16 = .ok (.ireturn, 1) := by decide +kernel
set_option maxRecDepth 20000 in
theorem ggX5_slides_X5_steps : GoodIn wsX5_slides wsX5_steps := goodIn_r _ [5, 6, 7, 4, 8, 9, 10, 11, 12, 13, 14, 15, 16, 17, 18, 19, 20, 21, 22, 23, 24, 25, 26, 27, 28, 29, 30, 31, 32, 33, 34, 35, 36, 37, 38, 39, 40, 41, 42, 43, 44, 45, 46, 47, 48, 49, 50, 51, 52, 53, 54, 55, 56, 57, 58, 59, 60, 61, 62, 63, 64, 65, 66, 67, 68, 69, 70, 71, 72, 73, 74, 75, 76, 77, 78, 79, 80, 81, 82, 83, 84, 85, 86] (by decide +kernel) (by decide +kernel)
set_option maxRecDepth 20000 in
theorem gX5_slides_X5_steps : GoodIn wsX5_slides (wsV RX5 95 RX5 yX5_steps wsX5_steps) := goodIn_app (goodIn_of _ (by decide +kernel)) ggX5_slides_X5_steps
theorem dX5_slides_0 : decode cX5_slides 0 = .ok (.iconst 0, 1) := by decide +kernel
theorem dX5_slides_1 : decode cX5_slides 1 = .ok (.istore 4, 2) := by decide +kernel
theorem dX5_slides_3 : decode cX5_slides 3 = .ok (.iload 4, 2) := by decide +kernel
theorem dX5_slides_5 : decode cX5_slides 5 = .ok (.iload_n 3, 1) := by decide +kernel
theorem dX5_slides_6 : decode cX5_slides 6 = .ok (.if_icmp .ge 18, 3) := by decide +kernel
theorem dX5_slides_9 : decode cX5_slides 9 = .ok (.aload_n 0, 1) := by decide +kernel
theorem dX5_slides_10 : decode cX5_slides 10 = .ok (.iload_n 1, 1) := by decide +kernel
theorem dX5_slides_11 : decode cX5_slides 11 = .ok (.iload_n 2, 1) := by decide +kernel
theorem dX5_slides_12 : decode cX5_slides 12 = .ok (.invokevirtual 95, 3) := by decide +kernel
theorem dX5_slides_15 : decode cX5_slides 15 = .ok (.ifCond .eq 9, 3) := by decide +kernel
theorem dX5_slides_18 : decode cX5_slides 18 = .ok (.iinc 4 1, 3) := by decide +kernel
theorem dX5_slides_21 : decode cX5_slides 21 = .ok (.goto (-18), 3) := by decide +kernel
theorem dX5_slides_24 : decode cX5_slides 24 = .ok (.iload 4, 2) := by decide +kernel
theorem dX5_slides_26 : decode cX5_slides 26 = .ok (.ireturn, 1) := by decide +kernel
set_option maxRecDepth 20000 in
theorem ggX5_isDirection_X5_in : GoodIn wsX5_isDirection wsX5_in := goodIn_r _ [5] (by decide +kernel) (by decide +kernel)
set_option maxRecDepth 20000 in
theorem gX5_isDirection_X5_in : GoodIn wsX5_isDirection (va_wsS RX5 26 yX5_in wsX5_in) := goodIn_app (goodIn_of _ (by decide +kernel)) ggX5_isDirection_X5_in
theorem dX5_isDirection_0 : decode cX5_isDirection 0 = .ok (.iload_n 0, 1) := by decide +kernel
theorem dX5_isDirection_1 : decode cX5_isDirection 1 = .ok (.i2l, 1) := by decide +kernel
theorem dX5_isDirection_2 : decode cX5_isDirection 2 = .ok (.lconst 0, 1) := by decide +kernel
theorem dX5_isDirection_3 : decode cX5_isDirection 3 = .ok (.ldc2_w 104, 3) := by decide +kernel
theorem dX5_isDirection_6 : decode cX5_isDirection 6 = .ok (.invokestatic 26, 3) := by decide +kernel
theorem dX5_isDirection_9 : decode cX5_isDirection 9 = .ok (.ireturn, 1) := by decide +kernel
set_option maxRecDepth 20000 in
theorem ggX5_settles_X5_slides : GoodIn wsX5_settles wsX5_slides := goodIn_r _ [6, 7, 8, 9, 5, 10, 11, 12, 13, 14, 15, 16, 17, 18, 19, 20, 1, 21, 22, 23, 24, 25, 26, 27, 28, 29, 30, 31, 32, 33, 34, 35, 36, 37, 38, 39, 40, 41, 42, 43, 44, 45, 46, 47, 48, 49, 50, 51, 52, 53, 54, 55, 56, 57, 58, 59, 60, 61, 62, 63, 64, 65, 66, 67, 68, 69, 70, 71, 72, 73, 74, 75, 76, 77, 78, 79, 80, 81, 82, 83, 84, 85, 86, 87, 88, 89, 90] (by decide +kernel) (by decide +kernel)
set_option maxRecDepth 20000 in
theorem gX5_settles_X5_slides : GoodIn wsX5_settles (wsV RX5 106 RX5 yX5_slides wsX5_slides) := goodIn_app (goodIn_of _ (by decide +kernel)) ggX5_settles_X5_slides
theorem dX5_settles_0 : decode cX5_settles 0 = .ok (.iconst 0, 1) := by decide +kernel
theorem dX5_settles_1 : decode cX5_settles 1 = .ok (.istore_n 2, 1) := by decide +kernel
theorem dX5_settles_2 : decode cX5_settles 2 = .ok (.iconst (-1), 1) := by decide +kernel
theorem dX5_settles_3 : decode cX5_settles 3 = .ok (.istore_n 3, 1) := by decide +kernel
theorem dX5_settles_4 : decode cX5_settles 4 = .ok (.iload_n 2, 1) := by decide +kernel
theorem dX5_settles_5 : decode cX5_settles 5 = .ok (.iload_n 3, 1) := by decide +kernel
theorem dX5_settles_6 : decode cX5_settles 6 = .ok (.if_icmp .eq 40, 3) := by decide +kernel
theorem dX5_settles_9 : decode cX5_settles 9 = .ok (.iload_n 2, 1) := by decide +kernel
theorem dX5_settles_10 : decode cX5_settles 10 = .ok (.istore_n 3, 1) := by decide +kernel
theorem dX5_settles_11 : decode cX5_settles 11 = .ok (.iconst 0, 1) := by decide +kernel
theorem dX5_settles_12 : decode cX5_settles 12 = .ok (.istore 4, 2) := by decide +kernel
theorem dX5_settles_14 : decode cX5_settles 14 = .ok (.iload 4, 2) := by decide +kernel
theorem dX5_settles_16 : decode cX5_settles 16 = .ok (.aload_n 0, 1) := by decide +kernel
theorem dX5_settles_17 : decode cX5_settles 17 = .ok (.getfield 7, 3) := by decide +kernel
theorem dX5_settles_20 : decode cX5_settles 20 = .ok (.iconst 2, 1) := by decide +kernel
theorem dX5_settles_21 : decode cX5_settles 21 = .ok (.iaload, 1) := by decide +kernel
theorem dX5_settles_22 : decode cX5_settles 22 = .ok (.if_icmp .ge 21, 3) := by decide +kernel
theorem dX5_settles_25 : decode cX5_settles 25 = .ok (.iload_n 2, 1) := by decide +kernel
theorem dX5_settles_26 : decode cX5_settles 26 = .ok (.aload_n 0, 1) := by decide +kernel
theorem dX5_settles_27 : decode cX5_settles 27 = .ok (.iload 4, 2) := by decide +kernel
theorem dX5_settles_29 : decode cX5_settles 29 = .ok (.iload_n 1, 1) := by decide +kernel
theorem dX5_settles_30 : decode cX5_settles 30 = .ok (.bipush 61, 2) := by decide +kernel
theorem dX5_settles_32 : decode cX5_settles 32 = .ok (.invokevirtual 106, 3) := by decide +kernel
theorem dX5_settles_35 : decode cX5_settles 35 = .ok (.iadd, 1) := by decide +kernel
theorem dX5_settles_36 : decode cX5_settles 36 = .ok (.istore_n 2, 1) := by decide +kernel
theorem dX5_settles_37 : decode cX5_settles 37 = .ok (.iinc 4 1, 3) := by decide +kernel
theorem dX5_settles_40 : decode cX5_settles 40 = .ok (.goto (-26), 3) := by decide +kernel
theorem dX5_settles_43 : decode cX5_settles 43 = .ok (.goto (-39), 3) := by decide +kernel
theorem dX5_settles_46 : decode cX5_settles 46 = .ok (.iload_n 2, 1) := by decide +kernel
theorem dX5_settles_47 : decode cX5_settles 47 = .ok (.ireturn, 1) := by decide +kernel
set_option maxRecDepth 20000 in
theorem ggX5_area_X5_corners : GoodIn wsX5_area wsX5_corners := goodIn_r _ [5, 6, 15, 16, 17, 18, 19, 20, 21, 22, 23, 24] (by decide +kernel) (by decide +kernel)
set_option maxRecDepth 20000 in
theorem gX5_area_X5_corners : GoodIn wsX5_area (wsV RX5 30 RX5 yX5_corners wsX5_corners) := goodIn_app (goodIn_of _ (by decide +kernel)) ggX5_area_X5_corners
set_option maxRecDepth 20000 in
theorem ggX5_area_X5_x : GoodIn wsX5_area wsX5_x := goodIn_r _ [10, 6, 1, 2, 3, 4, 5, 15, 16, 17, 18, 19, 20, 21, 22, 23, 24] (by decide +kernel) (by decide +kernel)
set_option maxRecDepth 20000 in
theorem gX5_area_X5_x : GoodIn wsX5_area (wsV RX5 34 RX5 yX5_x wsX5_x) := goodIn_app (goodIn_of _ (by decide +kernel)) ggX5_area_X5_x
set_option maxRecDepth 20000 in
theorem ggX5_area_X5_y : GoodIn wsX5_area wsX5_y := goodIn_r _ [14, 6, 1, 2, 3, 4, 5, 15, 16, 17, 18, 19, 20, 21, 22, 23, 24] (by decide +kernel) (by decide +kernel)
set_option maxRecDepth 20000 in
theorem gX5_area_X5_y : GoodIn wsX5_area (wsV RX5 38 RX5 yX5_y wsX5_y) := goodIn_app (goodIn_of _ (by decide +kernel)) ggX5_area_X5_y
theorem dX5_area_0 : decode cX5_area 0 = .ok (.iconst 0, 1) := by decide +kernel
theorem dX5_area_1 : decode cX5_area 1 = .ok (.istore_n 2, 1) := by decide +kernel
theorem dX5_area_2 : decode cX5_area 2 = .ok (.iconst 0, 1) := by decide +kernel
theorem dX5_area_3 : decode cX5_area 3 = .ok (.istore_n 3, 1) := by decide +kernel
theorem dX5_area_4 : decode cX5_area 4 = .ok (.iload_n 3, 1) := by decide +kernel
theorem dX5_area_5 : decode cX5_area 5 = .ok (.aload_n 0, 1) := by decide +kernel
theorem dX5_area_6 : decode cX5_area 6 = .ok (.iload_n 1, 1) := by decide +kernel
theorem dX5_area_7 : decode cX5_area 7 = .ok (.invokevirtual 30, 3) := by decide +kernel
theorem dX5_area_10 : decode cX5_area 10 = .ok (.if_icmp .ge 43, 3) := by decide +kernel
theorem dX5_area_13 : decode cX5_area 13 = .ok (.iload_n 2, 1) := by decide +kernel
theorem dX5_area_14 : decode cX5_area 14 = .ok (.aload_n 0, 1) := by decide +kernel
theorem dX5_area_15 : decode cX5_area 15 = .ok (.iload_n 1, 1) := by decide +kernel
theorem dX5_area_16 : decode cX5_area 16 = .ok (.iload_n 3, 1) := by decide +kernel
theorem dX5_area_17 : decode cX5_area 17 = .ok (.invokevirtual 34, 3) := by decide +kernel
theorem dX5_area_20 : decode cX5_area 20 = .ok (.aload_n 0, 1) := by decide +kernel
theorem dX5_area_21 : decode cX5_area 21 = .ok (.iload_n 1, 1) := by decide +kernel
theorem dX5_area_22 : decode cX5_area 22 = .ok (.iload_n 3, 1) := by decide +kernel
theorem dX5_area_23 : decode cX5_area 23 = .ok (.iconst 1, 1) := by decide +kernel
theorem dX5_area_24 : decode cX5_area 24 = .ok (.iadd, 1) := by decide +kernel
theorem dX5_area_25 : decode cX5_area 25 = .ok (.invokevirtual 38, 3) := by decide +kernel
theorem dX5_area_28 : decode cX5_area 28 = .ok (.imul, 1) := by decide +kernel
theorem dX5_area_29 : decode cX5_area 29 = .ok (.aload_n 0, 1) := by decide +kernel
theorem dX5_area_30 : decode cX5_area 30 = .ok (.iload_n 1, 1) := by decide +kernel
theorem dX5_area_31 : decode cX5_area 31 = .ok (.iload_n 3, 1) := by decide +kernel
theorem dX5_area_32 : decode cX5_area 32 = .ok (.iconst 1, 1) := by decide +kernel
theorem dX5_area_33 : decode cX5_area 33 = .ok (.iadd, 1) := by decide +kernel
theorem dX5_area_34 : decode cX5_area 34 = .ok (.invokevirtual 34, 3) := by decide +kernel
theorem dX5_area_37 : decode cX5_area 37 = .ok (.aload_n 0, 1) := by decide +kernel
theorem dX5_area_38 : decode cX5_area 38 = .ok (.iload_n 1, 1) := by decide +kernel
theorem dX5_area_39 : decode cX5_area 39 = .ok (.iload_n 3, 1) := by decide +kernel
theorem dX5_area_40 : decode cX5_area 40 = .ok (.invokevirtual 38, 3) := by decide +kernel
theorem dX5_area_43 : decode cX5_area 43 = .ok (.imul, 1) := by decide +kernel
theorem dX5_area_44 : decode cX5_area 44 = .ok (.isub, 1) := by decide +kernel
theorem dX5_area_45 : decode cX5_area 45 = .ok (.iadd, 1) := by decide +kernel
theorem dX5_area_46 : decode cX5_area 46 = .ok (.istore_n 2, 1) := by decide +kernel
theorem dX5_area_47 : decode cX5_area 47 = .ok (.iinc 3 1, 3) := by decide +kernel
theorem dX5_area_50 : decode cX5_area 50 = .ok (.goto (-46), 3) := by decide +kernel
theorem dX5_area_53 : decode cX5_area 53 = .ok (.iload_n 2, 1) := by decide +kernel
theorem dX5_area_54 : decode cX5_area 54 = .ok (.ireturn, 1) := by decide +kernel
set_option maxRecDepth 20000 in
theorem ggX5_areas_X5_area : GoodIn wsX5_areas wsX5_area := goodIn_r _ [6, 7, 8, 9, 5, 10, 1, 11, 12, 13, 14, 15, 16, 17, 18, 19, 20, 21, 22, 23, 24, 25, 26, 27, 28] (by decide +kernel) (by decide +kernel)
set_option maxRecDepth 20000 in
theorem gX5_areas_X5_area : GoodIn wsX5_areas (wsV RX5 109 RX5 yX5_area wsX5_area) := goodIn_app (goodIn_of _ (by decide +kernel)) ggX5_areas_X5_area
theorem dX5_areas_0 : decode cX5_areas 0 = .ok (.iconst 0, 1) := by decide +kernel
theorem dX5_areas_1 : decode cX5_areas 1 = .ok (.istore_n 1, 1) := by decide +kernel
theorem dX5_areas_2 : decode cX5_areas 2 = .ok (.iconst 0, 1) := by decide +kernel
theorem dX5_areas_3 : decode cX5_areas 3 = .ok (.istore_n 2, 1) := by decide +kernel
theorem dX5_areas_4 : decode cX5_areas 4 = .ok (.iload_n 2, 1) := by decide +kernel
theorem dX5_areas_5 : decode cX5_areas 5 = .ok (.aload_n 0, 1) := by decide +kernel
theorem dX5_areas_6 : decode cX5_areas 6 = .ok (.getfield 7, 3) := by decide +kernel
theorem dX5_areas_9 : decode cX5_areas 9 = .ok (.iconst 2, 1) := by decide +kernel
theorem dX5_areas_10 : decode cX5_areas 10 = .ok (.iaload, 1) := by decide +kernel
theorem dX5_areas_11 : decode cX5_areas 11 = .ok (.if_icmp .ge 17, 3) := by decide +kernel
theorem dX5_areas_14 : decode cX5_areas 14 = .ok (.iload_n 1, 1) := by decide +kernel
theorem dX5_areas_15 : decode cX5_areas 15 = .ok (.aload_n 0, 1) := by decide +kernel
theorem dX5_areas_16 : decode cX5_areas 16 = .ok (.iload_n 2, 1) := by decide +kernel
theorem dX5_areas_17 : decode cX5_areas 17 = .ok (.invokevirtual 109, 3) := by decide +kernel
theorem dX5_areas_20 : decode cX5_areas 20 = .ok (.iadd, 1) := by decide +kernel
theorem dX5_areas_21 : decode cX5_areas 21 = .ok (.istore_n 1, 1) := by decide +kernel
theorem dX5_areas_22 : decode cX5_areas 22 = .ok (.iinc 2 1, 3) := by decide +kernel
theorem dX5_areas_25 : decode cX5_areas 25 = .ok (.goto (-21), 3) := by decide +kernel
theorem dX5_areas_28 : decode cX5_areas 28 = .ok (.iload_n 1, 1) := by decide +kernel
theorem dX5_areas_29 : decode cX5_areas 29 = .ok (.ireturn, 1) := by decide +kernel
theorem dX5_copyBody_0 : decode cX5_copyBody 0 = .ok (.aload_n 0, 1) := by decide +kernel
theorem dX5_copyBody_1 : decode cX5_copyBody 1 = .ok (.getfield 7, 3) := by decide +kernel
theorem dX5_copyBody_4 : decode cX5_copyBody 4 = .ok (.iconst 3, 1) := by decide +kernel
theorem dX5_copyBody_5 : decode cX5_copyBody 5 = .ok (.iload_n 2, 1) := by decide +kernel
theorem dX5_copyBody_6 : decode cX5_copyBody 6 = .ok (.iadd, 1) := by decide +kernel
theorem dX5_copyBody_7 : decode cX5_copyBody 7 = .ok (.aload_n 0, 1) := by decide +kernel
theorem dX5_copyBody_8 : decode cX5_copyBody 8 = .ok (.getfield 7, 3) := by decide +kernel
theorem dX5_copyBody_11 : decode cX5_copyBody 11 = .ok (.iconst 3, 1) := by decide +kernel
theorem dX5_copyBody_12 : decode cX5_copyBody 12 = .ok (.iload_n 1, 1) := by decide +kernel
theorem dX5_copyBody_13 : decode cX5_copyBody 13 = .ok (.iadd, 1) := by decide +kernel
theorem dX5_copyBody_14 : decode cX5_copyBody 14 = .ok (.iaload, 1) := by decide +kernel
theorem dX5_copyBody_15 : decode cX5_copyBody 15 = .ok (.iastore, 1) := by decide +kernel
theorem dX5_copyBody_16 : decode cX5_copyBody 16 = .ok (.iconst 0, 1) := by decide +kernel
theorem dX5_copyBody_17 : decode cX5_copyBody 17 = .ok (.istore_n 3, 1) := by decide +kernel
theorem dX5_copyBody_18 : decode cX5_copyBody 18 = .ok (.iload_n 3, 1) := by decide +kernel
theorem dX5_copyBody_19 : decode cX5_copyBody 19 = .ok (.bipush 6, 2) := by decide +kernel
theorem dX5_copyBody_21 : decode cX5_copyBody 21 = .ok (.if_icmp .ge 65, 3) := by decide +kernel
theorem dX5_copyBody_24 : decode cX5_copyBody 24 = .ok (.aload_n 0, 1) := by decide +kernel
theorem dX5_copyBody_25 : decode cX5_copyBody 25 = .ok (.getfield 7, 3) := by decide +kernel
theorem dX5_copyBody_28 : decode cX5_copyBody 28 = .ok (.bipush 12, 2) := by decide +kernel
theorem dX5_copyBody_30 : decode cX5_copyBody 30 = .ok (.bipush 6, 2) := by decide +kernel
theorem dX5_copyBody_32 : decode cX5_copyBody 32 = .ok (.iload_n 2, 1) := by decide +kernel
theorem dX5_copyBody_33 : decode cX5_copyBody 33 = .ok (.imul, 1) := by decide +kernel
theorem dX5_copyBody_34 : decode cX5_copyBody 34 = .ok (.iadd, 1) := by decide +kernel
theorem dX5_copyBody_35 : decode cX5_copyBody 35 = .ok (.iload_n 3, 1) := by decide +kernel
theorem dX5_copyBody_36 : decode cX5_copyBody 36 = .ok (.iadd, 1) := by decide +kernel
theorem dX5_copyBody_37 : decode cX5_copyBody 37 = .ok (.aload_n 0, 1) := by decide +kernel
theorem dX5_copyBody_38 : decode cX5_copyBody 38 = .ok (.getfield 7, 3) := by decide +kernel
theorem dX5_copyBody_41 : decode cX5_copyBody 41 = .ok (.bipush 12, 2) := by decide +kernel
theorem dX5_copyBody_43 : decode cX5_copyBody 43 = .ok (.bipush 6, 2) := by decide +kernel
theorem dX5_copyBody_45 : decode cX5_copyBody 45 = .ok (.iload_n 1, 1) := by decide +kernel
theorem dX5_copyBody_46 : decode cX5_copyBody 46 = .ok (.imul, 1) := by decide +kernel
theorem dX5_copyBody_47 : decode cX5_copyBody 47 = .ok (.iadd, 1) := by decide +kernel
theorem dX5_copyBody_48 : decode cX5_copyBody 48 = .ok (.iload_n 3, 1) := by decide +kernel
theorem dX5_copyBody_49 : decode cX5_copyBody 49 = .ok (.iadd, 1) := by decide +kernel
theorem dX5_copyBody_50 : decode cX5_copyBody 50 = .ok (.iaload, 1) := by decide +kernel
theorem dX5_copyBody_51 : decode cX5_copyBody 51 = .ok (.iastore, 1) := by decide +kernel
theorem dX5_copyBody_52 : decode cX5_copyBody 52 = .ok (.aload_n 0, 1) := by decide +kernel
theorem dX5_copyBody_53 : decode cX5_copyBody 53 = .ok (.getfield 7, 3) := by decide +kernel
theorem dX5_copyBody_56 : decode cX5_copyBody 56 = .ok (.bipush 66, 2) := by decide +kernel
theorem dX5_copyBody_58 : decode cX5_copyBody 58 = .ok (.bipush 6, 2) := by decide +kernel
theorem dX5_copyBody_60 : decode cX5_copyBody 60 = .ok (.iload_n 2, 1) := by decide +kernel
theorem dX5_copyBody_61 : decode cX5_copyBody 61 = .ok (.imul, 1) := by decide +kernel
theorem dX5_copyBody_62 : decode cX5_copyBody 62 = .ok (.iadd, 1) := by decide +kernel
theorem dX5_copyBody_63 : decode cX5_copyBody 63 = .ok (.iload_n 3, 1) := by decide +kernel
theorem dX5_copyBody_64 : decode cX5_copyBody 64 = .ok (.iadd, 1) := by decide +kernel
theorem dX5_copyBody_65 : decode cX5_copyBody 65 = .ok (.aload_n 0, 1) := by decide +kernel
theorem dX5_copyBody_66 : decode cX5_copyBody 66 = .ok (.getfield 7, 3) := by decide +kernel
theorem dX5_copyBody_69 : decode cX5_copyBody 69 = .ok (.bipush 66, 2) := by decide +kernel
theorem dX5_copyBody_71 : decode cX5_copyBody 71 = .ok (.bipush 6, 2) := by decide +kernel
theorem dX5_copyBody_73 : decode cX5_copyBody 73 = .ok (.iload_n 1, 1) := by decide +kernel
theorem dX5_copyBody_74 : decode cX5_copyBody 74 = .ok (.imul, 1) := by decide +kernel
theorem dX5_copyBody_75 : decode cX5_copyBody 75 = .ok (.iadd, 1) := by decide +kernel
theorem dX5_copyBody_76 : decode cX5_copyBody 76 = .ok (.iload_n 3, 1) := by decide +kernel
theorem dX5_copyBody_77 : decode cX5_copyBody 77 = .ok (.iadd, 1) := by decide +kernel
theorem dX5_copyBody_78 : decode cX5_copyBody 78 = .ok (.iaload, 1) := by decide +kernel
theorem dX5_copyBody_79 : decode cX5_copyBody 79 = .ok (.iastore, 1) := by decide +kernel
theorem dX5_copyBody_80 : decode cX5_copyBody 80 = .ok (.iinc 3 1, 3) := by decide +kernel
theorem dX5_copyBody_83 : decode cX5_copyBody 83 = .ok (.goto (-65), 3) := by decide +kernel
theorem dX5_copyBody_86 : decode cX5_copyBody 86 = .ok (.return_, 1) := by decide +kernel
set_option maxRecDepth 20000 in
theorem ggX5_takesOut_X5_copyBody : GoodIn wsX5_takesOut wsX5_copyBody := goodIn_r _ [6, 1, 7, 8, 9, 10, 11, 12, 13, 14, 15, 16] (by decide +kernel) (by decide +kernel)
set_option maxRecDepth 20000 in
theorem gX5_takesOut_X5_copyBody : GoodIn wsX5_takesOut (wsV RX5 112 RX5 yX5_copyBody wsX5_copyBody) := goodIn_app (goodIn_of _ (by decide +kernel)) ggX5_takesOut_X5_copyBody
theorem dX5_takesOut_0 : decode cX5_takesOut 0 = .ok (.aload_n 0, 1) := by decide +kernel
theorem dX5_takesOut_1 : decode cX5_takesOut 1 = .ok (.getfield 7, 3) := by decide +kernel
theorem dX5_takesOut_4 : decode cX5_takesOut 4 = .ok (.iconst 2, 1) := by decide +kernel
theorem dX5_takesOut_5 : decode cX5_takesOut 5 = .ok (.dup2, 1) := by decide +kernel
theorem dX5_takesOut_6 : decode cX5_takesOut 6 = .ok (.iaload, 1) := by decide +kernel
theorem dX5_takesOut_7 : decode cX5_takesOut 7 = .ok (.iconst 1, 1) := by decide +kernel
theorem dX5_takesOut_8 : decode cX5_takesOut 8 = .ok (.isub, 1) := by decide +kernel
theorem dX5_takesOut_9 : decode cX5_takesOut 9 = .ok (.iastore, 1) := by decide +kernel
theorem dX5_takesOut_10 : decode cX5_takesOut 10 = .ok (.iload_n 1, 1) := by decide +kernel
theorem dX5_takesOut_11 : decode cX5_takesOut 11 = .ok (.istore_n 2, 1) := by decide +kernel
theorem dX5_takesOut_12 : decode cX5_takesOut 12 = .ok (.iload_n 2, 1) := by decide +kernel
theorem dX5_takesOut_13 : decode cX5_takesOut 13 = .ok (.aload_n 0, 1) := by decide +kernel
theorem dX5_takesOut_14 : decode cX5_takesOut 14 = .ok (.getfield 7, 3) := by decide +kernel
theorem dX5_takesOut_17 : decode cX5_takesOut 17 = .ok (.iconst 2, 1) := by decide +kernel
theorem dX5_takesOut_18 : decode cX5_takesOut 18 = .ok (.iaload, 1) := by decide +kernel
theorem dX5_takesOut_19 : decode cX5_takesOut 19 = .ok (.if_icmp .ge 17, 3) := by decide +kernel
theorem dX5_takesOut_22 : decode cX5_takesOut 22 = .ok (.aload_n 0, 1) := by decide +kernel
theorem dX5_takesOut_23 : decode cX5_takesOut 23 = .ok (.iload_n 2, 1) := by decide +kernel
theorem dX5_takesOut_24 : decode cX5_takesOut 24 = .ok (.iconst 1, 1) := by decide +kernel
theorem dX5_takesOut_25 : decode cX5_takesOut 25 = .ok (.iadd, 1) := by decide +kernel
theorem dX5_takesOut_26 : decode cX5_takesOut 26 = .ok (.iload_n 2, 1) := by decide +kernel
theorem dX5_takesOut_27 : decode cX5_takesOut 27 = .ok (.invokevirtual 112, 3) := by decide +kernel
theorem dX5_takesOut_30 : decode cX5_takesOut 30 = .ok (.iinc 2 1, 3) := by decide +kernel
theorem dX5_takesOut_33 : decode cX5_takesOut 33 = .ok (.goto (-21), 3) := by decide +kernel
theorem dX5_takesOut_36 : decode cX5_takesOut 36 = .ok (.return_, 1) := by decide +kernel
set_option maxRecDepth 20000 in
theorem ggX5_box_X5_in : GoodIn wsX5_box wsX5_in := goodIn_r _ [9] (by decide +kernel) (by decide +kernel)
set_option maxRecDepth 20000 in
theorem gX5_box_X5_in : GoodIn wsX5_box (va_wsS RX5 26 yX5_in wsX5_in) := goodIn_app (goodIn_of _ (by decide +kernel)) ggX5_box_X5_in
set_option maxRecDepth 20000 in
theorem ggX5_box_X5_greatestX : GoodIn wsX5_box wsX5_greatestX := goodIn_r _ [13, 14, 15, 16, 8, 17, 4, 18, 19, 20, 21, 37, 38, 39, 40, 41, 42, 43, 44, 45, 46] (by decide +kernel) (by decide +kernel)
set_option maxRecDepth 20000 in
theorem gX5_box_X5_greatestX : GoodIn wsX5_box (wsV RX5 66 RX5 yX5_greatestX wsX5_greatestX) := goodIn_app (goodIn_of _ (by decide +kernel)) ggX5_box_X5_greatestX
set_option maxRecDepth 20000 in
theorem ggX5_box_X5_greatestY : GoodIn wsX5_box wsX5_greatestY := goodIn_r _ [25, 14, 15, 16, 8, 17, 4, 18, 19, 20, 21, 37, 38, 39, 40, 41, 42, 43, 44, 45, 46] (by decide +kernel) (by decide +kernel)
set_option maxRecDepth 20000 in
theorem gX5_box_X5_greatestY : GoodIn wsX5_box (wsV RX5 72 RX5 yX5_greatestY wsX5_greatestY) := goodIn_app (goodIn_of _ (by decide +kernel)) ggX5_box_X5_greatestY
set_option maxRecDepth 20000 in
theorem ggX5_box_X5_keep : GoodIn wsX5_box wsX5_keep := goodIn_r _ [29, 30, 4, 37, 38, 39, 40, 41, 42, 43, 44, 45, 46] (by decide +kernel) (by decide +kernel)
set_option maxRecDepth 20000 in
theorem gX5_box_X5_keep : GoodIn wsX5_box (wsV RX5 122 RX5 yX5_keep wsX5_keep) := goodIn_app (goodIn_of _ (by decide +kernel)) ggX5_box_X5_keep
set_option maxRecDepth 20000 in
theorem ggX5_box_X5_changed : GoodIn wsX5_box wsX5_changed := goodIn_r _ [34, 35, 36, 30, 37, 38, 39, 40, 41, 42, 43, 44, 45, 46] (by decide +kernel) (by decide +kernel)
set_option maxRecDepth 20000 in
theorem gX5_box_X5_changed : GoodIn wsX5_box (wsV RX5 125 RX5 yX5_changed wsX5_changed) := goodIn_app (goodIn_of _ (by decide +kernel)) ggX5_box_X5_changed
theorem dX5_box_0 : decode cX5_box 0 = .ok (.iload_n 1, 1) := by decide +kernel
theorem dX5_box_1 : decode cX5_box 1 = .ok (.i2l, 1) := by decide +kernel
theorem dX5_box_2 : decode cX5_box 2 = .ok (.ldc2_w 116, 3) := by decide +kernel
theorem dX5_box_5 : decode cX5_box 5 = .ok (.ldc2_w 118, 3) := by decide +kernel
theorem dX5_box_8 : decode cX5_box 8 = .ok (.invokestatic 26, 3) := by decide +kernel
theorem dX5_box_11 : decode cX5_box 11 = .ok (.ifCond .eq 17, 3) := by decide +kernel
theorem dX5_box_14 : decode cX5_box 14 = .ok (.iload_n 2, 1) := by decide +kernel
theorem dX5_box_15 : decode cX5_box 15 = .ok (.i2l, 1) := by decide +kernel
theorem dX5_box_16 : decode cX5_box 16 = .ok (.ldc2_w 116, 3) := by decide +kernel
theorem dX5_box_19 : decode cX5_box 19 = .ok (.ldc2_w 118, 3) := by decide +kernel
theorem dX5_box_22 : decode cX5_box 22 = .ok (.invokestatic 26, 3) := by decide +kernel
theorem dX5_box_25 : decode cX5_box 25 = .ok (.ifCond .ne 6, 3) := by decide +kernel
theorem dX5_box_28 : decode cX5_box 28 = .ok (.ldc 120, 2) := by decide +kernel
theorem dX5_box_30 : decode cX5_box 30 = .ok (.ireturn, 1) := by decide +kernel
theorem dX5_box_31 : decode cX5_box 31 = .ok (.iconst 0, 1) := by decide +kernel
theorem dX5_box_32 : decode cX5_box 32 = .ok (.istore_n 3, 1) := by decide +kernel
theorem dX5_box_33 : decode cX5_box 33 = .ok (.iload_n 3, 1) := by decide +kernel
