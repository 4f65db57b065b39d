theorem dX3_fitsInto_24 : decode cX3_fitsInto 24 = .ok (.ireturn, 1) := by decide +kernel
theorem dX3_fitsInto_25 : decode cX3_fitsInto 25 = .ok (.iinc 3 1, 3) := by decide +kernel
theorem dX3_fitsInto_28 : decode cX3_fitsInto 28 = .ok (.goto (-26), 3) := by decide +kernel
theorem dX3_fitsInto_31 : decode cX3_fitsInto 31 = .ok (.iconst 1, 1) := by decide +kernel
theorem dX3_fitsInto_32 : decode cX3_fitsInto 32 = .ok (.ireturn, 1) := by decide +kernel
set_option maxRecDepth 20000 in
theorem ggX3_overlapped_X3_at : GoodIn wsX3_overlapped wsX3_at := goodIn_r _ [6, 7, 8, 44, 45, 46, 47, 48, 49] (by decide +kernel) (by decide +kernel)
set_option maxRecDepth 20000 in
theorem gX3_overlapped_X3_at : GoodIn wsX3_overlapped (wsV RX3 35 RX3 yX3_at wsX3_at) := goodIn_app (goodIn_of _ (by decide +kernel)) ggX3_overlapped_X3_at
set_option maxRecDepth 20000 in
theorem ggX3_overlapped_X0_leastReach : GoodIn wsX3_overlapped wsX0_leastReach := goodIn_r _ [13, 14, 15, 16, 17, 18, 19, 20, 21, 12, 22, 23, 24, 25, 26, 27, 28, 29, 30, 31, 32, 33, 34, 35, 36, 37, 38, 39, 40, 41, 42, 43, 50, 51, 52] (by decide +kernel) (by decide +kernel)
set_option maxRecDepth 20000 in
theorem gX3_overlapped_X0_leastReach : GoodIn wsX3_overlapped (wsV RX3 47 RX0 yX0_leastReach wsX0_leastReach) := goodIn_app (goodIn_of _ (by decide +kernel)) ggX3_overlapped_X0_leastReach
theorem dX3_overlapped_0 : decode cX3_overlapped 0 = .ok (.iconst 0, 1) := by decide +kernel
theorem dX3_overlapped_1 : decode cX3_overlapped 1 = .ok (.istore_n 3, 1) := by decide +kernel
theorem dX3_overlapped_2 : decode cX3_overlapped 2 = .ok (.iconst 0, 1) := by decide +kernel
theorem dX3_overlapped_3 : decode cX3_overlapped 3 = .ok (.istore 4, 2) := by decide +kernel
theorem dX3_overlapped_5 : decode cX3_overlapped 5 = .ok (.iload 4, 2) := by decide +kernel
theorem dX3_overlapped_7 : decode cX3_overlapped 7 = .ok (.aload_n 0, 1) := by decide +kernel
theorem dX3_overlapped_8 : decode cX3_overlapped 8 = .ok (.getfield 25, 3) := by decide +kernel
theorem dX3_overlapped_11 : decode cX3_overlapped 11 = .ok (.if_icmp .ge 48, 3) := by decide +kernel
theorem dX3_overlapped_14 : decode cX3_overlapped 14 = .ok (.iload 4, 2) := by decide +kernel
theorem dX3_overlapped_16 : decode cX3_overlapped 16 = .ok (.iload_n 2, 1) := by decide +kernel
theorem dX3_overlapped_17 : decode cX3_overlapped 17 = .ok (.if_icmp .eq 36, 3) := by decide +kernel
theorem dX3_overlapped_20 : decode cX3_overlapped 20 = .ok (.aload_n 1, 1) := by decide +kernel
theorem dX3_overlapped_21 : decode cX3_overlapped 21 = .ok (.aload_n 0, 1) := by decide +kernel
theorem dX3_overlapped_22 : decode cX3_overlapped 22 = .ok (.iload 4, 2) := by decide +kernel
theorem dX3_overlapped_24 : decode cX3_overlapped 24 = .ok (.invokevirtual 35, 3) := by decide +kernel
theorem dX3_overlapped_27 : decode cX3_overlapped 27 = .ok (.invokevirtual 47, 3) := by decide +kernel
theorem dX3_overlapped_30 : decode cX3_overlapped 30 = .ok (.ifCond .le 23, 3) := by decide +kernel
theorem dX3_overlapped_33 : decode cX3_overlapped 33 = .ok (.aload_n 0, 1) := by decide +kernel
theorem dX3_overlapped_34 : decode cX3_overlapped 34 = .ok (.iload 4, 2) := by decide +kernel
theorem dX3_overlapped_36 : decode cX3_overlapped 36 = .ok (.invokevirtual 35, 3) := by decide +kernel
theorem dX3_overlapped_39 : decode cX3_overlapped 39 = .ok (.aload_n 1, 1) := by decide +kernel
theorem dX3_overlapped_40 : decode cX3_overlapped 40 = .ok (.invokevirtual 47, 3) := by decide +kernel
theorem dX3_overlapped_43 : decode cX3_overlapped 43 = .ok (.ifCond .le 10, 3) := by decide +kernel
theorem dX3_overlapped_46 : decode cX3_overlapped 46 = .ok (.iload_n 3, 1) := by decide +kernel
theorem dX3_overlapped_47 : decode cX3_overlapped 47 = .ok (.iconst 1, 1) := by decide +kernel
theorem dX3_overlapped_48 : decode cX3_overlapped 48 = .ok (.iload 4, 2) := by decide +kernel
theorem dX3_overlapped_50 : decode cX3_overlapped 50 = .ok (.ishl, 1) := by decide +kernel
theorem dX3_overlapped_51 : decode cX3_overlapped 51 = .ok (.ior, 1) := by decide +kernel
theorem dX3_overlapped_52 : decode cX3_overlapped 52 = .ok (.istore_n 3, 1) := by decide +kernel
theorem dX3_overlapped_53 : decode cX3_overlapped 53 = .ok (.iinc 4 1, 3) := by decide +kernel
theorem dX3_overlapped_56 : decode cX3_overlapped 56 = .ok (.goto (-51), 3) := by decide +kernel
theorem dX3_overlapped_59 : decode cX3_overlapped 59 = .ok (.iload_n 3, 1) := by decide +kernel
theorem dX3_overlapped_60 : decode cX3_overlapped 60 = .ok (.ireturn, 1) := by decide +kernel
set_option maxRecDepth 20000 in
theorem ggX3_touching_X3_at : GoodIn wsX3_touching wsX3_at := goodIn_r _ [10, 11, 12, 45, 46, 47, 48, 49, 50] (by decide +kernel) (by decide +kernel)
set_option maxRecDepth 20000 in
theorem gX3_touching_X3_at : GoodIn wsX3_touching (wsV RX3 35 RX3 yX3_at wsX3_at) := goodIn_app (goodIn_of _ (by decide +kernel)) ggX3_touching_X3_at
set_option maxRecDepth 20000 in
theorem ggX3_touching_X0_leastReach : GoodIn wsX3_touching wsX0_leastReach := goodIn_r _ [17, 18, 19, 3, 4, 5, 20, 21, 22, 16, 23, 24, 25, 26, 27, 28, 29, 30, 31, 32, 33, 34, 35, 36, 37, 38, 39, 40, 41, 42, 43, 44, 51, 52, 53] (by decide +kernel) (by decide +kernel)
set_option maxRecDepth 20000 in
theorem gX3_touching_X0_leastReach : GoodIn wsX3_touching (wsV RX3 47 RX0 yX0_leastReach wsX0_leastReach) := goodIn_app (goodIn_of _ (by decide +kernel)) ggX3_touching_X0_leastReach
theorem dX3_touching_0 : decode cX3_touching 0 = .ok (.aload_n 0, 1) := by decide +kernel
theorem dX3_touching_1 : decode cX3_touching 1 = .ok (.iload_n 1, 1) := by decide +kernel
theorem dX3_touching_2 : decode cX3_touching 2 = .ok (.invokevirtual 35, 3) := by decide +kernel
theorem dX3_touching_5 : decode cX3_touching 5 = .ok (.astore_n 2, 1) := by decide +kernel
theorem dX3_touching_6 : decode cX3_touching 6 = .ok (.iconst 0, 1) := by decide +kernel
theorem dX3_touching_7 : decode cX3_touching 7 = .ok (.istore_n 3, 1) := by decide +kernel
theorem dX3_touching_8 : decode cX3_touching 8 = .ok (.iconst 0, 1) := by decide +kernel
theorem dX3_touching_9 : decode cX3_touching 9 = .ok (.istore 4, 2) := by decide +kernel
theorem dX3_touching_11 : decode cX3_touching 11 = .ok (.iload 4, 2) := by decide +kernel
theorem dX3_touching_13 : decode cX3_touching 13 = .ok (.aload_n 0, 1) := by decide +kernel
theorem dX3_touching_14 : decode cX3_touching 14 = .ok (.getfield 25, 3) := by decide +kernel
theorem dX3_touching_17 : decode cX3_touching 17 = .ok (.if_icmp .ge 48, 3) := by decide +kernel
theorem dX3_touching_20 : decode cX3_touching 20 = .ok (.iload 4, 2) := by decide +kernel
theorem dX3_touching_22 : decode cX3_touching 22 = .ok (.iload_n 1, 1) := by decide +kernel
theorem dX3_touching_23 : decode cX3_touching 23 = .ok (.if_icmp .eq 36, 3) := by decide +kernel
theorem dX3_touching_26 : decode cX3_touching 26 = .ok (.aload_n 2, 1) := by decide +kernel
theorem dX3_touching_27 : decode cX3_touching 27 = .ok (.aload_n 0, 1) := by decide +kernel
theorem dX3_touching_28 : decode cX3_touching 28 = .ok (.iload 4, 2) := by decide +kernel
theorem dX3_touching_30 : decode cX3_touching 30 = .ok (.invokevirtual 35, 3) := by decide +kernel
theorem dX3_touching_33 : decode cX3_touching 33 = .ok (.invokevirtual 47, 3) := by decide +kernel
theorem dX3_touching_36 : decode cX3_touching 36 = .ok (.aload_n 0, 1) := by decide +kernel
theorem dX3_touching_37 : decode cX3_touching 37 = .ok (.iload 4, 2) := by decide +kernel
theorem dX3_touching_39 : decode cX3_touching 39 = .ok (.invokevirtual 35, 3) := by decide +kernel
theorem dX3_touching_42 : decode cX3_touching 42 = .ok (.aload_n 2, 1) := by decide +kernel
theorem dX3_touching_43 : decode cX3_touching 43 = .ok (.invokevirtual 47, 3) := by decide +kernel
theorem dX3_touching_46 : decode cX3_touching 46 = .ok (.invokestatic 51, 3) := by decide +kernel
theorem dX3_touching_49 : decode cX3_touching 49 = .ok (.ifCond .ne 10, 3) := by decide +kernel
theorem dX3_touching_52 : decode cX3_touching 52 = .ok (.iload_n 3, 1) := by decide +kernel
theorem dX3_touching_53 : decode cX3_touching 53 = .ok (.iconst 1, 1) := by decide +kernel
theorem dX3_touching_54 : decode cX3_touching 54 = .ok (.iload 4, 2) := by decide +kernel
theorem dX3_touching_56 : decode cX3_touching 56 = .ok (.ishl, 1) := by decide +kernel
theorem dX3_touching_57 : decode cX3_touching 57 = .ok (.ior, 1) := by decide +kernel
theorem dX3_touching_58 : decode cX3_touching 58 = .ok (.istore_n 3, 1) := by decide +kernel
theorem dX3_touching_59 : decode cX3_touching 59 = .ok (.iinc 4 1, 3) := by decide +kernel
theorem dX3_touching_62 : decode cX3_touching 62 = .ok (.goto (-51), 3) := by decide +kernel
theorem dX3_touching_65 : decode cX3_touching 65 = .ok (.iload_n 3, 1) := by decide +kernel
theorem dX3_touching_66 : decode cX3_touching 66 = .ok (.ireturn, 1) := by decide +kernel
set_option maxRecDepth 20000 in
theorem ggX3_touchingNone_X3_touching : GoodIn wsX3_touchingNone wsX3_touching := goodIn_r _ [6, 1, 7, 8, 9, 10, 11, 12, 13, 5, 14, 15, 16, 17, 18, 19, 20, 21, 22, 23, 24, 25, 26, 27, 28, 29, 30, 31, 32, 33, 34, 35, 36, 37, 38, 39, 40, 41, 42, 43, 44, 45, 46, 47, 48, 49, 50, 51, 52, 53, 54, 55, 56, 57] (by decide +kernel) (by decide +kernel)
set_option maxRecDepth 20000 in
theorem gX3_touchingNone_X3_touching : GoodIn wsX3_touchingNone (wsV RX3 56 RX3 yX3_touching wsX3_touching) := goodIn_app (goodIn_of _ (by decide +kernel)) ggX3_touchingNone_X3_touching
theorem dX3_touchingNone_0 : decode cX3_touchingNone 0 = .ok (.iconst 0, 1) := by decide +kernel
theorem dX3_touchingNone_1 : decode cX3_touchingNone 1 = .ok (.istore_n 1, 1) := by decide +kernel
theorem dX3_touchingNone_2 : decode cX3_touchingNone 2 = .ok (.iconst 0, 1) := by decide +kernel
theorem dX3_touchingNone_3 : decode cX3_touchingNone 3 = .ok (.istore_n 2, 1) := by decide +kernel
theorem dX3_touchingNone_4 : decode cX3_touchingNone 4 = .ok (.iload_n 2, 1) := by decide +kernel
theorem dX3_touchingNone_5 : decode cX3_touchingNone 5 = .ok (.aload_n 0, 1) := by decide +kernel
theorem dX3_touchingNone_6 : decode cX3_touchingNone 6 = .ok (.getfield 25, 3) := by decide +kernel
theorem dX3_touchingNone_9 : decode cX3_touchingNone 9 = .ok (.if_icmp .ge 23, 3) := by decide +kernel
theorem dX3_touchingNone_12 : decode cX3_touchingNone 12 = .ok (.aload_n 0, 1) := by decide +kernel
theorem dX3_touchingNone_13 : decode cX3_touchingNone 13 = .ok (.iload_n 2, 1) := by decide +kernel
theorem dX3_touchingNone_14 : decode cX3_touchingNone 14 = .ok (.invokevirtual 56, 3) := by decide +kernel
theorem dX3_touchingNone_17 : decode cX3_touchingNone 17 = .ok (.ifCond .ne 9, 3) := by decide +kernel
theorem dX3_touchingNone_20 : decode cX3_touchingNone 20 = .ok (.iload_n 1, 1) := by decide +kernel
theorem dX3_touchingNone_21 : decode cX3_touchingNone 21 = .ok (.iconst 1, 1) := by decide +kernel
theorem dX3_touchingNone_22 : decode cX3_touchingNone 22 = .ok (.iload_n 2, 1) := by decide +kernel
theorem dX3_touchingNone_23 : decode cX3_touchingNone 23 = .ok (.ishl, 1) := by decide +kernel
theorem dX3_touchingNone_24 : decode cX3_touchingNone 24 = .ok (.ior, 1) := by decide +kernel
theorem dX3_touchingNone_25 : decode cX3_touchingNone 25 = .ok (.istore_n 1, 1) := by decide +kernel
theorem dX3_touchingNone_26 : decode cX3_touchingNone 26 = .ok (.iinc 2 1, 3) := by decide +kernel
theorem dX3_touchingNone_29 : decode cX3_touchingNone 29 = .ok (.goto (-25), 3) := by decide +kernel
theorem dX3_touchingNone_32 : decode cX3_touchingNone 32 = .ok (.iload_n 1, 1) := by decide +kernel
theorem dX3_touchingNone_33 : decode cX3_touchingNone 33 = .ok (.ireturn, 1) := by decide +kernel
set_option maxRecDepth 20000 in
theorem ggX3_touchingPairs_X3_touching : GoodIn wsX3_touchingPairs wsX3_touching := goodIn_r _ [6, 1, 7, 8, 9, 10, 11, 12, 13, 5, 14, 15, 16, 17, 18, 19, 20, 21, 22, 23, 24, 25, 26, 27, 28, 29, 30, 31, 32, 33, 34, 35, 36, 37, 38, 39, 40, 41, 42, 43, 44, 45, 46, 47, 48, 56, 57, 58, 59, 60, 61, 62, 63, 64] (by decide +kernel) (by decide +kernel)
set_option maxRecDepth 20000 in
theorem gX3_touchingPairs_X3_touching : GoodIn wsX3_touchingPairs (wsV RX3 56 RX3 yX3_touching wsX3_touching) := goodIn_app (goodIn_of _ (by decide +kernel)) ggX3_touchingPairs_X3_touching
set_option maxRecDepth 20000 in
theorem ggX3_touchingPairs_J6_bitCount_0f7a4 : GoodIn wsX3_touchingPairs wsJ6_bitCount_0f7a4 := goodIn_r _ [52, 53, 54, 55] (by decide +kernel) (by decide +kernel)
set_option maxRecDepth 20000 in
theorem gX3_touchingPairs_J6_bitCount_0f7a4 : GoodIn wsX3_touchingPairs (va_wsS RX3 60 yJ6_bitCount_0f7a4 wsJ6_bitCount_0f7a4) := goodIn_app (goodIn_of _ (by decide +kernel)) ggX3_touchingPairs_J6_bitCount_0f7a4
theorem dX3_touchingPairs_0 : decode cX3_touchingPairs 0 = .ok (.iconst 0, 1) := by decide +kernel
theorem dX3_touchingPairs_1 : decode cX3_touchingPairs 1 = .ok (.istore_n 1, 1) := by decide +kernel
theorem dX3_touchingPairs_2 : decode cX3_touchingPairs 2 = .ok (.iconst 0, 1) := by decide +kernel
theorem dX3_touchingPairs_3 : decode cX3_touchingPairs 3 = .ok (.istore_n 2, 1) := by decide +kernel
theorem dX3_touchingPairs_4 : decode cX3_touchingPairs 4 = .ok (.iload_n 2, 1) := by decide +kernel
theorem dX3_touchingPairs_5 : decode cX3_touchingPairs 5 = .ok (.aload_n 0, 1) := by decide +kernel
theorem dX3_touchingPairs_6 : decode cX3_touchingPairs 6 = .ok (.getfield 25, 3) := by decide +kernel
theorem dX3_touchingPairs_9 : decode cX3_touchingPairs 9 = .ok (.if_icmp .ge 20, 3) := by decide +kernel
theorem dX3_touchingPairs_12 : decode cX3_touchingPairs 12 = .ok (.iload_n 1, 1) := by decide +kernel
theorem dX3_touchingPairs_13 : decode cX3_touchingPairs 13 = .ok (.aload_n 0, 1) := by decide +kernel
theorem dX3_touchingPairs_14 : decode cX3_touchingPairs 14 = .ok (.iload_n 2, 1) := by decide +kernel
theorem dX3_touchingPairs_15 : decode cX3_touchingPairs 15 = .ok (.invokevirtual 56, 3) := by decide +kernel
theorem dX3_touchingPairs_18 : decode cX3_touchingPairs 18 = .ok (.invokestatic 60, 3) := by decide +kernel
theorem dX3_touchingPairs_21 : decode cX3_touchingPairs 21 = .ok (.iadd, 1) := by decide +kernel
theorem dX3_touchingPairs_22 : decode cX3_touchingPairs 22 = .ok (.istore_n 1, 1) := by decide +kernel
theorem dX3_touchingPairs_23 : decode cX3_touchingPairs 23 = .ok (.iinc 2 1, 3) := by decide +kernel
theorem dX3_touchingPairs_26 : decode cX3_touchingPairs 26 = .ok (.goto (-22), 3) := by decide +kernel
theorem dX3_touchingPairs_29 : decode cX3_touchingPairs 29 = .ok (.iload_n 1, 1) := by decide +kernel
theorem dX3_touchingPairs_30 : decode cX3_touchingPairs 30 = .ok (.iconst 1, 1) := by decide +kernel
theorem dX3_touchingPairs_31 : decode cX3_touchingPairs 31 = .ok (.ishr, 1) := by decide +kernel
theorem dX3_touchingPairs_32 : decode cX3_touchingPairs 32 = .ok (.ireturn, 1) := by decide +kernel
set_option maxRecDepth 20000 in
theorem ggX3_touchingWalls_X3_at : GoodIn wsX3_touchingWalls wsX3_at := goodIn_r _ [8, 9, 10, 50, 51, 52, 53, 54, 55] (by decide +kernel) (by decide +kernel)
set_option maxRecDepth 20000 in
theorem gX3_touchingWalls_X3_at : GoodIn wsX3_touchingWalls (wsV RX3 35 RX3 yX3_at wsX3_at) := goodIn_app (goodIn_of _ (by decide +kernel)) ggX3_touchingWalls_X3_at
set_option maxRecDepth 20000 in
theorem ggX3_touchingWalls_X0_wallsTouched : GoodIn wsX3_touchingWalls wsX0_wallsTouched := goodIn_r _ [15, 16, 17, 18, 14, 19, 20, 21, 22, 23, 24, 25, 26, 27, 28, 29, 30, 31, 32, 33, 34, 35, 36, 37, 38, 39, 40, 41, 42, 43, 44, 45, 46, 47, 48, 49, 56, 57, 58] (by decide +kernel) (by decide +kernel)
set_option maxRecDepth 20000 in
theorem gX3_touchingWalls_X0_wallsTouched : GoodIn wsX3_touchingWalls (wsV RX3 65 RX0 yX0_wallsTouched wsX0_wallsTouched) := goodIn_app (goodIn_of _ (by decide +kernel)) ggX3_touchingWalls_X0_wallsTouched
theorem dX3_touchingWalls_0 : decode cX3_touchingWalls 0 = .ok (.iconst 0, 1) := by decide +kernel
theorem dX3_touchingWalls_1 : decode cX3_touchingWalls 1 = .ok (.istore_n 2, 1) := by decide +kernel
theorem dX3_touchingWalls_2 : decode cX3_touchingWalls 2 = .ok (.iconst 0, 1) := by decide +kernel
theorem dX3_touchingWalls_3 : decode cX3_touchingWalls 3 = .ok (.istore_n 3, 1) := by decide +kernel
theorem dX3_touchingWalls_4 : decode cX3_touchingWalls 4 = .ok (.iload_n 3, 1) := by decide +kernel
theorem dX3_touchingWalls_5 : decode cX3_touchingWalls 5 = .ok (.aload_n 0, 1) := by decide +kernel
theorem dX3_touchingWalls_6 : decode cX3_touchingWalls 6 = .ok (.getfield 25, 3) := by decide +kernel
theorem dX3_touchingWalls_9 : decode cX3_touchingWalls 9 = .ok (.if_icmp .ge 36, 3) := by decide +kernel
theorem dX3_touchingWalls_12 : decode cX3_touchingWalls 12 = .ok (.aload_n 0, 1) := by decide +kernel
theorem dX3_touchingWalls_13 : decode cX3_touchingWalls 13 = .ok (.iload_n 3, 1) := by decide +kernel
theorem dX3_touchingWalls_14 : decode cX3_touchingWalls 14 = .ok (.invokevirtual 35, 3) := by decide +kernel
theorem dX3_touchingWalls_17 : decode cX3_touchingWalls 17 = .ok (.aload_n 0, 1) := by decide +kernel
theorem dX3_touchingWalls_18 : decode cX3_touchingWalls 18 = .ok (.getfield 29, 3) := by decide +kernel
theorem dX3_touchingWalls_21 : decode cX3_touchingWalls 21 = .ok (.aload_n 0, 1) := by decide +kernel
theorem dX3_touchingWalls_22 : decode cX3_touchingWalls 22 = .ok (.getfield 32, 3) := by decide +kernel
theorem dX3_touchingWalls_25 : decode cX3_touchingWalls 25 = .ok (.invokevirtual 65, 3) := by decide +kernel
theorem dX3_touchingWalls_28 : decode cX3_touchingWalls 28 = .ok (.iload_n 1, 1) := by decide +kernel
theorem dX3_touchingWalls_29 : decode cX3_touchingWalls 29 = .ok (.iand, 1) := by decide +kernel
theorem dX3_touchingWalls_30 : decode cX3_touchingWalls 30 = .ok (.ifCond .eq 9, 3) := by decide +kernel
theorem dX3_touchingWalls_33 : decode cX3_touchingWalls 33 = .ok (.iload_n 2, 1) := by decide +kernel
theorem dX3_touchingWalls_34 : decode cX3_touchingWalls 34 = .ok (.iconst 1, 1) := by decide +kernel
theorem dX3_touchingWalls_35 : decode cX3_touchingWalls 35 = .ok (.iload_n 3, 1) := by decide +kernel
theorem dX3_touchingWalls_36 : decode cX3_touchingWalls 36 = .ok (.ishl, 1) := by decide +kernel
theorem dX3_touchingWalls_37 : decode cX3_touchingWalls 37 = .ok (.ior, 1) := by decide +kernel
theorem dX3_touchingWalls_38 : decode cX3_touchingWalls 38 = .ok (.istore_n 2, 1) := by decide +kernel
theorem dX3_touchingWalls_39 : decode cX3_touchingWalls 39 = .ok (.iinc 3 1, 3) := by decide +kernel
theorem dX3_touchingWalls_42 : decode cX3_touchingWalls 42 = .ok (.goto (-38), 3) := by decide +kernel
theorem dX3_touchingWalls_45 : decode cX3_touchingWalls 45 = .ok (.iload_n 2, 1) := by decide +kernel
theorem dX3_touchingWalls_46 : decode cX3_touchingWalls 46 = .ok (.ireturn, 1) := by decide +kernel
set_option maxRecDepth 20000 in
theorem ggX3_spread_X4_lowest : GoodIn wsX3_spread wsX4_lowest := goodIn_r _ [3] (by decide +kernel) (by decide +kernel)
set_option maxRecDepth 20000 in
theorem gX3_spread_X4_lowest_n68 : GoodIn wsX3_spread (wsX4_lowest) := ggX3_spread_X4_lowest
set_option maxRecDepth 20000 in
theorem ggX3_spread_X3_touching : GoodIn wsX3_spread wsX3_touching := goodIn_r _ [8, 9, 10, 11, 12, 13, 14, 15, 16, 7, 17, 18, 19, 20, 21, 22, 23, 24, 25, 26, 27, 28, 29, 30, 31, 32, 33, 34, 35, 36, 37, 38, 39, 40, 41, 42, 43, 44, 45, 46, 47, 48, 49, 2, 50, 51, 52, 53, 54, 55, 56, 57, 58, 59] (by decide +kernel) (by decide +kernel)
set_option maxRecDepth 20000 in
theorem gX3_spread_X3_touching : GoodIn wsX3_spread (wsV RX3 56 RX3 yX3_touching wsX3_touching) := goodIn_app (goodIn_of _ (by decide +kernel)) ggX3_spread_X3_touching
theorem dX3_spread_0 : decode cX3_spread 0 = .ok (.iload_n 1, 1) := by decide +kernel
theorem dX3_spread_1 : decode cX3_spread 1 = .ok (.istore_n 2, 1) := by decide +kernel
theorem dX3_spread_2 : decode cX3_spread 2 = .ok (.iconst 0, 1) := by decide +kernel
theorem dX3_spread_3 : decode cX3_spread 3 = .ok (.istore_n 3, 1) := by decide +kernel
theorem dX3_spread_4 : decode cX3_spread 4 = .ok (.iconst 0, 1) := by decide +kernel
theorem dX3_spread_5 : decode cX3_spread 5 = .ok (.istore 4, 2) := by decide +kernel
theorem dX3_spread_7 : decode cX3_spread 7 = .ok (.iload 4, 2) := by decide +kernel
theorem dX3_spread_9 : decode cX3_spread 9 = .ok (.bipush 8, 2) := by decide +kernel
theorem dX3_spread_11 : decode cX3_spread 11 = .ok (.if_icmp .ge 40, 3) := by decide +kernel
theorem dX3_spread_14 : decode cX3_spread 14 = .ok (.iload_n 3, 1) := by decide +kernel
theorem dX3_spread_15 : decode cX3_spread 15 = .ok (.iload_n 2, 1) := by decide +kernel
theorem dX3_spread_16 : decode cX3_spread 16 = .ok (.if_icmp .eq 35, 3) := by decide +kernel
theorem dX3_spread_19 : decode cX3_spread 19 = .ok (.iload_n 2, 1) := by decide +kernel
theorem dX3_spread_20 : decode cX3_spread 20 = .ok (.iload_n 3, 1) := by decide +kernel
theorem dX3_spread_21 : decode cX3_spread 21 = .ok (.iconst (-1), 1) := by decide +kernel
theorem dX3_spread_22 : decode cX3_spread 22 = .ok (.ixor, 1) := by decide +kernel
theorem dX3_spread_23 : decode cX3_spread 23 = .ok (.iand, 1) := by decide +kernel
theorem dX3_spread_24 : decode cX3_spread 24 = .ok (.invokestatic 68, 3) := by decide +kernel
theorem dX3_spread_27 : decode cX3_spread 27 = .ok (.istore 5, 2) := by decide +kernel
theorem dX3_spread_29 : decode cX3_spread 29 = .ok (.iload_n 3, 1) := by decide +kernel
theorem dX3_spread_30 : decode cX3_spread 30 = .ok (.iconst 1, 1) := by decide +kernel
theorem dX3_spread_31 : decode cX3_spread 31 = .ok (.iload 5, 2) := by decide +kernel
theorem dX3_spread_33 : decode cX3_spread 33 = .ok (.ishl, 1) := by decide +kernel
theorem dX3_spread_34 : decode cX3_spread 34 = .ok (.ior, 1) := by decide +kernel
theorem dX3_spread_35 : decode cX3_spread 35 = .ok (.istore_n 3, 1) := by decide +kernel
theorem dX3_spread_36 : decode cX3_spread 36 = .ok (.iload_n 2, 1) := by decide +kernel
theorem dX3_spread_37 : decode cX3_spread 37 = .ok (.aload_n 0, 1) := by decide +kernel
theorem dX3_spread_38 : decode cX3_spread 38 = .ok (.iload 5, 2) := by decide +kernel
theorem dX3_spread_40 : decode cX3_spread 40 = .ok (.invokevirtual 56, 3) := by decide +kernel
theorem dX3_spread_43 : decode cX3_spread 43 = .ok (.ior, 1) := by decide +kernel
theorem dX3_spread_44 : decode cX3_spread 44 = .ok (.istore_n 2, 1) := by decide +kernel
theorem dX3_spread_45 : decode cX3_spread 45 = .ok (.iinc 4 1, 3) := by decide +kernel
theorem dX3_spread_48 : decode cX3_spread 48 = .ok (.goto (-41), 3) := by decide +kernel
theorem dX3_spread_51 : decode cX3_spread 51 = .ok (.iload_n 2, 1) := by decide +kernel
theorem dX3_spread_52 : decode cX3_spread 52 = .ok (.ireturn, 1) := by decide +kernel
set_option maxRecDepth 20000 in
theorem ggX3_freeSteps_X3_at : GoodIn wsX3_freeSteps wsX3_at := goodIn_r _ [8, 9, 10, 89, 90, 91, 92, 93, 94] (by decide +kernel) (by decide +kernel)
set_option maxRecDepth 20000 in
theorem gX3_freeSteps_X3_at : GoodIn wsX3_freeSteps (wsV RX3 35 RX3 yX3_at wsX3_at) := goodIn_app (goodIn_of _ (by decide +kernel)) ggX3_freeSteps_X3_at
set_option maxRecDepth 20000 in
theorem ggX3_freeSteps_X0_copyFrom : GoodIn wsX3_freeSteps wsX0_copyFrom := goodIn_r _ [15, 16, 17, 18, 19, 14, 20, 21, 22, 23, 24, 25, 26, 27, 28, 29, 30, 95, 96, 97] (by decide +kernel) (by decide +kernel)
set_option maxRecDepth 20000 in
theorem gX3_freeSteps_X0_copyFrom : GoodIn wsX3_freeSteps (wsV RX3 39 RX0 yX0_copyFrom wsX0_copyFrom) := goodIn_app (goodIn_of _ (by decide +kernel)) ggX3_freeSteps_X0_copyFrom
set_option maxRecDepth 20000 in
theorem ggX3_freeSteps_X4_stepX : GoodIn wsX3_freeSteps wsX4_stepX := goodIn_r _ [33, 34] (by decide +kernel) (by decide +kernel)
set_option maxRecDepth 20000 in
theorem gX3_freeSteps_X4_stepX_n71 : GoodIn wsX3_freeSteps (wsX4_stepX) := ggX3_freeSteps_X4_stepX
set_option maxRecDepth 20000 in
theorem ggX3_freeSteps_X4_stepY : GoodIn wsX3_freeSteps wsX4_stepY := goodIn_r _ [36, 37] (by decide +kernel) (by decide +kernel)
set_option maxRecDepth 20000 in
theorem gX3_freeSteps_X4_stepY_n74 : GoodIn wsX3_freeSteps (wsX4_stepY) := ggX3_freeSteps_X4_stepY
set_option maxRecDepth 20000 in
theorem ggX3_freeSteps_X0_move : GoodIn wsX3_freeSteps wsX0_move := goodIn_r _ [41, 16, 17, 18, 19, 14, 20, 21, 22, 23, 24, 25, 26, 27, 28, 29, 30, 95, 96, 97] (by decide +kernel) (by decide +kernel)
set_option maxRecDepth 20000 in
theorem gX3_freeSteps_X0_move : GoodIn wsX3_freeSteps (wsV RX3 77 RX0 yX0_move wsX0_move) := goodIn_app (goodIn_of _ (by decide +kernel)) ggX3_freeSteps_X0_move
set_option maxRecDepth 20000 in
theorem ggX3_freeSteps_X0_wallsBeyond : GoodIn wsX3_freeSteps wsX0_wallsBeyond := goodIn_r _ [45, 46, 47, 48, 14, 49, 16, 50, 51, 52, 53, 17, 18, 19, 20, 21, 54, 55, 56, 57, 58, 59, 60, 61, 62, 63, 64, 22, 23, 24, 25, 26, 65, 66, 67, 68, 95, 96, 97] (by decide +kernel) (by decide +kernel)
set_option maxRecDepth 20000 in
theorem gX3_freeSteps_X0_wallsBeyond : GoodIn wsX3_freeSteps (wsV RX3 43 RX0 yX0_wallsBeyond wsX0_wallsBeyond) := goodIn_app (goodIn_of _ (by decide +kernel)) ggX3_freeSteps_X0_wallsBeyond
set_option maxRecDepth 20000 in
theorem ggX3_freeSteps_X3_overlapped : GoodIn wsX3_freeSteps wsX3_overlapped := goodIn_r _ [72, 73, 4, 5, 6, 7, 8, 9, 10, 74, 75, 76, 14, 77, 16, 50, 51, 52, 53, 78, 79, 80, 81, 82, 58, 59, 60, 83, 84, 85, 86, 17, 18, 19, 20, 21, 22, 23, 24, 25, 26, 87, 32, 88, 89, 90, 91, 92, 93, 94, 95, 96, 97] (by decide +kernel) (by decide +kernel)
set_option maxRecDepth 20000 in
theorem gX3_freeSteps_X3_overlapped : GoodIn wsX3_freeSteps (wsV RX3 81 RX3 yX3_overlapped wsX3_overlapped) := goodIn_app (goodIn_of _ (by decide +kernel)) ggX3_freeSteps_X3_overlapped
theorem dX3_freeSteps_0 : decode cX3_freeSteps 0 = .ok (.aload_n 0, 1) := by decide +kernel
theorem dX3_freeSteps_1 : decode cX3_freeSteps 1 = .ok (.getfield 22, 3) := by decide +kernel
theorem dX3_freeSteps_4 : decode cX3_freeSteps 4 = .ok (.aload_n 0, 1) := by decide +kernel
theorem dX3_freeSteps_5 : decode cX3_freeSteps 5 = .ok (.iload_n 1, 1) := by decide +kernel
theorem dX3_freeSteps_6 : decode cX3_freeSteps 6 = .ok (.invokevirtual 35, 3) := by decide +kernel
theorem dX3_freeSteps_9 : decode cX3_freeSteps 9 = .ok (.invokevirtual 39, 3) := by decide +kernel
theorem dX3_freeSteps_12 : decode cX3_freeSteps 12 = .ok (.iconst 0, 1) := by decide +kernel
theorem dX3_freeSteps_13 : decode cX3_freeSteps 13 = .ok (.istore 4, 2) := by decide +kernel
theorem dX3_freeSteps_15 : decode cX3_freeSteps 15 = .ok (.iload 4, 2) := by decide +kernel
theorem dX3_freeSteps_17 : decode cX3_freeSteps 17 = .ok (.iload_n 3, 1) := by decide +kernel
theorem dX3_freeSteps_18 : decode cX3_freeSteps 18 = .ok (.if_icmp .ge 57, 3) := by decide +kernel
theorem dX3_freeSteps_21 : decode cX3_freeSteps 21 = .ok (.aload_n 0, 1) := by decide +kernel
theorem dX3_freeSteps_22 : decode cX3_freeSteps 22 = .ok (.getfield 22, 3) := by decide +kernel
theorem dX3_freeSteps_25 : decode cX3_freeSteps 25 = .ok (.iload_n 2, 1) := by decide +kernel
theorem dX3_freeSteps_26 : decode cX3_freeSteps 26 = .ok (.invokestatic 71, 3) := by decide +kernel
theorem dX3_freeSteps_29 : decode cX3_freeSteps 29 = .ok (.iload_n 2, 1) := by decide +kernel
theorem dX3_freeSteps_30 : decode cX3_freeSteps 30 = .ok (.invokestatic 74, 3) := by decide +kernel
theorem dX3_freeSteps_33 : decode cX3_freeSteps 33 = .ok (.invokevirtual 77, 3) := by decide +kernel
theorem dX3_freeSteps_36 : decode cX3_freeSteps 36 = .ok (.aload_n 0, 1) := by decide +kernel
theorem dX3_freeSteps_37 : decode cX3_freeSteps 37 = .ok (.getfield 22, 3) := by decide +kernel
theorem dX3_freeSteps_40 : decode cX3_freeSteps 40 = .ok (.aload_n 0, 1) := by decide +kernel
theorem dX3_freeSteps_41 : decode cX3_freeSteps 41 = .ok (.getfield 29, 3) := by decide +kernel
theorem dX3_freeSteps_44 : decode cX3_freeSteps 44 = .ok (.aload_n 0, 1) := by decide +kernel
theorem dX3_freeSteps_45 : decode cX3_freeSteps 45 = .ok (.getfield 32, 3) := by decide +kernel
theorem dX3_freeSteps_48 : decode cX3_freeSteps 48 = .ok (.invokevirtual 43, 3) := by decide +kernel
theorem dX3_freeSteps_51 : decode cX3_freeSteps 51 = .ok (.ifCond .ne 15, 3) := by decide +kernel
theorem dX3_freeSteps_54 : decode cX3_freeSteps 54 = .ok (.aload_n 0, 1) := by decide +kernel
theorem dX3_freeSteps_55 : decode cX3_freeSteps 55 = .ok (.aload_n 0, 1) := by decide +kernel
theorem dX3_freeSteps_56 : decode cX3_freeSteps 56 = .ok (.getfield 22, 3) := by decide +kernel
theorem dX3_freeSteps_59 : decode cX3_freeSteps 59 = .ok (.iload_n 1, 1) := by decide +kernel
theorem dX3_freeSteps_60 : decode cX3_freeSteps 60 = .ok (.invokevirtual 81, 3) := by decide +kernel
theorem dX3_freeSteps_63 : decode cX3_freeSteps 63 = .ok (.ifCond .eq 6, 3) := by decide +kernel
theorem dX3_freeSteps_66 : decode cX3_freeSteps 66 = .ok (.iload 4, 2) := by decide +kernel
theorem dX3_freeSteps_68 : decode cX3_freeSteps 68 = .ok (.ireturn, 1) := by decide +kernel
theorem dX3_freeSteps_69 : decode cX3_freeSteps 69 = .ok (.iinc 4 1, 3) := by decide +kernel
theorem dX3_freeSteps_72 : decode cX3_freeSteps 72 = .ok (.goto (-57), 3) := by decide +kernel
theorem dX3_freeSteps_75 : decode cX3_freeSteps 75 = .ok (.iload_n 3, 1) := by decide +kernel
theorem dX3_freeSteps_76 : decode cX3_freeSteps 76 = .ok (.ireturn, 1) := by decide +kernel
set_option maxRecDepth 20000 in
theorem ggX3_freeDirections_X3_freeSteps : GoodIn wsX3_freeDirections wsX3_freeSteps := goodIn_r _ [5, 6, 7, 8, 9, 10, 11, 4, 12, 13, 14, 15, 16, 17, 18, 19, 20, 21, 22, 23, 24, 25, 26, 27, 28, 29, 30, 31, 32, 33, 34, 35, 36, 37, 38, 39, 40, 41, 42, 43, 44, 45, 46, 47, 48, 49, 50, 51, 52, 53, 54, 55, 56, 57, 58, 59, 60, 61, 62, 63, 64, 65, 66, 67, 68, 69, 70, 71, 72, 73, 74, 75, 76, 77, 78, 79, 80, 81, 82, 83, 84, 85, 86, 87, 88, 89, 90, 91, 92, 93, 94, 95, 96, 97, 98, 99, 100, 101] (by decide +kernel) (by decide +kernel)
set_option maxRecDepth 20000 in
theorem gX3_freeDirections_X3_freeSteps : GoodIn wsX3_freeDirections (wsV RX3 85 RX3 yX3_freeSteps wsX3_freeSteps) := goodIn_app (goodIn_of _ (by decide +kernel)) ggX3_freeDirections_X3_freeSteps
theorem dX3_freeDirections_0 : decode cX3_freeDirections 0 = .ok (.iconst 0, 1) := by decide +kernel
theorem dX3_freeDirections_1 : decode cX3_freeDirections 1 = .ok (.istore_n 2, 1) := by decide +kernel
theorem dX3_freeDirections_2 : decode cX3_freeDirections 2 = .ok (.iconst 0, 1) := by decide +kernel
theorem dX3_freeDirections_3 : decode cX3_freeDirections 3 = .ok (.istore_n 3, 1) := by decide +kernel
theorem dX3_freeDirections_4 : decode cX3_freeDirections 4 = .ok (.iload_n 3, 1) := by decide +kernel
theorem dX3_freeDirections_5 : decode cX3_freeDirections 5 = .ok (.bipush 8, 2) := by decide +kernel
theorem dX3_freeDirections_7 : decode cX3_freeDirections 7 = .ok (.if_icmp .ge 26, 3) := by decide +kernel
theorem dX3_freeDirections_10 : decode cX3_freeDirections 10 = .ok (.aload_n 0, 1) := by decide +kernel
theorem dX3_freeDirections_11 : decode cX3_freeDirections 11 = .ok (.iload_n 1, 1) := by decide +kernel
theorem dX3_freeDirections_12 : decode cX3_freeDirections 12 = .ok (.iload_n 3, 1) := by decide +kernel
theorem dX3_freeDirections_13 : decode cX3_freeDirections 13 = .ok (.iconst 1, 1) := by decide +kernel
theorem dX3_freeDirections_14 : decode cX3_freeDirections 14 = .ok (.invokevirtual 85, 3) := by decide +kernel
theorem dX3_freeDirections_17 : decode cX3_freeDirections 17 = .ok (.iconst 1, 1) := by decide +kernel
theorem dX3_freeDirections_18 : decode cX3_freeDirections 18 = .ok (.if_icmp .ne 9, 3) := by decide +kernel
theorem dX3_freeDirections_21 : decode cX3_freeDirections 21 = .ok (.iload_n 2, 1) := by decide +kernel
theorem dX3_freeDirections_22 : decode cX3_freeDirections 22 = .ok (.iconst 1, 1) := by decide +kernel
theorem dX3_freeDirections_23 : decode cX3_freeDirections 23 = .ok (.iload_n 3, 1) := by decide +kernel
theorem dX3_freeDirections_24 : decode cX3_freeDirections 24 = .ok (.ishl, 1) := by decide +kernel
theorem dX3_freeDirections_25 : decode cX3_freeDirections 25 = .ok (.ior, 1) := by decide +kernel
theorem dX3_freeDirections_26 : decode cX3_freeDirections 26 = .ok (.istore_n 2, 1) := by decide +kernel
theorem dX3_freeDirections_27 : decode cX3_freeDirections 27 = .ok (.iinc 3 1, 3) := by decide +kernel
theorem dX3_freeDirections_30 : decode cX3_freeDirections 30 = .ok (.goto (-26), 3) := by decide +kernel
theorem dX3_freeDirections_33 : decode cX3_freeDirections 33 = .ok (.iload_n 2, 1) := by decide +kernel
theorem dX3_freeDirections_34 : decode cX3_freeDirections 34 = .ok (.ireturn, 1) := by decide +kernel
set_option maxRecDepth 20000 in
theorem ggX3_jammed_X3_freeSteps : GoodIn wsX3_jammed wsX3_freeSteps := goodIn_r _ [6, 7, 8, 9, 10, 11, 12, 5, 13, 14, 15, 16, 17, 18, 19, 20, 21, 22, 23, 24, 25, 26, 27, 28, 29, 30, 31, 32, 33, 34, 35, 36, 37, 38, 39, 40, 41, 42, 43, 44, 45, 46, 47, 48, 49, 50, 51, 52, 53, 54, 55, 56, 57, 58, 59, 60, 61, 62, 63, 64, 65, 66, 67, 68, 69, 70, 71, 72, 73, 74, 75, 76, 77, 1, 78, 79, 80, 81, 82, 83, 84, 85, 86, 87, 88, 89, 90, 91, 92, 93, 94, 95, 96, 97, 98, 99, 100, 101] (by decide +kernel) (by decide +kernel)
set_option maxRecDepth 20000 in
theorem gX3_jammed_X3_freeSteps : GoodIn wsX3_jammed (wsV RX3 85 RX3 yX3_freeSteps wsX3_freeSteps) := goodIn_app (goodIn_of _ (by decide +kernel)) ggX3_jammed_X3_freeSteps
theorem dX3_jammed_0 : decode cX3_jammed 0 = .ok (.iconst 0, 1) := by decide +kernel
theorem dX3_jammed_1 : decode cX3_jammed 1 = .ok (.istore_n 1, 1) := by decide +kernel
theorem dX3_jammed_2 : decode cX3_jammed 2 = .ok (.iconst 0, 1) := by decide +kernel
theorem dX3_jammed_3 : decode cX3_jammed 3 = .ok (.istore_n 2, 1) := by decide +kernel
theorem dX3_jammed_4 : decode cX3_jammed 4 = .ok (.iload_n 2, 1) := by decide +kernel
theorem dX3_jammed_5 : decode cX3_jammed 5 = .ok (.aload_n 0, 1) := by decide +kernel
theorem dX3_jammed_6 : decode cX3_jammed 6 = .ok (.getfield 25, 3) := by decide +kernel
theorem dX3_jammed_9 : decode cX3_jammed 9 = .ok (.if_icmp .ge 59, 3) := by decide +kernel
theorem dX3_jammed_12 : decode cX3_jammed 12 = .ok (.iconst 0, 1) := by decide +kernel
theorem dX3_jammed_13 : decode cX3_jammed 13 = .ok (.istore_n 3, 1) := by decide +kernel
theorem dX3_jammed_14 : decode cX3_jammed 14 = .ok (.iconst 0, 1) := by decide +kernel
theorem dX3_jammed_15 : decode cX3_jammed 15 = .ok (.istore 4, 2) := by decide +kernel
theorem dX3_jammed_17 : decode cX3_jammed 17 = .ok (.iload 4, 2) := by decide +kernel
theorem dX3_jammed_19 : decode cX3_jammed 19 = .ok (.bipush 8, 2) := by decide +kernel
theorem dX3_jammed_21 : decode cX3_jammed 21 = .ok (.if_icmp .ge 31, 3) := by decide +kernel
theorem dX3_jammed_24 : decode cX3_jammed 24 = .ok (.iload_n 3, 1) := by decide +kernel
theorem dX3_jammed_25 : decode cX3_jammed 25 = .ok (.ifCond .ne 27, 3) := by decide +kernel
theorem dX3_jammed_28 : decode cX3_jammed 28 = .ok (.aload_n 0, 1) := by decide +kernel
theorem dX3_jammed_29 : decode cX3_jammed 29 = .ok (.iload_n 2, 1) := by decide +kernel
theorem dX3_jammed_30 : decode cX3_jammed 30 = .ok (.iload 4, 2) := by decide +kernel
theorem dX3_jammed_32 : decode cX3_jammed 32 = .ok (.iconst 1, 1) := by decide +kernel
theorem dX3_jammed_33 : decode cX3_jammed 33 = .ok (.invokevirtual 85, 3) := by decide +kernel
theorem dX3_jammed_36 : decode cX3_jammed 36 = .ok (.iconst 1, 1) := by decide +kernel
theorem dX3_jammed_37 : decode cX3_jammed 37 = .ok (.if_icmp .ne 7, 3) := by decide +kernel
theorem dX3_jammed_40 : decode cX3_jammed 40 = .ok (.iconst 1, 1) := by decide +kernel
theorem dX3_jammed_41 : decode cX3_jammed 41 = .ok (.goto 4, 3) := by decide +kernel
theorem dX3_jammed_44 : decode cX3_jammed 44 = .ok (.iconst 0, 1) := by decide +kernel
theorem dX3_jammed_45 : decode cX3_jammed 45 = .ok (.istore_n 3, 1) := by decide +kernel
theorem dX3_jammed_46 : decode cX3_jammed 46 = .ok (.iinc 4 2, 3) := by decide +kernel
theorem dX3_jammed_49 : decode cX3_jammed 49 = .ok (.goto (-32), 3) := by decide +kernel
theorem dX3_jammed_52 : decode cX3_jammed 52 = .ok (.iload_n 3, 1) := by decide +kernel
theorem dX3_jammed_53 : decode cX3_jammed 53 = .ok (.ifCond .ne 9, 3) := by decide +kernel
theorem dX3_jammed_56 : decode cX3_jammed 56 = .ok (.iload_n 1, 1) := by decide +kernel
theorem dX3_jammed_57 : decode cX3_jammed 57 = .ok (.iconst 1, 1) := by decide +kernel
theorem dX3_jammed_58 : decode cX3_jammed 58 = .ok (.iload_n 2, 1) := by decide +kernel
theorem dX3_jammed_59 : decode cX3_jammed 59 = .ok (.ishl, 1) := by decide +kernel
theorem dX3_jammed_60 : decode cX3_jammed 60 = .ok (.ior, 1) := by decide +kernel
theorem dX3_jammed_61 : decode cX3_jammed 61 = .ok (.istore_n 1, 1) := by decide +kernel
theorem dX3_jammed_62 : decode cX3_jammed 62 = .ok (.iinc 2 1, 3) := by decide +kernel
theorem dX3_jammed_65 : decode cX3_jammed 65 = .ok (.goto (-61), 3) := by decide +kernel
theorem dX3_jammed_68 : decode cX3_jammed 68 = .ok (.iload_n 1, 1) := by decide +kernel
theorem dX3_jammed_69 : decode cX3_jammed 69 = .ok (.ireturn, 1) := by decide +kernel
set_option maxRecDepth 20000 in
theorem ggX3_shift_X3_at : GoodIn wsX3_shift wsX3_at := goodIn_r _ [5, 6, 7, 35, 36, 37, 38, 39, 40] (by decide +kernel) (by decide +kernel)
set_option maxRecDepth 20000 in
theorem gX3_shift_X3_at : GoodIn wsX3_shift (wsV RX3 35 RX3 yX3_at wsX3_at) := goodIn_app (goodIn_of _ (by decide +kernel)) ggX3_shift_X3_at
set_option maxRecDepth 20000 in
theorem ggX3_shift_X4_stepX : GoodIn wsX3_shift wsX4_stepX := goodIn_r _ [10, 11] (by decide +kernel) (by decide +kernel)
set_option maxRecDepth 20000 in
theorem gX3_shift_X4_stepX_n71 : GoodIn wsX3_shift (wsX4_stepX) := ggX3_shift_X4_stepX
set_option maxRecDepth 20000 in
theorem ggX3_shift_X4_stepY : GoodIn wsX3_shift wsX4_stepY := goodIn_r _ [13, 14] (by decide +kernel) (by decide +kernel)
set_option maxRecDepth 20000 in
theorem gX3_shift_X4_stepY_n74 : GoodIn wsX3_shift (wsX4_stepY) := ggX3_shift_X4_stepY
set_option maxRecDepth 20000 in
theorem ggX3_shift_X0_move : GoodIn wsX3_shift wsX0_move := goodIn_r _ [19, 20, 21, 22, 23, 18, 24, 25, 26, 27, 28, 29, 30, 31, 32, 33, 34, 41, 42, 43] (by decide +kernel) (by decide +kernel)
set_option maxRecDepth 20000 in
theorem gX3_shift_X0_move : GoodIn wsX3_shift (wsV RX3 77 RX0 yX0_move wsX0_move) := goodIn_app (goodIn_of _ (by decide +kernel)) ggX3_shift_X0_move
theorem dX3_shift_0 : decode cX3_shift 0 = .ok (.aload_n 0, 1) := by decide +kernel
theorem dX3_shift_1 : decode cX3_shift 1 = .ok (.iload_n 1, 1) := by decide +kernel
theorem dX3_shift_2 : decode cX3_shift 2 = .ok (.invokevirtual 35, 3) := by decide +kernel
theorem dX3_shift_5 : decode cX3_shift 5 = .ok (.iload_n 3, 1) := by decide +kernel
theorem dX3_shift_6 : decode cX3_shift 6 = .ok (.iload_n 2, 1) := by decide +kernel
theorem dX3_shift_7 : decode cX3_shift 7 = .ok (.invokestatic 71, 3) := by decide +kernel
theorem dX3_shift_10 : decode cX3_shift 10 = .ok (.imul, 1) := by decide +kernel
theorem dX3_shift_11 : decode cX3_shift 11 = .ok (.iload_n 3, 1) := by decide +kernel
theorem dX3_shift_12 : decode cX3_shift 12 = .ok (.iload_n 2, 1) := by decide +kernel
theorem dX3_shift_13 : decode cX3_shift 13 = .ok (.invokestatic 74, 3) := by decide +kernel
theorem dX3_shift_16 : decode cX3_shift 16 = .ok (.imul, 1) := by decide +kernel
theorem dX3_shift_17 : decode cX3_shift 17 = .ok (.invokevirtual 77, 3) := by decide +kernel
theorem dX3_shift_20 : decode cX3_shift 20 = .ok (.return_, 1) := by decide +kernel
set_option maxRecDepth 20000 in
theorem ggX3_shifted_X3_at : GoodIn wsX3_shifted wsX3_at := goodIn_r _ [6, 7, 8, 40, 41, 42, 43, 44, 45] (by decide +kernel) (by decide +kernel)
set_option maxRecDepth 20000 in
theorem gX3_shifted_X3_at : GoodIn wsX3_shifted (wsV RX3 35 RX3 yX3_at wsX3_at) := goodIn_app (goodIn_of _ (by decide +kernel)) ggX3_shifted_X3_at
set_option maxRecDepth 20000 in
theorem ggX3_shifted_X0_copyFrom : GoodIn wsX3_shifted wsX0_copyFrom := goodIn_r _ [13, 14, 15, 16, 17, 12, 18, 19, 20, 21, 22, 23, 24, 25, 26, 27, 28, 46, 47, 48] (by decide +kernel) (by decide +kernel)
set_option maxRecDepth 20000 in
theorem gX3_shifted_X0_copyFrom : GoodIn wsX3_shifted (wsV RX3 39 RX0 yX0_copyFrom wsX0_copyFrom) := goodIn_app (goodIn_of _ (by decide +kernel)) ggX3_shifted_X0_copyFrom
set_option maxRecDepth 20000 in
theorem ggX3_shifted_X4_stepX : GoodIn wsX3_shifted wsX4_stepX := goodIn_r _ [31, 32] (by decide +kernel) (by decide +kernel)
set_option maxRecDepth 20000 in
theorem gX3_shifted_X4_stepX_n71 : GoodIn wsX3_shifted (wsX4_stepX) := ggX3_shifted_X4_stepX
set_option maxRecDepth 20000 in
theorem ggX3_shifted_X4_stepY : GoodIn wsX3_shifted wsX4_stepY := goodIn_r _ [34, 35] (by decide +kernel) (by decide +kernel)
set_option maxRecDepth 20000 in
theorem gX3_shifted_X4_stepY_n74 : GoodIn wsX3_shifted (wsX4_stepY) := ggX3_shifted_X4_stepY
set_option maxRecDepth 20000 in
theorem ggX3_shifted_X0_move : GoodIn wsX3_shifted wsX0_move := goodIn_r _ [39, 14, 15, 16, 17, 12, 18, 19, 20, 21, 22, 23, 24, 25, 26, 27, 28, 46, 47, 48] (by decide +kernel) (by decide +kernel)
set_option maxRecDepth 20000 in
theorem gX3_shifted_X0_move : GoodIn wsX3_shifted (wsV RX3 77 RX0 yX0_move wsX0_move) := goodIn_app (goodIn_of _ (by decide +kernel)) ggX3_shifted_X0_move
theorem dX3_shifted_0 : decode cX3_shifted 0 = .ok (.aload_n 0, 1) := by decide +kernel
theorem dX3_shifted_1 : decode cX3_shifted 1 = .ok (.getfield 22, 3) := by decide +kernel
theorem dX3_shifted_4 : decode cX3_shifted 4 = .ok (.aload_n 0, 1) := by decide +kernel
theorem dX3_shifted_5 : decode cX3_shifted 5 = .ok (.iload_n 1, 1) := by decide +kernel
theorem dX3_shifted_6 : decode cX3_shifted 6 = .ok (.invokevirtual 35, 3) := by decide +kernel
theorem dX3_shifted_9 : decode cX3_shifted 9 = .ok (.invokevirtual 39, 3) := by decide +kernel
theorem dX3_shifted_12 : decode cX3_shifted 12 = .ok (.aload_n 0, 1) := by decide +kernel
theorem dX3_shifted_13 : decode cX3_shifted 13 = .ok (.getfield 22, 3) := by decide +kernel
theorem dX3_shifted_16 : decode cX3_shifted 16 = .ok (.iload_n 3, 1) := by decide +kernel
theorem dX3_shifted_17 : decode cX3_shifted 17 = .ok (.iload_n 2, 1) := by decide +kernel
theorem dX3_shifted_18 : decode cX3_shifted 18 = .ok (.invokestatic 71, 3) := by decide +kernel
theorem dX3_shifted_21 : decode cX3_shifted 21 = .ok (.imul, 1) := by decide +kernel
theorem dX3_shifted_22 : decode cX3_shifted 22 = .ok (.iload_n 3, 1) := by decide +kernel
theorem dX3_shifted_23 : decode cX3_shifted 23 = .ok (.iload_n 2, 1) := by decide +kernel
theorem dX3_shifted_24 : decode cX3_shifted 24 = .ok (.invokestatic 74, 3) := by decide +kernel
theorem dX3_shifted_27 : decode cX3_shifted 27 = .ok (.imul, 1) := by decide +kernel
theorem dX3_shifted_28 : decode cX3_shifted 28 = .ok (.invokevirtual 77, 3) := by decide +kernel
theorem dX3_shifted_31 : decode cX3_shifted 31 = .ok (.aload_n 0, 1) := by decide +kernel
theorem dX3_shifted_32 : decode cX3_shifted 32 = .ok (.getfield 22, 3) := by decide +kernel
theorem dX3_shifted_35 : decode cX3_shifted 35 = .ok (.areturn, 1) := by decide +kernel
set_option maxRecDepth 20000 in
theorem ggX3_settleAll_X3_freeSteps : GoodIn wsX3_settleAll wsX3_freeSteps := goodIn_r _ [6, 7, 8, 9, 10, 11, 12, 5, 13, 14, 15, 16, 17, 18, 19, 20, 21, 22, 23, 24, 25, 26, 27, 28, 29, 30, 31, 32, 33, 34, 35, 36, 37, 38, 39, 40, 41, 42, 43, 44, 45, 46, 47, 48, 49, 50, 51, 52, 53, 54, 55, 56, 57, 58, 59, 60, 61, 62, 63, 64, 65, 66, 67, 68, 69, 70, 71, 72, 73, 74, 75, 76, 77, 1, 78, 79, 80, 81, 82, 83, 84, 85, 86, 87, 88, 89, 90, 91, 92, 97, 98, 99, 100, 101, 102, 103, 104, 105] (by decide +kernel) (by decide +kernel)
set_option maxRecDepth 20000 in
theorem gX3_settleAll_X3_freeSteps : GoodIn wsX3_settleAll (wsV RX3 85 RX3 yX3_freeSteps wsX3_freeSteps) := goodIn_app (goodIn_of _ (by decide +kernel)) ggX3_settleAll_X3_freeSteps
set_option maxRecDepth 20000 in
theorem ggX3_settleAll_X3_shift : GoodIn wsX3_settleAll wsX3_shift := goodIn_r _ [96, 10, 11, 12, 5, 13, 14, 15, 36, 37, 38, 39, 40, 41, 42, 43, 44, 45, 19, 46, 21, 22, 23, 24, 25, 26, 27, 28, 29, 30, 31, 32, 33, 34, 35, 97, 98, 99, 100, 101, 102, 103, 104, 105] (by decide +kernel) (by decide +kernel)
set_option maxRecDepth 20000 in
theorem gX3_settleAll_X3_shift : GoodIn wsX3_settleAll (wsV RX3 92 RX3 yX3_shift wsX3_shift) := goodIn_app (goodIn_of _ (by decide +kernel)) ggX3_settleAll_X3_shift
theorem dX3_settleAll_0 : decode cX3_settleAll 0 = .ok (.iconst 0, 1) := by decide +kernel
theorem dX3_settleAll_1 : decode cX3_settleAll 1 = .ok (.istore_n 2, 1) := by decide +kernel
theorem dX3_settleAll_2 : decode cX3_settleAll 2 = .ok (.iconst 0, 1) := by decide +kernel
theorem dX3_settleAll_3 : decode cX3_settleAll 3 = .ok (.istore_n 3, 1) := by decide +kernel
theorem dX3_settleAll_4 : decode cX3_settleAll 4 = .ok (.iload_n 3, 1) := by decide +kernel
theorem dX3_settleAll_5 : decode cX3_settleAll 5 = .ok (.sipush 1000, 3) := by decide +kernel
theorem dX3_settleAll_8 : decode cX3_settleAll 8 = .ok (.if_icmp .ge 69, 3) := by decide +kernel
theorem dX3_settleAll_11 : decode cX3_settleAll 11 = .ok (.iconst 0, 1) := by decide +kernel
theorem dX3_settleAll_12 : decode cX3_settleAll 12 = .ok (.istore 4, 2) := by decide +kernel
theorem dX3_settleAll_14 : decode cX3_settleAll 14 = .ok (.iconst 0, 1) := by decide +kernel
theorem dX3_settleAll_15 : decode cX3_settleAll 15 = .ok (.istore 5, 2) := by decide +kernel
theorem dX3_settleAll_17 : decode cX3_settleAll 17 = .ok (.iload 5, 2) := by decide +kernel
theorem dX3_settleAll_19 : decode cX3_settleAll 19 = .ok (.aload_n 0, 1) := by decide +kernel
theorem dX3_settleAll_20 : decode cX3_settleAll 20 = .ok (.getfield 25, 3) := by decide +kernel
theorem dX3_settleAll_23 : decode cX3_settleAll 23 = .ok (.if_icmp .ge 36, 3) := by decide +kernel
theorem dX3_settleAll_26 : decode cX3_settleAll 26 = .ok (.aload_n 0, 1) := by decide +kernel
theorem dX3_settleAll_27 : decode cX3_settleAll 27 = .ok (.iload 5, 2) := by decide +kernel
theorem dX3_settleAll_29 : decode cX3_settleAll 29 = .ok (.iload_n 1, 1) := by decide +kernel
theorem dX3_settleAll_30 : decode cX3_settleAll 30 = .ok (.bipush 60, 2) := by decide +kernel
theorem dX3_settleAll_32 : decode cX3_settleAll 32 = .ok (.invokevirtual 85, 3) := by decide +kernel
theorem dX3_settleAll_35 : decode cX3_settleAll 35 = .ok (.istore 6, 2) := by decide +kernel
theorem dX3_settleAll_37 : decode cX3_settleAll 37 = .ok (.aload_n 0, 1) := by decide +kernel
theorem dX3_settleAll_38 : decode cX3_settleAll 38 = .ok (.iload 5, 2) := by decide +kernel
theorem dX3_settleAll_40 : decode cX3_settleAll 40 = .ok (.iload_n 1, 1) := by decide +kernel
theorem dX3_settleAll_41 : decode cX3_settleAll 41 = .ok (.iload 6, 2) := by decide +kernel
theorem dX3_settleAll_43 : decode cX3_settleAll 43 = .ok (.invokevirtual 92, 3) := by decide +kernel
theorem dX3_settleAll_46 : decode cX3_settleAll 46 = .ok (.iload 4, 2) := by decide +kernel
theorem dX3_settleAll_48 : decode cX3_settleAll 48 = .ok (.iload 6, 2) := by decide +kernel
theorem dX3_settleAll_50 : decode cX3_settleAll 50 = .ok (.iadd, 1) := by decide +kernel
theorem dX3_settleAll_51 : decode cX3_settleAll 51 = .ok (.istore 4, 2) := by decide +kernel
theorem dX3_settleAll_53 : decode cX3_settleAll 53 = .ok (.iinc 5 1, 3) := by decide +kernel
theorem dX3_settleAll_56 : decode cX3_settleAll 56 = .ok (.goto (-39), 3) := by decide +kernel
theorem dX3_settleAll_59 : decode cX3_settleAll 59 = .ok (.iload 4, 2) := by decide +kernel
theorem dX3_settleAll_61 : decode cX3_settleAll 61 = .ok (.ifCond .ne 5, 3) := by decide +kernel
theorem dX3_settleAll_64 : decode cX3_settleAll 64 = .ok (.iload_n 2, 1) := by decide +kernel
theorem dX3_settleAll_65 : decode cX3_settleAll 65 = .ok (.ireturn, 1) := by decide +kernel
theorem dX3_settleAll_66 : decode cX3_settleAll 66 = .ok (.iload_n 2, 1) := by decide +kernel
theorem dX3_settleAll_67 : decode cX3_settleAll 67 = .ok (.iload 4, 2) := by decide +kernel
theorem dX3_settleAll_69 : decode cX3_settleAll 69 = .ok (.iadd, 1) := by decide +kernel
theorem dX3_settleAll_70 : decode cX3_settleAll 70 = .ok (.istore_n 2, 1) := by decide +kernel
theorem dX3_settleAll_71 : decode cX3_settleAll 71 = .ok (.iinc 3 1, 3) := by decide +kernel
theorem dX3_settleAll_74 : decode cX3_settleAll 74 = .ok (.goto (-70), 3) := by decide +kernel
theorem dX3_settleAll_77 : decode cX3_settleAll 77 = .ok (.iload_n 2, 1) := by decide +kernel
theorem dX3_settleAll_78 : decode cX3_settleAll 78 = .ok (.ireturn, 1) := by decide +kernel
set_option maxRecDepth 20000 in
theorem ggX3_doubleArea_X3_at : GoodIn wsX3_doubleArea wsX3_at := goodIn_r _ [6, 7, 8, 29, 30, 31, 32, 33, 34] (by decide +kernel) (by decide +kernel)
set_option maxRecDepth 20000 in
theorem gX3_doubleArea_X3_at : GoodIn wsX3_doubleArea (wsV RX3 35 RX3 yX3_at wsX3_at) := goodIn_app (goodIn_of _ (by decide +kernel)) ggX3_doubleArea_X3_at
set_option maxRecDepth 20000 in
theorem ggX3_doubleArea_X0_doubleArea : GoodIn wsX3_doubleArea wsX0_doubleArea := goodIn_r _ [13, 14, 15, 16, 17, 12, 18, 19, 20, 21, 22, 23, 24, 25, 26, 27, 28, 35, 36, 37] (by decide +kernel) (by decide +kernel)
set_option maxRecDepth 20000 in
theorem gX3_doubleArea_X0_doubleArea : GoodIn wsX3_doubleArea (wsV RX3 96 RX0 yX0_doubleArea wsX0_doubleArea) := goodIn_app (goodIn_of _ (by decide +kernel)) ggX3_doubleArea_X0_doubleArea
theorem dX3_doubleArea_0 : decode cX3_doubleArea 0 = .ok (.iconst 0, 1) := by decide +kernel
theorem dX3_doubleArea_1 : decode cX3_doubleArea 1 = .ok (.istore_n 1, 1) := by decide +kernel
theorem dX3_doubleArea_2 : decode cX3_doubleArea 2 = .ok (.iconst 0, 1) := by decide +kernel
theorem dX3_doubleArea_3 : decode cX3_doubleArea 3 = .ok (.istore_n 2, 1) := by decide +kernel
theorem dX3_doubleArea_4 : decode cX3_doubleArea 4 = .ok (.iload_n 2, 1) := by decide +kernel
theorem dX3_doubleArea_5 : decode cX3_doubleArea 5 = .ok (.aload_n 0, 1) := by decide +kernel
theorem dX3_doubleArea_6 : decode cX3_doubleArea 6 = .ok (.getfield 25, 3) := by decide +kernel
theorem dX3_doubleArea_9 : decode cX3_doubleArea 9 = .ok (.if_icmp .ge 20, 3) := by decide +kernel
theorem dX3_doubleArea_12 : decode cX3_doubleArea 12 = .ok (.iload_n 1, 1) := by decide +kernel
theorem dX3_doubleArea_13 : decode cX3_doubleArea 13 = .ok (.aload_n 0, 1) := by decide +kernel
theorem dX3_doubleArea_14 : decode cX3_doubleArea 14 = .ok (.iload_n 2, 1) := by decide +kernel
theorem dX3_doubleArea_15 : decode cX3_doubleArea 15 = .ok (.invokevirtual 35, 3) := by decide +kernel
theorem dX3_doubleArea_18 : decode cX3_doubleArea 18 = .ok (.invokevirtual 96, 3) := by decide +kernel
theorem dX3_doubleArea_21 : decode cX3_doubleArea 21 = .ok (.iadd, 1) := by decide +kernel
theorem dX3_doubleArea_22 : decode cX3_doubleArea 22 = .ok (.istore_n 1, 1) := by decide +kernel
theorem dX3_doubleArea_23 : decode cX3_doubleArea 23 = .ok (.iinc 2 1, 3) := by decide +kernel
theorem dX3_doubleArea_26 : decode cX3_doubleArea 26 = .ok (.goto (-22), 3) := by decide +kernel
theorem dX3_doubleArea_29 : decode cX3_doubleArea 29 = .ok (.iload_n 1, 1) := by decide +kernel
theorem dX3_doubleArea_30 : decode cX3_doubleArea 30 = .ok (.ireturn, 1) := by decide +kernel
set_option maxRecDepth 20000 in
theorem ggX3_allCorners_X3_at : GoodIn wsX3_allCorners wsX3_at := goodIn_r _ [7, 8, 9, 10, 11, 12, 13, 14, 15] (by decide +kernel) (by decide +kernel)
set_option maxRecDepth 20000 in
theorem gX3_allCorners_X3_at : GoodIn wsX3_allCorners (wsV RX3 35 RX3 yX3_at wsX3_at) := goodIn_app (goodIn_of _ (by decide +kernel)) ggX3_allCorners_X3_at
theorem dX3_allCorners_0 : decode cX3_allCorners 0 = .ok (.iconst 0, 1) := by decide +kernel
theorem dX3_allCorners_1 : decode cX3_allCorners 1 = .ok (.istore_n 1, 1) := by decide +kernel
theorem dX3_allCorners_2 : decode cX3_allCorners 2 = .ok (.iconst 0, 1) := by decide +kernel
theorem dX3_allCorners_3 : decode cX3_allCorners 3 = .ok (.istore_n 2, 1) := by decide +kernel
theorem dX3_allCorners_4 : decode cX3_allCorners 4 = .ok (.iload_n 2, 1) := by decide +kernel
theorem dX3_allCorners_5 : decode cX3_allCorners 5 = .ok (.aload_n 0, 1) := by decide +kernel
theorem dX3_allCorners_6 : decode cX3_allCorners 6 = .ok (.getfield 25, 3) := by decide +kernel
theorem dX3_allCorners_9 : decode cX3_allCorners 9 = .ok (.if_icmp .ge 20, 3) := by decide +kernel
theorem dX3_allCorners_12 : decode cX3_allCorners 12 = .ok (.iload_n 1, 1) := by decide +kernel
theorem dX3_allCorners_13 : decode cX3_allCorners 13 = .ok (.aload_n 0, 1) := by decide +kernel
theorem dX3_allCorners_14 : decode cX3_allCorners 14 = .ok (.iload_n 2, 1) := by decide +kernel
theorem dX3_allCorners_15 : decode cX3_allCorners 15 = .ok (.invokevirtual 35, 3) := by decide +kernel
theorem dX3_allCorners_18 : decode cX3_allCorners 18 = .ok (.getfield 100, 3) := by decide +kernel
theorem dX3_allCorners_21 : decode cX3_allCorners 21 = .ok (.iadd, 1) := by decide +kernel
theorem dX3_allCorners_22 : decode cX3_allCorners 22 = .ok (.istore_n 1, 1) := by decide +kernel
theorem dX3_allCorners_23 : decode cX3_allCorners 23 = .ok (.iinc 2 1, 3) := by decide +kernel
theorem dX3_allCorners_26 : decode cX3_allCorners 26 = .ok (.goto (-22), 3) := by decide +kernel
theorem dX3_allCorners_29 : decode cX3_allCorners 29 = .ok (.iload_n 1, 1) := by decide +kernel
theorem dX3_allCorners_30 : decode cX3_allCorners 30 = .ok (.ireturn, 1) := by decide +kernel
set_option maxRecDepth 20000 in
theorem ggX4_init_X3_init : GoodIn wsX4_init wsX3_init := goodIn_r _ [19, 20, 2, 3, 21, 22, 23, 24, 25, 26, 27, 28, 29, 30, 31, 32, 33, 34, 35, 36, 37, 62, 63, 64, 65, 66, 67, 83, 84, 85] (by decide +kernel) (by decide +kernel)
set_option maxRecDepth 20000 in
theorem gX4_init_X3_init : GoodIn wsX4_init (wsX3_init) := ggX4_init_X3_init
set_option maxRecDepth 20000 in
theorem ggX4_init_X2_init : GoodIn wsX4_init wsX2_init := goodIn_r _ [40, 41, 2, 3, 42, 43, 5, 6, 44, 45, 46, 47, 18, 19, 20, 21, 22, 23, 24, 25, 26, 27, 28, 29, 30, 31, 32, 33, 34, 35, 36, 37, 72, 73, 74, 75, 62, 63, 64, 65, 66, 67, 83, 84, 85] (by decide +kernel) (by decide +kernel)
set_option maxRecDepth 20000 in
theorem gX4_init_X2_init : GoodIn wsX4_init (wsX2_init) := ggX4_init_X2_init
set_option maxRecDepth 20000 in
theorem ggX4_init_X1_init : GoodIn wsX4_init wsX1_init := goodIn_r _ [50, 51, 2, 3, 52, 53, 54, 23, 24, 55, 56, 57, 58, 59, 60, 61, 31, 32, 33, 34, 35, 36, 37, 76, 77, 78, 79, 80, 81, 82, 83, 84, 85] (by decide +kernel) (by decide +kernel)
set_option maxRecDepth 20000 in
theorem gX4_init_X1_init : GoodIn wsX4_init (wsX1_init) := ggX4_init_X1_init
theorem dX4_init_0 : decode cX4_init 0 = .ok (.aload_n 0, 1) := by decide +kernel
theorem dX4_init_1 : decode cX4_init 1 = .ok (.invokespecial 1, 3) := by decide +kernel
theorem dX4_init_4 : decode cX4_init 4 = .ok (.aload_n 0, 1) := by decide +kernel
theorem dX4_init_5 : decode cX4_init 5 = .ok (.new 7, 3) := by decide +kernel
theorem dX4_init_8 : decode cX4_init 8 = .ok (.dup, 1) := by decide +kernel
theorem dX4_init_9 : decode cX4_init 9 = .ok (.invokespecial 9, 3) := by decide +kernel
theorem dX4_init_12 : decode cX4_init 12 = .ok (.putfield 10, 3) := by decide +kernel
theorem dX4_init_15 : decode cX4_init 15 = .ok (.aload_n 0, 1) := by decide +kernel
theorem dX4_init_16 : decode cX4_init 16 = .ok (.new 7, 3) := by decide +kernel
theorem dX4_init_19 : decode cX4_init 19 = .ok (.dup, 1) := by decide +kernel
theorem dX4_init_20 : decode cX4_init 20 = .ok (.invokespecial 9, 3) := by decide +kernel
theorem dX4_init_23 : decode cX4_init 23 = .ok (.putfield 16, 3) := by decide +kernel
theorem dX4_init_26 : decode cX4_init 26 = .ok (.aload_n 0, 1) := by decide +kernel
theorem dX4_init_27 : decode cX4_init 27 = .ok (.new 19, 3) := by decide +kernel
theorem dX4_init_30 : decode cX4_init 30 = .ok (.dup, 1) := by decide +kernel
theorem dX4_init_31 : decode cX4_init 31 = .ok (.invokespecial 21, 3) := by decide +kernel
theorem dX4_init_34 : decode cX4_init 34 = .ok (.putfield 22, 3) := by decide +kernel
theorem dX4_init_37 : decode cX4_init 37 = .ok (.aload_n 0, 1) := by decide +kernel
theorem dX4_init_38 : decode cX4_init 38 = .ok (.new 26, 3) := by decide +kernel
theorem dX4_init_41 : decode cX4_init 41 = .ok (.dup, 1) := by decide +kernel
theorem dX4_init_42 : decode cX4_init 42 = .ok (.invokespecial 28, 3) := by decide +kernel
theorem dX4_init_45 : decode cX4_init 45 = .ok (.putfield 29, 3) := by decide +kernel
theorem dX4_init_48 : decode cX4_init 48 = .ok (.return_, 1) := by decide +kernel
set_option maxRecDepth 20000 in
theorem ggX4_box_X4_isSize : GoodIn wsX4_box wsX4_isSize := goodIn_r _ [10] (by decide +kernel) (by decide +kernel)
set_option maxRecDepth 20000 in
theorem gX4_box_X4_isSize : GoodIn wsX4_box (va_wsS RX4 33 yX4_isSize wsX4_isSize) := goodIn_app (goodIn_of _ (by decide +kernel)) ggX4_box_X4_isSize
set_option maxRecDepth 20000 in
theorem ggX4_box_X3_fitsInto : GoodIn wsX4_box wsX3_fitsInto := goodIn_r _ [15, 16, 17, 18, 19, 14, 20, 21, 22, 23, 24, 25, 26, 27, 28, 29, 30, 31, 32, 33, 34, 35, 36, 37, 38, 39, 40, 41, 42, 43, 44, 45, 46, 47, 48, 49, 50, 51, 52, 53, 54, 55, 56, 57, 58, 59, 60, 61, 93, 94, 95, 96, 97, 98, 99, 100, 101] (by decide +kernel) (by decide +kernel)
set_option maxRecDepth 20000 in
theorem gX4_box_X3_fitsInto : GoodIn wsX4_box (wsV RX4 38 RX3 yX3_fitsInto wsX3_fitsInto) := goodIn_app (goodIn_of _ (by decide +kernel)) ggX4_box_X3_fitsInto
set_option maxRecDepth 20000 in
theorem ggX4_box_X2_keep : GoodIn wsX4_box wsX2_keep := goodIn_r _ [66, 67, 68, 69, 70, 71, 65, 72, 73, 74, 75, 76, 77, 14, 78, 16, 79, 80, 17, 18, 19, 20, 21, 22, 81, 82, 83, 26, 84, 32, 37, 38, 39, 40, 41, 53, 54, 55, 56, 57, 85, 86, 87, 88, 102, 103, 104, 105, 93, 94, 95, 96, 97, 98, 99, 100, 101] (by decide +kernel) (by decide +kernel)
set_option maxRecDepth 20000 in
theorem gX4_box_X2_keep : GoodIn wsX4_box (wsV RX4 43 RX2 yX2_keep wsX2_keep) := goodIn_app (goodIn_of _ (by decide +kernel)) ggX4_box_X2_keep
theorem dX4_box_0 : decode cX4_box 0 = .ok (.iload_n 1, 1) := by decide +kernel
theorem dX4_box_1 : decode cX4_box 1 = .ok (.invokestatic 33, 3) := by decide +kernel
theorem dX4_box_4 : decode cX4_box 4 = .ok (.ifCond .eq 10, 3) := by decide +kernel
theorem dX4_box_7 : decode cX4_box 7 = .ok (.iload_n 2, 1) := by decide +kernel
theorem dX4_box_8 : decode cX4_box 8 = .ok (.invokestatic 33, 3) := by decide +kernel
theorem dX4_box_11 : decode cX4_box 11 = .ok (.ifCond .ne 6, 3) := by decide +kernel
theorem dX4_box_14 : decode cX4_box 14 = .ok (.ldc 37, 2) := by decide +kernel
theorem dX4_box_16 : decode cX4_box 16 = .ok (.ireturn, 1) := by decide +kernel
theorem dX4_box_17 : decode cX4_box 17 = .ok (.aload_n 0, 1) := by decide +kernel
theorem dX4_box_18 : decode cX4_box 18 = .ok (.getfield 10, 3) := by decide +kernel
theorem dX4_box_21 : decode cX4_box 21 = .ok (.iload_n 1, 1) := by decide +kernel
theorem dX4_box_22 : decode cX4_box 22 = .ok (.iload_n 2, 1) := by decide +kernel
theorem dX4_box_23 : decode cX4_box 23 = .ok (.invokevirtual 38, 3) := by decide +kernel
theorem dX4_box_26 : decode cX4_box 26 = .ok (.ifCond .ne 6, 3) := by decide +kernel
theorem dX4_box_29 : decode cX4_box 29 = .ok (.ldc 42, 2) := by decide +kernel
theorem dX4_box_31 : decode cX4_box 31 = .ok (.ireturn, 1) := by decide +kernel
theorem dX4_box_32 : decode cX4_box 32 = .ok (.aload_n 0, 1) := by decide +kernel
theorem dX4_box_33 : decode cX4_box 33 = .ok (.getfield 22, 3) := by decide +kernel
theorem dX4_box_36 : decode cX4_box 36 = .ok (.aload_n 0, 1) := by decide +kernel
theorem dX4_box_37 : decode cX4_box 37 = .ok (.getfield 10, 3) := by decide +kernel
theorem dX4_box_40 : decode cX4_box 40 = .ok (.invokevirtual 43, 3) := by decide +kernel
theorem dX4_box_43 : decode cX4_box 43 = .ok (.bipush 100, 2) := by decide +kernel
theorem dX4_box_45 : decode cX4_box 45 = .ok (.aload_n 0, 1) := by decide +kernel
theorem dX4_box_46 : decode cX4_box 46 = .ok (.getfield 10, 3) := by decide +kernel
theorem dX4_box_49 : decode cX4_box 49 = .ok (.getfield 47, 3) := by decide +kernel
theorem dX4_box_52 : decode cX4_box 52 = .ok (.imul, 1) := by decide +kernel
theorem dX4_box_53 : decode cX4_box 53 = .ok (.aload_n 0, 1) := by decide +kernel
theorem dX4_box_54 : decode cX4_box 54 = .ok (.getfield 10, 3) := by decide +kernel
theorem dX4_box_57 : decode cX4_box 57 = .ok (.getfield 51, 3) := by decide +kernel
theorem dX4_box_60 : decode cX4_box 60 = .ok (.iadd, 1) := by decide +kernel
theorem dX4_box_61 : decode cX4_box 61 = .ok (.istore_n 3, 1) := by decide +kernel
theorem dX4_box_62 : decode cX4_box 62 = .ok (.aload_n 0, 1) := by decide +kernel
theorem dX4_box_63 : decode cX4_box 63 = .ok (.getfield 10, 3) := by decide +kernel
theorem dX4_box_66 : decode cX4_box 66 = .ok (.iload_n 1, 1) := by decide +kernel
theorem dX4_box_67 : decode cX4_box 67 = .ok (.putfield 47, 3) := by decide +kernel
theorem dX4_box_70 : decode cX4_box 70 = .ok (.aload_n 0, 1) := by decide +kernel
theorem dX4_box_71 : decode cX4_box 71 = .ok (.getfield 10, 3) := by decide +kernel
theorem dX4_box_74 : decode cX4_box 74 = .ok (.iload_n 2, 1) := by decide +kernel
theorem dX4_box_75 : decode cX4_box 75 = .ok (.putfield 51, 3) := by decide +kernel
theorem dX4_box_78 : decode cX4_box 78 = .ok (.iload_n 3, 1) := by decide +kernel
theorem dX4_box_79 : decode cX4_box 79 = .ok (.ireturn, 1) := by decide +kernel
set_option maxRecDepth 20000 in
theorem ggX4_put_X1_examine : GoodIn wsX4_put wsX1_examine := goodIn_r _ [13, 14, 15, 16, 17, 18, 19, 20, 12, 21, 22, 23, 24, 25, 26, 27, 28, 29, 30, 31, 32, 33, 34, 35, 36, 37, 38, 39, 40, 41, 42, 43, 44, 45, 46, 47, 48, 49, 50, 51, 52, 53, 54, 55, 56, 57, 58, 59, 60, 61, 62, 63, 64, 65, 66, 67, 68, 69, 70, 71, 72, 73, 74, 75, 76, 77, 78, 79, 80, 81, 82, 83, 84, 85, 86, 87, 88, 89, 90, 91, 92, 93, 94, 95, 96, 97, 98, 99, 100, 101, 102, 103, 104, 105, 106, 107, 108, 109, 110, 111, 112, 113, 114, 115, 116, 117, 118, 119, 120, 152, 153, 154, 155, 156, 157, 158, 159, 160, 161, 162, 163, 164, 165, 166, 167] (by decide +kernel) (by decide +kernel)
set_option maxRecDepth 20000 in
theorem gX4_put_X1_examine : GoodIn wsX4_put (wsV RX4 54 RX1 yX1_examine wsX1_examine) := goodIn_app (goodIn_of _ (by decide +kernel)) ggX4_put_X1_examine
set_option maxRecDepth 20000 in
theorem ggX4_put_X2_keep : GoodIn wsX4_put wsX2_keep := goodIn_r _ [125, 126, 127, 128, 129, 130, 124, 131, 132, 133, 134, 135, 136, 94, 137, 96, 138, 139, 97, 98, 99, 100, 101, 102, 140, 141, 142, 51, 143, 53, 64, 65, 66, 67, 58, 68, 69, 70, 71, 59, 54, 55, 56, 57, 168, 169, 170, 171, 159, 160, 161, 162, 163, 164, 165, 166, 167] (by decide +kernel) (by decide +kernel)
set_option maxRecDepth 20000 in
theorem gX4_put_X2_keep : GoodIn wsX4_put (wsV RX4 43 RX2 yX2_keep wsX2_keep) := goodIn_app (goodIn_of _ (by decide +kernel)) ggX4_put_X2_keep
set_option maxRecDepth 20000 in
theorem ggX4_put_X3_add : GoodIn wsX4_put wsX3_add := goodIn_r _ [147, 96, 97, 98, 99, 94, 100, 101, 102, 140, 141, 142, 51, 143, 53, 64, 65, 66, 67, 58, 68, 69, 70, 71, 59, 54, 55, 56, 57, 159, 160, 161, 162, 163, 164, 165, 166, 167] (by decide +kernel) (by decide +kernel)
set_option maxRecDepth 20000 in
theorem gX4_put_X3_add : GoodIn wsX4_put (wsV RX4 68 RX3 yX3_add wsX3_add) := goodIn_app (goodIn_of _ (by decide +kernel)) ggX4_put_X3_add
theorem dX4_put_0 : decode cX4_put 0 = .ok (.aload_n 0, 1) := by decide +kernel
theorem dX4_put_1 : decode cX4_put 1 = .ok (.getfield 29, 3) := by decide +kernel
theorem dX4_put_4 : decode cX4_put 4 = .ok (.aload_n 0, 1) := by decide +kernel
theorem dX4_put_5 : decode cX4_put 5 = .ok (.getfield 10, 3) := by decide +kernel
theorem dX4_put_8 : decode cX4_put 8 = .ok (.invokevirtual 54, 3) := by decide +kernel
theorem dX4_put_11 : decode cX4_put 11 = .ok (.aload_n 0, 1) := by decide +kernel
theorem dX4_put_12 : decode cX4_put 12 = .ok (.getfield 29, 3) := by decide +kernel
theorem dX4_put_15 : decode cX4_put 15 = .ok (.getfield 57, 3) := by decide +kernel
theorem dX4_put_18 : decode cX4_put 18 = .ok (.ifCond .eq 6, 3) := by decide +kernel
theorem dX4_put_21 : decode cX4_put 21 = .ok (.ldc 42, 2) := by decide +kernel
theorem dX4_put_23 : decode cX4_put 23 = .ok (.ireturn, 1) := by decide +kernel
theorem dX4_put_24 : decode cX4_put 24 = .ok (.aload_n 0, 1) := by decide +kernel
theorem dX4_put_25 : decode cX4_put 25 = .ok (.getfield 10, 3) := by decide +kernel
theorem dX4_put_28 : decode cX4_put 28 = .ok (.getfield 60, 3) := by decide +kernel
theorem dX4_put_31 : decode cX4_put 31 = .ok (.bipush 8, 2) := by decide +kernel
theorem dX4_put_33 : decode cX4_put 33 = .ok (.if_icmp .lt 6, 3) := by decide +kernel
theorem dX4_put_36 : decode cX4_put 36 = .ok (.ldc 63, 2) := by decide +kernel
theorem dX4_put_38 : decode cX4_put 38 = .ok (.ireturn, 1) := by decide +kernel
theorem dX4_put_39 : decode cX4_put 39 = .ok (.aload_n 0, 1) := by decide +kernel
theorem dX4_put_40 : decode cX4_put 40 = .ok (.getfield 22, 3) := by decide +kernel
theorem dX4_put_43 : decode cX4_put 43 = .ok (.aload_n 0, 1) := by decide +kernel
theorem dX4_put_44 : decode cX4_put 44 = .ok (.getfield 10, 3) := by decide +kernel
theorem dX4_put_47 : decode cX4_put 47 = .ok (.invokevirtual 43, 3) := by decide +kernel
theorem dX4_put_50 : decode cX4_put 50 = .ok (.aload_n 0, 1) := by decide +kernel
theorem dX4_put_51 : decode cX4_put 51 = .ok (.getfield 10, 3) := by decide +kernel
theorem dX4_put_54 : decode cX4_put 54 = .ok (.aload_n 0, 1) := by decide +kernel
theorem dX4_put_55 : decode cX4_put 55 = .ok (.getfield 29, 3) := by decide +kernel
theorem dX4_put_58 : decode cX4_put 58 = .ok (.getfield 64, 3) := by decide +kernel
theorem dX4_put_61 : decode cX4_put 61 = .ok (.invokevirtual 68, 3) := by decide +kernel
theorem dX4_put_64 : decode cX4_put 64 = .ok (.ireturn, 1) := by decide +kernel
set_option maxRecDepth 20000 in
theorem ggX4_remove_X3_has : GoodIn wsX4_remove wsX3_has := goodIn_r _ [9, 10, 64, 65, 66, 67, 68, 69] (by decide +kernel) (by decide +kernel)
set_option maxRecDepth 20000 in
theorem gX4_remove_X3_has : GoodIn wsX4_remove (wsV RX4 72 RX3 yX3_has wsX3_has) := goodIn_app (goodIn_of _ (by decide +kernel)) ggX4_remove_X3_has
set_option maxRecDepth 20000 in
theorem ggX4_remove_X2_keep : GoodIn wsX4_remove wsX2_keep := goodIn_r _ [15, 16, 17, 18, 19, 20, 14, 21, 22, 23, 24, 25, 26, 8, 27, 10, 28, 29, 30, 31, 32, 33, 34, 35, 36, 37, 38, 39, 40, 41, 42, 43, 44, 45, 46, 47, 48, 49, 50, 51, 52, 53, 54, 55, 70, 71, 72, 73, 64, 65, 66, 67, 68, 69, 74, 75, 76] (by decide +kernel) (by decide +kernel)
set_option maxRecDepth 20000 in
theorem gX4_remove_X2_keep : GoodIn wsX4_remove (wsV RX4 43 RX2 yX2_keep wsX2_keep) := goodIn_app (goodIn_of _ (by decide +kernel)) ggX4_remove_X2_keep
set_option maxRecDepth 20000 in
theorem ggX4_remove_X3_takeOut : GoodIn wsX4_remove wsX3_takeOut := goodIn_r _ [59, 10, 30, 31, 32, 8, 33, 34, 35, 36, 37, 38, 39, 40, 41, 42, 43, 44, 45, 46, 47, 48, 49, 50, 51, 52, 53, 54, 55, 64, 65, 66, 67, 68, 69, 74, 75, 76] (by decide +kernel) (by decide +kernel)
set_option maxRecDepth 20000 in
theorem gX4_remove_X3_takeOut : GoodIn wsX4_remove (wsV RX4 75 RX3 yX3_takeOut wsX3_takeOut) := goodIn_app (goodIn_of _ (by decide +kernel)) ggX4_remove_X3_takeOut
theorem dX4_remove_0 : decode cX4_remove 0 = .ok (.aload_n 0, 1) := by decide +kernel
theorem dX4_remove_1 : decode cX4_remove 1 = .ok (.getfield 10, 3) := by decide +kernel
theorem dX4_remove_4 : decode cX4_remove 4 = .ok (.iload_n 1, 1) := by decide +kernel
theorem dX4_remove_5 : decode cX4_remove 5 = .ok (.invokevirtual 72, 3) := by decide +kernel
theorem dX4_remove_8 : decode cX4_remove 8 = .ok (.ifCond .ne 6, 3) := by decide +kernel
theorem dX4_remove_11 : decode cX4_remove 11 = .ok (.ldc 37, 2) := by decide +kernel
theorem dX4_remove_13 : decode cX4_remove 13 = .ok (.ireturn, 1) := by decide +kernel
theorem dX4_remove_14 : decode cX4_remove 14 = .ok (.aload_n 0, 1) := by decide +kernel
theorem dX4_remove_15 : decode cX4_remove 15 = .ok (.getfield 22, 3) := by decide +kernel
theorem dX4_remove_18 : decode cX4_remove 18 = .ok (.aload_n 0, 1) := by decide +kernel
theorem dX4_remove_19 : decode cX4_remove 19 = .ok (.getfield 10, 3) := by decide +kernel
theorem dX4_remove_22 : decode cX4_remove 22 = .ok (.invokevirtual 43, 3) := by decide +kernel
theorem dX4_remove_25 : decode cX4_remove 25 = .ok (.aload_n 0, 1) := by decide +kernel
theorem dX4_remove_26 : decode cX4_remove 26 = .ok (.getfield 10, 3) := by decide +kernel
theorem dX4_remove_29 : decode cX4_remove 29 = .ok (.iload_n 1, 1) := by decide +kernel
theorem dX4_remove_30 : decode cX4_remove 30 = .ok (.invokevirtual 75, 3) := by decide +kernel
theorem dX4_remove_33 : decode cX4_remove 33 = .ok (.aload_n 0, 1) := by decide +kernel
theorem dX4_remove_34 : decode cX4_remove 34 = .ok (.getfield 10, 3) := by decide +kernel
theorem dX4_remove_37 : decode cX4_remove 37 = .ok (.getfield 60, 3) := by decide +kernel
theorem dX4_remove_40 : decode cX4_remove 40 = .ok (.ireturn, 1) := by decide +kernel
set_option maxRecDepth 20000 in
theorem ggX4_slide_X3_has : GoodIn wsX4_slide wsX3_has := goodIn_r _ [9, 10, 129, 130, 131, 132, 133, 134] (by decide +kernel) (by decide +kernel)
