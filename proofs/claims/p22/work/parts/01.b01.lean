theorem dX0_timesRound_2 : decode cX0_timesRound 2 = .ok (.iconst 0, 1) := by decide +kernel
theorem dX0_timesRound_3 : decode cX0_timesRound 3 = .ok (.istore_n 2, 1) := by decide +kernel
theorem dX0_timesRound_4 : decode cX0_timesRound 4 = .ok (.iload_n 2, 1) := by decide +kernel
theorem dX0_timesRound_5 : decode cX0_timesRound 5 = .ok (.aload_n 0, 1) := by decide +kernel
theorem dX0_timesRound_6 : decode cX0_timesRound 6 = .ok (.getfield 18, 3) := by decide +kernel
theorem dX0_timesRound_9 : decode cX0_timesRound 9 = .ok (.if_icmp .ge 32, 3) := by decide +kernel
theorem dX0_timesRound_12 : decode cX0_timesRound 12 = .ok (.aload_n 0, 1) := by decide +kernel
theorem dX0_timesRound_13 : decode cX0_timesRound 13 = .ok (.iload_n 2, 1) := by decide +kernel
theorem dX0_timesRound_14 : decode cX0_timesRound 14 = .ok (.invokevirtual 70, 3) := by decide +kernel
theorem dX0_timesRound_17 : decode cX0_timesRound 17 = .ok (.ifCond .ne 18, 3) := by decide +kernel
theorem dX0_timesRound_20 : decode cX0_timesRound 20 = .ok (.aload_n 0, 1) := by decide +kernel
theorem dX0_timesRound_21 : decode cX0_timesRound 21 = .ok (.aload_n 0, 1) := by decide +kernel
theorem dX0_timesRound_22 : decode cX0_timesRound 22 = .ok (.iload_n 2, 1) := by decide +kernel
theorem dX0_timesRound_23 : decode cX0_timesRound 23 = .ok (.invokevirtual 52, 3) := by decide +kernel
theorem dX0_timesRound_26 : decode cX0_timesRound 26 = .ok (.invokevirtual 70, 3) := by decide +kernel
theorem dX0_timesRound_29 : decode cX0_timesRound 29 = .ok (.ifCond .eq 6, 3) := by decide +kernel
theorem dX0_timesRound_32 : decode cX0_timesRound 32 = .ok (.iinc 1 1, 3) := by decide +kernel
theorem dX0_timesRound_35 : decode cX0_timesRound 35 = .ok (.iinc 2 1, 3) := by decide +kernel
theorem dX0_timesRound_38 : decode cX0_timesRound 38 = .ok (.goto (-34), 3) := by decide +kernel
theorem dX0_timesRound_41 : decode cX0_timesRound 41 = .ok (.iload_n 1, 1) := by decide +kernel
theorem dX0_timesRound_42 : decode cX0_timesRound 42 = .ok (.ireturn, 1) := by decide +kernel
set_option maxRecDepth 20000 in
theorem ggX0_pointsUp_X0_following : GoodIn wsX0_pointsUp wsX0_following := goodIn_r _ [5, 6, 17, 18, 19] (by decide +kernel) (by decide +kernel)
set_option maxRecDepth 20000 in
theorem gX0_pointsUp_X0_following : GoodIn wsX0_pointsUp (wsV RX0 52 RX0 yX0_following wsX0_following) := goodIn_app (goodIn_of _ (by decide +kernel)) ggX0_pointsUp_X0_following
set_option maxRecDepth 20000 in
theorem ggX0_pointsUp_X0_y : GoodIn wsX0_pointsUp wsX0_y := goodIn_r _ [10, 11, 17, 18, 19] (by decide +kernel) (by decide +kernel)
set_option maxRecDepth 20000 in
theorem gX0_pointsUp_X0_y : GoodIn wsX0_pointsUp (wsV RX0 30 RX0 yX0_y wsX0_y) := goodIn_app (goodIn_of _ (by decide +kernel)) ggX0_pointsUp_X0_y
set_option maxRecDepth 20000 in
theorem ggX0_pointsUp_X0_x : GoodIn wsX0_pointsUp wsX0_x := goodIn_r _ [15, 16, 17, 18, 19] (by decide +kernel) (by decide +kernel)
set_option maxRecDepth 20000 in
theorem gX0_pointsUp_X0_x : GoodIn wsX0_pointsUp (wsV RX0 26 RX0 yX0_x wsX0_x) := goodIn_app (goodIn_of _ (by decide +kernel)) ggX0_pointsUp_X0_x
theorem dX0_pointsUp_0 : decode cX0_pointsUp 0 = .ok (.aload_n 0, 1) := by decide +kernel
theorem dX0_pointsUp_1 : decode cX0_pointsUp 1 = .ok (.iload_n 1, 1) := by decide +kernel
theorem dX0_pointsUp_2 : decode cX0_pointsUp 2 = .ok (.invokevirtual 52, 3) := by decide +kernel
theorem dX0_pointsUp_5 : decode cX0_pointsUp 5 = .ok (.istore_n 2, 1) := by decide +kernel
theorem dX0_pointsUp_6 : decode cX0_pointsUp 6 = .ok (.aload_n 0, 1) := by decide +kernel
theorem dX0_pointsUp_7 : decode cX0_pointsUp 7 = .ok (.iload_n 2, 1) := by decide +kernel
theorem dX0_pointsUp_8 : decode cX0_pointsUp 8 = .ok (.invokevirtual 30, 3) := by decide +kernel
theorem dX0_pointsUp_11 : decode cX0_pointsUp 11 = .ok (.aload_n 0, 1) := by decide +kernel
theorem dX0_pointsUp_12 : decode cX0_pointsUp 12 = .ok (.iload_n 1, 1) := by decide +kernel
theorem dX0_pointsUp_13 : decode cX0_pointsUp 13 = .ok (.invokevirtual 30, 3) := by decide +kernel
theorem dX0_pointsUp_16 : decode cX0_pointsUp 16 = .ok (.if_icmp .gt 29, 3) := by decide +kernel
theorem dX0_pointsUp_19 : decode cX0_pointsUp 19 = .ok (.aload_n 0, 1) := by decide +kernel
theorem dX0_pointsUp_20 : decode cX0_pointsUp 20 = .ok (.iload_n 2, 1) := by decide +kernel
theorem dX0_pointsUp_21 : decode cX0_pointsUp 21 = .ok (.invokevirtual 30, 3) := by decide +kernel
theorem dX0_pointsUp_24 : decode cX0_pointsUp 24 = .ok (.aload_n 0, 1) := by decide +kernel
theorem dX0_pointsUp_25 : decode cX0_pointsUp 25 = .ok (.iload_n 1, 1) := by decide +kernel
theorem dX0_pointsUp_26 : decode cX0_pointsUp 26 = .ok (.invokevirtual 30, 3) := by decide +kernel
theorem dX0_pointsUp_29 : decode cX0_pointsUp 29 = .ok (.if_icmp .ne 20, 3) := by decide +kernel
theorem dX0_pointsUp_32 : decode cX0_pointsUp 32 = .ok (.aload_n 0, 1) := by decide +kernel
theorem dX0_pointsUp_33 : decode cX0_pointsUp 33 = .ok (.iload_n 2, 1) := by decide +kernel
theorem dX0_pointsUp_34 : decode cX0_pointsUp 34 = .ok (.invokevirtual 26, 3) := by decide +kernel
theorem dX0_pointsUp_37 : decode cX0_pointsUp 37 = .ok (.aload_n 0, 1) := by decide +kernel
theorem dX0_pointsUp_38 : decode cX0_pointsUp 38 = .ok (.iload_n 1, 1) := by decide +kernel
theorem dX0_pointsUp_39 : decode cX0_pointsUp 39 = .ok (.invokevirtual 26, 3) := by decide +kernel
theorem dX0_pointsUp_42 : decode cX0_pointsUp 42 = .ok (.if_icmp .le 7, 3) := by decide +kernel
theorem dX0_pointsUp_45 : decode cX0_pointsUp 45 = .ok (.iconst 1, 1) := by decide +kernel
theorem dX0_pointsUp_46 : decode cX0_pointsUp 46 = .ok (.goto 4, 3) := by decide +kernel
theorem dX0_pointsUp_49 : decode cX0_pointsUp 49 = .ok (.iconst 0, 1) := by decide +kernel
theorem dX0_pointsUp_50 : decode cX0_pointsUp 50 = .ok (.ireturn, 1) := by decide +kernel
set_option maxRecDepth 20000 in
theorem ggX1_init_X0_init : GoodIn wsX1_init wsX0_init := goodIn_r _ [17, 18, 2, 3, 19, 20, 21, 22, 30, 31, 32] (by decide +kernel) (by decide +kernel)
set_option maxRecDepth 20000 in
theorem gX1_init_X0_init : GoodIn wsX1_init (wsX0_init) := ggX1_init_X0_init
theorem dX1_init_0 : decode cX1_init 0 = .ok (.aload_n 0, 1) := by decide +kernel
theorem dX1_init_1 : decode cX1_init 1 = .ok (.invokespecial 3, 3) := by decide +kernel
theorem dX1_init_4 : decode cX1_init 4 = .ok (.aload_n 0, 1) := by decide +kernel
theorem dX1_init_5 : decode cX1_init 5 = .ok (.bipush 60, 2) := by decide +kernel
theorem dX1_init_7 : decode cX1_init 7 = .ok (.newarray .char, 2) := by decide +kernel
theorem dX1_init_9 : decode cX1_init 9 = .ok (.putfield 9, 3) := by decide +kernel
theorem dX1_init_12 : decode cX1_init 12 = .ok (.aload_n 0, 1) := by decide +kernel
theorem dX1_init_13 : decode cX1_init 13 = .ok (.new 15, 3) := by decide +kernel
theorem dX1_init_16 : decode cX1_init 16 = .ok (.dup, 1) := by decide +kernel
theorem dX1_init_17 : decode cX1_init 17 = .ok (.invokespecial 17, 3) := by decide +kernel
theorem dX1_init_20 : decode cX1_init 20 = .ok (.putfield 18, 3) := by decide +kernel
theorem dX1_init_23 : decode cX1_init 23 = .ok (.aload_n 0, 1) := by decide +kernel
theorem dX1_init_24 : decode cX1_init 24 = .ok (.iconst 0, 1) := by decide +kernel
theorem dX1_init_25 : decode cX1_init 25 = .ok (.putfield 22, 3) := by decide +kernel
theorem dX1_init_28 : decode cX1_init 28 = .ok (.aload_n 0, 1) := by decide +kernel
theorem dX1_init_29 : decode cX1_init 29 = .ok (.iconst 0, 1) := by decide +kernel
theorem dX1_init_30 : decode cX1_init 30 = .ok (.putfield 26, 3) := by decide +kernel
theorem dX1_init_33 : decode cX1_init 33 = .ok (.aload_n 0, 1) := by decide +kernel
theorem dX1_init_34 : decode cX1_init 34 = .ok (.iconst 0, 1) := by decide +kernel
theorem dX1_init_35 : decode cX1_init 35 = .ok (.putfield 29, 3) := by decide +kernel
theorem dX1_init_38 : decode cX1_init 38 = .ok (.aload_n 0, 1) := by decide +kernel
theorem dX1_init_39 : decode cX1_init 39 = .ok (.iconst 0, 1) := by decide +kernel
theorem dX1_init_40 : decode cX1_init 40 = .ok (.putfield 32, 3) := by decide +kernel
theorem dX1_init_43 : decode cX1_init 43 = .ok (.aload_n 0, 1) := by decide +kernel
theorem dX1_init_44 : decode cX1_init 44 = .ok (.iconst 0, 1) := by decide +kernel
theorem dX1_init_45 : decode cX1_init 45 = .ok (.putfield 35, 3) := by decide +kernel
theorem dX1_init_48 : decode cX1_init 48 = .ok (.return_, 1) := by decide +kernel
theorem dX1_append_0 : decode cX1_append 0 = .ok (.aload_n 0, 1) := by decide +kernel
theorem dX1_append_1 : decode cX1_append 1 = .ok (.getfield 26, 3) := by decide +kernel
theorem dX1_append_4 : decode cX1_append 4 = .ok (.ifCond .lt 35, 3) := by decide +kernel
theorem dX1_append_7 : decode cX1_append 7 = .ok (.aload_n 0, 1) := by decide +kernel
theorem dX1_append_8 : decode cX1_append 8 = .ok (.getfield 26, 3) := by decide +kernel
theorem dX1_append_11 : decode cX1_append 11 = .ok (.aload_n 0, 1) := by decide +kernel
theorem dX1_append_12 : decode cX1_append 12 = .ok (.getfield 9, 3) := by decide +kernel
theorem dX1_append_15 : decode cX1_append 15 = .ok (.arraylength, 1) := by decide +kernel
theorem dX1_append_16 : decode cX1_append 16 = .ok (.if_icmp .ge 23, 3) := by decide +kernel
theorem dX1_append_19 : decode cX1_append 19 = .ok (.aload_n 0, 1) := by decide +kernel
theorem dX1_append_20 : decode cX1_append 20 = .ok (.getfield 9, 3) := by decide +kernel
theorem dX1_append_23 : decode cX1_append 23 = .ok (.aload_n 0, 1) := by decide +kernel
theorem dX1_append_24 : decode cX1_append 24 = .ok (.getfield 26, 3) := by decide +kernel
theorem dX1_append_27 : decode cX1_append 27 = .ok (.iload_n 1, 1) := by decide +kernel
theorem dX1_append_28 : decode cX1_append 28 = .ok (.castore, 1) := by decide +kernel
theorem dX1_append_29 : decode cX1_append 29 = .ok (.aload_n 0, 1) := by decide +kernel
theorem dX1_append_30 : decode cX1_append 30 = .ok (.dup, 1) := by decide +kernel
theorem dX1_append_31 : decode cX1_append 31 = .ok (.getfield 26, 3) := by decide +kernel
theorem dX1_append_34 : decode cX1_append 34 = .ok (.iconst 1, 1) := by decide +kernel
theorem dX1_append_35 : decode cX1_append 35 = .ok (.iadd, 1) := by decide +kernel
theorem dX1_append_36 : decode cX1_append 36 = .ok (.putfield 26, 3) := by decide +kernel
theorem dX1_append_39 : decode cX1_append 39 = .ok (.return_, 1) := by decide +kernel
set_option maxRecDepth 20000 in
theorem ggX1_examine_X1_find : GoodIn wsX1_examine wsX1_find := goodIn_r _ [9, 10, 11, 12, 109, 110, 111, 112, 113, 114, 115] (by decide +kernel) (by decide +kernel)
set_option maxRecDepth 20000 in
theorem gX1_examine_X1_find : GoodIn wsX1_examine (wsV RX1 38 RX1 yX1_find wsX1_find) := goodIn_app (goodIn_of _ (by decide +kernel)) ggX1_examine_X1_find
set_option maxRecDepth 20000 in
theorem ggX1_examine_X1_readForm : GoodIn wsX1_examine wsX1_readForm := goodIn_r _ [16, 2, 17, 1, 18, 19, 20, 21, 8, 22, 23, 24, 25, 26, 27, 28, 29, 30, 31, 32, 33, 34, 35, 36, 37, 38, 39, 40, 41, 42, 43, 44, 45, 46, 47, 109, 110, 111, 112, 113, 114, 115, 122, 123, 124] (by decide +kernel) (by decide +kernel)
set_option maxRecDepth 20000 in
theorem gX1_examine_X1_readForm : GoodIn wsX1_examine (wsV RX1 42 RX1 yX1_readForm wsX1_readForm) := goodIn_app (goodIn_of _ (by decide +kernel)) ggX1_examine_X1_readForm
set_option maxRecDepth 20000 in
theorem ggX1_examine_X0_cornerOutside : GoodIn wsX1_examine wsX0_cornerOutside := goodIn_r _ [51, 41, 52, 53, 54, 39, 55, 46, 56, 57, 58, 59, 47, 122, 123, 124] (by decide +kernel) (by decide +kernel)
set_option maxRecDepth 20000 in
theorem gX1_examine_X0_cornerOutside : GoodIn wsX1_examine (wsV RX1 54 RX0 yX0_cornerOutside wsX0_cornerOutside) := goodIn_app (goodIn_of _ (by decide +kernel)) ggX1_examine_X0_cornerOutside
set_option maxRecDepth 20000 in
theorem ggX1_examine_X0_causeOfShape : GoodIn wsX1_examine wsX0_causeOfShape := goodIn_r _ [63, 41, 64, 65, 66, 39, 67, 52, 53, 54, 55, 46, 56, 57, 58, 59, 47, 68, 69, 70, 71, 72, 73, 74, 75, 76, 77, 78, 122, 123, 124] (by decide +kernel) (by decide +kernel)
set_option maxRecDepth 20000 in
theorem gX1_examine_X0_causeOfShape : GoodIn wsX1_examine (wsV RX1 58 RX0 yX0_causeOfShape wsX0_causeOfShape) := goodIn_app (goodIn_of _ (by decide +kernel)) ggX1_examine_X0_causeOfShape
set_option maxRecDepth 20000 in
theorem ggX1_examine_X3_overlapped : GoodIn wsX1_examine wsX3_overlapped := goodIn_r _ [83, 84, 85, 86, 87, 82, 88, 89, 90, 91, 92, 93, 39, 94, 41, 95, 96, 97, 98, 99, 100, 101, 102, 103, 104, 105, 106, 64, 65, 66, 67, 52, 53, 54, 55, 46, 56, 57, 58, 59, 47, 68, 69, 70, 116, 117, 118, 119, 120, 121, 122, 123, 124] (by decide +kernel) (by decide +kernel)
set_option maxRecDepth 20000 in
theorem gX1_examine_X3_overlapped : GoodIn wsX1_examine (wsV RX1 62 RX3 yX3_overlapped wsX3_overlapped) := goodIn_app (goodIn_of _ (by decide +kernel)) ggX1_examine_X3_overlapped
set_option maxRecDepth 20000 in
theorem ggX1_examine_X4_lowest : GoodIn wsX1_examine wsX4_lowest := goodIn_r _ [108] (by decide +kernel) (by decide +kernel)
set_option maxRecDepth 20000 in
theorem gX1_examine_X4_lowest_n66 : GoodIn wsX1_examine (wsX4_lowest) := ggX1_examine_X4_lowest
theorem dX1_examine_0 : decode cX1_examine 0 = .ok (.aload_n 0, 1) := by decide +kernel
theorem dX1_examine_1 : decode cX1_examine 1 = .ok (.iconst 0, 1) := by decide +kernel
theorem dX1_examine_2 : decode cX1_examine 2 = .ok (.iconst 0, 1) := by decide +kernel
theorem dX1_examine_3 : decode cX1_examine 3 = .ok (.iconst 0, 1) := by decide +kernel
theorem dX1_examine_4 : decode cX1_examine 4 = .ok (.invokevirtual 38, 3) := by decide +kernel
theorem dX1_examine_7 : decode cX1_examine 7 = .ok (.aload_n 0, 1) := by decide +kernel
theorem dX1_examine_8 : decode cX1_examine 8 = .ok (.invokevirtual 42, 3) := by decide +kernel
theorem dX1_examine_11 : decode cX1_examine 11 = .ok (.ifCond .ne 14, 3) := by decide +kernel
theorem dX1_examine_14 : decode cX1_examine 14 = .ok (.aload_n 0, 1) := by decide +kernel
theorem dX1_examine_15 : decode cX1_examine 15 = .ok (.aload_n 0, 1) := by decide +kernel
theorem dX1_examine_16 : decode cX1_examine 16 = .ok (.getfield 22, 3) := by decide +kernel
theorem dX1_examine_19 : decode cX1_examine 19 = .ok (.iconst 1, 1) := by decide +kernel
theorem dX1_examine_20 : decode cX1_examine 20 = .ok (.iconst 0, 1) := by decide +kernel
theorem dX1_examine_21 : decode cX1_examine 21 = .ok (.invokevirtual 38, 3) := by decide +kernel
theorem dX1_examine_24 : decode cX1_examine 24 = .ok (.return_, 1) := by decide +kernel
theorem dX1_examine_25 : decode cX1_examine 25 = .ok (.aload_n 0, 1) := by decide +kernel
theorem dX1_examine_26 : decode cX1_examine 26 = .ok (.getfield 18, 3) := by decide +kernel
theorem dX1_examine_29 : decode cX1_examine 29 = .ok (.aload_n 1, 1) := by decide +kernel
theorem dX1_examine_30 : decode cX1_examine 30 = .ok (.getfield 46, 3) := by decide +kernel
theorem dX1_examine_33 : decode cX1_examine 33 = .ok (.aload_n 1, 1) := by decide +kernel
theorem dX1_examine_34 : decode cX1_examine 34 = .ok (.getfield 51, 3) := by decide +kernel
theorem dX1_examine_37 : decode cX1_examine 37 = .ok (.invokevirtual 54, 3) := by decide +kernel
theorem dX1_examine_40 : decode cX1_examine 40 = .ok (.istore_n 2, 1) := by decide +kernel
theorem dX1_examine_41 : decode cX1_examine 41 = .ok (.iload_n 2, 1) := by decide +kernel
theorem dX1_examine_42 : decode cX1_examine 42 = .ok (.ifCond .lt 11, 3) := by decide +kernel
theorem dX1_examine_45 : decode cX1_examine 45 = .ok (.aload_n 0, 1) := by decide +kernel
theorem dX1_examine_46 : decode cX1_examine 46 = .ok (.iconst 0, 1) := by decide +kernel
theorem dX1_examine_47 : decode cX1_examine 47 = .ok (.iconst 2, 1) := by decide +kernel
theorem dX1_examine_48 : decode cX1_examine 48 = .ok (.iload_n 2, 1) := by decide +kernel
theorem dX1_examine_49 : decode cX1_examine 49 = .ok (.invokevirtual 38, 3) := by decide +kernel
theorem dX1_examine_52 : decode cX1_examine 52 = .ok (.return_, 1) := by decide +kernel
theorem dX1_examine_53 : decode cX1_examine 53 = .ok (.aload_n 0, 1) := by decide +kernel
theorem dX1_examine_54 : decode cX1_examine 54 = .ok (.getfield 18, 3) := by decide +kernel
theorem dX1_examine_57 : decode cX1_examine 57 = .ok (.invokevirtual 58, 3) := by decide +kernel
theorem dX1_examine_60 : decode cX1_examine 60 = .ok (.istore_n 3, 1) := by decide +kernel
theorem dX1_examine_61 : decode cX1_examine 61 = .ok (.iload_n 3, 1) := by decide +kernel
theorem dX1_examine_62 : decode cX1_examine 62 = .ok (.ifCond .lt 11, 3) := by decide +kernel
theorem dX1_examine_65 : decode cX1_examine 65 = .ok (.aload_n 0, 1) := by decide +kernel
theorem dX1_examine_66 : decode cX1_examine 66 = .ok (.iconst 0, 1) := by decide +kernel
theorem dX1_examine_67 : decode cX1_examine 67 = .ok (.iconst 3, 1) := by decide +kernel
theorem dX1_examine_68 : decode cX1_examine 68 = .ok (.iload_n 3, 1) := by decide +kernel
theorem dX1_examine_69 : decode cX1_examine 69 = .ok (.invokevirtual 38, 3) := by decide +kernel
theorem dX1_examine_72 : decode cX1_examine 72 = .ok (.return_, 1) := by decide +kernel
theorem dX1_examine_73 : decode cX1_examine 73 = .ok (.aload_n 1, 1) := by decide +kernel
theorem dX1_examine_74 : decode cX1_examine 74 = .ok (.aload_n 0, 1) := by decide +kernel
theorem dX1_examine_75 : decode cX1_examine 75 = .ok (.getfield 18, 3) := by decide +kernel
theorem dX1_examine_78 : decode cX1_examine 78 = .ok (.iconst (-1), 1) := by decide +kernel
theorem dX1_examine_79 : decode cX1_examine 79 = .ok (.invokevirtual 62, 3) := by decide +kernel
theorem dX1_examine_82 : decode cX1_examine 82 = .ok (.istore 4, 2) := by decide +kernel
theorem dX1_examine_84 : decode cX1_examine 84 = .ok (.iload 4, 2) := by decide +kernel
theorem dX1_examine_86 : decode cX1_examine 86 = .ok (.ifCond .eq 14, 3) := by decide +kernel
theorem dX1_examine_89 : decode cX1_examine 89 = .ok (.aload_n 0, 1) := by decide +kernel
theorem dX1_examine_90 : decode cX1_examine 90 = .ok (.iconst 0, 1) := by decide +kernel
theorem dX1_examine_91 : decode cX1_examine 91 = .ok (.iconst 4, 1) := by decide +kernel
theorem dX1_examine_92 : decode cX1_examine 92 = .ok (.iload 4, 2) := by decide +kernel
theorem dX1_examine_94 : decode cX1_examine 94 = .ok (.invokestatic 66, 3) := by decide +kernel
theorem dX1_examine_97 : decode cX1_examine 97 = .ok (.invokevirtual 38, 3) := by decide +kernel
theorem dX1_examine_100 : decode cX1_examine 100 = .ok (.return_, 1) := by decide +kernel
theorem dX1_find_0 : decode cX1_find 0 = .ok (.aload_n 0, 1) := by decide +kernel
theorem dX1_find_1 : decode cX1_find 1 = .ok (.iload_n 1, 1) := by decide +kernel
theorem dX1_find_2 : decode cX1_find 2 = .ok (.putfield 29, 3) := by decide +kernel
theorem dX1_find_5 : decode cX1_find 5 = .ok (.aload_n 0, 1) := by decide +kernel
theorem dX1_find_6 : decode cX1_find 6 = .ok (.iload_n 2, 1) := by decide +kernel
theorem dX1_find_7 : decode cX1_find 7 = .ok (.putfield 32, 3) := by decide +kernel
theorem dX1_find_10 : decode cX1_find 10 = .ok (.aload_n 0, 1) := by decide +kernel
theorem dX1_find_11 : decode cX1_find 11 = .ok (.iload_n 3, 1) := by decide +kernel
theorem dX1_find_12 : decode cX1_find 12 = .ok (.putfield 35, 3) := by decide +kernel
theorem dX1_find_15 : decode cX1_find 15 = .ok (.return_, 1) := by decide +kernel
set_option maxRecDepth 20000 in
theorem ggX1_readForm_X1_takes : GoodIn wsX1_readForm wsX1_takes := goodIn_r _ [9, 3, 10, 11, 12, 8, 13, 4, 14, 35, 36, 37, 38, 39, 40, 41] (by decide +kernel) (by decide +kernel)
set_option maxRecDepth 20000 in
theorem gX1_readForm_X1_takes : GoodIn wsX1_readForm (wsV RX1 73 RX1 yX1_takes wsX1_takes) := goodIn_app (goodIn_of _ (by decide +kernel)) ggX1_readForm_X1_takes
set_option maxRecDepth 20000 in
theorem ggX1_readForm_X1_takeNumber : GoodIn wsX1_readForm wsX1_takeNumber := goodIn_r _ [18, 19, 20, 21, 8, 22, 3, 10, 11, 12, 13, 4, 14, 35, 36, 37, 38, 39, 40, 41] (by decide +kernel) (by decide +kernel)
set_option maxRecDepth 20000 in
theorem gX1_readForm_X1_takeNumber : GoodIn wsX1_readForm (wsV RX1 77 RX1 yX1_takeNumber wsX1_takeNumber) := goodIn_app (goodIn_of _ (by decide +kernel)) ggX1_readForm_X1_takeNumber
set_option maxRecDepth 20000 in
theorem ggX1_readForm_X0_addCorner : GoodIn wsX1_readForm wsX0_addCorner := goodIn_r _ [27, 28, 29, 30, 31, 26, 32, 33, 34, 42, 43, 44] (by decide +kernel) (by decide +kernel)
set_option maxRecDepth 20000 in
theorem gX1_readForm_X0_addCorner : GoodIn wsX1_readForm (wsV RX1 80 RX0 yX0_addCorner wsX0_addCorner) := goodIn_app (goodIn_of _ (by decide +kernel)) ggX1_readForm_X0_addCorner
theorem dX1_readForm_0 : decode cX1_readForm 0 = .ok (.aload_n 0, 1) := by decide +kernel
theorem dX1_readForm_1 : decode cX1_readForm 1 = .ok (.getfield 18, 3) := by decide +kernel
theorem dX1_readForm_4 : decode cX1_readForm 4 = .ok (.iconst 0, 1) := by decide +kernel
theorem dX1_readForm_5 : decode cX1_readForm 5 = .ok (.putfield 70, 3) := by decide +kernel
theorem dX1_readForm_8 : decode cX1_readForm 8 = .ok (.aload_n 0, 1) := by decide +kernel
theorem dX1_readForm_9 : decode cX1_readForm 9 = .ok (.iconst 0, 1) := by decide +kernel
theorem dX1_readForm_10 : decode cX1_readForm 10 = .ok (.putfield 22, 3) := by decide +kernel
theorem dX1_readForm_13 : decode cX1_readForm 13 = .ok (.iconst 0, 1) := by decide +kernel
theorem dX1_readForm_14 : decode cX1_readForm 14 = .ok (.istore_n 1, 1) := by decide +kernel
theorem dX1_readForm_15 : decode cX1_readForm 15 = .ok (.iload_n 1, 1) := by decide +kernel
theorem dX1_readForm_16 : decode cX1_readForm 16 = .ok (.bipush 6, 2) := by decide +kernel
theorem dX1_readForm_18 : decode cX1_readForm 18 = .ok (.if_icmp .ge 84, 3) := by decide +kernel
theorem dX1_readForm_21 : decode cX1_readForm 21 = .ok (.iload_n 1, 1) := by decide +kernel
theorem dX1_readForm_22 : decode cX1_readForm 22 = .ok (.ifCond .le 14, 3) := by decide +kernel
theorem dX1_readForm_25 : decode cX1_readForm 25 = .ok (.aload_n 0, 1) := by decide +kernel
theorem dX1_readForm_26 : decode cX1_readForm 26 = .ok (.bipush 59, 2) := by decide +kernel
theorem dX1_readForm_28 : decode cX1_readForm 28 = .ok (.invokevirtual 73, 3) := by decide +kernel
theorem dX1_readForm_31 : decode cX1_readForm 31 = .ok (.ifCond .ne 5, 3) := by decide +kernel
theorem dX1_readForm_34 : decode cX1_readForm 34 = .ok (.iconst 0, 1) := by decide +kernel
theorem dX1_readForm_35 : decode cX1_readForm 35 = .ok (.ireturn, 1) := by decide +kernel
theorem dX1_readForm_36 : decode cX1_readForm 36 = .ok (.aload_n 0, 1) := by decide +kernel
theorem dX1_readForm_37 : decode cX1_readForm 37 = .ok (.invokevirtual 77, 3) := by decide +kernel
theorem dX1_readForm_40 : decode cX1_readForm 40 = .ok (.istore_n 2, 1) := by decide +kernel
theorem dX1_readForm_41 : decode cX1_readForm 41 = .ok (.iload_n 2, 1) := by decide +kernel
theorem dX1_readForm_42 : decode cX1_readForm 42 = .ok (.ifCond .lt 12, 3) := by decide +kernel
theorem dX1_readForm_45 : decode cX1_readForm 45 = .ok (.aload_n 0, 1) := by decide +kernel
theorem dX1_readForm_46 : decode cX1_readForm 46 = .ok (.bipush 44, 2) := by decide +kernel
theorem dX1_readForm_48 : decode cX1_readForm 48 = .ok (.invokevirtual 73, 3) := by decide +kernel
theorem dX1_readForm_51 : decode cX1_readForm 51 = .ok (.ifCond .ne 5, 3) := by decide +kernel
theorem dX1_readForm_54 : decode cX1_readForm 54 = .ok (.iconst 0, 1) := by decide +kernel
theorem dX1_readForm_55 : decode cX1_readForm 55 = .ok (.ireturn, 1) := by decide +kernel
theorem dX1_readForm_56 : decode cX1_readForm 56 = .ok (.aload_n 0, 1) := by decide +kernel
theorem dX1_readForm_57 : decode cX1_readForm 57 = .ok (.invokevirtual 77, 3) := by decide +kernel
theorem dX1_readForm_60 : decode cX1_readForm 60 = .ok (.istore_n 3, 1) := by decide +kernel
theorem dX1_readForm_61 : decode cX1_readForm 61 = .ok (.iload_n 3, 1) := by decide +kernel
theorem dX1_readForm_62 : decode cX1_readForm 62 = .ok (.ifCond .ge 5, 3) := by decide +kernel
theorem dX1_readForm_65 : decode cX1_readForm 65 = .ok (.iconst 0, 1) := by decide +kernel
theorem dX1_readForm_66 : decode cX1_readForm 66 = .ok (.ireturn, 1) := by decide +kernel
theorem dX1_readForm_67 : decode cX1_readForm 67 = .ok (.aload_n 0, 1) := by decide +kernel
theorem dX1_readForm_68 : decode cX1_readForm 68 = .ok (.getfield 18, 3) := by decide +kernel
theorem dX1_readForm_71 : decode cX1_readForm 71 = .ok (.iload_n 2, 1) := by decide +kernel
theorem dX1_readForm_72 : decode cX1_readForm 72 = .ok (.iload_n 3, 1) := by decide +kernel
theorem dX1_readForm_73 : decode cX1_readForm 73 = .ok (.invokevirtual 80, 3) := by decide +kernel
theorem dX1_readForm_76 : decode cX1_readForm 76 = .ok (.iload_n 1, 1) := by decide +kernel
theorem dX1_readForm_77 : decode cX1_readForm 77 = .ok (.iconst 1, 1) := by decide +kernel
theorem dX1_readForm_78 : decode cX1_readForm 78 = .ok (.iadd, 1) := by decide +kernel
theorem dX1_readForm_79 : decode cX1_readForm 79 = .ok (.iconst 3, 1) := by decide +kernel
theorem dX1_readForm_80 : decode cX1_readForm 80 = .ok (.if_icmp .lt 16, 3) := by decide +kernel
theorem dX1_readForm_83 : decode cX1_readForm 83 = .ok (.aload_n 0, 1) := by decide +kernel
theorem dX1_readForm_84 : decode cX1_readForm 84 = .ok (.getfield 22, 3) := by decide +kernel
theorem dX1_readForm_87 : decode cX1_readForm 87 = .ok (.aload_n 0, 1) := by decide +kernel
theorem dX1_readForm_88 : decode cX1_readForm 88 = .ok (.getfield 26, 3) := by decide +kernel
theorem dX1_readForm_91 : decode cX1_readForm 91 = .ok (.if_icmp .ne 5, 3) := by decide +kernel
theorem dX1_readForm_94 : decode cX1_readForm 94 = .ok (.iconst 1, 1) := by decide +kernel
theorem dX1_readForm_95 : decode cX1_readForm 95 = .ok (.ireturn, 1) := by decide +kernel
theorem dX1_readForm_96 : decode cX1_readForm 96 = .ok (.iinc 1 1, 3) := by decide +kernel
theorem dX1_readForm_99 : decode cX1_readForm 99 = .ok (.goto (-84), 3) := by decide +kernel
theorem dX1_readForm_102 : decode cX1_readForm 102 = .ok (.iconst 0, 1) := by decide +kernel
theorem dX1_readForm_103 : decode cX1_readForm 103 = .ok (.ireturn, 1) := by decide +kernel
theorem dX1_sign_0 : decode cX1_sign 0 = .ok (.aload_n 0, 1) := by decide +kernel
theorem dX1_sign_1 : decode cX1_sign 1 = .ok (.getfield 22, 3) := by decide +kernel
theorem dX1_sign_4 : decode cX1_sign 4 = .ok (.ifCond .lt 38, 3) := by decide +kernel
theorem dX1_sign_7 : decode cX1_sign 7 = .ok (.aload_n 0, 1) := by decide +kernel
theorem dX1_sign_8 : decode cX1_sign 8 = .ok (.getfield 22, 3) := by decide +kernel
theorem dX1_sign_11 : decode cX1_sign 11 = .ok (.aload_n 0, 1) := by decide +kernel
theorem dX1_sign_12 : decode cX1_sign 12 = .ok (.getfield 26, 3) := by decide +kernel
theorem dX1_sign_15 : decode cX1_sign 15 = .ok (.if_icmp .ge 27, 3) := by decide +kernel
theorem dX1_sign_18 : decode cX1_sign 18 = .ok (.aload_n 0, 1) := by decide +kernel
theorem dX1_sign_19 : decode cX1_sign 19 = .ok (.getfield 22, 3) := by decide +kernel
theorem dX1_sign_22 : decode cX1_sign 22 = .ok (.aload_n 0, 1) := by decide +kernel
theorem dX1_sign_23 : decode cX1_sign 23 = .ok (.getfield 9, 3) := by decide +kernel
theorem dX1_sign_26 : decode cX1_sign 26 = .ok (.arraylength, 1) := by decide +kernel
theorem dX1_sign_27 : decode cX1_sign 27 = .ok (.if_icmp .ge 15, 3) := by decide +kernel
theorem dX1_sign_30 : decode cX1_sign 30 = .ok (.aload_n 0, 1) := by decide +kernel
theorem dX1_sign_31 : decode cX1_sign 31 = .ok (.getfield 9, 3) := by decide +kernel
theorem dX1_sign_34 : decode cX1_sign 34 = .ok (.aload_n 0, 1) := by decide +kernel
theorem dX1_sign_35 : decode cX1_sign 35 = .ok (.getfield 22, 3) := by decide +kernel
theorem dX1_sign_38 : decode cX1_sign 38 = .ok (.caload, 1) := by decide +kernel
theorem dX1_sign_39 : decode cX1_sign 39 = .ok (.goto 4, 3) := by decide +kernel
theorem dX1_sign_42 : decode cX1_sign 42 = .ok (.iconst 0, 1) := by decide +kernel
theorem dX1_sign_43 : decode cX1_sign 43 = .ok (.ireturn, 1) := by decide +kernel
set_option maxRecDepth 20000 in
theorem ggX1_takes_X1_sign : GoodIn wsX1_takes wsX1_sign := goodIn_r _ [6, 1, 7, 8, 9, 10, 11, 12, 13, 14, 15] (by decide +kernel) (by decide +kernel)
set_option maxRecDepth 20000 in
theorem gX1_takes_X1_sign : GoodIn wsX1_takes (wsV RX1 84 RX1 yX1_sign wsX1_sign) := goodIn_app (goodIn_of _ (by decide +kernel)) ggX1_takes_X1_sign
theorem dX1_takes_0 : decode cX1_takes 0 = .ok (.aload_n 0, 1) := by decide +kernel
theorem dX1_takes_1 : decode cX1_takes 1 = .ok (.invokevirtual 84, 3) := by decide +kernel
theorem dX1_takes_4 : decode cX1_takes 4 = .ok (.iload_n 1, 1) := by decide +kernel
theorem dX1_takes_5 : decode cX1_takes 5 = .ok (.if_icmp .ne 7, 3) := by decide +kernel
theorem dX1_takes_8 : decode cX1_takes 8 = .ok (.iconst 1, 1) := by decide +kernel
theorem dX1_takes_9 : decode cX1_takes 9 = .ok (.goto 4, 3) := by decide +kernel
theorem dX1_takes_12 : decode cX1_takes 12 = .ok (.iconst 0, 1) := by decide +kernel
theorem dX1_takes_13 : decode cX1_takes 13 = .ok (.istore_n 2, 1) := by decide +kernel
theorem dX1_takes_14 : decode cX1_takes 14 = .ok (.iload_n 2, 1) := by decide +kernel
theorem dX1_takes_15 : decode cX1_takes 15 = .ok (.ifCond .eq 13, 3) := by decide +kernel
theorem dX1_takes_18 : decode cX1_takes 18 = .ok (.aload_n 0, 1) := by decide +kernel
theorem dX1_takes_19 : decode cX1_takes 19 = .ok (.dup, 1) := by decide +kernel
theorem dX1_takes_20 : decode cX1_takes 20 = .ok (.getfield 22, 3) := by decide +kernel
theorem dX1_takes_23 : decode cX1_takes 23 = .ok (.iconst 1, 1) := by decide +kernel
theorem dX1_takes_24 : decode cX1_takes 24 = .ok (.iadd, 1) := by decide +kernel
theorem dX1_takes_25 : decode cX1_takes 25 = .ok (.putfield 22, 3) := by decide +kernel
theorem dX1_takes_28 : decode cX1_takes 28 = .ok (.iload_n 2, 1) := by decide +kernel
theorem dX1_takes_29 : decode cX1_takes 29 = .ok (.ireturn, 1) := by decide +kernel
set_option maxRecDepth 20000 in
theorem ggX1_takeNumber_X1_takeDigit : GoodIn wsX1_takeNumber wsX1_takeDigit := goodIn_r _ [5, 6, 7, 8, 9, 4, 10, 11, 12, 13, 14, 15, 16, 17, 18, 19] (by decide +kernel) (by decide +kernel)
set_option maxRecDepth 20000 in
theorem gX1_takeNumber_X1_takeDigit : GoodIn wsX1_takeNumber (wsV RX1 88 RX1 yX1_takeDigit wsX1_takeDigit) := goodIn_app (goodIn_of _ (by decide +kernel)) ggX1_takeNumber_X1_takeDigit
theorem dX1_takeNumber_0 : decode cX1_takeNumber 0 = .ok (.aload_n 0, 1) := by decide +kernel
theorem dX1_takeNumber_1 : decode cX1_takeNumber 1 = .ok (.invokevirtual 88, 3) := by decide +kernel
theorem dX1_takeNumber_4 : decode cX1_takeNumber 4 = .ok (.istore_n 1, 1) := by decide +kernel
theorem dX1_takeNumber_5 : decode cX1_takeNumber 5 = .ok (.iload_n 1, 1) := by decide +kernel
theorem dX1_takeNumber_6 : decode cX1_takeNumber 6 = .ok (.ifCond .ge 5, 3) := by decide +kernel
theorem dX1_takeNumber_9 : decode cX1_takeNumber 9 = .ok (.iconst (-1), 1) := by decide +kernel
theorem dX1_takeNumber_10 : decode cX1_takeNumber 10 = .ok (.ireturn, 1) := by decide +kernel
theorem dX1_takeNumber_11 : decode cX1_takeNumber 11 = .ok (.aload_n 0, 1) := by decide +kernel
theorem dX1_takeNumber_12 : decode cX1_takeNumber 12 = .ok (.invokevirtual 88, 3) := by decide +kernel
theorem dX1_takeNumber_15 : decode cX1_takeNumber 15 = .ok (.istore_n 2, 1) := by decide +kernel
theorem dX1_takeNumber_16 : decode cX1_takeNumber 16 = .ok (.iload_n 2, 1) := by decide +kernel
theorem dX1_takeNumber_17 : decode cX1_takeNumber 17 = .ok (.ifCond .ge 7, 3) := by decide +kernel
theorem dX1_takeNumber_20 : decode cX1_takeNumber 20 = .ok (.iload_n 1, 1) := by decide +kernel
theorem dX1_takeNumber_21 : decode cX1_takeNumber 21 = .ok (.goto 9, 3) := by decide +kernel
theorem dX1_takeNumber_24 : decode cX1_takeNumber 24 = .ok (.bipush 10, 2) := by decide +kernel
theorem dX1_takeNumber_26 : decode cX1_takeNumber 26 = .ok (.iload_n 1, 1) := by decide +kernel
theorem dX1_takeNumber_27 : decode cX1_takeNumber 27 = .ok (.imul, 1) := by decide +kernel
theorem dX1_takeNumber_28 : decode cX1_takeNumber 28 = .ok (.iload_n 2, 1) := by decide +kernel
theorem dX1_takeNumber_29 : decode cX1_takeNumber 29 = .ok (.iadd, 1) := by decide +kernel
theorem dX1_takeNumber_30 : decode cX1_takeNumber 30 = .ok (.ireturn, 1) := by decide +kernel
set_option maxRecDepth 20000 in
theorem ggX1_takeDigit_X1_sign : GoodIn wsX1_takeDigit wsX1_sign := goodIn_r _ [6, 1, 7, 8, 9, 10, 11, 12, 13, 14, 15] (by decide +kernel) (by decide +kernel)
set_option maxRecDepth 20000 in
theorem gX1_takeDigit_X1_sign : GoodIn wsX1_takeDigit (wsV RX1 84 RX1 yX1_sign wsX1_sign) := goodIn_app (goodIn_of _ (by decide +kernel)) ggX1_takeDigit_X1_sign
theorem dX1_takeDigit_0 : decode cX1_takeDigit 0 = .ok (.aload_n 0, 1) := by decide +kernel
theorem dX1_takeDigit_1 : decode cX1_takeDigit 1 = .ok (.invokevirtual 84, 3) := by decide +kernel
theorem dX1_takeDigit_4 : decode cX1_takeDigit 4 = .ok (.istore_n 1, 1) := by decide +kernel
theorem dX1_takeDigit_5 : decode cX1_takeDigit 5 = .ok (.iload_n 1, 1) := by decide +kernel
theorem dX1_takeDigit_6 : decode cX1_takeDigit 6 = .ok (.bipush 48, 2) := by decide +kernel
theorem dX1_takeDigit_8 : decode cX1_takeDigit 8 = .ok (.if_icmp .lt 9, 3) := by decide +kernel
theorem dX1_takeDigit_11 : decode cX1_takeDigit 11 = .ok (.iload_n 1, 1) := by decide +kernel
theorem dX1_takeDigit_12 : decode cX1_takeDigit 12 = .ok (.bipush 57, 2) := by decide +kernel
theorem dX1_takeDigit_14 : decode cX1_takeDigit 14 = .ok (.if_icmp .le 5, 3) := by decide +kernel
theorem dX1_takeDigit_17 : decode cX1_takeDigit 17 = .ok (.iconst (-1), 1) := by decide +kernel
theorem dX1_takeDigit_18 : decode cX1_takeDigit 18 = .ok (.ireturn, 1) := by decide +kernel
theorem dX1_takeDigit_19 : decode cX1_takeDigit 19 = .ok (.aload_n 0, 1) := by decide +kernel
theorem dX1_takeDigit_20 : decode cX1_takeDigit 20 = .ok (.dup, 1) := by decide +kernel
theorem dX1_takeDigit_21 : decode cX1_takeDigit 21 = .ok (.getfield 22, 3) := by decide +kernel
theorem dX1_takeDigit_24 : decode cX1_takeDigit 24 = .ok (.iconst 1, 1) := by decide +kernel
theorem dX1_takeDigit_25 : decode cX1_takeDigit 25 = .ok (.iadd, 1) := by decide +kernel
theorem dX1_takeDigit_26 : decode cX1_takeDigit 26 = .ok (.putfield 22, 3) := by decide +kernel
theorem dX1_takeDigit_29 : decode cX1_takeDigit 29 = .ok (.iload_n 1, 1) := by decide +kernel
theorem dX1_takeDigit_30 : decode cX1_takeDigit 30 = .ok (.bipush 48, 2) := by decide +kernel
theorem dX1_takeDigit_32 : decode cX1_takeDigit 32 = .ok (.isub, 1) := by decide +kernel
theorem dX1_takeDigit_33 : decode cX1_takeDigit 33 = .ok (.ireturn, 1) := by decide +kernel
set_option maxRecDepth 20000 in
theorem ggX2_init_X3_init : GoodIn wsX2_init wsX3_init := goodIn_r _ [13, 14, 2, 3, 15, 16, 17, 18, 19, 20, 21, 22, 23, 24, 25, 26, 27, 28, 29, 30, 31, 36, 37, 38, 39, 40, 41, 42, 43, 44] (by decide +kernel) (by decide +kernel)
set_option maxRecDepth 20000 in
theorem gX2_init_X3_init : GoodIn wsX2_init (wsX3_init) := ggX2_init_X3_init
theorem dX2_init_0 : decode cX2_init 0 = .ok (.aload_n 0, 1) := by decide +kernel
theorem dX2_init_1 : decode cX2_init 1 = .ok (.invokespecial 3, 3) := by decide +kernel
theorem dX2_init_4 : decode cX2_init 4 = .ok (.aload_n 0, 1) := by decide +kernel
theorem dX2_init_5 : decode cX2_init 5 = .ok (.iconst 4, 1) := by decide +kernel
theorem dX2_init_6 : decode cX2_init 6 = .ok (.anewarray 9, 3) := by decide +kernel
theorem dX2_init_9 : decode cX2_init 9 = .ok (.putfield 11, 3) := by decide +kernel
theorem dX2_init_12 : decode cX2_init 12 = .ok (.iconst 0, 1) := by decide +kernel
theorem dX2_init_13 : decode cX2_init 13 = .ok (.istore_n 1, 1) := by decide +kernel
theorem dX2_init_14 : decode cX2_init 14 = .ok (.iload_n 1, 1) := by decide +kernel
theorem dX2_init_15 : decode cX2_init 15 = .ok (.aload_n 0, 1) := by decide +kernel
theorem dX2_init_16 : decode cX2_init 16 = .ok (.getfield 11, 3) := by decide +kernel
theorem dX2_init_19 : decode cX2_init 19 = .ok (.arraylength, 1) := by decide +kernel
theorem dX2_init_20 : decode cX2_init 20 = .ok (.if_icmp .ge 22, 3) := by decide +kernel
theorem dX2_init_23 : decode cX2_init 23 = .ok (.aload_n 0, 1) := by decide +kernel
theorem dX2_init_24 : decode cX2_init 24 = .ok (.getfield 11, 3) := by decide +kernel
theorem dX2_init_27 : decode cX2_init 27 = .ok (.iload_n 1, 1) := by decide +kernel
theorem dX2_init_28 : decode cX2_init 28 = .ok (.new 9, 3) := by decide +kernel
theorem dX2_init_31 : decode cX2_init 31 = .ok (.dup, 1) := by decide +kernel
theorem dX2_init_32 : decode cX2_init 32 = .ok (.invokespecial 17, 3) := by decide +kernel
theorem dX2_init_35 : decode cX2_init 35 = .ok (.aastore, 1) := by decide +kernel
theorem dX2_init_36 : decode cX2_init 36 = .ok (.iinc 1 1, 3) := by decide +kernel
theorem dX2_init_39 : decode cX2_init 39 = .ok (.goto (-25), 3) := by decide +kernel
theorem dX2_init_42 : decode cX2_init 42 = .ok (.aload_n 0, 1) := by decide +kernel
theorem dX2_init_43 : decode cX2_init 43 = .ok (.new 9, 3) := by decide +kernel
theorem dX2_init_46 : decode cX2_init 46 = .ok (.dup, 1) := by decide +kernel
theorem dX2_init_47 : decode cX2_init 47 = .ok (.invokespecial 17, 3) := by decide +kernel
theorem dX2_init_50 : decode cX2_init 50 = .ok (.putfield 18, 3) := by decide +kernel
theorem dX2_init_53 : decode cX2_init 53 = .ok (.aload_n 0, 1) := by decide +kernel
theorem dX2_init_54 : decode cX2_init 54 = .ok (.iconst 0, 1) := by decide +kernel
theorem dX2_init_55 : decode cX2_init 55 = .ok (.putfield 22, 3) := by decide +kernel
theorem dX2_init_58 : decode cX2_init 58 = .ok (.aload_n 0, 1) := by decide +kernel
theorem dX2_init_59 : decode cX2_init 59 = .ok (.iconst 0, 1) := by decide +kernel
theorem dX2_init_60 : decode cX2_init 60 = .ok (.putfield 26, 3) := by decide +kernel
theorem dX2_init_63 : decode cX2_init 63 = .ok (.return_, 1) := by decide +kernel
theorem dX2_at_0 : decode cX2_at 0 = .ok (.aload_n 0, 1) := by decide +kernel
theorem dX2_at_1 : decode cX2_at 1 = .ok (.getfield 22, 3) := by decide +kernel
theorem dX2_at_4 : decode cX2_at 4 = .ok (.iload_n 1, 1) := by decide +kernel
theorem dX2_at_5 : decode cX2_at 5 = .ok (.iadd, 1) := by decide +kernel
theorem dX2_at_6 : decode cX2_at 6 = .ok (.istore_n 2, 1) := by decide +kernel
theorem dX2_at_7 : decode cX2_at 7 = .ok (.iload_n 2, 1) := by decide +kernel
theorem dX2_at_8 : decode cX2_at 8 = .ok (.iconst 4, 1) := by decide +kernel
theorem dX2_at_9 : decode cX2_at 9 = .ok (.if_icmp .lt 6, 3) := by decide +kernel
theorem dX2_at_12 : decode cX2_at 12 = .ok (.iinc 2 (-4), 3) := by decide +kernel
theorem dX2_at_15 : decode cX2_at 15 = .ok (.iload_n 2, 1) := by decide +kernel
theorem dX2_at_16 : decode cX2_at 16 = .ok (.ifCond .lt 21, 3) := by decide +kernel
theorem dX2_at_19 : decode cX2_at 19 = .ok (.iload_n 2, 1) := by decide +kernel
theorem dX2_at_20 : decode cX2_at 20 = .ok (.aload_n 0, 1) := by decide +kernel
theorem dX2_at_21 : decode cX2_at 21 = .ok (.getfield 11, 3) := by decide +kernel
theorem dX2_at_24 : decode cX2_at 24 = .ok (.arraylength, 1) := by decide +kernel
theorem dX2_at_25 : decode cX2_at 25 = .ok (.if_icmp .ge 12, 3) := by decide +kernel
theorem dX2_at_28 : decode cX2_at 28 = .ok (.aload_n 0, 1) := by decide +kernel
theorem dX2_at_29 : decode cX2_at 29 = .ok (.getfield 11, 3) := by decide +kernel
theorem dX2_at_32 : decode cX2_at 32 = .ok (.iload_n 2, 1) := by decide +kernel
theorem dX2_at_33 : decode cX2_at 33 = .ok (.aaload, 1) := by decide +kernel
theorem dX2_at_34 : decode cX2_at 34 = .ok (.ifnonnull 8, 3) := by decide +kernel
theorem dX2_at_37 : decode cX2_at 37 = .ok (.aload_n 0, 1) := by decide +kernel
theorem dX2_at_38 : decode cX2_at 38 = .ok (.getfield 18, 3) := by decide +kernel
theorem dX2_at_41 : decode cX2_at 41 = .ok (.areturn, 1) := by decide +kernel
theorem dX2_at_42 : decode cX2_at 42 = .ok (.aload_n 0, 1) := by decide +kernel
theorem dX2_at_43 : decode cX2_at 43 = .ok (.getfield 11, 3) := by decide +kernel
theorem dX2_at_46 : decode cX2_at 46 = .ok (.iload_n 2, 1) := by decide +kernel
theorem dX2_at_47 : decode cX2_at 47 = .ok (.aaload, 1) := by decide +kernel
theorem dX2_at_48 : decode cX2_at 48 = .ok (.areturn, 1) := by decide +kernel
set_option maxRecDepth 20000 in
theorem ggX2_keep_X2_at : GoodIn wsX2_keep wsX2_at := goodIn_r _ [7, 2, 8, 9, 44, 45, 46, 47] (by decide +kernel) (by decide +kernel)
set_option maxRecDepth 20000 in
theorem gX2_keep_X2_at : GoodIn wsX2_keep (wsV RX2 29 RX2 yX2_at wsX2_at) := goodIn_app (goodIn_of _ (by decide +kernel)) ggX2_keep_X2_at
set_option maxRecDepth 20000 in
theorem ggX2_keep_X3_copyFrom : GoodIn wsX2_keep wsX3_copyFrom := goodIn_r _ [14, 15, 16, 17, 18, 19, 20, 13, 21, 22, 23, 24, 25, 26, 27, 28, 29, 30, 31, 32, 33, 34, 35, 36, 37, 38, 39, 40, 41, 42, 43, 48, 49, 50, 51, 52, 53, 54, 55, 56] (by decide +kernel) (by decide +kernel)
set_option maxRecDepth 20000 in
theorem gX2_keep_X3_copyFrom : GoodIn wsX2_keep (wsV RX2 33 RX3 yX3_copyFrom wsX3_copyFrom) := goodIn_app (goodIn_of _ (by decide +kernel)) ggX2_keep_X3_copyFrom
theorem dX2_keep_0 : decode cX2_keep 0 = .ok (.aload_n 0, 1) := by decide +kernel
theorem dX2_keep_1 : decode cX2_keep 1 = .ok (.getfield 26, 3) := by decide +kernel
theorem dX2_keep_4 : decode cX2_keep 4 = .ok (.iconst 4, 1) := by decide +kernel
theorem dX2_keep_5 : decode cX2_keep 5 = .ok (.if_icmp .ne 37, 3) := by decide +kernel
theorem dX2_keep_8 : decode cX2_keep 8 = .ok (.aload_n 0, 1) := by decide +kernel
theorem dX2_keep_9 : decode cX2_keep 9 = .ok (.aload_n 0, 1) := by decide +kernel
theorem dX2_keep_10 : decode cX2_keep 10 = .ok (.getfield 22, 3) := by decide +kernel
theorem dX2_keep_13 : decode cX2_keep 13 = .ok (.iconst 1, 1) := by decide +kernel
theorem dX2_keep_14 : decode cX2_keep 14 = .ok (.iadd, 1) := by decide +kernel
theorem dX2_keep_15 : decode cX2_keep 15 = .ok (.iconst 4, 1) := by decide +kernel
theorem dX2_keep_16 : decode cX2_keep 16 = .ok (.if_icmp .ge 12, 3) := by decide +kernel
theorem dX2_keep_19 : decode cX2_keep 19 = .ok (.aload_n 0, 1) := by decide +kernel
theorem dX2_keep_20 : decode cX2_keep 20 = .ok (.getfield 22, 3) := by decide +kernel
theorem dX2_keep_23 : decode cX2_keep 23 = .ok (.iconst 1, 1) := by decide +kernel
theorem dX2_keep_24 : decode cX2_keep 24 = .ok (.iadd, 1) := by decide +kernel
theorem dX2_keep_25 : decode cX2_keep 25 = .ok (.goto 4, 3) := by decide +kernel
theorem dX2_keep_28 : decode cX2_keep 28 = .ok (.iconst 0, 1) := by decide +kernel
theorem dX2_keep_29 : decode cX2_keep 29 = .ok (.putfield 22, 3) := by decide +kernel
theorem dX2_keep_32 : decode cX2_keep 32 = .ok (.aload_n 0, 1) := by decide +kernel
theorem dX2_keep_33 : decode cX2_keep 33 = .ok (.dup, 1) := by decide +kernel
theorem dX2_keep_34 : decode cX2_keep 34 = .ok (.getfield 26, 3) := by decide +kernel
theorem dX2_keep_37 : decode cX2_keep 37 = .ok (.iconst 1, 1) := by decide +kernel
theorem dX2_keep_38 : decode cX2_keep 38 = .ok (.isub, 1) := by decide +kernel
theorem dX2_keep_39 : decode cX2_keep 39 = .ok (.putfield 26, 3) := by decide +kernel
theorem dX2_keep_42 : decode cX2_keep 42 = .ok (.aload_n 0, 1) := by decide +kernel
theorem dX2_keep_43 : decode cX2_keep 43 = .ok (.aload_n 0, 1) := by decide +kernel
theorem dX2_keep_44 : decode cX2_keep 44 = .ok (.getfield 26, 3) := by decide +kernel
theorem dX2_keep_47 : decode cX2_keep 47 = .ok (.invokevirtual 29, 3) := by decide +kernel
theorem dX2_keep_50 : decode cX2_keep 50 = .ok (.aload_n 1, 1) := by decide +kernel
theorem dX2_keep_51 : decode cX2_keep 51 = .ok (.invokevirtual 33, 3) := by decide +kernel
theorem dX2_keep_54 : decode cX2_keep 54 = .ok (.aload_n 0, 1) := by decide +kernel
theorem dX2_keep_55 : decode cX2_keep 55 = .ok (.dup, 1) := by decide +kernel
theorem dX2_keep_56 : decode cX2_keep 56 = .ok (.getfield 26, 3) := by decide +kernel
theorem dX2_keep_59 : decode cX2_keep 59 = .ok (.iconst 1, 1) := by decide +kernel
theorem dX2_keep_60 : decode cX2_keep 60 = .ok (.iadd, 1) := by decide +kernel
theorem dX2_keep_61 : decode cX2_keep 61 = .ok (.putfield 26, 3) := by decide +kernel
theorem dX2_keep_64 : decode cX2_keep 64 = .ok (.return_, 1) := by decide +kernel
set_option maxRecDepth 20000 in
theorem ggX2_restore_X2_at : GoodIn wsX2_restore wsX2_at := goodIn_r _ [6, 7, 8, 9, 44, 45, 46, 47] (by decide +kernel) (by decide +kernel)
set_option maxRecDepth 20000 in
theorem gX2_restore_X2_at : GoodIn wsX2_restore (wsV RX2 29 RX2 yX2_at wsX2_at) := goodIn_app (goodIn_of _ (by decide +kernel)) ggX2_restore_X2_at
set_option maxRecDepth 20000 in
theorem ggX2_restore_X3_copyFrom : GoodIn wsX2_restore wsX3_copyFrom := goodIn_r _ [14, 15, 16, 17, 18, 19, 20, 13, 21, 22, 23, 24, 25, 26, 27, 28, 29, 30, 31, 32, 33, 34, 35, 36, 37, 38, 39, 40, 41, 42, 43, 48, 49, 50, 51, 52, 53, 54, 55, 56] (by decide +kernel) (by decide +kernel)
set_option maxRecDepth 20000 in
theorem gX2_restore_X3_copyFrom : GoodIn wsX2_restore (wsV RX2 33 RX3 yX3_copyFrom wsX3_copyFrom) := goodIn_app (goodIn_of _ (by decide +kernel)) ggX2_restore_X3_copyFrom
theorem dX2_restore_0 : decode cX2_restore 0 = .ok (.aload_n 0, 1) := by decide +kernel
theorem dX2_restore_1 : decode cX2_restore 1 = .ok (.getfield 26, 3) := by decide +kernel
theorem dX2_restore_4 : decode cX2_restore 4 = .ok (.ifCond .le 25, 3) := by decide +kernel
theorem dX2_restore_7 : decode cX2_restore 7 = .ok (.aload_n 0, 1) := by decide +kernel
theorem dX2_restore_8 : decode cX2_restore 8 = .ok (.dup, 1) := by decide +kernel
theorem dX2_restore_9 : decode cX2_restore 9 = .ok (.getfield 26, 3) := by decide +kernel
theorem dX2_restore_12 : decode cX2_restore 12 = .ok (.iconst 1, 1) := by decide +kernel
theorem dX2_restore_13 : decode cX2_restore 13 = .ok (.isub, 1) := by decide +kernel
theorem dX2_restore_14 : decode cX2_restore 14 = .ok (.putfield 26, 3) := by decide +kernel
theorem dX2_restore_17 : decode cX2_restore 17 = .ok (.aload_n 1, 1) := by decide +kernel
theorem dX2_restore_18 : decode cX2_restore 18 = .ok (.aload_n 0, 1) := by decide +kernel
theorem dX2_restore_19 : decode cX2_restore 19 = .ok (.aload_n 0, 1) := by decide +kernel
theorem dX2_restore_20 : decode cX2_restore 20 = .ok (.getfield 26, 3) := by decide +kernel
theorem dX2_restore_23 : decode cX2_restore 23 = .ok (.invokevirtual 29, 3) := by decide +kernel
theorem dX2_restore_26 : decode cX2_restore 26 = .ok (.invokevirtual 33, 3) := by decide +kernel
theorem dX2_restore_29 : decode cX2_restore 29 = .ok (.return_, 1) := by decide +kernel
set_option maxRecDepth 20000 in
theorem ggX3_init_X0_init : GoodIn wsX3_init wsX0_init := goodIn_r _ [15, 16, 2, 3, 17, 18, 19, 20, 27, 28, 29] (by decide +kernel) (by decide +kernel)
set_option maxRecDepth 20000 in
theorem gX3_init_X0_init : GoodIn wsX3_init (wsX0_init) := ggX3_init_X0_init
theorem dX3_init_0 : decode cX3_init 0 = .ok (.aload_n 0, 1) := by decide +kernel
theorem dX3_init_1 : decode cX3_init 1 = .ok (.invokespecial 3, 3) := by decide +kernel
theorem dX3_init_4 : decode cX3_init 4 = .ok (.aload_n 0, 1) := by decide +kernel
theorem dX3_init_5 : decode cX3_init 5 = .ok (.bipush 8, 2) := by decide +kernel
theorem dX3_init_7 : decode cX3_init 7 = .ok (.anewarray 9, 3) := by decide +kernel
theorem dX3_init_10 : decode cX3_init 10 = .ok (.putfield 11, 3) := by decide +kernel
theorem dX3_init_13 : decode cX3_init 13 = .ok (.iconst 0, 1) := by decide +kernel
theorem dX3_init_14 : decode cX3_init 14 = .ok (.istore_n 1, 1) := by decide +kernel
theorem dX3_init_15 : decode cX3_init 15 = .ok (.iload_n 1, 1) := by decide +kernel
theorem dX3_init_16 : decode cX3_init 16 = .ok (.aload_n 0, 1) := by decide +kernel
theorem dX3_init_17 : decode cX3_init 17 = .ok (.getfield 11, 3) := by decide +kernel
theorem dX3_init_20 : decode cX3_init 20 = .ok (.arraylength, 1) := by decide +kernel
theorem dX3_init_21 : decode cX3_init 21 = .ok (.if_icmp .ge 22, 3) := by decide +kernel
theorem dX3_init_24 : decode cX3_init 24 = .ok (.aload_n 0, 1) := by decide +kernel
theorem dX3_init_25 : decode cX3_init 25 = .ok (.getfield 11, 3) := by decide +kernel
theorem dX3_init_28 : decode cX3_init 28 = .ok (.iload_n 1, 1) := by decide +kernel
theorem dX3_init_29 : decode cX3_init 29 = .ok (.new 9, 3) := by decide +kernel
theorem dX3_init_32 : decode cX3_init 32 = .ok (.dup, 1) := by decide +kernel
theorem dX3_init_33 : decode cX3_init 33 = .ok (.invokespecial 17, 3) := by decide +kernel
theorem dX3_init_36 : decode cX3_init 36 = .ok (.aastore, 1) := by decide +kernel
theorem dX3_init_37 : decode cX3_init 37 = .ok (.iinc 1 1, 3) := by decide +kernel
theorem dX3_init_40 : decode cX3_init 40 = .ok (.goto (-25), 3) := by decide +kernel
theorem dX3_init_43 : decode cX3_init 43 = .ok (.aload_n 0, 1) := by decide +kernel
theorem dX3_init_44 : decode cX3_init 44 = .ok (.new 9, 3) := by decide +kernel
theorem dX3_init_47 : decode cX3_init 47 = .ok (.dup, 1) := by decide +kernel
theorem dX3_init_48 : decode cX3_init 48 = .ok (.invokespecial 17, 3) := by decide +kernel
theorem dX3_init_51 : decode cX3_init 51 = .ok (.putfield 18, 3) := by decide +kernel
theorem dX3_init_54 : decode cX3_init 54 = .ok (.aload_n 0, 1) := by decide +kernel
theorem dX3_init_55 : decode cX3_init 55 = .ok (.new 9, 3) := by decide +kernel
theorem dX3_init_58 : decode cX3_init 58 = .ok (.dup, 1) := by decide +kernel
theorem dX3_init_59 : decode cX3_init 59 = .ok (.invokespecial 17, 3) := by decide +kernel
theorem dX3_init_62 : decode cX3_init 62 = .ok (.putfield 22, 3) := by decide +kernel
theorem dX3_init_65 : decode cX3_init 65 = .ok (.aload_n 0, 1) := by decide +kernel
theorem dX3_init_66 : decode cX3_init 66 = .ok (.iconst 0, 1) := by decide +kernel
theorem dX3_init_67 : decode cX3_init 67 = .ok (.putfield 25, 3) := by decide +kernel
theorem dX3_init_70 : decode cX3_init 70 = .ok (.aload_n 0, 1) := by decide +kernel
theorem dX3_init_71 : decode cX3_init 71 = .ok (.bipush 20, 2) := by decide +kernel
theorem dX3_init_73 : decode cX3_init 73 = .ok (.putfield 29, 3) := by decide +kernel
theorem dX3_init_76 : decode cX3_init 76 = .ok (.aload_n 0, 1) := by decide +kernel
theorem dX3_init_77 : decode cX3_init 77 = .ok (.bipush 20, 2) := by decide +kernel
theorem dX3_init_79 : decode cX3_init 79 = .ok (.putfield 32, 3) := by decide +kernel
theorem dX3_init_82 : decode cX3_init 82 = .ok (.return_, 1) := by decide +kernel
theorem dX3_has_0 : decode cX3_has 0 = .ok (.iload_n 1, 1) := by decide +kernel
theorem dX3_has_1 : decode cX3_has 1 = .ok (.ifCond .lt 15, 3) := by decide +kernel
theorem dX3_has_4 : decode cX3_has 4 = .ok (.iload_n 1, 1) := by decide +kernel
theorem dX3_has_5 : decode cX3_has 5 = .ok (.aload_n 0, 1) := by decide +kernel
theorem dX3_has_6 : decode cX3_has 6 = .ok (.getfield 25, 3) := by decide +kernel
theorem dX3_has_9 : decode cX3_has 9 = .ok (.if_icmp .ge 7, 3) := by decide +kernel
theorem dX3_has_12 : decode cX3_has 12 = .ok (.iconst 1, 1) := by decide +kernel
theorem dX3_has_13 : decode cX3_has 13 = .ok (.goto 4, 3) := by decide +kernel
theorem dX3_has_16 : decode cX3_has 16 = .ok (.iconst 0, 1) := by decide +kernel
theorem dX3_has_17 : decode cX3_has 17 = .ok (.ireturn, 1) := by decide +kernel
theorem dX3_at_0 : decode cX3_at 0 = .ok (.iload_n 1, 1) := by decide +kernel
theorem dX3_at_1 : decode cX3_at 1 = .ok (.ifCond .lt 21, 3) := by decide +kernel
theorem dX3_at_4 : decode cX3_at 4 = .ok (.iload_n 1, 1) := by decide +kernel
theorem dX3_at_5 : decode cX3_at 5 = .ok (.aload_n 0, 1) := by decide +kernel
theorem dX3_at_6 : decode cX3_at 6 = .ok (.getfield 11, 3) := by decide +kernel
theorem dX3_at_9 : decode cX3_at 9 = .ok (.arraylength, 1) := by decide +kernel
theorem dX3_at_10 : decode cX3_at 10 = .ok (.if_icmp .ge 12, 3) := by decide +kernel
theorem dX3_at_13 : decode cX3_at 13 = .ok (.aload_n 0, 1) := by decide +kernel
theorem dX3_at_14 : decode cX3_at 14 = .ok (.getfield 11, 3) := by decide +kernel
theorem dX3_at_17 : decode cX3_at 17 = .ok (.iload_n 1, 1) := by decide +kernel
theorem dX3_at_18 : decode cX3_at 18 = .ok (.aaload, 1) := by decide +kernel
theorem dX3_at_19 : decode cX3_at 19 = .ok (.ifnonnull 8, 3) := by decide +kernel
theorem dX3_at_22 : decode cX3_at 22 = .ok (.aload_n 0, 1) := by decide +kernel
theorem dX3_at_23 : decode cX3_at 23 = .ok (.getfield 18, 3) := by decide +kernel
theorem dX3_at_26 : decode cX3_at 26 = .ok (.areturn, 1) := by decide +kernel
theorem dX3_at_27 : decode cX3_at 27 = .ok (.aload_n 0, 1) := by decide +kernel
theorem dX3_at_28 : decode cX3_at 28 = .ok (.getfield 11, 3) := by decide +kernel
theorem dX3_at_31 : decode cX3_at 31 = .ok (.iload_n 1, 1) := by decide +kernel
theorem dX3_at_32 : decode cX3_at 32 = .ok (.aaload, 1) := by decide +kernel
theorem dX3_at_33 : decode cX3_at 33 = .ok (.areturn, 1) := by decide +kernel
set_option maxRecDepth 20000 in
theorem ggX3_copyFrom_X3_at : GoodIn wsX3_copyFrom wsX3_at := goodIn_r _ [8, 9, 10, 31, 32, 33, 34, 35, 36] (by decide +kernel) (by decide +kernel)
set_option maxRecDepth 20000 in
theorem gX3_copyFrom_X3_at : GoodIn wsX3_copyFrom (wsV RX3 35 RX3 yX3_at wsX3_at) := goodIn_app (goodIn_of _ (by decide +kernel)) ggX3_copyFrom_X3_at
set_option maxRecDepth 20000 in
theorem ggX3_copyFrom_X0_copyFrom : GoodIn wsX3_copyFrom wsX0_copyFrom := goodIn_r _ [15, 16, 17, 18, 19, 14, 20, 21, 22, 23, 24, 25, 26, 27, 28, 29, 30, 37, 38, 39] (by decide +kernel) (by decide +kernel)
set_option maxRecDepth 20000 in
theorem gX3_copyFrom_X0_copyFrom : GoodIn wsX3_copyFrom (wsV RX3 39 RX0 yX0_copyFrom wsX0_copyFrom) := goodIn_app (goodIn_of _ (by decide +kernel)) ggX3_copyFrom_X0_copyFrom
theorem dX3_copyFrom_0 : decode cX3_copyFrom 0 = .ok (.aload_n 0, 1) := by decide +kernel
theorem dX3_copyFrom_1 : decode cX3_copyFrom 1 = .ok (.aload_n 1, 1) := by decide +kernel
theorem dX3_copyFrom_2 : decode cX3_copyFrom 2 = .ok (.getfield 25, 3) := by decide +kernel
theorem dX3_copyFrom_5 : decode cX3_copyFrom 5 = .ok (.putfield 25, 3) := by decide +kernel
theorem dX3_copyFrom_8 : decode cX3_copyFrom 8 = .ok (.aload_n 0, 1) := by decide +kernel
theorem dX3_copyFrom_9 : decode cX3_copyFrom 9 = .ok (.aload_n 1, 1) := by decide +kernel
theorem dX3_copyFrom_10 : decode cX3_copyFrom 10 = .ok (.getfield 29, 3) := by decide +kernel
theorem dX3_copyFrom_13 : decode cX3_copyFrom 13 = .ok (.putfield 29, 3) := by decide +kernel
theorem dX3_copyFrom_16 : decode cX3_copyFrom 16 = .ok (.aload_n 0, 1) := by decide +kernel
theorem dX3_copyFrom_17 : decode cX3_copyFrom 17 = .ok (.aload_n 1, 1) := by decide +kernel
theorem dX3_copyFrom_18 : decode cX3_copyFrom 18 = .ok (.getfield 32, 3) := by decide +kernel
theorem dX3_copyFrom_21 : decode cX3_copyFrom 21 = .ok (.putfield 32, 3) := by decide +kernel
theorem dX3_copyFrom_24 : decode cX3_copyFrom 24 = .ok (.iconst 0, 1) := by decide +kernel
theorem dX3_copyFrom_25 : decode cX3_copyFrom 25 = .ok (.istore_n 2, 1) := by decide +kernel
theorem dX3_copyFrom_26 : decode cX3_copyFrom 26 = .ok (.iload_n 2, 1) := by decide +kernel
theorem dX3_copyFrom_27 : decode cX3_copyFrom 27 = .ok (.aload_n 0, 1) := by decide +kernel
theorem dX3_copyFrom_28 : decode cX3_copyFrom 28 = .ok (.getfield 25, 3) := by decide +kernel
theorem dX3_copyFrom_31 : decode cX3_copyFrom 31 = .ok (.if_icmp .ge 22, 3) := by decide +kernel
theorem dX3_copyFrom_34 : decode cX3_copyFrom 34 = .ok (.aload_n 0, 1) := by decide +kernel
theorem dX3_copyFrom_35 : decode cX3_copyFrom 35 = .ok (.iload_n 2, 1) := by decide +kernel
theorem dX3_copyFrom_36 : decode cX3_copyFrom 36 = .ok (.invokevirtual 35, 3) := by decide +kernel
theorem dX3_copyFrom_39 : decode cX3_copyFrom 39 = .ok (.aload_n 1, 1) := by decide +kernel
theorem dX3_copyFrom_40 : decode cX3_copyFrom 40 = .ok (.iload_n 2, 1) := by decide +kernel
theorem dX3_copyFrom_41 : decode cX3_copyFrom 41 = .ok (.invokevirtual 35, 3) := by decide +kernel
theorem dX3_copyFrom_44 : decode cX3_copyFrom 44 = .ok (.invokevirtual 39, 3) := by decide +kernel
theorem dX3_copyFrom_47 : decode cX3_copyFrom 47 = .ok (.iinc 2 1, 3) := by decide +kernel
theorem dX3_copyFrom_50 : decode cX3_copyFrom 50 = .ok (.goto (-24), 3) := by decide +kernel
theorem dX3_copyFrom_53 : decode cX3_copyFrom 53 = .ok (.return_, 1) := by decide +kernel
set_option maxRecDepth 20000 in
theorem ggX3_add_X3_at : GoodIn wsX3_add wsX3_at := goodIn_r _ [6, 7, 8, 29, 30, 31, 32, 33, 34] (by decide +kernel) (by decide +kernel)
set_option maxRecDepth 20000 in
theorem gX3_add_X3_at : GoodIn wsX3_add (wsV RX3 35 RX3 yX3_at wsX3_at) := goodIn_app (goodIn_of _ (by decide +kernel)) ggX3_add_X3_at
set_option maxRecDepth 20000 in
theorem ggX3_add_X0_copyFrom : GoodIn wsX3_add wsX0_copyFrom := goodIn_r _ [13, 14, 15, 16, 17, 12, 18, 19, 20, 21, 22, 23, 24, 25, 26, 27, 28, 35, 36, 37] (by decide +kernel) (by decide +kernel)
set_option maxRecDepth 20000 in
theorem gX3_add_X0_copyFrom : GoodIn wsX3_add (wsV RX3 39 RX0 yX0_copyFrom wsX0_copyFrom) := goodIn_app (goodIn_of _ (by decide +kernel)) ggX3_add_X0_copyFrom
theorem dX3_add_0 : decode cX3_add 0 = .ok (.aload_n 0, 1) := by decide +kernel
theorem dX3_add_1 : decode cX3_add 1 = .ok (.aload_n 0, 1) := by decide +kernel
theorem dX3_add_2 : decode cX3_add 2 = .ok (.getfield 25, 3) := by decide +kernel
theorem dX3_add_5 : decode cX3_add 5 = .ok (.invokevirtual 35, 3) := by decide +kernel
theorem dX3_add_8 : decode cX3_add 8 = .ok (.aload_n 1, 1) := by decide +kernel
theorem dX3_add_9 : decode cX3_add 9 = .ok (.invokevirtual 39, 3) := by decide +kernel
theorem dX3_add_12 : decode cX3_add 12 = .ok (.aload_n 0, 1) := by decide +kernel
theorem dX3_add_13 : decode cX3_add 13 = .ok (.dup, 1) := by decide +kernel
theorem dX3_add_14 : decode cX3_add 14 = .ok (.getfield 25, 3) := by decide +kernel
theorem dX3_add_17 : decode cX3_add 17 = .ok (.iconst 1, 1) := by decide +kernel
theorem dX3_add_18 : decode cX3_add 18 = .ok (.iadd, 1) := by decide +kernel
theorem dX3_add_19 : decode cX3_add 19 = .ok (.putfield 25, 3) := by decide +kernel
theorem dX3_add_22 : decode cX3_add 22 = .ok (.aload_n 0, 1) := by decide +kernel
theorem dX3_add_23 : decode cX3_add 23 = .ok (.getfield 25, 3) := by decide +kernel
theorem dX3_add_26 : decode cX3_add 26 = .ok (.iconst 1, 1) := by decide +kernel
theorem dX3_add_27 : decode cX3_add 27 = .ok (.isub, 1) := by decide +kernel
theorem dX3_add_28 : decode cX3_add 28 = .ok (.ireturn, 1) := by decide +kernel
set_option maxRecDepth 20000 in
theorem ggX3_takeOut_X3_at : GoodIn wsX3_takeOut wsX3_at := goodIn_r _ [6, 7, 8, 29, 30, 31, 32, 33, 34] (by decide +kernel) (by decide +kernel)
set_option maxRecDepth 20000 in
theorem gX3_takeOut_X3_at : GoodIn wsX3_takeOut (wsV RX3 35 RX3 yX3_at wsX3_at) := goodIn_app (goodIn_of _ (by decide +kernel)) ggX3_takeOut_X3_at
set_option maxRecDepth 20000 in
theorem ggX3_takeOut_X0_copyFrom : GoodIn wsX3_takeOut wsX0_copyFrom := goodIn_r _ [13, 14, 15, 16, 17, 12, 18, 19, 20, 21, 22, 23, 24, 25, 26, 27, 28, 35, 36, 37] (by decide +kernel) (by decide +kernel)
set_option maxRecDepth 20000 in
theorem gX3_takeOut_X0_copyFrom : GoodIn wsX3_takeOut (wsV RX3 39 RX0 yX0_copyFrom wsX0_copyFrom) := goodIn_app (goodIn_of _ (by decide +kernel)) ggX3_takeOut_X0_copyFrom
theorem dX3_takeOut_0 : decode cX3_takeOut 0 = .ok (.iload_n 1, 1) := by decide +kernel
theorem dX3_takeOut_1 : decode cX3_takeOut 1 = .ok (.istore_n 2, 1) := by decide +kernel
theorem dX3_takeOut_2 : decode cX3_takeOut 2 = .ok (.iload_n 2, 1) := by decide +kernel
theorem dX3_takeOut_3 : decode cX3_takeOut 3 = .ok (.iconst 1, 1) := by decide +kernel
theorem dX3_takeOut_4 : decode cX3_takeOut 4 = .ok (.iadd, 1) := by decide +kernel
theorem dX3_takeOut_5 : decode cX3_takeOut 5 = .ok (.aload_n 0, 1) := by decide +kernel
theorem dX3_takeOut_6 : decode cX3_takeOut 6 = .ok (.getfield 25, 3) := by decide +kernel
theorem dX3_takeOut_9 : decode cX3_takeOut 9 = .ok (.if_icmp .ge 24, 3) := by decide +kernel
theorem dX3_takeOut_12 : decode cX3_takeOut 12 = .ok (.aload_n 0, 1) := by decide +kernel
theorem dX3_takeOut_13 : decode cX3_takeOut 13 = .ok (.iload_n 2, 1) := by decide +kernel
theorem dX3_takeOut_14 : decode cX3_takeOut 14 = .ok (.invokevirtual 35, 3) := by decide +kernel
theorem dX3_takeOut_17 : decode cX3_takeOut 17 = .ok (.aload_n 0, 1) := by decide +kernel
theorem dX3_takeOut_18 : decode cX3_takeOut 18 = .ok (.iload_n 2, 1) := by decide +kernel
theorem dX3_takeOut_19 : decode cX3_takeOut 19 = .ok (.iconst 1, 1) := by decide +kernel
theorem dX3_takeOut_20 : decode cX3_takeOut 20 = .ok (.iadd, 1) := by decide +kernel
theorem dX3_takeOut_21 : decode cX3_takeOut 21 = .ok (.invokevirtual 35, 3) := by decide +kernel
theorem dX3_takeOut_24 : decode cX3_takeOut 24 = .ok (.invokevirtual 39, 3) := by decide +kernel
theorem dX3_takeOut_27 : decode cX3_takeOut 27 = .ok (.iinc 2 1, 3) := by decide +kernel
theorem dX3_takeOut_30 : decode cX3_takeOut 30 = .ok (.goto (-28), 3) := by decide +kernel
theorem dX3_takeOut_33 : decode cX3_takeOut 33 = .ok (.aload_n 0, 1) := by decide +kernel
theorem dX3_takeOut_34 : decode cX3_takeOut 34 = .ok (.dup, 1) := by decide +kernel
theorem dX3_takeOut_35 : decode cX3_takeOut 35 = .ok (.getfield 25, 3) := by decide +kernel
theorem dX3_takeOut_38 : decode cX3_takeOut 38 = .ok (.iconst 1, 1) := by decide +kernel
theorem dX3_takeOut_39 : decode cX3_takeOut 39 = .ok (.isub, 1) := by decide +kernel
theorem dX3_takeOut_40 : decode cX3_takeOut 40 = .ok (.putfield 25, 3) := by decide +kernel
theorem dX3_takeOut_43 : decode cX3_takeOut 43 = .ok (.return_, 1) := by decide +kernel
set_option maxRecDepth 20000 in
theorem ggX3_fitsInto_X3_at : GoodIn wsX3_fitsInto wsX3_at := goodIn_r _ [6, 7, 8, 48, 49, 50, 51, 52, 53] (by decide +kernel) (by decide +kernel)
set_option maxRecDepth 20000 in
theorem gX3_fitsInto_X3_at : GoodIn wsX3_fitsInto (wsV RX3 35 RX3 yX3_at wsX3_at) := goodIn_app (goodIn_of _ (by decide +kernel)) ggX3_fitsInto_X3_at
set_option maxRecDepth 20000 in
theorem ggX3_fitsInto_X0_wallsBeyond : GoodIn wsX3_fitsInto wsX0_wallsBeyond := goodIn_r _ [13, 14, 15, 16, 12, 17, 18, 19, 20, 21, 22, 23, 24, 25, 26, 27, 28, 29, 30, 31, 32, 33, 34, 35, 36, 37, 38, 39, 40, 41, 42, 43, 44, 45, 46, 47, 54, 55, 56] (by decide +kernel) (by decide +kernel)
set_option maxRecDepth 20000 in
theorem gX3_fitsInto_X0_wallsBeyond : GoodIn wsX3_fitsInto (wsV RX3 43 RX0 yX0_wallsBeyond wsX0_wallsBeyond) := goodIn_app (goodIn_of _ (by decide +kernel)) ggX3_fitsInto_X0_wallsBeyond
theorem dX3_fitsInto_0 : decode cX3_fitsInto 0 = .ok (.iconst 0, 1) := by decide +kernel
theorem dX3_fitsInto_1 : decode cX3_fitsInto 1 = .ok (.istore_n 3, 1) := by decide +kernel
theorem dX3_fitsInto_2 : decode cX3_fitsInto 2 = .ok (.iload_n 3, 1) := by decide +kernel
theorem dX3_fitsInto_3 : decode cX3_fitsInto 3 = .ok (.aload_n 0, 1) := by decide +kernel
theorem dX3_fitsInto_4 : decode cX3_fitsInto 4 = .ok (.getfield 25, 3) := by decide +kernel
theorem dX3_fitsInto_7 : decode cX3_fitsInto 7 = .ok (.if_icmp .ge 24, 3) := by decide +kernel
theorem dX3_fitsInto_10 : decode cX3_fitsInto 10 = .ok (.aload_n 0, 1) := by decide +kernel
theorem dX3_fitsInto_11 : decode cX3_fitsInto 11 = .ok (.iload_n 3, 1) := by decide +kernel
theorem dX3_fitsInto_12 : decode cX3_fitsInto 12 = .ok (.invokevirtual 35, 3) := by decide +kernel
theorem dX3_fitsInto_15 : decode cX3_fitsInto 15 = .ok (.iload_n 1, 1) := by decide +kernel
theorem dX3_fitsInto_16 : decode cX3_fitsInto 16 = .ok (.iload_n 2, 1) := by decide +kernel
theorem dX3_fitsInto_17 : decode cX3_fitsInto 17 = .ok (.invokevirtual 43, 3) := by decide +kernel
theorem dX3_fitsInto_20 : decode cX3_fitsInto 20 = .ok (.ifCond .eq 5, 3) := by decide +kernel
theorem dX3_fitsInto_23 : decode cX3_fitsInto 23 = .ok (.iconst 0, 1) := by decide +kernel
