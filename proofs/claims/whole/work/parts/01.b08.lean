theorem dX5_takesNumber_100 : decode cX5_takesNumber 100 = .ok (.iload_n 2, 1) := by decide +kernel
theorem dX5_takesNumber_101 : decode cX5_takesNumber 101 = .ok (.if_icmp .le 7, 3) := by decide +kernel
theorem dX5_takesNumber_104 : decode cX5_takesNumber 104 = .ok (.iconst 1, 1) := by decide +kernel
theorem dX5_takesNumber_105 : decode cX5_takesNumber 105 = .ok (.goto 4, 3) := by decide +kernel
theorem dX5_takesNumber_108 : decode cX5_takesNumber 108 = .ok (.iconst 0, 1) := by decide +kernel
theorem dX5_takesNumber_109 : decode cX5_takesNumber 109 = .ok (.ireturn, 1) := by decide +kernel
set_option maxRecDepth 20000 in
theorem ggX5_reads_X5_takesNumber : GoodIn wsX5_reads wsX5_takesNumber := goodIn_r _ [8, 1, 2, 3, 9, 10, 11, 12, 13, 7, 14, 19, 20, 21, 22, 23, 24, 25, 26, 27, 28] (by decide +kernel) (by decide +kernel)
set_option maxRecDepth 20000 in
theorem gX5_reads_X5_takesNumber : GoodIn wsX5_reads (wsV RX5 202 RX5 yX5_takesNumber wsX5_takesNumber) := goodIn_app (goodIn_of _ (by decide +kernel)) ggX5_reads_X5_takesNumber
set_option maxRecDepth 20000 in
theorem ggX5_reads_X5_takes : GoodIn wsX5_reads wsX5_takes := goodIn_r _ [18, 1, 3, 9, 19, 20, 21, 22, 23, 24, 25, 26, 27, 28] (by decide +kernel) (by decide +kernel)
set_option maxRecDepth 20000 in
theorem gX5_reads_X5_takes : GoodIn wsX5_reads (wsV RX5 205 RX5 yX5_takes wsX5_takes) := goodIn_app (goodIn_of _ (by decide +kernel)) ggX5_reads_X5_takes
theorem dX5_reads_0 : decode cX5_reads 0 = .ok (.aload_n 0, 1) := by decide +kernel
theorem dX5_reads_1 : decode cX5_reads 1 = .ok (.iconst 0, 1) := by decide +kernel
theorem dX5_reads_2 : decode cX5_reads 2 = .ok (.putfield 195, 3) := by decide +kernel
theorem dX5_reads_5 : decode cX5_reads 5 = .ok (.iconst 0, 1) := by decide +kernel
theorem dX5_reads_6 : decode cX5_reads 6 = .ok (.istore_n 1, 1) := by decide +kernel
theorem dX5_reads_7 : decode cX5_reads 7 = .ok (.iconst 1, 1) := by decide +kernel
theorem dX5_reads_8 : decode cX5_reads 8 = .ok (.istore_n 2, 1) := by decide +kernel
theorem dX5_reads_9 : decode cX5_reads 9 = .ok (.iload_n 2, 1) := by decide +kernel
theorem dX5_reads_10 : decode cX5_reads 10 = .ok (.ifCond .eq 63, 3) := by decide +kernel
theorem dX5_reads_13 : decode cX5_reads 13 = .ok (.aload_n 0, 1) := by decide +kernel
theorem dX5_reads_14 : decode cX5_reads 14 = .ok (.bipush 60, 2) := by decide +kernel
theorem dX5_reads_16 : decode cX5_reads 16 = .ok (.iload_n 1, 1) := by decide +kernel
theorem dX5_reads_17 : decode cX5_reads 17 = .ok (.iadd, 1) := by decide +kernel
theorem dX5_reads_18 : decode cX5_reads 18 = .ok (.invokevirtual 202, 3) := by decide +kernel
theorem dX5_reads_21 : decode cX5_reads 21 = .ok (.ifCond .eq 23, 3) := by decide +kernel
theorem dX5_reads_24 : decode cX5_reads 24 = .ok (.aload_n 0, 1) := by decide +kernel
theorem dX5_reads_25 : decode cX5_reads 25 = .ok (.bipush 44, 2) := by decide +kernel
theorem dX5_reads_27 : decode cX5_reads 27 = .ok (.invokevirtual 205, 3) := by decide +kernel
theorem dX5_reads_30 : decode cX5_reads 30 = .ok (.ifCond .eq 14, 3) := by decide +kernel
theorem dX5_reads_33 : decode cX5_reads 33 = .ok (.aload_n 0, 1) := by decide +kernel
theorem dX5_reads_34 : decode cX5_reads 34 = .ok (.bipush 114, 2) := by decide +kernel
theorem dX5_reads_36 : decode cX5_reads 36 = .ok (.iload_n 1, 1) := by decide +kernel
theorem dX5_reads_37 : decode cX5_reads 37 = .ok (.iadd, 1) := by decide +kernel
theorem dX5_reads_38 : decode cX5_reads 38 = .ok (.invokevirtual 202, 3) := by decide +kernel
theorem dX5_reads_41 : decode cX5_reads 41 = .ok (.ifCond .ne 5, 3) := by decide +kernel
theorem dX5_reads_44 : decode cX5_reads 44 = .ok (.iconst 0, 1) := by decide +kernel
theorem dX5_reads_45 : decode cX5_reads 45 = .ok (.ireturn, 1) := by decide +kernel
theorem dX5_reads_46 : decode cX5_reads 46 = .ok (.iinc 1 1, 3) := by decide +kernel
theorem dX5_reads_49 : decode cX5_reads 49 = .ok (.iload_n 1, 1) := by decide +kernel
theorem dX5_reads_50 : decode cX5_reads 50 = .ok (.bipush 6, 2) := by decide +kernel
theorem dX5_reads_52 : decode cX5_reads 52 = .ok (.if_icmp .ge 16, 3) := by decide +kernel
theorem dX5_reads_55 : decode cX5_reads 55 = .ok (.aload_n 0, 1) := by decide +kernel
theorem dX5_reads_56 : decode cX5_reads 56 = .ok (.bipush 59, 2) := by decide +kernel
theorem dX5_reads_58 : decode cX5_reads 58 = .ok (.invokevirtual 205, 3) := by decide +kernel
theorem dX5_reads_61 : decode cX5_reads 61 = .ok (.ifCond .eq 7, 3) := by decide +kernel
theorem dX5_reads_64 : decode cX5_reads 64 = .ok (.iconst 1, 1) := by decide +kernel
theorem dX5_reads_65 : decode cX5_reads 65 = .ok (.goto 4, 3) := by decide +kernel
theorem dX5_reads_68 : decode cX5_reads 68 = .ok (.iconst 0, 1) := by decide +kernel
theorem dX5_reads_69 : decode cX5_reads 69 = .ok (.istore_n 2, 1) := by decide +kernel
theorem dX5_reads_70 : decode cX5_reads 70 = .ok (.goto (-61), 3) := by decide +kernel
theorem dX5_reads_73 : decode cX5_reads 73 = .ok (.aload_n 0, 1) := by decide +kernel
theorem dX5_reads_74 : decode cX5_reads 74 = .ok (.getfield 7, 3) := by decide +kernel
theorem dX5_reads_77 : decode cX5_reads 77 = .ok (.bipush 11, 2) := by decide +kernel
theorem dX5_reads_79 : decode cX5_reads 79 = .ok (.iload_n 1, 1) := by decide +kernel
theorem dX5_reads_80 : decode cX5_reads 80 = .ok (.iastore, 1) := by decide +kernel
theorem dX5_reads_81 : decode cX5_reads 81 = .ok (.aload_n 0, 1) := by decide +kernel
theorem dX5_reads_82 : decode cX5_reads 82 = .ok (.getfield 195, 3) := by decide +kernel
theorem dX5_reads_85 : decode cX5_reads 85 = .ok (.aload_n 0, 1) := by decide +kernel
theorem dX5_reads_86 : decode cX5_reads 86 = .ok (.getfield 188, 3) := by decide +kernel
theorem dX5_reads_89 : decode cX5_reads 89 = .ok (.if_icmp .ne 12, 3) := by decide +kernel
theorem dX5_reads_92 : decode cX5_reads 92 = .ok (.iload_n 1, 1) := by decide +kernel
theorem dX5_reads_93 : decode cX5_reads 93 = .ok (.iconst 2, 1) := by decide +kernel
theorem dX5_reads_94 : decode cX5_reads 94 = .ok (.if_icmp .le 7, 3) := by decide +kernel
theorem dX5_reads_97 : decode cX5_reads 97 = .ok (.iconst 1, 1) := by decide +kernel
theorem dX5_reads_98 : decode cX5_reads 98 = .ok (.goto 4, 3) := by decide +kernel
theorem dX5_reads_101 : decode cX5_reads 101 = .ok (.iconst 0, 1) := by decide +kernel
theorem dX5_reads_102 : decode cX5_reads 102 = .ok (.ireturn, 1) := by decide +kernel
set_option maxRecDepth 20000 in
theorem ggX5_cornerOutside_X5_corners : GoodIn wsX5_cornerOutside wsX5_corners := goodIn_r _ [6, 1, 15, 16, 17, 18, 19, 20, 21, 22, 23, 24] (by decide +kernel) (by decide +kernel)
set_option maxRecDepth 20000 in
theorem gX5_cornerOutside_X5_corners : GoodIn wsX5_cornerOutside (wsV RX5 30 RX5 yX5_corners wsX5_corners) := goodIn_app (goodIn_of _ (by decide +kernel)) ggX5_cornerOutside_X5_corners
set_option maxRecDepth 20000 in
theorem ggX5_cornerOutside_X5_x : GoodIn wsX5_cornerOutside wsX5_x := goodIn_r _ [10, 1, 2, 3, 4, 5, 6, 15, 16, 17, 18, 19, 20, 21, 22, 23, 24] (by decide +kernel) (by decide +kernel)
set_option maxRecDepth 20000 in
theorem gX5_cornerOutside_X5_x : GoodIn wsX5_cornerOutside (wsV RX5 34 RX5 yX5_x wsX5_x) := goodIn_app (goodIn_of _ (by decide +kernel)) ggX5_cornerOutside_X5_x
set_option maxRecDepth 20000 in
theorem ggX5_cornerOutside_X5_y : GoodIn wsX5_cornerOutside wsX5_y := goodIn_r _ [14, 1, 2, 3, 4, 5, 6, 15, 16, 17, 18, 19, 20, 21, 22, 23, 24] (by decide +kernel) (by decide +kernel)
set_option maxRecDepth 20000 in
theorem gX5_cornerOutside_X5_y : GoodIn wsX5_cornerOutside (wsV RX5 38 RX5 yX5_y wsX5_y) := goodIn_app (goodIn_of _ (by decide +kernel)) ggX5_cornerOutside_X5_y
theorem dX5_cornerOutside_0 : decode cX5_cornerOutside 0 = .ok (.iconst 0, 1) := by decide +kernel
theorem dX5_cornerOutside_1 : decode cX5_cornerOutside 1 = .ok (.istore_n 1, 1) := by decide +kernel
theorem dX5_cornerOutside_2 : decode cX5_cornerOutside 2 = .ok (.iload_n 1, 1) := by decide +kernel
theorem dX5_cornerOutside_3 : decode cX5_cornerOutside 3 = .ok (.aload_n 0, 1) := by decide +kernel
theorem dX5_cornerOutside_4 : decode cX5_cornerOutside 4 = .ok (.bipush 8, 2) := by decide +kernel
theorem dX5_cornerOutside_6 : decode cX5_cornerOutside 6 = .ok (.invokevirtual 30, 3) := by decide +kernel
theorem dX5_cornerOutside_9 : decode cX5_cornerOutside 9 = .ok (.if_icmp .ge 43, 3) := by decide +kernel
theorem dX5_cornerOutside_12 : decode cX5_cornerOutside 12 = .ok (.aload_n 0, 1) := by decide +kernel
theorem dX5_cornerOutside_13 : decode cX5_cornerOutside 13 = .ok (.bipush 8, 2) := by decide +kernel
theorem dX5_cornerOutside_15 : decode cX5_cornerOutside 15 = .ok (.iload_n 1, 1) := by decide +kernel
theorem dX5_cornerOutside_16 : decode cX5_cornerOutside 16 = .ok (.invokevirtual 34, 3) := by decide +kernel
theorem dX5_cornerOutside_19 : decode cX5_cornerOutside 19 = .ok (.aload_n 0, 1) := by decide +kernel
theorem dX5_cornerOutside_20 : decode cX5_cornerOutside 20 = .ok (.getfield 7, 3) := by decide +kernel
theorem dX5_cornerOutside_23 : decode cX5_cornerOutside 23 = .ok (.iconst 0, 1) := by decide +kernel
theorem dX5_cornerOutside_24 : decode cX5_cornerOutside 24 = .ok (.iaload, 1) := by decide +kernel
theorem dX5_cornerOutside_25 : decode cX5_cornerOutside 25 = .ok (.if_icmp .gt 19, 3) := by decide +kernel
theorem dX5_cornerOutside_28 : decode cX5_cornerOutside 28 = .ok (.aload_n 0, 1) := by decide +kernel
theorem dX5_cornerOutside_29 : decode cX5_cornerOutside 29 = .ok (.bipush 8, 2) := by decide +kernel
theorem dX5_cornerOutside_31 : decode cX5_cornerOutside 31 = .ok (.iload_n 1, 1) := by decide +kernel
theorem dX5_cornerOutside_32 : decode cX5_cornerOutside 32 = .ok (.invokevirtual 38, 3) := by decide +kernel
theorem dX5_cornerOutside_35 : decode cX5_cornerOutside 35 = .ok (.aload_n 0, 1) := by decide +kernel
theorem dX5_cornerOutside_36 : decode cX5_cornerOutside 36 = .ok (.getfield 7, 3) := by decide +kernel
theorem dX5_cornerOutside_39 : decode cX5_cornerOutside 39 = .ok (.iconst 1, 1) := by decide +kernel
theorem dX5_cornerOutside_40 : decode cX5_cornerOutside 40 = .ok (.iaload, 1) := by decide +kernel
theorem dX5_cornerOutside_41 : decode cX5_cornerOutside 41 = .ok (.if_icmp .le 5, 3) := by decide +kernel
theorem dX5_cornerOutside_44 : decode cX5_cornerOutside 44 = .ok (.iload_n 1, 1) := by decide +kernel
theorem dX5_cornerOutside_45 : decode cX5_cornerOutside 45 = .ok (.ireturn, 1) := by decide +kernel
theorem dX5_cornerOutside_46 : decode cX5_cornerOutside 46 = .ok (.iinc 1 1, 3) := by decide +kernel
theorem dX5_cornerOutside_49 : decode cX5_cornerOutside 49 = .ok (.goto (-47), 3) := by decide +kernel
theorem dX5_cornerOutside_52 : decode cX5_cornerOutside 52 = .ok (.iconst (-1), 1) := by decide +kernel
theorem dX5_cornerOutside_53 : decode cX5_cornerOutside 53 = .ok (.ireturn, 1) := by decide +kernel
set_option maxRecDepth 20000 in
theorem ggX5_goesUp_X5_y : GoodIn wsX5_goesUp wsX5_y := goodIn_r _ [5, 6, 7, 8, 9, 4, 10, 15, 16, 17, 18, 19, 20, 21, 22, 23, 24] (by decide +kernel) (by decide +kernel)
set_option maxRecDepth 20000 in
theorem gX5_goesUp_X5_y : GoodIn wsX5_goesUp (wsV RX5 38 RX5 yX5_y wsX5_y) := goodIn_app (goodIn_of _ (by decide +kernel)) ggX5_goesUp_X5_y
set_option maxRecDepth 20000 in
theorem ggX5_goesUp_X5_x : GoodIn wsX5_goesUp wsX5_x := goodIn_r _ [14, 6, 7, 8, 9, 4, 10, 15, 16, 17, 18, 19, 20, 21, 22, 23, 24] (by decide +kernel) (by decide +kernel)
set_option maxRecDepth 20000 in
theorem gX5_goesUp_X5_x : GoodIn wsX5_goesUp (wsV RX5 34 RX5 yX5_x wsX5_x) := goodIn_app (goodIn_of _ (by decide +kernel)) ggX5_goesUp_X5_x
theorem dX5_goesUp_0 : decode cX5_goesUp 0 = .ok (.aload_n 0, 1) := by decide +kernel
theorem dX5_goesUp_1 : decode cX5_goesUp 1 = .ok (.bipush 8, 2) := by decide +kernel
theorem dX5_goesUp_3 : decode cX5_goesUp 3 = .ok (.iload_n 1, 1) := by decide +kernel
theorem dX5_goesUp_4 : decode cX5_goesUp 4 = .ok (.iconst 1, 1) := by decide +kernel
theorem dX5_goesUp_5 : decode cX5_goesUp 5 = .ok (.iadd, 1) := by decide +kernel
theorem dX5_goesUp_6 : decode cX5_goesUp 6 = .ok (.invokevirtual 38, 3) := by decide +kernel
theorem dX5_goesUp_9 : decode cX5_goesUp 9 = .ok (.aload_n 0, 1) := by decide +kernel
theorem dX5_goesUp_10 : decode cX5_goesUp 10 = .ok (.bipush 8, 2) := by decide +kernel
theorem dX5_goesUp_12 : decode cX5_goesUp 12 = .ok (.iload_n 1, 1) := by decide +kernel
theorem dX5_goesUp_13 : decode cX5_goesUp 13 = .ok (.invokevirtual 38, 3) := by decide +kernel
theorem dX5_goesUp_16 : decode cX5_goesUp 16 = .ok (.isub, 1) := by decide +kernel
theorem dX5_goesUp_17 : decode cX5_goesUp 17 = .ok (.istore_n 2, 1) := by decide +kernel
theorem dX5_goesUp_18 : decode cX5_goesUp 18 = .ok (.iload_n 2, 1) := by decide +kernel
theorem dX5_goesUp_19 : decode cX5_goesUp 19 = .ok (.ifCond .gt 26, 3) := by decide +kernel
theorem dX5_goesUp_22 : decode cX5_goesUp 22 = .ok (.iload_n 2, 1) := by decide +kernel
theorem dX5_goesUp_23 : decode cX5_goesUp 23 = .ok (.ifCond .ne 26, 3) := by decide +kernel
theorem dX5_goesUp_26 : decode cX5_goesUp 26 = .ok (.aload_n 0, 1) := by decide +kernel
theorem dX5_goesUp_27 : decode cX5_goesUp 27 = .ok (.bipush 8, 2) := by decide +kernel
theorem dX5_goesUp_29 : decode cX5_goesUp 29 = .ok (.iload_n 1, 1) := by decide +kernel
theorem dX5_goesUp_30 : decode cX5_goesUp 30 = .ok (.iconst 1, 1) := by decide +kernel
theorem dX5_goesUp_31 : decode cX5_goesUp 31 = .ok (.iadd, 1) := by decide +kernel
theorem dX5_goesUp_32 : decode cX5_goesUp 32 = .ok (.invokevirtual 34, 3) := by decide +kernel
theorem dX5_goesUp_35 : decode cX5_goesUp 35 = .ok (.aload_n 0, 1) := by decide +kernel
theorem dX5_goesUp_36 : decode cX5_goesUp 36 = .ok (.bipush 8, 2) := by decide +kernel
theorem dX5_goesUp_38 : decode cX5_goesUp 38 = .ok (.iload_n 1, 1) := by decide +kernel
theorem dX5_goesUp_39 : decode cX5_goesUp 39 = .ok (.invokevirtual 34, 3) := by decide +kernel
theorem dX5_goesUp_42 : decode cX5_goesUp 42 = .ok (.if_icmp .le 7, 3) := by decide +kernel
theorem dX5_goesUp_45 : decode cX5_goesUp 45 = .ok (.iconst 1, 1) := by decide +kernel
theorem dX5_goesUp_46 : decode cX5_goesUp 46 = .ok (.goto 4, 3) := by decide +kernel
theorem dX5_goesUp_49 : decode cX5_goesUp 49 = .ok (.iconst 0, 1) := by decide +kernel
theorem dX5_goesUp_50 : decode cX5_goesUp 50 = .ok (.ireturn, 1) := by decide +kernel
set_option maxRecDepth 20000 in
theorem ggX5_badCorner_X5_corners : GoodIn wsX5_badCorner wsX5_corners := goodIn_r _ [5, 6, 23, 24, 25, 26, 27, 28, 29, 30, 31, 32] (by decide +kernel) (by decide +kernel)
set_option maxRecDepth 20000 in
theorem gX5_badCorner_X5_corners : GoodIn wsX5_badCorner (wsV RX5 30 RX5 yX5_corners wsX5_corners) := goodIn_app (goodIn_of _ (by decide +kernel)) ggX5_badCorner_X5_corners
set_option maxRecDepth 20000 in
theorem ggX5_badCorner_X5_side : GoodIn wsX5_badCorner wsX5_side := goodIn_r _ [10, 11, 12, 13, 4, 14, 6, 1, 2, 3, 5, 15, 16, 17, 18, 23, 24, 25, 26, 27, 28, 29, 30, 31, 32] (by decide +kernel) (by decide +kernel)
set_option maxRecDepth 20000 in
theorem gX5_badCorner_X5_side : GoodIn wsX5_badCorner (wsV RX5 41 RX5 yX5_side wsX5_side) := goodIn_app (goodIn_of _ (by decide +kernel)) ggX5_badCorner_X5_side
set_option maxRecDepth 20000 in
theorem ggX5_badCorner_X5_goesUp : GoodIn wsX5_badCorner wsX5_goesUp := goodIn_r _ [22, 15, 16, 17, 4, 18, 6, 1, 2, 3, 5, 11, 12, 13, 14, 23, 24, 25, 26, 27, 28, 29, 30, 31, 32] (by decide +kernel) (by decide +kernel)
set_option maxRecDepth 20000 in
theorem gX5_badCorner_X5_goesUp : GoodIn wsX5_badCorner (wsV RX5 208 RX5 yX5_goesUp wsX5_goesUp) := goodIn_app (goodIn_of _ (by decide +kernel)) ggX5_badCorner_X5_goesUp
theorem dX5_badCorner_0 : decode cX5_badCorner 0 = .ok (.aload_n 0, 1) := by decide +kernel
theorem dX5_badCorner_1 : decode cX5_badCorner 1 = .ok (.bipush 8, 2) := by decide +kernel
theorem dX5_badCorner_3 : decode cX5_badCorner 3 = .ok (.invokevirtual 30, 3) := by decide +kernel
theorem dX5_badCorner_6 : decode cX5_badCorner 6 = .ok (.istore_n 1, 1) := by decide +kernel
theorem dX5_badCorner_7 : decode cX5_badCorner 7 = .ok (.iconst 0, 1) := by decide +kernel
theorem dX5_badCorner_8 : decode cX5_badCorner 8 = .ok (.istore_n 2, 1) := by decide +kernel
theorem dX5_badCorner_9 : decode cX5_badCorner 9 = .ok (.iconst 0, 1) := by decide +kernel
theorem dX5_badCorner_10 : decode cX5_badCorner 10 = .ok (.istore_n 3, 1) := by decide +kernel
theorem dX5_badCorner_11 : decode cX5_badCorner 11 = .ok (.iload_n 3, 1) := by decide +kernel
theorem dX5_badCorner_12 : decode cX5_badCorner 12 = .ok (.iload_n 1, 1) := by decide +kernel
theorem dX5_badCorner_13 : decode cX5_badCorner 13 = .ok (.if_icmp .ge 58, 3) := by decide +kernel
theorem dX5_badCorner_16 : decode cX5_badCorner 16 = .ok (.aload_n 0, 1) := by decide +kernel
theorem dX5_badCorner_17 : decode cX5_badCorner 17 = .ok (.bipush 8, 2) := by decide +kernel
theorem dX5_badCorner_19 : decode cX5_badCorner 19 = .ok (.iload_n 3, 1) := by decide +kernel
theorem dX5_badCorner_20 : decode cX5_badCorner 20 = .ok (.iload_n 1, 1) := by decide +kernel
theorem dX5_badCorner_21 : decode cX5_badCorner 21 = .ok (.iadd, 1) := by decide +kernel
theorem dX5_badCorner_22 : decode cX5_badCorner 22 = .ok (.iconst 1, 1) := by decide +kernel
theorem dX5_badCorner_23 : decode cX5_badCorner 23 = .ok (.isub, 1) := by decide +kernel
theorem dX5_badCorner_24 : decode cX5_badCorner 24 = .ok (.bipush 8, 2) := by decide +kernel
theorem dX5_badCorner_26 : decode cX5_badCorner 26 = .ok (.iload_n 3, 1) := by decide +kernel
theorem dX5_badCorner_27 : decode cX5_badCorner 27 = .ok (.iconst 1, 1) := by decide +kernel
theorem dX5_badCorner_28 : decode cX5_badCorner 28 = .ok (.iadd, 1) := by decide +kernel
theorem dX5_badCorner_29 : decode cX5_badCorner 29 = .ok (.invokevirtual 41, 3) := by decide +kernel
theorem dX5_badCorner_32 : decode cX5_badCorner 32 = .ok (.ifCond .gt 5, 3) := by decide +kernel
theorem dX5_badCorner_35 : decode cX5_badCorner 35 = .ok (.iload_n 3, 1) := by decide +kernel
theorem dX5_badCorner_36 : decode cX5_badCorner 36 = .ok (.ireturn, 1) := by decide +kernel
theorem dX5_badCorner_37 : decode cX5_badCorner 37 = .ok (.iload_n 2, 1) := by decide +kernel
theorem dX5_badCorner_38 : decode cX5_badCorner 38 = .ok (.aload_n 0, 1) := by decide +kernel
theorem dX5_badCorner_39 : decode cX5_badCorner 39 = .ok (.iload_n 3, 1) := by decide +kernel
theorem dX5_badCorner_40 : decode cX5_badCorner 40 = .ok (.invokevirtual 208, 3) := by decide +kernel
theorem dX5_badCorner_43 : decode cX5_badCorner 43 = .ok (.ifCond .eq 19, 3) := by decide +kernel
theorem dX5_badCorner_46 : decode cX5_badCorner 46 = .ok (.aload_n 0, 1) := by decide +kernel
theorem dX5_badCorner_47 : decode cX5_badCorner 47 = .ok (.iload_n 3, 1) := by decide +kernel
theorem dX5_badCorner_48 : decode cX5_badCorner 48 = .ok (.iload_n 1, 1) := by decide +kernel
theorem dX5_badCorner_49 : decode cX5_badCorner 49 = .ok (.iadd, 1) := by decide +kernel
theorem dX5_badCorner_50 : decode cX5_badCorner 50 = .ok (.iconst 1, 1) := by decide +kernel
theorem dX5_badCorner_51 : decode cX5_badCorner 51 = .ok (.isub, 1) := by decide +kernel
theorem dX5_badCorner_52 : decode cX5_badCorner 52 = .ok (.invokevirtual 208, 3) := by decide +kernel
theorem dX5_badCorner_55 : decode cX5_badCorner 55 = .ok (.ifCond .ne 7, 3) := by decide +kernel
theorem dX5_badCorner_58 : decode cX5_badCorner 58 = .ok (.iconst 1, 1) := by decide +kernel
theorem dX5_badCorner_59 : decode cX5_badCorner 59 = .ok (.goto 4, 3) := by decide +kernel
theorem dX5_badCorner_62 : decode cX5_badCorner 62 = .ok (.iconst 0, 1) := by decide +kernel
theorem dX5_badCorner_63 : decode cX5_badCorner 63 = .ok (.iadd, 1) := by decide +kernel
theorem dX5_badCorner_64 : decode cX5_badCorner 64 = .ok (.istore_n 2, 1) := by decide +kernel
theorem dX5_badCorner_65 : decode cX5_badCorner 65 = .ok (.iinc 3 1, 3) := by decide +kernel
theorem dX5_badCorner_68 : decode cX5_badCorner 68 = .ok (.goto (-57), 3) := by decide +kernel
theorem dX5_badCorner_71 : decode cX5_badCorner 71 = .ok (.iload_n 2, 1) := by decide +kernel
theorem dX5_badCorner_72 : decode cX5_badCorner 72 = .ok (.iconst 1, 1) := by decide +kernel
theorem dX5_badCorner_73 : decode cX5_badCorner 73 = .ok (.if_icmp .le 7, 3) := by decide +kernel
theorem dX5_badCorner_76 : decode cX5_badCorner 76 = .ok (.iload_n 1, 1) := by decide +kernel
theorem dX5_badCorner_77 : decode cX5_badCorner 77 = .ok (.goto 4, 3) := by decide +kernel
theorem dX5_badCorner_80 : decode cX5_badCorner 80 = .ok (.iconst (-1), 1) := by decide +kernel
theorem dX5_badCorner_81 : decode cX5_badCorner 81 = .ok (.ireturn, 1) := by decide +kernel
theorem dX5_notes_0 : decode cX5_notes 0 = .ok (.aload_n 0, 1) := by decide +kernel
theorem dX5_notes_1 : decode cX5_notes 1 = .ok (.iload_n 1, 1) := by decide +kernel
theorem dX5_notes_2 : decode cX5_notes 2 = .ok (.putfield 211, 3) := by decide +kernel
theorem dX5_notes_5 : decode cX5_notes 5 = .ok (.aload_n 0, 1) := by decide +kernel
theorem dX5_notes_6 : decode cX5_notes 6 = .ok (.iload_n 2, 1) := by decide +kernel
theorem dX5_notes_7 : decode cX5_notes 7 = .ok (.putfield 214, 3) := by decide +kernel
theorem dX5_notes_10 : decode cX5_notes 10 = .ok (.aload_n 0, 1) := by decide +kernel
theorem dX5_notes_11 : decode cX5_notes 11 = .ok (.iload_n 3, 1) := by decide +kernel
theorem dX5_notes_12 : decode cX5_notes 12 = .ok (.putfield 217, 3) := by decide +kernel
theorem dX5_notes_15 : decode cX5_notes 15 = .ok (.iconst 1, 1) := by decide +kernel
theorem dX5_notes_16 : decode cX5_notes 16 = .ok (.ireturn, 1) := by decide +kernel
set_option maxRecDepth 20000 in
theorem ggX5_hasFault_X5_reads : GoodIn wsX5_hasFault wsX5_reads := goodIn_r _ [6, 1, 7, 8, 9, 10, 11, 5, 12, 13, 14, 15, 16, 17, 18, 19, 20, 21, 22, 74, 75, 76, 77, 78, 79, 80, 81, 82, 83] (by decide +kernel) (by decide +kernel)
set_option maxRecDepth 20000 in
theorem gX5_hasFault_X5_reads : GoodIn wsX5_hasFault (wsV RX5 220 RX5 yX5_reads wsX5_reads) := goodIn_app (goodIn_of _ (by decide +kernel)) ggX5_hasFault_X5_reads
set_option maxRecDepth 20000 in
theorem ggX5_hasFault_X5_notes : GoodIn wsX5_hasFault wsX5_notes := goodIn_r _ [26, 27, 28, 29, 74, 75, 76, 77, 78, 79, 80, 81, 82, 83] (by decide +kernel) (by decide +kernel)
set_option maxRecDepth 20000 in
theorem gX5_hasFault_X5_notes : GoodIn wsX5_hasFault (wsV RX5 223 RX5 yX5_notes wsX5_notes) := goodIn_app (goodIn_of _ (by decide +kernel)) ggX5_hasFault_X5_notes
set_option maxRecDepth 20000 in
theorem ggX5_hasFault_X5_cornerOutside : GoodIn wsX5_hasFault wsX5_cornerOutside := goodIn_r _ [33, 7, 34, 35, 36, 5, 37, 38, 39, 40, 41, 42, 43, 44, 45, 74, 75, 76, 77, 78, 79, 80, 81, 82, 83] (by decide +kernel) (by decide +kernel)
set_option maxRecDepth 20000 in
theorem gX5_hasFault_X5_cornerOutside : GoodIn wsX5_hasFault (wsV RX5 226 RX5 yX5_cornerOutside wsX5_cornerOutside) := goodIn_app (goodIn_of _ (by decide +kernel)) ggX5_hasFault_X5_cornerOutside
set_option maxRecDepth 20000 in
theorem ggX5_hasFault_X5_badCorner : GoodIn wsX5_hasFault wsX5_badCorner := goodIn_r _ [49, 34, 35, 36, 5, 37, 7, 50, 51, 52, 53, 38, 39, 40, 41, 42, 43, 44, 45, 54, 55, 56, 57, 74, 75, 76, 77, 78, 79, 80, 81, 82, 83] (by decide +kernel) (by decide +kernel)
set_option maxRecDepth 20000 in
theorem gX5_hasFault_X5_badCorner : GoodIn wsX5_hasFault (wsV RX5 229 RX5 yX5_badCorner wsX5_badCorner) := goodIn_app (goodIn_of _ (by decide +kernel)) ggX5_hasFault_X5_badCorner
set_option maxRecDepth 20000 in
theorem ggX5_hasFault_X5_overlapped : GoodIn wsX5_hasFault wsX5_overlapped := goodIn_r _ [61, 7, 62, 63, 64, 5, 65, 66, 67, 68, 69, 34, 35, 36, 37, 70, 71, 72, 73, 50, 51, 52, 53, 38, 39, 40, 41, 42, 43, 44, 45, 74, 75, 76, 77, 78, 79, 80, 81, 82, 83] (by decide +kernel) (by decide +kernel)
set_option maxRecDepth 20000 in
theorem gX5_hasFault_X5_overlapped : GoodIn wsX5_hasFault (wsV RX5 78 RX5 yX5_overlapped wsX5_overlapped) := goodIn_app (goodIn_of _ (by decide +kernel)) ggX5_hasFault_X5_overlapped
theorem dX5_hasFault_0 : decode cX5_hasFault 0 = .ok (.aload_n 0, 1) := by decide +kernel
theorem dX5_hasFault_1 : decode cX5_hasFault 1 = .ok (.invokevirtual 220, 3) := by decide +kernel
theorem dX5_hasFault_4 : decode cX5_hasFault 4 = .ok (.ifCond .ne 14, 3) := by decide +kernel
theorem dX5_hasFault_7 : decode cX5_hasFault 7 = .ok (.aload_n 0, 1) := by decide +kernel
theorem dX5_hasFault_8 : decode cX5_hasFault 8 = .ok (.aload_n 0, 1) := by decide +kernel
theorem dX5_hasFault_9 : decode cX5_hasFault 9 = .ok (.getfield 195, 3) := by decide +kernel
theorem dX5_hasFault_12 : decode cX5_hasFault 12 = .ok (.iconst 1, 1) := by decide +kernel
theorem dX5_hasFault_13 : decode cX5_hasFault 13 = .ok (.iconst 0, 1) := by decide +kernel
theorem dX5_hasFault_14 : decode cX5_hasFault 14 = .ok (.invokevirtual 223, 3) := by decide +kernel
theorem dX5_hasFault_17 : decode cX5_hasFault 17 = .ok (.ireturn, 1) := by decide +kernel
theorem dX5_hasFault_18 : decode cX5_hasFault 18 = .ok (.aload_n 0, 1) := by decide +kernel
theorem dX5_hasFault_19 : decode cX5_hasFault 19 = .ok (.invokevirtual 226, 3) := by decide +kernel
theorem dX5_hasFault_22 : decode cX5_hasFault 22 = .ok (.istore_n 1, 1) := by decide +kernel
theorem dX5_hasFault_23 : decode cX5_hasFault 23 = .ok (.iload_n 1, 1) := by decide +kernel
theorem dX5_hasFault_24 : decode cX5_hasFault 24 = .ok (.iconst (-1), 1) := by decide +kernel
theorem dX5_hasFault_25 : decode cX5_hasFault 25 = .ok (.if_icmp .eq 11, 3) := by decide +kernel
theorem dX5_hasFault_28 : decode cX5_hasFault 28 = .ok (.aload_n 0, 1) := by decide +kernel
theorem dX5_hasFault_29 : decode cX5_hasFault 29 = .ok (.iconst 0, 1) := by decide +kernel
theorem dX5_hasFault_30 : decode cX5_hasFault 30 = .ok (.iconst 2, 1) := by decide +kernel
theorem dX5_hasFault_31 : decode cX5_hasFault 31 = .ok (.iload_n 1, 1) := by decide +kernel
theorem dX5_hasFault_32 : decode cX5_hasFault 32 = .ok (.invokevirtual 223, 3) := by decide +kernel
theorem dX5_hasFault_35 : decode cX5_hasFault 35 = .ok (.ireturn, 1) := by decide +kernel
theorem dX5_hasFault_36 : decode cX5_hasFault 36 = .ok (.aload_n 0, 1) := by decide +kernel
theorem dX5_hasFault_37 : decode cX5_hasFault 37 = .ok (.invokevirtual 229, 3) := by decide +kernel
theorem dX5_hasFault_40 : decode cX5_hasFault 40 = .ok (.istore_n 2, 1) := by decide +kernel
theorem dX5_hasFault_41 : decode cX5_hasFault 41 = .ok (.iload_n 2, 1) := by decide +kernel
theorem dX5_hasFault_42 : decode cX5_hasFault 42 = .ok (.iconst (-1), 1) := by decide +kernel
theorem dX5_hasFault_43 : decode cX5_hasFault 43 = .ok (.if_icmp .eq 11, 3) := by decide +kernel
theorem dX5_hasFault_46 : decode cX5_hasFault 46 = .ok (.aload_n 0, 1) := by decide +kernel
theorem dX5_hasFault_47 : decode cX5_hasFault 47 = .ok (.iconst 0, 1) := by decide +kernel
theorem dX5_hasFault_48 : decode cX5_hasFault 48 = .ok (.iconst 3, 1) := by decide +kernel
theorem dX5_hasFault_49 : decode cX5_hasFault 49 = .ok (.iload_n 2, 1) := by decide +kernel
theorem dX5_hasFault_50 : decode cX5_hasFault 50 = .ok (.invokevirtual 223, 3) := by decide +kernel
theorem dX5_hasFault_53 : decode cX5_hasFault 53 = .ok (.ireturn, 1) := by decide +kernel
theorem dX5_hasFault_54 : decode cX5_hasFault 54 = .ok (.aload_n 0, 1) := by decide +kernel
theorem dX5_hasFault_55 : decode cX5_hasFault 55 = .ok (.bipush 8, 2) := by decide +kernel
theorem dX5_hasFault_57 : decode cX5_hasFault 57 = .ok (.invokevirtual 78, 3) := by decide +kernel
theorem dX5_hasFault_60 : decode cX5_hasFault 60 = .ok (.istore_n 3, 1) := by decide +kernel
theorem dX5_hasFault_61 : decode cX5_hasFault 61 = .ok (.iconst 0, 1) := by decide +kernel
theorem dX5_hasFault_62 : decode cX5_hasFault 62 = .ok (.istore 4, 2) := by decide +kernel
theorem dX5_hasFault_64 : decode cX5_hasFault 64 = .ok (.iload_n 3, 1) := by decide +kernel
theorem dX5_hasFault_65 : decode cX5_hasFault 65 = .ok (.ifCond .eq 18, 3) := by decide +kernel
theorem dX5_hasFault_68 : decode cX5_hasFault 68 = .ok (.iload_n 3, 1) := by decide +kernel
theorem dX5_hasFault_69 : decode cX5_hasFault 69 = .ok (.iload 4, 2) := by decide +kernel
theorem dX5_hasFault_71 : decode cX5_hasFault 71 = .ok (.ishr, 1) := by decide +kernel
theorem dX5_hasFault_72 : decode cX5_hasFault 72 = .ok (.iconst 1, 1) := by decide +kernel
theorem dX5_hasFault_73 : decode cX5_hasFault 73 = .ok (.iand, 1) := by decide +kernel
theorem dX5_hasFault_74 : decode cX5_hasFault 74 = .ok (.ifCond .ne 9, 3) := by decide +kernel
theorem dX5_hasFault_77 : decode cX5_hasFault 77 = .ok (.iinc 4 1, 3) := by decide +kernel
theorem dX5_hasFault_80 : decode cX5_hasFault 80 = .ok (.goto (-16), 3) := by decide +kernel
theorem dX5_hasFault_83 : decode cX5_hasFault 83 = .ok (.iload_n 3, 1) := by decide +kernel
theorem dX5_hasFault_84 : decode cX5_hasFault 84 = .ok (.ifCond .eq 18, 3) := by decide +kernel
theorem dX5_hasFault_87 : decode cX5_hasFault 87 = .ok (.aload_n 0, 1) := by decide +kernel
theorem dX5_hasFault_88 : decode cX5_hasFault 88 = .ok (.iconst 0, 1) := by decide +kernel
theorem dX5_hasFault_89 : decode cX5_hasFault 89 = .ok (.iconst 4, 1) := by decide +kernel
theorem dX5_hasFault_90 : decode cX5_hasFault 90 = .ok (.iload 4, 2) := by decide +kernel
theorem dX5_hasFault_92 : decode cX5_hasFault 92 = .ok (.invokevirtual 223, 3) := by decide +kernel
theorem dX5_hasFault_95 : decode cX5_hasFault 95 = .ok (.ifCond .eq 7, 3) := by decide +kernel
theorem dX5_hasFault_98 : decode cX5_hasFault 98 = .ok (.iconst 1, 1) := by decide +kernel
theorem dX5_hasFault_99 : decode cX5_hasFault 99 = .ok (.goto 4, 3) := by decide +kernel
theorem dX5_hasFault_102 : decode cX5_hasFault 102 = .ok (.iconst 0, 1) := by decide +kernel
theorem dX5_hasFault_103 : decode cX5_hasFault 103 = .ok (.ireturn, 1) := by decide +kernel
set_option maxRecDepth 20000 in
theorem ggX5_fault_X5_in : GoodIn wsX5_fault wsX5_in := goodIn_r _ [10] (by decide +kernel) (by decide +kernel)
set_option maxRecDepth 20000 in
theorem gX5_fault_X5_in : GoodIn wsX5_fault (va_wsS RX5 26 yX5_in wsX5_in) := goodIn_app (goodIn_of _ (by decide +kernel)) ggX5_fault_X5_in
set_option maxRecDepth 20000 in
theorem ggX5_fault_X5_hasFault : GoodIn wsX5_fault wsX5_hasFault := goodIn_r _ [14, 15, 16, 17, 18, 9, 19, 20, 21, 22, 23, 24, 25, 26, 27, 28, 7, 8, 10, 29, 30, 31, 32, 33, 34, 35, 36, 4, 5, 6, 37, 38, 39, 40, 41, 42, 43, 44, 45, 46, 47, 48, 49, 50, 51, 52, 53, 54, 55, 56, 57, 58, 59, 60, 61, 62, 63, 64, 65, 66, 67, 68, 69, 70, 71, 72, 73, 74, 75, 76, 77, 78, 79, 80, 81, 82, 83, 84, 85, 86, 87, 88, 89, 90] (by decide +kernel) (by decide +kernel)
set_option maxRecDepth 20000 in
theorem gX5_fault_X5_hasFault : GoodIn wsX5_fault (wsV RX5 128 RX5 yX5_hasFault wsX5_hasFault) := goodIn_app (goodIn_of _ (by decide +kernel)) ggX5_fault_X5_hasFault
theorem dX5_fault_0 : decode cX5_fault 0 = .ok (.iload_n 1, 1) := by decide +kernel
theorem dX5_fault_1 : decode cX5_fault 1 = .ok (.i2l, 1) := by decide +kernel
theorem dX5_fault_2 : decode cX5_fault 2 = .ok (.lconst 0, 1) := by decide +kernel
theorem dX5_fault_3 : decode cX5_fault 3 = .ok (.ldc2_w 161, 3) := by decide +kernel
theorem dX5_fault_6 : decode cX5_fault 6 = .ok (.invokestatic 26, 3) := by decide +kernel
theorem dX5_fault_9 : decode cX5_fault 9 = .ok (.ifCond .ne 6, 3) := by decide +kernel
theorem dX5_fault_12 : decode cX5_fault 12 = .ok (.ldc 120, 2) := by decide +kernel
theorem dX5_fault_14 : decode cX5_fault 14 = .ok (.ireturn, 1) := by decide +kernel
theorem dX5_fault_15 : decode cX5_fault 15 = .ok (.aload_n 0, 1) := by decide +kernel
theorem dX5_fault_16 : decode cX5_fault 16 = .ok (.invokevirtual 128, 3) := by decide +kernel
theorem dX5_fault_19 : decode cX5_fault 19 = .ok (.ifCond .ne 6, 3) := by decide +kernel
theorem dX5_fault_22 : decode cX5_fault 22 = .ok (.ldc 149, 2) := by decide +kernel
theorem dX5_fault_24 : decode cX5_fault 24 = .ok (.ireturn, 1) := by decide +kernel
theorem dX5_fault_25 : decode cX5_fault 25 = .ok (.iload_n 1, 1) := by decide +kernel
theorem dX5_fault_26 : decode cX5_fault 26 = .ok (.ifCond .ne 10, 3) := by decide +kernel
theorem dX5_fault_29 : decode cX5_fault 29 = .ok (.aload_n 0, 1) := by decide +kernel
theorem dX5_fault_30 : decode cX5_fault 30 = .ok (.getfield 211, 3) := by decide +kernel
theorem dX5_fault_33 : decode cX5_fault 33 = .ok (.goto 19, 3) := by decide +kernel
theorem dX5_fault_36 : decode cX5_fault 36 = .ok (.iload_n 1, 1) := by decide +kernel
theorem dX5_fault_37 : decode cX5_fault 37 = .ok (.iconst 1, 1) := by decide +kernel
theorem dX5_fault_38 : decode cX5_fault 38 = .ok (.if_icmp .ne 10, 3) := by decide +kernel
theorem dX5_fault_41 : decode cX5_fault 41 = .ok (.aload_n 0, 1) := by decide +kernel
theorem dX5_fault_42 : decode cX5_fault 42 = .ok (.getfield 214, 3) := by decide +kernel
theorem dX5_fault_45 : decode cX5_fault 45 = .ok (.goto 7, 3) := by decide +kernel
theorem dX5_fault_48 : decode cX5_fault 48 = .ok (.aload_n 0, 1) := by decide +kernel
theorem dX5_fault_49 : decode cX5_fault 49 = .ok (.getfield 217, 3) := by decide +kernel
theorem dX5_fault_52 : decode cX5_fault 52 = .ok (.ireturn, 1) := by decide +kernel
theorem dJ6_bitCount_0f7a4_0 : decode cJ6_bitCount_0f7a4 0 = .ok (.iload_n 0, 1) := by decide +kernel
theorem dJ6_bitCount_0f7a4_1 : decode cJ6_bitCount_0f7a4 1 = .ok (.iload_n 0, 1) := by decide +kernel
theorem dJ6_bitCount_0f7a4_2 : decode cJ6_bitCount_0f7a4 2 = .ok (.iconst 1, 1) := by decide +kernel
theorem dJ6_bitCount_0f7a4_3 : decode cJ6_bitCount_0f7a4 3 = .ok (.iushr, 1) := by decide +kernel
theorem dJ6_bitCount_0f7a4_4 : decode cJ6_bitCount_0f7a4 4 = .ok (.ldc_w 265, 3) := by decide +kernel
theorem dJ6_bitCount_0f7a4_7 : decode cJ6_bitCount_0f7a4 7 = .ok (.iand, 1) := by decide +kernel
theorem dJ6_bitCount_0f7a4_8 : decode cJ6_bitCount_0f7a4 8 = .ok (.isub, 1) := by decide +kernel
theorem dJ6_bitCount_0f7a4_9 : decode cJ6_bitCount_0f7a4 9 = .ok (.istore_n 0, 1) := by decide +kernel
theorem dJ6_bitCount_0f7a4_10 : decode cJ6_bitCount_0f7a4 10 = .ok (.iload_n 0, 1) := by decide +kernel
theorem dJ6_bitCount_0f7a4_11 : decode cJ6_bitCount_0f7a4 11 = .ok (.ldc_w 266, 3) := by decide +kernel
theorem dJ6_bitCount_0f7a4_14 : decode cJ6_bitCount_0f7a4 14 = .ok (.iand, 1) := by decide +kernel
theorem dJ6_bitCount_0f7a4_15 : decode cJ6_bitCount_0f7a4 15 = .ok (.iload_n 0, 1) := by decide +kernel
theorem dJ6_bitCount_0f7a4_16 : decode cJ6_bitCount_0f7a4 16 = .ok (.iconst 2, 1) := by decide +kernel
theorem dJ6_bitCount_0f7a4_17 : decode cJ6_bitCount_0f7a4 17 = .ok (.iushr, 1) := by decide +kernel
theorem dJ6_bitCount_0f7a4_18 : decode cJ6_bitCount_0f7a4 18 = .ok (.ldc_w 266, 3) := by decide +kernel
theorem dJ6_bitCount_0f7a4_21 : decode cJ6_bitCount_0f7a4 21 = .ok (.iand, 1) := by decide +kernel
theorem dJ6_bitCount_0f7a4_22 : decode cJ6_bitCount_0f7a4 22 = .ok (.iadd, 1) := by decide +kernel
theorem dJ6_bitCount_0f7a4_23 : decode cJ6_bitCount_0f7a4 23 = .ok (.istore_n 0, 1) := by decide +kernel
theorem dJ6_bitCount_0f7a4_24 : decode cJ6_bitCount_0f7a4 24 = .ok (.iload_n 0, 1) := by decide +kernel
theorem dJ6_bitCount_0f7a4_25 : decode cJ6_bitCount_0f7a4 25 = .ok (.iload_n 0, 1) := by decide +kernel
theorem dJ6_bitCount_0f7a4_26 : decode cJ6_bitCount_0f7a4 26 = .ok (.iconst 4, 1) := by decide +kernel
theorem dJ6_bitCount_0f7a4_27 : decode cJ6_bitCount_0f7a4 27 = .ok (.iushr, 1) := by decide +kernel
theorem dJ6_bitCount_0f7a4_28 : decode cJ6_bitCount_0f7a4 28 = .ok (.iadd, 1) := by decide +kernel
theorem dJ6_bitCount_0f7a4_29 : decode cJ6_bitCount_0f7a4 29 = .ok (.ldc_w 267, 3) := by decide +kernel
theorem dJ6_bitCount_0f7a4_32 : decode cJ6_bitCount_0f7a4 32 = .ok (.iand, 1) := by decide +kernel
theorem dJ6_bitCount_0f7a4_33 : decode cJ6_bitCount_0f7a4 33 = .ok (.istore_n 0, 1) := by decide +kernel
theorem dJ6_bitCount_0f7a4_34 : decode cJ6_bitCount_0f7a4 34 = .ok (.iload_n 0, 1) := by decide +kernel
theorem dJ6_bitCount_0f7a4_35 : decode cJ6_bitCount_0f7a4 35 = .ok (.iload_n 0, 1) := by decide +kernel
theorem dJ6_bitCount_0f7a4_36 : decode cJ6_bitCount_0f7a4 36 = .ok (.bipush 8, 2) := by decide +kernel
theorem dJ6_bitCount_0f7a4_38 : decode cJ6_bitCount_0f7a4 38 = .ok (.iushr, 1) := by decide +kernel
theorem dJ6_bitCount_0f7a4_39 : decode cJ6_bitCount_0f7a4 39 = .ok (.iadd, 1) := by decide +kernel
theorem dJ6_bitCount_0f7a4_40 : decode cJ6_bitCount_0f7a4 40 = .ok (.istore_n 0, 1) := by decide +kernel
theorem dJ6_bitCount_0f7a4_41 : decode cJ6_bitCount_0f7a4 41 = .ok (.iload_n 0, 1) := by decide +kernel
theorem dJ6_bitCount_0f7a4_42 : decode cJ6_bitCount_0f7a4 42 = .ok (.iload_n 0, 1) := by decide +kernel
theorem dJ6_bitCount_0f7a4_43 : decode cJ6_bitCount_0f7a4 43 = .ok (.bipush 16, 2) := by decide +kernel
theorem dJ6_bitCount_0f7a4_45 : decode cJ6_bitCount_0f7a4 45 = .ok (.iushr, 1) := by decide +kernel
theorem dJ6_bitCount_0f7a4_46 : decode cJ6_bitCount_0f7a4 46 = .ok (.iadd, 1) := by decide +kernel
theorem dJ6_bitCount_0f7a4_47 : decode cJ6_bitCount_0f7a4 47 = .ok (.istore_n 0, 1) := by decide +kernel
theorem dJ6_bitCount_0f7a4_48 : decode cJ6_bitCount_0f7a4 48 = .ok (.iload_n 0, 1) := by decide +kernel
theorem dJ6_bitCount_0f7a4_49 : decode cJ6_bitCount_0f7a4 49 = .ok (.bipush 63, 2) := by decide +kernel
theorem dJ6_bitCount_0f7a4_51 : decode cJ6_bitCount_0f7a4 51 = .ok (.iand, 1) := by decide +kernel
theorem dJ6_bitCount_0f7a4_52 : decode cJ6_bitCount_0f7a4 52 = .ok (.ireturn, 1) := by decide +kernel
theorem dJ9_max_7cf53_0 : decode cJ9_max_7cf53 0 = .ok (.iload_n 0, 1) := by decide +kernel
theorem dJ9_max_7cf53_1 : decode cJ9_max_7cf53 1 = .ok (.iload_n 1, 1) := by decide +kernel
theorem dJ9_max_7cf53_2 : decode cJ9_max_7cf53 2 = .ok (.if_icmp .lt 7, 3) := by decide +kernel
theorem dJ9_max_7cf53_5 : decode cJ9_max_7cf53 5 = .ok (.iload_n 0, 1) := by decide +kernel
theorem dJ9_max_7cf53_6 : decode cJ9_max_7cf53 6 = .ok (.goto 4, 3) := by decide +kernel
theorem dJ9_max_7cf53_9 : decode cJ9_max_7cf53 9 = .ok (.iload_n 1, 1) := by decide +kernel
theorem dJ9_max_7cf53_10 : decode cJ9_max_7cf53 10 = .ok (.ireturn, 1) := by decide +kernel
theorem dJ9_min_7cf53_0 : decode cJ9_min_7cf53 0 = .ok (.iload_n 0, 1) := by decide +kernel
theorem dJ9_min_7cf53_1 : decode cJ9_min_7cf53 1 = .ok (.iload_n 1, 1) := by decide +kernel
theorem dJ9_min_7cf53_2 : decode cJ9_min_7cf53 2 = .ok (.if_icmp .gt 7, 3) := by decide +kernel
theorem dJ9_min_7cf53_5 : decode cJ9_min_7cf53 5 = .ok (.iload_n 0, 1) := by decide +kernel
theorem dJ9_min_7cf53_6 : decode cJ9_min_7cf53 6 = .ok (.goto 4, 3) := by decide +kernel
theorem dJ9_min_7cf53_9 : decode cJ9_min_7cf53 9 = .ok (.iload_n 1, 1) := by decide +kernel
theorem dJ9_min_7cf53_10 : decode cJ9_min_7cf53 10 = .ok (.ireturn, 1) := by decide +kernel
set_option maxRecDepth 20000 in
theorem ggL_law_X4_init : GoodIn wsL_law wsX4_init := goodIn_r _ [8, 9, 10, 11, 12, 13, 14, 15, 16, 17, 18, 19, 20, 21, 22, 23, 24, 25, 26, 27, 28, 29, 30, 31, 32, 33, 34, 35, 36, 37, 38, 39, 40, 41, 42, 43, 44, 45, 46, 47, 48, 49, 50, 51, 52, 53, 54, 55, 56, 57, 58, 59, 60, 61, 62, 63, 64, 65, 66, 67, 68, 69, 756, 757, 758, 759, 760, 761, 742, 743, 744, 745, 762, 763, 764, 765, 766, 767, 768, 769, 770, 771, 772, 773, 774, 775] (by decide +kernel) (by decide +kernel)
set_option maxRecDepth 20000 in
theorem gL_law_X4_init : GoodIn wsL_law (wsX4_init) := ggL_law_X4_init
set_option maxRecDepth 20000 in
theorem ggL_law_X5_init : GoodIn wsL_law wsX5_init := goodIn_r _ [72, 73, 10, 11, 42, 74, 75, 76, 77, 746, 747, 748, 749, 750, 751, 752, 753, 754, 755] (by decide +kernel) (by decide +kernel)
set_option maxRecDepth 20000 in
theorem gL_law_X5_init : GoodIn wsL_law (wsX5_init) := ggL_law_X5_init
set_option maxRecDepth 20000 in
theorem ggL_law_X4_box : GoodIn wsL_law wsX4_box := goodIn_r _ [81, 82, 15, 83, 20, 84, 85, 86, 87, 2, 88, 89, 90, 91, 14, 92, 35, 93, 94, 95, 96, 30, 33, 97, 98, 99, 32, 100, 101, 102, 103, 104, 45, 105, 106, 107, 108, 109, 110, 111, 112, 43, 113, 114, 115, 116, 117, 118, 119, 120, 121, 122, 123, 124, 125, 126, 127, 44, 128, 129, 130, 131, 132, 133, 134, 19, 135, 54, 53, 136, 137, 138, 139, 51, 52, 140, 141, 142, 143, 36, 37, 144, 145, 146, 147, 148, 149, 150, 151, 742, 743, 744, 745, 756, 757, 758, 759, 760, 761, 773, 774, 775, 762, 763, 764, 765] (by decide +kernel) (by decide +kernel)
set_option maxRecDepth 20000 in
theorem gL_law_X4_box : GoodIn wsL_law (wsV RL 13 RX4 yX4_box wsX4_box) := goodIn_app (goodIn_of _ (by decide +kernel)) ggL_law_X4_box
set_option maxRecDepth 20000 in
theorem ggL_law_X5_box : GoodIn wsL_law wsX5_box := goodIn_r _ [155, 156, 157, 158, 74, 159, 160, 161, 5, 162, 163, 164, 165, 166, 167, 168, 169, 170, 171, 172, 173, 174, 175, 176, 177, 178, 179, 180, 181, 182, 76, 183, 184, 185, 186, 187, 75, 746, 747, 748, 749, 750, 751, 752, 753, 754, 755] (by decide +kernel) (by decide +kernel)
set_option maxRecDepth 20000 in
theorem gL_law_X5_box : GoodIn wsL_law (wsV RL 17 RX5 yX5_box wsX5_box) := goodIn_app (goodIn_of _ (by decide +kernel)) ggL_law_X5_box
set_option maxRecDepth 20000 in
theorem ggL_law_X4_put : GoodIn wsL_law wsX4_put := goodIn_r _ [191, 24, 15, 192, 83, 193, 194, 20, 195, 196, 197, 198, 23, 199, 64, 63, 200, 201, 202, 203, 204, 205, 66, 67, 68, 206, 207, 208, 209, 210, 65, 211, 212, 213, 214, 215, 216, 217, 218, 61, 219, 220, 221, 222, 223, 224, 225, 226, 227, 228, 229, 32, 230, 45, 148, 149, 150, 151, 43, 44, 231, 232, 233, 234, 109, 110, 111, 112, 124, 125, 126, 127, 235, 236, 237, 238, 239, 240, 241, 242, 243, 2, 244, 245, 246, 247, 248, 249, 250, 251, 252, 253, 254, 255, 14, 256, 35, 93, 94, 95, 96, 30, 33, 257, 258, 259, 260, 105, 106, 107, 108, 261, 262, 263, 264, 265, 117, 118, 119, 266, 267, 132, 133, 134, 19, 135, 54, 53, 136, 137, 138, 139, 51, 52, 140, 141, 142, 143, 36, 37, 144, 145, 146, 147, 268, 269, 270, 271, 742, 743, 744, 745, 766, 767, 768, 769, 770, 771, 772, 756, 757, 758, 759, 760, 761, 773, 774, 775, 762, 763, 764, 765] (by decide +kernel) (by decide +kernel)
set_option maxRecDepth 20000 in
theorem gL_law_X4_put : GoodIn wsL_law (wsV RL 18 RX4 yX4_put wsX4_put) := goodIn_app (goodIn_of _ (by decide +kernel)) ggL_law_X4_put
set_option maxRecDepth 20000 in
theorem ggL_law_X5_put : GoodIn wsL_law wsX5_put := goodIn_r _ [275, 159, 74, 276, 277, 278, 279, 5, 280, 281, 282, 283, 284, 285, 286, 287, 288, 289, 290, 77, 291, 292, 160, 161, 162, 293, 294, 295, 296, 297, 298, 299, 300, 301, 302, 303, 304, 305, 306, 307, 171, 172, 173, 174, 308, 309, 310, 311, 312, 313, 314, 315, 316, 317, 318, 319, 320, 321, 322, 323, 324, 325, 326, 327, 328, 329, 330, 331, 332, 333, 334, 335, 336, 337, 338, 339, 340, 341, 342, 343, 179, 180, 181, 182, 76, 344, 345, 346, 347, 183, 184, 185, 186, 187, 75, 746, 747, 748, 749, 750, 751, 752, 753, 754, 755] (by decide +kernel) (by decide +kernel)
set_option maxRecDepth 20000 in
theorem gL_law_X5_put : GoodIn wsL_law (wsV RL 22 RX5 yX5_put wsX5_put) := goodIn_app (goodIn_of _ (by decide +kernel)) ggL_law_X5_put
set_option maxRecDepth 20000 in
theorem ggL_law_X4_remove : GoodIn wsL_law wsX4_remove := goodIn_r _ [351, 15, 82, 20, 193, 352, 353, 354, 14, 355, 35, 132, 133, 134, 19, 135, 54, 53, 136, 137, 138, 139, 51, 52, 140, 141, 142, 143, 36, 37, 93, 94, 95, 96, 30, 33, 144, 145, 146, 32, 147, 45, 109, 110, 111, 112, 43, 124, 125, 126, 127, 44, 148, 149, 150, 151, 356, 357, 358, 359, 742, 743, 744, 745, 756, 757, 758, 759, 760, 761, 762, 763, 764, 765, 773, 774, 775] (by decide +kernel) (by decide +kernel)
set_option maxRecDepth 20000 in
theorem gL_law_X4_remove : GoodIn wsL_law (wsV RL 23 RX4 yX4_remove wsX4_remove) := goodIn_app (goodIn_of _ (by decide +kernel)) ggL_law_X4_remove
set_option maxRecDepth 20000 in
theorem ggL_law_X5_remove : GoodIn wsL_law wsX5_remove := goodIn_r _ [363, 158, 74, 364, 365, 366, 5, 367, 160, 161, 162, 179, 180, 181, 182, 76, 368, 369, 370, 371, 344, 345, 346, 347, 183, 184, 185, 186, 187, 75, 746, 747, 748, 749, 750, 751, 752, 753, 754, 755] (by decide +kernel) (by decide +kernel)
set_option maxRecDepth 20000 in
theorem gL_law_X5_remove : GoodIn wsL_law (wsV RL 27 RX5 yX5_remove wsX5_remove) := goodIn_app (goodIn_of _ (by decide +kernel)) ggL_law_X5_remove
set_option maxRecDepth 20000 in
theorem ggL_law_X4_empty : GoodIn wsL_law wsX4_empty := goodIn_r _ [375, 20, 15, 193, 132, 133, 134, 19, 135, 54, 53, 136, 137, 138, 139, 51, 52, 140, 141, 142, 14, 143, 35, 36, 37, 93, 94, 95, 96, 30, 33, 144, 145, 146, 32, 147, 45, 109, 110, 111, 112, 43, 124, 125, 126, 127, 44, 148, 149, 150, 151, 742, 743, 744, 745, 756, 757, 758, 759, 760, 761, 762, 763, 764, 765, 773, 774, 775] (by decide +kernel) (by decide +kernel)
set_option maxRecDepth 20000 in
theorem gL_law_X4_empty : GoodIn wsL_law (wsV RL 28 RX4 yX4_empty wsX4_empty) := goodIn_app (goodIn_of _ (by decide +kernel)) ggL_law_X4_empty
set_option maxRecDepth 20000 in
theorem ggL_law_X5_empty : GoodIn wsL_law wsX5_empty := goodIn_r _ [379, 74, 179, 180, 181, 5, 182, 76, 183, 184, 185, 186, 187, 75, 746, 747, 748, 749, 750, 751, 752, 753, 754, 755] (by decide +kernel) (by decide +kernel)
set_option maxRecDepth 20000 in
theorem gL_law_X5_empty : GoodIn wsL_law (wsV RL 31 RX5 yX5_empty wsX5_empty) := goodIn_app (goodIn_of _ (by decide +kernel)) ggL_law_X5_empty
set_option maxRecDepth 20000 in
theorem ggL_law_X4_slide : GoodIn wsL_law wsX4_slide := goodIn_r _ [383, 15, 82, 83, 20, 352, 353, 354, 14, 355, 35, 384, 385, 2, 386, 387, 388, 389, 390, 34, 36, 37, 93, 94, 95, 96, 30, 33, 144, 145, 146, 32, 147, 45, 109, 110, 111, 112, 43, 124, 125, 126, 127, 44, 148, 149, 150, 151, 391, 392, 393, 394, 395, 396, 397, 398, 399, 400, 97, 98, 99, 100, 101, 102, 103, 104, 105, 106, 107, 108, 113, 114, 115, 116, 117, 118, 119, 120, 121, 122, 123, 128, 129, 130, 131, 401, 254, 255, 256, 257, 258, 259, 260, 261, 262, 263, 264, 265, 239, 240, 241, 242, 243, 244, 132, 133, 134, 19, 135, 54, 53, 136, 137, 138, 139, 51, 52, 140, 141, 142, 143, 402, 403, 404, 405, 742, 743, 744, 745, 756, 757, 758, 759, 760, 761, 773, 774, 775, 762, 763, 764, 765] (by decide +kernel) (by decide +kernel)
set_option maxRecDepth 20000 in
theorem gL_law_X4_slide : GoodIn wsL_law (wsV RL 32 RX4 yX4_slide wsX4_slide) := goodIn_app (goodIn_of _ (by decide +kernel)) ggL_law_X4_slide
set_option maxRecDepth 20000 in
theorem ggL_law_X5_slide : GoodIn wsL_law wsX5_slide := goodIn_r _ [409, 157, 158, 159, 364, 365, 366, 5, 367, 74, 160, 161, 162, 410, 411, 412, 413, 179, 180, 181, 182, 76, 414, 415, 416, 417, 418, 419, 420, 421, 422, 423, 424, 425, 426, 427, 428, 429, 430, 431, 171, 172, 173, 174, 432, 433, 434, 435, 436, 437, 438, 439, 440, 441, 442, 443, 167, 168, 169, 170, 163, 164, 165, 166, 444, 445, 446, 447, 175, 176, 177, 178, 328, 329, 330, 331, 332, 333, 334, 335, 336, 337, 338, 339, 340, 341, 342, 343, 320, 321, 322, 323, 308, 309, 310, 311, 312, 313, 314, 315, 183, 184, 185, 186, 187, 75, 746, 747, 748, 749, 750, 751, 752, 753, 754, 755] (by decide +kernel) (by decide +kernel)
set_option maxRecDepth 20000 in
theorem gL_law_X5_slide : GoodIn wsL_law (wsV RL 36 RX5 yX5_slide wsX5_slide) := goodIn_app (goodIn_of _ (by decide +kernel)) ggL_law_X5_slide
set_option maxRecDepth 20000 in
theorem ggL_law_X4_turn : GoodIn wsL_law wsX4_turn := goodIn_r _ [451, 15, 82, 83, 20, 352, 353, 354, 14, 355, 35, 452, 453, 454, 455, 34, 36, 37, 93, 94, 95, 96, 30, 33, 144, 145, 146, 32, 147, 45, 109, 110, 111, 112, 43, 124, 125, 126, 127, 44, 148, 149, 150, 151, 456, 457, 458, 459, 101, 102, 103, 104, 105, 106, 107, 108, 120, 121, 122, 123, 128, 129, 130, 131, 117, 118, 119, 97, 98, 99, 100, 113, 114, 115, 116, 401, 254, 255, 256, 257, 258, 259, 260, 261, 262, 263, 264, 265, 239, 240, 241, 242, 243, 2, 244, 132, 133, 134, 19, 135, 54, 53, 136, 137, 138, 139, 51, 52, 140, 141, 142, 143, 460, 461, 462, 463, 742, 743, 744, 745, 756, 757, 758, 759, 760, 761, 773, 774, 775, 762, 763, 764, 765] (by decide +kernel) (by decide +kernel)
set_option maxRecDepth 20000 in
theorem gL_law_X4_turn : GoodIn wsL_law (wsV RL 37 RX4 yX4_turn wsX4_turn) := goodIn_app (goodIn_of _ (by decide +kernel)) ggL_law_X4_turn
set_option maxRecDepth 20000 in
theorem ggL_law_X5_turn : GoodIn wsL_law wsX5_turn := goodIn_r _ [467, 158, 74, 159, 364, 365, 366, 5, 367, 160, 161, 162, 179, 180, 181, 182, 76, 440, 441, 442, 443, 167, 168, 169, 170, 171, 172, 173, 174, 444, 445, 446, 447, 175, 176, 177, 178, 432, 433, 434, 435, 436, 437, 438, 439, 163, 164, 165, 166, 328, 329, 330, 331, 332, 333, 334, 335, 336, 337, 338, 339, 340, 341, 342, 343, 320, 321, 322, 323, 308, 309, 310, 311, 312, 313, 314, 315, 468, 469, 470, 471, 183, 184, 185, 186, 187, 75, 746, 747, 748, 749, 750, 751, 752, 753, 754, 755] (by decide +kernel) (by decide +kernel)
set_option maxRecDepth 20000 in
theorem gL_law_X5_turn : GoodIn wsL_law (wsV RL 40 RX5 yX5_turn wsX5_turn) := goodIn_app (goodIn_of _ (by decide +kernel)) ggL_law_X5_turn
set_option maxRecDepth 20000 in
theorem ggL_law_X4_settle : GoodIn wsL_law wsX4_settle := goodIn_r _ [475, 82, 20, 15, 384, 385, 2, 386, 132, 133, 134, 19, 135, 54, 53, 136, 137, 138, 139, 51, 52, 140, 141, 142, 14, 143, 35, 36, 37, 93, 94, 95, 96, 30, 33, 144, 145, 146, 32, 147, 45, 109, 110, 111, 112, 43, 124, 125, 126, 127, 44, 148, 149, 150, 151, 476, 477, 478, 479, 480, 388, 389, 390, 34, 391, 392, 393, 394, 395, 396, 397, 398, 399, 400, 97, 98, 99, 100, 101, 102, 103, 104, 105, 106, 107, 108, 113, 114, 115, 116, 117, 118, 119, 120, 121, 122, 123, 128, 129, 130, 131, 401, 254, 255, 256, 257, 258, 259, 260, 261, 262, 263, 264, 265, 239, 240, 241, 242, 243, 244, 481, 403, 404, 405, 742, 743, 744, 745, 762, 763, 764, 765, 756, 757, 758, 759, 760, 761, 773, 774, 775] (by decide +kernel) (by decide +kernel)
set_option maxRecDepth 20000 in
theorem gL_law_X4_settle : GoodIn wsL_law (wsV RL 41 RX4 yX4_settle wsX4_settle) := goodIn_app (goodIn_of _ (by decide +kernel)) ggL_law_X4_settle
set_option maxRecDepth 20000 in
theorem ggL_law_X5_settle : GoodIn wsL_law wsX5_settle := goodIn_r _ [485, 158, 410, 411, 5, 412, 413, 160, 161, 162, 179, 180, 181, 182, 76, 74, 486, 487, 488, 489, 414, 415, 416, 417, 418, 419, 420, 421, 422, 423, 424, 425, 426, 427, 428, 429, 430, 431, 171, 172, 173, 174, 432, 433, 434, 435, 436, 437, 438, 439, 440, 441, 442, 443, 167, 168, 169, 170, 163, 164, 165, 166, 444, 445, 446, 447, 175, 176, 177, 178, 328, 329, 330, 331, 332, 333, 334, 335, 336, 337, 338, 339, 340, 341, 342, 343, 320, 321, 322, 323, 308, 309, 310, 311, 312, 313, 314, 315, 183, 184, 185, 186, 187, 75, 746, 747, 748, 749, 750, 751, 752, 753, 754, 755] (by decide +kernel) (by decide +kernel)
set_option maxRecDepth 20000 in
theorem gL_law_X5_settle : GoodIn wsL_law (wsV RL 44 RX5 yX5_settle wsX5_settle) := goodIn_app (goodIn_of _ (by decide +kernel)) ggL_law_X5_settle
set_option maxRecDepth 20000 in
theorem ggL_law_X4_bodyOf : GoodIn wsL_law wsX4_bodyOf := goodIn_r _ [493, 15, 82, 494, 84, 85, 352, 353, 354, 14, 355, 35, 460, 94, 95, 96, 30, 33, 495, 496, 497, 32, 498, 45, 239, 240, 241, 242, 109, 110, 111, 112, 43, 124, 125, 126, 127, 44, 463, 102, 103, 104, 105, 106, 107, 108, 462, 114, 115, 116, 117, 118, 119, 499, 121, 122, 123, 500, 129, 130, 131, 501, 502, 503, 504, 101, 113, 120, 128, 505, 506, 507, 508, 509, 93, 257, 258, 259, 260, 261, 262, 263, 264, 265, 243, 2, 244, 510, 511, 512, 513, 480, 388, 389, 390, 34, 36, 37, 144, 145, 146, 147, 148, 149, 150, 151, 391, 392, 393, 394, 395, 396, 397, 398, 399, 400, 97, 98, 99, 100, 401, 254, 255, 256, 514, 515, 516, 517, 518, 519, 520, 521, 522, 523, 742, 743, 744, 745, 773, 774, 775, 756, 757, 758, 759, 760, 761] (by decide +kernel) (by decide +kernel)
set_option maxRecDepth 20000 in
theorem gL_law_X4_bodyOf : GoodIn wsL_law (wsV RL 45 RX4 yX4_bodyOf wsX4_bodyOf) := goodIn_app (goodIn_of _ (by decide +kernel)) ggL_law_X4_bodyOf
set_option maxRecDepth 20000 in
theorem ggL_law_X5_bodyOf : GoodIn wsL_law wsX5_bodyOf := goodIn_r _ [527, 528, 158, 364, 365, 366, 5, 367, 74, 160, 161, 162, 171, 172, 173, 174, 529, 530, 531, 532, 308, 309, 310, 311, 312, 313, 314, 315, 440, 441, 442, 443, 167, 168, 169, 170, 163, 164, 165, 166, 444, 445, 446, 447, 175, 176, 177, 178, 436, 437, 438, 439, 533, 534, 535, 536, 537, 538, 539, 540, 332, 333, 334, 335, 336, 337, 338, 339, 340, 341, 342, 343, 320, 321, 322, 323, 541, 542, 543, 544, 545, 546, 547, 548, 418, 419, 420, 421, 422, 423, 424, 425, 426, 427, 428, 429, 430, 431, 432, 433, 434, 435, 328, 329, 330, 331, 549, 550, 551, 552, 553, 554, 555, 556, 557, 746, 747, 748, 749, 750, 751, 752, 753, 754, 755] (by decide +kernel) (by decide +kernel)
set_option maxRecDepth 20000 in
theorem gL_law_X5_bodyOf : GoodIn wsL_law (wsV RL 48 RX5 yX5_bodyOf wsX5_bodyOf) := goodIn_app (goodIn_of _ (by decide +kernel)) ggL_law_X5_bodyOf
set_option maxRecDepth 20000 in
theorem ggL_law_X4_parts : GoodIn wsL_law wsX4_parts := goodIn_r _ [561, 15, 82, 352, 353, 354, 14, 355, 35, 460, 94, 95, 96, 30, 33, 562, 563, 564, 32, 565, 45, 261, 262, 263, 264, 265, 117, 118, 107, 119, 239, 240, 241, 242, 109, 110, 111, 112, 43, 124, 125, 126, 127, 44, 243, 2, 244, 566, 567, 568, 569, 570, 742, 743, 744, 745, 756, 757, 758, 759, 760, 761, 773, 774, 775] (by decide +kernel) (by decide +kernel)
set_option maxRecDepth 20000 in
theorem gL_law_X4_parts : GoodIn wsL_law (wsV RL 49 RX4 yX4_parts wsX4_parts) := goodIn_app (goodIn_of _ (by decide +kernel)) ggL_law_X4_parts
set_option maxRecDepth 20000 in
theorem ggL_law_X5_parts : GoodIn wsL_law wsX5_parts := goodIn_r _ [574, 575, 158, 364, 365, 366, 5, 367, 74, 160, 161, 162, 336, 337, 338, 339, 171, 172, 173, 174, 340, 341, 342, 343, 320, 321, 322, 323, 308, 309, 310, 311, 312, 313, 314, 315, 746, 747, 748, 749, 750, 751, 752, 753, 754, 755] (by decide +kernel) (by decide +kernel)
set_option maxRecDepth 20000 in
theorem gL_law_X5_parts : GoodIn wsL_law (wsV RL 52 RX5 yX5_parts wsX5_parts) := goodIn_app (goodIn_of _ (by decide +kernel)) ggL_law_X5_parts
set_option maxRecDepth 20000 in
theorem ggL_law_X4_way : GoodIn wsL_law wsX4_way := goodIn_r _ [579, 15, 82, 84, 85, 352, 353, 354, 14, 355, 35, 384, 385, 2, 386, 387, 388, 389, 390, 34, 36, 37, 93, 94, 95, 96, 30, 33, 144, 145, 146, 32, 147, 45, 109, 110, 111, 112, 43, 124, 125, 126, 127, 44, 148, 149, 150, 151, 391, 392, 393, 394, 395, 396, 397, 398, 399, 400, 97, 98, 99, 100, 101, 102, 103, 104, 105, 106, 107, 108, 113, 114, 115, 116, 117, 118, 119, 120, 121, 122, 123, 128, 129, 130, 131, 401, 254, 255, 256, 257, 258, 259, 260, 261, 262, 263, 264, 265, 239, 240, 241, 242, 243, 244, 580, 581, 582, 583, 584, 585, 742, 743, 744, 745, 756, 757, 758, 759, 760, 761, 773, 774, 775] (by decide +kernel) (by decide +kernel)
set_option maxRecDepth 20000 in
theorem gL_law_X4_way : GoodIn wsL_law (wsV RL 53 RX4 yX4_way wsX4_way) := goodIn_app (goodIn_of _ (by decide +kernel)) ggL_law_X4_way
set_option maxRecDepth 20000 in
theorem ggL_law_X5_way : GoodIn wsL_law wsX5_way := goodIn_r _ [589, 575, 158, 364, 365, 366, 5, 367, 74, 160, 161, 162, 410, 411, 412, 413, 179, 180, 181, 182, 76, 414, 415, 416, 417, 418, 419, 420, 421, 422, 423, 424, 425, 426, 427, 428, 429, 430, 431, 171, 172, 173, 174, 432, 433, 434, 435, 436, 437, 438, 439, 440, 441, 442, 443, 167, 168, 169, 170, 163, 164, 165, 166, 444, 445, 446, 447, 175, 176, 177, 178, 328, 329, 330, 331, 332, 333, 334, 335, 336, 337, 338, 339, 340, 341, 342, 343, 320, 321, 322, 323, 308, 309, 310, 311, 312, 313, 314, 315, 468, 469, 470, 471, 746, 747, 748, 749, 750, 751, 752, 753, 754, 755] (by decide +kernel) (by decide +kernel)
set_option maxRecDepth 20000 in
theorem gL_law_X5_way : GoodIn wsL_law (wsV RL 56 RX5 yX5_way wsX5_way) := goodIn_app (goodIn_of _ (by decide +kernel)) ggL_law_X5_way
set_option maxRecDepth 20000 in
theorem ggL_law_X4_bodies : GoodIn wsL_law wsX4_bodies := goodIn_r _ [593, 15, 82, 514, 515, 516, 14, 517, 35, 480, 388, 389, 390, 34, 36, 37, 93, 94, 95, 96, 30, 33, 144, 145, 146, 32, 147, 45, 109, 110, 111, 112, 43, 124, 125, 126, 127, 44, 148, 149, 150, 151, 391, 2, 392, 393, 394, 395, 396, 397, 398, 399, 400, 97, 98, 99, 100, 101, 102, 103, 104, 105, 106, 107, 108, 113, 114, 115, 116, 117, 118, 119, 120, 121, 122, 123, 128, 129, 130, 131, 401, 254, 255, 256, 257, 258, 259, 260, 261, 262, 263, 264, 265, 239, 240, 241, 242, 243, 244, 594, 595, 596, 597, 598, 506, 507, 508, 509, 599, 600, 601, 602, 603, 502, 503, 504, 604, 605, 606, 607, 266, 267, 742, 743, 744, 745, 756, 757, 758, 759, 760, 761, 773, 774, 775] (by decide +kernel) (by decide +kernel)
set_option maxRecDepth 20000 in
theorem gL_law_X4_bodies : GoodIn wsL_law (wsV RL 57 RX4 yX4_bodies wsX4_bodies) := goodIn_app (goodIn_of _ (by decide +kernel)) ggL_law_X4_bodies
set_option maxRecDepth 20000 in
theorem ggL_law_X5_bodies : GoodIn wsL_law wsX5_bodies := goodIn_r _ [611, 612, 158, 74, 160, 161, 5, 162, 613, 614, 615, 616, 549, 550, 551, 552, 541, 542, 543, 544, 545, 546, 547, 548, 418, 419, 420, 421, 422, 423, 424, 425, 426, 427, 428, 429, 430, 431, 171, 172, 173, 174, 432, 433, 434, 435, 436, 437, 438, 439, 440, 441, 442, 443, 167, 168, 169, 170, 163, 164, 165, 166, 444, 445, 446, 447, 175, 176, 177, 178, 328, 329, 330, 331, 332, 333, 334, 335, 336, 337, 338, 339, 340, 341, 342, 343, 320, 321, 322, 323, 308, 309, 310, 311, 312, 313, 314, 315, 533, 534, 535, 536, 537, 538, 539, 540, 617, 618, 619, 620, 746, 747, 748, 749, 750, 751, 752, 753, 754, 755] (by decide +kernel) (by decide +kernel)
set_option maxRecDepth 20000 in
theorem gL_law_X5_bodies : GoodIn wsL_law (wsV RL 60 RX5 yX5_bodies wsX5_bodies) := goodIn_app (goodIn_of _ (by decide +kernel)) ggL_law_X5_bodies
set_option maxRecDepth 20000 in
theorem ggL_law_X4_group : GoodIn wsL_law wsX4_group := goodIn_r _ [624, 82, 15, 193, 521, 604, 605, 606, 14, 607, 266, 2, 267, 598, 506, 507, 508, 35, 509, 106, 107, 108, 93, 94, 95, 96, 30, 33, 257, 258, 259, 32, 260, 45, 105, 261, 262, 263, 264, 265, 117, 118, 119, 239, 240, 241, 242, 109, 110, 111, 112, 43, 124, 125, 126, 127, 44, 243, 244, 742, 743, 744, 745, 756, 757, 758, 759, 760, 761, 773, 774, 775] (by decide +kernel) (by decide +kernel)
set_option maxRecDepth 20000 in
theorem gL_law_X4_group : GoodIn wsL_law (wsV RL 61 RX4 yX4_group wsX4_group) := goodIn_app (goodIn_of _ (by decide +kernel)) ggL_law_X4_group
set_option maxRecDepth 20000 in
theorem ggL_law_X5_group : GoodIn wsL_law wsX5_group := goodIn_r _ [628, 158, 74, 557, 617, 618, 619, 5, 620, 533, 534, 535, 536, 537, 538, 539, 540, 332, 333, 334, 335, 336, 337, 338, 339, 171, 172, 173, 174, 340, 341, 342, 343, 320, 321, 322, 323, 308, 309, 310, 311, 312, 313, 314, 315, 746, 747, 748, 749, 750, 751, 752, 753, 754, 755] (by decide +kernel) (by decide +kernel)
set_option maxRecDepth 20000 in
theorem gL_law_X5_group : GoodIn wsL_law (wsV RL 64 RX5 yX5_group wsX5_group) := goodIn_app (goodIn_of _ (by decide +kernel)) ggL_law_X5_group
set_option maxRecDepth 20000 in
theorem ggL_law_X4_density : GoodIn wsL_law wsX4_density := goodIn_r _ [632, 15, 84, 85, 633, 634, 635, 14, 636, 35, 93, 94, 95, 96, 30, 33, 637, 496, 497, 32, 498, 45, 239, 240, 241, 242, 109, 110, 111, 112, 43, 124, 125, 126, 127, 44, 638, 639, 2, 640, 641, 742, 743, 744, 745, 756, 757, 758, 759, 760, 761, 773, 774, 775] (by decide +kernel) (by decide +kernel)
set_option maxRecDepth 20000 in
theorem gL_law_X4_density : GoodIn wsL_law (wsV RL 65 RX4 yX4_density wsX4_density) := goodIn_app (goodIn_of _ (by decide +kernel)) ggL_law_X4_density
set_option maxRecDepth 20000 in
theorem ggL_law_X5_density : GoodIn wsL_law wsX5_density := goodIn_r _ [645, 74, 646, 647, 648, 5, 649, 529, 530, 531, 532, 171, 172, 173, 174, 308, 309, 310, 311, 312, 313, 314, 315, 650, 651, 652, 575, 653, 654, 746, 747, 748, 749, 750, 751, 752, 753, 754, 755] (by decide +kernel) (by decide +kernel)
set_option maxRecDepth 20000 in
theorem gL_law_X5_density : GoodIn wsL_law (wsV RL 68 RX5 yX5_density wsX5_density) := goodIn_app (goodIn_of _ (by decide +kernel)) ggL_law_X5_density
set_option maxRecDepth 20000 in
theorem ggL_law_X4_keystone : GoodIn wsL_law wsX4_keystone := goodIn_r _ [658, 82, 521, 15, 193, 16, 384, 385, 2, 386, 659, 141, 142, 14, 143, 35, 36, 37, 93, 94, 95, 96, 30, 33, 144, 145, 146, 32, 147, 45, 109, 110, 111, 112, 43, 124, 125, 126, 127, 44, 148, 149, 150, 151, 356, 357, 358, 359, 476, 477, 478, 479, 480, 388, 389, 390, 34, 391, 392, 393, 394, 395, 396, 397, 398, 399, 400, 97, 98, 99, 100, 101, 102, 103, 104, 105, 106, 107, 108, 113, 114, 115, 116, 117, 118, 119, 120, 121, 122, 123, 128, 129, 130, 131, 401, 254, 255, 256, 257, 258, 259, 260, 261, 262, 263, 264, 265, 239, 240, 241, 242, 243, 244, 481, 403, 404, 405, 742, 743, 744, 745, 756, 757, 758, 759, 760, 761, 773, 774, 775] (by decide +kernel) (by decide +kernel)
set_option maxRecDepth 20000 in
theorem gL_law_X4_keystone : GoodIn wsL_law (wsV RL 69 RX4 yX4_keystone wsX4_keystone) := goodIn_app (goodIn_of _ (by decide +kernel)) ggL_law_X4_keystone
set_option maxRecDepth 20000 in
theorem ggL_law_X5_keystone : GoodIn wsL_law wsX5_keystone := goodIn_r _ [663, 158, 74, 557, 410, 411, 5, 412, 413, 160, 161, 162, 179, 180, 181, 182, 76, 368, 369, 370, 371, 344, 345, 346, 347, 486, 487, 488, 489, 414, 415, 416, 417, 418, 419, 420, 421, 422, 423, 424, 425, 426, 427, 428, 429, 430, 431, 171, 172, 173, 174, 432, 433, 434, 435, 436, 437, 438, 439, 440, 441, 442, 443, 167, 168, 169, 170, 163, 164, 165, 166, 444, 445, 446, 447, 175, 176, 177, 178, 328, 329, 330, 331, 332, 333, 334, 335, 336, 337, 338, 339, 340, 341, 342, 343, 320, 321, 322, 323, 308, 309, 310, 311, 312, 313, 314, 315, 468, 469, 470, 471, 746, 747, 748, 749, 750, 751, 752, 753, 754, 755] (by decide +kernel) (by decide +kernel)
set_option maxRecDepth 20000 in
theorem gL_law_X5_keystone : GoodIn wsL_law (wsV RL 72 RX5 yX5_keystone wsX5_keystone) := goodIn_app (goodIn_of _ (by decide +kernel)) ggL_law_X5_keystone
set_option maxRecDepth 20000 in
theorem ggL_law_X4_count : GoodIn wsL_law wsX4_count := goodIn_r _ [667, 15, 193, 84, 85, 20, 668, 24, 669, 82, 633, 634, 635, 14, 636, 35, 93, 94, 95, 96, 30, 33, 637, 496, 497, 32, 498, 45, 239, 240, 241, 242, 109, 110, 111, 112, 43, 124, 125, 126, 127, 44, 670, 671, 672, 673, 674, 675, 676, 677, 678, 598, 506, 507, 508, 509, 106, 107, 108, 257, 258, 259, 260, 105, 261, 262, 263, 264, 265, 117, 118, 119, 243, 2, 244, 679, 680, 681, 682, 683, 684, 685, 742, 743, 744, 745, 756, 757, 758, 759, 760, 761, 762, 763, 764, 765, 766, 767, 768, 769, 770, 771, 772, 773, 774, 775] (by decide +kernel) (by decide +kernel)
set_option maxRecDepth 20000 in
theorem gL_law_X4_count : GoodIn wsL_law (wsV RL 73 RX4 yX4_count wsX4_count) := goodIn_app (goodIn_of _ (by decide +kernel)) ggL_law_X4_count
set_option maxRecDepth 20000 in
theorem ggL_law_X5_count : GoodIn wsL_law wsX5_count := goodIn_r _ [689, 74, 187, 286, 158, 646, 647, 648, 5, 649, 529, 530, 531, 532, 171, 172, 173, 174, 308, 309, 310, 311, 312, 313, 314, 315, 690, 691, 692, 693, 694, 695, 696, 697, 533, 534, 535, 536, 537, 538, 539, 540, 332, 333, 334, 335, 336, 337, 338, 339, 340, 341, 342, 343, 320, 321, 322, 323, 746, 747, 748, 749, 750, 751, 752, 753, 754, 755] (by decide +kernel) (by decide +kernel)
set_option maxRecDepth 20000 in
theorem gL_law_X5_count : GoodIn wsL_law (wsV RL 76 RX5 yX5_count wsX5_count) := goodIn_app (goodIn_of _ (by decide +kernel)) ggL_law_X5_count
set_option maxRecDepth 20000 in
theorem ggL_law_X4_undo : GoodIn wsL_law wsX4_undo := goodIn_r _ [701, 20, 668, 83, 15, 702, 703, 704, 19, 705, 54, 136, 137, 138, 139, 53, 51, 52, 140, 141, 142, 14, 143, 35, 36, 37, 93, 94, 95, 96, 30, 33, 144, 145, 146, 32, 147, 45, 109, 110, 111, 112, 43, 124, 125, 126, 127, 44, 148, 149, 150, 151, 742, 743, 744, 745, 762, 763, 764, 765, 756, 757, 758, 759, 760, 761, 773, 774, 775] (by decide +kernel) (by decide +kernel)
set_option maxRecDepth 20000 in
theorem gL_law_X4_undo : GoodIn wsL_law (wsV RL 77 RX4 yX4_undo wsX4_undo) := goodIn_app (goodIn_of _ (by decide +kernel)) ggL_law_X4_undo
set_option maxRecDepth 20000 in
theorem ggL_law_X5_undo : GoodIn wsL_law wsX5_undo := goodIn_r _ [709, 187, 159, 74, 75, 746, 747, 748, 749, 750, 751, 752, 753, 754, 755] (by decide +kernel) (by decide +kernel)
set_option maxRecDepth 20000 in
theorem gL_law_X5_undo : GoodIn wsL_law (wsV RL 80 RX5 yX5_undo wsX5_undo) := goodIn_app (goodIn_of _ (by decide +kernel)) ggL_law_X5_undo
set_option maxRecDepth 20000 in
theorem ggL_law_X4_type : GoodIn wsL_law wsX4_type := goodIn_r _ [713, 82, 24, 669, 194, 714, 715, 716, 23, 717, 65, 61, 742, 743, 744, 745, 766, 767, 768, 769, 770, 771, 772] (by decide +kernel) (by decide +kernel)
set_option maxRecDepth 20000 in
theorem gL_law_X4_type : GoodIn wsL_law (wsV RL 81 RX4 yX4_type wsX4_type) := goodIn_app (goodIn_of _ (by decide +kernel)) ggL_law_X4_type
set_option maxRecDepth 20000 in
theorem ggL_law_X5_type : GoodIn wsL_law wsX5_type := goodIn_r _ [721, 722, 723, 158, 286, 276, 77, 160, 161, 5, 162, 746, 747, 748, 749, 750, 751, 752, 753, 754, 755] (by decide +kernel) (by decide +kernel)
set_option maxRecDepth 20000 in
theorem gL_law_X5_type : GoodIn wsL_law (wsV RL 84 RX5 yX5_type wsX5_type) := goodIn_app (goodIn_of _ (by decide +kernel)) ggL_law_X5_type
set_option maxRecDepth 20000 in
theorem ggL_law_X4_clearText : GoodIn wsL_law wsX4_clearText := goodIn_r _ [727, 24, 669, 742, 743, 744, 745, 766, 767, 768, 769, 770, 771, 772] (by decide +kernel) (by decide +kernel)
set_option maxRecDepth 20000 in
theorem gL_law_X4_clearText : GoodIn wsL_law (wsV RL 85 RX4 yX4_clearText wsX4_clearText) := goodIn_app (goodIn_of _ (by decide +kernel)) ggL_law_X4_clearText
set_option maxRecDepth 20000 in
theorem ggL_law_X5_clearText : GoodIn wsL_law wsX5_clearText := goodIn_r _ [731, 286, 746, 747, 748, 749, 750, 751, 752, 753, 754, 755] (by decide +kernel) (by decide +kernel)
set_option maxRecDepth 20000 in
theorem gL_law_X5_clearText : GoodIn wsL_law (wsV RL 88 RX5 yX5_clearText wsX5_clearText) := goodIn_app (goodIn_of _ (by decide +kernel)) ggL_law_X5_clearText
set_option maxRecDepth 20000 in
theorem ggL_law_X4_fault : GoodIn wsL_law wsX4_fault := goodIn_r _ [735, 82, 24, 15, 192, 521, 736, 737, 196, 197, 198, 23, 199, 64, 63, 200, 201, 202, 203, 204, 205, 66, 67, 68, 206, 207, 208, 209, 210, 65, 211, 212, 213, 214, 215, 216, 217, 218, 61, 219, 220, 221, 222, 223, 224, 225, 226, 227, 228, 229, 32, 230, 45, 148, 149, 150, 151, 43, 44, 231, 232, 233, 234, 109, 110, 111, 112, 124, 125, 126, 127, 235, 236, 237, 238, 239, 240, 241, 242, 243, 2, 244, 245, 246, 247, 248, 249, 250, 251, 252, 253, 254, 255, 14, 256, 35, 93, 94, 95, 96, 30, 33, 257, 258, 259, 260, 105, 106, 107, 108, 261, 262, 263, 264, 265, 117, 118, 119, 266, 267, 742, 743, 744, 745, 766, 767, 768, 769, 770, 771, 772, 756, 757, 758, 759, 760, 761, 773, 774, 775] (by decide +kernel) (by decide +kernel)
set_option maxRecDepth 20000 in
theorem gL_law_X4_fault : GoodIn wsL_law (wsV RL 89 RX4 yX4_fault wsX4_fault) := goodIn_app (goodIn_of _ (by decide +kernel)) ggL_law_X4_fault
set_option maxRecDepth 20000 in
theorem ggL_law_X5_fault : GoodIn wsL_law wsX5_fault := goodIn_r _ [741, 575, 158, 557, 301, 302, 303, 160, 161, 5, 162, 277, 278, 279, 280, 281, 282, 283, 284, 285, 74, 286, 287, 288, 289, 290, 77, 291, 292, 293, 294, 295, 296, 297, 298, 299, 300, 304, 305, 306, 307, 171, 172, 173, 174, 308, 309, 310, 311, 312, 313, 314, 315, 316, 317, 318, 319, 320, 321, 322, 323, 324, 325, 326, 327, 328, 329, 330, 331, 332, 333, 334, 335, 336, 337, 338, 339, 340, 341, 342, 343, 746, 747, 748, 749, 750, 751, 752, 753, 754, 755] (by decide +kernel) (by decide +kernel)
set_option maxRecDepth 20000 in
theorem gL_law_X5_fault : GoodIn wsL_law (wsV RL 92 RX5 yX5_fault wsX5_fault) := goodIn_app (goodIn_of _ (by decide +kernel)) ggL_law_X5_fault
theorem dL_law_0 : decode cL_law 0 = .ok (.new 7, 3) := by decide +kernel
theorem dL_law_3 : decode cL_law 3 = .ok (.dup, 1) := by decide +kernel
theorem dL_law_4 : decode cL_law 4 = .ok (.invokespecial 9, 3) := by decide +kernel
theorem dL_law_7 : decode cL_law 7 = .ok (.astore_n 1, 1) := by decide +kernel
theorem dL_law_8 : decode cL_law 8 = .ok (.new 10, 3) := by decide +kernel
theorem dL_law_11 : decode cL_law 11 = .ok (.dup, 1) := by decide +kernel
theorem dL_law_12 : decode cL_law 12 = .ok (.invokespecial 12, 3) := by decide +kernel
theorem dL_law_15 : decode cL_law 15 = .ok (.astore_n 2, 1) := by decide +kernel
theorem dL_law_16 : decode cL_law 16 = .ok (.iconst 0, 1) := by decide +kernel
theorem dL_law_17 : decode cL_law 17 = .ok (.istore_n 3, 1) := by decide +kernel
theorem dL_law_18 : decode cL_law 18 = .ok (.iload_n 3, 1) := by decide +kernel
theorem dL_law_19 : decode cL_law 19 = .ok (.aload_n 0, 1) := by decide +kernel
theorem dL_law_20 : decode cL_law 20 = .ok (.arraylength, 1) := by decide +kernel
theorem dL_law_21 : decode cL_law 21 = .ok (.iconst 4, 1) := by decide +kernel
theorem dL_law_22 : decode cL_law 22 = .ok (.isub, 1) := by decide +kernel
theorem dL_law_23 : decode cL_law 23 = .ok (.if_icmp .gt 584, 3) := by decide +kernel
theorem dL_law_26 : decode cL_law 26 = .ok (.aload_n 0, 1) := by decide +kernel
theorem dL_law_27 : decode cL_law 27 = .ok (.iload_n 3, 1) := by decide +kernel
theorem dL_law_28 : decode cL_law 28 = .ok (.iaload, 1) := by decide +kernel
theorem dL_law_29 : decode cL_law 29 = .ok (.bipush 31, 2) := by decide +kernel
theorem dL_law_31 : decode cL_law 31 = .ok (.iand, 1) := by decide +kernel
theorem dL_law_32 : decode cL_law 32 = .ok (.tableswitch 569 0 18 #[92, 125, 138, 161, 174, 217, 240, 263, 296, 339, 382, 405, 428, 441, 474, 497, 510, 533, 546], 92) := by decide +kernel
theorem dL_law_124 : decode cL_law 124 = .ok (.aload_n 1, 1) := by decide +kernel
theorem dL_law_125 : decode cL_law 125 = .ok (.aload_n 0, 1) := by decide +kernel
theorem dL_law_126 : decode cL_law 126 = .ok (.iload_n 3, 1) := by decide +kernel
theorem dL_law_127 : decode cL_law 127 = .ok (.iconst 1, 1) := by decide +kernel
theorem dL_law_128 : decode cL_law 128 = .ok (.iadd, 1) := by decide +kernel
theorem dL_law_129 : decode cL_law 129 = .ok (.iaload, 1) := by decide +kernel
theorem dL_law_130 : decode cL_law 130 = .ok (.aload_n 0, 1) := by decide +kernel
theorem dL_law_131 : decode cL_law 131 = .ok (.iload_n 3, 1) := by decide +kernel
theorem dL_law_132 : decode cL_law 132 = .ok (.iconst 2, 1) := by decide +kernel
theorem dL_law_133 : decode cL_law 133 = .ok (.iadd, 1) := by decide +kernel
theorem dL_law_134 : decode cL_law 134 = .ok (.iaload, 1) := by decide +kernel
theorem dL_law_135 : decode cL_law 135 = .ok (.invokevirtual 13, 3) := by decide +kernel
theorem dL_law_138 : decode cL_law 138 = .ok (.aload_n 2, 1) := by decide +kernel
theorem dL_law_139 : decode cL_law 139 = .ok (.aload_n 0, 1) := by decide +kernel
theorem dL_law_140 : decode cL_law 140 = .ok (.iload_n 3, 1) := by decide +kernel
theorem dL_law_141 : decode cL_law 141 = .ok (.iconst 1, 1) := by decide +kernel
theorem dL_law_142 : decode cL_law 142 = .ok (.iadd, 1) := by decide +kernel
theorem dL_law_143 : decode cL_law 143 = .ok (.iaload, 1) := by decide +kernel
theorem dL_law_144 : decode cL_law 144 = .ok (.aload_n 0, 1) := by decide +kernel
theorem dL_law_145 : decode cL_law 145 = .ok (.iload_n 3, 1) := by decide +kernel
theorem dL_law_146 : decode cL_law 146 = .ok (.iconst 2, 1) := by decide +kernel
theorem dL_law_147 : decode cL_law 147 = .ok (.iadd, 1) := by decide +kernel
theorem dL_law_148 : decode cL_law 148 = .ok (.iaload, 1) := by decide +kernel
theorem dL_law_149 : decode cL_law 149 = .ok (.invokevirtual 17, 3) := by decide +kernel
theorem dL_law_152 : decode cL_law 152 = .ok (.if_icmp .eq 449, 3) := by decide +kernel
theorem dL_law_155 : decode cL_law 155 = .ok (.iconst 0, 1) := by decide +kernel
theorem dL_law_156 : decode cL_law 156 = .ok (.ireturn, 1) := by decide +kernel
theorem dL_law_157 : decode cL_law 157 = .ok (.aload_n 1, 1) := by decide +kernel
theorem dL_law_158 : decode cL_law 158 = .ok (.invokevirtual 18, 3) := by decide +kernel
theorem dL_law_161 : decode cL_law 161 = .ok (.aload_n 2, 1) := by decide +kernel
theorem dL_law_162 : decode cL_law 162 = .ok (.invokevirtual 22, 3) := by decide +kernel
theorem dL_law_165 : decode cL_law 165 = .ok (.if_icmp .eq 436, 3) := by decide +kernel
theorem dL_law_168 : decode cL_law 168 = .ok (.iconst 0, 1) := by decide +kernel
theorem dL_law_169 : decode cL_law 169 = .ok (.ireturn, 1) := by decide +kernel
theorem dL_law_170 : decode cL_law 170 = .ok (.aload_n 1, 1) := by decide +kernel
theorem dL_law_171 : decode cL_law 171 = .ok (.aload_n 0, 1) := by decide +kernel
theorem dL_law_172 : decode cL_law 172 = .ok (.iload_n 3, 1) := by decide +kernel
theorem dL_law_173 : decode cL_law 173 = .ok (.iconst 1, 1) := by decide +kernel
theorem dL_law_174 : decode cL_law 174 = .ok (.iadd, 1) := by decide +kernel
theorem dL_law_175 : decode cL_law 175 = .ok (.iaload, 1) := by decide +kernel
theorem dL_law_176 : decode cL_law 176 = .ok (.invokevirtual 23, 3) := by decide +kernel
theorem dL_law_179 : decode cL_law 179 = .ok (.aload_n 2, 1) := by decide +kernel
theorem dL_law_180 : decode cL_law 180 = .ok (.aload_n 0, 1) := by decide +kernel
theorem dL_law_181 : decode cL_law 181 = .ok (.iload_n 3, 1) := by decide +kernel
theorem dL_law_182 : decode cL_law 182 = .ok (.iconst 1, 1) := by decide +kernel
theorem dL_law_183 : decode cL_law 183 = .ok (.iadd, 1) := by decide +kernel
theorem dL_law_184 : decode cL_law 184 = .ok (.iaload, 1) := by decide +kernel
theorem dL_law_185 : decode cL_law 185 = .ok (.invokevirtual 27, 3) := by decide +kernel
theorem dL_law_188 : decode cL_law 188 = .ok (.if_icmp .eq 413, 3) := by decide +kernel
theorem dL_law_191 : decode cL_law 191 = .ok (.iconst 0, 1) := by decide +kernel
theorem dL_law_192 : decode cL_law 192 = .ok (.ireturn, 1) := by decide +kernel
theorem dL_law_193 : decode cL_law 193 = .ok (.aload_n 1, 1) := by decide +kernel
theorem dL_law_194 : decode cL_law 194 = .ok (.invokevirtual 28, 3) := by decide +kernel
theorem dL_law_197 : decode cL_law 197 = .ok (.aload_n 2, 1) := by decide +kernel
theorem dL_law_198 : decode cL_law 198 = .ok (.invokevirtual 31, 3) := by decide +kernel
theorem dL_law_201 : decode cL_law 201 = .ok (.if_icmp .eq 400, 3) := by decide +kernel
theorem dL_law_204 : decode cL_law 204 = .ok (.iconst 0, 1) := by decide +kernel
theorem dL_law_205 : decode cL_law 205 = .ok (.ireturn, 1) := by decide +kernel
theorem dL_law_206 : decode cL_law 206 = .ok (.aload_n 1, 1) := by decide +kernel
theorem dL_law_207 : decode cL_law 207 = .ok (.aload_n 0, 1) := by decide +kernel
theorem dL_law_208 : decode cL_law 208 = .ok (.iload_n 3, 1) := by decide +kernel
theorem dL_law_209 : decode cL_law 209 = .ok (.iconst 1, 1) := by decide +kernel
theorem dL_law_210 : decode cL_law 210 = .ok (.iadd, 1) := by decide +kernel
theorem dL_law_211 : decode cL_law 211 = .ok (.iaload, 1) := by decide +kernel
theorem dL_law_212 : decode cL_law 212 = .ok (.aload_n 0, 1) := by decide +kernel
theorem dL_law_213 : decode cL_law 213 = .ok (.iload_n 3, 1) := by decide +kernel
theorem dL_law_214 : decode cL_law 214 = .ok (.iconst 2, 1) := by decide +kernel
theorem dL_law_215 : decode cL_law 215 = .ok (.iadd, 1) := by decide +kernel
theorem dL_law_216 : decode cL_law 216 = .ok (.iaload, 1) := by decide +kernel
theorem dL_law_217 : decode cL_law 217 = .ok (.aload_n 0, 1) := by decide +kernel
theorem dL_law_218 : decode cL_law 218 = .ok (.iload_n 3, 1) := by decide +kernel
theorem dL_law_219 : decode cL_law 219 = .ok (.iconst 3, 1) := by decide +kernel
theorem dL_law_220 : decode cL_law 220 = .ok (.iadd, 1) := by decide +kernel
theorem dL_law_221 : decode cL_law 221 = .ok (.iaload, 1) := by decide +kernel
theorem dL_law_222 : decode cL_law 222 = .ok (.invokevirtual 32, 3) := by decide +kernel
theorem dL_law_225 : decode cL_law 225 = .ok (.aload_n 2, 1) := by decide +kernel
theorem dL_law_226 : decode cL_law 226 = .ok (.aload_n 0, 1) := by decide +kernel
theorem dL_law_227 : decode cL_law 227 = .ok (.iload_n 3, 1) := by decide +kernel
theorem dL_law_228 : decode cL_law 228 = .ok (.iconst 1, 1) := by decide +kernel
theorem dL_law_229 : decode cL_law 229 = .ok (.iadd, 1) := by decide +kernel
theorem dL_law_230 : decode cL_law 230 = .ok (.iaload, 1) := by decide +kernel
theorem dL_law_231 : decode cL_law 231 = .ok (.aload_n 0, 1) := by decide +kernel
theorem dL_law_232 : decode cL_law 232 = .ok (.iload_n 3, 1) := by decide +kernel
theorem dL_law_233 : decode cL_law 233 = .ok (.iconst 2, 1) := by decide +kernel
theorem dL_law_234 : decode cL_law 234 = .ok (.iadd, 1) := by decide +kernel
theorem dL_law_235 : decode cL_law 235 = .ok (.iaload, 1) := by decide +kernel
theorem dL_law_236 : decode cL_law 236 = .ok (.aload_n 0, 1) := by decide +kernel
theorem dL_law_237 : decode cL_law 237 = .ok (.iload_n 3, 1) := by decide +kernel
theorem dL_law_238 : decode cL_law 238 = .ok (.iconst 3, 1) := by decide +kernel
theorem dL_law_239 : decode cL_law 239 = .ok (.iadd, 1) := by decide +kernel
theorem dL_law_240 : decode cL_law 240 = .ok (.iaload, 1) := by decide +kernel
theorem dL_law_241 : decode cL_law 241 = .ok (.invokevirtual 36, 3) := by decide +kernel
theorem dL_law_244 : decode cL_law 244 = .ok (.if_icmp .eq 357, 3) := by decide +kernel
theorem dL_law_247 : decode cL_law 247 = .ok (.iconst 0, 1) := by decide +kernel
theorem dL_law_248 : decode cL_law 248 = .ok (.ireturn, 1) := by decide +kernel
theorem dL_law_249 : decode cL_law 249 = .ok (.aload_n 1, 1) := by decide +kernel
theorem dL_law_250 : decode cL_law 250 = .ok (.aload_n 0, 1) := by decide +kernel
theorem dL_law_251 : decode cL_law 251 = .ok (.iload_n 3, 1) := by decide +kernel
theorem dL_law_252 : decode cL_law 252 = .ok (.iconst 1, 1) := by decide +kernel
theorem dL_law_253 : decode cL_law 253 = .ok (.iadd, 1) := by decide +kernel
theorem dL_law_254 : decode cL_law 254 = .ok (.iaload, 1) := by decide +kernel
theorem dL_law_255 : decode cL_law 255 = .ok (.invokevirtual 37, 3) := by decide +kernel
theorem dL_law_258 : decode cL_law 258 = .ok (.aload_n 2, 1) := by decide +kernel
theorem dL_law_259 : decode cL_law 259 = .ok (.aload_n 0, 1) := by decide +kernel
theorem dL_law_260 : decode cL_law 260 = .ok (.iload_n 3, 1) := by decide +kernel
theorem dL_law_261 : decode cL_law 261 = .ok (.iconst 1, 1) := by decide +kernel
theorem dL_law_262 : decode cL_law 262 = .ok (.iadd, 1) := by decide +kernel
theorem dL_law_263 : decode cL_law 263 = .ok (.iaload, 1) := by decide +kernel
theorem dL_law_264 : decode cL_law 264 = .ok (.invokevirtual 40, 3) := by decide +kernel
theorem dL_law_267 : decode cL_law 267 = .ok (.if_icmp .eq 334, 3) := by decide +kernel
theorem dL_law_270 : decode cL_law 270 = .ok (.iconst 0, 1) := by decide +kernel
theorem dL_law_271 : decode cL_law 271 = .ok (.ireturn, 1) := by decide +kernel
theorem dL_law_272 : decode cL_law 272 = .ok (.aload_n 1, 1) := by decide +kernel
theorem dL_law_273 : decode cL_law 273 = .ok (.aload_n 0, 1) := by decide +kernel
theorem dL_law_274 : decode cL_law 274 = .ok (.iload_n 3, 1) := by decide +kernel
theorem dL_law_275 : decode cL_law 275 = .ok (.iconst 1, 1) := by decide +kernel
