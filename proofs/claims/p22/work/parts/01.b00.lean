theorem dX0_init_0 : decode cX0_init 0 = .ok (.aload_n 0, 1) := by decide +kernel
theorem dX0_init_1 : decode cX0_init 1 = .ok (.invokespecial 3, 3) := by decide +kernel
theorem dX0_init_4 : decode cX0_init 4 = .ok (.aload_n 0, 1) := by decide +kernel
theorem dX0_init_5 : decode cX0_init 5 = .ok (.bipush 6, 2) := by decide +kernel
theorem dX0_init_7 : decode cX0_init 7 = .ok (.newarray .int, 2) := by decide +kernel
theorem dX0_init_9 : decode cX0_init 9 = .ok (.putfield 9, 3) := by decide +kernel
theorem dX0_init_12 : decode cX0_init 12 = .ok (.aload_n 0, 1) := by decide +kernel
theorem dX0_init_13 : decode cX0_init 13 = .ok (.bipush 6, 2) := by decide +kernel
theorem dX0_init_15 : decode cX0_init 15 = .ok (.newarray .int, 2) := by decide +kernel
theorem dX0_init_17 : decode cX0_init 17 = .ok (.putfield 15, 3) := by decide +kernel
theorem dX0_init_20 : decode cX0_init 20 = .ok (.aload_n 0, 1) := by decide +kernel
theorem dX0_init_21 : decode cX0_init 21 = .ok (.iconst 0, 1) := by decide +kernel
theorem dX0_init_22 : decode cX0_init 22 = .ok (.putfield 18, 3) := by decide +kernel
theorem dX0_init_25 : decode cX0_init 25 = .ok (.return_, 1) := by decide +kernel
theorem dX0_x_0 : decode cX0_x 0 = .ok (.iload_n 1, 1) := by decide +kernel
theorem dX0_x_1 : decode cX0_x 1 = .ok (.ifCond .lt 21, 3) := by decide +kernel
theorem dX0_x_4 : decode cX0_x 4 = .ok (.iload_n 1, 1) := by decide +kernel
theorem dX0_x_5 : decode cX0_x 5 = .ok (.aload_n 0, 1) := by decide +kernel
theorem dX0_x_6 : decode cX0_x 6 = .ok (.getfield 9, 3) := by decide +kernel
theorem dX0_x_9 : decode cX0_x 9 = .ok (.arraylength, 1) := by decide +kernel
theorem dX0_x_10 : decode cX0_x 10 = .ok (.if_icmp .ge 12, 3) := by decide +kernel
theorem dX0_x_13 : decode cX0_x 13 = .ok (.aload_n 0, 1) := by decide +kernel
theorem dX0_x_14 : decode cX0_x 14 = .ok (.getfield 9, 3) := by decide +kernel
theorem dX0_x_17 : decode cX0_x 17 = .ok (.iload_n 1, 1) := by decide +kernel
theorem dX0_x_18 : decode cX0_x 18 = .ok (.iaload, 1) := by decide +kernel
theorem dX0_x_19 : decode cX0_x 19 = .ok (.goto 4, 3) := by decide +kernel
theorem dX0_x_22 : decode cX0_x 22 = .ok (.iconst 0, 1) := by decide +kernel
theorem dX0_x_23 : decode cX0_x 23 = .ok (.ireturn, 1) := by decide +kernel
theorem dX0_y_0 : decode cX0_y 0 = .ok (.iload_n 1, 1) := by decide +kernel
theorem dX0_y_1 : decode cX0_y 1 = .ok (.ifCond .lt 21, 3) := by decide +kernel
theorem dX0_y_4 : decode cX0_y 4 = .ok (.iload_n 1, 1) := by decide +kernel
theorem dX0_y_5 : decode cX0_y 5 = .ok (.aload_n 0, 1) := by decide +kernel
theorem dX0_y_6 : decode cX0_y 6 = .ok (.getfield 15, 3) := by decide +kernel
theorem dX0_y_9 : decode cX0_y 9 = .ok (.arraylength, 1) := by decide +kernel
theorem dX0_y_10 : decode cX0_y 10 = .ok (.if_icmp .ge 12, 3) := by decide +kernel
theorem dX0_y_13 : decode cX0_y 13 = .ok (.aload_n 0, 1) := by decide +kernel
theorem dX0_y_14 : decode cX0_y 14 = .ok (.getfield 15, 3) := by decide +kernel
theorem dX0_y_17 : decode cX0_y 17 = .ok (.iload_n 1, 1) := by decide +kernel
theorem dX0_y_18 : decode cX0_y 18 = .ok (.iaload, 1) := by decide +kernel
theorem dX0_y_19 : decode cX0_y 19 = .ok (.goto 4, 3) := by decide +kernel
theorem dX0_y_22 : decode cX0_y 22 = .ok (.iconst 0, 1) := by decide +kernel
theorem dX0_y_23 : decode cX0_y 23 = .ok (.ireturn, 1) := by decide +kernel
theorem dX0_place_0 : decode cX0_place 0 = .ok (.iload_n 1, 1) := by decide +kernel
theorem dX0_place_1 : decode cX0_place 1 = .ok (.ifCond .lt 35, 3) := by decide +kernel
theorem dX0_place_4 : decode cX0_place 4 = .ok (.iload_n 1, 1) := by decide +kernel
theorem dX0_place_5 : decode cX0_place 5 = .ok (.aload_n 0, 1) := by decide +kernel
theorem dX0_place_6 : decode cX0_place 6 = .ok (.getfield 9, 3) := by decide +kernel
theorem dX0_place_9 : decode cX0_place 9 = .ok (.arraylength, 1) := by decide +kernel
theorem dX0_place_10 : decode cX0_place 10 = .ok (.if_icmp .ge 26, 3) := by decide +kernel
theorem dX0_place_13 : decode cX0_place 13 = .ok (.iload_n 1, 1) := by decide +kernel
theorem dX0_place_14 : decode cX0_place 14 = .ok (.aload_n 0, 1) := by decide +kernel
theorem dX0_place_15 : decode cX0_place 15 = .ok (.getfield 15, 3) := by decide +kernel
theorem dX0_place_18 : decode cX0_place 18 = .ok (.arraylength, 1) := by decide +kernel
theorem dX0_place_19 : decode cX0_place 19 = .ok (.if_icmp .ge 17, 3) := by decide +kernel
theorem dX0_place_22 : decode cX0_place 22 = .ok (.aload_n 0, 1) := by decide +kernel
theorem dX0_place_23 : decode cX0_place 23 = .ok (.getfield 9, 3) := by decide +kernel
theorem dX0_place_26 : decode cX0_place 26 = .ok (.iload_n 1, 1) := by decide +kernel
theorem dX0_place_27 : decode cX0_place 27 = .ok (.iload_n 2, 1) := by decide +kernel
theorem dX0_place_28 : decode cX0_place 28 = .ok (.iastore, 1) := by decide +kernel
theorem dX0_place_29 : decode cX0_place 29 = .ok (.aload_n 0, 1) := by decide +kernel
theorem dX0_place_30 : decode cX0_place 30 = .ok (.getfield 15, 3) := by decide +kernel
theorem dX0_place_33 : decode cX0_place 33 = .ok (.iload_n 1, 1) := by decide +kernel
theorem dX0_place_34 : decode cX0_place 34 = .ok (.iload_n 3, 1) := by decide +kernel
theorem dX0_place_35 : decode cX0_place 35 = .ok (.iastore, 1) := by decide +kernel
theorem dX0_place_36 : decode cX0_place 36 = .ok (.return_, 1) := by decide +kernel
set_option maxRecDepth 20000 in
theorem ggX0_addCorner_X0_place : GoodIn wsX0_addCorner wsX0_place := goodIn_r _ [6, 7, 8, 9, 10, 11] (by decide +kernel) (by decide +kernel)
set_option maxRecDepth 20000 in
theorem gX0_addCorner_X0_place : GoodIn wsX0_addCorner (wsV RX0 22 RX0 yX0_place wsX0_place) := goodIn_app (goodIn_of _ (by decide +kernel)) ggX0_addCorner_X0_place
theorem dX0_addCorner_0 : decode cX0_addCorner 0 = .ok (.aload_n 0, 1) := by decide +kernel
theorem dX0_addCorner_1 : decode cX0_addCorner 1 = .ok (.getfield 18, 3) := by decide +kernel
theorem dX0_addCorner_4 : decode cX0_addCorner 4 = .ok (.bipush 6, 2) := by decide +kernel
theorem dX0_addCorner_6 : decode cX0_addCorner 6 = .ok (.if_icmp .ge 23, 3) := by decide +kernel
theorem dX0_addCorner_9 : decode cX0_addCorner 9 = .ok (.aload_n 0, 1) := by decide +kernel
theorem dX0_addCorner_10 : decode cX0_addCorner 10 = .ok (.aload_n 0, 1) := by decide +kernel
theorem dX0_addCorner_11 : decode cX0_addCorner 11 = .ok (.getfield 18, 3) := by decide +kernel
theorem dX0_addCorner_14 : decode cX0_addCorner 14 = .ok (.iload_n 1, 1) := by decide +kernel
theorem dX0_addCorner_15 : decode cX0_addCorner 15 = .ok (.iload_n 2, 1) := by decide +kernel
theorem dX0_addCorner_16 : decode cX0_addCorner 16 = .ok (.invokevirtual 22, 3) := by decide +kernel
theorem dX0_addCorner_19 : decode cX0_addCorner 19 = .ok (.aload_n 0, 1) := by decide +kernel
theorem dX0_addCorner_20 : decode cX0_addCorner 20 = .ok (.dup, 1) := by decide +kernel
theorem dX0_addCorner_21 : decode cX0_addCorner 21 = .ok (.getfield 18, 3) := by decide +kernel
theorem dX0_addCorner_24 : decode cX0_addCorner 24 = .ok (.iconst 1, 1) := by decide +kernel
theorem dX0_addCorner_25 : decode cX0_addCorner 25 = .ok (.iadd, 1) := by decide +kernel
theorem dX0_addCorner_26 : decode cX0_addCorner 26 = .ok (.putfield 18, 3) := by decide +kernel
theorem dX0_addCorner_29 : decode cX0_addCorner 29 = .ok (.return_, 1) := by decide +kernel
set_option maxRecDepth 20000 in
theorem ggX0_copyFrom_X0_x : GoodIn wsX0_copyFrom wsX0_x := goodIn_r _ [6, 7, 17, 18, 19] (by decide +kernel) (by decide +kernel)
set_option maxRecDepth 20000 in
theorem gX0_copyFrom_X0_x : GoodIn wsX0_copyFrom (wsV RX0 26 RX0 yX0_x wsX0_x) := goodIn_app (goodIn_of _ (by decide +kernel)) ggX0_copyFrom_X0_x
set_option maxRecDepth 20000 in
theorem ggX0_copyFrom_X0_y : GoodIn wsX0_copyFrom wsX0_y := goodIn_r _ [11, 12, 17, 18, 19] (by decide +kernel) (by decide +kernel)
set_option maxRecDepth 20000 in
theorem gX0_copyFrom_X0_y : GoodIn wsX0_copyFrom (wsV RX0 30 RX0 yX0_y wsX0_y) := goodIn_app (goodIn_of _ (by decide +kernel)) ggX0_copyFrom_X0_y
set_option maxRecDepth 20000 in
theorem ggX0_copyFrom_X0_place : GoodIn wsX0_copyFrom wsX0_place := goodIn_r _ [16, 7, 12, 17, 18, 19] (by decide +kernel) (by decide +kernel)
set_option maxRecDepth 20000 in
theorem gX0_copyFrom_X0_place : GoodIn wsX0_copyFrom (wsV RX0 22 RX0 yX0_place wsX0_place) := goodIn_app (goodIn_of _ (by decide +kernel)) ggX0_copyFrom_X0_place
theorem dX0_copyFrom_0 : decode cX0_copyFrom 0 = .ok (.aload_n 0, 1) := by decide +kernel
theorem dX0_copyFrom_1 : decode cX0_copyFrom 1 = .ok (.aload_n 1, 1) := by decide +kernel
theorem dX0_copyFrom_2 : decode cX0_copyFrom 2 = .ok (.getfield 18, 3) := by decide +kernel
theorem dX0_copyFrom_5 : decode cX0_copyFrom 5 = .ok (.putfield 18, 3) := by decide +kernel
theorem dX0_copyFrom_8 : decode cX0_copyFrom 8 = .ok (.iconst 0, 1) := by decide +kernel
theorem dX0_copyFrom_9 : decode cX0_copyFrom 9 = .ok (.istore_n 2, 1) := by decide +kernel
theorem dX0_copyFrom_10 : decode cX0_copyFrom 10 = .ok (.iload_n 2, 1) := by decide +kernel
theorem dX0_copyFrom_11 : decode cX0_copyFrom 11 = .ok (.aload_n 0, 1) := by decide +kernel
theorem dX0_copyFrom_12 : decode cX0_copyFrom 12 = .ok (.getfield 18, 3) := by decide +kernel
theorem dX0_copyFrom_15 : decode cX0_copyFrom 15 = .ok (.if_icmp .ge 24, 3) := by decide +kernel
theorem dX0_copyFrom_18 : decode cX0_copyFrom 18 = .ok (.aload_n 0, 1) := by decide +kernel
theorem dX0_copyFrom_19 : decode cX0_copyFrom 19 = .ok (.iload_n 2, 1) := by decide +kernel
theorem dX0_copyFrom_20 : decode cX0_copyFrom 20 = .ok (.aload_n 1, 1) := by decide +kernel
theorem dX0_copyFrom_21 : decode cX0_copyFrom 21 = .ok (.iload_n 2, 1) := by decide +kernel
theorem dX0_copyFrom_22 : decode cX0_copyFrom 22 = .ok (.invokevirtual 26, 3) := by decide +kernel
theorem dX0_copyFrom_25 : decode cX0_copyFrom 25 = .ok (.aload_n 1, 1) := by decide +kernel
theorem dX0_copyFrom_26 : decode cX0_copyFrom 26 = .ok (.iload_n 2, 1) := by decide +kernel
theorem dX0_copyFrom_27 : decode cX0_copyFrom 27 = .ok (.invokevirtual 30, 3) := by decide +kernel
theorem dX0_copyFrom_30 : decode cX0_copyFrom 30 = .ok (.invokevirtual 22, 3) := by decide +kernel
theorem dX0_copyFrom_33 : decode cX0_copyFrom 33 = .ok (.iinc 2 1, 3) := by decide +kernel
theorem dX0_copyFrom_36 : decode cX0_copyFrom 36 = .ok (.goto (-26), 3) := by decide +kernel
theorem dX0_copyFrom_39 : decode cX0_copyFrom 39 = .ok (.return_, 1) := by decide +kernel
set_option maxRecDepth 20000 in
theorem ggX0_move_X0_x : GoodIn wsX0_move wsX0_x := goodIn_r _ [6, 7, 17, 18, 19] (by decide +kernel) (by decide +kernel)
set_option maxRecDepth 20000 in
theorem gX0_move_X0_x : GoodIn wsX0_move (wsV RX0 26 RX0 yX0_x wsX0_x) := goodIn_app (goodIn_of _ (by decide +kernel)) ggX0_move_X0_x
set_option maxRecDepth 20000 in
theorem ggX0_move_X0_y : GoodIn wsX0_move wsX0_y := goodIn_r _ [11, 12, 17, 18, 19] (by decide +kernel) (by decide +kernel)
set_option maxRecDepth 20000 in
theorem gX0_move_X0_y : GoodIn wsX0_move (wsV RX0 30 RX0 yX0_y wsX0_y) := goodIn_app (goodIn_of _ (by decide +kernel)) ggX0_move_X0_y
set_option maxRecDepth 20000 in
theorem ggX0_move_X0_place : GoodIn wsX0_move wsX0_place := goodIn_r _ [16, 7, 12, 17, 18, 19] (by decide +kernel) (by decide +kernel)
set_option maxRecDepth 20000 in
theorem gX0_move_X0_place : GoodIn wsX0_move (wsV RX0 22 RX0 yX0_place wsX0_place) := goodIn_app (goodIn_of _ (by decide +kernel)) ggX0_move_X0_place
theorem dX0_move_0 : decode cX0_move 0 = .ok (.iconst 0, 1) := by decide +kernel
theorem dX0_move_1 : decode cX0_move 1 = .ok (.istore_n 3, 1) := by decide +kernel
theorem dX0_move_2 : decode cX0_move 2 = .ok (.iload_n 3, 1) := by decide +kernel
theorem dX0_move_3 : decode cX0_move 3 = .ok (.aload_n 0, 1) := by decide +kernel
theorem dX0_move_4 : decode cX0_move 4 = .ok (.getfield 18, 3) := by decide +kernel
theorem dX0_move_7 : decode cX0_move 7 = .ok (.if_icmp .ge 28, 3) := by decide +kernel
theorem dX0_move_10 : decode cX0_move 10 = .ok (.aload_n 0, 1) := by decide +kernel
theorem dX0_move_11 : decode cX0_move 11 = .ok (.iload_n 3, 1) := by decide +kernel
theorem dX0_move_12 : decode cX0_move 12 = .ok (.aload_n 0, 1) := by decide +kernel
theorem dX0_move_13 : decode cX0_move 13 = .ok (.iload_n 3, 1) := by decide +kernel
theorem dX0_move_14 : decode cX0_move 14 = .ok (.invokevirtual 26, 3) := by decide +kernel
theorem dX0_move_17 : decode cX0_move 17 = .ok (.iload_n 1, 1) := by decide +kernel
theorem dX0_move_18 : decode cX0_move 18 = .ok (.iadd, 1) := by decide +kernel
theorem dX0_move_19 : decode cX0_move 19 = .ok (.aload_n 0, 1) := by decide +kernel
theorem dX0_move_20 : decode cX0_move 20 = .ok (.iload_n 3, 1) := by decide +kernel
theorem dX0_move_21 : decode cX0_move 21 = .ok (.invokevirtual 30, 3) := by decide +kernel
theorem dX0_move_24 : decode cX0_move 24 = .ok (.iload_n 2, 1) := by decide +kernel
theorem dX0_move_25 : decode cX0_move 25 = .ok (.iadd, 1) := by decide +kernel
theorem dX0_move_26 : decode cX0_move 26 = .ok (.invokevirtual 22, 3) := by decide +kernel
theorem dX0_move_29 : decode cX0_move 29 = .ok (.iinc 3 1, 3) := by decide +kernel
theorem dX0_move_32 : decode cX0_move 32 = .ok (.goto (-30), 3) := by decide +kernel
theorem dX0_move_35 : decode cX0_move 35 = .ok (.return_, 1) := by decide +kernel
theorem dX0_following_0 : decode cX0_following 0 = .ok (.iload_n 1, 1) := by decide +kernel
theorem dX0_following_1 : decode cX0_following 1 = .ok (.iconst 1, 1) := by decide +kernel
theorem dX0_following_2 : decode cX0_following 2 = .ok (.iadd, 1) := by decide +kernel
theorem dX0_following_3 : decode cX0_following 3 = .ok (.aload_n 0, 1) := by decide +kernel
theorem dX0_following_4 : decode cX0_following 4 = .ok (.getfield 18, 3) := by decide +kernel
theorem dX0_following_7 : decode cX0_following 7 = .ok (.if_icmp .ge 9, 3) := by decide +kernel
theorem dX0_following_10 : decode cX0_following 10 = .ok (.iload_n 1, 1) := by decide +kernel
theorem dX0_following_11 : decode cX0_following 11 = .ok (.iconst 1, 1) := by decide +kernel
theorem dX0_following_12 : decode cX0_following 12 = .ok (.iadd, 1) := by decide +kernel
theorem dX0_following_13 : decode cX0_following 13 = .ok (.goto 4, 3) := by decide +kernel
theorem dX0_following_16 : decode cX0_following 16 = .ok (.iconst 0, 1) := by decide +kernel
theorem dX0_following_17 : decode cX0_following 17 = .ok (.ireturn, 1) := by decide +kernel
set_option maxRecDepth 20000 in
theorem ggX0_left_X0_x : GoodIn wsX0_left wsX0_x := goodIn_r _ [10, 11, 12, 13, 14] (by decide +kernel) (by decide +kernel)
set_option maxRecDepth 20000 in
theorem gX0_left_X0_x : GoodIn wsX0_left (wsV RX0 26 RX0 yX0_x wsX0_x) := goodIn_app (goodIn_of _ (by decide +kernel)) ggX0_left_X0_x
theorem dX0_left_0 : decode cX0_left 0 = .ok (.aload_n 0, 1) := by decide +kernel
theorem dX0_left_1 : decode cX0_left 1 = .ok (.iconst 0, 1) := by decide +kernel
theorem dX0_left_2 : decode cX0_left 2 = .ok (.invokevirtual 26, 3) := by decide +kernel
theorem dX0_left_5 : decode cX0_left 5 = .ok (.istore_n 1, 1) := by decide +kernel
theorem dX0_left_6 : decode cX0_left 6 = .ok (.iconst 1, 1) := by decide +kernel
theorem dX0_left_7 : decode cX0_left 7 = .ok (.istore_n 2, 1) := by decide +kernel
theorem dX0_left_8 : decode cX0_left 8 = .ok (.iload_n 2, 1) := by decide +kernel
theorem dX0_left_9 : decode cX0_left 9 = .ok (.aload_n 0, 1) := by decide +kernel
theorem dX0_left_10 : decode cX0_left 10 = .ok (.getfield 18, 3) := by decide +kernel
theorem dX0_left_13 : decode cX0_left 13 = .ok (.if_icmp .ge 19, 3) := by decide +kernel
theorem dX0_left_16 : decode cX0_left 16 = .ok (.iload_n 1, 1) := by decide +kernel
theorem dX0_left_17 : decode cX0_left 17 = .ok (.aload_n 0, 1) := by decide +kernel
theorem dX0_left_18 : decode cX0_left 18 = .ok (.iload_n 2, 1) := by decide +kernel
theorem dX0_left_19 : decode cX0_left 19 = .ok (.invokevirtual 26, 3) := by decide +kernel
theorem dX0_left_22 : decode cX0_left 22 = .ok (.invokestatic 43, 3) := by decide +kernel
theorem dX0_left_25 : decode cX0_left 25 = .ok (.istore_n 1, 1) := by decide +kernel
theorem dX0_left_26 : decode cX0_left 26 = .ok (.iinc 2 1, 3) := by decide +kernel
theorem dX0_left_29 : decode cX0_left 29 = .ok (.goto (-21), 3) := by decide +kernel
theorem dX0_left_32 : decode cX0_left 32 = .ok (.iload_n 1, 1) := by decide +kernel
theorem dX0_left_33 : decode cX0_left 33 = .ok (.ireturn, 1) := by decide +kernel
set_option maxRecDepth 20000 in
theorem ggX0_right_X0_x : GoodIn wsX0_right wsX0_x := goodIn_r _ [10, 11, 12, 13, 14] (by decide +kernel) (by decide +kernel)
set_option maxRecDepth 20000 in
theorem gX0_right_X0_x : GoodIn wsX0_right (wsV RX0 26 RX0 yX0_x wsX0_x) := goodIn_app (goodIn_of _ (by decide +kernel)) ggX0_right_X0_x
theorem dX0_right_0 : decode cX0_right 0 = .ok (.aload_n 0, 1) := by decide +kernel
theorem dX0_right_1 : decode cX0_right 1 = .ok (.iconst 0, 1) := by decide +kernel
theorem dX0_right_2 : decode cX0_right 2 = .ok (.invokevirtual 26, 3) := by decide +kernel
theorem dX0_right_5 : decode cX0_right 5 = .ok (.istore_n 1, 1) := by decide +kernel
theorem dX0_right_6 : decode cX0_right 6 = .ok (.iconst 1, 1) := by decide +kernel
theorem dX0_right_7 : decode cX0_right 7 = .ok (.istore_n 2, 1) := by decide +kernel
theorem dX0_right_8 : decode cX0_right 8 = .ok (.iload_n 2, 1) := by decide +kernel
theorem dX0_right_9 : decode cX0_right 9 = .ok (.aload_n 0, 1) := by decide +kernel
theorem dX0_right_10 : decode cX0_right 10 = .ok (.getfield 18, 3) := by decide +kernel
theorem dX0_right_13 : decode cX0_right 13 = .ok (.if_icmp .ge 19, 3) := by decide +kernel
theorem dX0_right_16 : decode cX0_right 16 = .ok (.iload_n 1, 1) := by decide +kernel
theorem dX0_right_17 : decode cX0_right 17 = .ok (.aload_n 0, 1) := by decide +kernel
theorem dX0_right_18 : decode cX0_right 18 = .ok (.iload_n 2, 1) := by decide +kernel
theorem dX0_right_19 : decode cX0_right 19 = .ok (.invokevirtual 26, 3) := by decide +kernel
theorem dX0_right_22 : decode cX0_right 22 = .ok (.invokestatic 49, 3) := by decide +kernel
theorem dX0_right_25 : decode cX0_right 25 = .ok (.istore_n 1, 1) := by decide +kernel
theorem dX0_right_26 : decode cX0_right 26 = .ok (.iinc 2 1, 3) := by decide +kernel
theorem dX0_right_29 : decode cX0_right 29 = .ok (.goto (-21), 3) := by decide +kernel
theorem dX0_right_32 : decode cX0_right 32 = .ok (.iload_n 1, 1) := by decide +kernel
theorem dX0_right_33 : decode cX0_right 33 = .ok (.ireturn, 1) := by decide +kernel
set_option maxRecDepth 20000 in
theorem ggX0_low_X0_y : GoodIn wsX0_low wsX0_y := goodIn_r _ [10, 11, 12, 13, 14] (by decide +kernel) (by decide +kernel)
set_option maxRecDepth 20000 in
theorem gX0_low_X0_y : GoodIn wsX0_low (wsV RX0 30 RX0 yX0_y wsX0_y) := goodIn_app (goodIn_of _ (by decide +kernel)) ggX0_low_X0_y
theorem dX0_low_0 : decode cX0_low 0 = .ok (.aload_n 0, 1) := by decide +kernel
theorem dX0_low_1 : decode cX0_low 1 = .ok (.iconst 0, 1) := by decide +kernel
theorem dX0_low_2 : decode cX0_low 2 = .ok (.invokevirtual 30, 3) := by decide +kernel
theorem dX0_low_5 : decode cX0_low 5 = .ok (.istore_n 1, 1) := by decide +kernel
theorem dX0_low_6 : decode cX0_low 6 = .ok (.iconst 1, 1) := by decide +kernel
theorem dX0_low_7 : decode cX0_low 7 = .ok (.istore_n 2, 1) := by decide +kernel
theorem dX0_low_8 : decode cX0_low 8 = .ok (.iload_n 2, 1) := by decide +kernel
theorem dX0_low_9 : decode cX0_low 9 = .ok (.aload_n 0, 1) := by decide +kernel
theorem dX0_low_10 : decode cX0_low 10 = .ok (.getfield 18, 3) := by decide +kernel
theorem dX0_low_13 : decode cX0_low 13 = .ok (.if_icmp .ge 19, 3) := by decide +kernel
theorem dX0_low_16 : decode cX0_low 16 = .ok (.iload_n 1, 1) := by decide +kernel
theorem dX0_low_17 : decode cX0_low 17 = .ok (.aload_n 0, 1) := by decide +kernel
theorem dX0_low_18 : decode cX0_low 18 = .ok (.iload_n 2, 1) := by decide +kernel
theorem dX0_low_19 : decode cX0_low 19 = .ok (.invokevirtual 30, 3) := by decide +kernel
theorem dX0_low_22 : decode cX0_low 22 = .ok (.invokestatic 43, 3) := by decide +kernel
theorem dX0_low_25 : decode cX0_low 25 = .ok (.istore_n 1, 1) := by decide +kernel
theorem dX0_low_26 : decode cX0_low 26 = .ok (.iinc 2 1, 3) := by decide +kernel
theorem dX0_low_29 : decode cX0_low 29 = .ok (.goto (-21), 3) := by decide +kernel
theorem dX0_low_32 : decode cX0_low 32 = .ok (.iload_n 1, 1) := by decide +kernel
theorem dX0_low_33 : decode cX0_low 33 = .ok (.ireturn, 1) := by decide +kernel
set_option maxRecDepth 20000 in
theorem ggX0_high_X0_y : GoodIn wsX0_high wsX0_y := goodIn_r _ [10, 11, 12, 13, 14] (by decide +kernel) (by decide +kernel)
set_option maxRecDepth 20000 in
theorem gX0_high_X0_y : GoodIn wsX0_high (wsV RX0 30 RX0 yX0_y wsX0_y) := goodIn_app (goodIn_of _ (by decide +kernel)) ggX0_high_X0_y
theorem dX0_high_0 : decode cX0_high 0 = .ok (.aload_n 0, 1) := by decide +kernel
theorem dX0_high_1 : decode cX0_high 1 = .ok (.iconst 0, 1) := by decide +kernel
theorem dX0_high_2 : decode cX0_high 2 = .ok (.invokevirtual 30, 3) := by decide +kernel
theorem dX0_high_5 : decode cX0_high 5 = .ok (.istore_n 1, 1) := by decide +kernel
theorem dX0_high_6 : decode cX0_high 6 = .ok (.iconst 1, 1) := by decide +kernel
theorem dX0_high_7 : decode cX0_high 7 = .ok (.istore_n 2, 1) := by decide +kernel
theorem dX0_high_8 : decode cX0_high 8 = .ok (.iload_n 2, 1) := by decide +kernel
theorem dX0_high_9 : decode cX0_high 9 = .ok (.aload_n 0, 1) := by decide +kernel
theorem dX0_high_10 : decode cX0_high 10 = .ok (.getfield 18, 3) := by decide +kernel
theorem dX0_high_13 : decode cX0_high 13 = .ok (.if_icmp .ge 19, 3) := by decide +kernel
theorem dX0_high_16 : decode cX0_high 16 = .ok (.iload_n 1, 1) := by decide +kernel
theorem dX0_high_17 : decode cX0_high 17 = .ok (.aload_n 0, 1) := by decide +kernel
theorem dX0_high_18 : decode cX0_high 18 = .ok (.iload_n 2, 1) := by decide +kernel
theorem dX0_high_19 : decode cX0_high 19 = .ok (.invokevirtual 30, 3) := by decide +kernel
theorem dX0_high_22 : decode cX0_high 22 = .ok (.invokestatic 49, 3) := by decide +kernel
theorem dX0_high_25 : decode cX0_high 25 = .ok (.istore_n 1, 1) := by decide +kernel
theorem dX0_high_26 : decode cX0_high 26 = .ok (.iinc 2 1, 3) := by decide +kernel
theorem dX0_high_29 : decode cX0_high 29 = .ok (.goto (-21), 3) := by decide +kernel
theorem dX0_high_32 : decode cX0_high 32 = .ok (.iload_n 1, 1) := by decide +kernel
theorem dX0_high_33 : decode cX0_high 33 = .ok (.ireturn, 1) := by decide +kernel
set_option maxRecDepth 20000 in
theorem ggX0_doubleArea_X0_following : GoodIn wsX0_doubleArea wsX0_following := goodIn_r _ [6, 1, 17, 18, 19] (by decide +kernel) (by decide +kernel)
set_option maxRecDepth 20000 in
theorem gX0_doubleArea_X0_following : GoodIn wsX0_doubleArea (wsV RX0 52 RX0 yX0_following wsX0_following) := goodIn_app (goodIn_of _ (by decide +kernel)) ggX0_doubleArea_X0_following
set_option maxRecDepth 20000 in
theorem ggX0_doubleArea_X0_x : GoodIn wsX0_doubleArea wsX0_x := goodIn_r _ [10, 11, 17, 18, 19] (by decide +kernel) (by decide +kernel)
set_option maxRecDepth 20000 in
theorem gX0_doubleArea_X0_x : GoodIn wsX0_doubleArea (wsV RX0 26 RX0 yX0_x wsX0_x) := goodIn_app (goodIn_of _ (by decide +kernel)) ggX0_doubleArea_X0_x
set_option maxRecDepth 20000 in
theorem ggX0_doubleArea_X0_y : GoodIn wsX0_doubleArea wsX0_y := goodIn_r _ [15, 16, 17, 18, 19] (by decide +kernel) (by decide +kernel)
set_option maxRecDepth 20000 in
theorem gX0_doubleArea_X0_y : GoodIn wsX0_doubleArea (wsV RX0 30 RX0 yX0_y wsX0_y) := goodIn_app (goodIn_of _ (by decide +kernel)) ggX0_doubleArea_X0_y
theorem dX0_doubleArea_0 : decode cX0_doubleArea 0 = .ok (.iconst 0, 1) := by decide +kernel
theorem dX0_doubleArea_1 : decode cX0_doubleArea 1 = .ok (.istore_n 1, 1) := by decide +kernel
theorem dX0_doubleArea_2 : decode cX0_doubleArea 2 = .ok (.iconst 0, 1) := by decide +kernel
theorem dX0_doubleArea_3 : decode cX0_doubleArea 3 = .ok (.istore_n 2, 1) := by decide +kernel
theorem dX0_doubleArea_4 : decode cX0_doubleArea 4 = .ok (.iload_n 2, 1) := by decide +kernel
theorem dX0_doubleArea_5 : decode cX0_doubleArea 5 = .ok (.aload_n 0, 1) := by decide +kernel
theorem dX0_doubleArea_6 : decode cX0_doubleArea 6 = .ok (.getfield 18, 3) := by decide +kernel
theorem dX0_doubleArea_9 : decode cX0_doubleArea 9 = .ok (.if_icmp .ge 41, 3) := by decide +kernel
theorem dX0_doubleArea_12 : decode cX0_doubleArea 12 = .ok (.aload_n 0, 1) := by decide +kernel
theorem dX0_doubleArea_13 : decode cX0_doubleArea 13 = .ok (.iload_n 2, 1) := by decide +kernel
theorem dX0_doubleArea_14 : decode cX0_doubleArea 14 = .ok (.invokevirtual 52, 3) := by decide +kernel
theorem dX0_doubleArea_17 : decode cX0_doubleArea 17 = .ok (.istore_n 3, 1) := by decide +kernel
theorem dX0_doubleArea_18 : decode cX0_doubleArea 18 = .ok (.iload_n 1, 1) := by decide +kernel
theorem dX0_doubleArea_19 : decode cX0_doubleArea 19 = .ok (.aload_n 0, 1) := by decide +kernel
theorem dX0_doubleArea_20 : decode cX0_doubleArea 20 = .ok (.iload_n 2, 1) := by decide +kernel
theorem dX0_doubleArea_21 : decode cX0_doubleArea 21 = .ok (.invokevirtual 26, 3) := by decide +kernel
theorem dX0_doubleArea_24 : decode cX0_doubleArea 24 = .ok (.aload_n 0, 1) := by decide +kernel
theorem dX0_doubleArea_25 : decode cX0_doubleArea 25 = .ok (.iload_n 3, 1) := by decide +kernel
theorem dX0_doubleArea_26 : decode cX0_doubleArea 26 = .ok (.invokevirtual 30, 3) := by decide +kernel
theorem dX0_doubleArea_29 : decode cX0_doubleArea 29 = .ok (.imul, 1) := by decide +kernel
theorem dX0_doubleArea_30 : decode cX0_doubleArea 30 = .ok (.aload_n 0, 1) := by decide +kernel
theorem dX0_doubleArea_31 : decode cX0_doubleArea 31 = .ok (.iload_n 3, 1) := by decide +kernel
theorem dX0_doubleArea_32 : decode cX0_doubleArea 32 = .ok (.invokevirtual 26, 3) := by decide +kernel
theorem dX0_doubleArea_35 : decode cX0_doubleArea 35 = .ok (.aload_n 0, 1) := by decide +kernel
theorem dX0_doubleArea_36 : decode cX0_doubleArea 36 = .ok (.iload_n 2, 1) := by decide +kernel
theorem dX0_doubleArea_37 : decode cX0_doubleArea 37 = .ok (.invokevirtual 30, 3) := by decide +kernel
theorem dX0_doubleArea_40 : decode cX0_doubleArea 40 = .ok (.imul, 1) := by decide +kernel
theorem dX0_doubleArea_41 : decode cX0_doubleArea 41 = .ok (.isub, 1) := by decide +kernel
theorem dX0_doubleArea_42 : decode cX0_doubleArea 42 = .ok (.iadd, 1) := by decide +kernel
theorem dX0_doubleArea_43 : decode cX0_doubleArea 43 = .ok (.istore_n 1, 1) := by decide +kernel
theorem dX0_doubleArea_44 : decode cX0_doubleArea 44 = .ok (.iinc 2 1, 3) := by decide +kernel
theorem dX0_doubleArea_47 : decode cX0_doubleArea 47 = .ok (.goto (-43), 3) := by decide +kernel
theorem dX0_doubleArea_50 : decode cX0_doubleArea 50 = .ok (.iload_n 1, 1) := by decide +kernel
theorem dX0_doubleArea_51 : decode cX0_doubleArea 51 = .ok (.ireturn, 1) := by decide +kernel
set_option maxRecDepth 20000 in
theorem ggX0_wallsTouched_X0_left : GoodIn wsX0_wallsTouched wsX0_left := goodIn_r _ [5, 6, 7, 8, 9, 10, 11, 12, 13, 4, 14, 15, 36, 37, 38] (by decide +kernel) (by decide +kernel)
set_option maxRecDepth 20000 in
theorem gX0_wallsTouched_X0_left : GoodIn wsX0_wallsTouched (wsV RX0 33 RX0 yX0_left wsX0_left) := goodIn_app (goodIn_of _ (by decide +kernel)) ggX0_wallsTouched_X0_left
set_option maxRecDepth 20000 in
theorem ggX0_wallsTouched_X0_right : GoodIn wsX0_wallsTouched wsX0_right := goodIn_r _ [19, 6, 20, 21, 9, 22, 11, 12, 13, 4, 14, 15, 36, 37, 38] (by decide +kernel) (by decide +kernel)
set_option maxRecDepth 20000 in
theorem gX0_wallsTouched_X0_right : GoodIn wsX0_wallsTouched (wsV RX0 55 RX0 yX0_right wsX0_right) := goodIn_app (goodIn_of _ (by decide +kernel)) ggX0_wallsTouched_X0_right
set_option maxRecDepth 20000 in
theorem ggX0_wallsTouched_X0_low : GoodIn wsX0_wallsTouched wsX0_low := goodIn_r _ [26, 6, 7, 8, 9, 10, 27, 28, 29, 4, 30, 31, 36, 37, 38] (by decide +kernel) (by decide +kernel)
set_option maxRecDepth 20000 in
theorem gX0_wallsTouched_X0_low : GoodIn wsX0_wallsTouched (wsV RX0 37 RX0 yX0_low wsX0_low) := goodIn_app (goodIn_of _ (by decide +kernel)) ggX0_wallsTouched_X0_low
set_option maxRecDepth 20000 in
theorem ggX0_wallsTouched_X0_high : GoodIn wsX0_wallsTouched wsX0_high := goodIn_r _ [35, 6, 20, 21, 9, 22, 27, 28, 29, 4, 30, 31, 36, 37, 38] (by decide +kernel) (by decide +kernel)
set_option maxRecDepth 20000 in
theorem gX0_wallsTouched_X0_high : GoodIn wsX0_wallsTouched (wsV RX0 40 RX0 yX0_high wsX0_high) := goodIn_app (goodIn_of _ (by decide +kernel)) ggX0_wallsTouched_X0_high
theorem dX0_wallsTouched_0 : decode cX0_wallsTouched 0 = .ok (.aload_n 0, 1) := by decide +kernel
theorem dX0_wallsTouched_1 : decode cX0_wallsTouched 1 = .ok (.invokevirtual 33, 3) := by decide +kernel
theorem dX0_wallsTouched_4 : decode cX0_wallsTouched 4 = .ok (.ifCond .ne 7, 3) := by decide +kernel
theorem dX0_wallsTouched_7 : decode cX0_wallsTouched 7 = .ok (.iconst 1, 1) := by decide +kernel
theorem dX0_wallsTouched_8 : decode cX0_wallsTouched 8 = .ok (.goto 4, 3) := by decide +kernel
theorem dX0_wallsTouched_11 : decode cX0_wallsTouched 11 = .ok (.iconst 0, 1) := by decide +kernel
theorem dX0_wallsTouched_12 : decode cX0_wallsTouched 12 = .ok (.istore_n 3, 1) := by decide +kernel
theorem dX0_wallsTouched_13 : decode cX0_wallsTouched 13 = .ok (.iload_n 3, 1) := by decide +kernel
theorem dX0_wallsTouched_14 : decode cX0_wallsTouched 14 = .ok (.aload_n 0, 1) := by decide +kernel
theorem dX0_wallsTouched_15 : decode cX0_wallsTouched 15 = .ok (.invokevirtual 55, 3) := by decide +kernel
theorem dX0_wallsTouched_18 : decode cX0_wallsTouched 18 = .ok (.iload_n 1, 1) := by decide +kernel
theorem dX0_wallsTouched_19 : decode cX0_wallsTouched 19 = .ok (.if_icmp .ne 7, 3) := by decide +kernel
theorem dX0_wallsTouched_22 : decode cX0_wallsTouched 22 = .ok (.iconst 2, 1) := by decide +kernel
theorem dX0_wallsTouched_23 : decode cX0_wallsTouched 23 = .ok (.goto 4, 3) := by decide +kernel
theorem dX0_wallsTouched_26 : decode cX0_wallsTouched 26 = .ok (.iconst 0, 1) := by decide +kernel
theorem dX0_wallsTouched_27 : decode cX0_wallsTouched 27 = .ok (.ior, 1) := by decide +kernel
theorem dX0_wallsTouched_28 : decode cX0_wallsTouched 28 = .ok (.istore_n 3, 1) := by decide +kernel
theorem dX0_wallsTouched_29 : decode cX0_wallsTouched 29 = .ok (.iload_n 3, 1) := by decide +kernel
theorem dX0_wallsTouched_30 : decode cX0_wallsTouched 30 = .ok (.aload_n 0, 1) := by decide +kernel
theorem dX0_wallsTouched_31 : decode cX0_wallsTouched 31 = .ok (.invokevirtual 37, 3) := by decide +kernel
theorem dX0_wallsTouched_34 : decode cX0_wallsTouched 34 = .ok (.ifCond .ne 7, 3) := by decide +kernel
theorem dX0_wallsTouched_37 : decode cX0_wallsTouched 37 = .ok (.iconst 4, 1) := by decide +kernel
theorem dX0_wallsTouched_38 : decode cX0_wallsTouched 38 = .ok (.goto 4, 3) := by decide +kernel
theorem dX0_wallsTouched_41 : decode cX0_wallsTouched 41 = .ok (.iconst 0, 1) := by decide +kernel
theorem dX0_wallsTouched_42 : decode cX0_wallsTouched 42 = .ok (.ior, 1) := by decide +kernel
theorem dX0_wallsTouched_43 : decode cX0_wallsTouched 43 = .ok (.istore_n 3, 1) := by decide +kernel
theorem dX0_wallsTouched_44 : decode cX0_wallsTouched 44 = .ok (.iload_n 3, 1) := by decide +kernel
theorem dX0_wallsTouched_45 : decode cX0_wallsTouched 45 = .ok (.aload_n 0, 1) := by decide +kernel
theorem dX0_wallsTouched_46 : decode cX0_wallsTouched 46 = .ok (.invokevirtual 40, 3) := by decide +kernel
theorem dX0_wallsTouched_49 : decode cX0_wallsTouched 49 = .ok (.iload_n 2, 1) := by decide +kernel
theorem dX0_wallsTouched_50 : decode cX0_wallsTouched 50 = .ok (.if_icmp .ne 8, 3) := by decide +kernel
theorem dX0_wallsTouched_53 : decode cX0_wallsTouched 53 = .ok (.bipush 8, 2) := by decide +kernel
theorem dX0_wallsTouched_55 : decode cX0_wallsTouched 55 = .ok (.goto 4, 3) := by decide +kernel
theorem dX0_wallsTouched_58 : decode cX0_wallsTouched 58 = .ok (.iconst 0, 1) := by decide +kernel
theorem dX0_wallsTouched_59 : decode cX0_wallsTouched 59 = .ok (.ior, 1) := by decide +kernel
theorem dX0_wallsTouched_60 : decode cX0_wallsTouched 60 = .ok (.istore_n 3, 1) := by decide +kernel
theorem dX0_wallsTouched_61 : decode cX0_wallsTouched 61 = .ok (.iload_n 3, 1) := by decide +kernel
theorem dX0_wallsTouched_62 : decode cX0_wallsTouched 62 = .ok (.ireturn, 1) := by decide +kernel
set_option maxRecDepth 20000 in
theorem ggX0_wallsBeyond_X0_left : GoodIn wsX0_wallsBeyond wsX0_left := goodIn_r _ [5, 6, 7, 8, 9, 10, 11, 12, 13, 4, 14, 15, 36, 37, 38] (by decide +kernel) (by decide +kernel)
set_option maxRecDepth 20000 in
theorem gX0_wallsBeyond_X0_left : GoodIn wsX0_wallsBeyond (wsV RX0 33 RX0 yX0_left wsX0_left) := goodIn_app (goodIn_of _ (by decide +kernel)) ggX0_wallsBeyond_X0_left
set_option maxRecDepth 20000 in
theorem ggX0_wallsBeyond_X0_right : GoodIn wsX0_wallsBeyond wsX0_right := goodIn_r _ [19, 6, 20, 21, 9, 22, 11, 12, 13, 4, 14, 15, 36, 37, 38] (by decide +kernel) (by decide +kernel)
set_option maxRecDepth 20000 in
theorem gX0_wallsBeyond_X0_right : GoodIn wsX0_wallsBeyond (wsV RX0 55 RX0 yX0_right wsX0_right) := goodIn_app (goodIn_of _ (by decide +kernel)) ggX0_wallsBeyond_X0_right
set_option maxRecDepth 20000 in
theorem ggX0_wallsBeyond_X0_low : GoodIn wsX0_wallsBeyond wsX0_low := goodIn_r _ [26, 6, 7, 8, 9, 10, 27, 28, 29, 4, 30, 31, 36, 37, 38] (by decide +kernel) (by decide +kernel)
set_option maxRecDepth 20000 in
theorem gX0_wallsBeyond_X0_low : GoodIn wsX0_wallsBeyond (wsV RX0 37 RX0 yX0_low wsX0_low) := goodIn_app (goodIn_of _ (by decide +kernel)) ggX0_wallsBeyond_X0_low
set_option maxRecDepth 20000 in
theorem ggX0_wallsBeyond_X0_high : GoodIn wsX0_wallsBeyond wsX0_high := goodIn_r _ [35, 6, 20, 21, 9, 22, 27, 28, 29, 4, 30, 31, 36, 37, 38] (by decide +kernel) (by decide +kernel)
set_option maxRecDepth 20000 in
theorem gX0_wallsBeyond_X0_high : GoodIn wsX0_wallsBeyond (wsV RX0 40 RX0 yX0_high wsX0_high) := goodIn_app (goodIn_of _ (by decide +kernel)) ggX0_wallsBeyond_X0_high
theorem dX0_wallsBeyond_0 : decode cX0_wallsBeyond 0 = .ok (.aload_n 0, 1) := by decide +kernel
theorem dX0_wallsBeyond_1 : decode cX0_wallsBeyond 1 = .ok (.invokevirtual 33, 3) := by decide +kernel
theorem dX0_wallsBeyond_4 : decode cX0_wallsBeyond 4 = .ok (.ifCond .ge 7, 3) := by decide +kernel
theorem dX0_wallsBeyond_7 : decode cX0_wallsBeyond 7 = .ok (.iconst 1, 1) := by decide +kernel
theorem dX0_wallsBeyond_8 : decode cX0_wallsBeyond 8 = .ok (.goto 4, 3) := by decide +kernel
theorem dX0_wallsBeyond_11 : decode cX0_wallsBeyond 11 = .ok (.iconst 0, 1) := by decide +kernel
theorem dX0_wallsBeyond_12 : decode cX0_wallsBeyond 12 = .ok (.istore_n 3, 1) := by decide +kernel
theorem dX0_wallsBeyond_13 : decode cX0_wallsBeyond 13 = .ok (.iload_n 3, 1) := by decide +kernel
theorem dX0_wallsBeyond_14 : decode cX0_wallsBeyond 14 = .ok (.aload_n 0, 1) := by decide +kernel
theorem dX0_wallsBeyond_15 : decode cX0_wallsBeyond 15 = .ok (.invokevirtual 55, 3) := by decide +kernel
theorem dX0_wallsBeyond_18 : decode cX0_wallsBeyond 18 = .ok (.iload_n 1, 1) := by decide +kernel
theorem dX0_wallsBeyond_19 : decode cX0_wallsBeyond 19 = .ok (.if_icmp .le 7, 3) := by decide +kernel
theorem dX0_wallsBeyond_22 : decode cX0_wallsBeyond 22 = .ok (.iconst 2, 1) := by decide +kernel
theorem dX0_wallsBeyond_23 : decode cX0_wallsBeyond 23 = .ok (.goto 4, 3) := by decide +kernel
theorem dX0_wallsBeyond_26 : decode cX0_wallsBeyond 26 = .ok (.iconst 0, 1) := by decide +kernel
theorem dX0_wallsBeyond_27 : decode cX0_wallsBeyond 27 = .ok (.ior, 1) := by decide +kernel
theorem dX0_wallsBeyond_28 : decode cX0_wallsBeyond 28 = .ok (.istore_n 3, 1) := by decide +kernel
theorem dX0_wallsBeyond_29 : decode cX0_wallsBeyond 29 = .ok (.iload_n 3, 1) := by decide +kernel
theorem dX0_wallsBeyond_30 : decode cX0_wallsBeyond 30 = .ok (.aload_n 0, 1) := by decide +kernel
theorem dX0_wallsBeyond_31 : decode cX0_wallsBeyond 31 = .ok (.invokevirtual 37, 3) := by decide +kernel
theorem dX0_wallsBeyond_34 : decode cX0_wallsBeyond 34 = .ok (.ifCond .ge 7, 3) := by decide +kernel
theorem dX0_wallsBeyond_37 : decode cX0_wallsBeyond 37 = .ok (.iconst 4, 1) := by decide +kernel
theorem dX0_wallsBeyond_38 : decode cX0_wallsBeyond 38 = .ok (.goto 4, 3) := by decide +kernel
theorem dX0_wallsBeyond_41 : decode cX0_wallsBeyond 41 = .ok (.iconst 0, 1) := by decide +kernel
theorem dX0_wallsBeyond_42 : decode cX0_wallsBeyond 42 = .ok (.ior, 1) := by decide +kernel
theorem dX0_wallsBeyond_43 : decode cX0_wallsBeyond 43 = .ok (.istore_n 3, 1) := by decide +kernel
theorem dX0_wallsBeyond_44 : decode cX0_wallsBeyond 44 = .ok (.iload_n 3, 1) := by decide +kernel
theorem dX0_wallsBeyond_45 : decode cX0_wallsBeyond 45 = .ok (.aload_n 0, 1) := by decide +kernel
theorem dX0_wallsBeyond_46 : decode cX0_wallsBeyond 46 = .ok (.invokevirtual 40, 3) := by decide +kernel
theorem dX0_wallsBeyond_49 : decode cX0_wallsBeyond 49 = .ok (.iload_n 2, 1) := by decide +kernel
theorem dX0_wallsBeyond_50 : decode cX0_wallsBeyond 50 = .ok (.if_icmp .le 8, 3) := by decide +kernel
theorem dX0_wallsBeyond_53 : decode cX0_wallsBeyond 53 = .ok (.bipush 8, 2) := by decide +kernel
theorem dX0_wallsBeyond_55 : decode cX0_wallsBeyond 55 = .ok (.goto 4, 3) := by decide +kernel
theorem dX0_wallsBeyond_58 : decode cX0_wallsBeyond 58 = .ok (.iconst 0, 1) := by decide +kernel
theorem dX0_wallsBeyond_59 : decode cX0_wallsBeyond 59 = .ok (.ior, 1) := by decide +kernel
theorem dX0_wallsBeyond_60 : decode cX0_wallsBeyond 60 = .ok (.istore_n 3, 1) := by decide +kernel
theorem dX0_wallsBeyond_61 : decode cX0_wallsBeyond 61 = .ok (.iload_n 3, 1) := by decide +kernel
theorem dX0_wallsBeyond_62 : decode cX0_wallsBeyond 62 = .ok (.ireturn, 1) := by decide +kernel
set_option maxRecDepth 20000 in
theorem ggX0_reach_X0_following : GoodIn wsX0_reach wsX0_following := goodIn_r _ [11, 2, 25, 26, 27] (by decide +kernel) (by decide +kernel)
set_option maxRecDepth 20000 in
theorem gX0_reach_X0_following : GoodIn wsX0_reach (wsV RX0 52 RX0 yX0_following wsX0_following) := goodIn_app (goodIn_of _ (by decide +kernel)) ggX0_reach_X0_following
set_option maxRecDepth 20000 in
theorem ggX0_reach_X0_x : GoodIn wsX0_reach wsX0_x := goodIn_r _ [15, 16, 25, 26, 27] (by decide +kernel) (by decide +kernel)
set_option maxRecDepth 20000 in
theorem gX0_reach_X0_x : GoodIn wsX0_reach (wsV RX0 26 RX0 yX0_x wsX0_x) := goodIn_app (goodIn_of _ (by decide +kernel)) ggX0_reach_X0_x
set_option maxRecDepth 20000 in
theorem ggX0_reach_X0_y : GoodIn wsX0_reach wsX0_y := goodIn_r _ [20, 21, 25, 26, 27] (by decide +kernel) (by decide +kernel)
set_option maxRecDepth 20000 in
theorem gX0_reach_X0_y : GoodIn wsX0_reach (wsV RX0 30 RX0 yX0_y wsX0_y) := goodIn_app (goodIn_of _ (by decide +kernel)) ggX0_reach_X0_y
set_option maxRecDepth 20000 in
theorem ggX0_reach_X4_cross : GoodIn wsX0_reach wsX4_cross := goodIn_r _ [24] (by decide +kernel) (by decide +kernel)
set_option maxRecDepth 20000 in
theorem gX0_reach_X4_cross_n59 : GoodIn wsX0_reach (wsX4_cross) := ggX0_reach_X4_cross
theorem dX0_reach_0 : decode cX0_reach 0 = .ok (.aload_n 0, 1) := by decide +kernel
theorem dX0_reach_1 : decode cX0_reach 1 = .ok (.iload_n 1, 1) := by decide +kernel
theorem dX0_reach_2 : decode cX0_reach 2 = .ok (.invokevirtual 52, 3) := by decide +kernel
theorem dX0_reach_5 : decode cX0_reach 5 = .ok (.istore_n 3, 1) := by decide +kernel
theorem dX0_reach_6 : decode cX0_reach 6 = .ok (.aload_n 0, 1) := by decide +kernel
theorem dX0_reach_7 : decode cX0_reach 7 = .ok (.iload_n 1, 1) := by decide +kernel
theorem dX0_reach_8 : decode cX0_reach 8 = .ok (.invokevirtual 26, 3) := by decide +kernel
theorem dX0_reach_11 : decode cX0_reach 11 = .ok (.istore 4, 2) := by decide +kernel
theorem dX0_reach_13 : decode cX0_reach 13 = .ok (.aload_n 0, 1) := by decide +kernel
theorem dX0_reach_14 : decode cX0_reach 14 = .ok (.iload_n 1, 1) := by decide +kernel
theorem dX0_reach_15 : decode cX0_reach 15 = .ok (.invokevirtual 30, 3) := by decide +kernel
theorem dX0_reach_18 : decode cX0_reach 18 = .ok (.istore 5, 2) := by decide +kernel
theorem dX0_reach_20 : decode cX0_reach 20 = .ok (.aload_n 0, 1) := by decide +kernel
theorem dX0_reach_21 : decode cX0_reach 21 = .ok (.iload_n 3, 1) := by decide +kernel
theorem dX0_reach_22 : decode cX0_reach 22 = .ok (.invokevirtual 26, 3) := by decide +kernel
theorem dX0_reach_25 : decode cX0_reach 25 = .ok (.istore 6, 2) := by decide +kernel
theorem dX0_reach_27 : decode cX0_reach 27 = .ok (.aload_n 0, 1) := by decide +kernel
theorem dX0_reach_28 : decode cX0_reach 28 = .ok (.iload_n 3, 1) := by decide +kernel
theorem dX0_reach_29 : decode cX0_reach 29 = .ok (.invokevirtual 30, 3) := by decide +kernel
theorem dX0_reach_32 : decode cX0_reach 32 = .ok (.istore 7, 2) := by decide +kernel
theorem dX0_reach_34 : decode cX0_reach 34 = .ok (.ldc 58, 2) := by decide +kernel
theorem dX0_reach_36 : decode cX0_reach 36 = .ok (.istore 8, 2) := by decide +kernel
theorem dX0_reach_38 : decode cX0_reach 38 = .ok (.iconst 0, 1) := by decide +kernel
theorem dX0_reach_39 : decode cX0_reach 39 = .ok (.istore 9, 2) := by decide +kernel
theorem dX0_reach_41 : decode cX0_reach 41 = .ok (.iload 9, 2) := by decide +kernel
theorem dX0_reach_43 : decode cX0_reach 43 = .ok (.aload_n 2, 1) := by decide +kernel
theorem dX0_reach_44 : decode cX0_reach 44 = .ok (.getfield 18, 3) := by decide +kernel
theorem dX0_reach_47 : decode cX0_reach 47 = .ok (.if_icmp .ge 39, 3) := by decide +kernel
theorem dX0_reach_50 : decode cX0_reach 50 = .ok (.iload 8, 2) := by decide +kernel
theorem dX0_reach_52 : decode cX0_reach 52 = .ok (.iload 4, 2) := by decide +kernel
theorem dX0_reach_54 : decode cX0_reach 54 = .ok (.iload 5, 2) := by decide +kernel
theorem dX0_reach_56 : decode cX0_reach 56 = .ok (.iload 6, 2) := by decide +kernel
theorem dX0_reach_58 : decode cX0_reach 58 = .ok (.iload 7, 2) := by decide +kernel
theorem dX0_reach_60 : decode cX0_reach 60 = .ok (.aload_n 2, 1) := by decide +kernel
theorem dX0_reach_61 : decode cX0_reach 61 = .ok (.iload 9, 2) := by decide +kernel
theorem dX0_reach_63 : decode cX0_reach 63 = .ok (.invokevirtual 26, 3) := by decide +kernel
theorem dX0_reach_66 : decode cX0_reach 66 = .ok (.aload_n 2, 1) := by decide +kernel
theorem dX0_reach_67 : decode cX0_reach 67 = .ok (.iload 9, 2) := by decide +kernel
theorem dX0_reach_69 : decode cX0_reach 69 = .ok (.invokevirtual 30, 3) := by decide +kernel
theorem dX0_reach_72 : decode cX0_reach 72 = .ok (.invokestatic 59, 3) := by decide +kernel
theorem dX0_reach_75 : decode cX0_reach 75 = .ok (.invokestatic 49, 3) := by decide +kernel
theorem dX0_reach_78 : decode cX0_reach 78 = .ok (.istore 8, 2) := by decide +kernel
theorem dX0_reach_80 : decode cX0_reach 80 = .ok (.iinc 9 1, 3) := by decide +kernel
theorem dX0_reach_83 : decode cX0_reach 83 = .ok (.goto (-42), 3) := by decide +kernel
theorem dX0_reach_86 : decode cX0_reach 86 = .ok (.iload 8, 2) := by decide +kernel
theorem dX0_reach_88 : decode cX0_reach 88 = .ok (.ireturn, 1) := by decide +kernel
set_option maxRecDepth 20000 in
theorem ggX0_leastReach_X0_reach : GoodIn wsX0_leastReach wsX0_reach := goodIn_r _ [10, 11, 1, 12, 13, 4, 14, 15, 16, 17, 9, 18, 19, 20, 21, 22, 23, 24, 25, 26, 27, 28, 29, 30, 31, 32, 33, 34] (by decide +kernel) (by decide +kernel)
set_option maxRecDepth 20000 in
theorem gX0_leastReach_X0_reach : GoodIn wsX0_leastReach (wsV RX0 63 RX0 yX0_reach wsX0_reach) := goodIn_app (goodIn_of _ (by decide +kernel)) ggX0_leastReach_X0_reach
theorem dX0_leastReach_0 : decode cX0_leastReach 0 = .ok (.iconst 1, 1) := by decide +kernel
theorem dX0_leastReach_1 : decode cX0_leastReach 1 = .ok (.istore_n 2, 1) := by decide +kernel
theorem dX0_leastReach_2 : decode cX0_leastReach 2 = .ok (.iconst 0, 1) := by decide +kernel
theorem dX0_leastReach_3 : decode cX0_leastReach 3 = .ok (.istore_n 3, 1) := by decide +kernel
theorem dX0_leastReach_4 : decode cX0_leastReach 4 = .ok (.iload_n 3, 1) := by decide +kernel
theorem dX0_leastReach_5 : decode cX0_leastReach 5 = .ok (.aload_n 0, 1) := by decide +kernel
theorem dX0_leastReach_6 : decode cX0_leastReach 6 = .ok (.getfield 18, 3) := by decide +kernel
theorem dX0_leastReach_9 : decode cX0_leastReach 9 = .ok (.if_icmp .ge 24, 3) := by decide +kernel
theorem dX0_leastReach_12 : decode cX0_leastReach 12 = .ok (.iload_n 2, 1) := by decide +kernel
theorem dX0_leastReach_13 : decode cX0_leastReach 13 = .ok (.ifCond .lt 20, 3) := by decide +kernel
theorem dX0_leastReach_16 : decode cX0_leastReach 16 = .ok (.iload_n 2, 1) := by decide +kernel
theorem dX0_leastReach_17 : decode cX0_leastReach 17 = .ok (.aload_n 0, 1) := by decide +kernel
theorem dX0_leastReach_18 : decode cX0_leastReach 18 = .ok (.iload_n 3, 1) := by decide +kernel
theorem dX0_leastReach_19 : decode cX0_leastReach 19 = .ok (.aload_n 1, 1) := by decide +kernel
theorem dX0_leastReach_20 : decode cX0_leastReach 20 = .ok (.invokevirtual 63, 3) := by decide +kernel
theorem dX0_leastReach_23 : decode cX0_leastReach 23 = .ok (.invokestatic 43, 3) := by decide +kernel
theorem dX0_leastReach_26 : decode cX0_leastReach 26 = .ok (.istore_n 2, 1) := by decide +kernel
theorem dX0_leastReach_27 : decode cX0_leastReach 27 = .ok (.iinc 3 1, 3) := by decide +kernel
theorem dX0_leastReach_30 : decode cX0_leastReach 30 = .ok (.goto (-26), 3) := by decide +kernel
theorem dX0_leastReach_33 : decode cX0_leastReach 33 = .ok (.iload_n 2, 1) := by decide +kernel
theorem dX0_leastReach_34 : decode cX0_leastReach 34 = .ok (.ireturn, 1) := by decide +kernel
set_option maxRecDepth 20000 in
theorem ggX0_partingSide_X0_reach : GoodIn wsX0_partingSide wsX0_reach := goodIn_r _ [6, 7, 1, 8, 9, 10, 11, 12, 13, 14, 5, 15, 16, 17, 18, 19, 20, 21, 22, 23, 24, 25, 26, 27, 28, 29, 30, 31] (by decide +kernel) (by decide +kernel)
set_option maxRecDepth 20000 in
theorem gX0_partingSide_X0_reach : GoodIn wsX0_partingSide (wsV RX0 63 RX0 yX0_reach wsX0_reach) := goodIn_app (goodIn_of _ (by decide +kernel)) ggX0_partingSide_X0_reach
theorem dX0_partingSide_0 : decode cX0_partingSide 0 = .ok (.iconst 0, 1) := by decide +kernel
theorem dX0_partingSide_1 : decode cX0_partingSide 1 = .ok (.istore_n 2, 1) := by decide +kernel
theorem dX0_partingSide_2 : decode cX0_partingSide 2 = .ok (.iload_n 2, 1) := by decide +kernel
theorem dX0_partingSide_3 : decode cX0_partingSide 3 = .ok (.aload_n 0, 1) := by decide +kernel
theorem dX0_partingSide_4 : decode cX0_partingSide 4 = .ok (.getfield 18, 3) := by decide +kernel
theorem dX0_partingSide_7 : decode cX0_partingSide 7 = .ok (.if_icmp .ge 20, 3) := by decide +kernel
theorem dX0_partingSide_10 : decode cX0_partingSide 10 = .ok (.aload_n 0, 1) := by decide +kernel
theorem dX0_partingSide_11 : decode cX0_partingSide 11 = .ok (.iload_n 2, 1) := by decide +kernel
theorem dX0_partingSide_12 : decode cX0_partingSide 12 = .ok (.aload_n 1, 1) := by decide +kernel
theorem dX0_partingSide_13 : decode cX0_partingSide 13 = .ok (.invokevirtual 63, 3) := by decide +kernel
theorem dX0_partingSide_16 : decode cX0_partingSide 16 = .ok (.ifCond .gt 5, 3) := by decide +kernel
theorem dX0_partingSide_19 : decode cX0_partingSide 19 = .ok (.iload_n 2, 1) := by decide +kernel
theorem dX0_partingSide_20 : decode cX0_partingSide 20 = .ok (.ireturn, 1) := by decide +kernel
theorem dX0_partingSide_21 : decode cX0_partingSide 21 = .ok (.iinc 2 1, 3) := by decide +kernel
theorem dX0_partingSide_24 : decode cX0_partingSide 24 = .ok (.goto (-22), 3) := by decide +kernel
theorem dX0_partingSide_27 : decode cX0_partingSide 27 = .ok (.iconst (-1), 1) := by decide +kernel
theorem dX0_partingSide_28 : decode cX0_partingSide 28 = .ok (.ireturn, 1) := by decide +kernel
set_option maxRecDepth 20000 in
theorem ggX0_nearestCorner_X0_following : GoodIn wsX0_nearestCorner wsX0_following := goodIn_r _ [6, 1, 29, 30, 31] (by decide +kernel) (by decide +kernel)
set_option maxRecDepth 20000 in
theorem gX0_nearestCorner_X0_following : GoodIn wsX0_nearestCorner (wsV RX0 52 RX0 yX0_following wsX0_following) := goodIn_app (goodIn_of _ (by decide +kernel)) ggX0_nearestCorner_X0_following
set_option maxRecDepth 20000 in
theorem ggX0_nearestCorner_X0_reach : GoodIn wsX0_nearestCorner wsX0_reach := goodIn_r _ [10, 11, 1, 12, 13, 14, 15, 2, 3, 4, 5, 6, 16, 17, 18, 19, 20, 21, 22, 23, 24, 25, 26, 27, 28, 29, 30, 31] (by decide +kernel) (by decide +kernel)
set_option maxRecDepth 20000 in
theorem gX0_nearestCorner_X0_reach : GoodIn wsX0_nearestCorner (wsV RX0 63 RX0 yX0_reach wsX0_reach) := goodIn_app (goodIn_of _ (by decide +kernel)) ggX0_nearestCorner_X0_reach
set_option maxRecDepth 20000 in
theorem ggX0_nearestCorner_X0_x : GoodIn wsX0_nearestCorner wsX0_x := goodIn_r _ [19, 20, 29, 30, 31] (by decide +kernel) (by decide +kernel)
set_option maxRecDepth 20000 in
theorem gX0_nearestCorner_X0_x : GoodIn wsX0_nearestCorner (wsV RX0 26 RX0 yX0_x wsX0_x) := goodIn_app (goodIn_of _ (by decide +kernel)) ggX0_nearestCorner_X0_x
set_option maxRecDepth 20000 in
theorem ggX0_nearestCorner_X0_y : GoodIn wsX0_nearestCorner wsX0_y := goodIn_r _ [24, 25, 29, 30, 31] (by decide +kernel) (by decide +kernel)
set_option maxRecDepth 20000 in
theorem gX0_nearestCorner_X0_y : GoodIn wsX0_nearestCorner (wsV RX0 30 RX0 yX0_y wsX0_y) := goodIn_app (goodIn_of _ (by decide +kernel)) ggX0_nearestCorner_X0_y
set_option maxRecDepth 20000 in
theorem ggX0_nearestCorner_X4_cross : GoodIn wsX0_nearestCorner wsX4_cross := goodIn_r _ [28] (by decide +kernel) (by decide +kernel)
set_option maxRecDepth 20000 in
theorem gX0_nearestCorner_X4_cross_n59 : GoodIn wsX0_nearestCorner (wsX4_cross) := ggX0_nearestCorner_X4_cross
theorem dX0_nearestCorner_0 : decode cX0_nearestCorner 0 = .ok (.aload_n 0, 1) := by decide +kernel
theorem dX0_nearestCorner_1 : decode cX0_nearestCorner 1 = .ok (.iload_n 1, 1) := by decide +kernel
theorem dX0_nearestCorner_2 : decode cX0_nearestCorner 2 = .ok (.invokevirtual 52, 3) := by decide +kernel
theorem dX0_nearestCorner_5 : decode cX0_nearestCorner 5 = .ok (.istore_n 3, 1) := by decide +kernel
theorem dX0_nearestCorner_6 : decode cX0_nearestCorner 6 = .ok (.aload_n 0, 1) := by decide +kernel
theorem dX0_nearestCorner_7 : decode cX0_nearestCorner 7 = .ok (.iload_n 1, 1) := by decide +kernel
theorem dX0_nearestCorner_8 : decode cX0_nearestCorner 8 = .ok (.aload_n 2, 1) := by decide +kernel
theorem dX0_nearestCorner_9 : decode cX0_nearestCorner 9 = .ok (.invokevirtual 63, 3) := by decide +kernel
theorem dX0_nearestCorner_12 : decode cX0_nearestCorner 12 = .ok (.istore 4, 2) := by decide +kernel
theorem dX0_nearestCorner_14 : decode cX0_nearestCorner 14 = .ok (.iconst 0, 1) := by decide +kernel
theorem dX0_nearestCorner_15 : decode cX0_nearestCorner 15 = .ok (.istore 5, 2) := by decide +kernel
theorem dX0_nearestCorner_17 : decode cX0_nearestCorner 17 = .ok (.iload 5, 2) := by decide +kernel
theorem dX0_nearestCorner_19 : decode cX0_nearestCorner 19 = .ok (.aload_n 2, 1) := by decide +kernel
theorem dX0_nearestCorner_20 : decode cX0_nearestCorner 20 = .ok (.getfield 18, 3) := by decide +kernel
theorem dX0_nearestCorner_23 : decode cX0_nearestCorner 23 = .ok (.if_icmp .ge 52, 3) := by decide +kernel
theorem dX0_nearestCorner_26 : decode cX0_nearestCorner 26 = .ok (.aload_n 0, 1) := by decide +kernel
theorem dX0_nearestCorner_27 : decode cX0_nearestCorner 27 = .ok (.iload_n 1, 1) := by decide +kernel
theorem dX0_nearestCorner_28 : decode cX0_nearestCorner 28 = .ok (.invokevirtual 26, 3) := by decide +kernel
theorem dX0_nearestCorner_31 : decode cX0_nearestCorner 31 = .ok (.aload_n 0, 1) := by decide +kernel
theorem dX0_nearestCorner_32 : decode cX0_nearestCorner 32 = .ok (.iload_n 1, 1) := by decide +kernel
theorem dX0_nearestCorner_33 : decode cX0_nearestCorner 33 = .ok (.invokevirtual 30, 3) := by decide +kernel
theorem dX0_nearestCorner_36 : decode cX0_nearestCorner 36 = .ok (.aload_n 0, 1) := by decide +kernel
theorem dX0_nearestCorner_37 : decode cX0_nearestCorner 37 = .ok (.iload_n 3, 1) := by decide +kernel
theorem dX0_nearestCorner_38 : decode cX0_nearestCorner 38 = .ok (.invokevirtual 26, 3) := by decide +kernel
theorem dX0_nearestCorner_41 : decode cX0_nearestCorner 41 = .ok (.aload_n 0, 1) := by decide +kernel
theorem dX0_nearestCorner_42 : decode cX0_nearestCorner 42 = .ok (.iload_n 3, 1) := by decide +kernel
theorem dX0_nearestCorner_43 : decode cX0_nearestCorner 43 = .ok (.invokevirtual 30, 3) := by decide +kernel
theorem dX0_nearestCorner_46 : decode cX0_nearestCorner 46 = .ok (.aload_n 2, 1) := by decide +kernel
theorem dX0_nearestCorner_47 : decode cX0_nearestCorner 47 = .ok (.iload 5, 2) := by decide +kernel
theorem dX0_nearestCorner_49 : decode cX0_nearestCorner 49 = .ok (.invokevirtual 26, 3) := by decide +kernel
theorem dX0_nearestCorner_52 : decode cX0_nearestCorner 52 = .ok (.aload_n 2, 1) := by decide +kernel
theorem dX0_nearestCorner_53 : decode cX0_nearestCorner 53 = .ok (.iload 5, 2) := by decide +kernel
theorem dX0_nearestCorner_55 : decode cX0_nearestCorner 55 = .ok (.invokevirtual 30, 3) := by decide +kernel
theorem dX0_nearestCorner_58 : decode cX0_nearestCorner 58 = .ok (.invokestatic 59, 3) := by decide +kernel
theorem dX0_nearestCorner_61 : decode cX0_nearestCorner 61 = .ok (.iload 4, 2) := by decide +kernel
theorem dX0_nearestCorner_63 : decode cX0_nearestCorner 63 = .ok (.if_icmp .ne 6, 3) := by decide +kernel
theorem dX0_nearestCorner_66 : decode cX0_nearestCorner 66 = .ok (.iload 5, 2) := by decide +kernel
theorem dX0_nearestCorner_68 : decode cX0_nearestCorner 68 = .ok (.ireturn, 1) := by decide +kernel
theorem dX0_nearestCorner_69 : decode cX0_nearestCorner 69 = .ok (.iinc 5 1, 3) := by decide +kernel
theorem dX0_nearestCorner_72 : decode cX0_nearestCorner 72 = .ok (.goto (-55), 3) := by decide +kernel
theorem dX0_nearestCorner_75 : decode cX0_nearestCorner 75 = .ok (.iconst 0, 1) := by decide +kernel
theorem dX0_nearestCorner_76 : decode cX0_nearestCorner 76 = .ok (.ireturn, 1) := by decide +kernel
set_option maxRecDepth 20000 in
theorem ggX0_cornerOutside_X0_x : GoodIn wsX0_cornerOutside wsX0_x := goodIn_r _ [6, 7, 13, 14, 15] (by decide +kernel) (by decide +kernel)
set_option maxRecDepth 20000 in
theorem gX0_cornerOutside_X0_x : GoodIn wsX0_cornerOutside (wsV RX0 26 RX0 yX0_x wsX0_x) := goodIn_app (goodIn_of _ (by decide +kernel)) ggX0_cornerOutside_X0_x
set_option maxRecDepth 20000 in
theorem ggX0_cornerOutside_X0_y : GoodIn wsX0_cornerOutside wsX0_y := goodIn_r _ [11, 12, 13, 14, 15] (by decide +kernel) (by decide +kernel)
set_option maxRecDepth 20000 in
theorem gX0_cornerOutside_X0_y : GoodIn wsX0_cornerOutside (wsV RX0 30 RX0 yX0_y wsX0_y) := goodIn_app (goodIn_of _ (by decide +kernel)) ggX0_cornerOutside_X0_y
theorem dX0_cornerOutside_0 : decode cX0_cornerOutside 0 = .ok (.iconst 0, 1) := by decide +kernel
theorem dX0_cornerOutside_1 : decode cX0_cornerOutside 1 = .ok (.istore_n 3, 1) := by decide +kernel
theorem dX0_cornerOutside_2 : decode cX0_cornerOutside 2 = .ok (.iload_n 3, 1) := by decide +kernel
theorem dX0_cornerOutside_3 : decode cX0_cornerOutside 3 = .ok (.aload_n 0, 1) := by decide +kernel
theorem dX0_cornerOutside_4 : decode cX0_cornerOutside 4 = .ok (.getfield 18, 3) := by decide +kernel
theorem dX0_cornerOutside_7 : decode cX0_cornerOutside 7 = .ok (.if_icmp .ge 29, 3) := by decide +kernel
theorem dX0_cornerOutside_10 : decode cX0_cornerOutside 10 = .ok (.aload_n 0, 1) := by decide +kernel
theorem dX0_cornerOutside_11 : decode cX0_cornerOutside 11 = .ok (.iload_n 3, 1) := by decide +kernel
theorem dX0_cornerOutside_12 : decode cX0_cornerOutside 12 = .ok (.invokevirtual 26, 3) := by decide +kernel
theorem dX0_cornerOutside_15 : decode cX0_cornerOutside 15 = .ok (.iload_n 1, 1) := by decide +kernel
theorem dX0_cornerOutside_16 : decode cX0_cornerOutside 16 = .ok (.if_icmp .gt 12, 3) := by decide +kernel
theorem dX0_cornerOutside_19 : decode cX0_cornerOutside 19 = .ok (.aload_n 0, 1) := by decide +kernel
theorem dX0_cornerOutside_20 : decode cX0_cornerOutside 20 = .ok (.iload_n 3, 1) := by decide +kernel
theorem dX0_cornerOutside_21 : decode cX0_cornerOutside 21 = .ok (.invokevirtual 30, 3) := by decide +kernel
theorem dX0_cornerOutside_24 : decode cX0_cornerOutside 24 = .ok (.iload_n 2, 1) := by decide +kernel
theorem dX0_cornerOutside_25 : decode cX0_cornerOutside 25 = .ok (.if_icmp .le 5, 3) := by decide +kernel
theorem dX0_cornerOutside_28 : decode cX0_cornerOutside 28 = .ok (.iload_n 3, 1) := by decide +kernel
theorem dX0_cornerOutside_29 : decode cX0_cornerOutside 29 = .ok (.ireturn, 1) := by decide +kernel
theorem dX0_cornerOutside_30 : decode cX0_cornerOutside 30 = .ok (.iinc 3 1, 3) := by decide +kernel
theorem dX0_cornerOutside_33 : decode cX0_cornerOutside 33 = .ok (.goto (-31), 3) := by decide +kernel
theorem dX0_cornerOutside_36 : decode cX0_cornerOutside 36 = .ok (.iconst (-1), 1) := by decide +kernel
theorem dX0_cornerOutside_37 : decode cX0_cornerOutside 37 = .ok (.ireturn, 1) := by decide +kernel
set_option maxRecDepth 20000 in
theorem ggX0_causeOfShape_X0_following : GoodIn wsX0_causeOfShape wsX0_following := goodIn_r _ [6, 1, 28, 29, 30] (by decide +kernel) (by decide +kernel)
set_option maxRecDepth 20000 in
theorem gX0_causeOfShape_X0_following : GoodIn wsX0_causeOfShape (wsV RX0 52 RX0 yX0_following wsX0_following) := goodIn_app (goodIn_of _ (by decide +kernel)) ggX0_causeOfShape_X0_following
set_option maxRecDepth 20000 in
theorem ggX0_causeOfShape_X0_x : GoodIn wsX0_causeOfShape wsX0_x := goodIn_r _ [10, 11, 28, 29, 30] (by decide +kernel) (by decide +kernel)
set_option maxRecDepth 20000 in
theorem gX0_causeOfShape_X0_x : GoodIn wsX0_causeOfShape (wsV RX0 26 RX0 yX0_x wsX0_x) := goodIn_app (goodIn_of _ (by decide +kernel)) ggX0_causeOfShape_X0_x
set_option maxRecDepth 20000 in
theorem ggX0_causeOfShape_X0_y : GoodIn wsX0_causeOfShape wsX0_y := goodIn_r _ [15, 16, 28, 29, 30] (by decide +kernel) (by decide +kernel)
set_option maxRecDepth 20000 in
theorem gX0_causeOfShape_X0_y : GoodIn wsX0_causeOfShape (wsV RX0 30 RX0 yX0_y wsX0_y) := goodIn_app (goodIn_of _ (by decide +kernel)) ggX0_causeOfShape_X0_y
set_option maxRecDepth 20000 in
theorem ggX0_causeOfShape_X4_cross : GoodIn wsX0_causeOfShape wsX4_cross := goodIn_r _ [19] (by decide +kernel) (by decide +kernel)
set_option maxRecDepth 20000 in
theorem gX0_causeOfShape_X4_cross_n59 : GoodIn wsX0_causeOfShape (wsX4_cross) := ggX0_causeOfShape_X4_cross
set_option maxRecDepth 20000 in
theorem ggX0_causeOfShape_X0_timesRound : GoodIn wsX0_causeOfShape wsX0_timesRound := goodIn_r _ [23, 1, 24, 25, 26, 5, 27, 2, 3, 4, 6, 12, 13, 14, 15, 16, 7, 8, 9, 10, 11, 28, 29, 30] (by decide +kernel) (by decide +kernel)
set_option maxRecDepth 20000 in
theorem gX0_causeOfShape_X0_timesRound : GoodIn wsX0_causeOfShape (wsV RX0 67 RX0 yX0_timesRound wsX0_timesRound) := goodIn_app (goodIn_of _ (by decide +kernel)) ggX0_causeOfShape_X0_timesRound
theorem dX0_causeOfShape_0 : decode cX0_causeOfShape 0 = .ok (.iconst 0, 1) := by decide +kernel
theorem dX0_causeOfShape_1 : decode cX0_causeOfShape 1 = .ok (.istore_n 1, 1) := by decide +kernel
theorem dX0_causeOfShape_2 : decode cX0_causeOfShape 2 = .ok (.iload_n 1, 1) := by decide +kernel
theorem dX0_causeOfShape_3 : decode cX0_causeOfShape 3 = .ok (.aload_n 0, 1) := by decide +kernel
theorem dX0_causeOfShape_4 : decode cX0_causeOfShape 4 = .ok (.getfield 18, 3) := by decide +kernel
theorem dX0_causeOfShape_7 : decode cX0_causeOfShape 7 = .ok (.if_icmp .ge 70, 3) := by decide +kernel
theorem dX0_causeOfShape_10 : decode cX0_causeOfShape 10 = .ok (.iload_n 1, 1) := by decide +kernel
theorem dX0_causeOfShape_11 : decode cX0_causeOfShape 11 = .ok (.ifCond .le 9, 3) := by decide +kernel
theorem dX0_causeOfShape_14 : decode cX0_causeOfShape 14 = .ok (.iload_n 1, 1) := by decide +kernel
theorem dX0_causeOfShape_15 : decode cX0_causeOfShape 15 = .ok (.iconst 1, 1) := by decide +kernel
theorem dX0_causeOfShape_16 : decode cX0_causeOfShape 16 = .ok (.isub, 1) := by decide +kernel
theorem dX0_causeOfShape_17 : decode cX0_causeOfShape 17 = .ok (.goto 9, 3) := by decide +kernel
theorem dX0_causeOfShape_20 : decode cX0_causeOfShape 20 = .ok (.aload_n 0, 1) := by decide +kernel
theorem dX0_causeOfShape_21 : decode cX0_causeOfShape 21 = .ok (.getfield 18, 3) := by decide +kernel
theorem dX0_causeOfShape_24 : decode cX0_causeOfShape 24 = .ok (.iconst 1, 1) := by decide +kernel
theorem dX0_causeOfShape_25 : decode cX0_causeOfShape 25 = .ok (.isub, 1) := by decide +kernel
theorem dX0_causeOfShape_26 : decode cX0_causeOfShape 26 = .ok (.istore_n 2, 1) := by decide +kernel
theorem dX0_causeOfShape_27 : decode cX0_causeOfShape 27 = .ok (.aload_n 0, 1) := by decide +kernel
theorem dX0_causeOfShape_28 : decode cX0_causeOfShape 28 = .ok (.iload_n 1, 1) := by decide +kernel
theorem dX0_causeOfShape_29 : decode cX0_causeOfShape 29 = .ok (.invokevirtual 52, 3) := by decide +kernel
theorem dX0_causeOfShape_32 : decode cX0_causeOfShape 32 = .ok (.istore_n 3, 1) := by decide +kernel
theorem dX0_causeOfShape_33 : decode cX0_causeOfShape 33 = .ok (.aload_n 0, 1) := by decide +kernel
theorem dX0_causeOfShape_34 : decode cX0_causeOfShape 34 = .ok (.iload_n 2, 1) := by decide +kernel
theorem dX0_causeOfShape_35 : decode cX0_causeOfShape 35 = .ok (.invokevirtual 26, 3) := by decide +kernel
theorem dX0_causeOfShape_38 : decode cX0_causeOfShape 38 = .ok (.aload_n 0, 1) := by decide +kernel
theorem dX0_causeOfShape_39 : decode cX0_causeOfShape 39 = .ok (.iload_n 2, 1) := by decide +kernel
theorem dX0_causeOfShape_40 : decode cX0_causeOfShape 40 = .ok (.invokevirtual 30, 3) := by decide +kernel
theorem dX0_causeOfShape_43 : decode cX0_causeOfShape 43 = .ok (.aload_n 0, 1) := by decide +kernel
theorem dX0_causeOfShape_44 : decode cX0_causeOfShape 44 = .ok (.iload_n 1, 1) := by decide +kernel
theorem dX0_causeOfShape_45 : decode cX0_causeOfShape 45 = .ok (.invokevirtual 26, 3) := by decide +kernel
theorem dX0_causeOfShape_48 : decode cX0_causeOfShape 48 = .ok (.aload_n 0, 1) := by decide +kernel
theorem dX0_causeOfShape_49 : decode cX0_causeOfShape 49 = .ok (.iload_n 1, 1) := by decide +kernel
theorem dX0_causeOfShape_50 : decode cX0_causeOfShape 50 = .ok (.invokevirtual 30, 3) := by decide +kernel
theorem dX0_causeOfShape_53 : decode cX0_causeOfShape 53 = .ok (.aload_n 0, 1) := by decide +kernel
theorem dX0_causeOfShape_54 : decode cX0_causeOfShape 54 = .ok (.iload_n 3, 1) := by decide +kernel
theorem dX0_causeOfShape_55 : decode cX0_causeOfShape 55 = .ok (.invokevirtual 26, 3) := by decide +kernel
theorem dX0_causeOfShape_58 : decode cX0_causeOfShape 58 = .ok (.aload_n 0, 1) := by decide +kernel
theorem dX0_causeOfShape_59 : decode cX0_causeOfShape 59 = .ok (.iload_n 3, 1) := by decide +kernel
theorem dX0_causeOfShape_60 : decode cX0_causeOfShape 60 = .ok (.invokevirtual 30, 3) := by decide +kernel
theorem dX0_causeOfShape_63 : decode cX0_causeOfShape 63 = .ok (.invokestatic 59, 3) := by decide +kernel
theorem dX0_causeOfShape_66 : decode cX0_causeOfShape 66 = .ok (.ifCond .gt 5, 3) := by decide +kernel
theorem dX0_causeOfShape_69 : decode cX0_causeOfShape 69 = .ok (.iload_n 1, 1) := by decide +kernel
theorem dX0_causeOfShape_70 : decode cX0_causeOfShape 70 = .ok (.ireturn, 1) := by decide +kernel
theorem dX0_causeOfShape_71 : decode cX0_causeOfShape 71 = .ok (.iinc 1 1, 3) := by decide +kernel
theorem dX0_causeOfShape_74 : decode cX0_causeOfShape 74 = .ok (.goto (-72), 3) := by decide +kernel
theorem dX0_causeOfShape_77 : decode cX0_causeOfShape 77 = .ok (.aload_n 0, 1) := by decide +kernel
theorem dX0_causeOfShape_78 : decode cX0_causeOfShape 78 = .ok (.invokevirtual 67, 3) := by decide +kernel
theorem dX0_causeOfShape_81 : decode cX0_causeOfShape 81 = .ok (.iconst 1, 1) := by decide +kernel
theorem dX0_causeOfShape_82 : decode cX0_causeOfShape 82 = .ok (.if_icmp .le 10, 3) := by decide +kernel
theorem dX0_causeOfShape_85 : decode cX0_causeOfShape 85 = .ok (.aload_n 0, 1) := by decide +kernel
theorem dX0_causeOfShape_86 : decode cX0_causeOfShape 86 = .ok (.getfield 18, 3) := by decide +kernel
theorem dX0_causeOfShape_89 : decode cX0_causeOfShape 89 = .ok (.goto 4, 3) := by decide +kernel
theorem dX0_causeOfShape_92 : decode cX0_causeOfShape 92 = .ok (.iconst (-1), 1) := by decide +kernel
theorem dX0_causeOfShape_93 : decode cX0_causeOfShape 93 = .ok (.ireturn, 1) := by decide +kernel
set_option maxRecDepth 20000 in
theorem ggX0_timesRound_X0_pointsUp : GoodIn wsX0_timesRound wsX0_pointsUp := goodIn_r _ [6, 7, 8, 9, 5, 10, 1, 11, 12, 13, 14, 15, 16, 17, 18, 19, 20, 21, 22, 23] (by decide +kernel) (by decide +kernel)
set_option maxRecDepth 20000 in
theorem gX0_timesRound_X0_pointsUp : GoodIn wsX0_timesRound (wsV RX0 70 RX0 yX0_pointsUp wsX0_pointsUp) := goodIn_app (goodIn_of _ (by decide +kernel)) ggX0_timesRound_X0_pointsUp
set_option maxRecDepth 20000 in
theorem ggX0_timesRound_X0_following : GoodIn wsX0_timesRound wsX0_following := goodIn_r _ [10, 1, 21, 22, 23] (by decide +kernel) (by decide +kernel)
set_option maxRecDepth 20000 in
theorem gX0_timesRound_X0_following : GoodIn wsX0_timesRound (wsV RX0 52 RX0 yX0_following wsX0_following) := goodIn_app (goodIn_of _ (by decide +kernel)) ggX0_timesRound_X0_following
theorem dX0_timesRound_0 : decode cX0_timesRound 0 = .ok (.iconst 0, 1) := by decide +kernel
theorem dX0_timesRound_1 : decode cX0_timesRound 1 = .ok (.istore_n 1, 1) := by decide +kernel
