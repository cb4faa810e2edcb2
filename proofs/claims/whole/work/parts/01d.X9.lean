set_option maxRecDepth 20000 in
theorem ggX9_init_X4_init : GoodIn wsX9_init wsX4_init := goodIn_r _ [42, 43, 2, 3, 44, 45, 46, 47, 48, 49, 50, 103, 104, 105, 106, 107, 108] (by decide +kernel) (by decide +kernel)
set_option maxRecDepth 20000 in
theorem gX9_init_X4_init_n11 : GoodIn wsX9_init (wsX4_init) := ggX9_init_X4_init
set_option maxRecDepth 20000 in
theorem ggX9_init_X7_init : GoodIn wsX9_init wsX7_init := goodIn_r _ [52, 53, 2, 3, 54, 55, 56, 119, 120] (by decide +kernel) (by decide +kernel)
set_option maxRecDepth 20000 in
theorem gX9_init_X7_init_n18 : GoodIn wsX9_init (wsX7_init) := ggX9_init_X7_init
set_option maxRecDepth 20000 in
theorem ggX9_init_X8_init : GoodIn wsX9_init wsX8_init := goodIn_r _ [58, 59, 2, 3, 44, 60, 61, 62, 121, 122, 123] (by decide +kernel) (by decide +kernel)
set_option maxRecDepth 20000 in
theorem gX9_init_X8_init_n25 : GoodIn wsX9_init (wsX8_init) := ggX9_init_X8_init
set_option maxRecDepth 20000 in
theorem ggX9_init_X0_init : GoodIn wsX9_init wsX0_init := goodIn_r _ [64, 65, 2, 3, 44, 66, 67, 68, 124, 125, 126] (by decide +kernel) (by decide +kernel)
set_option maxRecDepth 20000 in
theorem gX9_init_X0_init_n32 : GoodIn wsX9_init (wsX0_init) := ggX9_init_X0_init
set_option maxRecDepth 20000 in
theorem ggX9_init_X6_init : GoodIn wsX9_init wsX6_init := goodIn_r _ [70, 71, 2, 3, 44, 72, 73, 74, 75, 76, 77, 78, 127, 128, 129, 130, 131, 132, 133] (by decide +kernel) (by decide +kernel)
set_option maxRecDepth 20000 in
theorem gX9_init_X6_init_n39 : GoodIn wsX9_init (wsX6_init) := ggX9_init_X6_init
set_option maxRecDepth 20000 in
theorem ggX9_init_X3_init : GoodIn wsX9_init wsX3_init := goodIn_r _ [80, 81, 2, 3, 44, 82, 83, 134, 135] (by decide +kernel) (by decide +kernel)
set_option maxRecDepth 20000 in
theorem gX9_init_X3_init_n46 : GoodIn wsX9_init (wsX3_init) := ggX9_init_X3_init
set_option maxRecDepth 20000 in
theorem ggX9_init_X2_init : GoodIn wsX9_init wsX2_init := goodIn_r _ [85, 86, 2, 3, 87, 88, 89, 136, 137] (by decide +kernel) (by decide +kernel)
set_option maxRecDepth 20000 in
theorem gX9_init_X2_init_n53 : GoodIn wsX9_init (wsX2_init) := ggX9_init_X2_init
set_option maxRecDepth 20000 in
theorem ggX9_init_X5_init : GoodIn wsX9_init wsX5_init := goodIn_r _ [91, 92, 2, 3, 44, 93, 94, 95, 96, 138, 139, 140, 141] (by decide +kernel) (by decide +kernel)
set_option maxRecDepth 20000 in
theorem gX9_init_X5_init_n60 : GoodIn wsX9_init (wsX5_init) := ggX9_init_X5_init
set_option maxRecDepth 20000 in
theorem ggX9_init_X1_init : GoodIn wsX9_init wsX1_init := goodIn_r _ [98, 99, 2, 3, 44, 100, 101, 102, 142, 143, 144] (by decide +kernel) (by decide +kernel)
set_option maxRecDepth 20000 in
theorem gX9_init_X1_init_n67 : GoodIn wsX9_init (wsX1_init) := ggX9_init_X1_init
theorem dX9_init_0 : decode cX9_init 0 = .ok (.aload_n 0, 1) := by decide +kernel
theorem dX9_init_1 : decode cX9_init 1 = .ok (.invokespecial 3, 3) := by decide +kernel
theorem dX9_init_4 : decode cX9_init 4 = .ok (.aload_n 0, 1) := by decide +kernel
theorem dX9_init_5 : decode cX9_init 5 = .ok (.new 9, 3) := by decide +kernel
theorem dX9_init_8 : decode cX9_init 8 = .ok (.dup, 1) := by decide +kernel
theorem dX9_init_9 : decode cX9_init 9 = .ok (.invokespecial 11, 3) := by decide +kernel
theorem dX9_init_12 : decode cX9_init 12 = .ok (.putfield 12, 3) := by decide +kernel
theorem dX9_init_15 : decode cX9_init 15 = .ok (.aload_n 0, 1) := by decide +kernel
theorem dX9_init_16 : decode cX9_init 16 = .ok (.new 16, 3) := by decide +kernel
theorem dX9_init_19 : decode cX9_init 19 = .ok (.dup, 1) := by decide +kernel
theorem dX9_init_20 : decode cX9_init 20 = .ok (.invokespecial 18, 3) := by decide +kernel
theorem dX9_init_23 : decode cX9_init 23 = .ok (.putfield 19, 3) := by decide +kernel
theorem dX9_init_26 : decode cX9_init 26 = .ok (.aload_n 0, 1) := by decide +kernel
theorem dX9_init_27 : decode cX9_init 27 = .ok (.new 23, 3) := by decide +kernel
theorem dX9_init_30 : decode cX9_init 30 = .ok (.dup, 1) := by decide +kernel
theorem dX9_init_31 : decode cX9_init 31 = .ok (.invokespecial 25, 3) := by decide +kernel
theorem dX9_init_34 : decode cX9_init 34 = .ok (.putfield 26, 3) := by decide +kernel
theorem dX9_init_37 : decode cX9_init 37 = .ok (.aload_n 0, 1) := by decide +kernel
theorem dX9_init_38 : decode cX9_init 38 = .ok (.new 30, 3) := by decide +kernel
theorem dX9_init_41 : decode cX9_init 41 = .ok (.dup, 1) := by decide +kernel
theorem dX9_init_42 : decode cX9_init 42 = .ok (.invokespecial 32, 3) := by decide +kernel
theorem dX9_init_45 : decode cX9_init 45 = .ok (.putfield 33, 3) := by decide +kernel
theorem dX9_init_48 : decode cX9_init 48 = .ok (.aload_n 0, 1) := by decide +kernel
theorem dX9_init_49 : decode cX9_init 49 = .ok (.new 37, 3) := by decide +kernel
theorem dX9_init_52 : decode cX9_init 52 = .ok (.dup, 1) := by decide +kernel
theorem dX9_init_53 : decode cX9_init 53 = .ok (.invokespecial 39, 3) := by decide +kernel
theorem dX9_init_56 : decode cX9_init 56 = .ok (.putfield 40, 3) := by decide +kernel
theorem dX9_init_59 : decode cX9_init 59 = .ok (.aload_n 0, 1) := by decide +kernel
theorem dX9_init_60 : decode cX9_init 60 = .ok (.new 44, 3) := by decide +kernel
theorem dX9_init_63 : decode cX9_init 63 = .ok (.dup, 1) := by decide +kernel
theorem dX9_init_64 : decode cX9_init 64 = .ok (.invokespecial 46, 3) := by decide +kernel
theorem dX9_init_67 : decode cX9_init 67 = .ok (.putfield 47, 3) := by decide +kernel
theorem dX9_init_70 : decode cX9_init 70 = .ok (.aload_n 0, 1) := by decide +kernel
theorem dX9_init_71 : decode cX9_init 71 = .ok (.new 51, 3) := by decide +kernel
theorem dX9_init_74 : decode cX9_init 74 = .ok (.dup, 1) := by decide +kernel
theorem dX9_init_75 : decode cX9_init 75 = .ok (.invokespecial 53, 3) := by decide +kernel
theorem dX9_init_78 : decode cX9_init 78 = .ok (.putfield 54, 3) := by decide +kernel
theorem dX9_init_81 : decode cX9_init 81 = .ok (.aload_n 0, 1) := by decide +kernel
theorem dX9_init_82 : decode cX9_init 82 = .ok (.new 58, 3) := by decide +kernel
theorem dX9_init_85 : decode cX9_init 85 = .ok (.dup, 1) := by decide +kernel
theorem dX9_init_86 : decode cX9_init 86 = .ok (.invokespecial 60, 3) := by decide +kernel
theorem dX9_init_89 : decode cX9_init 89 = .ok (.putfield 61, 3) := by decide +kernel
theorem dX9_init_92 : decode cX9_init 92 = .ok (.aload_n 0, 1) := by decide +kernel
theorem dX9_init_93 : decode cX9_init 93 = .ok (.new 65, 3) := by decide +kernel
theorem dX9_init_96 : decode cX9_init 96 = .ok (.dup, 1) := by decide +kernel
theorem dX9_init_97 : decode cX9_init 97 = .ok (.invokespecial 67, 3) := by decide +kernel
theorem dX9_init_100 : decode cX9_init 100 = .ok (.putfield 68, 3) := by decide +kernel
theorem dX9_init_103 : decode cX9_init 103 = .ok (.aload_n 0, 1) := by decide +kernel
theorem dX9_init_104 : decode cX9_init 104 = .ok (.iconst 1, 1) := by decide +kernel
theorem dX9_init_105 : decode cX9_init 105 = .ok (.putfield 72, 3) := by decide +kernel
theorem dX9_init_108 : decode cX9_init 108 = .ok (.return_, 1) := by decide +kernel
set_option maxRecDepth 20000 in
theorem ggX9_player_X0_put : GoodIn wsX9_player wsX0_put := goodIn_r _ [7, 8, 9, 10, 11, 12, 13, 14, 25, 26, 27] (by decide +kernel) (by decide +kernel)
set_option maxRecDepth 20000 in
theorem gX9_player_X0_put : GoodIn wsX9_player (wsV RX9 76 RX0 yX0_put wsX0_put) := goodIn_app (goodIn_of _ (by decide +kernel)) ggX9_player_X0_put
theorem dX9_player_0 : decode cX9_player 0 = .ok (.aload_n 0, 1) := by decide +kernel
theorem dX9_player_1 : decode cX9_player 1 = .ok (.getfield 72, 3) := by decide +kernel
theorem dX9_player_4 : decode cX9_player 4 = .ok (.bipush 10, 2) := by decide +kernel
theorem dX9_player_6 : decode cX9_player 6 = .ok (.if_icmp .lt 5, 3) := by decide +kernel
theorem dX9_player_9 : decode cX9_player 9 = .ok (.iconst (-1), 1) := by decide +kernel
theorem dX9_player_10 : decode cX9_player 10 = .ok (.ireturn, 1) := by decide +kernel
theorem dX9_player_11 : decode cX9_player 11 = .ok (.aload_n 0, 1) := by decide +kernel
theorem dX9_player_12 : decode cX9_player 12 = .ok (.dup, 1) := by decide +kernel
theorem dX9_player_13 : decode cX9_player 13 = .ok (.getfield 72, 3) := by decide +kernel
theorem dX9_player_16 : decode cX9_player 16 = .ok (.iconst 1, 1) := by decide +kernel
theorem dX9_player_17 : decode cX9_player 17 = .ok (.iadd, 1) := by decide +kernel
theorem dX9_player_18 : decode cX9_player 18 = .ok (.putfield 72, 3) := by decide +kernel
theorem dX9_player_21 : decode cX9_player 21 = .ok (.aload_n 0, 1) := by decide +kernel
theorem dX9_player_22 : decode cX9_player 22 = .ok (.getfield 33, 3) := by decide +kernel
theorem dX9_player_25 : decode cX9_player 25 = .ok (.iconst 0, 1) := by decide +kernel
theorem dX9_player_26 : decode cX9_player 26 = .ok (.iconst 0, 1) := by decide +kernel
theorem dX9_player_27 : decode cX9_player 27 = .ok (.iconst 0, 1) := by decide +kernel
theorem dX9_player_28 : decode cX9_player 28 = .ok (.iconst 0, 1) := by decide +kernel
theorem dX9_player_29 : decode cX9_player 29 = .ok (.iconst 0, 1) := by decide +kernel
theorem dX9_player_30 : decode cX9_player 30 = .ok (.iconst 0, 1) := by decide +kernel
theorem dX9_player_31 : decode cX9_player 31 = .ok (.invokevirtual 76, 3) := by decide +kernel
theorem dX9_player_34 : decode cX9_player 34 = .ok (.aload_n 0, 1) := by decide +kernel
theorem dX9_player_35 : decode cX9_player 35 = .ok (.getfield 72, 3) := by decide +kernel
theorem dX9_player_38 : decode cX9_player 38 = .ok (.iconst 1, 1) := by decide +kernel
theorem dX9_player_39 : decode cX9_player 39 = .ok (.isub, 1) := by decide +kernel
theorem dX9_player_40 : decode cX9_player 40 = .ok (.ireturn, 1) := by decide +kernel
set_option maxRecDepth 20000 in
theorem ggX9_meet_X9_canMeet : GoodIn wsX9_meet wsX9_canMeet := goodIn_r _ [7, 1, 8, 9, 10, 6, 11, 12, 13, 14, 15, 16, 17, 18, 19, 20, 21, 22, 23, 24, 25, 59, 60, 61, 62, 63, 64, 65, 66, 67, 68, 69, 70, 71, 72, 73, 74] (by decide +kernel) (by decide +kernel)
set_option maxRecDepth 20000 in
theorem gX9_meet_X9_canMeet : GoodIn wsX9_meet (wsV RX9 80 RX9 yX9_canMeet wsX9_canMeet) := goodIn_app (goodIn_of _ (by decide +kernel)) ggX9_meet_X9_canMeet
set_option maxRecDepth 20000 in
theorem ggX9_meet_X4_append : GoodIn wsX9_meet wsX4_append := goodIn_r _ [29, 25, 30, 31, 32, 23, 33, 34, 35, 36, 37, 38, 39, 40, 41, 42, 43, 44, 45, 46, 69, 70, 71, 72, 73, 74] (by decide +kernel) (by decide +kernel)
set_option maxRecDepth 20000 in
theorem gX9_meet_X4_append : GoodIn wsX9_meet (wsV RX9 84 RX4 yX4_append wsX4_append) := goodIn_app (goodIn_of _ (by decide +kernel)) ggX9_meet_X4_append
set_option maxRecDepth 20000 in
theorem ggX9_meet_X0_put : GoodIn wsX9_meet wsX0_put := goodIn_r _ [51, 52, 53, 54, 55, 56, 57, 58, 75, 76, 77] (by decide +kernel) (by decide +kernel)
set_option maxRecDepth 20000 in
theorem gX9_meet_X0_put : GoodIn wsX9_meet (wsV RX9 76 RX0 yX0_put wsX0_put) := goodIn_app (goodIn_of _ (by decide +kernel)) ggX9_meet_X0_put
set_option maxRecDepth 20000 in
theorem ggX9_meet_X4_count : GoodIn wsX9_meet wsX4_count := goodIn_r _ [24, 25, 69, 70, 71, 72, 73, 74] (by decide +kernel) (by decide +kernel)
set_option maxRecDepth 20000 in
theorem gX9_meet_X4_count : GoodIn wsX9_meet (wsV RX9 88 RX4 yX4_count wsX4_count) := goodIn_app (goodIn_of _ (by decide +kernel)) ggX9_meet_X4_count
theorem dX9_meet_0 : decode cX9_meet 0 = .ok (.aload_n 0, 1) := by decide +kernel
theorem dX9_meet_1 : decode cX9_meet 1 = .ok (.iload_n 1, 1) := by decide +kernel
theorem dX9_meet_2 : decode cX9_meet 2 = .ok (.iload_n 2, 1) := by decide +kernel
theorem dX9_meet_3 : decode cX9_meet 3 = .ok (.iload_n 3, 1) := by decide +kernel
theorem dX9_meet_4 : decode cX9_meet 4 = .ok (.iload 4, 2) := by decide +kernel
theorem dX9_meet_6 : decode cX9_meet 6 = .ok (.invokevirtual 80, 3) := by decide +kernel
theorem dX9_meet_9 : decode cX9_meet 9 = .ok (.ifCond .ne 5, 3) := by decide +kernel
theorem dX9_meet_12 : decode cX9_meet 12 = .ok (.iconst (-1), 1) := by decide +kernel
theorem dX9_meet_13 : decode cX9_meet 13 = .ok (.ireturn, 1) := by decide +kernel
theorem dX9_meet_14 : decode cX9_meet 14 = .ok (.aload_n 0, 1) := by decide +kernel
theorem dX9_meet_15 : decode cX9_meet 15 = .ok (.getfield 12, 3) := by decide +kernel
theorem dX9_meet_18 : decode cX9_meet 18 = .ok (.iload_n 1, 1) := by decide +kernel
theorem dX9_meet_19 : decode cX9_meet 19 = .ok (.iload_n 2, 1) := by decide +kernel
theorem dX9_meet_20 : decode cX9_meet 20 = .ok (.iload_n 3, 1) := by decide +kernel
theorem dX9_meet_21 : decode cX9_meet 21 = .ok (.iload 4, 2) := by decide +kernel
theorem dX9_meet_23 : decode cX9_meet 23 = .ok (.invokevirtual 84, 3) := by decide +kernel
theorem dX9_meet_26 : decode cX9_meet 26 = .ok (.aload_n 0, 1) := by decide +kernel
theorem dX9_meet_27 : decode cX9_meet 27 = .ok (.getfield 33, 3) := by decide +kernel
theorem dX9_meet_30 : decode cX9_meet 30 = .ok (.iconst 1, 1) := by decide +kernel
theorem dX9_meet_31 : decode cX9_meet 31 = .ok (.iconst 1, 1) := by decide +kernel
theorem dX9_meet_32 : decode cX9_meet 32 = .ok (.iconst 0, 1) := by decide +kernel
theorem dX9_meet_33 : decode cX9_meet 33 = .ok (.iconst 0, 1) := by decide +kernel
theorem dX9_meet_34 : decode cX9_meet 34 = .ok (.iconst 0, 1) := by decide +kernel
theorem dX9_meet_35 : decode cX9_meet 35 = .ok (.iconst 0, 1) := by decide +kernel
theorem dX9_meet_36 : decode cX9_meet 36 = .ok (.invokevirtual 76, 3) := by decide +kernel
theorem dX9_meet_39 : decode cX9_meet 39 = .ok (.aload_n 0, 1) := by decide +kernel
theorem dX9_meet_40 : decode cX9_meet 40 = .ok (.getfield 12, 3) := by decide +kernel
theorem dX9_meet_43 : decode cX9_meet 43 = .ok (.invokevirtual 88, 3) := by decide +kernel
theorem dX9_meet_46 : decode cX9_meet 46 = .ok (.ireturn, 1) := by decide +kernel
set_option maxRecDepth 20000 in
theorem ggX9_feed_X7_hasRoomForFeed : GoodIn wsX9_feed wsX7_hasRoomForFeed := goodIn_r _ [6, 7, 27, 28] (by decide +kernel) (by decide +kernel)
set_option maxRecDepth 20000 in
theorem gX9_feed_X7_hasRoomForFeed : GoodIn wsX9_feed (wsV RX9 92 RX7 yX7_hasRoomForFeed wsX7_hasRoomForFeed) := goodIn_app (goodIn_of _ (by decide +kernel)) ggX9_feed_X7_hasRoomForFeed
set_option maxRecDepth 20000 in
theorem ggX9_feed_X7_append : GoodIn wsX9_feed wsX7_append := goodIn_r _ [11, 7, 12, 27, 28] (by decide +kernel) (by decide +kernel)
set_option maxRecDepth 20000 in
theorem gX9_feed_X7_append : GoodIn wsX9_feed (wsV RX9 96 RX7 yX7_append wsX7_append) := goodIn_app (goodIn_of _ (by decide +kernel)) ggX9_feed_X7_append
set_option maxRecDepth 20000 in
theorem ggX9_feed_X7_size : GoodIn wsX9_feed wsX7_size := goodIn_r _ [16, 7, 27, 28] (by decide +kernel) (by decide +kernel)
set_option maxRecDepth 20000 in
theorem gX9_feed_X7_size : GoodIn wsX9_feed (wsV RX9 99 RX7 yX7_size wsX7_size) := goodIn_app (goodIn_of _ (by decide +kernel)) ggX9_feed_X7_size
theorem dX9_feed_0 : decode cX9_feed 0 = .ok (.aload_n 0, 1) := by decide +kernel
theorem dX9_feed_1 : decode cX9_feed 1 = .ok (.getfield 19, 3) := by decide +kernel
theorem dX9_feed_4 : decode cX9_feed 4 = .ok (.invokevirtual 92, 3) := by decide +kernel
theorem dX9_feed_7 : decode cX9_feed 7 = .ok (.ifCond .ne 5, 3) := by decide +kernel
theorem dX9_feed_10 : decode cX9_feed 10 = .ok (.iconst (-1), 1) := by decide +kernel
theorem dX9_feed_11 : decode cX9_feed 11 = .ok (.ireturn, 1) := by decide +kernel
theorem dX9_feed_12 : decode cX9_feed 12 = .ok (.aload_n 0, 1) := by decide +kernel
theorem dX9_feed_13 : decode cX9_feed 13 = .ok (.getfield 19, 3) := by decide +kernel
theorem dX9_feed_16 : decode cX9_feed 16 = .ok (.iload_n 1, 1) := by decide +kernel
theorem dX9_feed_17 : decode cX9_feed 17 = .ok (.invokevirtual 96, 3) := by decide +kernel
theorem dX9_feed_20 : decode cX9_feed 20 = .ok (.aload_n 0, 1) := by decide +kernel
theorem dX9_feed_21 : decode cX9_feed 21 = .ok (.getfield 19, 3) := by decide +kernel
theorem dX9_feed_24 : decode cX9_feed 24 = .ok (.iload_n 2, 1) := by decide +kernel
theorem dX9_feed_25 : decode cX9_feed 25 = .ok (.invokevirtual 96, 3) := by decide +kernel
theorem dX9_feed_28 : decode cX9_feed 28 = .ok (.aload_n 0, 1) := by decide +kernel
theorem dX9_feed_29 : decode cX9_feed 29 = .ok (.getfield 19, 3) := by decide +kernel
theorem dX9_feed_32 : decode cX9_feed 32 = .ok (.iload_n 3, 1) := by decide +kernel
theorem dX9_feed_33 : decode cX9_feed 33 = .ok (.invokevirtual 96, 3) := by decide +kernel
theorem dX9_feed_36 : decode cX9_feed 36 = .ok (.aload_n 0, 1) := by decide +kernel
theorem dX9_feed_37 : decode cX9_feed 37 = .ok (.getfield 19, 3) := by decide +kernel
theorem dX9_feed_40 : decode cX9_feed 40 = .ok (.iload 4, 2) := by decide +kernel
theorem dX9_feed_42 : decode cX9_feed 42 = .ok (.invokevirtual 96, 3) := by decide +kernel
theorem dX9_feed_45 : decode cX9_feed 45 = .ok (.aload_n 0, 1) := by decide +kernel
theorem dX9_feed_46 : decode cX9_feed 46 = .ok (.getfield 19, 3) := by decide +kernel
theorem dX9_feed_49 : decode cX9_feed 49 = .ok (.iload 5, 2) := by decide +kernel
theorem dX9_feed_51 : decode cX9_feed 51 = .ok (.invokevirtual 96, 3) := by decide +kernel
theorem dX9_feed_54 : decode cX9_feed 54 = .ok (.aload_n 0, 1) := by decide +kernel
theorem dX9_feed_55 : decode cX9_feed 55 = .ok (.getfield 19, 3) := by decide +kernel
theorem dX9_feed_58 : decode cX9_feed 58 = .ok (.invokevirtual 99, 3) := by decide +kernel
theorem dX9_feed_61 : decode cX9_feed 61 = .ok (.ireturn, 1) := by decide +kernel
set_option maxRecDepth 20000 in
theorem ggX9_sheet_X7_size : GoodIn wsX9_sheet wsX7_size := goodIn_r _ [7, 8, 89, 90] (by decide +kernel) (by decide +kernel)
set_option maxRecDepth 20000 in
theorem gX9_sheet_X7_size : GoodIn wsX9_sheet (wsV RX9 99 RX7 yX7_size wsX7_size) := goodIn_app (goodIn_of _ (by decide +kernel)) ggX9_sheet_X7_size
set_option maxRecDepth 20000 in
theorem ggX9_sheet_X9_readMeetings : GoodIn wsX9_sheet wsX9_readMeetings := goodIn_r _ [13, 1, 14, 15, 16, 17, 6, 18, 8, 19, 20, 21, 22, 12, 23, 24, 25, 26, 27, 28, 29, 30, 31, 32, 33, 34, 35, 36, 37, 38, 39, 40, 41, 42, 43, 44, 45, 46, 47, 48, 49, 50, 51, 52, 53, 54, 55, 56, 57, 58, 59, 60, 61, 62, 79, 80, 81, 82, 83, 84, 85, 86, 87, 88, 89, 90, 91, 92, 93, 94, 95, 96] (by decide +kernel) (by decide +kernel)
set_option maxRecDepth 20000 in
theorem gX9_sheet_X9_readMeetings : GoodIn wsX9_sheet (wsV RX9 102 RX9 yX9_readMeetings wsX9_readMeetings) := goodIn_app (goodIn_of _ (by decide +kernel)) ggX9_sheet_X9_readMeetings
set_option maxRecDepth 20000 in
theorem ggX9_sheet_X7_empty : GoodIn wsX9_sheet wsX7_empty := goodIn_r _ [66, 8, 89, 90] (by decide +kernel) (by decide +kernel)
set_option maxRecDepth 20000 in
theorem gX9_sheet_X7_empty : GoodIn wsX9_sheet (wsV RX9 106 RX7 yX7_empty wsX7_empty) := goodIn_app (goodIn_of _ (by decide +kernel)) ggX9_sheet_X7_empty
set_option maxRecDepth 20000 in
theorem ggX9_sheet_X0_put : GoodIn wsX9_sheet wsX0_put := goodIn_r _ [71, 72, 73, 74, 75, 76, 77, 78, 97, 98, 99] (by decide +kernel) (by decide +kernel)
set_option maxRecDepth 20000 in
theorem gX9_sheet_X0_put : GoodIn wsX9_sheet (wsV RX9 76 RX0 yX0_put wsX0_put) := goodIn_app (goodIn_of _ (by decide +kernel)) ggX9_sheet_X0_put
theorem dX9_sheet_0 : decode cX9_sheet 0 = .ok (.iload_n 1, 1) := by decide +kernel
theorem dX9_sheet_1 : decode cX9_sheet 1 = .ok (.ifCond .lt 14, 3) := by decide +kernel
theorem dX9_sheet_4 : decode cX9_sheet 4 = .ok (.iload_n 1, 1) := by decide +kernel
theorem dX9_sheet_5 : decode cX9_sheet 5 = .ok (.aload_n 0, 1) := by decide +kernel
theorem dX9_sheet_6 : decode cX9_sheet 6 = .ok (.getfield 19, 3) := by decide +kernel
theorem dX9_sheet_9 : decode cX9_sheet 9 = .ok (.invokevirtual 99, 3) := by decide +kernel
theorem dX9_sheet_12 : decode cX9_sheet 12 = .ok (.if_icmp .le 5, 3) := by decide +kernel
theorem dX9_sheet_15 : decode cX9_sheet 15 = .ok (.iconst (-1), 1) := by decide +kernel
theorem dX9_sheet_16 : decode cX9_sheet 16 = .ok (.ireturn, 1) := by decide +kernel
theorem dX9_sheet_17 : decode cX9_sheet 17 = .ok (.aload_n 0, 1) := by decide +kernel
theorem dX9_sheet_18 : decode cX9_sheet 18 = .ok (.iload_n 1, 1) := by decide +kernel
theorem dX9_sheet_19 : decode cX9_sheet 19 = .ok (.invokevirtual 102, 3) := by decide +kernel
theorem dX9_sheet_22 : decode cX9_sheet 22 = .ok (.istore_n 2, 1) := by decide +kernel
theorem dX9_sheet_23 : decode cX9_sheet 23 = .ok (.aload_n 0, 1) := by decide +kernel
theorem dX9_sheet_24 : decode cX9_sheet 24 = .ok (.getfield 19, 3) := by decide +kernel
theorem dX9_sheet_27 : decode cX9_sheet 27 = .ok (.invokevirtual 106, 3) := by decide +kernel
theorem dX9_sheet_30 : decode cX9_sheet 30 = .ok (.iload_n 2, 1) := by decide +kernel
theorem dX9_sheet_31 : decode cX9_sheet 31 = .ok (.ifCond .le 16, 3) := by decide +kernel
theorem dX9_sheet_34 : decode cX9_sheet 34 = .ok (.aload_n 0, 1) := by decide +kernel
theorem dX9_sheet_35 : decode cX9_sheet 35 = .ok (.getfield 33, 3) := by decide +kernel
theorem dX9_sheet_38 : decode cX9_sheet 38 = .ok (.iconst 1, 1) := by decide +kernel
theorem dX9_sheet_39 : decode cX9_sheet 39 = .ok (.iload_n 2, 1) := by decide +kernel
theorem dX9_sheet_40 : decode cX9_sheet 40 = .ok (.iconst 0, 1) := by decide +kernel
theorem dX9_sheet_41 : decode cX9_sheet 41 = .ok (.iconst 0, 1) := by decide +kernel
theorem dX9_sheet_42 : decode cX9_sheet 42 = .ok (.iconst 0, 1) := by decide +kernel
theorem dX9_sheet_43 : decode cX9_sheet 43 = .ok (.iconst 0, 1) := by decide +kernel
theorem dX9_sheet_44 : decode cX9_sheet 44 = .ok (.invokevirtual 76, 3) := by decide +kernel
theorem dX9_sheet_47 : decode cX9_sheet 47 = .ok (.iload_n 2, 1) := by decide +kernel
theorem dX9_sheet_48 : decode cX9_sheet 48 = .ok (.ireturn, 1) := by decide +kernel
set_option maxRecDepth 20000 in
theorem ggX9_drop_X4_has : GoodIn wsX9_drop wsX4_has := goodIn_r _ [7, 8, 53, 54, 55, 56, 57, 58] (by decide +kernel) (by decide +kernel)
set_option maxRecDepth 20000 in
theorem gX9_drop_X4_has : GoodIn wsX9_drop (wsV RX9 109 RX4 yX4_has wsX4_has) := goodIn_app (goodIn_of _ (by decide +kernel)) ggX9_drop_X4_has
set_option maxRecDepth 20000 in
theorem ggX9_drop_X4_part : GoodIn wsX9_drop wsX4_part := goodIn_r _ [12, 13, 14, 4, 5, 6, 7, 8, 53, 54, 55, 56, 57, 58] (by decide +kernel) (by decide +kernel)
set_option maxRecDepth 20000 in
theorem gX9_drop_X4_part : GoodIn wsX9_drop (wsV RX9 113 RX4 yX4_part wsX4_part) := goodIn_app (goodIn_of _ (by decide +kernel)) ggX9_drop_X4_part
set_option maxRecDepth 20000 in
theorem ggX9_drop_X0_put : GoodIn wsX9_drop wsX0_put := goodIn_r _ [19, 20, 21, 22, 23, 24, 25, 26, 59, 60, 61] (by decide +kernel) (by decide +kernel)
set_option maxRecDepth 20000 in
theorem gX9_drop_X0_put : GoodIn wsX9_drop (wsV RX9 76 RX0 yX0_put wsX0_put) := goodIn_app (goodIn_of _ (by decide +kernel)) ggX9_drop_X0_put
set_option maxRecDepth 20000 in
theorem ggX9_drop_X4_remove : GoodIn wsX9_drop wsX4_remove := goodIn_r _ [30, 13, 8, 31, 32, 33, 34, 14, 4, 5, 6, 7, 35, 36, 37, 38, 39, 40, 41, 42, 53, 54, 55, 56, 57, 58] (by decide +kernel) (by decide +kernel)
set_option maxRecDepth 20000 in
theorem gX9_drop_X4_remove : GoodIn wsX9_drop (wsV RX9 117 RX4 yX4_remove wsX4_remove) := goodIn_app (goodIn_of _ (by decide +kernel)) ggX9_drop_X4_remove
theorem dX9_drop_0 : decode cX9_drop 0 = .ok (.aload_n 0, 1) := by decide +kernel
theorem dX9_drop_1 : decode cX9_drop 1 = .ok (.getfield 12, 3) := by decide +kernel
theorem dX9_drop_4 : decode cX9_drop 4 = .ok (.iload_n 1, 1) := by decide +kernel
theorem dX9_drop_5 : decode cX9_drop 5 = .ok (.invokevirtual 109, 3) := by decide +kernel
theorem dX9_drop_8 : decode cX9_drop 8 = .ok (.ifCond .ne 5, 3) := by decide +kernel
theorem dX9_drop_11 : decode cX9_drop 11 = .ok (.iconst 0, 1) := by decide +kernel
theorem dX9_drop_12 : decode cX9_drop 12 = .ok (.ireturn, 1) := by decide +kernel
theorem dX9_drop_13 : decode cX9_drop 13 = .ok (.aload_n 0, 1) := by decide +kernel
theorem dX9_drop_14 : decode cX9_drop 14 = .ok (.getfield 33, 3) := by decide +kernel
theorem dX9_drop_17 : decode cX9_drop 17 = .ok (.iconst 2, 1) := by decide +kernel
theorem dX9_drop_18 : decode cX9_drop 18 = .ok (.iload_n 1, 1) := by decide +kernel
theorem dX9_drop_19 : decode cX9_drop 19 = .ok (.aload_n 0, 1) := by decide +kernel
theorem dX9_drop_20 : decode cX9_drop 20 = .ok (.getfield 12, 3) := by decide +kernel
theorem dX9_drop_23 : decode cX9_drop 23 = .ok (.iload_n 1, 1) := by decide +kernel
theorem dX9_drop_24 : decode cX9_drop 24 = .ok (.iconst 0, 1) := by decide +kernel
theorem dX9_drop_25 : decode cX9_drop 25 = .ok (.invokevirtual 113, 3) := by decide +kernel
theorem dX9_drop_28 : decode cX9_drop 28 = .ok (.aload_n 0, 1) := by decide +kernel
theorem dX9_drop_29 : decode cX9_drop 29 = .ok (.getfield 12, 3) := by decide +kernel
theorem dX9_drop_32 : decode cX9_drop 32 = .ok (.iload_n 1, 1) := by decide +kernel
theorem dX9_drop_33 : decode cX9_drop 33 = .ok (.iconst 1, 1) := by decide +kernel
theorem dX9_drop_34 : decode cX9_drop 34 = .ok (.invokevirtual 113, 3) := by decide +kernel
theorem dX9_drop_37 : decode cX9_drop 37 = .ok (.aload_n 0, 1) := by decide +kernel
theorem dX9_drop_38 : decode cX9_drop 38 = .ok (.getfield 12, 3) := by decide +kernel
theorem dX9_drop_41 : decode cX9_drop 41 = .ok (.iload_n 1, 1) := by decide +kernel
theorem dX9_drop_42 : decode cX9_drop 42 = .ok (.iconst 2, 1) := by decide +kernel
theorem dX9_drop_43 : decode cX9_drop 43 = .ok (.invokevirtual 113, 3) := by decide +kernel
theorem dX9_drop_46 : decode cX9_drop 46 = .ok (.aload_n 0, 1) := by decide +kernel
theorem dX9_drop_47 : decode cX9_drop 47 = .ok (.getfield 12, 3) := by decide +kernel
theorem dX9_drop_50 : decode cX9_drop 50 = .ok (.iload_n 1, 1) := by decide +kernel
theorem dX9_drop_51 : decode cX9_drop 51 = .ok (.iconst 3, 1) := by decide +kernel
theorem dX9_drop_52 : decode cX9_drop 52 = .ok (.invokevirtual 113, 3) := by decide +kernel
theorem dX9_drop_55 : decode cX9_drop 55 = .ok (.invokevirtual 76, 3) := by decide +kernel
theorem dX9_drop_58 : decode cX9_drop 58 = .ok (.aload_n 0, 1) := by decide +kernel
theorem dX9_drop_59 : decode cX9_drop 59 = .ok (.getfield 12, 3) := by decide +kernel
theorem dX9_drop_62 : decode cX9_drop 62 = .ok (.iload_n 1, 1) := by decide +kernel
theorem dX9_drop_63 : decode cX9_drop 63 = .ok (.invokevirtual 117, 3) := by decide +kernel
theorem dX9_drop_66 : decode cX9_drop 66 = .ok (.iconst 1, 1) := by decide +kernel
theorem dX9_drop_67 : decode cX9_drop 67 = .ok (.ireturn, 1) := by decide +kernel
set_option maxRecDepth 20000 in
theorem ggX9_next_X9_areTwo : GoodIn wsX9_next wsX9_areTwo := goodIn_r _ [7, 8, 9, 10, 6, 11, 12, 36, 37, 38, 39, 40, 41, 42, 43, 44, 45] (by decide +kernel) (by decide +kernel)
set_option maxRecDepth 20000 in
theorem gX9_next_X9_areTwo : GoodIn wsX9_next (wsV RX9 120 RX9 yX9_areTwo wsX9_areTwo) := goodIn_app (goodIn_of _ (by decide +kernel)) ggX9_next_X9_areTwo
set_option maxRecDepth 20000 in
theorem ggX9_next_X8_count : GoodIn wsX9_next wsX8_count := goodIn_r _ [17, 18, 46, 47, 48] (by decide +kernel) (by decide +kernel)
set_option maxRecDepth 20000 in
theorem gX9_next_X8_count : GoodIn wsX9_next (wsV RX9 124 RX8 yX8_count wsX8_count) := goodIn_app (goodIn_of _ (by decide +kernel)) ggX9_next_X8_count
set_option maxRecDepth 20000 in
theorem ggX9_next_X8_change : GoodIn wsX9_next wsX8_change := goodIn_r _ [22, 23, 18, 46, 47, 48] (by decide +kernel) (by decide +kernel)
set_option maxRecDepth 20000 in
theorem gX9_next_X8_change : GoodIn wsX9_next (wsV RX9 125 RX8 yX8_change wsX8_change) := goodIn_app (goodIn_of _ (by decide +kernel)) ggX9_next_X8_change
set_option maxRecDepth 20000 in
theorem ggX9_next_X0_put : GoodIn wsX9_next wsX0_put := goodIn_r _ [28, 29, 30, 31, 32, 33, 34, 35, 49, 50, 51] (by decide +kernel) (by decide +kernel)
set_option maxRecDepth 20000 in
theorem gX9_next_X0_put : GoodIn wsX9_next (wsV RX9 76 RX0 yX0_put wsX0_put) := goodIn_app (goodIn_of _ (by decide +kernel)) ggX9_next_X0_put
theorem dX9_next_0 : decode cX9_next 0 = .ok (.aload_n 0, 1) := by decide +kernel
theorem dX9_next_1 : decode cX9_next 1 = .ok (.iload_n 1, 1) := by decide +kernel
theorem dX9_next_2 : decode cX9_next 2 = .ok (.iload_n 2, 1) := by decide +kernel
theorem dX9_next_3 : decode cX9_next 3 = .ok (.invokevirtual 120, 3) := by decide +kernel
theorem dX9_next_6 : decode cX9_next 6 = .ok (.ifCond .eq 15, 3) := by decide +kernel
theorem dX9_next_9 : decode cX9_next 9 = .ok (.aload_n 0, 1) := by decide +kernel
theorem dX9_next_10 : decode cX9_next 10 = .ok (.getfield 26, 3) := by decide +kernel
theorem dX9_next_13 : decode cX9_next 13 = .ok (.invokevirtual 124, 3) := by decide +kernel
theorem dX9_next_16 : decode cX9_next 16 = .ok (.bipush 40, 2) := by decide +kernel
theorem dX9_next_18 : decode cX9_next 18 = .ok (.if_icmp .lt 5, 3) := by decide +kernel
theorem dX9_next_21 : decode cX9_next 21 = .ok (.iconst (-1), 1) := by decide +kernel
theorem dX9_next_22 : decode cX9_next 22 = .ok (.ireturn, 1) := by decide +kernel
theorem dX9_next_23 : decode cX9_next 23 = .ok (.aload_n 0, 1) := by decide +kernel
theorem dX9_next_24 : decode cX9_next 24 = .ok (.getfield 26, 3) := by decide +kernel
theorem dX9_next_27 : decode cX9_next 27 = .ok (.iload_n 1, 1) := by decide +kernel
theorem dX9_next_28 : decode cX9_next 28 = .ok (.iload_n 2, 1) := by decide +kernel
theorem dX9_next_29 : decode cX9_next 29 = .ok (.iconst 1, 1) := by decide +kernel
theorem dX9_next_30 : decode cX9_next 30 = .ok (.invokevirtual 125, 3) := by decide +kernel
theorem dX9_next_33 : decode cX9_next 33 = .ok (.aload_n 0, 1) := by decide +kernel
theorem dX9_next_34 : decode cX9_next 34 = .ok (.getfield 33, 3) := by decide +kernel
theorem dX9_next_37 : decode cX9_next 37 = .ok (.iconst 3, 1) := by decide +kernel
theorem dX9_next_38 : decode cX9_next 38 = .ok (.iload_n 1, 1) := by decide +kernel
theorem dX9_next_39 : decode cX9_next 39 = .ok (.iload_n 2, 1) := by decide +kernel
theorem dX9_next_40 : decode cX9_next 40 = .ok (.iconst 0, 1) := by decide +kernel
theorem dX9_next_41 : decode cX9_next 41 = .ok (.iconst 0, 1) := by decide +kernel
theorem dX9_next_42 : decode cX9_next 42 = .ok (.iconst 0, 1) := by decide +kernel
theorem dX9_next_43 : decode cX9_next 43 = .ok (.invokevirtual 76, 3) := by decide +kernel
theorem dX9_next_46 : decode cX9_next 46 = .ok (.aload_n 0, 1) := by decide +kernel
theorem dX9_next_47 : decode cX9_next 47 = .ok (.getfield 26, 3) := by decide +kernel
theorem dX9_next_50 : decode cX9_next 50 = .ok (.invokevirtual 124, 3) := by decide +kernel
theorem dX9_next_53 : decode cX9_next 53 = .ok (.ireturn, 1) := by decide +kernel
set_option maxRecDepth 20000 in
theorem ggX9_rule_X9_canBeWorth : GoodIn wsX9_rule wsX9_canBeWorth := goodIn_r _ [6] (by decide +kernel) (by decide +kernel)
set_option maxRecDepth 20000 in
theorem gX9_rule_X9_canBeWorth : GoodIn wsX9_rule (va_wsS RX9 129 yX9_canBeWorth wsX9_canBeWorth) := goodIn_app (goodIn_of _ (by decide +kernel)) ggX9_rule_X9_canBeWorth
set_option maxRecDepth 20000 in
theorem ggX9_rule_X6_worthWon : GoodIn wsX9_rule wsX6_worthWon := goodIn_r _ [11, 12, 49, 50, 51, 52, 53, 54, 55] (by decide +kernel) (by decide +kernel)
set_option maxRecDepth 20000 in
theorem gX9_rule_X6_worthWon : GoodIn wsX9_rule (wsV RX9 132 RX6 yX6_worthWon wsX6_worthWon) := goodIn_app (goodIn_of _ (by decide +kernel)) ggX9_rule_X6_worthWon
set_option maxRecDepth 20000 in
theorem ggX9_rule_X6_worthDrawn : GoodIn wsX9_rule wsX6_worthDrawn := goodIn_r _ [16, 17, 49, 50, 51, 52, 53, 54, 55] (by decide +kernel) (by decide +kernel)
set_option maxRecDepth 20000 in
theorem gX9_rule_X6_worthDrawn : GoodIn wsX9_rule (wsV RX9 135 RX6 yX6_worthDrawn wsX6_worthDrawn) := goodIn_app (goodIn_of _ (by decide +kernel)) ggX9_rule_X6_worthDrawn
set_option maxRecDepth 20000 in
theorem ggX9_rule_X6_worthLost : GoodIn wsX9_rule wsX6_worthLost := goodIn_r _ [21, 22, 49, 50, 51, 52, 53, 54, 55] (by decide +kernel) (by decide +kernel)
set_option maxRecDepth 20000 in
theorem gX9_rule_X6_worthLost : GoodIn wsX9_rule (wsV RX9 138 RX6 yX6_worthLost wsX6_worthLost) := goodIn_app (goodIn_of _ (by decide +kernel)) ggX9_rule_X6_worthLost
set_option maxRecDepth 20000 in
theorem ggX9_rule_X0_put : GoodIn wsX9_rule wsX0_put := goodIn_r _ [27, 28, 29, 30, 31, 32, 33, 34, 56, 57, 58] (by decide +kernel) (by decide +kernel)
set_option maxRecDepth 20000 in
theorem gX9_rule_X0_put : GoodIn wsX9_rule (wsV RX9 76 RX0 yX0_put wsX0_put) := goodIn_app (goodIn_of _ (by decide +kernel)) ggX9_rule_X0_put
set_option maxRecDepth 20000 in
theorem ggX9_rule_X6_setWorth : GoodIn wsX9_rule wsX6_setWorth := goodIn_r _ [38, 12, 17, 22, 49, 50, 51, 52, 53, 54, 55] (by decide +kernel) (by decide +kernel)
set_option maxRecDepth 20000 in
theorem gX9_rule_X6_setWorth : GoodIn wsX9_rule (wsV RX9 141 RX6 yX6_setWorth wsX6_setWorth) := goodIn_app (goodIn_of _ (by decide +kernel)) ggX9_rule_X6_setWorth
theorem dX9_rule_0 : decode cX9_rule 0 = .ok (.iload_n 1, 1) := by decide +kernel
theorem dX9_rule_1 : decode cX9_rule 1 = .ok (.invokestatic 129, 3) := by decide +kernel
theorem dX9_rule_4 : decode cX9_rule 4 = .ok (.ifCond .eq 17, 3) := by decide +kernel
theorem dX9_rule_7 : decode cX9_rule 7 = .ok (.iload_n 2, 1) := by decide +kernel
theorem dX9_rule_8 : decode cX9_rule 8 = .ok (.invokestatic 129, 3) := by decide +kernel
theorem dX9_rule_11 : decode cX9_rule 11 = .ok (.ifCond .eq 10, 3) := by decide +kernel
theorem dX9_rule_14 : decode cX9_rule 14 = .ok (.iload_n 3, 1) := by decide +kernel
theorem dX9_rule_15 : decode cX9_rule 15 = .ok (.invokestatic 129, 3) := by decide +kernel
theorem dX9_rule_18 : decode cX9_rule 18 = .ok (.ifCond .ne 5, 3) := by decide +kernel
theorem dX9_rule_21 : decode cX9_rule 21 = .ok (.iconst 0, 1) := by decide +kernel
theorem dX9_rule_22 : decode cX9_rule 22 = .ok (.ireturn, 1) := by decide +kernel
theorem dX9_rule_23 : decode cX9_rule 23 = .ok (.aload_n 0, 1) := by decide +kernel
theorem dX9_rule_24 : decode cX9_rule 24 = .ok (.getfield 33, 3) := by decide +kernel
theorem dX9_rule_27 : decode cX9_rule 27 = .ok (.iconst 4, 1) := by decide +kernel
theorem dX9_rule_28 : decode cX9_rule 28 = .ok (.aload_n 0, 1) := by decide +kernel
theorem dX9_rule_29 : decode cX9_rule 29 = .ok (.getfield 40, 3) := by decide +kernel
theorem dX9_rule_32 : decode cX9_rule 32 = .ok (.invokevirtual 132, 3) := by decide +kernel
theorem dX9_rule_35 : decode cX9_rule 35 = .ok (.aload_n 0, 1) := by decide +kernel
theorem dX9_rule_36 : decode cX9_rule 36 = .ok (.getfield 40, 3) := by decide +kernel
theorem dX9_rule_39 : decode cX9_rule 39 = .ok (.invokevirtual 135, 3) := by decide +kernel
theorem dX9_rule_42 : decode cX9_rule 42 = .ok (.aload_n 0, 1) := by decide +kernel
theorem dX9_rule_43 : decode cX9_rule 43 = .ok (.getfield 40, 3) := by decide +kernel
theorem dX9_rule_46 : decode cX9_rule 46 = .ok (.invokevirtual 138, 3) := by decide +kernel
theorem dX9_rule_49 : decode cX9_rule 49 = .ok (.iconst 0, 1) := by decide +kernel
theorem dX9_rule_50 : decode cX9_rule 50 = .ok (.iconst 0, 1) := by decide +kernel
theorem dX9_rule_51 : decode cX9_rule 51 = .ok (.invokevirtual 76, 3) := by decide +kernel
theorem dX9_rule_54 : decode cX9_rule 54 = .ok (.aload_n 0, 1) := by decide +kernel
theorem dX9_rule_55 : decode cX9_rule 55 = .ok (.getfield 40, 3) := by decide +kernel
theorem dX9_rule_58 : decode cX9_rule 58 = .ok (.iload_n 1, 1) := by decide +kernel
theorem dX9_rule_59 : decode cX9_rule 59 = .ok (.iload_n 2, 1) := by decide +kernel
theorem dX9_rule_60 : decode cX9_rule 60 = .ok (.iload_n 3, 1) := by decide +kernel
theorem dX9_rule_61 : decode cX9_rule 61 = .ok (.invokevirtual 141, 3) := by decide +kernel
theorem dX9_rule_64 : decode cX9_rule 64 = .ok (.iconst 1, 1) := by decide +kernel
theorem dX9_rule_65 : decode cX9_rule 65 = .ok (.ireturn, 1) := by decide +kernel
set_option maxRecDepth 20000 in
theorem ggX9_tie_X9_isKind : GoodIn wsX9_tie wsX9_isKind := goodIn_r _ [6] (by decide +kernel) (by decide +kernel)
set_option maxRecDepth 20000 in
theorem gX9_tie_X9_isKind : GoodIn wsX9_tie (va_wsS RX9 144 yX9_isKind wsX9_isKind) := goodIn_app (goodIn_of _ (by decide +kernel)) ggX9_tie_X9_isKind
set_option maxRecDepth 20000 in
theorem ggX9_tie_X6_kindCount : GoodIn wsX9_tie wsX6_kindCount := goodIn_r _ [11, 12, 40, 41, 42, 43, 44, 45, 46] (by decide +kernel) (by decide +kernel)
set_option maxRecDepth 20000 in
theorem gX9_tie_X6_kindCount : GoodIn wsX9_tie (wsV RX9 147 RX6 yX6_kindCount wsX6_kindCount) := goodIn_app (goodIn_of _ (by decide +kernel)) ggX9_tie_X6_kindCount
set_option maxRecDepth 20000 in
theorem ggX9_tie_X6_addKind : GoodIn wsX9_tie wsX6_addKind := goodIn_r _ [16, 12, 17, 40, 41, 42, 43, 44, 45, 46] (by decide +kernel) (by decide +kernel)
set_option maxRecDepth 20000 in
theorem gX9_tie_X6_addKind : GoodIn wsX9_tie (wsV RX9 150 RX6 yX6_addKind wsX6_addKind) := goodIn_app (goodIn_of _ (by decide +kernel)) ggX9_tie_X6_addKind
set_option maxRecDepth 20000 in
theorem ggX9_tie_X0_put : GoodIn wsX9_tie wsX0_put := goodIn_r _ [22, 23, 24, 25, 26, 27, 28, 29, 47, 48, 49] (by decide +kernel) (by decide +kernel)
set_option maxRecDepth 20000 in
theorem gX9_tie_X0_put : GoodIn wsX9_tie (wsV RX9 76 RX0 yX0_put wsX0_put) := goodIn_app (goodIn_of _ (by decide +kernel)) ggX9_tie_X0_put
theorem dX9_tie_0 : decode cX9_tie 0 = .ok (.iload_n 1, 1) := by decide +kernel
theorem dX9_tie_1 : decode cX9_tie 1 = .ok (.invokestatic 144, 3) := by decide +kernel
theorem dX9_tie_4 : decode cX9_tie 4 = .ok (.ifCond .eq 14, 3) := by decide +kernel
theorem dX9_tie_7 : decode cX9_tie 7 = .ok (.aload_n 0, 1) := by decide +kernel
theorem dX9_tie_8 : decode cX9_tie 8 = .ok (.getfield 40, 3) := by decide +kernel
theorem dX9_tie_11 : decode cX9_tie 11 = .ok (.invokevirtual 147, 3) := by decide +kernel
theorem dX9_tie_14 : decode cX9_tie 14 = .ok (.iconst 4, 1) := by decide +kernel
theorem dX9_tie_15 : decode cX9_tie 15 = .ok (.if_icmp .lt 5, 3) := by decide +kernel
theorem dX9_tie_18 : decode cX9_tie 18 = .ok (.iconst (-1), 1) := by decide +kernel
theorem dX9_tie_19 : decode cX9_tie 19 = .ok (.ireturn, 1) := by decide +kernel
theorem dX9_tie_20 : decode cX9_tie 20 = .ok (.aload_n 0, 1) := by decide +kernel
theorem dX9_tie_21 : decode cX9_tie 21 = .ok (.getfield 40, 3) := by decide +kernel
theorem dX9_tie_24 : decode cX9_tie 24 = .ok (.iload_n 1, 1) := by decide +kernel
theorem dX9_tie_25 : decode cX9_tie 25 = .ok (.invokevirtual 150, 3) := by decide +kernel
theorem dX9_tie_28 : decode cX9_tie 28 = .ok (.aload_n 0, 1) := by decide +kernel
theorem dX9_tie_29 : decode cX9_tie 29 = .ok (.getfield 33, 3) := by decide +kernel
theorem dX9_tie_32 : decode cX9_tie 32 = .ok (.iconst 5, 1) := by decide +kernel
theorem dX9_tie_33 : decode cX9_tie 33 = .ok (.iconst 0, 1) := by decide +kernel
theorem dX9_tie_34 : decode cX9_tie 34 = .ok (.iconst 0, 1) := by decide +kernel
theorem dX9_tie_35 : decode cX9_tie 35 = .ok (.iconst 0, 1) := by decide +kernel
theorem dX9_tie_36 : decode cX9_tie 36 = .ok (.iconst 0, 1) := by decide +kernel
theorem dX9_tie_37 : decode cX9_tie 37 = .ok (.iconst 0, 1) := by decide +kernel
theorem dX9_tie_38 : decode cX9_tie 38 = .ok (.invokevirtual 76, 3) := by decide +kernel
theorem dX9_tie_41 : decode cX9_tie 41 = .ok (.aload_n 0, 1) := by decide +kernel
theorem dX9_tie_42 : decode cX9_tie 42 = .ok (.getfield 40, 3) := by decide +kernel
theorem dX9_tie_45 : decode cX9_tie 45 = .ok (.invokevirtual 147, 3) := by decide +kernel
theorem dX9_tie_48 : decode cX9_tie 48 = .ok (.ireturn, 1) := by decide +kernel
set_option maxRecDepth 20000 in
theorem ggX9_ties_X6_kindCount : GoodIn wsX9_ties wsX6_kindCount := goodIn_r _ [7, 8, 44, 45, 46, 47, 48, 49, 50] (by decide +kernel) (by decide +kernel)
set_option maxRecDepth 20000 in
theorem gX9_ties_X6_kindCount : GoodIn wsX9_ties (wsV RX9 147 RX6 yX6_kindCount wsX6_kindCount) := goodIn_app (goodIn_of _ (by decide +kernel)) ggX9_ties_X6_kindCount
set_option maxRecDepth 20000 in
theorem ggX9_ties_X6_kindAt : GoodIn wsX9_ties wsX6_kindAt := goodIn_r _ [12, 8, 13, 44, 45, 46, 47, 48, 49, 50] (by decide +kernel) (by decide +kernel)
set_option maxRecDepth 20000 in
theorem gX9_ties_X6_kindAt : GoodIn wsX9_ties (wsV RX9 153 RX6 yX6_kindAt wsX6_kindAt) := goodIn_app (goodIn_of _ (by decide +kernel)) ggX9_ties_X6_kindAt
set_option maxRecDepth 20000 in
theorem ggX9_ties_X0_put : GoodIn wsX9_ties wsX0_put := goodIn_r _ [18, 19, 20, 21, 22, 23, 24, 25, 51, 52, 53] (by decide +kernel) (by decide +kernel)
set_option maxRecDepth 20000 in
theorem gX9_ties_X0_put : GoodIn wsX9_ties (wsV RX9 76 RX0 yX0_put wsX0_put) := goodIn_app (goodIn_of _ (by decide +kernel)) ggX9_ties_X0_put
set_option maxRecDepth 20000 in
theorem ggX9_ties_X6_keepKinds : GoodIn wsX9_ties wsX6_keepKinds := goodIn_r _ [29, 8, 30, 23, 24, 25, 31, 32, 33, 44, 45, 46, 47, 48, 49, 50] (by decide +kernel) (by decide +kernel)
set_option maxRecDepth 20000 in
theorem gX9_ties_X6_keepKinds : GoodIn wsX9_ties (wsV RX9 156 RX6 yX6_keepKinds wsX6_keepKinds) := goodIn_app (goodIn_of _ (by decide +kernel)) ggX9_ties_X6_keepKinds
theorem dX9_ties_0 : decode cX9_ties 0 = .ok (.aload_n 0, 1) := by decide +kernel
theorem dX9_ties_1 : decode cX9_ties 1 = .ok (.getfield 40, 3) := by decide +kernel
theorem dX9_ties_4 : decode cX9_ties 4 = .ok (.invokevirtual 147, 3) := by decide +kernel
theorem dX9_ties_7 : decode cX9_ties 7 = .ok (.istore_n 1, 1) := by decide +kernel
theorem dX9_ties_8 : decode cX9_ties 8 = .ok (.aload_n 0, 1) := by decide +kernel
theorem dX9_ties_9 : decode cX9_ties 9 = .ok (.getfield 33, 3) := by decide +kernel
theorem dX9_ties_12 : decode cX9_ties 12 = .ok (.bipush 6, 2) := by decide +kernel
theorem dX9_ties_14 : decode cX9_ties 14 = .ok (.iload_n 1, 1) := by decide +kernel
theorem dX9_ties_15 : decode cX9_ties 15 = .ok (.aload_n 0, 1) := by decide +kernel
theorem dX9_ties_16 : decode cX9_ties 16 = .ok (.getfield 40, 3) := by decide +kernel
theorem dX9_ties_19 : decode cX9_ties 19 = .ok (.iconst 0, 1) := by decide +kernel
theorem dX9_ties_20 : decode cX9_ties 20 = .ok (.invokevirtual 153, 3) := by decide +kernel
theorem dX9_ties_23 : decode cX9_ties 23 = .ok (.aload_n 0, 1) := by decide +kernel
theorem dX9_ties_24 : decode cX9_ties 24 = .ok (.getfield 40, 3) := by decide +kernel
theorem dX9_ties_27 : decode cX9_ties 27 = .ok (.iconst 1, 1) := by decide +kernel
theorem dX9_ties_28 : decode cX9_ties 28 = .ok (.invokevirtual 153, 3) := by decide +kernel
theorem dX9_ties_31 : decode cX9_ties 31 = .ok (.aload_n 0, 1) := by decide +kernel
theorem dX9_ties_32 : decode cX9_ties 32 = .ok (.getfield 40, 3) := by decide +kernel
theorem dX9_ties_35 : decode cX9_ties 35 = .ok (.iconst 2, 1) := by decide +kernel
theorem dX9_ties_36 : decode cX9_ties 36 = .ok (.invokevirtual 153, 3) := by decide +kernel
theorem dX9_ties_39 : decode cX9_ties 39 = .ok (.aload_n 0, 1) := by decide +kernel
theorem dX9_ties_40 : decode cX9_ties 40 = .ok (.getfield 40, 3) := by decide +kernel
theorem dX9_ties_43 : decode cX9_ties 43 = .ok (.iconst 3, 1) := by decide +kernel
theorem dX9_ties_44 : decode cX9_ties 44 = .ok (.invokevirtual 153, 3) := by decide +kernel
theorem dX9_ties_47 : decode cX9_ties 47 = .ok (.invokevirtual 76, 3) := by decide +kernel
theorem dX9_ties_50 : decode cX9_ties 50 = .ok (.aload_n 0, 1) := by decide +kernel
theorem dX9_ties_51 : decode cX9_ties 51 = .ok (.getfield 40, 3) := by decide +kernel
theorem dX9_ties_54 : decode cX9_ties 54 = .ok (.iconst 0, 1) := by decide +kernel
theorem dX9_ties_55 : decode cX9_ties 55 = .ok (.invokevirtual 156, 3) := by decide +kernel
theorem dX9_ties_58 : decode cX9_ties 58 = .ok (.iload_n 1, 1) := by decide +kernel
theorem dX9_ties_59 : decode cX9_ties 59 = .ok (.ireturn, 1) := by decide +kernel
set_option maxRecDepth 20000 in
theorem ggX9_meeting_X4_part : GoodIn wsX9_meeting wsX4_part := goodIn_r _ [6, 7, 8, 9, 10, 5, 11, 12, 23, 24, 25, 26, 27, 28] (by decide +kernel) (by decide +kernel)
set_option maxRecDepth 20000 in
theorem gX9_meeting_X4_part : GoodIn wsX9_meeting (wsV RX9 113 RX4 yX4_part wsX4_part) := goodIn_app (goodIn_of _ (by decide +kernel)) ggX9_meeting_X4_part
theorem dX9_meeting_0 : decode cX9_meeting 0 = .ok (.aload_n 0, 1) := by decide +kernel
theorem dX9_meeting_1 : decode cX9_meeting 1 = .ok (.getfield 12, 3) := by decide +kernel
theorem dX9_meeting_4 : decode cX9_meeting 4 = .ok (.iload_n 1, 1) := by decide +kernel
theorem dX9_meeting_5 : decode cX9_meeting 5 = .ok (.iload_n 2, 1) := by decide +kernel
theorem dX9_meeting_6 : decode cX9_meeting 6 = .ok (.invokevirtual 113, 3) := by decide +kernel
theorem dX9_meeting_9 : decode cX9_meeting 9 = .ok (.ireturn, 1) := by decide +kernel
set_option maxRecDepth 20000 in
theorem ggX9_over_X9_areTwo : GoodIn wsX9_over wsX9_areTwo := goodIn_r _ [6, 7, 8, 9, 5, 10, 11, 18, 19, 20, 21, 22, 23, 24, 25, 26, 27] (by decide +kernel) (by decide +kernel)
set_option maxRecDepth 20000 in
theorem gX9_over_X9_areTwo : GoodIn wsX9_over (wsV RX9 120 RX9 yX9_areTwo wsX9_areTwo) := goodIn_app (goodIn_of _ (by decide +kernel)) ggX9_over_X9_areTwo
set_option maxRecDepth 20000 in
theorem ggX9_over_X4_wins : GoodIn wsX9_over wsX4_wins := goodIn_r _ [16, 17, 28, 29, 30, 31, 32, 33] (by decide +kernel) (by decide +kernel)
set_option maxRecDepth 20000 in
theorem gX9_over_X4_wins : GoodIn wsX9_over (wsV RX9 159 RX4 yX4_wins wsX4_wins) := goodIn_app (goodIn_of _ (by decide +kernel)) ggX9_over_X4_wins
theorem dX9_over_0 : decode cX9_over 0 = .ok (.aload_n 0, 1) := by decide +kernel
theorem dX9_over_1 : decode cX9_over 1 = .ok (.iload_n 1, 1) := by decide +kernel
theorem dX9_over_2 : decode cX9_over 2 = .ok (.iload_n 2, 1) := by decide +kernel
theorem dX9_over_3 : decode cX9_over 3 = .ok (.invokevirtual 120, 3) := by decide +kernel
theorem dX9_over_6 : decode cX9_over 6 = .ok (.ifCond .eq 15, 3) := by decide +kernel
theorem dX9_over_9 : decode cX9_over 9 = .ok (.aload_n 0, 1) := by decide +kernel
theorem dX9_over_10 : decode cX9_over 10 = .ok (.getfield 12, 3) := by decide +kernel
theorem dX9_over_13 : decode cX9_over 13 = .ok (.iload_n 1, 1) := by decide +kernel
theorem dX9_over_14 : decode cX9_over 14 = .ok (.iload_n 2, 1) := by decide +kernel
theorem dX9_over_15 : decode cX9_over 15 = .ok (.invokevirtual 159, 3) := by decide +kernel
theorem dX9_over_18 : decode cX9_over 18 = .ok (.goto 4, 3) := by decide +kernel
theorem dX9_over_21 : decode cX9_over 21 = .ok (.iconst (-1), 1) := by decide +kernel
theorem dX9_over_22 : decode cX9_over 22 = .ok (.ireturn, 1) := by decide +kernel
set_option maxRecDepth 20000 in
theorem ggX9_score_X9_isPlayer : GoodIn wsX9_score wsX9_isPlayer := goodIn_r _ [8, 3, 37, 38, 39, 40, 41, 42, 43, 44, 45, 46] (by decide +kernel) (by decide +kernel)
set_option maxRecDepth 20000 in
theorem gX9_score_X9_isPlayer : GoodIn wsX9_score (wsV RX9 162 RX9 yX9_isPlayer wsX9_isPlayer) := goodIn_app (goodIn_of _ (by decide +kernel)) ggX9_score_X9_isPlayer
set_option maxRecDepth 20000 in
theorem ggX9_score_X6_fillScores : GoodIn wsX9_score wsX6_fillScores := goodIn_r _ [13, 14, 15, 16, 17, 12, 18, 19, 20, 21, 22, 23, 24, 25, 26, 27, 28, 29, 30, 31, 32, 47, 48, 49, 50, 51, 52, 53, 54, 55, 56, 57, 58, 59] (by decide +kernel) (by decide +kernel)
set_option maxRecDepth 20000 in
theorem gX9_score_X6_fillScores : GoodIn wsX9_score (wsV RX9 165 RX6 yX6_fillScores wsX6_fillScores) := goodIn_app (goodIn_of _ (by decide +kernel)) ggX9_score_X6_fillScores
set_option maxRecDepth 20000 in
theorem ggX9_score_X6_keyOf : GoodIn wsX9_score wsX6_keyOf := goodIn_r _ [36, 14, 47, 48, 49, 50, 51, 52, 53] (by decide +kernel) (by decide +kernel)
set_option maxRecDepth 20000 in
theorem gX9_score_X6_keyOf : GoodIn wsX9_score (wsV RX9 169 RX6 yX6_keyOf wsX6_keyOf) := goodIn_app (goodIn_of _ (by decide +kernel)) ggX9_score_X6_keyOf
theorem dX9_score_0 : decode cX9_score 0 = .ok (.aload_n 0, 1) := by decide +kernel
theorem dX9_score_1 : decode cX9_score 1 = .ok (.iload_n 1, 1) := by decide +kernel
theorem dX9_score_2 : decode cX9_score 2 = .ok (.invokevirtual 162, 3) := by decide +kernel
theorem dX9_score_5 : decode cX9_score 5 = .ok (.ifCond .ne 5, 3) := by decide +kernel
theorem dX9_score_8 : decode cX9_score 8 = .ok (.iconst 0, 1) := by decide +kernel
theorem dX9_score_9 : decode cX9_score 9 = .ok (.ireturn, 1) := by decide +kernel
theorem dX9_score_10 : decode cX9_score 10 = .ok (.aload_n 0, 1) := by decide +kernel
theorem dX9_score_11 : decode cX9_score 11 = .ok (.getfield 40, 3) := by decide +kernel
theorem dX9_score_14 : decode cX9_score 14 = .ok (.aload_n 0, 1) := by decide +kernel
theorem dX9_score_15 : decode cX9_score 15 = .ok (.getfield 12, 3) := by decide +kernel
theorem dX9_score_18 : decode cX9_score 18 = .ok (.aload_n 0, 1) := by decide +kernel
theorem dX9_score_19 : decode cX9_score 19 = .ok (.getfield 72, 3) := by decide +kernel
theorem dX9_score_22 : decode cX9_score 22 = .ok (.invokevirtual 165, 3) := by decide +kernel
theorem dX9_score_25 : decode cX9_score 25 = .ok (.aload_n 0, 1) := by decide +kernel
theorem dX9_score_26 : decode cX9_score 26 = .ok (.getfield 40, 3) := by decide +kernel
theorem dX9_score_29 : decode cX9_score 29 = .ok (.iconst 0, 1) := by decide +kernel
theorem dX9_score_30 : decode cX9_score 30 = .ok (.iload_n 1, 1) := by decide +kernel
theorem dX9_score_31 : decode cX9_score 31 = .ok (.invokevirtual 169, 3) := by decide +kernel
theorem dX9_score_34 : decode cX9_score 34 = .ok (.ireturn, 1) := by decide +kernel
set_option maxRecDepth 20000 in
theorem ggX9_number_X9_isKind : GoodIn wsX9_number wsX9_isKind := goodIn_r _ [7] (by decide +kernel) (by decide +kernel)
set_option maxRecDepth 20000 in
theorem gX9_number_X9_isKind : GoodIn wsX9_number (va_wsS RX9 144 yX9_isKind wsX9_isKind) := goodIn_app (goodIn_of _ (by decide +kernel)) ggX9_number_X9_isKind
set_option maxRecDepth 20000 in
theorem ggX9_number_X9_isPlayer : GoodIn wsX9_number wsX9_isPlayer := goodIn_r _ [11, 3, 68, 69, 70, 71, 72, 73, 74, 75, 76, 77] (by decide +kernel) (by decide +kernel)
set_option maxRecDepth 20000 in
theorem gX9_number_X9_isPlayer : GoodIn wsX9_number (wsV RX9 162 RX9 yX9_isPlayer wsX9_isPlayer) := goodIn_app (goodIn_of _ (by decide +kernel)) ggX9_number_X9_isPlayer
set_option maxRecDepth 20000 in
theorem ggX9_number_X6_fillScores : GoodIn wsX9_number wsX6_fillScores := goodIn_r _ [16, 17, 18, 19, 20, 15, 21, 22, 23, 24, 25, 26, 27, 28, 29, 30, 31, 32, 33, 34, 35, 78, 79, 80, 81, 82, 83, 84, 85, 86, 87, 88, 89, 90] (by decide +kernel) (by decide +kernel)
set_option maxRecDepth 20000 in
theorem gX9_number_X6_fillScores : GoodIn wsX9_number (wsV RX9 165 RX6 yX6_fillScores wsX6_fillScores) := goodIn_app (goodIn_of _ (by decide +kernel)) ggX9_number_X6_fillScores
set_option maxRecDepth 20000 in
theorem ggX9_number_X6_fillKey : GoodIn wsX9_number wsX6_fillKey := goodIn_r _ [39, 17, 40, 41, 42, 15, 43, 25, 26, 27, 28, 29, 30, 44, 45, 46, 47, 48, 49, 50, 51, 52, 53, 54, 32, 33, 34, 35, 31, 55, 56, 57, 58, 59, 60, 61, 62, 63, 64, 65, 66, 18, 19, 20, 21, 22, 23, 24, 78, 79, 80, 81, 82, 83, 84, 85, 86, 87, 88, 89, 90] (by decide +kernel) (by decide +kernel)
set_option maxRecDepth 20000 in
theorem gX9_number_X6_fillKey : GoodIn wsX9_number (wsV RX9 172 RX6 yX6_fillKey wsX6_fillKey) := goodIn_app (goodIn_of _ (by decide +kernel)) ggX9_number_X6_fillKey
set_option maxRecDepth 20000 in
theorem ggX9_number_X6_keyOf : GoodIn wsX9_number wsX6_keyOf := goodIn_r _ [62, 17, 78, 79, 80, 81, 82, 83, 84] (by decide +kernel) (by decide +kernel)
set_option maxRecDepth 20000 in
theorem gX9_number_X6_keyOf : GoodIn wsX9_number (wsV RX9 169 RX6 yX6_keyOf wsX6_keyOf) := goodIn_app (goodIn_of _ (by decide +kernel)) ggX9_number_X6_keyOf
theorem dX9_number_0 : decode cX9_number 0 = .ok (.iload_n 1, 1) := by decide +kernel
theorem dX9_number_1 : decode cX9_number 1 = .ok (.invokestatic 144, 3) := by decide +kernel
theorem dX9_number_4 : decode cX9_number 4 = .ok (.ifCond .eq 11, 3) := by decide +kernel
theorem dX9_number_7 : decode cX9_number 7 = .ok (.aload_n 0, 1) := by decide +kernel
theorem dX9_number_8 : decode cX9_number 8 = .ok (.iload_n 2, 1) := by decide +kernel
theorem dX9_number_9 : decode cX9_number 9 = .ok (.invokevirtual 162, 3) := by decide +kernel
theorem dX9_number_12 : decode cX9_number 12 = .ok (.ifCond .ne 5, 3) := by decide +kernel
theorem dX9_number_15 : decode cX9_number 15 = .ok (.iconst 0, 1) := by decide +kernel
theorem dX9_number_16 : decode cX9_number 16 = .ok (.ireturn, 1) := by decide +kernel
theorem dX9_number_17 : decode cX9_number 17 = .ok (.aload_n 0, 1) := by decide +kernel
theorem dX9_number_18 : decode cX9_number 18 = .ok (.getfield 40, 3) := by decide +kernel
theorem dX9_number_21 : decode cX9_number 21 = .ok (.aload_n 0, 1) := by decide +kernel
theorem dX9_number_22 : decode cX9_number 22 = .ok (.getfield 12, 3) := by decide +kernel
theorem dX9_number_25 : decode cX9_number 25 = .ok (.aload_n 0, 1) := by decide +kernel
theorem dX9_number_26 : decode cX9_number 26 = .ok (.getfield 72, 3) := by decide +kernel
theorem dX9_number_29 : decode cX9_number 29 = .ok (.invokevirtual 165, 3) := by decide +kernel
theorem dX9_number_32 : decode cX9_number 32 = .ok (.aload_n 0, 1) := by decide +kernel
theorem dX9_number_33 : decode cX9_number 33 = .ok (.getfield 40, 3) := by decide +kernel
theorem dX9_number_36 : decode cX9_number 36 = .ok (.aload_n 0, 1) := by decide +kernel
theorem dX9_number_37 : decode cX9_number 37 = .ok (.getfield 12, 3) := by decide +kernel
theorem dX9_number_40 : decode cX9_number 40 = .ok (.aload_n 0, 1) := by decide +kernel
theorem dX9_number_41 : decode cX9_number 41 = .ok (.getfield 72, 3) := by decide +kernel
theorem dX9_number_44 : decode cX9_number 44 = .ok (.iload_n 1, 1) := by decide +kernel
theorem dX9_number_45 : decode cX9_number 45 = .ok (.iconst 1, 1) := by decide +kernel
theorem dX9_number_46 : decode cX9_number 46 = .ok (.invokevirtual 172, 3) := by decide +kernel
theorem dX9_number_49 : decode cX9_number 49 = .ok (.aload_n 0, 1) := by decide +kernel
theorem dX9_number_50 : decode cX9_number 50 = .ok (.getfield 40, 3) := by decide +kernel
theorem dX9_number_53 : decode cX9_number 53 = .ok (.iconst 1, 1) := by decide +kernel
theorem dX9_number_54 : decode cX9_number 54 = .ok (.iload_n 2, 1) := by decide +kernel
theorem dX9_number_55 : decode cX9_number 55 = .ok (.invokevirtual 169, 3) := by decide +kernel
theorem dX9_number_58 : decode cX9_number 58 = .ok (.ireturn, 1) := by decide +kernel
set_option maxRecDepth 20000 in
theorem ggX9_table_X9_isPlayer : GoodIn wsX9_table wsX9_isPlayer := goodIn_r _ [8, 3, 79, 80, 81, 82, 83, 84, 85, 86, 87, 88] (by decide +kernel) (by decide +kernel)
set_option maxRecDepth 20000 in
theorem gX9_table_X9_isPlayer : GoodIn wsX9_table (wsV RX9 162 RX9 yX9_isPlayer wsX9_isPlayer) := goodIn_app (goodIn_of _ (by decide +kernel)) ggX9_table_X9_isPlayer
set_option maxRecDepth 20000 in
theorem ggX9_table_X6_arrange : GoodIn wsX9_table wsX6_arrange := goodIn_r _ [13, 14, 15, 16, 17, 18, 12, 19, 20, 21, 22, 23, 24, 25, 26, 27, 28, 29, 30, 31, 32, 33, 34, 35, 36, 37, 38, 39, 40, 41, 42, 43, 44, 45, 46, 47, 48, 49, 50, 51, 52, 53, 54, 55, 56, 57, 58, 59, 60, 61, 62, 63, 64, 65, 66, 67, 68, 69, 70, 71, 72, 73, 74, 89, 90, 91, 92, 93, 94, 95, 96, 97, 98, 99, 100, 101] (by decide +kernel) (by decide +kernel)
set_option maxRecDepth 20000 in
theorem gX9_table_X6_arrange : GoodIn wsX9_table (wsV RX9 176 RX6 yX6_arrange wsX6_arrange) := goodIn_app (goodIn_of _ (by decide +kernel)) ggX9_table_X6_arrange
set_option maxRecDepth 20000 in
theorem ggX9_table_X6_playerAt : GoodIn wsX9_table wsX6_playerAt := goodIn_r _ [78, 74, 89, 90, 91, 92, 93, 94, 95] (by decide +kernel) (by decide +kernel)
set_option maxRecDepth 20000 in
theorem gX9_table_X6_playerAt : GoodIn wsX9_table (wsV RX9 179 RX6 yX6_playerAt wsX6_playerAt) := goodIn_app (goodIn_of _ (by decide +kernel)) ggX9_table_X6_playerAt
theorem dX9_table_0 : decode cX9_table 0 = .ok (.aload_n 0, 1) := by decide +kernel
theorem dX9_table_1 : decode cX9_table 1 = .ok (.iload_n 1, 1) := by decide +kernel
theorem dX9_table_2 : decode cX9_table 2 = .ok (.invokevirtual 162, 3) := by decide +kernel
theorem dX9_table_5 : decode cX9_table 5 = .ok (.ifCond .ne 5, 3) := by decide +kernel
theorem dX9_table_8 : decode cX9_table 8 = .ok (.iconst (-1), 1) := by decide +kernel
theorem dX9_table_9 : decode cX9_table 9 = .ok (.ireturn, 1) := by decide +kernel
theorem dX9_table_10 : decode cX9_table 10 = .ok (.aload_n 0, 1) := by decide +kernel
theorem dX9_table_11 : decode cX9_table 11 = .ok (.getfield 40, 3) := by decide +kernel
theorem dX9_table_14 : decode cX9_table 14 = .ok (.aload_n 0, 1) := by decide +kernel
theorem dX9_table_15 : decode cX9_table 15 = .ok (.getfield 12, 3) := by decide +kernel
theorem dX9_table_18 : decode cX9_table 18 = .ok (.aload_n 0, 1) := by decide +kernel
theorem dX9_table_19 : decode cX9_table 19 = .ok (.getfield 72, 3) := by decide +kernel
theorem dX9_table_22 : decode cX9_table 22 = .ok (.invokevirtual 176, 3) := by decide +kernel
theorem dX9_table_25 : decode cX9_table 25 = .ok (.aload_n 0, 1) := by decide +kernel
theorem dX9_table_26 : decode cX9_table 26 = .ok (.getfield 40, 3) := by decide +kernel
theorem dX9_table_29 : decode cX9_table 29 = .ok (.iload_n 1, 1) := by decide +kernel
theorem dX9_table_30 : decode cX9_table 30 = .ok (.invokevirtual 179, 3) := by decide +kernel
theorem dX9_table_33 : decode cX9_table 33 = .ok (.ireturn, 1) := by decide +kernel
set_option maxRecDepth 20000 in
theorem ggX9_tied_X9_isPlayer : GoodIn wsX9_tied wsX9_isPlayer := goodIn_r _ [8, 1, 79, 80, 81, 82, 83, 84, 85, 86, 87, 88] (by decide +kernel) (by decide +kernel)
set_option maxRecDepth 20000 in
theorem gX9_tied_X9_isPlayer : GoodIn wsX9_tied (wsV RX9 162 RX9 yX9_isPlayer wsX9_isPlayer) := goodIn_app (goodIn_of _ (by decide +kernel)) ggX9_tied_X9_isPlayer
set_option maxRecDepth 20000 in
theorem ggX9_tied_X6_arrange : GoodIn wsX9_tied wsX6_arrange := goodIn_r _ [13, 14, 15, 16, 17, 18, 12, 19, 20, 21, 22, 23, 24, 25, 26, 27, 28, 29, 30, 31, 32, 33, 34, 35, 36, 37, 38, 39, 40, 41, 42, 43, 44, 45, 46, 47, 48, 49, 50, 51, 52, 53, 54, 55, 56, 57, 58, 59, 60, 61, 62, 63, 64, 65, 66, 67, 68, 69, 70, 71, 72, 73, 74, 89, 90, 91, 92, 93, 94, 95, 96, 97, 98, 99, 100, 101] (by decide +kernel) (by decide +kernel)
set_option maxRecDepth 20000 in
theorem gX9_tied_X6_arrange : GoodIn wsX9_tied (wsV RX9 176 RX6 yX6_arrange wsX6_arrange) := goodIn_app (goodIn_of _ (by decide +kernel)) ggX9_tied_X6_arrange
set_option maxRecDepth 20000 in
theorem ggX9_tied_X6_isTiedWithNext : GoodIn wsX9_tied wsX6_isTiedWithNext := goodIn_r _ [78, 74, 14, 58, 59, 60, 12, 61, 62, 63, 64, 65, 20, 66, 67, 68, 69, 89, 90, 91, 92, 93, 94, 95] (by decide +kernel) (by decide +kernel)
set_option maxRecDepth 20000 in
theorem gX9_tied_X6_isTiedWithNext : GoodIn wsX9_tied (wsV RX9 182 RX6 yX6_isTiedWithNext wsX6_isTiedWithNext) := goodIn_app (goodIn_of _ (by decide +kernel)) ggX9_tied_X6_isTiedWithNext
theorem dX9_tied_0 : decode cX9_tied 0 = .ok (.aload_n 0, 1) := by decide +kernel
theorem dX9_tied_1 : decode cX9_tied 1 = .ok (.iload_n 1, 1) := by decide +kernel
theorem dX9_tied_2 : decode cX9_tied 2 = .ok (.invokevirtual 162, 3) := by decide +kernel
theorem dX9_tied_5 : decode cX9_tied 5 = .ok (.ifCond .eq 13, 3) := by decide +kernel
theorem dX9_tied_8 : decode cX9_tied 8 = .ok (.iload_n 1, 1) := by decide +kernel
theorem dX9_tied_9 : decode cX9_tied 9 = .ok (.aload_n 0, 1) := by decide +kernel
theorem dX9_tied_10 : decode cX9_tied 10 = .ok (.getfield 72, 3) := by decide +kernel
theorem dX9_tied_13 : decode cX9_tied 13 = .ok (.iconst 1, 1) := by decide +kernel
theorem dX9_tied_14 : decode cX9_tied 14 = .ok (.isub, 1) := by decide +kernel
theorem dX9_tied_15 : decode cX9_tied 15 = .ok (.if_icmp .ne 5, 3) := by decide +kernel
theorem dX9_tied_18 : decode cX9_tied 18 = .ok (.iconst 0, 1) := by decide +kernel
theorem dX9_tied_19 : decode cX9_tied 19 = .ok (.ireturn, 1) := by decide +kernel
theorem dX9_tied_20 : decode cX9_tied 20 = .ok (.aload_n 0, 1) := by decide +kernel
theorem dX9_tied_21 : decode cX9_tied 21 = .ok (.getfield 40, 3) := by decide +kernel
theorem dX9_tied_24 : decode cX9_tied 24 = .ok (.aload_n 0, 1) := by decide +kernel
theorem dX9_tied_25 : decode cX9_tied 25 = .ok (.getfield 12, 3) := by decide +kernel
theorem dX9_tied_28 : decode cX9_tied 28 = .ok (.aload_n 0, 1) := by decide +kernel
theorem dX9_tied_29 : decode cX9_tied 29 = .ok (.getfield 72, 3) := by decide +kernel
theorem dX9_tied_32 : decode cX9_tied 32 = .ok (.invokevirtual 176, 3) := by decide +kernel
theorem dX9_tied_35 : decode cX9_tied 35 = .ok (.aload_n 0, 1) := by decide +kernel
theorem dX9_tied_36 : decode cX9_tied 36 = .ok (.getfield 40, 3) := by decide +kernel
theorem dX9_tied_39 : decode cX9_tied 39 = .ok (.iload_n 1, 1) := by decide +kernel
theorem dX9_tied_40 : decode cX9_tied 40 = .ok (.invokevirtual 182, 3) := by decide +kernel
theorem dX9_tied_43 : decode cX9_tied 43 = .ok (.ireturn, 1) := by decide +kernel
set_option maxRecDepth 20000 in
theorem ggX9_heaps_X3_split : GoodIn wsX9_heaps wsX3_split := goodIn_r _ [8, 9, 10, 11, 7, 12, 13, 14, 15, 16, 17, 18, 19, 20, 21, 22, 23, 24, 25, 26, 27, 28, 29, 30, 31, 32, 33, 34, 35, 36, 37, 38, 39, 40, 41, 42, 53, 54, 55, 56, 57, 58, 59, 60] (by decide +kernel) (by decide +kernel)
set_option maxRecDepth 20000 in
theorem gX9_heaps_X3_split : GoodIn wsX9_heaps (wsV RX9 185 RX3 yX3_split wsX3_split) := goodIn_app (goodIn_of _ (by decide +kernel)) ggX9_heaps_X3_split
theorem dX9_heaps_0 : decode cX9_heaps 0 = .ok (.aload_n 0, 1) := by decide +kernel
theorem dX9_heaps_1 : decode cX9_heaps 1 = .ok (.getfield 47, 3) := by decide +kernel
theorem dX9_heaps_4 : decode cX9_heaps 4 = .ok (.aload_n 0, 1) := by decide +kernel
theorem dX9_heaps_5 : decode cX9_heaps 5 = .ok (.getfield 12, 3) := by decide +kernel
theorem dX9_heaps_8 : decode cX9_heaps 8 = .ok (.aload_n 0, 1) := by decide +kernel
theorem dX9_heaps_9 : decode cX9_heaps 9 = .ok (.getfield 72, 3) := by decide +kernel
theorem dX9_heaps_12 : decode cX9_heaps 12 = .ok (.invokevirtual 185, 3) := by decide +kernel
theorem dX9_heaps_15 : decode cX9_heaps 15 = .ok (.ireturn, 1) := by decide +kernel
set_option maxRecDepth 20000 in
theorem ggX9_heap_X9_isPlayer : GoodIn wsX9_heap wsX9_isPlayer := goodIn_r _ [8, 3, 51, 52, 53, 54, 55, 56, 57, 58, 59, 60] (by decide +kernel) (by decide +kernel)
set_option maxRecDepth 20000 in
theorem gX9_heap_X9_isPlayer : GoodIn wsX9_heap (wsV RX9 162 RX9 yX9_isPlayer wsX9_isPlayer) := goodIn_app (goodIn_of _ (by decide +kernel)) ggX9_heap_X9_isPlayer
set_option maxRecDepth 20000 in
theorem ggX9_heap_X3_split : GoodIn wsX9_heap wsX3_split := goodIn_r _ [13, 14, 15, 16, 12, 17, 18, 19, 20, 21, 22, 23, 24, 25, 26, 27, 28, 29, 30, 7, 31, 32, 33, 34, 35, 36, 37, 38, 39, 40, 41, 42, 43, 44, 45, 46, 61, 62, 63, 64, 65, 66, 67, 68] (by decide +kernel) (by decide +kernel)
set_option maxRecDepth 20000 in
theorem gX9_heap_X3_split : GoodIn wsX9_heap (wsV RX9 185 RX3 yX3_split wsX3_split) := goodIn_app (goodIn_of _ (by decide +kernel)) ggX9_heap_X3_split
set_option maxRecDepth 20000 in
theorem ggX9_heap_X3_heapOf : GoodIn wsX9_heap wsX3_heapOf := goodIn_r _ [50, 46, 61, 62] (by decide +kernel) (by decide +kernel)
set_option maxRecDepth 20000 in
theorem gX9_heap_X3_heapOf : GoodIn wsX9_heap (wsV RX9 189 RX3 yX3_heapOf wsX3_heapOf) := goodIn_app (goodIn_of _ (by decide +kernel)) ggX9_heap_X3_heapOf
theorem dX9_heap_0 : decode cX9_heap 0 = .ok (.aload_n 0, 1) := by decide +kernel
theorem dX9_heap_1 : decode cX9_heap 1 = .ok (.iload_n 1, 1) := by decide +kernel
theorem dX9_heap_2 : decode cX9_heap 2 = .ok (.invokevirtual 162, 3) := by decide +kernel
theorem dX9_heap_5 : decode cX9_heap 5 = .ok (.ifCond .ne 5, 3) := by decide +kernel
theorem dX9_heap_8 : decode cX9_heap 8 = .ok (.iconst (-1), 1) := by decide +kernel
theorem dX9_heap_9 : decode cX9_heap 9 = .ok (.ireturn, 1) := by decide +kernel
theorem dX9_heap_10 : decode cX9_heap 10 = .ok (.aload_n 0, 1) := by decide +kernel
theorem dX9_heap_11 : decode cX9_heap 11 = .ok (.getfield 47, 3) := by decide +kernel
theorem dX9_heap_14 : decode cX9_heap 14 = .ok (.aload_n 0, 1) := by decide +kernel
theorem dX9_heap_15 : decode cX9_heap 15 = .ok (.getfield 12, 3) := by decide +kernel
theorem dX9_heap_18 : decode cX9_heap 18 = .ok (.aload_n 0, 1) := by decide +kernel
theorem dX9_heap_19 : decode cX9_heap 19 = .ok (.getfield 72, 3) := by decide +kernel
theorem dX9_heap_22 : decode cX9_heap 22 = .ok (.invokevirtual 185, 3) := by decide +kernel
theorem dX9_heap_25 : decode cX9_heap 25 = .ok (.pop, 1) := by decide +kernel
theorem dX9_heap_26 : decode cX9_heap 26 = .ok (.aload_n 0, 1) := by decide +kernel
theorem dX9_heap_27 : decode cX9_heap 27 = .ok (.getfield 47, 3) := by decide +kernel
theorem dX9_heap_30 : decode cX9_heap 30 = .ok (.iload_n 1, 1) := by decide +kernel
theorem dX9_heap_31 : decode cX9_heap 31 = .ok (.invokevirtual 189, 3) := by decide +kernel
theorem dX9_heap_34 : decode cX9_heap 34 = .ok (.ireturn, 1) := by decide +kernel
set_option maxRecDepth 20000 in
theorem ggX9_gap_X9_isPlayer : GoodIn wsX9_gap wsX9_isPlayer := goodIn_r _ [8, 1, 77, 78, 79, 80, 81, 82, 83, 84, 85, 86] (by decide +kernel) (by decide +kernel)
set_option maxRecDepth 20000 in
theorem gX9_gap_X9_isPlayer : GoodIn wsX9_gap (wsV RX9 162 RX9 yX9_isPlayer wsX9_isPlayer) := goodIn_app (goodIn_of _ (by decide +kernel)) ggX9_gap_X9_isPlayer
set_option maxRecDepth 20000 in
theorem ggX9_gap_X4_joinAll : GoodIn wsX9_gap wsX4_joinAll := goodIn_r _ [13, 14, 7, 15, 16, 17, 18, 12, 19, 20, 21, 22, 23, 24, 25, 26, 27, 28, 29, 30, 31, 32, 33, 34, 35, 87, 88, 89, 90, 91, 92] (by decide +kernel) (by decide +kernel)
set_option maxRecDepth 20000 in
theorem gX9_gap_X4_joinAll : GoodIn wsX9_gap (wsV RX9 192 RX4 yX4_joinAll wsX4_joinAll) := goodIn_app (goodIn_of _ (by decide +kernel)) ggX9_gap_X4_joinAll
set_option maxRecDepth 20000 in
theorem ggX9_gap_X2_solve : GoodIn wsX9_gap wsX2_solve := goodIn_r _ [40, 41, 42, 43, 44, 39, 45, 46, 47, 21, 22, 12, 23, 24, 25, 26, 27, 28, 29, 30, 31, 32, 33, 48, 49, 50, 51, 52, 53, 54, 55, 56, 93, 94, 87, 88, 89, 90, 91, 92] (by decide +kernel) (by decide +kernel)
set_option maxRecDepth 20000 in
theorem gX9_gap_X2_solve : GoodIn wsX9_gap (wsV RX9 195 RX2 yX2_solve wsX2_solve) := goodIn_app (goodIn_of _ (by decide +kernel)) ggX9_gap_X2_solve
set_option maxRecDepth 20000 in
theorem ggX9_gap_X2_numerator : GoodIn wsX9_gap wsX2_numerator := goodIn_r _ [60, 61, 62, 63, 39, 64, 46, 65, 66, 67, 68, 69, 70, 71, 72, 41, 93, 94] (by decide +kernel) (by decide +kernel)
set_option maxRecDepth 20000 in
theorem gX9_gap_X2_numerator : GoodIn wsX9_gap (wsV RX9 199 RX2 yX2_numerator wsX2_numerator) := goodIn_app (goodIn_of _ (by decide +kernel)) ggX9_gap_X2_numerator
set_option maxRecDepth 20000 in
theorem ggX9_gap_X2_denominator : GoodIn wsX9_gap wsX2_denominator := goodIn_r _ [76, 41, 65, 66, 67, 39, 68, 69, 70, 71, 72, 61, 62, 63, 64, 46, 93, 94] (by decide +kernel) (by decide +kernel)
set_option maxRecDepth 20000 in
theorem gX9_gap_X2_denominator : GoodIn wsX9_gap (wsV RX9 203 RX2 yX2_denominator wsX2_denominator) := goodIn_app (goodIn_of _ (by decide +kernel)) ggX9_gap_X2_denominator
theorem dX9_gap_0 : decode cX9_gap 0 = .ok (.aload_n 0, 1) := by decide +kernel
theorem dX9_gap_1 : decode cX9_gap 1 = .ok (.iload_n 1, 1) := by decide +kernel
theorem dX9_gap_2 : decode cX9_gap 2 = .ok (.invokevirtual 162, 3) := by decide +kernel
theorem dX9_gap_5 : decode cX9_gap 5 = .ok (.ifCond .eq 39, 3) := by decide +kernel
theorem dX9_gap_8 : decode cX9_gap 8 = .ok (.iload_n 2, 1) := by decide +kernel
theorem dX9_gap_9 : decode cX9_gap 9 = .ok (.ifCond .eq 8, 3) := by decide +kernel
theorem dX9_gap_12 : decode cX9_gap 12 = .ok (.iload_n 2, 1) := by decide +kernel
theorem dX9_gap_13 : decode cX9_gap 13 = .ok (.iconst 1, 1) := by decide +kernel
theorem dX9_gap_14 : decode cX9_gap 14 = .ok (.if_icmp .ne 30, 3) := by decide +kernel
theorem dX9_gap_17 : decode cX9_gap 17 = .ok (.aload_n 0, 1) := by decide +kernel
theorem dX9_gap_18 : decode cX9_gap 18 = .ok (.getfield 72, 3) := by decide +kernel
theorem dX9_gap_21 : decode cX9_gap 21 = .ok (.bipush 6, 2) := by decide +kernel
theorem dX9_gap_23 : decode cX9_gap 23 = .ok (.if_icmp .gt 21, 3) := by decide +kernel
theorem dX9_gap_26 : decode cX9_gap 26 = .ok (.aload_n 0, 1) := by decide +kernel
theorem dX9_gap_27 : decode cX9_gap 27 = .ok (.getfield 12, 3) := by decide +kernel
theorem dX9_gap_30 : decode cX9_gap 30 = .ok (.aload_n 0, 1) := by decide +kernel
theorem dX9_gap_31 : decode cX9_gap 31 = .ok (.getfield 72, 3) := by decide +kernel
theorem dX9_gap_34 : decode cX9_gap 34 = .ok (.invokevirtual 192, 3) := by decide +kernel
theorem dX9_gap_37 : decode cX9_gap 37 = .ok (.ifCond .eq 7, 3) := by decide +kernel
theorem dX9_gap_40 : decode cX9_gap 40 = .ok (.iconst 1, 1) := by decide +kernel
theorem dX9_gap_41 : decode cX9_gap 41 = .ok (.goto 4, 3) := by decide +kernel
theorem dX9_gap_44 : decode cX9_gap 44 = .ok (.iconst 0, 1) := by decide +kernel
theorem dX9_gap_45 : decode cX9_gap 45 = .ok (.istore_n 3, 1) := by decide +kernel
theorem dX9_gap_46 : decode cX9_gap 46 = .ok (.iload_n 3, 1) := by decide +kernel
theorem dX9_gap_47 : decode cX9_gap 47 = .ok (.ifCond .eq 21, 3) := by decide +kernel
theorem dX9_gap_50 : decode cX9_gap 50 = .ok (.aload_n 0, 1) := by decide +kernel
theorem dX9_gap_51 : decode cX9_gap 51 = .ok (.getfield 54, 3) := by decide +kernel
theorem dX9_gap_54 : decode cX9_gap 54 = .ok (.aload_n 0, 1) := by decide +kernel
theorem dX9_gap_55 : decode cX9_gap 55 = .ok (.getfield 12, 3) := by decide +kernel
theorem dX9_gap_58 : decode cX9_gap 58 = .ok (.aload_n 0, 1) := by decide +kernel
theorem dX9_gap_59 : decode cX9_gap 59 = .ok (.getfield 72, 3) := by decide +kernel
theorem dX9_gap_62 : decode cX9_gap 62 = .ok (.invokevirtual 195, 3) := by decide +kernel
theorem dX9_gap_65 : decode cX9_gap 65 = .ok (.ifCond .ne 5, 3) := by decide +kernel
theorem dX9_gap_68 : decode cX9_gap 68 = .ok (.lconst 0, 1) := by decide +kernel
theorem dX9_gap_69 : decode cX9_gap 69 = .ok (.lreturn, 1) := by decide +kernel
theorem dX9_gap_70 : decode cX9_gap 70 = .ok (.iload_n 2, 1) := by decide +kernel
theorem dX9_gap_71 : decode cX9_gap 71 = .ok (.ifCond .ne 18, 3) := by decide +kernel
theorem dX9_gap_74 : decode cX9_gap 74 = .ok (.aload_n 0, 1) := by decide +kernel
theorem dX9_gap_75 : decode cX9_gap 75 = .ok (.getfield 54, 3) := by decide +kernel
theorem dX9_gap_78 : decode cX9_gap 78 = .ok (.aload_n 0, 1) := by decide +kernel
theorem dX9_gap_79 : decode cX9_gap 79 = .ok (.getfield 72, 3) := by decide +kernel
theorem dX9_gap_82 : decode cX9_gap 82 = .ok (.iload_n 1, 1) := by decide +kernel
theorem dX9_gap_83 : decode cX9_gap 83 = .ok (.invokevirtual 199, 3) := by decide +kernel
theorem dX9_gap_86 : decode cX9_gap 86 = .ok (.goto 15, 3) := by decide +kernel
theorem dX9_gap_89 : decode cX9_gap 89 = .ok (.aload_n 0, 1) := by decide +kernel
theorem dX9_gap_90 : decode cX9_gap 90 = .ok (.getfield 54, 3) := by decide +kernel
theorem dX9_gap_93 : decode cX9_gap 93 = .ok (.aload_n 0, 1) := by decide +kernel
theorem dX9_gap_94 : decode cX9_gap 94 = .ok (.getfield 72, 3) := by decide +kernel
theorem dX9_gap_97 : decode cX9_gap 97 = .ok (.iload_n 1, 1) := by decide +kernel
theorem dX9_gap_98 : decode cX9_gap 98 = .ok (.invokevirtual 203, 3) := by decide +kernel
theorem dX9_gap_101 : decode cX9_gap 101 = .ok (.lreturn, 1) := by decide +kernel
set_option maxRecDepth 20000 in
theorem ggX9_cost_X5_costOf : GoodIn wsX9_cost wsX5_costOf := goodIn_r _ [8, 9, 10, 11, 12, 13, 14, 15, 7, 16, 17, 18, 19, 20, 21, 22, 33, 34, 35, 36, 37, 38] (by decide +kernel) (by decide +kernel)
set_option maxRecDepth 20000 in
theorem gX9_cost_X5_costOf : GoodIn wsX9_cost (wsV RX9 206 RX5 yX5_costOf wsX5_costOf) := goodIn_app (goodIn_of _ (by decide +kernel)) ggX9_cost_X5_costOf
theorem dX9_cost_0 : decode cX9_cost 0 = .ok (.aload_n 0, 1) := by decide +kernel
theorem dX9_cost_1 : decode cX9_cost 1 = .ok (.getfield 61, 3) := by decide +kernel
theorem dX9_cost_4 : decode cX9_cost 4 = .ok (.aload_n 0, 1) := by decide +kernel
theorem dX9_cost_5 : decode cX9_cost 5 = .ok (.getfield 12, 3) := by decide +kernel
theorem dX9_cost_8 : decode cX9_cost 8 = .ok (.aload_n 0, 1) := by decide +kernel
theorem dX9_cost_9 : decode cX9_cost 9 = .ok (.getfield 72, 3) := by decide +kernel
theorem dX9_cost_12 : decode cX9_cost 12 = .ok (.lload_n 1, 1) := by decide +kernel
theorem dX9_cost_13 : decode cX9_cost 13 = .ok (.invokevirtual 206, 3) := by decide +kernel
theorem dX9_cost_16 : decode cX9_cost 16 = .ok (.ireturn, 1) := by decide +kernel
set_option maxRecDepth 20000 in
theorem ggX9_best_X5_search : GoodIn wsX9_best wsX5_search := goodIn_r _ [8, 9, 10, 11, 12, 13, 14, 15, 16, 17, 18, 19, 20, 21, 22, 23, 24, 7, 25, 26, 27, 28, 29, 30, 31, 32, 33, 34, 35, 36, 51, 52, 53, 54, 55, 56, 57, 58, 59, 60] (by decide +kernel) (by decide +kernel)
set_option maxRecDepth 20000 in
theorem gX9_best_X5_search : GoodIn wsX9_best (wsV RX9 210 RX5 yX5_search wsX5_search) := goodIn_app (goodIn_of _ (by decide +kernel)) ggX9_best_X5_search
set_option maxRecDepth 20000 in
theorem ggX9_best_X5_leastCost : GoodIn wsX9_best wsX5_leastCost := goodIn_r _ [40, 11, 19, 20, 21, 51, 52, 53, 54] (by decide +kernel) (by decide +kernel)
set_option maxRecDepth 20000 in
theorem gX9_best_X5_leastCost : GoodIn wsX9_best (wsV RX9 213 RX5 yX5_leastCost wsX5_leastCost) := goodIn_app (goodIn_of _ (by decide +kernel)) ggX9_best_X5_leastCost
theorem dX9_best_0 : decode cX9_best 0 = .ok (.aload_n 0, 1) := by decide +kernel
theorem dX9_best_1 : decode cX9_best 1 = .ok (.getfield 61, 3) := by decide +kernel
theorem dX9_best_4 : decode cX9_best 4 = .ok (.aload_n 0, 1) := by decide +kernel
theorem dX9_best_5 : decode cX9_best 5 = .ok (.getfield 12, 3) := by decide +kernel
theorem dX9_best_8 : decode cX9_best 8 = .ok (.aload_n 0, 1) := by decide +kernel
theorem dX9_best_9 : decode cX9_best 9 = .ok (.getfield 72, 3) := by decide +kernel
theorem dX9_best_12 : decode cX9_best 12 = .ok (.invokevirtual 210, 3) := by decide +kernel
theorem dX9_best_15 : decode cX9_best 15 = .ok (.aload_n 0, 1) := by decide +kernel
theorem dX9_best_16 : decode cX9_best 16 = .ok (.getfield 61, 3) := by decide +kernel
theorem dX9_best_19 : decode cX9_best 19 = .ok (.aload_n 0, 1) := by decide +kernel
theorem dX9_best_20 : decode cX9_best 20 = .ok (.getfield 72, 3) := by decide +kernel
theorem dX9_best_23 : decode cX9_best 23 = .ok (.invokevirtual 213, 3) := by decide +kernel
theorem dX9_best_26 : decode cX9_best 26 = .ok (.ireturn, 1) := by decide +kernel
set_option maxRecDepth 20000 in
theorem ggX9_rows_X5_search : GoodIn wsX9_rows wsX5_search := goodIn_r _ [8, 9, 10, 11, 12, 13, 14, 15, 16, 17, 18, 19, 20, 21, 22, 23, 24, 7, 25, 26, 27, 28, 29, 30, 31, 32, 33, 34, 35, 36, 51, 52, 53, 54, 55, 56, 57, 58, 59, 60] (by decide +kernel) (by decide +kernel)
set_option maxRecDepth 20000 in
theorem gX9_rows_X5_search : GoodIn wsX9_rows (wsV RX9 210 RX5 yX5_search wsX5_search) := goodIn_app (goodIn_of _ (by decide +kernel)) ggX9_rows_X5_search
set_option maxRecDepth 20000 in
theorem ggX9_rows_X5_howMany : GoodIn wsX9_rows wsX5_howMany := goodIn_r _ [40, 12, 19, 20, 21, 51, 52, 53, 54] (by decide +kernel) (by decide +kernel)
set_option maxRecDepth 20000 in
theorem gX9_rows_X5_howMany : GoodIn wsX9_rows (wsV RX9 216 RX5 yX5_howMany wsX5_howMany) := goodIn_app (goodIn_of _ (by decide +kernel)) ggX9_rows_X5_howMany
theorem dX9_rows_0 : decode cX9_rows 0 = .ok (.aload_n 0, 1) := by decide +kernel
theorem dX9_rows_1 : decode cX9_rows 1 = .ok (.getfield 61, 3) := by decide +kernel
theorem dX9_rows_4 : decode cX9_rows 4 = .ok (.aload_n 0, 1) := by decide +kernel
theorem dX9_rows_5 : decode cX9_rows 5 = .ok (.getfield 12, 3) := by decide +kernel
theorem dX9_rows_8 : decode cX9_rows 8 = .ok (.aload_n 0, 1) := by decide +kernel
theorem dX9_rows_9 : decode cX9_rows 9 = .ok (.getfield 72, 3) := by decide +kernel
theorem dX9_rows_12 : decode cX9_rows 12 = .ok (.invokevirtual 210, 3) := by decide +kernel
theorem dX9_rows_15 : decode cX9_rows 15 = .ok (.aload_n 0, 1) := by decide +kernel
theorem dX9_rows_16 : decode cX9_rows 16 = .ok (.getfield 61, 3) := by decide +kernel
theorem dX9_rows_19 : decode cX9_rows 19 = .ok (.aload_n 0, 1) := by decide +kernel
theorem dX9_rows_20 : decode cX9_rows 20 = .ok (.getfield 72, 3) := by decide +kernel
theorem dX9_rows_23 : decode cX9_rows 23 = .ok (.invokevirtual 216, 3) := by decide +kernel
theorem dX9_rows_26 : decode cX9_rows 26 = .ok (.ireturn, 1) := by decide +kernel
set_option maxRecDepth 20000 in
theorem ggX9_first_X5_search : GoodIn wsX9_first wsX5_search := goodIn_r _ [8, 9, 10, 11, 12, 13, 14, 15, 16, 17, 18, 19, 20, 21, 22, 23, 24, 7, 25, 26, 27, 28, 29, 30, 31, 32, 33, 34, 35, 36, 56, 57, 58, 59, 60, 61, 62, 63, 64, 65] (by decide +kernel) (by decide +kernel)
set_option maxRecDepth 20000 in
theorem gX9_first_X5_search : GoodIn wsX9_first (wsV RX9 210 RX5 yX5_search wsX5_search) := goodIn_app (goodIn_of _ (by decide +kernel)) ggX9_first_X5_search
set_option maxRecDepth 20000 in
theorem ggX9_first_X5_leastRow : GoodIn wsX9_first wsX5_leastRow := goodIn_r _ [40, 41, 19, 20, 21, 42, 43, 44, 7, 45, 11, 28, 29, 30, 31, 26, 27, 32, 33, 34, 16, 35, 36, 56, 57, 58, 59, 60, 61, 62, 63, 64, 65] (by decide +kernel) (by decide +kernel)
set_option maxRecDepth 20000 in
theorem gX9_first_X5_leastRow : GoodIn wsX9_first (wsV RX9 219 RX5 yX5_leastRow wsX5_leastRow) := goodIn_app (goodIn_of _ (by decide +kernel)) ggX9_first_X5_leastRow
theorem dX9_first_0 : decode cX9_first 0 = .ok (.aload_n 0, 1) := by decide +kernel
theorem dX9_first_1 : decode cX9_first 1 = .ok (.getfield 61, 3) := by decide +kernel
theorem dX9_first_4 : decode cX9_first 4 = .ok (.aload_n 0, 1) := by decide +kernel
theorem dX9_first_5 : decode cX9_first 5 = .ok (.getfield 12, 3) := by decide +kernel
theorem dX9_first_8 : decode cX9_first 8 = .ok (.aload_n 0, 1) := by decide +kernel
theorem dX9_first_9 : decode cX9_first 9 = .ok (.getfield 72, 3) := by decide +kernel
theorem dX9_first_12 : decode cX9_first 12 = .ok (.invokevirtual 210, 3) := by decide +kernel
theorem dX9_first_15 : decode cX9_first 15 = .ok (.aload_n 0, 1) := by decide +kernel
theorem dX9_first_16 : decode cX9_first 16 = .ok (.getfield 61, 3) := by decide +kernel
theorem dX9_first_19 : decode cX9_first 19 = .ok (.aload_n 0, 1) := by decide +kernel
theorem dX9_first_20 : decode cX9_first 20 = .ok (.getfield 12, 3) := by decide +kernel
theorem dX9_first_23 : decode cX9_first 23 = .ok (.aload_n 0, 1) := by decide +kernel
theorem dX9_first_24 : decode cX9_first 24 = .ok (.getfield 72, 3) := by decide +kernel
theorem dX9_first_27 : decode cX9_first 27 = .ok (.invokevirtual 219, 3) := by decide +kernel
theorem dX9_first_30 : decode cX9_first 30 = .ok (.lreturn, 1) := by decide +kernel
set_option maxRecDepth 20000 in
theorem ggX9_bound_X1_countRings : GoodIn wsX9_bound wsX1_countRings := goodIn_r _ [8, 9, 10, 11, 12, 13, 14, 15, 16, 17, 18, 7, 19, 20, 21, 22, 23, 34, 35, 36, 37, 38, 39, 40, 41, 42] (by decide +kernel) (by decide +kernel)
set_option maxRecDepth 20000 in
theorem gX9_bound_X1_countRings : GoodIn wsX9_bound (wsV RX9 223 RX1 yX1_countRings wsX1_countRings) := goodIn_app (goodIn_of _ (by decide +kernel)) ggX9_bound_X1_countRings
theorem dX9_bound_0 : decode cX9_bound 0 = .ok (.aload_n 0, 1) := by decide +kernel
theorem dX9_bound_1 : decode cX9_bound 1 = .ok (.getfield 68, 3) := by decide +kernel
theorem dX9_bound_4 : decode cX9_bound 4 = .ok (.aload_n 0, 1) := by decide +kernel
theorem dX9_bound_5 : decode cX9_bound 5 = .ok (.getfield 12, 3) := by decide +kernel
theorem dX9_bound_8 : decode cX9_bound 8 = .ok (.aload_n 0, 1) := by decide +kernel
theorem dX9_bound_9 : decode cX9_bound 9 = .ok (.getfield 72, 3) := by decide +kernel
theorem dX9_bound_12 : decode cX9_bound 12 = .ok (.invokevirtual 223, 3) := by decide +kernel
theorem dX9_bound_15 : decode cX9_bound 15 = .ok (.ireturn, 1) := by decide +kernel
set_option maxRecDepth 20000 in
theorem ggX9_core_X1_leastCore : GoodIn wsX9_core wsX1_leastCore := goodIn_r _ [8, 9, 10, 11, 7, 12, 13, 14, 15, 16, 17, 18, 19, 20, 21, 22, 23, 24, 25, 26, 27, 28, 29, 30, 31, 32, 33, 34, 35, 46, 47, 48, 49, 50, 51, 52, 53, 54] (by decide +kernel) (by decide +kernel)
set_option maxRecDepth 20000 in
theorem gX9_core_X1_leastCore : GoodIn wsX9_core (wsV RX9 226 RX1 yX1_leastCore wsX1_leastCore) := goodIn_app (goodIn_of _ (by decide +kernel)) ggX9_core_X1_leastCore
theorem dX9_core_0 : decode cX9_core 0 = .ok (.aload_n 0, 1) := by decide +kernel
theorem dX9_core_1 : decode cX9_core 1 = .ok (.getfield 68, 3) := by decide +kernel
theorem dX9_core_4 : decode cX9_core 4 = .ok (.aload_n 0, 1) := by decide +kernel
theorem dX9_core_5 : decode cX9_core 5 = .ok (.getfield 12, 3) := by decide +kernel
theorem dX9_core_8 : decode cX9_core 8 = .ok (.aload_n 0, 1) := by decide +kernel
theorem dX9_core_9 : decode cX9_core 9 = .ok (.getfield 72, 3) := by decide +kernel
theorem dX9_core_12 : decode cX9_core 12 = .ok (.invokevirtual 226, 3) := by decide +kernel
theorem dX9_core_15 : decode cX9_core 15 = .ok (.ireturn, 1) := by decide +kernel
set_option maxRecDepth 20000 in
theorem ggX9_champion_X1_findChampion : GoodIn wsX9_champion wsX1_findChampion := goodIn_r _ [8, 9, 10, 11, 12, 7, 13, 14, 15, 16, 17, 18, 19, 20, 21, 22, 33, 34, 35, 36, 37, 38, 39, 40, 41] (by decide +kernel) (by decide +kernel)
set_option maxRecDepth 20000 in
theorem gX9_champion_X1_findChampion : GoodIn wsX9_champion (wsV RX9 229 RX1 yX1_findChampion wsX1_findChampion) := goodIn_app (goodIn_of _ (by decide +kernel)) ggX9_champion_X1_findChampion
theorem dX9_champion_0 : decode cX9_champion 0 = .ok (.aload_n 0, 1) := by decide +kernel
theorem dX9_champion_1 : decode cX9_champion 1 = .ok (.getfield 68, 3) := by decide +kernel
theorem dX9_champion_4 : decode cX9_champion 4 = .ok (.aload_n 0, 1) := by decide +kernel
theorem dX9_champion_5 : decode cX9_champion 5 = .ok (.getfield 12, 3) := by decide +kernel
theorem dX9_champion_8 : decode cX9_champion 8 = .ok (.aload_n 0, 1) := by decide +kernel
theorem dX9_champion_9 : decode cX9_champion 9 = .ok (.getfield 72, 3) := by decide +kernel
theorem dX9_champion_12 : decode cX9_champion 12 = .ok (.invokevirtual 229, 3) := by decide +kernel
theorem dX9_champion_15 : decode cX9_champion 15 = .ok (.ireturn, 1) := by decide +kernel
set_option maxRecDepth 20000 in
theorem ggX9_walks_X1_countWalks : GoodIn wsX9_walks wsX1_countWalks := goodIn_r _ [8, 9, 10, 11, 12, 7, 13, 14, 15, 16, 17, 18, 19, 20, 21, 22, 23, 24, 25, 26, 27, 28, 29, 30, 31, 32, 33, 34, 35, 36, 37, 38, 49, 50, 51, 52, 53, 54, 55, 56, 57] (by decide +kernel) (by decide +kernel)
set_option maxRecDepth 20000 in
theorem gX9_walks_X1_countWalks : GoodIn wsX9_walks (wsV RX9 232 RX1 yX1_countWalks wsX1_countWalks) := goodIn_app (goodIn_of _ (by decide +kernel)) ggX9_walks_X1_countWalks
theorem dX9_walks_0 : decode cX9_walks 0 = .ok (.aload_n 0, 1) := by decide +kernel
theorem dX9_walks_1 : decode cX9_walks 1 = .ok (.getfield 68, 3) := by decide +kernel
theorem dX9_walks_4 : decode cX9_walks 4 = .ok (.aload_n 0, 1) := by decide +kernel
theorem dX9_walks_5 : decode cX9_walks 5 = .ok (.getfield 12, 3) := by decide +kernel
theorem dX9_walks_8 : decode cX9_walks 8 = .ok (.aload_n 0, 1) := by decide +kernel
theorem dX9_walks_9 : decode cX9_walks 9 = .ok (.getfield 72, 3) := by decide +kernel
theorem dX9_walks_12 : decode cX9_walks 12 = .ok (.invokevirtual 232, 3) := by decide +kernel
theorem dX9_walks_15 : decode cX9_walks 15 = .ok (.ireturn, 1) := by decide +kernel
set_option maxRecDepth 20000 in
theorem ggX9_may_X9_isPlayer : GoodIn wsX9_may wsX9_isPlayer := goodIn_r _ [8, 3, 44, 45, 46, 47, 48, 49, 50, 51, 52, 53] (by decide +kernel) (by decide +kernel)
set_option maxRecDepth 20000 in
theorem gX9_may_X9_isPlayer : GoodIn wsX9_may (wsV RX9 162 RX9 yX9_isPlayer wsX9_isPlayer) := goodIn_app (goodIn_of _ (by decide +kernel)) ggX9_may_X9_isPlayer
set_option maxRecDepth 20000 in
theorem ggX9_may_X8_leastHindrance : GoodIn wsX9_may wsX8_leastHindrance := goodIn_r _ [13, 14, 15, 16, 17, 12, 18, 19, 20, 21, 22, 23, 24, 25, 26, 27, 28, 29, 30, 7, 31, 32, 33, 34, 35, 36, 37, 38, 39, 40, 41, 42, 43, 54, 55, 56, 57, 58, 59, 60, 61, 62] (by decide +kernel) (by decide +kernel)
set_option maxRecDepth 20000 in
theorem gX9_may_X8_leastHindrance : GoodIn wsX9_may (wsV RX9 235 RX8 yX8_leastHindrance wsX8_leastHindrance) := goodIn_app (goodIn_of _ (by decide +kernel)) ggX9_may_X8_leastHindrance
theorem dX9_may_0 : decode cX9_may 0 = .ok (.aload_n 0, 1) := by decide +kernel
theorem dX9_may_1 : decode cX9_may 1 = .ok (.iload_n 1, 1) := by decide +kernel
theorem dX9_may_2 : decode cX9_may 2 = .ok (.invokevirtual 162, 3) := by decide +kernel
theorem dX9_may_5 : decode cX9_may 5 = .ok (.ifCond .ne 5, 3) := by decide +kernel
theorem dX9_may_8 : decode cX9_may 8 = .ok (.iconst (-1), 1) := by decide +kernel
theorem dX9_may_9 : decode cX9_may 9 = .ok (.ireturn, 1) := by decide +kernel
theorem dX9_may_10 : decode cX9_may 10 = .ok (.aload_n 0, 1) := by decide +kernel
theorem dX9_may_11 : decode cX9_may 11 = .ok (.getfield 26, 3) := by decide +kernel
theorem dX9_may_14 : decode cX9_may 14 = .ok (.aload_n 0, 1) := by decide +kernel
theorem dX9_may_15 : decode cX9_may 15 = .ok (.getfield 12, 3) := by decide +kernel
theorem dX9_may_18 : decode cX9_may 18 = .ok (.aload_n 0, 1) := by decide +kernel
theorem dX9_may_19 : decode cX9_may 19 = .ok (.getfield 72, 3) := by decide +kernel
theorem dX9_may_22 : decode cX9_may 22 = .ok (.iload_n 1, 1) := by decide +kernel
theorem dX9_may_23 : decode cX9_may 23 = .ok (.invokevirtual 235, 3) := by decide +kernel
theorem dX9_may_26 : decode cX9_may 26 = .ok (.ifCond .ne 7, 3) := by decide +kernel
theorem dX9_may_29 : decode cX9_may 29 = .ok (.iconst 1, 1) := by decide +kernel
theorem dX9_may_30 : decode cX9_may 30 = .ok (.goto 4, 3) := by decide +kernel
theorem dX9_may_33 : decode cX9_may 33 = .ok (.iconst 0, 1) := by decide +kernel
theorem dX9_may_34 : decode cX9_may 34 = .ok (.ireturn, 1) := by decide +kernel
set_option maxRecDepth 20000 in
theorem ggX9_why_X9_isPlayer : GoodIn wsX9_why wsX9_isPlayer := goodIn_r _ [8, 3, 44, 45, 46, 47, 48, 49, 50, 51, 52, 53] (by decide +kernel) (by decide +kernel)
set_option maxRecDepth 20000 in
theorem gX9_why_X9_isPlayer : GoodIn wsX9_why (wsV RX9 162 RX9 yX9_isPlayer wsX9_isPlayer) := goodIn_app (goodIn_of _ (by decide +kernel)) ggX9_why_X9_isPlayer
set_option maxRecDepth 20000 in
theorem ggX9_why_X8_leastHindrance : GoodIn wsX9_why wsX8_leastHindrance := goodIn_r _ [13, 14, 15, 16, 17, 12, 18, 19, 20, 21, 22, 23, 24, 25, 26, 27, 28, 29, 30, 7, 31, 32, 33, 34, 35, 36, 37, 38, 39, 40, 41, 42, 43, 54, 55, 56, 57, 58, 59, 60, 61, 62] (by decide +kernel) (by decide +kernel)
set_option maxRecDepth 20000 in
theorem gX9_why_X8_leastHindrance : GoodIn wsX9_why (wsV RX9 235 RX8 yX8_leastHindrance wsX8_leastHindrance) := goodIn_app (goodIn_of _ (by decide +kernel)) ggX9_why_X8_leastHindrance
theorem dX9_why_0 : decode cX9_why 0 = .ok (.aload_n 0, 1) := by decide +kernel
theorem dX9_why_1 : decode cX9_why 1 = .ok (.iload_n 1, 1) := by decide +kernel
theorem dX9_why_2 : decode cX9_why 2 = .ok (.invokevirtual 162, 3) := by decide +kernel
theorem dX9_why_5 : decode cX9_why 5 = .ok (.ifCond .eq 22, 3) := by decide +kernel
theorem dX9_why_8 : decode cX9_why 8 = .ok (.aload_n 0, 1) := by decide +kernel
theorem dX9_why_9 : decode cX9_why 9 = .ok (.getfield 26, 3) := by decide +kernel
theorem dX9_why_12 : decode cX9_why 12 = .ok (.aload_n 0, 1) := by decide +kernel
theorem dX9_why_13 : decode cX9_why 13 = .ok (.getfield 12, 3) := by decide +kernel
theorem dX9_why_16 : decode cX9_why 16 = .ok (.aload_n 0, 1) := by decide +kernel
theorem dX9_why_17 : decode cX9_why 17 = .ok (.getfield 72, 3) := by decide +kernel
theorem dX9_why_20 : decode cX9_why 20 = .ok (.iload_n 1, 1) := by decide +kernel
theorem dX9_why_21 : decode cX9_why 21 = .ok (.invokevirtual 235, 3) := by decide +kernel
theorem dX9_why_24 : decode cX9_why 24 = .ok (.goto 4, 3) := by decide +kernel
theorem dX9_why_27 : decode cX9_why 27 = .ok (.iconst (-1), 1) := by decide +kernel
theorem dX9_why_28 : decode cX9_why 28 = .ok (.ireturn, 1) := by decide +kernel
set_option maxRecDepth 20000 in
theorem ggX9_undo_X0_size : GoodIn wsX9_undo wsX0_size := goodIn_r _ [6, 7, 112, 113, 114] (by decide +kernel) (by decide +kernel)
set_option maxRecDepth 20000 in
theorem gX9_undo_X0_size : GoodIn wsX9_undo (wsV RX9 239 RX0 yX0_size wsX0_size) := goodIn_app (goodIn_of _ (by decide +kernel)) ggX9_undo_X0_size
set_option maxRecDepth 20000 in
theorem ggX9_undo_X9_undoLatest : GoodIn wsX9_undo wsX9_undoLatest := goodIn_r _ [12, 1, 13, 14, 15, 16, 17, 18, 19, 5, 20, 7, 21, 22, 23, 24, 25, 26, 27, 28, 29, 30, 31, 32, 33, 34, 35, 36, 37, 38, 39, 40, 41, 42, 43, 44, 45, 46, 47, 48, 49, 50, 51, 52, 53, 54, 55, 56, 57, 58, 59, 60, 61, 62, 63, 64, 65, 66, 67, 68, 69, 70, 71, 72, 73, 74, 75, 76, 77, 78, 79, 80, 81, 82, 83, 84, 85, 86, 87, 88, 89, 90, 91, 11, 92, 93, 94, 95, 96, 97, 102, 103, 104, 105, 106, 107, 108, 109, 110, 111, 112, 113, 114, 115, 116, 117, 118, 119, 120, 121, 122, 123, 124, 125, 126, 127, 128, 129, 130] (by decide +kernel) (by decide +kernel)
set_option maxRecDepth 20000 in
theorem gX9_undo_X9_undoLatest : GoodIn wsX9_undo (wsV RX9 240 RX9 yX9_undoLatest wsX9_undoLatest) := goodIn_app (goodIn_of _ (by decide +kernel)) ggX9_undo_X9_undoLatest
set_option maxRecDepth 20000 in
theorem ggX9_undo_X0_forgetLatest : GoodIn wsX9_undo wsX0_forgetLatest := goodIn_r _ [101, 7, 26, 22, 23, 24, 5, 25, 112, 113, 114] (by decide +kernel) (by decide +kernel)
set_option maxRecDepth 20000 in
theorem gX9_undo_X0_forgetLatest : GoodIn wsX9_undo (wsV RX9 243 RX0 yX0_forgetLatest wsX0_forgetLatest) := goodIn_app (goodIn_of _ (by decide +kernel)) ggX9_undo_X0_forgetLatest
theorem dX9_undo_0 : decode cX9_undo 0 = .ok (.iload_n 1, 1) := by decide +kernel
theorem dX9_undo_1 : decode cX9_undo 1 = .ok (.ifCond .lt 14, 3) := by decide +kernel
theorem dX9_undo_4 : decode cX9_undo 4 = .ok (.iload_n 1, 1) := by decide +kernel
theorem dX9_undo_5 : decode cX9_undo 5 = .ok (.aload_n 0, 1) := by decide +kernel
theorem dX9_undo_6 : decode cX9_undo 6 = .ok (.getfield 33, 3) := by decide +kernel
theorem dX9_undo_9 : decode cX9_undo 9 = .ok (.invokevirtual 239, 3) := by decide +kernel
theorem dX9_undo_12 : decode cX9_undo 12 = .ok (.if_icmp .le 5, 3) := by decide +kernel
theorem dX9_undo_15 : decode cX9_undo 15 = .ok (.iconst (-1), 1) := by decide +kernel
theorem dX9_undo_16 : decode cX9_undo 16 = .ok (.ireturn, 1) := by decide +kernel
theorem dX9_undo_17 : decode cX9_undo 17 = .ok (.iconst 0, 1) := by decide +kernel
theorem dX9_undo_18 : decode cX9_undo 18 = .ok (.istore_n 2, 1) := by decide +kernel
theorem dX9_undo_19 : decode cX9_undo 19 = .ok (.iload_n 2, 1) := by decide +kernel
theorem dX9_undo_20 : decode cX9_undo 20 = .ok (.iload_n 1, 1) := by decide +kernel
theorem dX9_undo_21 : decode cX9_undo 21 = .ok (.if_icmp .ge 20, 3) := by decide +kernel
theorem dX9_undo_24 : decode cX9_undo 24 = .ok (.aload_n 0, 1) := by decide +kernel
theorem dX9_undo_25 : decode cX9_undo 25 = .ok (.invokevirtual 240, 3) := by decide +kernel
theorem dX9_undo_28 : decode cX9_undo 28 = .ok (.aload_n 0, 1) := by decide +kernel
theorem dX9_undo_29 : decode cX9_undo 29 = .ok (.getfield 33, 3) := by decide +kernel
theorem dX9_undo_32 : decode cX9_undo 32 = .ok (.invokevirtual 243, 3) := by decide +kernel
theorem dX9_undo_35 : decode cX9_undo 35 = .ok (.iinc 2 1, 3) := by decide +kernel
theorem dX9_undo_38 : decode cX9_undo 38 = .ok (.goto (-19), 3) := by decide +kernel
theorem dX9_undo_41 : decode cX9_undo 41 = .ok (.iload_n 1, 1) := by decide +kernel
theorem dX9_undo_42 : decode cX9_undo 42 = .ok (.ireturn, 1) := by decide +kernel
set_option maxRecDepth 20000 in
theorem ggX9_about_X4_count : GoodIn wsX9_about wsX4_count := goodIn_r _ [11, 12, 74, 75, 76, 77, 78, 79] (by decide +kernel) (by decide +kernel)
set_option maxRecDepth 20000 in
theorem gX9_about_X4_count : GoodIn wsX9_about (wsV RX9 88 RX4 yX4_count wsX4_count) := goodIn_app (goodIn_of _ (by decide +kernel)) ggX9_about_X4_count
set_option maxRecDepth 20000 in
theorem ggX9_about_X8_count : GoodIn wsX9_about wsX8_count := goodIn_r _ [17, 18, 80, 81, 82] (by decide +kernel) (by decide +kernel)
set_option maxRecDepth 20000 in
theorem gX9_about_X8_count : GoodIn wsX9_about (wsV RX9 124 RX8 yX8_count wsX8_count) := goodIn_app (goodIn_of _ (by decide +kernel)) ggX9_about_X8_count
set_option maxRecDepth 20000 in
theorem ggX9_about_X6_kindCount : GoodIn wsX9_about wsX6_kindCount := goodIn_r _ [23, 24, 83, 84, 85, 86, 87, 88, 89] (by decide +kernel) (by decide +kernel)
set_option maxRecDepth 20000 in
theorem gX9_about_X6_kindCount : GoodIn wsX9_about (wsV RX9 147 RX6 yX6_kindCount wsX6_kindCount) := goodIn_app (goodIn_of _ (by decide +kernel)) ggX9_about_X6_kindCount
set_option maxRecDepth 20000 in
theorem ggX9_about_X0_size : GoodIn wsX9_about wsX0_size := goodIn_r _ [29, 30, 90, 91, 92] (by decide +kernel) (by decide +kernel)
set_option maxRecDepth 20000 in
theorem gX9_about_X0_size : GoodIn wsX9_about (wsV RX9 239 RX0 yX0_size wsX0_size) := goodIn_app (goodIn_of _ (by decide +kernel)) ggX9_about_X0_size
set_option maxRecDepth 20000 in
theorem ggX9_about_X7_size : GoodIn wsX9_about wsX7_size := goodIn_r _ [35, 36, 93, 94] (by decide +kernel) (by decide +kernel)
set_option maxRecDepth 20000 in
theorem gX9_about_X7_size : GoodIn wsX9_about (wsV RX9 99 RX7 yX7_size wsX7_size) := goodIn_app (goodIn_of _ (by decide +kernel)) ggX9_about_X7_size
set_option maxRecDepth 20000 in
theorem ggX9_about_X4_joinAll : GoodIn wsX9_about wsX4_joinAll := goodIn_r _ [40, 41, 42, 43, 44, 45, 46, 10, 47, 48, 49, 50, 51, 52, 53, 54, 55, 56, 57, 58, 59, 60, 61, 62, 63, 74, 75, 76, 77, 78, 79] (by decide +kernel) (by decide +kernel)
set_option maxRecDepth 20000 in
theorem gX9_about_X4_joinAll : GoodIn wsX9_about (wsV RX9 192 RX4 yX4_joinAll wsX4_joinAll) := goodIn_app (goodIn_of _ (by decide +kernel)) ggX9_about_X4_joinAll
theorem dX9_about_0 : decode cX9_about 0 = .ok (.iload_n 1, 1) := by decide +kernel
theorem dX9_about_1 : decode cX9_about 1 = .ok (.tableswitch 108 0 6 #[43, 48, 56, 64, 72, 80, 88], 43) := by decide +kernel
theorem dX9_about_44 : decode cX9_about 44 = .ok (.aload_n 0, 1) := by decide +kernel
theorem dX9_about_45 : decode cX9_about 45 = .ok (.getfield 72, 3) := by decide +kernel
theorem dX9_about_48 : decode cX9_about 48 = .ok (.ireturn, 1) := by decide +kernel
theorem dX9_about_49 : decode cX9_about 49 = .ok (.aload_n 0, 1) := by decide +kernel
theorem dX9_about_50 : decode cX9_about 50 = .ok (.getfield 12, 3) := by decide +kernel
theorem dX9_about_53 : decode cX9_about 53 = .ok (.invokevirtual 88, 3) := by decide +kernel
theorem dX9_about_56 : decode cX9_about 56 = .ok (.ireturn, 1) := by decide +kernel
theorem dX9_about_57 : decode cX9_about 57 = .ok (.aload_n 0, 1) := by decide +kernel
theorem dX9_about_58 : decode cX9_about 58 = .ok (.getfield 26, 3) := by decide +kernel
theorem dX9_about_61 : decode cX9_about 61 = .ok (.invokevirtual 124, 3) := by decide +kernel
theorem dX9_about_64 : decode cX9_about 64 = .ok (.ireturn, 1) := by decide +kernel
theorem dX9_about_65 : decode cX9_about 65 = .ok (.aload_n 0, 1) := by decide +kernel
theorem dX9_about_66 : decode cX9_about 66 = .ok (.getfield 40, 3) := by decide +kernel
theorem dX9_about_69 : decode cX9_about 69 = .ok (.invokevirtual 147, 3) := by decide +kernel
theorem dX9_about_72 : decode cX9_about 72 = .ok (.ireturn, 1) := by decide +kernel
theorem dX9_about_73 : decode cX9_about 73 = .ok (.aload_n 0, 1) := by decide +kernel
theorem dX9_about_74 : decode cX9_about 74 = .ok (.getfield 33, 3) := by decide +kernel
theorem dX9_about_77 : decode cX9_about 77 = .ok (.invokevirtual 239, 3) := by decide +kernel
theorem dX9_about_80 : decode cX9_about 80 = .ok (.ireturn, 1) := by decide +kernel
theorem dX9_about_81 : decode cX9_about 81 = .ok (.aload_n 0, 1) := by decide +kernel
theorem dX9_about_82 : decode cX9_about 82 = .ok (.getfield 19, 3) := by decide +kernel
theorem dX9_about_85 : decode cX9_about 85 = .ok (.invokevirtual 99, 3) := by decide +kernel
theorem dX9_about_88 : decode cX9_about 88 = .ok (.ireturn, 1) := by decide +kernel
theorem dX9_about_89 : decode cX9_about 89 = .ok (.aload_n 0, 1) := by decide +kernel
theorem dX9_about_90 : decode cX9_about 90 = .ok (.getfield 12, 3) := by decide +kernel
theorem dX9_about_93 : decode cX9_about 93 = .ok (.aload_n 0, 1) := by decide +kernel
theorem dX9_about_94 : decode cX9_about 94 = .ok (.getfield 72, 3) := by decide +kernel
theorem dX9_about_97 : decode cX9_about 97 = .ok (.invokevirtual 192, 3) := by decide +kernel
theorem dX9_about_100 : decode cX9_about 100 = .ok (.ifCond .eq 7, 3) := by decide +kernel
theorem dX9_about_103 : decode cX9_about 103 = .ok (.iconst 1, 1) := by decide +kernel
theorem dX9_about_104 : decode cX9_about 104 = .ok (.goto 4, 3) := by decide +kernel
theorem dX9_about_107 : decode cX9_about 107 = .ok (.iconst 0, 1) := by decide +kernel
theorem dX9_about_108 : decode cX9_about 108 = .ok (.ireturn, 1) := by decide +kernel
theorem dX9_about_109 : decode cX9_about 109 = .ok (.iconst (-1), 1) := by decide +kernel
theorem dX9_about_110 : decode cX9_about 110 = .ok (.ireturn, 1) := by decide +kernel
theorem dX9_isPlayer_0 : decode cX9_isPlayer 0 = .ok (.iload_n 1, 1) := by decide +kernel
theorem dX9_isPlayer_1 : decode cX9_isPlayer 1 = .ok (.ifCond .lt 15, 3) := by decide +kernel
theorem dX9_isPlayer_4 : decode cX9_isPlayer 4 = .ok (.iload_n 1, 1) := by decide +kernel
theorem dX9_isPlayer_5 : decode cX9_isPlayer 5 = .ok (.aload_n 0, 1) := by decide +kernel
theorem dX9_isPlayer_6 : decode cX9_isPlayer 6 = .ok (.getfield 72, 3) := by decide +kernel
theorem dX9_isPlayer_9 : decode cX9_isPlayer 9 = .ok (.if_icmp .ge 7, 3) := by decide +kernel
theorem dX9_isPlayer_12 : decode cX9_isPlayer 12 = .ok (.iconst 1, 1) := by decide +kernel
theorem dX9_isPlayer_13 : decode cX9_isPlayer 13 = .ok (.goto 4, 3) := by decide +kernel
theorem dX9_isPlayer_16 : decode cX9_isPlayer 16 = .ok (.iconst 0, 1) := by decide +kernel
theorem dX9_isPlayer_17 : decode cX9_isPlayer 17 = .ok (.ireturn, 1) := by decide +kernel
set_option maxRecDepth 20000 in
theorem ggX9_areTwo_X9_isPlayer : GoodIn wsX9_areTwo wsX9_isPlayer := goodIn_r _ [5, 6, 7, 8, 9, 10, 11, 12, 13, 14, 15, 16] (by decide +kernel) (by decide +kernel)
set_option maxRecDepth 20000 in
theorem gX9_areTwo_X9_isPlayer : GoodIn wsX9_areTwo (wsV RX9 162 RX9 yX9_isPlayer wsX9_isPlayer) := goodIn_app (goodIn_of _ (by decide +kernel)) ggX9_areTwo_X9_isPlayer
theorem dX9_areTwo_0 : decode cX9_areTwo 0 = .ok (.aload_n 0, 1) := by decide +kernel
theorem dX9_areTwo_1 : decode cX9_areTwo 1 = .ok (.iload_n 1, 1) := by decide +kernel
theorem dX9_areTwo_2 : decode cX9_areTwo 2 = .ok (.invokevirtual 162, 3) := by decide +kernel
theorem dX9_areTwo_5 : decode cX9_areTwo 5 = .ok (.ifCond .eq 20, 3) := by decide +kernel
theorem dX9_areTwo_8 : decode cX9_areTwo 8 = .ok (.aload_n 0, 1) := by decide +kernel
theorem dX9_areTwo_9 : decode cX9_areTwo 9 = .ok (.iload_n 2, 1) := by decide +kernel
theorem dX9_areTwo_10 : decode cX9_areTwo 10 = .ok (.invokevirtual 162, 3) := by decide +kernel
theorem dX9_areTwo_13 : decode cX9_areTwo 13 = .ok (.ifCond .eq 12, 3) := by decide +kernel
theorem dX9_areTwo_16 : decode cX9_areTwo 16 = .ok (.iload_n 1, 1) := by decide +kernel
theorem dX9_areTwo_17 : decode cX9_areTwo 17 = .ok (.iload_n 2, 1) := by decide +kernel
theorem dX9_areTwo_18 : decode cX9_areTwo 18 = .ok (.if_icmp .eq 7, 3) := by decide +kernel
theorem dX9_areTwo_21 : decode cX9_areTwo 21 = .ok (.iconst 1, 1) := by decide +kernel
theorem dX9_areTwo_22 : decode cX9_areTwo 22 = .ok (.goto 4, 3) := by decide +kernel
theorem dX9_areTwo_25 : decode cX9_areTwo 25 = .ok (.iconst 0, 1) := by decide +kernel
theorem dX9_areTwo_26 : decode cX9_areTwo 26 = .ok (.ireturn, 1) := by decide +kernel
set_option maxRecDepth 20000 in
theorem ggX9_canMeet_X9_areTwo : GoodIn wsX9_canMeet wsX9_areTwo := goodIn_r _ [6, 7, 8, 9, 5, 10, 11, 21, 22, 23, 24, 25, 26, 27, 28, 29, 30] (by decide +kernel) (by decide +kernel)
set_option maxRecDepth 20000 in
theorem gX9_canMeet_X9_areTwo : GoodIn wsX9_canMeet (wsV RX9 120 RX9 yX9_areTwo wsX9_areTwo) := goodIn_app (goodIn_of _ (by decide +kernel)) ggX9_canMeet_X9_areTwo
set_option maxRecDepth 20000 in
theorem ggX9_canMeet_X9_canBePoints : GoodIn wsX9_canMeet wsX9_canBePoints := goodIn_r _ [14] (by decide +kernel) (by decide +kernel)
set_option maxRecDepth 20000 in
theorem gX9_canMeet_X9_canBePoints : GoodIn wsX9_canMeet (va_wsS RX9 246 yX9_canBePoints wsX9_canBePoints) := goodIn_app (goodIn_of _ (by decide +kernel)) ggX9_canMeet_X9_canBePoints
set_option maxRecDepth 20000 in
theorem ggX9_canMeet_X4_count : GoodIn wsX9_canMeet wsX4_count := goodIn_r _ [19, 20, 31, 32, 33, 34, 35, 36] (by decide +kernel) (by decide +kernel)
set_option maxRecDepth 20000 in
theorem gX9_canMeet_X4_count : GoodIn wsX9_canMeet (wsV RX9 88 RX4 yX4_count wsX4_count) := goodIn_app (goodIn_of _ (by decide +kernel)) ggX9_canMeet_X4_count
theorem dX9_canMeet_0 : decode cX9_canMeet 0 = .ok (.aload_n 0, 1) := by decide +kernel
theorem dX9_canMeet_1 : decode cX9_canMeet 1 = .ok (.iload_n 1, 1) := by decide +kernel
theorem dX9_canMeet_2 : decode cX9_canMeet 2 = .ok (.iload_n 2, 1) := by decide +kernel
theorem dX9_canMeet_3 : decode cX9_canMeet 3 = .ok (.invokevirtual 120, 3) := by decide +kernel
theorem dX9_canMeet_6 : decode cX9_canMeet 6 = .ok (.ifCond .eq 34, 3) := by decide +kernel
theorem dX9_canMeet_9 : decode cX9_canMeet 9 = .ok (.iload_n 3, 1) := by decide +kernel
theorem dX9_canMeet_10 : decode cX9_canMeet 10 = .ok (.invokestatic 246, 3) := by decide +kernel
theorem dX9_canMeet_13 : decode cX9_canMeet 13 = .ok (.ifCond .eq 27, 3) := by decide +kernel
theorem dX9_canMeet_16 : decode cX9_canMeet 16 = .ok (.iload 4, 2) := by decide +kernel
theorem dX9_canMeet_18 : decode cX9_canMeet 18 = .ok (.invokestatic 246, 3) := by decide +kernel
theorem dX9_canMeet_21 : decode cX9_canMeet 21 = .ok (.ifCond .eq 19, 3) := by decide +kernel
theorem dX9_canMeet_24 : decode cX9_canMeet 24 = .ok (.aload_n 0, 1) := by decide +kernel
theorem dX9_canMeet_25 : decode cX9_canMeet 25 = .ok (.getfield 12, 3) := by decide +kernel
theorem dX9_canMeet_28 : decode cX9_canMeet 28 = .ok (.invokevirtual 88, 3) := by decide +kernel
theorem dX9_canMeet_31 : decode cX9_canMeet 31 = .ok (.bipush 120, 2) := by decide +kernel
theorem dX9_canMeet_33 : decode cX9_canMeet 33 = .ok (.if_icmp .ge 7, 3) := by decide +kernel
theorem dX9_canMeet_36 : decode cX9_canMeet 36 = .ok (.iconst 1, 1) := by decide +kernel
theorem dX9_canMeet_37 : decode cX9_canMeet 37 = .ok (.goto 4, 3) := by decide +kernel
theorem dX9_canMeet_40 : decode cX9_canMeet 40 = .ok (.iconst 0, 1) := by decide +kernel
theorem dX9_canMeet_41 : decode cX9_canMeet 41 = .ok (.ireturn, 1) := by decide +kernel
theorem dX9_canBePoints_0 : decode cX9_canBePoints 0 = .ok (.iload_n 0, 1) := by decide +kernel
theorem dX9_canBePoints_1 : decode cX9_canBePoints 1 = .ok (.ifCond .lt 13, 3) := by decide +kernel
theorem dX9_canBePoints_4 : decode cX9_canBePoints 4 = .ok (.iload_n 0, 1) := by decide +kernel
theorem dX9_canBePoints_5 : decode cX9_canBePoints 5 = .ok (.bipush 99, 2) := by decide +kernel
theorem dX9_canBePoints_7 : decode cX9_canBePoints 7 = .ok (.if_icmp .gt 7, 3) := by decide +kernel
theorem dX9_canBePoints_10 : decode cX9_canBePoints 10 = .ok (.iconst 1, 1) := by decide +kernel
theorem dX9_canBePoints_11 : decode cX9_canBePoints 11 = .ok (.goto 4, 3) := by decide +kernel
theorem dX9_canBePoints_14 : decode cX9_canBePoints 14 = .ok (.iconst 0, 1) := by decide +kernel
theorem dX9_canBePoints_15 : decode cX9_canBePoints 15 = .ok (.ireturn, 1) := by decide +kernel
theorem dX9_canBeWorth_0 : decode cX9_canBeWorth 0 = .ok (.iload_n 0, 1) := by decide +kernel
theorem dX9_canBeWorth_1 : decode cX9_canBeWorth 1 = .ok (.bipush (-10), 2) := by decide +kernel
theorem dX9_canBeWorth_3 : decode cX9_canBeWorth 3 = .ok (.if_icmp .lt 13, 3) := by decide +kernel
theorem dX9_canBeWorth_6 : decode cX9_canBeWorth 6 = .ok (.iload_n 0, 1) := by decide +kernel
theorem dX9_canBeWorth_7 : decode cX9_canBeWorth 7 = .ok (.bipush 10, 2) := by decide +kernel
theorem dX9_canBeWorth_9 : decode cX9_canBeWorth 9 = .ok (.if_icmp .gt 7, 3) := by decide +kernel
theorem dX9_canBeWorth_12 : decode cX9_canBeWorth 12 = .ok (.iconst 1, 1) := by decide +kernel
theorem dX9_canBeWorth_13 : decode cX9_canBeWorth 13 = .ok (.goto 4, 3) := by decide +kernel
theorem dX9_canBeWorth_16 : decode cX9_canBeWorth 16 = .ok (.iconst 0, 1) := by decide +kernel
theorem dX9_canBeWorth_17 : decode cX9_canBeWorth 17 = .ok (.ireturn, 1) := by decide +kernel
theorem dX9_isKind_0 : decode cX9_isKind 0 = .ok (.iload_n 0, 1) := by decide +kernel
theorem dX9_isKind_1 : decode cX9_isKind 1 = .ok (.ifCond .lt 13, 3) := by decide +kernel
theorem dX9_isKind_4 : decode cX9_isKind 4 = .ok (.iload_n 0, 1) := by decide +kernel
theorem dX9_isKind_5 : decode cX9_isKind 5 = .ok (.bipush 6, 2) := by decide +kernel
theorem dX9_isKind_7 : decode cX9_isKind 7 = .ok (.if_icmp .ge 7, 3) := by decide +kernel
theorem dX9_isKind_10 : decode cX9_isKind 10 = .ok (.iconst 1, 1) := by decide +kernel
theorem dX9_isKind_11 : decode cX9_isKind 11 = .ok (.goto 4, 3) := by decide +kernel
theorem dX9_isKind_14 : decode cX9_isKind 14 = .ok (.iconst 0, 1) := by decide +kernel
theorem dX9_isKind_15 : decode cX9_isKind 15 = .ok (.ireturn, 1) := by decide +kernel
set_option maxRecDepth 20000 in
theorem ggX9_readMeetings_X7_at : GoodIn wsX9_readMeetings wsX7_at := goodIn_r _ [7, 8, 9, 64, 65] (by decide +kernel) (by decide +kernel)
set_option maxRecDepth 20000 in
theorem gX9_readMeetings_X7_at : GoodIn wsX9_readMeetings (wsV RX9 249 RX7 yX7_at wsX7_at) := goodIn_app (goodIn_of _ (by decide +kernel)) ggX9_readMeetings_X7_at
set_option maxRecDepth 20000 in
theorem ggX9_readMeetings_X9_canMeet : GoodIn wsX9_readMeetings wsX9_canMeet := goodIn_r _ [14, 2, 15, 16, 17, 13, 18, 19, 20, 21, 22, 23, 24, 25, 26, 27, 28, 29, 30, 31, 32, 54, 55, 56, 57, 58, 59, 60, 61, 62, 63, 66, 67, 68, 69, 70, 71] (by decide +kernel) (by decide +kernel)
set_option maxRecDepth 20000 in
theorem gX9_readMeetings_X9_canMeet : GoodIn wsX9_readMeetings (wsV RX9 80 RX9 yX9_canMeet wsX9_canMeet) := goodIn_app (goodIn_of _ (by decide +kernel)) ggX9_readMeetings_X9_canMeet
set_option maxRecDepth 20000 in
theorem ggX9_readMeetings_X4_append : GoodIn wsX9_readMeetings wsX4_append := goodIn_r _ [36, 32, 37, 38, 39, 30, 40, 41, 42, 43, 44, 45, 46, 47, 48, 49, 50, 51, 52, 53, 66, 67, 68, 69, 70, 71] (by decide +kernel) (by decide +kernel)
set_option maxRecDepth 20000 in
theorem gX9_readMeetings_X4_append : GoodIn wsX9_readMeetings (wsV RX9 84 RX4 yX4_append wsX4_append) := goodIn_app (goodIn_of _ (by decide +kernel)) ggX9_readMeetings_X4_append
theorem dX9_readMeetings_0 : decode cX9_readMeetings 0 = .ok (.iconst 0, 1) := by decide +kernel
theorem dX9_readMeetings_1 : decode cX9_readMeetings 1 = .ok (.istore_n 2, 1) := by decide +kernel
theorem dX9_readMeetings_2 : decode cX9_readMeetings 2 = .ok (.iconst 0, 1) := by decide +kernel
theorem dX9_readMeetings_3 : decode cX9_readMeetings 3 = .ok (.istore_n 3, 1) := by decide +kernel
theorem dX9_readMeetings_4 : decode cX9_readMeetings 4 = .ok (.iload_n 3, 1) := by decide +kernel
theorem dX9_readMeetings_5 : decode cX9_readMeetings 5 = .ok (.iconst 4, 1) := by decide +kernel
theorem dX9_readMeetings_6 : decode cX9_readMeetings 6 = .ok (.iadd, 1) := by decide +kernel
theorem dX9_readMeetings_7 : decode cX9_readMeetings 7 = .ok (.iload_n 1, 1) := by decide +kernel
theorem dX9_readMeetings_8 : decode cX9_readMeetings 8 = .ok (.if_icmp .gt 91, 3) := by decide +kernel
theorem dX9_readMeetings_11 : decode cX9_readMeetings 11 = .ok (.aload_n 0, 1) := by decide +kernel
theorem dX9_readMeetings_12 : decode cX9_readMeetings 12 = .ok (.getfield 19, 3) := by decide +kernel
theorem dX9_readMeetings_15 : decode cX9_readMeetings 15 = .ok (.iload_n 3, 1) := by decide +kernel
theorem dX9_readMeetings_16 : decode cX9_readMeetings 16 = .ok (.invokevirtual 249, 3) := by decide +kernel
theorem dX9_readMeetings_19 : decode cX9_readMeetings 19 = .ok (.istore 4, 2) := by decide +kernel
theorem dX9_readMeetings_21 : decode cX9_readMeetings 21 = .ok (.aload_n 0, 1) := by decide +kernel
theorem dX9_readMeetings_22 : decode cX9_readMeetings 22 = .ok (.getfield 19, 3) := by decide +kernel
theorem dX9_readMeetings_25 : decode cX9_readMeetings 25 = .ok (.iload_n 3, 1) := by decide +kernel
theorem dX9_readMeetings_26 : decode cX9_readMeetings 26 = .ok (.iconst 1, 1) := by decide +kernel
theorem dX9_readMeetings_27 : decode cX9_readMeetings 27 = .ok (.iadd, 1) := by decide +kernel
theorem dX9_readMeetings_28 : decode cX9_readMeetings 28 = .ok (.invokevirtual 249, 3) := by decide +kernel
theorem dX9_readMeetings_31 : decode cX9_readMeetings 31 = .ok (.istore 5, 2) := by decide +kernel
theorem dX9_readMeetings_33 : decode cX9_readMeetings 33 = .ok (.aload_n 0, 1) := by decide +kernel
theorem dX9_readMeetings_34 : decode cX9_readMeetings 34 = .ok (.getfield 19, 3) := by decide +kernel
theorem dX9_readMeetings_37 : decode cX9_readMeetings 37 = .ok (.iload_n 3, 1) := by decide +kernel
theorem dX9_readMeetings_38 : decode cX9_readMeetings 38 = .ok (.iconst 2, 1) := by decide +kernel
theorem dX9_readMeetings_39 : decode cX9_readMeetings 39 = .ok (.iadd, 1) := by decide +kernel
theorem dX9_readMeetings_40 : decode cX9_readMeetings 40 = .ok (.invokevirtual 249, 3) := by decide +kernel
theorem dX9_readMeetings_43 : decode cX9_readMeetings 43 = .ok (.istore 6, 2) := by decide +kernel
theorem dX9_readMeetings_45 : decode cX9_readMeetings 45 = .ok (.aload_n 0, 1) := by decide +kernel
theorem dX9_readMeetings_46 : decode cX9_readMeetings 46 = .ok (.getfield 19, 3) := by decide +kernel
theorem dX9_readMeetings_49 : decode cX9_readMeetings 49 = .ok (.iload_n 3, 1) := by decide +kernel
theorem dX9_readMeetings_50 : decode cX9_readMeetings 50 = .ok (.iconst 3, 1) := by decide +kernel
theorem dX9_readMeetings_51 : decode cX9_readMeetings 51 = .ok (.iadd, 1) := by decide +kernel
theorem dX9_readMeetings_52 : decode cX9_readMeetings 52 = .ok (.invokevirtual 249, 3) := by decide +kernel
theorem dX9_readMeetings_55 : decode cX9_readMeetings 55 = .ok (.istore 7, 2) := by decide +kernel
theorem dX9_readMeetings_57 : decode cX9_readMeetings 57 = .ok (.aload_n 0, 1) := by decide +kernel
theorem dX9_readMeetings_58 : decode cX9_readMeetings 58 = .ok (.iload 4, 2) := by decide +kernel
theorem dX9_readMeetings_60 : decode cX9_readMeetings 60 = .ok (.iload 5, 2) := by decide +kernel
theorem dX9_readMeetings_62 : decode cX9_readMeetings 62 = .ok (.iload 6, 2) := by decide +kernel
theorem dX9_readMeetings_64 : decode cX9_readMeetings 64 = .ok (.iload 7, 2) := by decide +kernel
theorem dX9_readMeetings_66 : decode cX9_readMeetings 66 = .ok (.invokevirtual 80, 3) := by decide +kernel
theorem dX9_readMeetings_69 : decode cX9_readMeetings 69 = .ok (.ifCond .ne 6, 3) := by decide +kernel
theorem dX9_readMeetings_72 : decode cX9_readMeetings 72 = .ok (.goto 27, 3) := by decide +kernel
theorem dX9_readMeetings_75 : decode cX9_readMeetings 75 = .ok (.aload_n 0, 1) := by decide +kernel
theorem dX9_readMeetings_76 : decode cX9_readMeetings 76 = .ok (.getfield 12, 3) := by decide +kernel
theorem dX9_readMeetings_79 : decode cX9_readMeetings 79 = .ok (.iload 4, 2) := by decide +kernel
theorem dX9_readMeetings_81 : decode cX9_readMeetings 81 = .ok (.iload 5, 2) := by decide +kernel
theorem dX9_readMeetings_83 : decode cX9_readMeetings 83 = .ok (.iload 6, 2) := by decide +kernel
theorem dX9_readMeetings_85 : decode cX9_readMeetings 85 = .ok (.iload 7, 2) := by decide +kernel
theorem dX9_readMeetings_87 : decode cX9_readMeetings 87 = .ok (.invokevirtual 84, 3) := by decide +kernel
theorem dX9_readMeetings_90 : decode cX9_readMeetings 90 = .ok (.iinc 2 1, 3) := by decide +kernel
theorem dX9_readMeetings_93 : decode cX9_readMeetings 93 = .ok (.iinc 3 4, 3) := by decide +kernel
theorem dX9_readMeetings_96 : decode cX9_readMeetings 96 = .ok (.goto (-92), 3) := by decide +kernel
theorem dX9_readMeetings_99 : decode cX9_readMeetings 99 = .ok (.iload_n 2, 1) := by decide +kernel
theorem dX9_readMeetings_100 : decode cX9_readMeetings 100 = .ok (.ireturn, 1) := by decide +kernel
set_option maxRecDepth 20000 in
theorem ggX9_undoLatest_X0_latest : GoodIn wsX9_undoLatest wsX0_latest := goodIn_r _ [10, 11, 12, 13, 14, 15, 9, 16, 17, 100, 101, 102] (by decide +kernel) (by decide +kernel)
set_option maxRecDepth 20000 in
theorem gX9_undoLatest_X0_latest : GoodIn wsX9_undoLatest (wsV RX9 252 RX0 yX0_latest wsX0_latest) := goodIn_app (goodIn_of _ (by decide +kernel)) ggX9_undoLatest_X0_latest
set_option maxRecDepth 20000 in
theorem ggX9_undoLatest_X4_removeLast : GoodIn wsX9_undoLatest wsX4_removeLast := goodIn_r _ [22, 23, 24, 25, 26, 21, 27, 28, 29, 30, 31, 32, 33, 34, 35, 36, 37, 38, 39, 40, 41, 42, 43, 44, 103, 104, 105, 106, 107, 108] (by decide +kernel) (by decide +kernel)
set_option maxRecDepth 20000 in
theorem gX9_undoLatest_X4_removeLast : GoodIn wsX9_undoLatest (wsV RX9 255 RX4 yX4_removeLast wsX4_removeLast) := goodIn_app (goodIn_of _ (by decide +kernel)) ggX9_undoLatest_X4_removeLast
set_option maxRecDepth 20000 in
theorem ggX9_undoLatest_X4_insert : GoodIn wsX9_undoLatest wsX4_insert := goodIn_r _ [48, 23, 28, 29, 30, 31, 32, 37, 38, 39, 21, 40, 41, 42, 43, 44, 103, 104, 105, 106, 107, 108] (by decide +kernel) (by decide +kernel)
set_option maxRecDepth 20000 in
theorem gX9_undoLatest_X4_insert : GoodIn wsX9_undoLatest (wsV RX9 258 RX4 yX4_insert wsX4_insert) := goodIn_app (goodIn_of _ (by decide +kernel)) ggX9_undoLatest_X4_insert
set_option maxRecDepth 20000 in
theorem ggX9_undoLatest_X8_change : GoodIn wsX9_undoLatest wsX8_change := goodIn_r _ [53, 54, 55, 109, 110, 111] (by decide +kernel) (by decide +kernel)
set_option maxRecDepth 20000 in
theorem gX9_undoLatest_X8_change : GoodIn wsX9_undoLatest (wsV RX9 125 RX8 yX8_change wsX8_change) := goodIn_app (goodIn_of _ (by decide +kernel)) ggX9_undoLatest_X8_change
set_option maxRecDepth 20000 in
theorem ggX9_undoLatest_X6_setWorth : GoodIn wsX9_undoLatest wsX6_setWorth := goodIn_r _ [60, 61, 62, 63, 112, 113, 114, 115, 116, 117, 118] (by decide +kernel) (by decide +kernel)
set_option maxRecDepth 20000 in
theorem gX9_undoLatest_X6_setWorth : GoodIn wsX9_undoLatest (wsV RX9 141 RX6 yX6_setWorth wsX6_setWorth) := goodIn_app (goodIn_of _ (by decide +kernel)) ggX9_undoLatest_X6_setWorth
set_option maxRecDepth 20000 in
theorem ggX9_undoLatest_X6_kindCount : GoodIn wsX9_undoLatest wsX6_kindCount := goodIn_r _ [67, 68, 112, 113, 114, 115, 116, 117, 118] (by decide +kernel) (by decide +kernel)
set_option maxRecDepth 20000 in
theorem gX9_undoLatest_X6_kindCount : GoodIn wsX9_undoLatest (wsV RX9 147 RX6 yX6_kindCount wsX6_kindCount) := goodIn_app (goodIn_of _ (by decide +kernel)) ggX9_undoLatest_X6_kindCount
set_option maxRecDepth 20000 in
theorem ggX9_undoLatest_X6_keepKinds : GoodIn wsX9_undoLatest wsX6_keepKinds := goodIn_r _ [72, 68, 73, 74, 75, 76, 77, 78, 79, 112, 113, 114, 115, 116, 117, 118] (by decide +kernel) (by decide +kernel)
set_option maxRecDepth 20000 in
theorem gX9_undoLatest_X6_keepKinds : GoodIn wsX9_undoLatest (wsV RX9 156 RX6 yX6_keepKinds wsX6_keepKinds) := goodIn_app (goodIn_of _ (by decide +kernel)) ggX9_undoLatest_X6_keepKinds
set_option maxRecDepth 20000 in
theorem ggX9_undoLatest_X9_bringBackKinds : GoodIn wsX9_undoLatest wsX9_bringBackKinds := goodIn_r _ [84, 1, 5, 6, 7, 8, 9, 10, 11, 12, 13, 14, 15, 16, 17, 69, 70, 71, 59, 72, 68, 73, 74, 75, 76, 77, 78, 79, 85, 86, 87, 88, 89, 90, 91, 92, 93, 94, 95, 96, 97, 98, 99, 100, 101, 102, 112, 113, 114, 115, 116, 117, 118] (by decide +kernel) (by decide +kernel)
set_option maxRecDepth 20000 in
theorem gX9_undoLatest_X9_bringBackKinds : GoodIn wsX9_undoLatest (wsV RX9 262 RX9 yX9_bringBackKinds wsX9_bringBackKinds) := goodIn_app (goodIn_of _ (by decide +kernel)) ggX9_undoLatest_X9_bringBackKinds
theorem dX9_undoLatest_0 : decode cX9_undoLatest 0 = .ok (.aload_n 0, 1) := by decide +kernel
theorem dX9_undoLatest_1 : decode cX9_undoLatest 1 = .ok (.getfield 33, 3) := by decide +kernel
theorem dX9_undoLatest_4 : decode cX9_undoLatest 4 = .ok (.iconst 0, 1) := by decide +kernel
theorem dX9_undoLatest_5 : decode cX9_undoLatest 5 = .ok (.invokevirtual 252, 3) := by decide +kernel
theorem dX9_undoLatest_8 : decode cX9_undoLatest 8 = .ok (.tableswitch 212 0 6 #[44, 57, 75, 125, 152, 186, 205], 44) := by decide +kernel
theorem dX9_undoLatest_52 : decode cX9_undoLatest 52 = .ok (.aload_n 0, 1) := by decide +kernel
theorem dX9_undoLatest_53 : decode cX9_undoLatest 53 = .ok (.dup, 1) := by decide +kernel
theorem dX9_undoLatest_54 : decode cX9_undoLatest 54 = .ok (.getfield 72, 3) := by decide +kernel
theorem dX9_undoLatest_57 : decode cX9_undoLatest 57 = .ok (.iconst 1, 1) := by decide +kernel
theorem dX9_undoLatest_58 : decode cX9_undoLatest 58 = .ok (.isub, 1) := by decide +kernel
theorem dX9_undoLatest_59 : decode cX9_undoLatest 59 = .ok (.putfield 72, 3) := by decide +kernel
theorem dX9_undoLatest_62 : decode cX9_undoLatest 62 = .ok (.goto 158, 3) := by decide +kernel
theorem dX9_undoLatest_65 : decode cX9_undoLatest 65 = .ok (.aload_n 0, 1) := by decide +kernel
theorem dX9_undoLatest_66 : decode cX9_undoLatest 66 = .ok (.getfield 12, 3) := by decide +kernel
theorem dX9_undoLatest_69 : decode cX9_undoLatest 69 = .ok (.aload_n 0, 1) := by decide +kernel
theorem dX9_undoLatest_70 : decode cX9_undoLatest 70 = .ok (.getfield 33, 3) := by decide +kernel
theorem dX9_undoLatest_73 : decode cX9_undoLatest 73 = .ok (.iconst 1, 1) := by decide +kernel
theorem dX9_undoLatest_74 : decode cX9_undoLatest 74 = .ok (.invokevirtual 252, 3) := by decide +kernel
theorem dX9_undoLatest_77 : decode cX9_undoLatest 77 = .ok (.invokevirtual 255, 3) := by decide +kernel
theorem dX9_undoLatest_80 : decode cX9_undoLatest 80 = .ok (.goto 140, 3) := by decide +kernel
theorem dX9_undoLatest_83 : decode cX9_undoLatest 83 = .ok (.aload_n 0, 1) := by decide +kernel
theorem dX9_undoLatest_84 : decode cX9_undoLatest 84 = .ok (.getfield 12, 3) := by decide +kernel
theorem dX9_undoLatest_87 : decode cX9_undoLatest 87 = .ok (.aload_n 0, 1) := by decide +kernel
theorem dX9_undoLatest_88 : decode cX9_undoLatest 88 = .ok (.getfield 33, 3) := by decide +kernel
theorem dX9_undoLatest_91 : decode cX9_undoLatest 91 = .ok (.iconst 1, 1) := by decide +kernel
theorem dX9_undoLatest_92 : decode cX9_undoLatest 92 = .ok (.invokevirtual 252, 3) := by decide +kernel
theorem dX9_undoLatest_95 : decode cX9_undoLatest 95 = .ok (.aload_n 0, 1) := by decide +kernel
theorem dX9_undoLatest_96 : decode cX9_undoLatest 96 = .ok (.getfield 33, 3) := by decide +kernel
theorem dX9_undoLatest_99 : decode cX9_undoLatest 99 = .ok (.iconst 2, 1) := by decide +kernel
theorem dX9_undoLatest_100 : decode cX9_undoLatest 100 = .ok (.invokevirtual 252, 3) := by decide +kernel
theorem dX9_undoLatest_103 : decode cX9_undoLatest 103 = .ok (.aload_n 0, 1) := by decide +kernel
theorem dX9_undoLatest_104 : decode cX9_undoLatest 104 = .ok (.getfield 33, 3) := by decide +kernel
theorem dX9_undoLatest_107 : decode cX9_undoLatest 107 = .ok (.iconst 3, 1) := by decide +kernel
theorem dX9_undoLatest_108 : decode cX9_undoLatest 108 = .ok (.invokevirtual 252, 3) := by decide +kernel
theorem dX9_undoLatest_111 : decode cX9_undoLatest 111 = .ok (.aload_n 0, 1) := by decide +kernel
theorem dX9_undoLatest_112 : decode cX9_undoLatest 112 = .ok (.getfield 33, 3) := by decide +kernel
theorem dX9_undoLatest_115 : decode cX9_undoLatest 115 = .ok (.iconst 4, 1) := by decide +kernel
theorem dX9_undoLatest_116 : decode cX9_undoLatest 116 = .ok (.invokevirtual 252, 3) := by decide +kernel
theorem dX9_undoLatest_119 : decode cX9_undoLatest 119 = .ok (.aload_n 0, 1) := by decide +kernel
theorem dX9_undoLatest_120 : decode cX9_undoLatest 120 = .ok (.getfield 33, 3) := by decide +kernel
theorem dX9_undoLatest_123 : decode cX9_undoLatest 123 = .ok (.iconst 5, 1) := by decide +kernel
theorem dX9_undoLatest_124 : decode cX9_undoLatest 124 = .ok (.invokevirtual 252, 3) := by decide +kernel
theorem dX9_undoLatest_127 : decode cX9_undoLatest 127 = .ok (.invokevirtual 258, 3) := by decide +kernel
theorem dX9_undoLatest_130 : decode cX9_undoLatest 130 = .ok (.goto 90, 3) := by decide +kernel
theorem dX9_undoLatest_133 : decode cX9_undoLatest 133 = .ok (.aload_n 0, 1) := by decide +kernel
theorem dX9_undoLatest_134 : decode cX9_undoLatest 134 = .ok (.getfield 26, 3) := by decide +kernel
theorem dX9_undoLatest_137 : decode cX9_undoLatest 137 = .ok (.aload_n 0, 1) := by decide +kernel
theorem dX9_undoLatest_138 : decode cX9_undoLatest 138 = .ok (.getfield 33, 3) := by decide +kernel
theorem dX9_undoLatest_141 : decode cX9_undoLatest 141 = .ok (.iconst 1, 1) := by decide +kernel
theorem dX9_undoLatest_142 : decode cX9_undoLatest 142 = .ok (.invokevirtual 252, 3) := by decide +kernel
theorem dX9_undoLatest_145 : decode cX9_undoLatest 145 = .ok (.aload_n 0, 1) := by decide +kernel
theorem dX9_undoLatest_146 : decode cX9_undoLatest 146 = .ok (.getfield 33, 3) := by decide +kernel
theorem dX9_undoLatest_149 : decode cX9_undoLatest 149 = .ok (.iconst 2, 1) := by decide +kernel
theorem dX9_undoLatest_150 : decode cX9_undoLatest 150 = .ok (.invokevirtual 252, 3) := by decide +kernel
theorem dX9_undoLatest_153 : decode cX9_undoLatest 153 = .ok (.iconst (-1), 1) := by decide +kernel
theorem dX9_undoLatest_154 : decode cX9_undoLatest 154 = .ok (.invokevirtual 125, 3) := by decide +kernel
theorem dX9_undoLatest_157 : decode cX9_undoLatest 157 = .ok (.goto 63, 3) := by decide +kernel
theorem dX9_undoLatest_160 : decode cX9_undoLatest 160 = .ok (.aload_n 0, 1) := by decide +kernel
theorem dX9_undoLatest_161 : decode cX9_undoLatest 161 = .ok (.getfield 40, 3) := by decide +kernel
theorem dX9_undoLatest_164 : decode cX9_undoLatest 164 = .ok (.aload_n 0, 1) := by decide +kernel
theorem dX9_undoLatest_165 : decode cX9_undoLatest 165 = .ok (.getfield 33, 3) := by decide +kernel
theorem dX9_undoLatest_168 : decode cX9_undoLatest 168 = .ok (.iconst 1, 1) := by decide +kernel
theorem dX9_undoLatest_169 : decode cX9_undoLatest 169 = .ok (.invokevirtual 252, 3) := by decide +kernel
theorem dX9_undoLatest_172 : decode cX9_undoLatest 172 = .ok (.aload_n 0, 1) := by decide +kernel
theorem dX9_undoLatest_173 : decode cX9_undoLatest 173 = .ok (.getfield 33, 3) := by decide +kernel
theorem dX9_undoLatest_176 : decode cX9_undoLatest 176 = .ok (.iconst 2, 1) := by decide +kernel
theorem dX9_undoLatest_177 : decode cX9_undoLatest 177 = .ok (.invokevirtual 252, 3) := by decide +kernel
theorem dX9_undoLatest_180 : decode cX9_undoLatest 180 = .ok (.aload_n 0, 1) := by decide +kernel
theorem dX9_undoLatest_181 : decode cX9_undoLatest 181 = .ok (.getfield 33, 3) := by decide +kernel
theorem dX9_undoLatest_184 : decode cX9_undoLatest 184 = .ok (.iconst 3, 1) := by decide +kernel
theorem dX9_undoLatest_185 : decode cX9_undoLatest 185 = .ok (.invokevirtual 252, 3) := by decide +kernel
theorem dX9_undoLatest_188 : decode cX9_undoLatest 188 = .ok (.invokevirtual 141, 3) := by decide +kernel
theorem dX9_undoLatest_191 : decode cX9_undoLatest 191 = .ok (.goto 29, 3) := by decide +kernel
theorem dX9_undoLatest_194 : decode cX9_undoLatest 194 = .ok (.aload_n 0, 1) := by decide +kernel
theorem dX9_undoLatest_195 : decode cX9_undoLatest 195 = .ok (.getfield 40, 3) := by decide +kernel
theorem dX9_undoLatest_198 : decode cX9_undoLatest 198 = .ok (.aload_n 0, 1) := by decide +kernel
theorem dX9_undoLatest_199 : decode cX9_undoLatest 199 = .ok (.getfield 40, 3) := by decide +kernel
theorem dX9_undoLatest_202 : decode cX9_undoLatest 202 = .ok (.invokevirtual 147, 3) := by decide +kernel
theorem dX9_undoLatest_205 : decode cX9_undoLatest 205 = .ok (.iconst 1, 1) := by decide +kernel
theorem dX9_undoLatest_206 : decode cX9_undoLatest 206 = .ok (.isub, 1) := by decide +kernel
theorem dX9_undoLatest_207 : decode cX9_undoLatest 207 = .ok (.invokevirtual 156, 3) := by decide +kernel
theorem dX9_undoLatest_210 : decode cX9_undoLatest 210 = .ok (.goto 10, 3) := by decide +kernel
theorem dX9_undoLatest_213 : decode cX9_undoLatest 213 = .ok (.aload_n 0, 1) := by decide +kernel
theorem dX9_undoLatest_214 : decode cX9_undoLatest 214 = .ok (.invokevirtual 262, 3) := by decide +kernel
theorem dX9_undoLatest_217 : decode cX9_undoLatest 217 = .ok (.goto 3, 3) := by decide +kernel
theorem dX9_undoLatest_220 : decode cX9_undoLatest 220 = .ok (.return_, 1) := by decide +kernel
set_option maxRecDepth 20000 in
theorem ggX9_bringBackKinds_X0_latest : GoodIn wsX9_bringBackKinds wsX0_latest := goodIn_r _ [7, 8, 9, 10, 11, 12, 6, 13, 14, 43, 44, 45] (by decide +kernel) (by decide +kernel)
set_option maxRecDepth 20000 in
theorem gX9_bringBackKinds_X0_latest : GoodIn wsX9_bringBackKinds (wsV RX9 252 RX0 yX0_latest wsX0_latest) := goodIn_app (goodIn_of _ (by decide +kernel)) ggX9_bringBackKinds_X0_latest
set_option maxRecDepth 20000 in
theorem ggX9_bringBackKinds_X6_keepKinds : GoodIn wsX9_bringBackKinds wsX6_keepKinds := goodIn_r _ [19, 20, 21, 22, 23, 24, 25, 26, 27, 46, 47, 48, 49, 50, 51, 52] (by decide +kernel) (by decide +kernel)
set_option maxRecDepth 20000 in
theorem gX9_bringBackKinds_X6_keepKinds : GoodIn wsX9_bringBackKinds (wsV RX9 156 RX6 yX6_keepKinds wsX6_keepKinds) := goodIn_app (goodIn_of _ (by decide +kernel)) ggX9_bringBackKinds_X6_keepKinds
set_option maxRecDepth 20000 in
theorem ggX9_bringBackKinds_X6_addKind : GoodIn wsX9_bringBackKinds wsX6_addKind := goodIn_r _ [31, 20, 32, 46, 47, 48, 49, 50, 51, 52] (by decide +kernel) (by decide +kernel)
set_option maxRecDepth 20000 in
theorem gX9_bringBackKinds_X6_addKind : GoodIn wsX9_bringBackKinds (wsV RX9 150 RX6 yX6_addKind wsX6_addKind) := goodIn_app (goodIn_of _ (by decide +kernel)) ggX9_bringBackKinds_X6_addKind
theorem dX9_bringBackKinds_0 : decode cX9_bringBackKinds 0 = .ok (.aload_n 0, 1) := by decide +kernel
theorem dX9_bringBackKinds_1 : decode cX9_bringBackKinds 1 = .ok (.getfield 33, 3) := by decide +kernel
theorem dX9_bringBackKinds_4 : decode cX9_bringBackKinds 4 = .ok (.iconst 1, 1) := by decide +kernel
theorem dX9_bringBackKinds_5 : decode cX9_bringBackKinds 5 = .ok (.invokevirtual 252, 3) := by decide +kernel
theorem dX9_bringBackKinds_8 : decode cX9_bringBackKinds 8 = .ok (.istore_n 1, 1) := by decide +kernel
theorem dX9_bringBackKinds_9 : decode cX9_bringBackKinds 9 = .ok (.aload_n 0, 1) := by decide +kernel
theorem dX9_bringBackKinds_10 : decode cX9_bringBackKinds 10 = .ok (.getfield 40, 3) := by decide +kernel
theorem dX9_bringBackKinds_13 : decode cX9_bringBackKinds 13 = .ok (.iconst 0, 1) := by decide +kernel
theorem dX9_bringBackKinds_14 : decode cX9_bringBackKinds 14 = .ok (.invokevirtual 156, 3) := by decide +kernel
theorem dX9_bringBackKinds_17 : decode cX9_bringBackKinds 17 = .ok (.iconst 0, 1) := by decide +kernel
theorem dX9_bringBackKinds_18 : decode cX9_bringBackKinds 18 = .ok (.istore_n 2, 1) := by decide +kernel
theorem dX9_bringBackKinds_19 : decode cX9_bringBackKinds 19 = .ok (.iload_n 2, 1) := by decide +kernel
theorem dX9_bringBackKinds_20 : decode cX9_bringBackKinds 20 = .ok (.iload_n 1, 1) := by decide +kernel
theorem dX9_bringBackKinds_21 : decode cX9_bringBackKinds 21 = .ok (.if_icmp .ge 26, 3) := by decide +kernel
theorem dX9_bringBackKinds_24 : decode cX9_bringBackKinds 24 = .ok (.aload_n 0, 1) := by decide +kernel
theorem dX9_bringBackKinds_25 : decode cX9_bringBackKinds 25 = .ok (.getfield 40, 3) := by decide +kernel
theorem dX9_bringBackKinds_28 : decode cX9_bringBackKinds 28 = .ok (.aload_n 0, 1) := by decide +kernel
theorem dX9_bringBackKinds_29 : decode cX9_bringBackKinds 29 = .ok (.getfield 33, 3) := by decide +kernel
theorem dX9_bringBackKinds_32 : decode cX9_bringBackKinds 32 = .ok (.iconst 2, 1) := by decide +kernel
theorem dX9_bringBackKinds_33 : decode cX9_bringBackKinds 33 = .ok (.iload_n 2, 1) := by decide +kernel
theorem dX9_bringBackKinds_34 : decode cX9_bringBackKinds 34 = .ok (.iadd, 1) := by decide +kernel
theorem dX9_bringBackKinds_35 : decode cX9_bringBackKinds 35 = .ok (.invokevirtual 252, 3) := by decide +kernel
theorem dX9_bringBackKinds_38 : decode cX9_bringBackKinds 38 = .ok (.invokevirtual 150, 3) := by decide +kernel
theorem dX9_bringBackKinds_41 : decode cX9_bringBackKinds 41 = .ok (.iinc 2 1, 3) := by decide +kernel
theorem dX9_bringBackKinds_44 : decode cX9_bringBackKinds 44 = .ok (.goto (-25), 3) := by decide +kernel
theorem dX9_bringBackKinds_47 : decode cX9_bringBackKinds 47 = .ok (.return_, 1) := by decide +kernel
theorem dX9_isIn_0 : decode cX9_isIn 0 = .ok (.iload_n 0, 1) := by decide +kernel
theorem dX9_isIn_1 : decode cX9_isIn 1 = .ok (.iload_n 1, 1) := by decide +kernel
theorem dX9_isIn_2 : decode cX9_isIn 2 = .ok (.ishr, 1) := by decide +kernel
theorem dX9_isIn_3 : decode cX9_isIn 3 = .ok (.iconst 1, 1) := by decide +kernel
theorem dX9_isIn_4 : decode cX9_isIn 4 = .ok (.iand, 1) := by decide +kernel
theorem dX9_isIn_5 : decode cX9_isIn 5 = .ok (.ifCond .eq 7, 3) := by decide +kernel
theorem dX9_isIn_8 : decode cX9_isIn 8 = .ok (.iconst 1, 1) := by decide +kernel
theorem dX9_isIn_9 : decode cX9_isIn 9 = .ok (.goto 4, 3) := by decide +kernel
theorem dX9_isIn_12 : decode cX9_isIn 12 = .ok (.iconst 0, 1) := by decide +kernel
theorem dX9_isIn_13 : decode cX9_isIn 13 = .ok (.ireturn, 1) := by decide +kernel
theorem dX9_everyone_0 : decode cX9_everyone 0 = .ok (.iconst 1, 1) := by decide +kernel
theorem dX9_everyone_1 : decode cX9_everyone 1 = .ok (.iload_n 0, 1) := by decide +kernel
theorem dX9_everyone_2 : decode cX9_everyone 2 = .ok (.ishl, 1) := by decide +kernel
theorem dX9_everyone_3 : decode cX9_everyone 3 = .ok (.iconst 1, 1) := by decide +kernel
theorem dX9_everyone_4 : decode cX9_everyone 4 = .ok (.isub, 1) := by decide +kernel
theorem dX9_everyone_5 : decode cX9_everyone 5 = .ok (.ireturn, 1) := by decide +kernel
