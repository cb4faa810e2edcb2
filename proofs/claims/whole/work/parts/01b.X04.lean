theorem dX0_init_0 : decode cX0_init 0 = .ok (.aload_n 0, 1) := by decide +kernel
theorem dX0_init_1 : decode cX0_init 1 = .ok (.invokespecial 3, 3) := by decide +kernel
theorem dX0_init_4 : decode cX0_init 4 = .ok (.aload_n 0, 1) := by decide +kernel
theorem dX0_init_5 : decode cX0_init 5 = .ok (.sipush 240, 3) := by decide +kernel
theorem dX0_init_8 : decode cX0_init 8 = .ok (.newarray .int, 2) := by decide +kernel
theorem dX0_init_10 : decode cX0_init 10 = .ok (.putfield 11, 3) := by decide +kernel
theorem dX0_init_13 : decode cX0_init 13 = .ok (.aload_n 0, 1) := by decide +kernel
theorem dX0_init_14 : decode cX0_init 14 = .ok (.iconst 0, 1) := by decide +kernel
theorem dX0_init_15 : decode cX0_init 15 = .ok (.putfield 15, 3) := by decide +kernel
theorem dX0_init_18 : decode cX0_init 18 = .ok (.aload_n 0, 1) := by decide +kernel
theorem dX0_init_19 : decode cX0_init 19 = .ok (.iconst 0, 1) := by decide +kernel
theorem dX0_init_20 : decode cX0_init 20 = .ok (.putfield 19, 3) := by decide +kernel
theorem dX0_init_23 : decode cX0_init 23 = .ok (.return_, 1) := by decide +kernel
theorem dX0_size_0 : decode cX0_size 0 = .ok (.aload_n 0, 1) := by decide +kernel
theorem dX0_size_1 : decode cX0_size 1 = .ok (.getfield 19, 3) := by decide +kernel
theorem dX0_size_4 : decode cX0_size 4 = .ok (.ireturn, 1) := by decide +kernel
theorem dX0_put_0 : decode cX0_put 0 = .ok (.aload_n 0, 1) := by decide +kernel
theorem dX0_put_1 : decode cX0_put 1 = .ok (.getfield 15, 3) := by decide +kernel
theorem dX0_put_4 : decode cX0_put 4 = .ok (.bipush 6, 2) := by decide +kernel
theorem dX0_put_6 : decode cX0_put 6 = .ok (.imul, 1) := by decide +kernel
theorem dX0_put_7 : decode cX0_put 7 = .ok (.istore 7, 2) := by decide +kernel
theorem dX0_put_9 : decode cX0_put 9 = .ok (.aload_n 0, 1) := by decide +kernel
theorem dX0_put_10 : decode cX0_put 10 = .ok (.getfield 11, 3) := by decide +kernel
theorem dX0_put_13 : decode cX0_put 13 = .ok (.iload 7, 2) := by decide +kernel
theorem dX0_put_15 : decode cX0_put 15 = .ok (.iload_n 1, 1) := by decide +kernel
theorem dX0_put_16 : decode cX0_put 16 = .ok (.iastore, 1) := by decide +kernel
theorem dX0_put_17 : decode cX0_put 17 = .ok (.aload_n 0, 1) := by decide +kernel
theorem dX0_put_18 : decode cX0_put 18 = .ok (.getfield 11, 3) := by decide +kernel
theorem dX0_put_21 : decode cX0_put 21 = .ok (.iload 7, 2) := by decide +kernel
theorem dX0_put_23 : decode cX0_put 23 = .ok (.iconst 1, 1) := by decide +kernel
theorem dX0_put_24 : decode cX0_put 24 = .ok (.iadd, 1) := by decide +kernel
theorem dX0_put_25 : decode cX0_put 25 = .ok (.iload_n 2, 1) := by decide +kernel
theorem dX0_put_26 : decode cX0_put 26 = .ok (.iastore, 1) := by decide +kernel
theorem dX0_put_27 : decode cX0_put 27 = .ok (.aload_n 0, 1) := by decide +kernel
theorem dX0_put_28 : decode cX0_put 28 = .ok (.getfield 11, 3) := by decide +kernel
theorem dX0_put_31 : decode cX0_put 31 = .ok (.iload 7, 2) := by decide +kernel
theorem dX0_put_33 : decode cX0_put 33 = .ok (.iconst 2, 1) := by decide +kernel
theorem dX0_put_34 : decode cX0_put 34 = .ok (.iadd, 1) := by decide +kernel
theorem dX0_put_35 : decode cX0_put 35 = .ok (.iload_n 3, 1) := by decide +kernel
theorem dX0_put_36 : decode cX0_put 36 = .ok (.iastore, 1) := by decide +kernel
theorem dX0_put_37 : decode cX0_put 37 = .ok (.aload_n 0, 1) := by decide +kernel
theorem dX0_put_38 : decode cX0_put 38 = .ok (.getfield 11, 3) := by decide +kernel
theorem dX0_put_41 : decode cX0_put 41 = .ok (.iload 7, 2) := by decide +kernel
theorem dX0_put_43 : decode cX0_put 43 = .ok (.iconst 3, 1) := by decide +kernel
theorem dX0_put_44 : decode cX0_put 44 = .ok (.iadd, 1) := by decide +kernel
theorem dX0_put_45 : decode cX0_put 45 = .ok (.iload 4, 2) := by decide +kernel
theorem dX0_put_47 : decode cX0_put 47 = .ok (.iastore, 1) := by decide +kernel
theorem dX0_put_48 : decode cX0_put 48 = .ok (.aload_n 0, 1) := by decide +kernel
theorem dX0_put_49 : decode cX0_put 49 = .ok (.getfield 11, 3) := by decide +kernel
theorem dX0_put_52 : decode cX0_put 52 = .ok (.iload 7, 2) := by decide +kernel
theorem dX0_put_54 : decode cX0_put 54 = .ok (.iconst 4, 1) := by decide +kernel
theorem dX0_put_55 : decode cX0_put 55 = .ok (.iadd, 1) := by decide +kernel
theorem dX0_put_56 : decode cX0_put 56 = .ok (.iload 5, 2) := by decide +kernel
theorem dX0_put_58 : decode cX0_put 58 = .ok (.iastore, 1) := by decide +kernel
theorem dX0_put_59 : decode cX0_put 59 = .ok (.aload_n 0, 1) := by decide +kernel
theorem dX0_put_60 : decode cX0_put 60 = .ok (.getfield 11, 3) := by decide +kernel
theorem dX0_put_63 : decode cX0_put 63 = .ok (.iload 7, 2) := by decide +kernel
theorem dX0_put_65 : decode cX0_put 65 = .ok (.iconst 5, 1) := by decide +kernel
theorem dX0_put_66 : decode cX0_put 66 = .ok (.iadd, 1) := by decide +kernel
theorem dX0_put_67 : decode cX0_put 67 = .ok (.iload 6, 2) := by decide +kernel
theorem dX0_put_69 : decode cX0_put 69 = .ok (.iastore, 1) := by decide +kernel
theorem dX0_put_70 : decode cX0_put 70 = .ok (.aload_n 0, 1) := by decide +kernel
theorem dX0_put_71 : decode cX0_put 71 = .ok (.aload_n 0, 1) := by decide +kernel
theorem dX0_put_72 : decode cX0_put 72 = .ok (.getfield 15, 3) := by decide +kernel
theorem dX0_put_75 : decode cX0_put 75 = .ok (.bipush 39, 2) := by decide +kernel
theorem dX0_put_77 : decode cX0_put 77 = .ok (.if_icmp .ne 7, 3) := by decide +kernel
theorem dX0_put_80 : decode cX0_put 80 = .ok (.iconst 0, 1) := by decide +kernel
theorem dX0_put_81 : decode cX0_put 81 = .ok (.goto 9, 3) := by decide +kernel
theorem dX0_put_84 : decode cX0_put 84 = .ok (.aload_n 0, 1) := by decide +kernel
theorem dX0_put_85 : decode cX0_put 85 = .ok (.getfield 15, 3) := by decide +kernel
theorem dX0_put_88 : decode cX0_put 88 = .ok (.iconst 1, 1) := by decide +kernel
theorem dX0_put_89 : decode cX0_put 89 = .ok (.iadd, 1) := by decide +kernel
theorem dX0_put_90 : decode cX0_put 90 = .ok (.putfield 15, 3) := by decide +kernel
theorem dX0_put_93 : decode cX0_put 93 = .ok (.aload_n 0, 1) := by decide +kernel
theorem dX0_put_94 : decode cX0_put 94 = .ok (.aload_n 0, 1) := by decide +kernel
theorem dX0_put_95 : decode cX0_put 95 = .ok (.getfield 19, 3) := by decide +kernel
theorem dX0_put_98 : decode cX0_put 98 = .ok (.iconst 1, 1) := by decide +kernel
theorem dX0_put_99 : decode cX0_put 99 = .ok (.iadd, 1) := by decide +kernel
theorem dX0_put_100 : decode cX0_put 100 = .ok (.bipush 40, 2) := by decide +kernel
theorem dX0_put_102 : decode cX0_put 102 = .ok (.invokestatic 22, 3) := by decide +kernel
theorem dX0_put_105 : decode cX0_put 105 = .ok (.putfield 19, 3) := by decide +kernel
theorem dX0_put_108 : decode cX0_put 108 = .ok (.return_, 1) := by decide +kernel
set_option maxRecDepth 20000 in
theorem ggX0_latest_X0_latestPlace : GoodIn wsX0_latest wsX0_latestPlace := goodIn_r _ [7, 8, 9, 10, 11] (by decide +kernel) (by decide +kernel)
set_option maxRecDepth 20000 in
theorem gX0_latest_X0_latestPlace : GoodIn wsX0_latest (wsV RX0 28 RX0 yX0_latestPlace wsX0_latestPlace) := goodIn_app (goodIn_of _ (by decide +kernel)) ggX0_latest_X0_latestPlace
theorem dX0_latest_0 : decode cX0_latest 0 = .ok (.aload_n 0, 1) := by decide +kernel
theorem dX0_latest_1 : decode cX0_latest 1 = .ok (.getfield 19, 3) := by decide +kernel
theorem dX0_latest_4 : decode cX0_latest 4 = .ok (.ifCond .eq 13, 3) := by decide +kernel
theorem dX0_latest_7 : decode cX0_latest 7 = .ok (.iload_n 1, 1) := by decide +kernel
theorem dX0_latest_8 : decode cX0_latest 8 = .ok (.ifCond .lt 9, 3) := by decide +kernel
theorem dX0_latest_11 : decode cX0_latest 11 = .ok (.iload_n 1, 1) := by decide +kernel
theorem dX0_latest_12 : decode cX0_latest 12 = .ok (.bipush 6, 2) := by decide +kernel
theorem dX0_latest_14 : decode cX0_latest 14 = .ok (.if_icmp .lt 5, 3) := by decide +kernel
theorem dX0_latest_17 : decode cX0_latest 17 = .ok (.iconst (-1), 1) := by decide +kernel
theorem dX0_latest_18 : decode cX0_latest 18 = .ok (.ireturn, 1) := by decide +kernel
theorem dX0_latest_19 : decode cX0_latest 19 = .ok (.aload_n 0, 1) := by decide +kernel
theorem dX0_latest_20 : decode cX0_latest 20 = .ok (.getfield 11, 3) := by decide +kernel
theorem dX0_latest_23 : decode cX0_latest 23 = .ok (.aload_n 0, 1) := by decide +kernel
theorem dX0_latest_24 : decode cX0_latest 24 = .ok (.invokevirtual 28, 3) := by decide +kernel
theorem dX0_latest_27 : decode cX0_latest 27 = .ok (.bipush 6, 2) := by decide +kernel
theorem dX0_latest_29 : decode cX0_latest 29 = .ok (.imul, 1) := by decide +kernel
theorem dX0_latest_30 : decode cX0_latest 30 = .ok (.iload_n 1, 1) := by decide +kernel
theorem dX0_latest_31 : decode cX0_latest 31 = .ok (.iadd, 1) := by decide +kernel
theorem dX0_latest_32 : decode cX0_latest 32 = .ok (.iaload, 1) := by decide +kernel
theorem dX0_latest_33 : decode cX0_latest 33 = .ok (.ireturn, 1) := by decide +kernel
set_option maxRecDepth 20000 in
theorem ggX0_forgetLatest_X0_latestPlace : GoodIn wsX0_forgetLatest wsX0_latestPlace := goodIn_r _ [7, 2, 8, 9, 10] (by decide +kernel) (by decide +kernel)
set_option maxRecDepth 20000 in
theorem gX0_forgetLatest_X0_latestPlace : GoodIn wsX0_forgetLatest (wsV RX0 28 RX0 yX0_latestPlace wsX0_latestPlace) := goodIn_app (goodIn_of _ (by decide +kernel)) ggX0_forgetLatest_X0_latestPlace
theorem dX0_forgetLatest_0 : decode cX0_forgetLatest 0 = .ok (.aload_n 0, 1) := by decide +kernel
theorem dX0_forgetLatest_1 : decode cX0_forgetLatest 1 = .ok (.getfield 19, 3) := by decide +kernel
theorem dX0_forgetLatest_4 : decode cX0_forgetLatest 4 = .ok (.ifCond .le 21, 3) := by decide +kernel
theorem dX0_forgetLatest_7 : decode cX0_forgetLatest 7 = .ok (.aload_n 0, 1) := by decide +kernel
theorem dX0_forgetLatest_8 : decode cX0_forgetLatest 8 = .ok (.aload_n 0, 1) := by decide +kernel
theorem dX0_forgetLatest_9 : decode cX0_forgetLatest 9 = .ok (.invokevirtual 28, 3) := by decide +kernel
theorem dX0_forgetLatest_12 : decode cX0_forgetLatest 12 = .ok (.putfield 15, 3) := by decide +kernel
theorem dX0_forgetLatest_15 : decode cX0_forgetLatest 15 = .ok (.aload_n 0, 1) := by decide +kernel
theorem dX0_forgetLatest_16 : decode cX0_forgetLatest 16 = .ok (.dup, 1) := by decide +kernel
theorem dX0_forgetLatest_17 : decode cX0_forgetLatest 17 = .ok (.getfield 19, 3) := by decide +kernel
theorem dX0_forgetLatest_20 : decode cX0_forgetLatest 20 = .ok (.iconst 1, 1) := by decide +kernel
theorem dX0_forgetLatest_21 : decode cX0_forgetLatest 21 = .ok (.isub, 1) := by decide +kernel
theorem dX0_forgetLatest_22 : decode cX0_forgetLatest 22 = .ok (.putfield 19, 3) := by decide +kernel
theorem dX0_forgetLatest_25 : decode cX0_forgetLatest 25 = .ok (.return_, 1) := by decide +kernel
theorem dX0_latestPlace_0 : decode cX0_latestPlace 0 = .ok (.aload_n 0, 1) := by decide +kernel
theorem dX0_latestPlace_1 : decode cX0_latestPlace 1 = .ok (.getfield 15, 3) := by decide +kernel
theorem dX0_latestPlace_4 : decode cX0_latestPlace 4 = .ok (.ifCond .ne 8, 3) := by decide +kernel
theorem dX0_latestPlace_7 : decode cX0_latestPlace 7 = .ok (.bipush 39, 2) := by decide +kernel
theorem dX0_latestPlace_9 : decode cX0_latestPlace 9 = .ok (.goto 9, 3) := by decide +kernel
theorem dX0_latestPlace_12 : decode cX0_latestPlace 12 = .ok (.aload_n 0, 1) := by decide +kernel
theorem dX0_latestPlace_13 : decode cX0_latestPlace 13 = .ok (.getfield 15, 3) := by decide +kernel
theorem dX0_latestPlace_16 : decode cX0_latestPlace 16 = .ok (.iconst 1, 1) := by decide +kernel
theorem dX0_latestPlace_17 : decode cX0_latestPlace 17 = .ok (.isub, 1) := by decide +kernel
theorem dX0_latestPlace_18 : decode cX0_latestPlace 18 = .ok (.ireturn, 1) := by decide +kernel
theorem dX1_init_0 : decode cX1_init 0 = .ok (.aload_n 0, 1) := by decide +kernel
theorem dX1_init_1 : decode cX1_init 1 = .ok (.invokespecial 3, 3) := by decide +kernel
theorem dX1_init_4 : decode cX1_init 4 = .ok (.aload_n 0, 1) := by decide +kernel
theorem dX1_init_5 : decode cX1_init 5 = .ok (.bipush 10, 2) := by decide +kernel
theorem dX1_init_7 : decode cX1_init 7 = .ok (.newarray .int, 2) := by decide +kernel
theorem dX1_init_9 : decode cX1_init 9 = .ok (.putfield 9, 3) := by decide +kernel
theorem dX1_init_12 : decode cX1_init 12 = .ok (.aload_n 0, 1) := by decide +kernel
theorem dX1_init_13 : decode cX1_init 13 = .ok (.bipush 100, 2) := by decide +kernel
theorem dX1_init_15 : decode cX1_init 15 = .ok (.newarray .int, 2) := by decide +kernel
theorem dX1_init_17 : decode cX1_init 17 = .ok (.putfield 15, 3) := by decide +kernel
theorem dX1_init_20 : decode cX1_init 20 = .ok (.aload_n 0, 1) := by decide +kernel
theorem dX1_init_21 : decode cX1_init 21 = .ok (.iconst 0, 1) := by decide +kernel
theorem dX1_init_22 : decode cX1_init 22 = .ok (.newarray .int, 2) := by decide +kernel
theorem dX1_init_24 : decode cX1_init 24 = .ok (.putfield 18, 3) := by decide +kernel
theorem dX1_init_27 : decode cX1_init 27 = .ok (.return_, 1) := by decide +kernel
set_option maxRecDepth 20000 in
theorem ggX1_countRings_X4_wins : GoodIn wsX1_countRings wsX4_wins := goodIn_r _ [6, 7, 20, 21, 22, 23, 24, 25] (by decide +kernel) (by decide +kernel)
set_option maxRecDepth 20000 in
theorem gX1_countRings_X4_wins : GoodIn wsX1_countRings (wsV RX1 21 RX4 yX4_wins wsX4_wins) := goodIn_app (goodIn_of _ (by decide +kernel)) ggX1_countRings_X4_wins
set_option maxRecDepth 20000 in
theorem ggX1_countRings_X1_useRings : GoodIn wsX1_countRings wsX1_useRings := goodIn_r _ [12, 1, 13, 14, 15, 16, 17, 18, 19] (by decide +kernel) (by decide +kernel)
set_option maxRecDepth 20000 in
theorem gX1_countRings_X1_useRings : GoodIn wsX1_countRings (wsV RX1 27 RX1 yX1_useRings wsX1_useRings) := goodIn_app (goodIn_of _ (by decide +kernel)) ggX1_countRings_X1_useRings
theorem dX1_countRings_0 : decode cX1_countRings 0 = .ok (.iconst 0, 1) := by decide +kernel
theorem dX1_countRings_1 : decode cX1_countRings 1 = .ok (.istore_n 3, 1) := by decide +kernel
theorem dX1_countRings_2 : decode cX1_countRings 2 = .ok (.iload_n 3, 1) := by decide +kernel
theorem dX1_countRings_3 : decode cX1_countRings 3 = .ok (.iload_n 2, 1) := by decide +kernel
theorem dX1_countRings_4 : decode cX1_countRings 4 = .ok (.if_icmp .ge 43, 3) := by decide +kernel
theorem dX1_countRings_7 : decode cX1_countRings 7 = .ok (.iconst 0, 1) := by decide +kernel
theorem dX1_countRings_8 : decode cX1_countRings 8 = .ok (.istore 4, 2) := by decide +kernel
theorem dX1_countRings_10 : decode cX1_countRings 10 = .ok (.iload 4, 2) := by decide +kernel
theorem dX1_countRings_12 : decode cX1_countRings 12 = .ok (.iload_n 2, 1) := by decide +kernel
theorem dX1_countRings_13 : decode cX1_countRings 13 = .ok (.if_icmp .ge 28, 3) := by decide +kernel
theorem dX1_countRings_16 : decode cX1_countRings 16 = .ok (.aload_n 0, 1) := by decide +kernel
theorem dX1_countRings_17 : decode cX1_countRings 17 = .ok (.getfield 15, 3) := by decide +kernel
theorem dX1_countRings_20 : decode cX1_countRings 20 = .ok (.iload_n 3, 1) := by decide +kernel
theorem dX1_countRings_21 : decode cX1_countRings 21 = .ok (.bipush 10, 2) := by decide +kernel
theorem dX1_countRings_23 : decode cX1_countRings 23 = .ok (.imul, 1) := by decide +kernel
theorem dX1_countRings_24 : decode cX1_countRings 24 = .ok (.iload 4, 2) := by decide +kernel
theorem dX1_countRings_26 : decode cX1_countRings 26 = .ok (.iadd, 1) := by decide +kernel
theorem dX1_countRings_27 : decode cX1_countRings 27 = .ok (.aload_n 1, 1) := by decide +kernel
theorem dX1_countRings_28 : decode cX1_countRings 28 = .ok (.iload_n 3, 1) := by decide +kernel
theorem dX1_countRings_29 : decode cX1_countRings 29 = .ok (.iload 4, 2) := by decide +kernel
theorem dX1_countRings_31 : decode cX1_countRings 31 = .ok (.invokevirtual 21, 3) := by decide +kernel
theorem dX1_countRings_34 : decode cX1_countRings 34 = .ok (.iastore, 1) := by decide +kernel
theorem dX1_countRings_35 : decode cX1_countRings 35 = .ok (.iinc 4 1, 3) := by decide +kernel
theorem dX1_countRings_38 : decode cX1_countRings 38 = .ok (.goto (-28), 3) := by decide +kernel
theorem dX1_countRings_41 : decode cX1_countRings 41 = .ok (.iinc 3 1, 3) := by decide +kernel
theorem dX1_countRings_44 : decode cX1_countRings 44 = .ok (.goto (-42), 3) := by decide +kernel
theorem dX1_countRings_47 : decode cX1_countRings 47 = .ok (.iconst 0, 1) := by decide +kernel
theorem dX1_countRings_48 : decode cX1_countRings 48 = .ok (.istore_n 3, 1) := by decide +kernel
theorem dX1_countRings_49 : decode cX1_countRings 49 = .ok (.iconst 0, 1) := by decide +kernel
theorem dX1_countRings_50 : decode cX1_countRings 50 = .ok (.istore 4, 2) := by decide +kernel
theorem dX1_countRings_52 : decode cX1_countRings 52 = .ok (.iload 4, 2) := by decide +kernel
theorem dX1_countRings_54 : decode cX1_countRings 54 = .ok (.iload_n 2, 1) := by decide +kernel
theorem dX1_countRings_55 : decode cX1_countRings 55 = .ok (.if_icmp .ge 71, 3) := by decide +kernel
theorem dX1_countRings_58 : decode cX1_countRings 58 = .ok (.iload 4, 2) := by decide +kernel
theorem dX1_countRings_60 : decode cX1_countRings 60 = .ok (.iconst 1, 1) := by decide +kernel
theorem dX1_countRings_61 : decode cX1_countRings 61 = .ok (.iadd, 1) := by decide +kernel
theorem dX1_countRings_62 : decode cX1_countRings 62 = .ok (.istore 5, 2) := by decide +kernel
theorem dX1_countRings_64 : decode cX1_countRings 64 = .ok (.iload 5, 2) := by decide +kernel
theorem dX1_countRings_66 : decode cX1_countRings 66 = .ok (.iload_n 2, 1) := by decide +kernel
theorem dX1_countRings_67 : decode cX1_countRings 67 = .ok (.if_icmp .ge 53, 3) := by decide +kernel
theorem dX1_countRings_70 : decode cX1_countRings 70 = .ok (.iload 5, 2) := by decide +kernel
theorem dX1_countRings_72 : decode cX1_countRings 72 = .ok (.iconst 1, 1) := by decide +kernel
theorem dX1_countRings_73 : decode cX1_countRings 73 = .ok (.iadd, 1) := by decide +kernel
theorem dX1_countRings_74 : decode cX1_countRings 74 = .ok (.istore 6, 2) := by decide +kernel
theorem dX1_countRings_76 : decode cX1_countRings 76 = .ok (.iload 6, 2) := by decide +kernel
theorem dX1_countRings_78 : decode cX1_countRings 78 = .ok (.iload_n 2, 1) := by decide +kernel
theorem dX1_countRings_79 : decode cX1_countRings 79 = .ok (.if_icmp .ge 35, 3) := by decide +kernel
theorem dX1_countRings_82 : decode cX1_countRings 82 = .ok (.iload_n 3, 1) := by decide +kernel
theorem dX1_countRings_83 : decode cX1_countRings 83 = .ok (.aload_n 0, 1) := by decide +kernel
theorem dX1_countRings_84 : decode cX1_countRings 84 = .ok (.iload 4, 2) := by decide +kernel
theorem dX1_countRings_86 : decode cX1_countRings 86 = .ok (.iload 5, 2) := by decide +kernel
theorem dX1_countRings_88 : decode cX1_countRings 88 = .ok (.iload 6, 2) := by decide +kernel
theorem dX1_countRings_90 : decode cX1_countRings 90 = .ok (.invokevirtual 27, 3) := by decide +kernel
theorem dX1_countRings_93 : decode cX1_countRings 93 = .ok (.iadd, 1) := by decide +kernel
theorem dX1_countRings_94 : decode cX1_countRings 94 = .ok (.istore_n 3, 1) := by decide +kernel
theorem dX1_countRings_95 : decode cX1_countRings 95 = .ok (.iload_n 3, 1) := by decide +kernel
theorem dX1_countRings_96 : decode cX1_countRings 96 = .ok (.aload_n 0, 1) := by decide +kernel
theorem dX1_countRings_97 : decode cX1_countRings 97 = .ok (.iload 5, 2) := by decide +kernel
theorem dX1_countRings_99 : decode cX1_countRings 99 = .ok (.iload 4, 2) := by decide +kernel
theorem dX1_countRings_101 : decode cX1_countRings 101 = .ok (.iload 6, 2) := by decide +kernel
theorem dX1_countRings_103 : decode cX1_countRings 103 = .ok (.invokevirtual 27, 3) := by decide +kernel
theorem dX1_countRings_106 : decode cX1_countRings 106 = .ok (.iadd, 1) := by decide +kernel
theorem dX1_countRings_107 : decode cX1_countRings 107 = .ok (.istore_n 3, 1) := by decide +kernel
theorem dX1_countRings_108 : decode cX1_countRings 108 = .ok (.iinc 6 1, 3) := by decide +kernel
theorem dX1_countRings_111 : decode cX1_countRings 111 = .ok (.goto (-35), 3) := by decide +kernel
theorem dX1_countRings_114 : decode cX1_countRings 114 = .ok (.iinc 5 1, 3) := by decide +kernel
theorem dX1_countRings_117 : decode cX1_countRings 117 = .ok (.goto (-53), 3) := by decide +kernel
theorem dX1_countRings_120 : decode cX1_countRings 120 = .ok (.iinc 4 1, 3) := by decide +kernel
theorem dX1_countRings_123 : decode cX1_countRings 123 = .ok (.goto (-71), 3) := by decide +kernel
theorem dX1_countRings_126 : decode cX1_countRings 126 = .ok (.iload_n 3, 1) := by decide +kernel
theorem dX1_countRings_127 : decode cX1_countRings 127 = .ok (.ireturn, 1) := by decide +kernel
set_option maxRecDepth 20000 in
theorem ggX1_leastCore_X1_fillBeaten : GoodIn wsX1_leastCore wsX1_fillBeaten := goodIn_r _ [5, 6, 7, 8, 9, 10, 11, 12, 29, 30, 31, 32, 33, 34, 35, 36, 37] (by decide +kernel) (by decide +kernel)
set_option maxRecDepth 20000 in
theorem gX1_leastCore_X1_fillBeaten : GoodIn wsX1_leastCore (wsV RX1 31 RX1 yX1_fillBeaten wsX1_fillBeaten) := goodIn_app (goodIn_of _ (by decide +kernel)) ggX1_leastCore_X1_fillBeaten
set_option maxRecDepth 20000 in
theorem ggX1_leastCore_X9_everyone : GoodIn wsX1_leastCore wsX9_everyone := goodIn_r _ [15] (by decide +kernel) (by decide +kernel)
set_option maxRecDepth 20000 in
theorem gX1_leastCore_X9_everyone_n35 : GoodIn wsX1_leastCore (wsX9_everyone) := ggX1_leastCore_X9_everyone
set_option maxRecDepth 20000 in
theorem ggX1_leastCore_X1_leastUnbeaten : GoodIn wsX1_leastCore wsX1_leastUnbeaten := goodIn_r _ [19, 6, 20, 14, 21, 13, 15, 29, 30, 31] (by decide +kernel) (by decide +kernel)
set_option maxRecDepth 20000 in
theorem gX1_leastCore_X1_leastUnbeaten : GoodIn wsX1_leastCore (wsV RX1 39 RX1 yX1_leastUnbeaten wsX1_leastUnbeaten) := goodIn_app (goodIn_of _ (by decide +kernel)) ggX1_leastCore_X1_leastUnbeaten
set_option maxRecDepth 20000 in
theorem ggX1_leastCore_J6_bitCount_0f7a4 : GoodIn wsX1_leastCore wsJ6_bitCount_0f7a4 := goodIn_r _ [25, 26, 27, 28] (by decide +kernel) (by decide +kernel)
set_option maxRecDepth 20000 in
theorem gX1_leastCore_J6_bitCount_0f7a4 : GoodIn wsX1_leastCore (va_wsS RX1 42 yJ6_bitCount_0f7a4 wsJ6_bitCount_0f7a4) := goodIn_app (goodIn_of _ (by decide +kernel)) ggX1_leastCore_J6_bitCount_0f7a4
theorem dX1_leastCore_0 : decode cX1_leastCore 0 = .ok (.aload_n 0, 1) := by decide +kernel
theorem dX1_leastCore_1 : decode cX1_leastCore 1 = .ok (.aload_n 1, 1) := by decide +kernel
theorem dX1_leastCore_2 : decode cX1_leastCore 2 = .ok (.iload_n 2, 1) := by decide +kernel
theorem dX1_leastCore_3 : decode cX1_leastCore 3 = .ok (.invokevirtual 31, 3) := by decide +kernel
theorem dX1_leastCore_6 : decode cX1_leastCore 6 = .ok (.iload_n 2, 1) := by decide +kernel
theorem dX1_leastCore_7 : decode cX1_leastCore 7 = .ok (.invokestatic 35, 3) := by decide +kernel
theorem dX1_leastCore_10 : decode cX1_leastCore 10 = .ok (.istore_n 3, 1) := by decide +kernel
theorem dX1_leastCore_11 : decode cX1_leastCore 11 = .ok (.iconst 0, 1) := by decide +kernel
theorem dX1_leastCore_12 : decode cX1_leastCore 12 = .ok (.istore 4, 2) := by decide +kernel
theorem dX1_leastCore_14 : decode cX1_leastCore 14 = .ok (.iload 4, 2) := by decide +kernel
theorem dX1_leastCore_16 : decode cX1_leastCore 16 = .ok (.iload_n 2, 1) := by decide +kernel
theorem dX1_leastCore_17 : decode cX1_leastCore 17 = .ok (.if_icmp .ge 33, 3) := by decide +kernel
theorem dX1_leastCore_20 : decode cX1_leastCore 20 = .ok (.aload_n 0, 1) := by decide +kernel
theorem dX1_leastCore_21 : decode cX1_leastCore 21 = .ok (.iload 4, 2) := by decide +kernel
theorem dX1_leastCore_23 : decode cX1_leastCore 23 = .ok (.iload_n 2, 1) := by decide +kernel
theorem dX1_leastCore_24 : decode cX1_leastCore 24 = .ok (.invokevirtual 39, 3) := by decide +kernel
theorem dX1_leastCore_27 : decode cX1_leastCore 27 = .ok (.istore 5, 2) := by decide +kernel
theorem dX1_leastCore_29 : decode cX1_leastCore 29 = .ok (.iload 5, 2) := by decide +kernel
theorem dX1_leastCore_31 : decode cX1_leastCore 31 = .ok (.invokestatic 42, 3) := by decide +kernel
theorem dX1_leastCore_34 : decode cX1_leastCore 34 = .ok (.iload_n 3, 1) := by decide +kernel
theorem dX1_leastCore_35 : decode cX1_leastCore 35 = .ok (.invokestatic 42, 3) := by decide +kernel
theorem dX1_leastCore_38 : decode cX1_leastCore 38 = .ok (.if_icmp .ge 6, 3) := by decide +kernel
theorem dX1_leastCore_41 : decode cX1_leastCore 41 = .ok (.iload 5, 2) := by decide +kernel
theorem dX1_leastCore_43 : decode cX1_leastCore 43 = .ok (.istore_n 3, 1) := by decide +kernel
theorem dX1_leastCore_44 : decode cX1_leastCore 44 = .ok (.iinc 4 1, 3) := by decide +kernel
theorem dX1_leastCore_47 : decode cX1_leastCore 47 = .ok (.goto (-33), 3) := by decide +kernel
theorem dX1_leastCore_50 : decode cX1_leastCore 50 = .ok (.iload_n 3, 1) := by decide +kernel
theorem dX1_leastCore_51 : decode cX1_leastCore 51 = .ok (.ireturn, 1) := by decide +kernel
set_option maxRecDepth 20000 in
theorem ggX1_findChampion_X1_fillBeaten : GoodIn wsX1_findChampion wsX1_fillBeaten := goodIn_r _ [6, 1, 7, 8, 9, 10, 11, 12, 16, 17, 18, 19, 20, 21, 22, 23, 24] (by decide +kernel) (by decide +kernel)
set_option maxRecDepth 20000 in
theorem gX1_findChampion_X1_fillBeaten : GoodIn wsX1_findChampion (wsV RX1 31 RX1 yX1_fillBeaten wsX1_fillBeaten) := goodIn_app (goodIn_of _ (by decide +kernel)) ggX1_findChampion_X1_fillBeaten
set_option maxRecDepth 20000 in
theorem ggX1_findChampion_X9_everyone : GoodIn wsX1_findChampion wsX9_everyone := goodIn_r _ [15] (by decide +kernel) (by decide +kernel)
set_option maxRecDepth 20000 in
theorem gX1_findChampion_X9_everyone_n35 : GoodIn wsX1_findChampion (wsX9_everyone) := ggX1_findChampion_X9_everyone
theorem dX1_findChampion_0 : decode cX1_findChampion 0 = .ok (.aload_n 0, 1) := by decide +kernel
theorem dX1_findChampion_1 : decode cX1_findChampion 1 = .ok (.aload_n 1, 1) := by decide +kernel
theorem dX1_findChampion_2 : decode cX1_findChampion 2 = .ok (.iload_n 2, 1) := by decide +kernel
theorem dX1_findChampion_3 : decode cX1_findChampion 3 = .ok (.invokevirtual 31, 3) := by decide +kernel
theorem dX1_findChampion_6 : decode cX1_findChampion 6 = .ok (.iconst 0, 1) := by decide +kernel
theorem dX1_findChampion_7 : decode cX1_findChampion 7 = .ok (.istore_n 3, 1) := by decide +kernel
theorem dX1_findChampion_8 : decode cX1_findChampion 8 = .ok (.iload_n 3, 1) := by decide +kernel
theorem dX1_findChampion_9 : decode cX1_findChampion 9 = .ok (.iload_n 2, 1) := by decide +kernel
theorem dX1_findChampion_10 : decode cX1_findChampion 10 = .ok (.if_icmp .ge 28, 3) := by decide +kernel
theorem dX1_findChampion_13 : decode cX1_findChampion 13 = .ok (.aload_n 0, 1) := by decide +kernel
theorem dX1_findChampion_14 : decode cX1_findChampion 14 = .ok (.getfield 9, 3) := by decide +kernel
theorem dX1_findChampion_17 : decode cX1_findChampion 17 = .ok (.iload_n 3, 1) := by decide +kernel
theorem dX1_findChampion_18 : decode cX1_findChampion 18 = .ok (.iaload, 1) := by decide +kernel
theorem dX1_findChampion_19 : decode cX1_findChampion 19 = .ok (.iconst 1, 1) := by decide +kernel
theorem dX1_findChampion_20 : decode cX1_findChampion 20 = .ok (.iload_n 3, 1) := by decide +kernel
theorem dX1_findChampion_21 : decode cX1_findChampion 21 = .ok (.ishl, 1) := by decide +kernel
theorem dX1_findChampion_22 : decode cX1_findChampion 22 = .ok (.ior, 1) := by decide +kernel
theorem dX1_findChampion_23 : decode cX1_findChampion 23 = .ok (.iload_n 2, 1) := by decide +kernel
theorem dX1_findChampion_24 : decode cX1_findChampion 24 = .ok (.invokestatic 35, 3) := by decide +kernel
theorem dX1_findChampion_27 : decode cX1_findChampion 27 = .ok (.if_icmp .ne 5, 3) := by decide +kernel
theorem dX1_findChampion_30 : decode cX1_findChampion 30 = .ok (.iload_n 3, 1) := by decide +kernel
theorem dX1_findChampion_31 : decode cX1_findChampion 31 = .ok (.ireturn, 1) := by decide +kernel
theorem dX1_findChampion_32 : decode cX1_findChampion 32 = .ok (.iinc 3 1, 3) := by decide +kernel
theorem dX1_findChampion_35 : decode cX1_findChampion 35 = .ok (.goto (-27), 3) := by decide +kernel
theorem dX1_findChampion_38 : decode cX1_findChampion 38 = .ok (.iconst (-1), 1) := by decide +kernel
theorem dX1_findChampion_39 : decode cX1_findChampion 39 = .ok (.ireturn, 1) := by decide +kernel
set_option maxRecDepth 20000 in
theorem ggX1_countWalks_X1_fillBeaten : GoodIn wsX1_countWalks wsX1_fillBeaten := goodIn_r _ [6, 7, 8, 9, 10, 11, 12, 13, 32, 33, 34, 35, 36, 37, 38, 39, 40] (by decide +kernel) (by decide +kernel)
set_option maxRecDepth 20000 in
theorem gX1_countWalks_X1_fillBeaten : GoodIn wsX1_countWalks (wsV RX1 31 RX1 yX1_fillBeaten wsX1_fillBeaten) := goodIn_app (goodIn_of _ (by decide +kernel)) ggX1_countWalks_X1_fillBeaten
set_option maxRecDepth 20000 in
theorem ggX1_countWalks_X1_clearWays : GoodIn wsX1_countWalks wsX1_clearWays := goodIn_r _ [17, 1, 18, 19, 20, 21, 22, 32, 33, 34] (by decide +kernel) (by decide +kernel)
set_option maxRecDepth 20000 in
theorem gX1_countWalks_X1_clearWays : GoodIn wsX1_countWalks (wsV RX1 47 RX1 yX1_clearWays wsX1_clearWays) := goodIn_app (goodIn_of _ (by decide +kernel)) ggX1_countWalks_X1_clearWays
set_option maxRecDepth 20000 in
theorem ggX1_countWalks_X9_everyone : GoodIn wsX1_countWalks wsX9_everyone := goodIn_r _ [25] (by decide +kernel) (by decide +kernel)
set_option maxRecDepth 20000 in
theorem gX1_countWalks_X9_everyone_n35 : GoodIn wsX1_countWalks (wsX9_everyone) := ggX1_countWalks_X9_everyone
set_option maxRecDepth 20000 in
theorem ggX1_countWalks_X1_goOn : GoodIn wsX1_countWalks wsX1_goOn := goodIn_r _ [29, 1, 7, 30, 24, 31, 32, 33, 34] (by decide +kernel) (by decide +kernel)
set_option maxRecDepth 20000 in
theorem gX1_countWalks_X1_goOn : GoodIn wsX1_countWalks (wsV RX1 50 RX1 yX1_goOn wsX1_goOn) := goodIn_app (goodIn_of _ (by decide +kernel)) ggX1_countWalks_X1_goOn
theorem dX1_countWalks_0 : decode cX1_countWalks 0 = .ok (.aload_n 0, 1) := by decide +kernel
theorem dX1_countWalks_1 : decode cX1_countWalks 1 = .ok (.aload_n 1, 1) := by decide +kernel
theorem dX1_countWalks_2 : decode cX1_countWalks 2 = .ok (.iload_n 2, 1) := by decide +kernel
theorem dX1_countWalks_3 : decode cX1_countWalks 3 = .ok (.invokevirtual 31, 3) := by decide +kernel
theorem dX1_countWalks_6 : decode cX1_countWalks 6 = .ok (.aload_n 0, 1) := by decide +kernel
theorem dX1_countWalks_7 : decode cX1_countWalks 7 = .ok (.invokevirtual 47, 3) := by decide +kernel
theorem dX1_countWalks_10 : decode cX1_countWalks 10 = .ok (.iconst 0, 1) := by decide +kernel
theorem dX1_countWalks_11 : decode cX1_countWalks 11 = .ok (.istore_n 3, 1) := by decide +kernel
theorem dX1_countWalks_12 : decode cX1_countWalks 12 = .ok (.iload_n 3, 1) := by decide +kernel
theorem dX1_countWalks_13 : decode cX1_countWalks 13 = .ok (.iload_n 2, 1) := by decide +kernel
theorem dX1_countWalks_14 : decode cX1_countWalks 14 = .ok (.if_icmp .ge 23, 3) := by decide +kernel
theorem dX1_countWalks_17 : decode cX1_countWalks 17 = .ok (.aload_n 0, 1) := by decide +kernel
theorem dX1_countWalks_18 : decode cX1_countWalks 18 = .ok (.getfield 18, 3) := by decide +kernel
theorem dX1_countWalks_21 : decode cX1_countWalks 21 = .ok (.iconst 1, 1) := by decide +kernel
theorem dX1_countWalks_22 : decode cX1_countWalks 22 = .ok (.iload_n 3, 1) := by decide +kernel
theorem dX1_countWalks_23 : decode cX1_countWalks 23 = .ok (.ishl, 1) := by decide +kernel
theorem dX1_countWalks_24 : decode cX1_countWalks 24 = .ok (.bipush 10, 2) := by decide +kernel
theorem dX1_countWalks_26 : decode cX1_countWalks 26 = .ok (.imul, 1) := by decide +kernel
theorem dX1_countWalks_27 : decode cX1_countWalks 27 = .ok (.iload_n 3, 1) := by decide +kernel
theorem dX1_countWalks_28 : decode cX1_countWalks 28 = .ok (.iadd, 1) := by decide +kernel
theorem dX1_countWalks_29 : decode cX1_countWalks 29 = .ok (.iconst 1, 1) := by decide +kernel
theorem dX1_countWalks_30 : decode cX1_countWalks 30 = .ok (.iastore, 1) := by decide +kernel
theorem dX1_countWalks_31 : decode cX1_countWalks 31 = .ok (.iinc 3 1, 3) := by decide +kernel
theorem dX1_countWalks_34 : decode cX1_countWalks 34 = .ok (.goto (-22), 3) := by decide +kernel
theorem dX1_countWalks_37 : decode cX1_countWalks 37 = .ok (.iconst 1, 1) := by decide +kernel
theorem dX1_countWalks_38 : decode cX1_countWalks 38 = .ok (.istore_n 3, 1) := by decide +kernel
theorem dX1_countWalks_39 : decode cX1_countWalks 39 = .ok (.iload_n 3, 1) := by decide +kernel
theorem dX1_countWalks_40 : decode cX1_countWalks 40 = .ok (.iload_n 2, 1) := by decide +kernel
theorem dX1_countWalks_41 : decode cX1_countWalks 41 = .ok (.invokestatic 35, 3) := by decide +kernel
theorem dX1_countWalks_44 : decode cX1_countWalks 44 = .ok (.if_icmp .ge 32, 3) := by decide +kernel
theorem dX1_countWalks_47 : decode cX1_countWalks 47 = .ok (.iconst 0, 1) := by decide +kernel
theorem dX1_countWalks_48 : decode cX1_countWalks 48 = .ok (.istore 4, 2) := by decide +kernel
theorem dX1_countWalks_50 : decode cX1_countWalks 50 = .ok (.iload 4, 2) := by decide +kernel
theorem dX1_countWalks_52 : decode cX1_countWalks 52 = .ok (.iload_n 2, 1) := by decide +kernel
theorem dX1_countWalks_53 : decode cX1_countWalks 53 = .ok (.if_icmp .ge 17, 3) := by decide +kernel
theorem dX1_countWalks_56 : decode cX1_countWalks 56 = .ok (.aload_n 0, 1) := by decide +kernel
theorem dX1_countWalks_57 : decode cX1_countWalks 57 = .ok (.iload_n 2, 1) := by decide +kernel
theorem dX1_countWalks_58 : decode cX1_countWalks 58 = .ok (.iload_n 3, 1) := by decide +kernel
theorem dX1_countWalks_59 : decode cX1_countWalks 59 = .ok (.iload 4, 2) := by decide +kernel
theorem dX1_countWalks_61 : decode cX1_countWalks 61 = .ok (.invokevirtual 50, 3) := by decide +kernel
theorem dX1_countWalks_64 : decode cX1_countWalks 64 = .ok (.iinc 4 1, 3) := by decide +kernel
theorem dX1_countWalks_67 : decode cX1_countWalks 67 = .ok (.goto (-17), 3) := by decide +kernel
theorem dX1_countWalks_70 : decode cX1_countWalks 70 = .ok (.iinc 3 1, 3) := by decide +kernel
theorem dX1_countWalks_73 : decode cX1_countWalks 73 = .ok (.goto (-34), 3) := by decide +kernel
theorem dX1_countWalks_76 : decode cX1_countWalks 76 = .ok (.iconst 0, 1) := by decide +kernel
theorem dX1_countWalks_77 : decode cX1_countWalks 77 = .ok (.istore_n 3, 1) := by decide +kernel
theorem dX1_countWalks_78 : decode cX1_countWalks 78 = .ok (.iconst 0, 1) := by decide +kernel
theorem dX1_countWalks_79 : decode cX1_countWalks 79 = .ok (.istore 4, 2) := by decide +kernel
theorem dX1_countWalks_81 : decode cX1_countWalks 81 = .ok (.iload 4, 2) := by decide +kernel
theorem dX1_countWalks_83 : decode cX1_countWalks 83 = .ok (.iload_n 2, 1) := by decide +kernel
theorem dX1_countWalks_84 : decode cX1_countWalks 84 = .ok (.if_icmp .ge 27, 3) := by decide +kernel
theorem dX1_countWalks_87 : decode cX1_countWalks 87 = .ok (.iload_n 3, 1) := by decide +kernel
theorem dX1_countWalks_88 : decode cX1_countWalks 88 = .ok (.aload_n 0, 1) := by decide +kernel
theorem dX1_countWalks_89 : decode cX1_countWalks 89 = .ok (.getfield 18, 3) := by decide +kernel
theorem dX1_countWalks_92 : decode cX1_countWalks 92 = .ok (.iload_n 2, 1) := by decide +kernel
theorem dX1_countWalks_93 : decode cX1_countWalks 93 = .ok (.invokestatic 35, 3) := by decide +kernel
theorem dX1_countWalks_96 : decode cX1_countWalks 96 = .ok (.bipush 10, 2) := by decide +kernel
theorem dX1_countWalks_98 : decode cX1_countWalks 98 = .ok (.imul, 1) := by decide +kernel
theorem dX1_countWalks_99 : decode cX1_countWalks 99 = .ok (.iload 4, 2) := by decide +kernel
theorem dX1_countWalks_101 : decode cX1_countWalks 101 = .ok (.iadd, 1) := by decide +kernel
theorem dX1_countWalks_102 : decode cX1_countWalks 102 = .ok (.iaload, 1) := by decide +kernel
theorem dX1_countWalks_103 : decode cX1_countWalks 103 = .ok (.iadd, 1) := by decide +kernel
theorem dX1_countWalks_104 : decode cX1_countWalks 104 = .ok (.istore_n 3, 1) := by decide +kernel
theorem dX1_countWalks_105 : decode cX1_countWalks 105 = .ok (.iinc 4 1, 3) := by decide +kernel
theorem dX1_countWalks_108 : decode cX1_countWalks 108 = .ok (.goto (-27), 3) := by decide +kernel
theorem dX1_countWalks_111 : decode cX1_countWalks 111 = .ok (.iload_n 3, 1) := by decide +kernel
theorem dX1_countWalks_112 : decode cX1_countWalks 112 = .ok (.ireturn, 1) := by decide +kernel
set_option maxRecDepth 20000 in
theorem ggX1_clearWays_J7_fill_53178 : GoodIn wsX1_clearWays wsJ7_fill_53178 := goodIn_r _ [6] (by decide +kernel) (by decide +kernel)
set_option maxRecDepth 20000 in
theorem gX1_clearWays_J7_fill_53178 : GoodIn wsX1_clearWays (va_wsS RX1 54 yJ7_fill_53178 wsJ7_fill_53178) := goodIn_app (goodIn_of _ (by decide +kernel)) ggX1_clearWays_J7_fill_53178
theorem dX1_clearWays_0 : decode cX1_clearWays 0 = .ok (.aload_n 0, 1) := by decide +kernel
theorem dX1_clearWays_1 : decode cX1_clearWays 1 = .ok (.getfield 18, 3) := by decide +kernel
theorem dX1_clearWays_4 : decode cX1_clearWays 4 = .ok (.arraylength, 1) := by decide +kernel
theorem dX1_clearWays_5 : decode cX1_clearWays 5 = .ok (.ifCond .ne 15, 3) := by decide +kernel
theorem dX1_clearWays_8 : decode cX1_clearWays 8 = .ok (.aload_n 0, 1) := by decide +kernel
theorem dX1_clearWays_9 : decode cX1_clearWays 9 = .ok (.sipush 10240, 3) := by decide +kernel
theorem dX1_clearWays_12 : decode cX1_clearWays 12 = .ok (.newarray .int, 2) := by decide +kernel
theorem dX1_clearWays_14 : decode cX1_clearWays 14 = .ok (.putfield 18, 3) := by decide +kernel
theorem dX1_clearWays_17 : decode cX1_clearWays 17 = .ok (.goto 11, 3) := by decide +kernel
theorem dX1_clearWays_20 : decode cX1_clearWays 20 = .ok (.aload_n 0, 1) := by decide +kernel
theorem dX1_clearWays_21 : decode cX1_clearWays 21 = .ok (.getfield 18, 3) := by decide +kernel
theorem dX1_clearWays_24 : decode cX1_clearWays 24 = .ok (.iconst 0, 1) := by decide +kernel
theorem dX1_clearWays_25 : decode cX1_clearWays 25 = .ok (.invokestatic 54, 3) := by decide +kernel
theorem dX1_clearWays_28 : decode cX1_clearWays 28 = .ok (.return_, 1) := by decide +kernel
set_option maxRecDepth 20000 in
theorem ggX1_fillBeaten_X4_wins : GoodIn wsX1_fillBeaten wsX4_wins := goodIn_r _ [6, 7, 11, 12, 13, 14, 15, 16] (by decide +kernel) (by decide +kernel)
set_option maxRecDepth 20000 in
theorem gX1_fillBeaten_X4_wins : GoodIn wsX1_fillBeaten (wsV RX1 21 RX4 yX4_wins wsX4_wins) := goodIn_app (goodIn_of _ (by decide +kernel)) ggX1_fillBeaten_X4_wins
theorem dX1_fillBeaten_0 : decode cX1_fillBeaten 0 = .ok (.iconst 0, 1) := by decide +kernel
theorem dX1_fillBeaten_1 : decode cX1_fillBeaten 1 = .ok (.istore_n 3, 1) := by decide +kernel
theorem dX1_fillBeaten_2 : decode cX1_fillBeaten 2 = .ok (.iload_n 3, 1) := by decide +kernel
theorem dX1_fillBeaten_3 : decode cX1_fillBeaten 3 = .ok (.iload_n 2, 1) := by decide +kernel
theorem dX1_fillBeaten_4 : decode cX1_fillBeaten 4 = .ok (.if_icmp .ge 61, 3) := by decide +kernel
theorem dX1_fillBeaten_7 : decode cX1_fillBeaten 7 = .ok (.aload_n 0, 1) := by decide +kernel
theorem dX1_fillBeaten_8 : decode cX1_fillBeaten 8 = .ok (.getfield 9, 3) := by decide +kernel
theorem dX1_fillBeaten_11 : decode cX1_fillBeaten 11 = .ok (.iload_n 3, 1) := by decide +kernel
theorem dX1_fillBeaten_12 : decode cX1_fillBeaten 12 = .ok (.iconst 0, 1) := by decide +kernel
theorem dX1_fillBeaten_13 : decode cX1_fillBeaten 13 = .ok (.iastore, 1) := by decide +kernel
theorem dX1_fillBeaten_14 : decode cX1_fillBeaten 14 = .ok (.iconst 0, 1) := by decide +kernel
theorem dX1_fillBeaten_15 : decode cX1_fillBeaten 15 = .ok (.istore 4, 2) := by decide +kernel
theorem dX1_fillBeaten_17 : decode cX1_fillBeaten 17 = .ok (.iload 4, 2) := by decide +kernel
theorem dX1_fillBeaten_19 : decode cX1_fillBeaten 19 = .ok (.iload_n 2, 1) := by decide +kernel
theorem dX1_fillBeaten_20 : decode cX1_fillBeaten 20 = .ok (.if_icmp .ge 39, 3) := by decide +kernel
theorem dX1_fillBeaten_23 : decode cX1_fillBeaten 23 = .ok (.aload_n 1, 1) := by decide +kernel
theorem dX1_fillBeaten_24 : decode cX1_fillBeaten 24 = .ok (.iload_n 3, 1) := by decide +kernel
theorem dX1_fillBeaten_25 : decode cX1_fillBeaten 25 = .ok (.iload 4, 2) := by decide +kernel
theorem dX1_fillBeaten_27 : decode cX1_fillBeaten 27 = .ok (.invokevirtual 21, 3) := by decide +kernel
theorem dX1_fillBeaten_30 : decode cX1_fillBeaten 30 = .ok (.aload_n 1, 1) := by decide +kernel
theorem dX1_fillBeaten_31 : decode cX1_fillBeaten 31 = .ok (.iload 4, 2) := by decide +kernel
theorem dX1_fillBeaten_33 : decode cX1_fillBeaten 33 = .ok (.iload_n 3, 1) := by decide +kernel
theorem dX1_fillBeaten_34 : decode cX1_fillBeaten 34 = .ok (.invokevirtual 21, 3) := by decide +kernel
theorem dX1_fillBeaten_37 : decode cX1_fillBeaten 37 = .ok (.if_icmp .le 16, 3) := by decide +kernel
theorem dX1_fillBeaten_40 : decode cX1_fillBeaten 40 = .ok (.aload_n 0, 1) := by decide +kernel
theorem dX1_fillBeaten_41 : decode cX1_fillBeaten 41 = .ok (.getfield 9, 3) := by decide +kernel
theorem dX1_fillBeaten_44 : decode cX1_fillBeaten 44 = .ok (.iload_n 3, 1) := by decide +kernel
theorem dX1_fillBeaten_45 : decode cX1_fillBeaten 45 = .ok (.dup2, 1) := by decide +kernel
theorem dX1_fillBeaten_46 : decode cX1_fillBeaten 46 = .ok (.iaload, 1) := by decide +kernel
theorem dX1_fillBeaten_47 : decode cX1_fillBeaten 47 = .ok (.iconst 1, 1) := by decide +kernel
theorem dX1_fillBeaten_48 : decode cX1_fillBeaten 48 = .ok (.iload 4, 2) := by decide +kernel
theorem dX1_fillBeaten_50 : decode cX1_fillBeaten 50 = .ok (.ishl, 1) := by decide +kernel
theorem dX1_fillBeaten_51 : decode cX1_fillBeaten 51 = .ok (.ior, 1) := by decide +kernel
theorem dX1_fillBeaten_52 : decode cX1_fillBeaten 52 = .ok (.iastore, 1) := by decide +kernel
theorem dX1_fillBeaten_53 : decode cX1_fillBeaten 53 = .ok (.iinc 4 1, 3) := by decide +kernel
theorem dX1_fillBeaten_56 : decode cX1_fillBeaten 56 = .ok (.goto (-39), 3) := by decide +kernel
theorem dX1_fillBeaten_59 : decode cX1_fillBeaten 59 = .ok (.iinc 3 1, 3) := by decide +kernel
theorem dX1_fillBeaten_62 : decode cX1_fillBeaten 62 = .ok (.goto (-60), 3) := by decide +kernel
theorem dX1_fillBeaten_65 : decode cX1_fillBeaten 65 = .ok (.return_, 1) := by decide +kernel
theorem dX1_useRings_0 : decode cX1_useRings 0 = .ok (.iload_n 1, 1) := by decide +kernel
theorem dX1_useRings_1 : decode cX1_useRings 1 = .ok (.bipush 10, 2) := by decide +kernel
theorem dX1_useRings_3 : decode cX1_useRings 3 = .ok (.imul, 1) := by decide +kernel
theorem dX1_useRings_4 : decode cX1_useRings 4 = .ok (.iload_n 2, 1) := by decide +kernel
theorem dX1_useRings_5 : decode cX1_useRings 5 = .ok (.iadd, 1) := by decide +kernel
theorem dX1_useRings_6 : decode cX1_useRings 6 = .ok (.istore 4, 2) := by decide +kernel
theorem dX1_useRings_8 : decode cX1_useRings 8 = .ok (.iload_n 2, 1) := by decide +kernel
theorem dX1_useRings_9 : decode cX1_useRings 9 = .ok (.bipush 10, 2) := by decide +kernel
theorem dX1_useRings_11 : decode cX1_useRings 11 = .ok (.imul, 1) := by decide +kernel
theorem dX1_useRings_12 : decode cX1_useRings 12 = .ok (.iload_n 3, 1) := by decide +kernel
theorem dX1_useRings_13 : decode cX1_useRings 13 = .ok (.iadd, 1) := by decide +kernel
theorem dX1_useRings_14 : decode cX1_useRings 14 = .ok (.istore 5, 2) := by decide +kernel
theorem dX1_useRings_16 : decode cX1_useRings 16 = .ok (.iload_n 3, 1) := by decide +kernel
theorem dX1_useRings_17 : decode cX1_useRings 17 = .ok (.bipush 10, 2) := by decide +kernel
theorem dX1_useRings_19 : decode cX1_useRings 19 = .ok (.imul, 1) := by decide +kernel
theorem dX1_useRings_20 : decode cX1_useRings 20 = .ok (.iload_n 1, 1) := by decide +kernel
theorem dX1_useRings_21 : decode cX1_useRings 21 = .ok (.iadd, 1) := by decide +kernel
theorem dX1_useRings_22 : decode cX1_useRings 22 = .ok (.istore 6, 2) := by decide +kernel
theorem dX1_useRings_24 : decode cX1_useRings 24 = .ok (.aload_n 0, 1) := by decide +kernel
theorem dX1_useRings_25 : decode cX1_useRings 25 = .ok (.getfield 15, 3) := by decide +kernel
theorem dX1_useRings_28 : decode cX1_useRings 28 = .ok (.iload 4, 2) := by decide +kernel
theorem dX1_useRings_30 : decode cX1_useRings 30 = .ok (.iaload, 1) := by decide +kernel
theorem dX1_useRings_31 : decode cX1_useRings 31 = .ok (.aload_n 0, 1) := by decide +kernel
theorem dX1_useRings_32 : decode cX1_useRings 32 = .ok (.getfield 15, 3) := by decide +kernel
theorem dX1_useRings_35 : decode cX1_useRings 35 = .ok (.iload 5, 2) := by decide +kernel
theorem dX1_useRings_37 : decode cX1_useRings 37 = .ok (.iaload, 1) := by decide +kernel
theorem dX1_useRings_38 : decode cX1_useRings 38 = .ok (.aload_n 0, 1) := by decide +kernel
theorem dX1_useRings_39 : decode cX1_useRings 39 = .ok (.getfield 15, 3) := by decide +kernel
theorem dX1_useRings_42 : decode cX1_useRings 42 = .ok (.iload 6, 2) := by decide +kernel
theorem dX1_useRings_44 : decode cX1_useRings 44 = .ok (.iaload, 1) := by decide +kernel
theorem dX1_useRings_45 : decode cX1_useRings 45 = .ok (.invokestatic 60, 3) := by decide +kernel
theorem dX1_useRings_48 : decode cX1_useRings 48 = .ok (.invokestatic 60, 3) := by decide +kernel
theorem dX1_useRings_51 : decode cX1_useRings 51 = .ok (.istore 7, 2) := by decide +kernel
theorem dX1_useRings_53 : decode cX1_useRings 53 = .ok (.aload_n 0, 1) := by decide +kernel
theorem dX1_useRings_54 : decode cX1_useRings 54 = .ok (.getfield 15, 3) := by decide +kernel
theorem dX1_useRings_57 : decode cX1_useRings 57 = .ok (.iload 4, 2) := by decide +kernel
theorem dX1_useRings_59 : decode cX1_useRings 59 = .ok (.dup2, 1) := by decide +kernel
theorem dX1_useRings_60 : decode cX1_useRings 60 = .ok (.iaload, 1) := by decide +kernel
theorem dX1_useRings_61 : decode cX1_useRings 61 = .ok (.iload 7, 2) := by decide +kernel
theorem dX1_useRings_63 : decode cX1_useRings 63 = .ok (.isub, 1) := by decide +kernel
theorem dX1_useRings_64 : decode cX1_useRings 64 = .ok (.iastore, 1) := by decide +kernel
theorem dX1_useRings_65 : decode cX1_useRings 65 = .ok (.aload_n 0, 1) := by decide +kernel
theorem dX1_useRings_66 : decode cX1_useRings 66 = .ok (.getfield 15, 3) := by decide +kernel
theorem dX1_useRings_69 : decode cX1_useRings 69 = .ok (.iload 5, 2) := by decide +kernel
theorem dX1_useRings_71 : decode cX1_useRings 71 = .ok (.dup2, 1) := by decide +kernel
theorem dX1_useRings_72 : decode cX1_useRings 72 = .ok (.iaload, 1) := by decide +kernel
theorem dX1_useRings_73 : decode cX1_useRings 73 = .ok (.iload 7, 2) := by decide +kernel
theorem dX1_useRings_75 : decode cX1_useRings 75 = .ok (.isub, 1) := by decide +kernel
theorem dX1_useRings_76 : decode cX1_useRings 76 = .ok (.iastore, 1) := by decide +kernel
theorem dX1_useRings_77 : decode cX1_useRings 77 = .ok (.aload_n 0, 1) := by decide +kernel
theorem dX1_useRings_78 : decode cX1_useRings 78 = .ok (.getfield 15, 3) := by decide +kernel
theorem dX1_useRings_81 : decode cX1_useRings 81 = .ok (.iload 6, 2) := by decide +kernel
theorem dX1_useRings_83 : decode cX1_useRings 83 = .ok (.dup2, 1) := by decide +kernel
theorem dX1_useRings_84 : decode cX1_useRings 84 = .ok (.iaload, 1) := by decide +kernel
theorem dX1_useRings_85 : decode cX1_useRings 85 = .ok (.iload 7, 2) := by decide +kernel
theorem dX1_useRings_87 : decode cX1_useRings 87 = .ok (.isub, 1) := by decide +kernel
theorem dX1_useRings_88 : decode cX1_useRings 88 = .ok (.iastore, 1) := by decide +kernel
theorem dX1_useRings_89 : decode cX1_useRings 89 = .ok (.iload 7, 2) := by decide +kernel
theorem dX1_useRings_91 : decode cX1_useRings 91 = .ok (.ireturn, 1) := by decide +kernel
set_option maxRecDepth 20000 in
theorem ggX1_leastUnbeaten_X9_isIn : GoodIn wsX1_leastUnbeaten wsX9_isIn := goodIn_r _ [4] (by decide +kernel) (by decide +kernel)
set_option maxRecDepth 20000 in
theorem gX1_leastUnbeaten_X9_isIn_n65 : GoodIn wsX1_leastUnbeaten (wsX9_isIn) := ggX1_leastUnbeaten_X9_isIn
set_option maxRecDepth 20000 in
theorem ggX1_leastUnbeaten_X9_everyone : GoodIn wsX1_leastUnbeaten wsX9_everyone := goodIn_r _ [6] (by decide +kernel) (by decide +kernel)
set_option maxRecDepth 20000 in
theorem gX1_leastUnbeaten_X9_everyone_n35 : GoodIn wsX1_leastUnbeaten (wsX9_everyone) := ggX1_leastUnbeaten_X9_everyone
theorem dX1_leastUnbeaten_0 : decode cX1_leastUnbeaten 0 = .ok (.iconst 1, 1) := by decide +kernel
theorem dX1_leastUnbeaten_1 : decode cX1_leastUnbeaten 1 = .ok (.iload_n 1, 1) := by decide +kernel
theorem dX1_leastUnbeaten_2 : decode cX1_leastUnbeaten 2 = .ok (.ishl, 1) := by decide +kernel
theorem dX1_leastUnbeaten_3 : decode cX1_leastUnbeaten 3 = .ok (.istore_n 3, 1) := by decide +kernel
theorem dX1_leastUnbeaten_4 : decode cX1_leastUnbeaten 4 = .ok (.iconst 0, 1) := by decide +kernel
theorem dX1_leastUnbeaten_5 : decode cX1_leastUnbeaten 5 = .ok (.istore 4, 2) := by decide +kernel
theorem dX1_leastUnbeaten_7 : decode cX1_leastUnbeaten 7 = .ok (.iload 4, 2) := by decide +kernel
theorem dX1_leastUnbeaten_9 : decode cX1_leastUnbeaten 9 = .ok (.iload_n 2, 1) := by decide +kernel
theorem dX1_leastUnbeaten_10 : decode cX1_leastUnbeaten 10 = .ok (.if_icmp .ge 50, 3) := by decide +kernel
theorem dX1_leastUnbeaten_13 : decode cX1_leastUnbeaten 13 = .ok (.iconst 0, 1) := by decide +kernel
theorem dX1_leastUnbeaten_14 : decode cX1_leastUnbeaten 14 = .ok (.istore 5, 2) := by decide +kernel
theorem dX1_leastUnbeaten_16 : decode cX1_leastUnbeaten 16 = .ok (.iload 5, 2) := by decide +kernel
theorem dX1_leastUnbeaten_18 : decode cX1_leastUnbeaten 18 = .ok (.iload_n 2, 1) := by decide +kernel
theorem dX1_leastUnbeaten_19 : decode cX1_leastUnbeaten 19 = .ok (.if_icmp .ge 35, 3) := by decide +kernel
theorem dX1_leastUnbeaten_22 : decode cX1_leastUnbeaten 22 = .ok (.iload_n 3, 1) := by decide +kernel
theorem dX1_leastUnbeaten_23 : decode cX1_leastUnbeaten 23 = .ok (.iload 5, 2) := by decide +kernel
theorem dX1_leastUnbeaten_25 : decode cX1_leastUnbeaten 25 = .ok (.invokestatic 65, 3) := by decide +kernel
theorem dX1_leastUnbeaten_28 : decode cX1_leastUnbeaten 28 = .ok (.ifCond .eq 20, 3) := by decide +kernel
theorem dX1_leastUnbeaten_31 : decode cX1_leastUnbeaten 31 = .ok (.iload_n 3, 1) := by decide +kernel
theorem dX1_leastUnbeaten_32 : decode cX1_leastUnbeaten 32 = .ok (.iload_n 2, 1) := by decide +kernel
theorem dX1_leastUnbeaten_33 : decode cX1_leastUnbeaten 33 = .ok (.invokestatic 35, 3) := by decide +kernel
theorem dX1_leastUnbeaten_36 : decode cX1_leastUnbeaten 36 = .ok (.aload_n 0, 1) := by decide +kernel
theorem dX1_leastUnbeaten_37 : decode cX1_leastUnbeaten 37 = .ok (.getfield 9, 3) := by decide +kernel
theorem dX1_leastUnbeaten_40 : decode cX1_leastUnbeaten 40 = .ok (.iload 5, 2) := by decide +kernel
theorem dX1_leastUnbeaten_42 : decode cX1_leastUnbeaten 42 = .ok (.iaload, 1) := by decide +kernel
theorem dX1_leastUnbeaten_43 : decode cX1_leastUnbeaten 43 = .ok (.iconst (-1), 1) := by decide +kernel
theorem dX1_leastUnbeaten_44 : decode cX1_leastUnbeaten 44 = .ok (.ixor, 1) := by decide +kernel
theorem dX1_leastUnbeaten_45 : decode cX1_leastUnbeaten 45 = .ok (.iand, 1) := by decide +kernel
theorem dX1_leastUnbeaten_46 : decode cX1_leastUnbeaten 46 = .ok (.ior, 1) := by decide +kernel
theorem dX1_leastUnbeaten_47 : decode cX1_leastUnbeaten 47 = .ok (.istore_n 3, 1) := by decide +kernel
theorem dX1_leastUnbeaten_48 : decode cX1_leastUnbeaten 48 = .ok (.iinc 5 1, 3) := by decide +kernel
theorem dX1_leastUnbeaten_51 : decode cX1_leastUnbeaten 51 = .ok (.goto (-35), 3) := by decide +kernel
theorem dX1_leastUnbeaten_54 : decode cX1_leastUnbeaten 54 = .ok (.iinc 4 1, 3) := by decide +kernel
theorem dX1_leastUnbeaten_57 : decode cX1_leastUnbeaten 57 = .ok (.goto (-50), 3) := by decide +kernel
theorem dX1_leastUnbeaten_60 : decode cX1_leastUnbeaten 60 = .ok (.iload_n 3, 1) := by decide +kernel
theorem dX1_leastUnbeaten_61 : decode cX1_leastUnbeaten 61 = .ok (.ireturn, 1) := by decide +kernel
set_option maxRecDepth 20000 in
theorem ggX1_goOn_X9_isIn : GoodIn wsX1_goOn wsX9_isIn := goodIn_r _ [5] (by decide +kernel) (by decide +kernel)
set_option maxRecDepth 20000 in
theorem gX1_goOn_X9_isIn_n65 : GoodIn wsX1_goOn (wsX9_isIn) := ggX1_goOn_X9_isIn
theorem dX1_goOn_0 : decode cX1_goOn 0 = .ok (.aload_n 0, 1) := by decide +kernel
theorem dX1_goOn_1 : decode cX1_goOn 1 = .ok (.getfield 18, 3) := by decide +kernel
theorem dX1_goOn_4 : decode cX1_goOn 4 = .ok (.iload_n 2, 1) := by decide +kernel
theorem dX1_goOn_5 : decode cX1_goOn 5 = .ok (.bipush 10, 2) := by decide +kernel
theorem dX1_goOn_7 : decode cX1_goOn 7 = .ok (.imul, 1) := by decide +kernel
theorem dX1_goOn_8 : decode cX1_goOn 8 = .ok (.iload_n 3, 1) := by decide +kernel
theorem dX1_goOn_9 : decode cX1_goOn 9 = .ok (.iadd, 1) := by decide +kernel
theorem dX1_goOn_10 : decode cX1_goOn 10 = .ok (.iaload, 1) := by decide +kernel
theorem dX1_goOn_11 : decode cX1_goOn 11 = .ok (.istore 4, 2) := by decide +kernel
theorem dX1_goOn_13 : decode cX1_goOn 13 = .ok (.aload_n 0, 1) := by decide +kernel
theorem dX1_goOn_14 : decode cX1_goOn 14 = .ok (.getfield 9, 3) := by decide +kernel
theorem dX1_goOn_17 : decode cX1_goOn 17 = .ok (.iload_n 3, 1) := by decide +kernel
theorem dX1_goOn_18 : decode cX1_goOn 18 = .ok (.iaload, 1) := by decide +kernel
theorem dX1_goOn_19 : decode cX1_goOn 19 = .ok (.iload_n 2, 1) := by decide +kernel
theorem dX1_goOn_20 : decode cX1_goOn 20 = .ok (.iconst (-1), 1) := by decide +kernel
theorem dX1_goOn_21 : decode cX1_goOn 21 = .ok (.ixor, 1) := by decide +kernel
theorem dX1_goOn_22 : decode cX1_goOn 22 = .ok (.iand, 1) := by decide +kernel
theorem dX1_goOn_23 : decode cX1_goOn 23 = .ok (.istore 5, 2) := by decide +kernel
theorem dX1_goOn_25 : decode cX1_goOn 25 = .ok (.iload 4, 2) := by decide +kernel
theorem dX1_goOn_27 : decode cX1_goOn 27 = .ok (.ifCond .eq 8, 3) := by decide +kernel
theorem dX1_goOn_30 : decode cX1_goOn 30 = .ok (.iload 5, 2) := by decide +kernel
theorem dX1_goOn_32 : decode cX1_goOn 32 = .ok (.ifCond .ne 4, 3) := by decide +kernel
theorem dX1_goOn_35 : decode cX1_goOn 35 = .ok (.return_, 1) := by decide +kernel
theorem dX1_goOn_36 : decode cX1_goOn 36 = .ok (.iconst 0, 1) := by decide +kernel
theorem dX1_goOn_37 : decode cX1_goOn 37 = .ok (.istore 6, 2) := by decide +kernel
theorem dX1_goOn_39 : decode cX1_goOn 39 = .ok (.iload 6, 2) := by decide +kernel
theorem dX1_goOn_41 : decode cX1_goOn 41 = .ok (.iload_n 1, 1) := by decide +kernel
theorem dX1_goOn_42 : decode cX1_goOn 42 = .ok (.if_icmp .ge 41, 3) := by decide +kernel
theorem dX1_goOn_45 : decode cX1_goOn 45 = .ok (.iload 5, 2) := by decide +kernel
theorem dX1_goOn_47 : decode cX1_goOn 47 = .ok (.iload 6, 2) := by decide +kernel
theorem dX1_goOn_49 : decode cX1_goOn 49 = .ok (.invokestatic 65, 3) := by decide +kernel
theorem dX1_goOn_52 : decode cX1_goOn 52 = .ok (.ifCond .eq 25, 3) := by decide +kernel
theorem dX1_goOn_55 : decode cX1_goOn 55 = .ok (.aload_n 0, 1) := by decide +kernel
theorem dX1_goOn_56 : decode cX1_goOn 56 = .ok (.getfield 18, 3) := by decide +kernel
theorem dX1_goOn_59 : decode cX1_goOn 59 = .ok (.iload_n 2, 1) := by decide +kernel
theorem dX1_goOn_60 : decode cX1_goOn 60 = .ok (.iconst 1, 1) := by decide +kernel
theorem dX1_goOn_61 : decode cX1_goOn 61 = .ok (.iload 6, 2) := by decide +kernel
theorem dX1_goOn_63 : decode cX1_goOn 63 = .ok (.ishl, 1) := by decide +kernel
theorem dX1_goOn_64 : decode cX1_goOn 64 = .ok (.ior, 1) := by decide +kernel
theorem dX1_goOn_65 : decode cX1_goOn 65 = .ok (.bipush 10, 2) := by decide +kernel
theorem dX1_goOn_67 : decode cX1_goOn 67 = .ok (.imul, 1) := by decide +kernel
theorem dX1_goOn_68 : decode cX1_goOn 68 = .ok (.iload 6, 2) := by decide +kernel
theorem dX1_goOn_70 : decode cX1_goOn 70 = .ok (.iadd, 1) := by decide +kernel
theorem dX1_goOn_71 : decode cX1_goOn 71 = .ok (.dup2, 1) := by decide +kernel
theorem dX1_goOn_72 : decode cX1_goOn 72 = .ok (.iaload, 1) := by decide +kernel
theorem dX1_goOn_73 : decode cX1_goOn 73 = .ok (.iload 4, 2) := by decide +kernel
theorem dX1_goOn_75 : decode cX1_goOn 75 = .ok (.iadd, 1) := by decide +kernel
theorem dX1_goOn_76 : decode cX1_goOn 76 = .ok (.iastore, 1) := by decide +kernel
theorem dX1_goOn_77 : decode cX1_goOn 77 = .ok (.iinc 6 1, 3) := by decide +kernel
theorem dX1_goOn_80 : decode cX1_goOn 80 = .ok (.goto (-41), 3) := by decide +kernel
theorem dX1_goOn_83 : decode cX1_goOn 83 = .ok (.return_, 1) := by decide +kernel
theorem dX2_init_0 : decode cX2_init 0 = .ok (.aload_n 0, 1) := by decide +kernel
theorem dX2_init_1 : decode cX2_init 1 = .ok (.invokespecial 3, 3) := by decide +kernel
theorem dX2_init_4 : decode cX2_init 4 = .ok (.aload_n 0, 1) := by decide +kernel
theorem dX2_init_5 : decode cX2_init 5 = .ok (.bipush 30, 2) := by decide +kernel
theorem dX2_init_7 : decode cX2_init 7 = .ok (.newarray .long, 2) := by decide +kernel
theorem dX2_init_9 : decode cX2_init 9 = .ok (.putfield 11, 3) := by decide +kernel
theorem dX2_init_12 : decode cX2_init 12 = .ok (.aload_n 0, 1) := by decide +kernel
theorem dX2_init_13 : decode cX2_init 13 = .ok (.lconst 1, 1) := by decide +kernel
theorem dX2_init_14 : decode cX2_init 14 = .ok (.putfield 15, 3) := by decide +kernel
theorem dX2_init_17 : decode cX2_init 17 = .ok (.return_, 1) := by decide +kernel
set_option maxRecDepth 20000 in
theorem ggX2_solve_X2_fillRow : GoodIn wsX2_solve wsX2_fillRow := goodIn_r _ [6, 7, 8, 9, 10, 11, 12, 13, 14, 15, 16, 17, 18, 19, 20, 21, 22, 23, 24, 25, 26, 27, 32, 33, 34, 35, 36, 37, 38, 39] (by decide +kernel) (by decide +kernel)
set_option maxRecDepth 20000 in
theorem gX2_solve_X2_fillRow : GoodIn wsX2_solve (wsV RX2 19 RX2 yX2_fillRow wsX2_fillRow) := goodIn_app (goodIn_of _ (by decide +kernel)) ggX2_solve_X2_fillRow
set_option maxRecDepth 20000 in
theorem ggX2_solve_X2_clearColumn : GoodIn wsX2_solve wsX2_clearColumn := goodIn_r _ [31, 1, 7, 32, 33] (by decide +kernel) (by decide +kernel)
set_option maxRecDepth 20000 in
theorem gX2_solve_X2_clearColumn : GoodIn wsX2_solve (wsV RX2 23 RX2 yX2_clearColumn wsX2_clearColumn) := goodIn_app (goodIn_of _ (by decide +kernel)) ggX2_solve_X2_clearColumn
theorem dX2_solve_0 : decode cX2_solve 0 = .ok (.iload_n 2, 1) := by decide +kernel
theorem dX2_solve_1 : decode cX2_solve 1 = .ok (.iconst 1, 1) := by decide +kernel
theorem dX2_solve_2 : decode cX2_solve 2 = .ok (.isub, 1) := by decide +kernel
theorem dX2_solve_3 : decode cX2_solve 3 = .ok (.istore_n 3, 1) := by decide +kernel
theorem dX2_solve_4 : decode cX2_solve 4 = .ok (.iconst 0, 1) := by decide +kernel
theorem dX2_solve_5 : decode cX2_solve 5 = .ok (.istore 4, 2) := by decide +kernel
theorem dX2_solve_7 : decode cX2_solve 7 = .ok (.iload 4, 2) := by decide +kernel
theorem dX2_solve_9 : decode cX2_solve 9 = .ok (.iload_n 3, 1) := by decide +kernel
theorem dX2_solve_10 : decode cX2_solve 10 = .ok (.if_icmp .ge 17, 3) := by decide +kernel
theorem dX2_solve_13 : decode cX2_solve 13 = .ok (.aload_n 0, 1) := by decide +kernel
theorem dX2_solve_14 : decode cX2_solve 14 = .ok (.aload_n 1, 1) := by decide +kernel
theorem dX2_solve_15 : decode cX2_solve 15 = .ok (.iload_n 2, 1) := by decide +kernel
theorem dX2_solve_16 : decode cX2_solve 16 = .ok (.iload 4, 2) := by decide +kernel
theorem dX2_solve_18 : decode cX2_solve 18 = .ok (.invokevirtual 19, 3) := by decide +kernel
theorem dX2_solve_21 : decode cX2_solve 21 = .ok (.iinc 4 1, 3) := by decide +kernel
theorem dX2_solve_24 : decode cX2_solve 24 = .ok (.goto (-17), 3) := by decide +kernel
theorem dX2_solve_27 : decode cX2_solve 27 = .ok (.aload_n 0, 1) := by decide +kernel
theorem dX2_solve_28 : decode cX2_solve 28 = .ok (.lconst 1, 1) := by decide +kernel
theorem dX2_solve_29 : decode cX2_solve 29 = .ok (.putfield 15, 3) := by decide +kernel
theorem dX2_solve_32 : decode cX2_solve 32 = .ok (.iconst 0, 1) := by decide +kernel
theorem dX2_solve_33 : decode cX2_solve 33 = .ok (.istore 4, 2) := by decide +kernel
theorem dX2_solve_35 : decode cX2_solve 35 = .ok (.iload 4, 2) := by decide +kernel
theorem dX2_solve_37 : decode cX2_solve 37 = .ok (.iload_n 3, 1) := by decide +kernel
theorem dX2_solve_38 : decode cX2_solve 38 = .ok (.if_icmp .ge 21, 3) := by decide +kernel
theorem dX2_solve_41 : decode cX2_solve 41 = .ok (.aload_n 0, 1) := by decide +kernel
theorem dX2_solve_42 : decode cX2_solve 42 = .ok (.iload_n 3, 1) := by decide +kernel
theorem dX2_solve_43 : decode cX2_solve 43 = .ok (.iload 4, 2) := by decide +kernel
theorem dX2_solve_45 : decode cX2_solve 45 = .ok (.invokevirtual 23, 3) := by decide +kernel
theorem dX2_solve_48 : decode cX2_solve 48 = .ok (.ifCond .ne 5, 3) := by decide +kernel
theorem dX2_solve_51 : decode cX2_solve 51 = .ok (.iconst 0, 1) := by decide +kernel
theorem dX2_solve_52 : decode cX2_solve 52 = .ok (.ireturn, 1) := by decide +kernel
theorem dX2_solve_53 : decode cX2_solve 53 = .ok (.iinc 4 1, 3) := by decide +kernel
theorem dX2_solve_56 : decode cX2_solve 56 = .ok (.goto (-21), 3) := by decide +kernel
theorem dX2_solve_59 : decode cX2_solve 59 = .ok (.aload_n 0, 1) := by decide +kernel
theorem dX2_solve_60 : decode cX2_solve 60 = .ok (.getfield 15, 3) := by decide +kernel
theorem dX2_solve_63 : decode cX2_solve 63 = .ok (.lconst 0, 1) := by decide +kernel
theorem dX2_solve_64 : decode cX2_solve 64 = .ok (.lcmp, 1) := by decide +kernel
theorem dX2_solve_65 : decode cX2_solve 65 = .ok (.ifCond .le 7, 3) := by decide +kernel
theorem dX2_solve_68 : decode cX2_solve 68 = .ok (.iconst 1, 1) := by decide +kernel
theorem dX2_solve_69 : decode cX2_solve 69 = .ok (.goto 4, 3) := by decide +kernel
theorem dX2_solve_72 : decode cX2_solve 72 = .ok (.iconst 0, 1) := by decide +kernel
theorem dX2_solve_73 : decode cX2_solve 73 = .ok (.ireturn, 1) := by decide +kernel
set_option maxRecDepth 20000 in
theorem ggX2_numerator_X2_top : GoodIn wsX2_numerator wsX2_top := goodIn_r _ [5, 6, 16, 17] (by decide +kernel) (by decide +kernel)
set_option maxRecDepth 20000 in
theorem gX2_numerator_X2_top : GoodIn wsX2_numerator (wsV RX2 27 RX2 yX2_top wsX2_top) := goodIn_app (goodIn_of _ (by decide +kernel)) ggX2_numerator_X2_top
set_option maxRecDepth 20000 in
theorem ggX2_numerator_X2_commonPart : GoodIn wsX2_numerator wsX2_commonPart := goodIn_r _ [10, 11, 12, 13, 14, 15, 1, 2, 3, 4, 5, 6, 16, 17] (by decide +kernel) (by decide +kernel)
set_option maxRecDepth 20000 in
theorem gX2_numerator_X2_commonPart : GoodIn wsX2_numerator (wsV RX2 31 RX2 yX2_commonPart wsX2_commonPart) := goodIn_app (goodIn_of _ (by decide +kernel)) ggX2_numerator_X2_commonPart
theorem dX2_numerator_0 : decode cX2_numerator 0 = .ok (.aload_n 0, 1) := by decide +kernel
theorem dX2_numerator_1 : decode cX2_numerator 1 = .ok (.iload_n 1, 1) := by decide +kernel
theorem dX2_numerator_2 : decode cX2_numerator 2 = .ok (.iload_n 2, 1) := by decide +kernel
theorem dX2_numerator_3 : decode cX2_numerator 3 = .ok (.invokevirtual 27, 3) := by decide +kernel
theorem dX2_numerator_6 : decode cX2_numerator 6 = .ok (.aload_n 0, 1) := by decide +kernel
theorem dX2_numerator_7 : decode cX2_numerator 7 = .ok (.iload_n 1, 1) := by decide +kernel
theorem dX2_numerator_8 : decode cX2_numerator 8 = .ok (.iload_n 2, 1) := by decide +kernel
theorem dX2_numerator_9 : decode cX2_numerator 9 = .ok (.invokevirtual 31, 3) := by decide +kernel
theorem dX2_numerator_12 : decode cX2_numerator 12 = .ok (.ldiv, 1) := by decide +kernel
theorem dX2_numerator_13 : decode cX2_numerator 13 = .ok (.lreturn, 1) := by decide +kernel
set_option maxRecDepth 20000 in
theorem ggX2_denominator_X2_commonPart : GoodIn wsX2_denominator wsX2_commonPart := goodIn_r _ [6, 7, 8, 9, 10, 1, 11, 12, 13, 5, 14, 15, 16, 17] (by decide +kernel) (by decide +kernel)
set_option maxRecDepth 20000 in
theorem gX2_denominator_X2_commonPart : GoodIn wsX2_denominator (wsV RX2 31 RX2 yX2_commonPart wsX2_commonPart) := goodIn_app (goodIn_of _ (by decide +kernel)) ggX2_denominator_X2_commonPart
theorem dX2_denominator_0 : decode cX2_denominator 0 = .ok (.iload_n 1, 1) := by decide +kernel
theorem dX2_denominator_1 : decode cX2_denominator 1 = .ok (.i2l, 1) := by decide +kernel
theorem dX2_denominator_2 : decode cX2_denominator 2 = .ok (.aload_n 0, 1) := by decide +kernel
theorem dX2_denominator_3 : decode cX2_denominator 3 = .ok (.getfield 15, 3) := by decide +kernel
theorem dX2_denominator_6 : decode cX2_denominator 6 = .ok (.lmul, 1) := by decide +kernel
theorem dX2_denominator_7 : decode cX2_denominator 7 = .ok (.aload_n 0, 1) := by decide +kernel
theorem dX2_denominator_8 : decode cX2_denominator 8 = .ok (.iload_n 1, 1) := by decide +kernel
theorem dX2_denominator_9 : decode cX2_denominator 9 = .ok (.iload_n 2, 1) := by decide +kernel
theorem dX2_denominator_10 : decode cX2_denominator 10 = .ok (.invokevirtual 31, 3) := by decide +kernel
theorem dX2_denominator_13 : decode cX2_denominator 13 = .ok (.ldiv, 1) := by decide +kernel
theorem dX2_denominator_14 : decode cX2_denominator 14 = .ok (.lreturn, 1) := by decide +kernel
set_option maxRecDepth 20000 in
theorem ggX2_fillRow_X4_times : GoodIn wsX2_fillRow wsX4_times := goodIn_r _ [6, 7, 8, 9, 5, 10, 11, 12, 13, 14, 15, 16, 24, 25, 26, 27, 28, 29] (by decide +kernel) (by decide +kernel)
set_option maxRecDepth 20000 in
theorem gX2_fillRow_X4_times : GoodIn wsX2_fillRow (wsV RX2 34 RX4 yX4_times wsX4_times) := goodIn_app (goodIn_of _ (by decide +kernel)) ggX2_fillRow_X4_times
set_option maxRecDepth 20000 in
theorem ggX2_fillRow_X4_points : GoodIn wsX2_fillRow wsX4_points := goodIn_r _ [20, 21, 24, 25, 26, 27, 28, 29] (by decide +kernel) (by decide +kernel)
set_option maxRecDepth 20000 in
theorem gX2_fillRow_X4_points : GoodIn wsX2_fillRow (wsV RX2 40 RX4 yX4_points wsX4_points) := goodIn_app (goodIn_of _ (by decide +kernel)) ggX2_fillRow_X4_points
theorem dX2_fillRow_0 : decode cX2_fillRow 0 = .ok (.iload_n 3, 1) := by decide +kernel
theorem dX2_fillRow_1 : decode cX2_fillRow 1 = .ok (.iconst 1, 1) := by decide +kernel
theorem dX2_fillRow_2 : decode cX2_fillRow 2 = .ok (.iadd, 1) := by decide +kernel
theorem dX2_fillRow_3 : decode cX2_fillRow 3 = .ok (.istore 4, 2) := by decide +kernel
theorem dX2_fillRow_5 : decode cX2_fillRow 5 = .ok (.iconst 0, 1) := by decide +kernel
theorem dX2_fillRow_6 : decode cX2_fillRow 6 = .ok (.istore 5, 2) := by decide +kernel
theorem dX2_fillRow_8 : decode cX2_fillRow 8 = .ok (.iconst 0, 1) := by decide +kernel
theorem dX2_fillRow_9 : decode cX2_fillRow 9 = .ok (.istore 6, 2) := by decide +kernel
theorem dX2_fillRow_11 : decode cX2_fillRow 11 = .ok (.iconst 0, 1) := by decide +kernel
theorem dX2_fillRow_12 : decode cX2_fillRow 12 = .ok (.istore 7, 2) := by decide +kernel
theorem dX2_fillRow_14 : decode cX2_fillRow 14 = .ok (.iload 7, 2) := by decide +kernel
theorem dX2_fillRow_16 : decode cX2_fillRow 16 = .ok (.iload_n 2, 1) := by decide +kernel
theorem dX2_fillRow_17 : decode cX2_fillRow 17 = .ok (.if_icmp .ge 73, 3) := by decide +kernel
theorem dX2_fillRow_20 : decode cX2_fillRow 20 = .ok (.iload 5, 2) := by decide +kernel
theorem dX2_fillRow_22 : decode cX2_fillRow 22 = .ok (.aload_n 1, 1) := by decide +kernel
theorem dX2_fillRow_23 : decode cX2_fillRow 23 = .ok (.iload 4, 2) := by decide +kernel
theorem dX2_fillRow_25 : decode cX2_fillRow 25 = .ok (.iload 7, 2) := by decide +kernel
theorem dX2_fillRow_27 : decode cX2_fillRow 27 = .ok (.invokevirtual 34, 3) := by decide +kernel
theorem dX2_fillRow_30 : decode cX2_fillRow 30 = .ok (.iadd, 1) := by decide +kernel
theorem dX2_fillRow_31 : decode cX2_fillRow 31 = .ok (.istore 5, 2) := by decide +kernel
theorem dX2_fillRow_33 : decode cX2_fillRow 33 = .ok (.iload 6, 2) := by decide +kernel
theorem dX2_fillRow_35 : decode cX2_fillRow 35 = .ok (.aload_n 1, 1) := by decide +kernel
theorem dX2_fillRow_36 : decode cX2_fillRow 36 = .ok (.iload 4, 2) := by decide +kernel
theorem dX2_fillRow_38 : decode cX2_fillRow 38 = .ok (.iload 7, 2) := by decide +kernel
theorem dX2_fillRow_40 : decode cX2_fillRow 40 = .ok (.invokevirtual 40, 3) := by decide +kernel
theorem dX2_fillRow_43 : decode cX2_fillRow 43 = .ok (.aload_n 1, 1) := by decide +kernel
theorem dX2_fillRow_44 : decode cX2_fillRow 44 = .ok (.iload 7, 2) := by decide +kernel
theorem dX2_fillRow_46 : decode cX2_fillRow 46 = .ok (.iload 4, 2) := by decide +kernel
theorem dX2_fillRow_48 : decode cX2_fillRow 48 = .ok (.invokevirtual 40, 3) := by decide +kernel
theorem dX2_fillRow_51 : decode cX2_fillRow 51 = .ok (.isub, 1) := by decide +kernel
theorem dX2_fillRow_52 : decode cX2_fillRow 52 = .ok (.iadd, 1) := by decide +kernel
theorem dX2_fillRow_53 : decode cX2_fillRow 53 = .ok (.istore 6, 2) := by decide +kernel
theorem dX2_fillRow_55 : decode cX2_fillRow 55 = .ok (.iload 7, 2) := by decide +kernel
theorem dX2_fillRow_57 : decode cX2_fillRow 57 = .ok (.ifCond .le 27, 3) := by decide +kernel
theorem dX2_fillRow_60 : decode cX2_fillRow 60 = .ok (.aload_n 0, 1) := by decide +kernel
theorem dX2_fillRow_61 : decode cX2_fillRow 61 = .ok (.getfield 11, 3) := by decide +kernel
theorem dX2_fillRow_64 : decode cX2_fillRow 64 = .ok (.iload_n 3, 1) := by decide +kernel
theorem dX2_fillRow_65 : decode cX2_fillRow 65 = .ok (.bipush 6, 2) := by decide +kernel
theorem dX2_fillRow_67 : decode cX2_fillRow 67 = .ok (.imul, 1) := by decide +kernel
theorem dX2_fillRow_68 : decode cX2_fillRow 68 = .ok (.iload 7, 2) := by decide +kernel
theorem dX2_fillRow_70 : decode cX2_fillRow 70 = .ok (.iadd, 1) := by decide +kernel
theorem dX2_fillRow_71 : decode cX2_fillRow 71 = .ok (.iconst 1, 1) := by decide +kernel
theorem dX2_fillRow_72 : decode cX2_fillRow 72 = .ok (.isub, 1) := by decide +kernel
theorem dX2_fillRow_73 : decode cX2_fillRow 73 = .ok (.aload_n 1, 1) := by decide +kernel
theorem dX2_fillRow_74 : decode cX2_fillRow 74 = .ok (.iload 4, 2) := by decide +kernel
theorem dX2_fillRow_76 : decode cX2_fillRow 76 = .ok (.iload 7, 2) := by decide +kernel
theorem dX2_fillRow_78 : decode cX2_fillRow 78 = .ok (.invokevirtual 34, 3) := by decide +kernel
theorem dX2_fillRow_81 : decode cX2_fillRow 81 = .ok (.ineg, 1) := by decide +kernel
theorem dX2_fillRow_82 : decode cX2_fillRow 82 = .ok (.i2l, 1) := by decide +kernel
theorem dX2_fillRow_83 : decode cX2_fillRow 83 = .ok (.lastore, 1) := by decide +kernel
theorem dX2_fillRow_84 : decode cX2_fillRow 84 = .ok (.iinc 7 1, 3) := by decide +kernel
theorem dX2_fillRow_87 : decode cX2_fillRow 87 = .ok (.goto (-73), 3) := by decide +kernel
theorem dX2_fillRow_90 : decode cX2_fillRow 90 = .ok (.aload_n 0, 1) := by decide +kernel
theorem dX2_fillRow_91 : decode cX2_fillRow 91 = .ok (.getfield 11, 3) := by decide +kernel
theorem dX2_fillRow_94 : decode cX2_fillRow 94 = .ok (.iload_n 3, 1) := by decide +kernel
theorem dX2_fillRow_95 : decode cX2_fillRow 95 = .ok (.bipush 6, 2) := by decide +kernel
theorem dX2_fillRow_97 : decode cX2_fillRow 97 = .ok (.imul, 1) := by decide +kernel
theorem dX2_fillRow_98 : decode cX2_fillRow 98 = .ok (.iload_n 3, 1) := by decide +kernel
theorem dX2_fillRow_99 : decode cX2_fillRow 99 = .ok (.iadd, 1) := by decide +kernel
theorem dX2_fillRow_100 : decode cX2_fillRow 100 = .ok (.iload 5, 2) := by decide +kernel
theorem dX2_fillRow_102 : decode cX2_fillRow 102 = .ok (.i2l, 1) := by decide +kernel
theorem dX2_fillRow_103 : decode cX2_fillRow 103 = .ok (.lastore, 1) := by decide +kernel
theorem dX2_fillRow_104 : decode cX2_fillRow 104 = .ok (.aload_n 0, 1) := by decide +kernel
theorem dX2_fillRow_105 : decode cX2_fillRow 105 = .ok (.getfield 11, 3) := by decide +kernel
theorem dX2_fillRow_108 : decode cX2_fillRow 108 = .ok (.iload_n 3, 1) := by decide +kernel
theorem dX2_fillRow_109 : decode cX2_fillRow 109 = .ok (.bipush 6, 2) := by decide +kernel
theorem dX2_fillRow_111 : decode cX2_fillRow 111 = .ok (.imul, 1) := by decide +kernel
theorem dX2_fillRow_112 : decode cX2_fillRow 112 = .ok (.iload_n 2, 1) := by decide +kernel
theorem dX2_fillRow_113 : decode cX2_fillRow 113 = .ok (.iadd, 1) := by decide +kernel
theorem dX2_fillRow_114 : decode cX2_fillRow 114 = .ok (.iconst 1, 1) := by decide +kernel
theorem dX2_fillRow_115 : decode cX2_fillRow 115 = .ok (.isub, 1) := by decide +kernel
theorem dX2_fillRow_116 : decode cX2_fillRow 116 = .ok (.iload 6, 2) := by decide +kernel
theorem dX2_fillRow_118 : decode cX2_fillRow 118 = .ok (.i2l, 1) := by decide +kernel
theorem dX2_fillRow_119 : decode cX2_fillRow 119 = .ok (.lastore, 1) := by decide +kernel
theorem dX2_fillRow_120 : decode cX2_fillRow 120 = .ok (.return_, 1) := by decide +kernel
theorem dX2_clearColumn_0 : decode cX2_clearColumn 0 = .ok (.aload_n 0, 1) := by decide +kernel
theorem dX2_clearColumn_1 : decode cX2_clearColumn 1 = .ok (.getfield 15, 3) := by decide +kernel
theorem dX2_clearColumn_4 : decode cX2_clearColumn 4 = .ok (.lstore_n 3, 1) := by decide +kernel
theorem dX2_clearColumn_5 : decode cX2_clearColumn 5 = .ok (.aload_n 0, 1) := by decide +kernel
theorem dX2_clearColumn_6 : decode cX2_clearColumn 6 = .ok (.getfield 11, 3) := by decide +kernel
theorem dX2_clearColumn_9 : decode cX2_clearColumn 9 = .ok (.iload_n 2, 1) := by decide +kernel
theorem dX2_clearColumn_10 : decode cX2_clearColumn 10 = .ok (.bipush 6, 2) := by decide +kernel
theorem dX2_clearColumn_12 : decode cX2_clearColumn 12 = .ok (.imul, 1) := by decide +kernel
theorem dX2_clearColumn_13 : decode cX2_clearColumn 13 = .ok (.iload_n 2, 1) := by decide +kernel
theorem dX2_clearColumn_14 : decode cX2_clearColumn 14 = .ok (.iadd, 1) := by decide +kernel
theorem dX2_clearColumn_15 : decode cX2_clearColumn 15 = .ok (.laload, 1) := by decide +kernel
theorem dX2_clearColumn_16 : decode cX2_clearColumn 16 = .ok (.lstore 5, 2) := by decide +kernel
theorem dX2_clearColumn_18 : decode cX2_clearColumn 18 = .ok (.lload_n 3, 1) := by decide +kernel
theorem dX2_clearColumn_19 : decode cX2_clearColumn 19 = .ok (.lconst 0, 1) := by decide +kernel
theorem dX2_clearColumn_20 : decode cX2_clearColumn 20 = .ok (.lcmp, 1) := by decide +kernel
theorem dX2_clearColumn_21 : decode cX2_clearColumn 21 = .ok (.ifCond .eq 10, 3) := by decide +kernel
theorem dX2_clearColumn_24 : decode cX2_clearColumn 24 = .ok (.lload 5, 2) := by decide +kernel
theorem dX2_clearColumn_26 : decode cX2_clearColumn 26 = .ok (.lconst 0, 1) := by decide +kernel
theorem dX2_clearColumn_27 : decode cX2_clearColumn 27 = .ok (.lcmp, 1) := by decide +kernel
theorem dX2_clearColumn_28 : decode cX2_clearColumn 28 = .ok (.ifCond .ne 5, 3) := by decide +kernel
theorem dX2_clearColumn_31 : decode cX2_clearColumn 31 = .ok (.iconst 0, 1) := by decide +kernel
theorem dX2_clearColumn_32 : decode cX2_clearColumn 32 = .ok (.ireturn, 1) := by decide +kernel
theorem dX2_clearColumn_33 : decode cX2_clearColumn 33 = .ok (.iconst 0, 1) := by decide +kernel
theorem dX2_clearColumn_34 : decode cX2_clearColumn 34 = .ok (.istore 7, 2) := by decide +kernel
theorem dX2_clearColumn_36 : decode cX2_clearColumn 36 = .ok (.iload 7, 2) := by decide +kernel
theorem dX2_clearColumn_38 : decode cX2_clearColumn 38 = .ok (.iload_n 1, 1) := by decide +kernel
theorem dX2_clearColumn_39 : decode cX2_clearColumn 39 = .ok (.if_icmp .ge 95, 3) := by decide +kernel
theorem dX2_clearColumn_42 : decode cX2_clearColumn 42 = .ok (.iload 7, 2) := by decide +kernel
theorem dX2_clearColumn_44 : decode cX2_clearColumn 44 = .ok (.iload_n 2, 1) := by decide +kernel
theorem dX2_clearColumn_45 : decode cX2_clearColumn 45 = .ok (.if_icmp .eq 83, 3) := by decide +kernel
theorem dX2_clearColumn_48 : decode cX2_clearColumn 48 = .ok (.aload_n 0, 1) := by decide +kernel
theorem dX2_clearColumn_49 : decode cX2_clearColumn 49 = .ok (.getfield 11, 3) := by decide +kernel
theorem dX2_clearColumn_52 : decode cX2_clearColumn 52 = .ok (.iload 7, 2) := by decide +kernel
theorem dX2_clearColumn_54 : decode cX2_clearColumn 54 = .ok (.bipush 6, 2) := by decide +kernel
theorem dX2_clearColumn_56 : decode cX2_clearColumn 56 = .ok (.imul, 1) := by decide +kernel
theorem dX2_clearColumn_57 : decode cX2_clearColumn 57 = .ok (.iload_n 2, 1) := by decide +kernel
theorem dX2_clearColumn_58 : decode cX2_clearColumn 58 = .ok (.iadd, 1) := by decide +kernel
theorem dX2_clearColumn_59 : decode cX2_clearColumn 59 = .ok (.laload, 1) := by decide +kernel
theorem dX2_clearColumn_60 : decode cX2_clearColumn 60 = .ok (.lstore 8, 2) := by decide +kernel
theorem dX2_clearColumn_62 : decode cX2_clearColumn 62 = .ok (.iconst 0, 1) := by decide +kernel
theorem dX2_clearColumn_63 : decode cX2_clearColumn 63 = .ok (.istore 10, 2) := by decide +kernel
theorem dX2_clearColumn_65 : decode cX2_clearColumn 65 = .ok (.iload 10, 2) := by decide +kernel
theorem dX2_clearColumn_67 : decode cX2_clearColumn 67 = .ok (.iload_n 1, 1) := by decide +kernel
theorem dX2_clearColumn_68 : decode cX2_clearColumn 68 = .ok (.if_icmp .gt 60, 3) := by decide +kernel
theorem dX2_clearColumn_71 : decode cX2_clearColumn 71 = .ok (.lload 5, 2) := by decide +kernel
theorem dX2_clearColumn_73 : decode cX2_clearColumn 73 = .ok (.aload_n 0, 1) := by decide +kernel
theorem dX2_clearColumn_74 : decode cX2_clearColumn 74 = .ok (.getfield 11, 3) := by decide +kernel
theorem dX2_clearColumn_77 : decode cX2_clearColumn 77 = .ok (.iload 7, 2) := by decide +kernel
theorem dX2_clearColumn_79 : decode cX2_clearColumn 79 = .ok (.bipush 6, 2) := by decide +kernel
theorem dX2_clearColumn_81 : decode cX2_clearColumn 81 = .ok (.imul, 1) := by decide +kernel
theorem dX2_clearColumn_82 : decode cX2_clearColumn 82 = .ok (.iload 10, 2) := by decide +kernel
theorem dX2_clearColumn_84 : decode cX2_clearColumn 84 = .ok (.iadd, 1) := by decide +kernel
theorem dX2_clearColumn_85 : decode cX2_clearColumn 85 = .ok (.laload, 1) := by decide +kernel
theorem dX2_clearColumn_86 : decode cX2_clearColumn 86 = .ok (.lmul, 1) := by decide +kernel
theorem dX2_clearColumn_87 : decode cX2_clearColumn 87 = .ok (.lload 8, 2) := by decide +kernel
theorem dX2_clearColumn_89 : decode cX2_clearColumn 89 = .ok (.aload_n 0, 1) := by decide +kernel
theorem dX2_clearColumn_90 : decode cX2_clearColumn 90 = .ok (.getfield 11, 3) := by decide +kernel
theorem dX2_clearColumn_93 : decode cX2_clearColumn 93 = .ok (.iload_n 2, 1) := by decide +kernel
theorem dX2_clearColumn_94 : decode cX2_clearColumn 94 = .ok (.bipush 6, 2) := by decide +kernel
theorem dX2_clearColumn_96 : decode cX2_clearColumn 96 = .ok (.imul, 1) := by decide +kernel
theorem dX2_clearColumn_97 : decode cX2_clearColumn 97 = .ok (.iload 10, 2) := by decide +kernel
theorem dX2_clearColumn_99 : decode cX2_clearColumn 99 = .ok (.iadd, 1) := by decide +kernel
theorem dX2_clearColumn_100 : decode cX2_clearColumn 100 = .ok (.laload, 1) := by decide +kernel
theorem dX2_clearColumn_101 : decode cX2_clearColumn 101 = .ok (.lmul, 1) := by decide +kernel
theorem dX2_clearColumn_102 : decode cX2_clearColumn 102 = .ok (.lsub, 1) := by decide +kernel
theorem dX2_clearColumn_103 : decode cX2_clearColumn 103 = .ok (.lstore 11, 2) := by decide +kernel
theorem dX2_clearColumn_105 : decode cX2_clearColumn 105 = .ok (.aload_n 0, 1) := by decide +kernel
theorem dX2_clearColumn_106 : decode cX2_clearColumn 106 = .ok (.getfield 11, 3) := by decide +kernel
theorem dX2_clearColumn_109 : decode cX2_clearColumn 109 = .ok (.iload 7, 2) := by decide +kernel
theorem dX2_clearColumn_111 : decode cX2_clearColumn 111 = .ok (.bipush 6, 2) := by decide +kernel
theorem dX2_clearColumn_113 : decode cX2_clearColumn 113 = .ok (.imul, 1) := by decide +kernel
theorem dX2_clearColumn_114 : decode cX2_clearColumn 114 = .ok (.iload 10, 2) := by decide +kernel
theorem dX2_clearColumn_116 : decode cX2_clearColumn 116 = .ok (.iadd, 1) := by decide +kernel
theorem dX2_clearColumn_117 : decode cX2_clearColumn 117 = .ok (.lload 11, 2) := by decide +kernel
theorem dX2_clearColumn_119 : decode cX2_clearColumn 119 = .ok (.lload_n 3, 1) := by decide +kernel
theorem dX2_clearColumn_120 : decode cX2_clearColumn 120 = .ok (.ldiv, 1) := by decide +kernel
theorem dX2_clearColumn_121 : decode cX2_clearColumn 121 = .ok (.lastore, 1) := by decide +kernel
theorem dX2_clearColumn_122 : decode cX2_clearColumn 122 = .ok (.iinc 10 1, 3) := by decide +kernel
theorem dX2_clearColumn_125 : decode cX2_clearColumn 125 = .ok (.goto (-60), 3) := by decide +kernel
theorem dX2_clearColumn_128 : decode cX2_clearColumn 128 = .ok (.iinc 7 1, 3) := by decide +kernel
theorem dX2_clearColumn_131 : decode cX2_clearColumn 131 = .ok (.goto (-95), 3) := by decide +kernel
theorem dX2_clearColumn_134 : decode cX2_clearColumn 134 = .ok (.aload_n 0, 1) := by decide +kernel
theorem dX2_clearColumn_135 : decode cX2_clearColumn 135 = .ok (.lload 5, 2) := by decide +kernel
theorem dX2_clearColumn_137 : decode cX2_clearColumn 137 = .ok (.putfield 15, 3) := by decide +kernel
theorem dX2_clearColumn_140 : decode cX2_clearColumn 140 = .ok (.iconst 1, 1) := by decide +kernel
theorem dX2_clearColumn_141 : decode cX2_clearColumn 141 = .ok (.ireturn, 1) := by decide +kernel
theorem dX2_top_0 : decode cX2_top 0 = .ok (.lconst 0, 1) := by decide +kernel
theorem dX2_top_1 : decode cX2_top 1 = .ok (.lstore_n 3, 1) := by decide +kernel
theorem dX2_top_2 : decode cX2_top 2 = .ok (.iconst 0, 1) := by decide +kernel
theorem dX2_top_3 : decode cX2_top 3 = .ok (.istore 5, 2) := by decide +kernel
theorem dX2_top_5 : decode cX2_top 5 = .ok (.iload 5, 2) := by decide +kernel
theorem dX2_top_7 : decode cX2_top 7 = .ok (.iload_n 1, 1) := by decide +kernel
theorem dX2_top_8 : decode cX2_top 8 = .ok (.iconst 1, 1) := by decide +kernel
theorem dX2_top_9 : decode cX2_top 9 = .ok (.isub, 1) := by decide +kernel
theorem dX2_top_10 : decode cX2_top 10 = .ok (.if_icmp .ge 26, 3) := by decide +kernel
theorem dX2_top_13 : decode cX2_top 13 = .ok (.lload_n 3, 1) := by decide +kernel
theorem dX2_top_14 : decode cX2_top 14 = .ok (.aload_n 0, 1) := by decide +kernel
theorem dX2_top_15 : decode cX2_top 15 = .ok (.getfield 11, 3) := by decide +kernel
theorem dX2_top_18 : decode cX2_top 18 = .ok (.iload 5, 2) := by decide +kernel
theorem dX2_top_20 : decode cX2_top 20 = .ok (.bipush 6, 2) := by decide +kernel
theorem dX2_top_22 : decode cX2_top 22 = .ok (.imul, 1) := by decide +kernel
theorem dX2_top_23 : decode cX2_top 23 = .ok (.iload_n 1, 1) := by decide +kernel
theorem dX2_top_24 : decode cX2_top 24 = .ok (.iadd, 1) := by decide +kernel
theorem dX2_top_25 : decode cX2_top 25 = .ok (.iconst 1, 1) := by decide +kernel
theorem dX2_top_26 : decode cX2_top 26 = .ok (.isub, 1) := by decide +kernel
theorem dX2_top_27 : decode cX2_top 27 = .ok (.laload, 1) := by decide +kernel
theorem dX2_top_28 : decode cX2_top 28 = .ok (.ladd, 1) := by decide +kernel
theorem dX2_top_29 : decode cX2_top 29 = .ok (.lstore_n 3, 1) := by decide +kernel
theorem dX2_top_30 : decode cX2_top 30 = .ok (.iinc 5 1, 3) := by decide +kernel
theorem dX2_top_33 : decode cX2_top 33 = .ok (.goto (-28), 3) := by decide +kernel
theorem dX2_top_36 : decode cX2_top 36 = .ok (.iload_n 2, 1) := by decide +kernel
theorem dX2_top_37 : decode cX2_top 37 = .ok (.ifCond .ne 7, 3) := by decide +kernel
theorem dX2_top_40 : decode cX2_top 40 = .ok (.lconst 0, 1) := by decide +kernel
theorem dX2_top_41 : decode cX2_top 41 = .ok (.goto 18, 3) := by decide +kernel
theorem dX2_top_44 : decode cX2_top 44 = .ok (.aload_n 0, 1) := by decide +kernel
theorem dX2_top_45 : decode cX2_top 45 = .ok (.getfield 11, 3) := by decide +kernel
theorem dX2_top_48 : decode cX2_top 48 = .ok (.iload_n 2, 1) := by decide +kernel
theorem dX2_top_49 : decode cX2_top 49 = .ok (.iconst 1, 1) := by decide +kernel
theorem dX2_top_50 : decode cX2_top 50 = .ok (.isub, 1) := by decide +kernel
theorem dX2_top_51 : decode cX2_top 51 = .ok (.bipush 6, 2) := by decide +kernel
theorem dX2_top_53 : decode cX2_top 53 = .ok (.imul, 1) := by decide +kernel
theorem dX2_top_54 : decode cX2_top 54 = .ok (.iload_n 1, 1) := by decide +kernel
theorem dX2_top_55 : decode cX2_top 55 = .ok (.iadd, 1) := by decide +kernel
theorem dX2_top_56 : decode cX2_top 56 = .ok (.iconst 1, 1) := by decide +kernel
theorem dX2_top_57 : decode cX2_top 57 = .ok (.isub, 1) := by decide +kernel
theorem dX2_top_58 : decode cX2_top 58 = .ok (.laload, 1) := by decide +kernel
theorem dX2_top_59 : decode cX2_top 59 = .ok (.lstore 5, 2) := by decide +kernel
theorem dX2_top_61 : decode cX2_top 61 = .ok (.iload_n 1, 1) := by decide +kernel
theorem dX2_top_62 : decode cX2_top 62 = .ok (.i2l, 1) := by decide +kernel
theorem dX2_top_63 : decode cX2_top 63 = .ok (.lload 5, 2) := by decide +kernel
theorem dX2_top_65 : decode cX2_top 65 = .ok (.lmul, 1) := by decide +kernel
theorem dX2_top_66 : decode cX2_top 66 = .ok (.lload_n 3, 1) := by decide +kernel
theorem dX2_top_67 : decode cX2_top 67 = .ok (.lsub, 1) := by decide +kernel
theorem dX2_top_68 : decode cX2_top 68 = .ok (.lreturn, 1) := by decide +kernel
set_option maxRecDepth 20000 in
theorem ggX2_commonPart_X2_top : GoodIn wsX2_commonPart wsX2_top := goodIn_r _ [10, 11, 12, 13] (by decide +kernel) (by decide +kernel)
set_option maxRecDepth 20000 in
theorem gX2_commonPart_X2_top : GoodIn wsX2_commonPart (wsV RX2 27 RX2 yX2_top wsX2_top) := goodIn_app (goodIn_of _ (by decide +kernel)) ggX2_commonPart_X2_top
theorem dX2_commonPart_0 : decode cX2_commonPart 0 = .ok (.aload_n 0, 1) := by decide +kernel
theorem dX2_commonPart_1 : decode cX2_commonPart 1 = .ok (.iload_n 1, 1) := by decide +kernel
theorem dX2_commonPart_2 : decode cX2_commonPart 2 = .ok (.iload_n 2, 1) := by decide +kernel
theorem dX2_commonPart_3 : decode cX2_commonPart 3 = .ok (.invokevirtual 27, 3) := by decide +kernel
theorem dX2_commonPart_6 : decode cX2_commonPart 6 = .ok (.invokestatic 43, 3) := by decide +kernel
theorem dX2_commonPart_9 : decode cX2_commonPart 9 = .ok (.lstore_n 3, 1) := by decide +kernel
theorem dX2_commonPart_10 : decode cX2_commonPart 10 = .ok (.iload_n 1, 1) := by decide +kernel
theorem dX2_commonPart_11 : decode cX2_commonPart 11 = .ok (.i2l, 1) := by decide +kernel
theorem dX2_commonPart_12 : decode cX2_commonPart 12 = .ok (.aload_n 0, 1) := by decide +kernel
theorem dX2_commonPart_13 : decode cX2_commonPart 13 = .ok (.getfield 15, 3) := by decide +kernel
theorem dX2_commonPart_16 : decode cX2_commonPart 16 = .ok (.lmul, 1) := by decide +kernel
theorem dX2_commonPart_17 : decode cX2_commonPart 17 = .ok (.lstore 5, 2) := by decide +kernel
theorem dX2_commonPart_19 : decode cX2_commonPart 19 = .ok (.iconst 0, 1) := by decide +kernel
theorem dX2_commonPart_20 : decode cX2_commonPart 20 = .ok (.istore 7, 2) := by decide +kernel
theorem dX2_commonPart_22 : decode cX2_commonPart 22 = .ok (.iload 7, 2) := by decide +kernel
theorem dX2_commonPart_24 : decode cX2_commonPart 24 = .ok (.sipush 130, 3) := by decide +kernel
theorem dX2_commonPart_27 : decode cX2_commonPart 27 = .ok (.if_icmp .ge 27, 3) := by decide +kernel
theorem dX2_commonPart_30 : decode cX2_commonPart 30 = .ok (.lload_n 3, 1) := by decide +kernel
theorem dX2_commonPart_31 : decode cX2_commonPart 31 = .ok (.lconst 0, 1) := by decide +kernel
theorem dX2_commonPart_32 : decode cX2_commonPart 32 = .ok (.lcmp, 1) := by decide +kernel
theorem dX2_commonPart_33 : decode cX2_commonPart 33 = .ok (.ifCond .eq 21, 3) := by decide +kernel
theorem dX2_commonPart_36 : decode cX2_commonPart 36 = .ok (.lload 5, 2) := by decide +kernel
theorem dX2_commonPart_38 : decode cX2_commonPart 38 = .ok (.lload_n 3, 1) := by decide +kernel
theorem dX2_commonPart_39 : decode cX2_commonPart 39 = .ok (.lrem, 1) := by decide +kernel
theorem dX2_commonPart_40 : decode cX2_commonPart 40 = .ok (.lstore 8, 2) := by decide +kernel
theorem dX2_commonPart_42 : decode cX2_commonPart 42 = .ok (.lload_n 3, 1) := by decide +kernel
theorem dX2_commonPart_43 : decode cX2_commonPart 43 = .ok (.lstore 5, 2) := by decide +kernel
theorem dX2_commonPart_45 : decode cX2_commonPart 45 = .ok (.lload 8, 2) := by decide +kernel
theorem dX2_commonPart_47 : decode cX2_commonPart 47 = .ok (.lstore_n 3, 1) := by decide +kernel
theorem dX2_commonPart_48 : decode cX2_commonPart 48 = .ok (.iinc 7 1, 3) := by decide +kernel
theorem dX2_commonPart_51 : decode cX2_commonPart 51 = .ok (.goto (-29), 3) := by decide +kernel
theorem dX2_commonPart_54 : decode cX2_commonPart 54 = .ok (.lload 5, 2) := by decide +kernel
theorem dX2_commonPart_56 : decode cX2_commonPart 56 = .ok (.lconst 0, 1) := by decide +kernel
theorem dX2_commonPart_57 : decode cX2_commonPart 57 = .ok (.lcmp, 1) := by decide +kernel
theorem dX2_commonPart_58 : decode cX2_commonPart 58 = .ok (.ifCond .ne 7, 3) := by decide +kernel
theorem dX2_commonPart_61 : decode cX2_commonPart 61 = .ok (.lconst 1, 1) := by decide +kernel
theorem dX2_commonPart_62 : decode cX2_commonPart 62 = .ok (.goto 5, 3) := by decide +kernel
theorem dX2_commonPart_65 : decode cX2_commonPart 65 = .ok (.lload 5, 2) := by decide +kernel
theorem dX2_commonPart_67 : decode cX2_commonPart 67 = .ok (.lreturn, 1) := by decide +kernel
theorem dX3_init_0 : decode cX3_init 0 = .ok (.aload_n 0, 1) := by decide +kernel
theorem dX3_init_1 : decode cX3_init 1 = .ok (.invokespecial 3, 3) := by decide +kernel
theorem dX3_init_4 : decode cX3_init 4 = .ok (.aload_n 0, 1) := by decide +kernel
theorem dX3_init_5 : decode cX3_init 5 = .ok (.bipush 10, 2) := by decide +kernel
theorem dX3_init_7 : decode cX3_init 7 = .ok (.newarray .int, 2) := by decide +kernel
theorem dX3_init_9 : decode cX3_init 9 = .ok (.putfield 9, 3) := by decide +kernel
theorem dX3_init_12 : decode cX3_init 12 = .ok (.aload_n 0, 1) := by decide +kernel
theorem dX3_init_13 : decode cX3_init 13 = .ok (.bipush 10, 2) := by decide +kernel
theorem dX3_init_15 : decode cX3_init 15 = .ok (.newarray .int, 2) := by decide +kernel
theorem dX3_init_17 : decode cX3_init 17 = .ok (.putfield 15, 3) := by decide +kernel
theorem dX3_init_20 : decode cX3_init 20 = .ok (.return_, 1) := by decide +kernel
theorem dX3_heapOf_0 : decode cX3_heapOf 0 = .ok (.aload_n 0, 1) := by decide +kernel
theorem dX3_heapOf_1 : decode cX3_heapOf 1 = .ok (.getfield 15, 3) := by decide +kernel
theorem dX3_heapOf_4 : decode cX3_heapOf 4 = .ok (.iload_n 1, 1) := by decide +kernel
theorem dX3_heapOf_5 : decode cX3_heapOf 5 = .ok (.iaload, 1) := by decide +kernel
theorem dX3_heapOf_6 : decode cX3_heapOf 6 = .ok (.ireturn, 1) := by decide +kernel
set_option maxRecDepth 20000 in
theorem ggX3_split_X3_fillReached : GoodIn wsX3_split wsX3_fillReached := goodIn_r _ [5, 6, 7, 8, 9, 10, 11, 12, 13, 14, 15, 16, 17, 18, 19, 20, 36, 37, 38, 39, 40, 41, 42, 43] (by decide +kernel) (by decide +kernel)
set_option maxRecDepth 20000 in
theorem gX3_split_X3_fillReached : GoodIn wsX3_split (wsV RX3 18 RX3 yX3_fillReached wsX3_fillReached) := goodIn_app (goodIn_of _ (by decide +kernel)) ggX3_split_X3_fillReached
set_option maxRecDepth 20000 in
theorem ggX3_split_X9_everyone : GoodIn wsX3_split wsX9_everyone := goodIn_r _ [22] (by decide +kernel) (by decide +kernel)
set_option maxRecDepth 20000 in
theorem gX3_split_X9_everyone_n22 : GoodIn wsX3_split (wsX9_everyone) := ggX3_split_X9_everyone
set_option maxRecDepth 20000 in
theorem ggX3_split_X3_leastUnled : GoodIn wsX3_split wsX3_leastUnled := goodIn_r _ [26, 18, 19, 20, 27, 28, 29, 4, 30, 6, 36, 37] (by decide +kernel) (by decide +kernel)
set_option maxRecDepth 20000 in
theorem gX3_split_X3_leastUnled : GoodIn wsX3_split (wsV RX3 26 RX3 yX3_leastUnled wsX3_leastUnled) := goodIn_app (goodIn_of _ (by decide +kernel)) ggX3_split_X3_leastUnled
set_option maxRecDepth 20000 in
theorem ggX3_split_X3_numberHeapOf : GoodIn wsX3_split wsX3_numberHeapOf := goodIn_r _ [34, 6, 35, 18, 19, 20, 36, 37] (by decide +kernel) (by decide +kernel)
set_option maxRecDepth 20000 in
theorem gX3_split_X3_numberHeapOf : GoodIn wsX3_split (wsV RX3 30 RX3 yX3_numberHeapOf wsX3_numberHeapOf) := goodIn_app (goodIn_of _ (by decide +kernel)) ggX3_split_X3_numberHeapOf
theorem dX3_split_0 : decode cX3_split 0 = .ok (.aload_n 0, 1) := by decide +kernel
theorem dX3_split_1 : decode cX3_split 1 = .ok (.aload_n 1, 1) := by decide +kernel
theorem dX3_split_2 : decode cX3_split 2 = .ok (.iload_n 2, 1) := by decide +kernel
theorem dX3_split_3 : decode cX3_split 3 = .ok (.invokevirtual 18, 3) := by decide +kernel
theorem dX3_split_6 : decode cX3_split 6 = .ok (.iconst 0, 1) := by decide +kernel
theorem dX3_split_7 : decode cX3_split 7 = .ok (.istore_n 3, 1) := by decide +kernel
theorem dX3_split_8 : decode cX3_split 8 = .ok (.iconst 0, 1) := by decide +kernel
theorem dX3_split_9 : decode cX3_split 9 = .ok (.istore 4, 2) := by decide +kernel
theorem dX3_split_11 : decode cX3_split 11 = .ok (.iconst 0, 1) := by decide +kernel
theorem dX3_split_12 : decode cX3_split 12 = .ok (.istore 5, 2) := by decide +kernel
theorem dX3_split_14 : decode cX3_split 14 = .ok (.iload 5, 2) := by decide +kernel
theorem dX3_split_16 : decode cX3_split 16 = .ok (.iload_n 2, 1) := by decide +kernel
theorem dX3_split_17 : decode cX3_split 17 = .ok (.if_icmp .ge 40, 3) := by decide +kernel
theorem dX3_split_20 : decode cX3_split 20 = .ok (.iload_n 3, 1) := by decide +kernel
theorem dX3_split_21 : decode cX3_split 21 = .ok (.iload_n 2, 1) := by decide +kernel
theorem dX3_split_22 : decode cX3_split 22 = .ok (.invokestatic 22, 3) := by decide +kernel
theorem dX3_split_25 : decode cX3_split 25 = .ok (.if_icmp .eq 32, 3) := by decide +kernel
theorem dX3_split_28 : decode cX3_split 28 = .ok (.aload_n 0, 1) := by decide +kernel
theorem dX3_split_29 : decode cX3_split 29 = .ok (.iload_n 2, 1) := by decide +kernel
theorem dX3_split_30 : decode cX3_split 30 = .ok (.iload_n 3, 1) := by decide +kernel
theorem dX3_split_31 : decode cX3_split 31 = .ok (.invokevirtual 26, 3) := by decide +kernel
theorem dX3_split_34 : decode cX3_split 34 = .ok (.istore 6, 2) := by decide +kernel
theorem dX3_split_36 : decode cX3_split 36 = .ok (.iload_n 3, 1) := by decide +kernel
theorem dX3_split_37 : decode cX3_split 37 = .ok (.aload_n 0, 1) := by decide +kernel
theorem dX3_split_38 : decode cX3_split 38 = .ok (.iload 6, 2) := by decide +kernel
theorem dX3_split_40 : decode cX3_split 40 = .ok (.iload_n 2, 1) := by decide +kernel
theorem dX3_split_41 : decode cX3_split 41 = .ok (.iload 4, 2) := by decide +kernel
theorem dX3_split_43 : decode cX3_split 43 = .ok (.invokevirtual 30, 3) := by decide +kernel
theorem dX3_split_46 : decode cX3_split 46 = .ok (.ior, 1) := by decide +kernel
theorem dX3_split_47 : decode cX3_split 47 = .ok (.istore_n 3, 1) := by decide +kernel
theorem dX3_split_48 : decode cX3_split 48 = .ok (.iinc 4 1, 3) := by decide +kernel
theorem dX3_split_51 : decode cX3_split 51 = .ok (.iinc 5 1, 3) := by decide +kernel
theorem dX3_split_54 : decode cX3_split 54 = .ok (.goto (-40), 3) := by decide +kernel
theorem dX3_split_57 : decode cX3_split 57 = .ok (.iload 4, 2) := by decide +kernel
theorem dX3_split_59 : decode cX3_split 59 = .ok (.ireturn, 1) := by decide +kernel
set_option maxRecDepth 20000 in
theorem ggX3_fillReached_X4_wins : GoodIn wsX3_fillReached wsX4_wins := goodIn_r _ [6, 7, 18, 19, 20, 21, 22, 23] (by decide +kernel) (by decide +kernel)
set_option maxRecDepth 20000 in
theorem gX3_fillReached_X4_wins : GoodIn wsX3_fillReached (wsV RX3 34 RX4 yX4_wins wsX4_wins) := goodIn_app (goodIn_of _ (by decide +kernel)) ggX3_fillReached_X4_wins
set_option maxRecDepth 20000 in
theorem ggX3_fillReached_X4_draws : GoodIn wsX3_fillReached wsX4_draws := goodIn_r _ [11, 12, 18, 19, 20, 21, 22, 23] (by decide +kernel) (by decide +kernel)
set_option maxRecDepth 20000 in
theorem gX3_fillReached_X4_draws : GoodIn wsX3_fillReached (wsV RX3 39 RX4 yX4_draws wsX4_draws) := goodIn_app (goodIn_of _ (by decide +kernel)) ggX3_fillReached_X4_draws
set_option maxRecDepth 20000 in
theorem ggX3_fillReached_X9_isIn : GoodIn wsX3_fillReached wsX9_isIn := goodIn_r _ [15] (by decide +kernel) (by decide +kernel)
set_option maxRecDepth 20000 in
theorem gX3_fillReached_X9_isIn_n42 : GoodIn wsX3_fillReached (wsX9_isIn) := ggX3_fillReached_X9_isIn
theorem dX3_fillReached_0 : decode cX3_fillReached 0 = .ok (.iconst 0, 1) := by decide +kernel
theorem dX3_fillReached_1 : decode cX3_fillReached 1 = .ok (.istore_n 3, 1) := by decide +kernel
theorem dX3_fillReached_2 : decode cX3_fillReached 2 = .ok (.iload_n 3, 1) := by decide +kernel
theorem dX3_fillReached_3 : decode cX3_fillReached 3 = .ok (.iload_n 2, 1) := by decide +kernel
theorem dX3_fillReached_4 : decode cX3_fillReached 4 = .ok (.if_icmp .ge 64, 3) := by decide +kernel
theorem dX3_fillReached_7 : decode cX3_fillReached 7 = .ok (.aload_n 0, 1) := by decide +kernel
theorem dX3_fillReached_8 : decode cX3_fillReached 8 = .ok (.getfield 9, 3) := by decide +kernel
theorem dX3_fillReached_11 : decode cX3_fillReached 11 = .ok (.iload_n 3, 1) := by decide +kernel
theorem dX3_fillReached_12 : decode cX3_fillReached 12 = .ok (.iconst 1, 1) := by decide +kernel
theorem dX3_fillReached_13 : decode cX3_fillReached 13 = .ok (.iload_n 3, 1) := by decide +kernel
theorem dX3_fillReached_14 : decode cX3_fillReached 14 = .ok (.ishl, 1) := by decide +kernel
theorem dX3_fillReached_15 : decode cX3_fillReached 15 = .ok (.iastore, 1) := by decide +kernel
theorem dX3_fillReached_16 : decode cX3_fillReached 16 = .ok (.iconst 0, 1) := by decide +kernel
theorem dX3_fillReached_17 : decode cX3_fillReached 17 = .ok (.istore 4, 2) := by decide +kernel
theorem dX3_fillReached_19 : decode cX3_fillReached 19 = .ok (.iload 4, 2) := by decide +kernel
theorem dX3_fillReached_21 : decode cX3_fillReached 21 = .ok (.iload_n 2, 1) := by decide +kernel
theorem dX3_fillReached_22 : decode cX3_fillReached 22 = .ok (.if_icmp .ge 40, 3) := by decide +kernel
theorem dX3_fillReached_25 : decode cX3_fillReached 25 = .ok (.aload_n 1, 1) := by decide +kernel
theorem dX3_fillReached_26 : decode cX3_fillReached 26 = .ok (.iload_n 3, 1) := by decide +kernel
theorem dX3_fillReached_27 : decode cX3_fillReached 27 = .ok (.iload 4, 2) := by decide +kernel
theorem dX3_fillReached_29 : decode cX3_fillReached 29 = .ok (.invokevirtual 34, 3) := by decide +kernel
theorem dX3_fillReached_32 : decode cX3_fillReached 32 = .ok (.aload_n 1, 1) := by decide +kernel
theorem dX3_fillReached_33 : decode cX3_fillReached 33 = .ok (.iload_n 3, 1) := by decide +kernel
theorem dX3_fillReached_34 : decode cX3_fillReached 34 = .ok (.iload 4, 2) := by decide +kernel
theorem dX3_fillReached_36 : decode cX3_fillReached 36 = .ok (.invokevirtual 39, 3) := by decide +kernel
theorem dX3_fillReached_39 : decode cX3_fillReached 39 = .ok (.iadd, 1) := by decide +kernel
theorem dX3_fillReached_40 : decode cX3_fillReached 40 = .ok (.ifCond .le 16, 3) := by decide +kernel
theorem dX3_fillReached_43 : decode cX3_fillReached 43 = .ok (.aload_n 0, 1) := by decide +kernel
theorem dX3_fillReached_44 : decode cX3_fillReached 44 = .ok (.getfield 9, 3) := by decide +kernel
theorem dX3_fillReached_47 : decode cX3_fillReached 47 = .ok (.iload_n 3, 1) := by decide +kernel
theorem dX3_fillReached_48 : decode cX3_fillReached 48 = .ok (.dup2, 1) := by decide +kernel
theorem dX3_fillReached_49 : decode cX3_fillReached 49 = .ok (.iaload, 1) := by decide +kernel
theorem dX3_fillReached_50 : decode cX3_fillReached 50 = .ok (.iconst 1, 1) := by decide +kernel
theorem dX3_fillReached_51 : decode cX3_fillReached 51 = .ok (.iload 4, 2) := by decide +kernel
theorem dX3_fillReached_53 : decode cX3_fillReached 53 = .ok (.ishl, 1) := by decide +kernel
theorem dX3_fillReached_54 : decode cX3_fillReached 54 = .ok (.ior, 1) := by decide +kernel
theorem dX3_fillReached_55 : decode cX3_fillReached 55 = .ok (.iastore, 1) := by decide +kernel
theorem dX3_fillReached_56 : decode cX3_fillReached 56 = .ok (.iinc 4 1, 3) := by decide +kernel
theorem dX3_fillReached_59 : decode cX3_fillReached 59 = .ok (.goto (-40), 3) := by decide +kernel
theorem dX3_fillReached_62 : decode cX3_fillReached 62 = .ok (.iinc 3 1, 3) := by decide +kernel
theorem dX3_fillReached_65 : decode cX3_fillReached 65 = .ok (.goto (-63), 3) := by decide +kernel
theorem dX3_fillReached_68 : decode cX3_fillReached 68 = .ok (.iconst 0, 1) := by decide +kernel
theorem dX3_fillReached_69 : decode cX3_fillReached 69 = .ok (.istore_n 3, 1) := by decide +kernel
theorem dX3_fillReached_70 : decode cX3_fillReached 70 = .ok (.iload_n 3, 1) := by decide +kernel
theorem dX3_fillReached_71 : decode cX3_fillReached 71 = .ok (.iload_n 2, 1) := by decide +kernel
theorem dX3_fillReached_72 : decode cX3_fillReached 72 = .ok (.if_icmp .ge 54, 3) := by decide +kernel
theorem dX3_fillReached_75 : decode cX3_fillReached 75 = .ok (.iconst 0, 1) := by decide +kernel
theorem dX3_fillReached_76 : decode cX3_fillReached 76 = .ok (.istore 4, 2) := by decide +kernel
theorem dX3_fillReached_78 : decode cX3_fillReached 78 = .ok (.iload 4, 2) := by decide +kernel
theorem dX3_fillReached_80 : decode cX3_fillReached 80 = .ok (.iload_n 2, 1) := by decide +kernel
theorem dX3_fillReached_81 : decode cX3_fillReached 81 = .ok (.if_icmp .ge 39, 3) := by decide +kernel
theorem dX3_fillReached_84 : decode cX3_fillReached 84 = .ok (.aload_n 0, 1) := by decide +kernel
theorem dX3_fillReached_85 : decode cX3_fillReached 85 = .ok (.getfield 9, 3) := by decide +kernel
theorem dX3_fillReached_88 : decode cX3_fillReached 88 = .ok (.iload 4, 2) := by decide +kernel
theorem dX3_fillReached_90 : decode cX3_fillReached 90 = .ok (.iaload, 1) := by decide +kernel
theorem dX3_fillReached_91 : decode cX3_fillReached 91 = .ok (.iload_n 3, 1) := by decide +kernel
theorem dX3_fillReached_92 : decode cX3_fillReached 92 = .ok (.invokestatic 42, 3) := by decide +kernel
theorem dX3_fillReached_95 : decode cX3_fillReached 95 = .ok (.ifCond .eq 19, 3) := by decide +kernel
theorem dX3_fillReached_98 : decode cX3_fillReached 98 = .ok (.aload_n 0, 1) := by decide +kernel
theorem dX3_fillReached_99 : decode cX3_fillReached 99 = .ok (.getfield 9, 3) := by decide +kernel
theorem dX3_fillReached_102 : decode cX3_fillReached 102 = .ok (.iload 4, 2) := by decide +kernel
theorem dX3_fillReached_104 : decode cX3_fillReached 104 = .ok (.dup2, 1) := by decide +kernel
theorem dX3_fillReached_105 : decode cX3_fillReached 105 = .ok (.iaload, 1) := by decide +kernel
theorem dX3_fillReached_106 : decode cX3_fillReached 106 = .ok (.aload_n 0, 1) := by decide +kernel
theorem dX3_fillReached_107 : decode cX3_fillReached 107 = .ok (.getfield 9, 3) := by decide +kernel
theorem dX3_fillReached_110 : decode cX3_fillReached 110 = .ok (.iload_n 3, 1) := by decide +kernel
theorem dX3_fillReached_111 : decode cX3_fillReached 111 = .ok (.iaload, 1) := by decide +kernel
theorem dX3_fillReached_112 : decode cX3_fillReached 112 = .ok (.ior, 1) := by decide +kernel
theorem dX3_fillReached_113 : decode cX3_fillReached 113 = .ok (.iastore, 1) := by decide +kernel
theorem dX3_fillReached_114 : decode cX3_fillReached 114 = .ok (.iinc 4 1, 3) := by decide +kernel
theorem dX3_fillReached_117 : decode cX3_fillReached 117 = .ok (.goto (-39), 3) := by decide +kernel
theorem dX3_fillReached_120 : decode cX3_fillReached 120 = .ok (.iinc 3 1, 3) := by decide +kernel
theorem dX3_fillReached_123 : decode cX3_fillReached 123 = .ok (.goto (-53), 3) := by decide +kernel
theorem dX3_fillReached_126 : decode cX3_fillReached 126 = .ok (.return_, 1) := by decide +kernel
set_option maxRecDepth 20000 in
theorem ggX3_leastUnled_X9_isIn : GoodIn wsX3_leastUnled wsX9_isIn := goodIn_r _ [3] (by decide +kernel) (by decide +kernel)
set_option maxRecDepth 20000 in
theorem gX3_leastUnled_X9_isIn_n42 : GoodIn wsX3_leastUnled (wsX9_isIn) := ggX3_leastUnled_X9_isIn
set_option maxRecDepth 20000 in
theorem ggX3_leastUnled_X3_isLed : GoodIn wsX3_leastUnled wsX3_isLed := goodIn_r _ [8, 9, 1, 2, 3, 10, 11] (by decide +kernel) (by decide +kernel)
set_option maxRecDepth 20000 in
theorem gX3_leastUnled_X3_isLed : GoodIn wsX3_leastUnled (wsV RX3 46 RX3 yX3_isLed wsX3_isLed) := goodIn_app (goodIn_of _ (by decide +kernel)) ggX3_leastUnled_X3_isLed
theorem dX3_leastUnled_0 : decode cX3_leastUnled 0 = .ok (.iconst 0, 1) := by decide +kernel
theorem dX3_leastUnled_1 : decode cX3_leastUnled 1 = .ok (.istore_n 3, 1) := by decide +kernel
theorem dX3_leastUnled_2 : decode cX3_leastUnled 2 = .ok (.iload_n 3, 1) := by decide +kernel
theorem dX3_leastUnled_3 : decode cX3_leastUnled 3 = .ok (.iload_n 1, 1) := by decide +kernel
theorem dX3_leastUnled_4 : decode cX3_leastUnled 4 = .ok (.if_icmp .ge 29, 3) := by decide +kernel
theorem dX3_leastUnled_7 : decode cX3_leastUnled 7 = .ok (.iload_n 2, 1) := by decide +kernel
theorem dX3_leastUnled_8 : decode cX3_leastUnled 8 = .ok (.iload_n 3, 1) := by decide +kernel
theorem dX3_leastUnled_9 : decode cX3_leastUnled 9 = .ok (.invokestatic 42, 3) := by decide +kernel
theorem dX3_leastUnled_12 : decode cX3_leastUnled 12 = .ok (.ifCond .ne 15, 3) := by decide +kernel
theorem dX3_leastUnled_15 : decode cX3_leastUnled 15 = .ok (.aload_n 0, 1) := by decide +kernel
theorem dX3_leastUnled_16 : decode cX3_leastUnled 16 = .ok (.iload_n 3, 1) := by decide +kernel
theorem dX3_leastUnled_17 : decode cX3_leastUnled 17 = .ok (.iload_n 1, 1) := by decide +kernel
theorem dX3_leastUnled_18 : decode cX3_leastUnled 18 = .ok (.iload_n 2, 1) := by decide +kernel
theorem dX3_leastUnled_19 : decode cX3_leastUnled 19 = .ok (.invokevirtual 46, 3) := by decide +kernel
theorem dX3_leastUnled_22 : decode cX3_leastUnled 22 = .ok (.ifCond .ne 5, 3) := by decide +kernel
theorem dX3_leastUnled_25 : decode cX3_leastUnled 25 = .ok (.iload_n 3, 1) := by decide +kernel
theorem dX3_leastUnled_26 : decode cX3_leastUnled 26 = .ok (.ireturn, 1) := by decide +kernel
theorem dX3_leastUnled_27 : decode cX3_leastUnled 27 = .ok (.iinc 3 1, 3) := by decide +kernel
theorem dX3_leastUnled_30 : decode cX3_leastUnled 30 = .ok (.goto (-28), 3) := by decide +kernel
theorem dX3_leastUnled_33 : decode cX3_leastUnled 33 = .ok (.iconst 0, 1) := by decide +kernel
theorem dX3_leastUnled_34 : decode cX3_leastUnled 34 = .ok (.ireturn, 1) := by decide +kernel
set_option maxRecDepth 20000 in
theorem ggX3_isLed_X9_isIn : GoodIn wsX3_isLed wsX9_isIn := goodIn_r _ [4] (by decide +kernel) (by decide +kernel)
set_option maxRecDepth 20000 in
theorem gX3_isLed_X9_isIn_n42 : GoodIn wsX3_isLed (wsX9_isIn) := ggX3_isLed_X9_isIn
theorem dX3_isLed_0 : decode cX3_isLed 0 = .ok (.iconst 0, 1) := by decide +kernel
theorem dX3_isLed_1 : decode cX3_isLed 1 = .ok (.istore 4, 2) := by decide +kernel
theorem dX3_isLed_3 : decode cX3_isLed 3 = .ok (.iload 4, 2) := by decide +kernel
theorem dX3_isLed_5 : decode cX3_isLed 5 = .ok (.iload_n 2, 1) := by decide +kernel
theorem dX3_isLed_6 : decode cX3_isLed 6 = .ok (.if_icmp .ge 60, 3) := by decide +kernel
theorem dX3_isLed_9 : decode cX3_isLed 9 = .ok (.aload_n 0, 1) := by decide +kernel
theorem dX3_isLed_10 : decode cX3_isLed 10 = .ok (.getfield 9, 3) := by decide +kernel
theorem dX3_isLed_13 : decode cX3_isLed 13 = .ok (.iload 4, 2) := by decide +kernel
theorem dX3_isLed_15 : decode cX3_isLed 15 = .ok (.iaload, 1) := by decide +kernel
theorem dX3_isLed_16 : decode cX3_isLed 16 = .ok (.iload_n 1, 1) := by decide +kernel
theorem dX3_isLed_17 : decode cX3_isLed 17 = .ok (.invokestatic 42, 3) := by decide +kernel
theorem dX3_isLed_20 : decode cX3_isLed 20 = .ok (.ifCond .eq 21, 3) := by decide +kernel
theorem dX3_isLed_23 : decode cX3_isLed 23 = .ok (.aload_n 0, 1) := by decide +kernel
theorem dX3_isLed_24 : decode cX3_isLed 24 = .ok (.getfield 9, 3) := by decide +kernel
theorem dX3_isLed_27 : decode cX3_isLed 27 = .ok (.iload_n 1, 1) := by decide +kernel
theorem dX3_isLed_28 : decode cX3_isLed 28 = .ok (.iaload, 1) := by decide +kernel
theorem dX3_isLed_29 : decode cX3_isLed 29 = .ok (.iload 4, 2) := by decide +kernel
theorem dX3_isLed_31 : decode cX3_isLed 31 = .ok (.invokestatic 42, 3) := by decide +kernel
theorem dX3_isLed_34 : decode cX3_isLed 34 = .ok (.ifCond .ne 7, 3) := by decide +kernel
theorem dX3_isLed_37 : decode cX3_isLed 37 = .ok (.iconst 1, 1) := by decide +kernel
theorem dX3_isLed_38 : decode cX3_isLed 38 = .ok (.goto 4, 3) := by decide +kernel
theorem dX3_isLed_41 : decode cX3_isLed 41 = .ok (.iconst 0, 1) := by decide +kernel
theorem dX3_isLed_42 : decode cX3_isLed 42 = .ok (.istore 5, 2) := by decide +kernel
theorem dX3_isLed_44 : decode cX3_isLed 44 = .ok (.iload 5, 2) := by decide +kernel
theorem dX3_isLed_46 : decode cX3_isLed 46 = .ok (.ifCond .eq 14, 3) := by decide +kernel
theorem dX3_isLed_49 : decode cX3_isLed 49 = .ok (.iload_n 3, 1) := by decide +kernel
theorem dX3_isLed_50 : decode cX3_isLed 50 = .ok (.iload 4, 2) := by decide +kernel
theorem dX3_isLed_52 : decode cX3_isLed 52 = .ok (.invokestatic 42, 3) := by decide +kernel
theorem dX3_isLed_55 : decode cX3_isLed 55 = .ok (.ifCond .ne 5, 3) := by decide +kernel
theorem dX3_isLed_58 : decode cX3_isLed 58 = .ok (.iconst 1, 1) := by decide +kernel
theorem dX3_isLed_59 : decode cX3_isLed 59 = .ok (.ireturn, 1) := by decide +kernel
theorem dX3_isLed_60 : decode cX3_isLed 60 = .ok (.iinc 4 1, 3) := by decide +kernel
theorem dX3_isLed_63 : decode cX3_isLed 63 = .ok (.goto (-60), 3) := by decide +kernel
theorem dX3_isLed_66 : decode cX3_isLed 66 = .ok (.iconst 0, 1) := by decide +kernel
theorem dX3_isLed_67 : decode cX3_isLed 67 = .ok (.ireturn, 1) := by decide +kernel
set_option maxRecDepth 20000 in
theorem ggX3_numberHeapOf_X9_isIn : GoodIn wsX3_numberHeapOf wsX9_isIn := goodIn_r _ [5] (by decide +kernel) (by decide +kernel)
set_option maxRecDepth 20000 in
theorem gX3_numberHeapOf_X9_isIn_n42 : GoodIn wsX3_numberHeapOf (wsX9_isIn) := ggX3_numberHeapOf_X9_isIn
theorem dX3_numberHeapOf_0 : decode cX3_numberHeapOf 0 = .ok (.iconst 0, 1) := by decide +kernel
theorem dX3_numberHeapOf_1 : decode cX3_numberHeapOf 1 = .ok (.istore 4, 2) := by decide +kernel
theorem dX3_numberHeapOf_3 : decode cX3_numberHeapOf 3 = .ok (.iconst 0, 1) := by decide +kernel
theorem dX3_numberHeapOf_4 : decode cX3_numberHeapOf 4 = .ok (.istore 5, 2) := by decide +kernel
theorem dX3_numberHeapOf_6 : decode cX3_numberHeapOf 6 = .ok (.iload 5, 2) := by decide +kernel
theorem dX3_numberHeapOf_8 : decode cX3_numberHeapOf 8 = .ok (.iload_n 2, 1) := by decide +kernel
theorem dX3_numberHeapOf_9 : decode cX3_numberHeapOf 9 = .ok (.if_icmp .ge 54, 3) := by decide +kernel
theorem dX3_numberHeapOf_12 : decode cX3_numberHeapOf 12 = .ok (.aload_n 0, 1) := by decide +kernel
theorem dX3_numberHeapOf_13 : decode cX3_numberHeapOf 13 = .ok (.getfield 9, 3) := by decide +kernel
theorem dX3_numberHeapOf_16 : decode cX3_numberHeapOf 16 = .ok (.iload 5, 2) := by decide +kernel
theorem dX3_numberHeapOf_18 : decode cX3_numberHeapOf 18 = .ok (.iaload, 1) := by decide +kernel
theorem dX3_numberHeapOf_19 : decode cX3_numberHeapOf 19 = .ok (.iload_n 1, 1) := by decide +kernel
theorem dX3_numberHeapOf_20 : decode cX3_numberHeapOf 20 = .ok (.invokestatic 42, 3) := by decide +kernel
theorem dX3_numberHeapOf_23 : decode cX3_numberHeapOf 23 = .ok (.ifCond .eq 34, 3) := by decide +kernel
theorem dX3_numberHeapOf_26 : decode cX3_numberHeapOf 26 = .ok (.aload_n 0, 1) := by decide +kernel
theorem dX3_numberHeapOf_27 : decode cX3_numberHeapOf 27 = .ok (.getfield 9, 3) := by decide +kernel
theorem dX3_numberHeapOf_30 : decode cX3_numberHeapOf 30 = .ok (.iload_n 1, 1) := by decide +kernel
theorem dX3_numberHeapOf_31 : decode cX3_numberHeapOf 31 = .ok (.iaload, 1) := by decide +kernel
theorem dX3_numberHeapOf_32 : decode cX3_numberHeapOf 32 = .ok (.iload 5, 2) := by decide +kernel
theorem dX3_numberHeapOf_34 : decode cX3_numberHeapOf 34 = .ok (.invokestatic 42, 3) := by decide +kernel
theorem dX3_numberHeapOf_37 : decode cX3_numberHeapOf 37 = .ok (.ifCond .eq 20, 3) := by decide +kernel
theorem dX3_numberHeapOf_40 : decode cX3_numberHeapOf 40 = .ok (.aload_n 0, 1) := by decide +kernel
theorem dX3_numberHeapOf_41 : decode cX3_numberHeapOf 41 = .ok (.getfield 15, 3) := by decide +kernel
theorem dX3_numberHeapOf_44 : decode cX3_numberHeapOf 44 = .ok (.iload 5, 2) := by decide +kernel
theorem dX3_numberHeapOf_46 : decode cX3_numberHeapOf 46 = .ok (.iload_n 3, 1) := by decide +kernel
theorem dX3_numberHeapOf_47 : decode cX3_numberHeapOf 47 = .ok (.iastore, 1) := by decide +kernel
theorem dX3_numberHeapOf_48 : decode cX3_numberHeapOf 48 = .ok (.iload 4, 2) := by decide +kernel
theorem dX3_numberHeapOf_50 : decode cX3_numberHeapOf 50 = .ok (.iconst 1, 1) := by decide +kernel
theorem dX3_numberHeapOf_51 : decode cX3_numberHeapOf 51 = .ok (.iload 5, 2) := by decide +kernel
theorem dX3_numberHeapOf_53 : decode cX3_numberHeapOf 53 = .ok (.ishl, 1) := by decide +kernel
theorem dX3_numberHeapOf_54 : decode cX3_numberHeapOf 54 = .ok (.ior, 1) := by decide +kernel
theorem dX3_numberHeapOf_55 : decode cX3_numberHeapOf 55 = .ok (.istore 4, 2) := by decide +kernel
theorem dX3_numberHeapOf_57 : decode cX3_numberHeapOf 57 = .ok (.iinc 5 1, 3) := by decide +kernel
theorem dX3_numberHeapOf_60 : decode cX3_numberHeapOf 60 = .ok (.goto (-54), 3) := by decide +kernel
theorem dX3_numberHeapOf_63 : decode cX3_numberHeapOf 63 = .ok (.iload 4, 2) := by decide +kernel
theorem dX3_numberHeapOf_65 : decode cX3_numberHeapOf 65 = .ok (.ireturn, 1) := by decide +kernel
theorem dX4_init_0 : decode cX4_init 0 = .ok (.aload_n 0, 1) := by decide +kernel
theorem dX4_init_1 : decode cX4_init 1 = .ok (.invokespecial 3, 3) := by decide +kernel
theorem dX4_init_4 : decode cX4_init 4 = .ok (.aload_n 0, 1) := by decide +kernel
theorem dX4_init_5 : decode cX4_init 5 = .ok (.sipush 480, 3) := by decide +kernel
theorem dX4_init_8 : decode cX4_init 8 = .ok (.newarray .int, 2) := by decide +kernel
theorem dX4_init_10 : decode cX4_init 10 = .ok (.putfield 9, 3) := by decide +kernel
theorem dX4_init_13 : decode cX4_init 13 = .ok (.aload_n 0, 1) := by decide +kernel
theorem dX4_init_14 : decode cX4_init 14 = .ok (.bipush 100, 2) := by decide +kernel
theorem dX4_init_16 : decode cX4_init 16 = .ok (.newarray .int, 2) := by decide +kernel
theorem dX4_init_18 : decode cX4_init 18 = .ok (.putfield 15, 3) := by decide +kernel
theorem dX4_init_21 : decode cX4_init 21 = .ok (.aload_n 0, 1) := by decide +kernel
theorem dX4_init_22 : decode cX4_init 22 = .ok (.bipush 100, 2) := by decide +kernel
theorem dX4_init_24 : decode cX4_init 24 = .ok (.newarray .int, 2) := by decide +kernel
theorem dX4_init_26 : decode cX4_init 26 = .ok (.putfield 18, 3) := by decide +kernel
theorem dX4_init_29 : decode cX4_init 29 = .ok (.aload_n 0, 1) := by decide +kernel
theorem dX4_init_30 : decode cX4_init 30 = .ok (.bipush 100, 2) := by decide +kernel
theorem dX4_init_32 : decode cX4_init 32 = .ok (.newarray .int, 2) := by decide +kernel
theorem dX4_init_34 : decode cX4_init 34 = .ok (.putfield 21, 3) := by decide +kernel
theorem dX4_init_37 : decode cX4_init 37 = .ok (.aload_n 0, 1) := by decide +kernel
theorem dX4_init_38 : decode cX4_init 38 = .ok (.iconst 0, 1) := by decide +kernel
theorem dX4_init_39 : decode cX4_init 39 = .ok (.putfield 24, 3) := by decide +kernel
theorem dX4_init_42 : decode cX4_init 42 = .ok (.aload_n 0, 1) := by decide +kernel
theorem dX4_init_43 : decode cX4_init 43 = .ok (.iconst 0, 1) := by decide +kernel
theorem dX4_init_44 : decode cX4_init 44 = .ok (.putfield 28, 3) := by decide +kernel
theorem dX4_init_47 : decode cX4_init 47 = .ok (.return_, 1) := by decide +kernel
theorem dX4_count_0 : decode cX4_count 0 = .ok (.aload_n 0, 1) := by decide +kernel
theorem dX4_count_1 : decode cX4_count 1 = .ok (.getfield 24, 3) := by decide +kernel
theorem dX4_count_4 : decode cX4_count 4 = .ok (.ireturn, 1) := by decide +kernel
theorem dX4_changes_0 : decode cX4_changes 0 = .ok (.aload_n 0, 1) := by decide +kernel
theorem dX4_changes_1 : decode cX4_changes 1 = .ok (.getfield 28, 3) := by decide +kernel
theorem dX4_changes_4 : decode cX4_changes 4 = .ok (.ireturn, 1) := by decide +kernel
theorem dX4_has_0 : decode cX4_has 0 = .ok (.iload_n 1, 1) := by decide +kernel
theorem dX4_has_1 : decode cX4_has 1 = .ok (.ifCond .lt 15, 3) := by decide +kernel
theorem dX4_has_4 : decode cX4_has 4 = .ok (.iload_n 1, 1) := by decide +kernel
theorem dX4_has_5 : decode cX4_has 5 = .ok (.aload_n 0, 1) := by decide +kernel
theorem dX4_has_6 : decode cX4_has 6 = .ok (.getfield 24, 3) := by decide +kernel
theorem dX4_has_9 : decode cX4_has 9 = .ok (.if_icmp .ge 7, 3) := by decide +kernel
theorem dX4_has_12 : decode cX4_has 12 = .ok (.iconst 1, 1) := by decide +kernel
theorem dX4_has_13 : decode cX4_has 13 = .ok (.goto 4, 3) := by decide +kernel
theorem dX4_has_16 : decode cX4_has 16 = .ok (.iconst 0, 1) := by decide +kernel
theorem dX4_has_17 : decode cX4_has 17 = .ok (.ireturn, 1) := by decide +kernel
set_option maxRecDepth 20000 in
theorem ggX4_part_X4_has : GoodIn wsX4_part wsX4_has := goodIn_r _ [6, 7, 8, 9, 10, 11, 12, 13] (by decide +kernel) (by decide +kernel)
set_option maxRecDepth 20000 in
theorem gX4_part_X4_has : GoodIn wsX4_part (wsV RX4 31 RX4 yX4_has wsX4_has) := goodIn_app (goodIn_of _ (by decide +kernel)) ggX4_part_X4_has
theorem dX4_part_0 : decode cX4_part 0 = .ok (.aload_n 0, 1) := by decide +kernel
theorem dX4_part_1 : decode cX4_part 1 = .ok (.iload_n 1, 1) := by decide +kernel
theorem dX4_part_2 : decode cX4_part 2 = .ok (.invokevirtual 31, 3) := by decide +kernel
theorem dX4_part_5 : decode cX4_part 5 = .ok (.ifCond .eq 12, 3) := by decide +kernel
theorem dX4_part_8 : decode cX4_part 8 = .ok (.iload_n 2, 1) := by decide +kernel
theorem dX4_part_9 : decode cX4_part 9 = .ok (.ifCond .lt 8, 3) := by decide +kernel
theorem dX4_part_12 : decode cX4_part 12 = .ok (.iload_n 2, 1) := by decide +kernel
theorem dX4_part_13 : decode cX4_part 13 = .ok (.iconst 4, 1) := by decide +kernel
theorem dX4_part_14 : decode cX4_part 14 = .ok (.if_icmp .lt 5, 3) := by decide +kernel
theorem dX4_part_17 : decode cX4_part 17 = .ok (.iconst (-1), 1) := by decide +kernel
theorem dX4_part_18 : decode cX4_part 18 = .ok (.ireturn, 1) := by decide +kernel
theorem dX4_part_19 : decode cX4_part 19 = .ok (.aload_n 0, 1) := by decide +kernel
theorem dX4_part_20 : decode cX4_part 20 = .ok (.getfield 9, 3) := by decide +kernel
theorem dX4_part_23 : decode cX4_part 23 = .ok (.iload_n 1, 1) := by decide +kernel
theorem dX4_part_24 : decode cX4_part 24 = .ok (.iconst 4, 1) := by decide +kernel
theorem dX4_part_25 : decode cX4_part 25 = .ok (.imul, 1) := by decide +kernel
theorem dX4_part_26 : decode cX4_part 26 = .ok (.iload_n 2, 1) := by decide +kernel
theorem dX4_part_27 : decode cX4_part 27 = .ok (.iadd, 1) := by decide +kernel
theorem dX4_part_28 : decode cX4_part 28 = .ok (.iaload, 1) := by decide +kernel
theorem dX4_part_29 : decode cX4_part 29 = .ok (.ireturn, 1) := by decide +kernel
theorem dX4_wins_0 : decode cX4_wins 0 = .ok (.aload_n 0, 1) := by decide +kernel
theorem dX4_wins_1 : decode cX4_wins 1 = .ok (.getfield 15, 3) := by decide +kernel
theorem dX4_wins_4 : decode cX4_wins 4 = .ok (.iload_n 1, 1) := by decide +kernel
theorem dX4_wins_5 : decode cX4_wins 5 = .ok (.bipush 10, 2) := by decide +kernel
theorem dX4_wins_7 : decode cX4_wins 7 = .ok (.imul, 1) := by decide +kernel
theorem dX4_wins_8 : decode cX4_wins 8 = .ok (.iload_n 2, 1) := by decide +kernel
theorem dX4_wins_9 : decode cX4_wins 9 = .ok (.iadd, 1) := by decide +kernel
theorem dX4_wins_10 : decode cX4_wins 10 = .ok (.iaload, 1) := by decide +kernel
theorem dX4_wins_11 : decode cX4_wins 11 = .ok (.ireturn, 1) := by decide +kernel
theorem dX4_draws_0 : decode cX4_draws 0 = .ok (.aload_n 0, 1) := by decide +kernel
theorem dX4_draws_1 : decode cX4_draws 1 = .ok (.getfield 18, 3) := by decide +kernel
theorem dX4_draws_4 : decode cX4_draws 4 = .ok (.iload_n 1, 1) := by decide +kernel
theorem dX4_draws_5 : decode cX4_draws 5 = .ok (.bipush 10, 2) := by decide +kernel
theorem dX4_draws_7 : decode cX4_draws 7 = .ok (.imul, 1) := by decide +kernel
theorem dX4_draws_8 : decode cX4_draws 8 = .ok (.iload_n 2, 1) := by decide +kernel
theorem dX4_draws_9 : decode cX4_draws 9 = .ok (.iadd, 1) := by decide +kernel
theorem dX4_draws_10 : decode cX4_draws 10 = .ok (.iaload, 1) := by decide +kernel
theorem dX4_draws_11 : decode cX4_draws 11 = .ok (.ireturn, 1) := by decide +kernel
theorem dX4_points_0 : decode cX4_points 0 = .ok (.aload_n 0, 1) := by decide +kernel
theorem dX4_points_1 : decode cX4_points 1 = .ok (.getfield 21, 3) := by decide +kernel
theorem dX4_points_4 : decode cX4_points 4 = .ok (.iload_n 1, 1) := by decide +kernel
theorem dX4_points_5 : decode cX4_points 5 = .ok (.bipush 10, 2) := by decide +kernel
theorem dX4_points_7 : decode cX4_points 7 = .ok (.imul, 1) := by decide +kernel
theorem dX4_points_8 : decode cX4_points 8 = .ok (.iload_n 2, 1) := by decide +kernel
theorem dX4_points_9 : decode cX4_points 9 = .ok (.iadd, 1) := by decide +kernel
theorem dX4_points_10 : decode cX4_points 10 = .ok (.iaload, 1) := by decide +kernel
theorem dX4_points_11 : decode cX4_points 11 = .ok (.ireturn, 1) := by decide +kernel
set_option maxRecDepth 20000 in
theorem ggX4_times_X4_wins : GoodIn wsX4_times wsX4_wins := goodIn_r _ [5, 6, 12, 13, 14, 15, 16, 17] (by decide +kernel) (by decide +kernel)
set_option maxRecDepth 20000 in
theorem gX4_times_X4_wins : GoodIn wsX4_times (wsV RX4 35 RX4 yX4_wins wsX4_wins) := goodIn_app (goodIn_of _ (by decide +kernel)) ggX4_times_X4_wins
set_option maxRecDepth 20000 in
theorem ggX4_times_X4_draws : GoodIn wsX4_times wsX4_draws := goodIn_r _ [10, 11, 12, 13, 14, 15, 16, 17] (by decide +kernel) (by decide +kernel)
set_option maxRecDepth 20000 in
theorem gX4_times_X4_draws : GoodIn wsX4_times (wsV RX4 38 RX4 yX4_draws wsX4_draws) := goodIn_app (goodIn_of _ (by decide +kernel)) ggX4_times_X4_draws
theorem dX4_times_0 : decode cX4_times 0 = .ok (.aload_n 0, 1) := by decide +kernel
theorem dX4_times_1 : decode cX4_times 1 = .ok (.iload_n 1, 1) := by decide +kernel
theorem dX4_times_2 : decode cX4_times 2 = .ok (.iload_n 2, 1) := by decide +kernel
theorem dX4_times_3 : decode cX4_times 3 = .ok (.invokevirtual 35, 3) := by decide +kernel
theorem dX4_times_6 : decode cX4_times 6 = .ok (.aload_n 0, 1) := by decide +kernel
theorem dX4_times_7 : decode cX4_times 7 = .ok (.iload_n 1, 1) := by decide +kernel
theorem dX4_times_8 : decode cX4_times 8 = .ok (.iload_n 2, 1) := by decide +kernel
theorem dX4_times_9 : decode cX4_times 9 = .ok (.invokevirtual 38, 3) := by decide +kernel
theorem dX4_times_12 : decode cX4_times 12 = .ok (.iadd, 1) := by decide +kernel
theorem dX4_times_13 : decode cX4_times 13 = .ok (.aload_n 0, 1) := by decide +kernel
theorem dX4_times_14 : decode cX4_times 14 = .ok (.iload_n 2, 1) := by decide +kernel
theorem dX4_times_15 : decode cX4_times 15 = .ok (.iload_n 1, 1) := by decide +kernel
theorem dX4_times_16 : decode cX4_times 16 = .ok (.invokevirtual 35, 3) := by decide +kernel
theorem dX4_times_19 : decode cX4_times 19 = .ok (.iadd, 1) := by decide +kernel
theorem dX4_times_20 : decode cX4_times 20 = .ok (.ireturn, 1) := by decide +kernel
set_option maxRecDepth 20000 in
theorem ggX4_append_X4_insert : GoodIn wsX4_append wsX4_insert := goodIn_r _ [6, 1, 7, 8, 9, 10, 11, 12, 13, 14, 5, 15, 16, 17, 18, 19, 20, 21, 22, 23, 24, 25] (by decide +kernel) (by decide +kernel)
set_option maxRecDepth 20000 in
theorem gX4_append_X4_insert : GoodIn wsX4_append (wsV RX4 40 RX4 yX4_insert wsX4_insert) := goodIn_app (goodIn_of _ (by decide +kernel)) ggX4_append_X4_insert
theorem dX4_append_0 : decode cX4_append 0 = .ok (.aload_n 0, 1) := by decide +kernel
theorem dX4_append_1 : decode cX4_append 1 = .ok (.aload_n 0, 1) := by decide +kernel
theorem dX4_append_2 : decode cX4_append 2 = .ok (.getfield 24, 3) := by decide +kernel
theorem dX4_append_5 : decode cX4_append 5 = .ok (.iload_n 1, 1) := by decide +kernel
theorem dX4_append_6 : decode cX4_append 6 = .ok (.iload_n 2, 1) := by decide +kernel
theorem dX4_append_7 : decode cX4_append 7 = .ok (.iload_n 3, 1) := by decide +kernel
theorem dX4_append_8 : decode cX4_append 8 = .ok (.iload 4, 2) := by decide +kernel
theorem dX4_append_10 : decode cX4_append 10 = .ok (.invokevirtual 40, 3) := by decide +kernel
theorem dX4_append_13 : decode cX4_append 13 = .ok (.return_, 1) := by decide +kernel
set_option maxRecDepth 20000 in
theorem ggX4_insert_X4_tally : GoodIn wsX4_insert wsX4_tally := goodIn_r _ [11, 2, 12, 13, 14, 15, 16, 17, 18, 19, 20, 21] (by decide +kernel) (by decide +kernel)
set_option maxRecDepth 20000 in
theorem gX4_insert_X4_tally : GoodIn wsX4_insert (wsV RX4 50 RX4 yX4_tally wsX4_tally) := goodIn_app (goodIn_of _ (by decide +kernel)) ggX4_insert_X4_tally
theorem dX4_insert_0 : decode cX4_insert 0 = .ok (.aload_n 0, 1) := by decide +kernel
theorem dX4_insert_1 : decode cX4_insert 1 = .ok (.getfield 24, 3) := by decide +kernel
theorem dX4_insert_4 : decode cX4_insert 4 = .ok (.bipush 120, 2) := by decide +kernel
theorem dX4_insert_6 : decode cX4_insert 6 = .ok (.if_icmp .ge 15, 3) := by decide +kernel
theorem dX4_insert_9 : decode cX4_insert 9 = .ok (.iload_n 1, 1) := by decide +kernel
theorem dX4_insert_10 : decode cX4_insert 10 = .ok (.ifCond .lt 11, 3) := by decide +kernel
theorem dX4_insert_13 : decode cX4_insert 13 = .ok (.iload_n 1, 1) := by decide +kernel
theorem dX4_insert_14 : decode cX4_insert 14 = .ok (.aload_n 0, 1) := by decide +kernel
theorem dX4_insert_15 : decode cX4_insert 15 = .ok (.getfield 24, 3) := by decide +kernel
theorem dX4_insert_18 : decode cX4_insert 18 = .ok (.if_icmp .le 4, 3) := by decide +kernel
theorem dX4_insert_21 : decode cX4_insert 21 = .ok (.return_, 1) := by decide +kernel
theorem dX4_insert_22 : decode cX4_insert 22 = .ok (.iload_n 1, 1) := by decide +kernel
theorem dX4_insert_23 : decode cX4_insert 23 = .ok (.iconst 4, 1) := by decide +kernel
theorem dX4_insert_24 : decode cX4_insert 24 = .ok (.imul, 1) := by decide +kernel
theorem dX4_insert_25 : decode cX4_insert 25 = .ok (.istore 6, 2) := by decide +kernel
theorem dX4_insert_27 : decode cX4_insert 27 = .ok (.aload_n 0, 1) := by decide +kernel
theorem dX4_insert_28 : decode cX4_insert 28 = .ok (.getfield 9, 3) := by decide +kernel
theorem dX4_insert_31 : decode cX4_insert 31 = .ok (.iload 6, 2) := by decide +kernel
theorem dX4_insert_33 : decode cX4_insert 33 = .ok (.aload_n 0, 1) := by decide +kernel
theorem dX4_insert_34 : decode cX4_insert 34 = .ok (.getfield 9, 3) := by decide +kernel
theorem dX4_insert_37 : decode cX4_insert 37 = .ok (.iload 6, 2) := by decide +kernel
theorem dX4_insert_39 : decode cX4_insert 39 = .ok (.iconst 4, 1) := by decide +kernel
theorem dX4_insert_40 : decode cX4_insert 40 = .ok (.iadd, 1) := by decide +kernel
theorem dX4_insert_41 : decode cX4_insert 41 = .ok (.aload_n 0, 1) := by decide +kernel
theorem dX4_insert_42 : decode cX4_insert 42 = .ok (.getfield 24, 3) := by decide +kernel
theorem dX4_insert_45 : decode cX4_insert 45 = .ok (.iload_n 1, 1) := by decide +kernel
theorem dX4_insert_46 : decode cX4_insert 46 = .ok (.isub, 1) := by decide +kernel
theorem dX4_insert_47 : decode cX4_insert 47 = .ok (.iconst 4, 1) := by decide +kernel
theorem dX4_insert_48 : decode cX4_insert 48 = .ok (.imul, 1) := by decide +kernel
theorem dX4_insert_49 : decode cX4_insert 49 = .ok (.invokestatic 44, 3) := by decide +kernel
theorem dX4_insert_52 : decode cX4_insert 52 = .ok (.aload_n 0, 1) := by decide +kernel
theorem dX4_insert_53 : decode cX4_insert 53 = .ok (.getfield 9, 3) := by decide +kernel
theorem dX4_insert_56 : decode cX4_insert 56 = .ok (.iload 6, 2) := by decide +kernel
theorem dX4_insert_58 : decode cX4_insert 58 = .ok (.iload_n 2, 1) := by decide +kernel
theorem dX4_insert_59 : decode cX4_insert 59 = .ok (.iastore, 1) := by decide +kernel
theorem dX4_insert_60 : decode cX4_insert 60 = .ok (.aload_n 0, 1) := by decide +kernel
theorem dX4_insert_61 : decode cX4_insert 61 = .ok (.getfield 9, 3) := by decide +kernel
theorem dX4_insert_64 : decode cX4_insert 64 = .ok (.iload 6, 2) := by decide +kernel
theorem dX4_insert_66 : decode cX4_insert 66 = .ok (.iconst 1, 1) := by decide +kernel
theorem dX4_insert_67 : decode cX4_insert 67 = .ok (.iadd, 1) := by decide +kernel
theorem dX4_insert_68 : decode cX4_insert 68 = .ok (.iload_n 3, 1) := by decide +kernel
theorem dX4_insert_69 : decode cX4_insert 69 = .ok (.iastore, 1) := by decide +kernel
theorem dX4_insert_70 : decode cX4_insert 70 = .ok (.aload_n 0, 1) := by decide +kernel
theorem dX4_insert_71 : decode cX4_insert 71 = .ok (.getfield 9, 3) := by decide +kernel
theorem dX4_insert_74 : decode cX4_insert 74 = .ok (.iload 6, 2) := by decide +kernel
theorem dX4_insert_76 : decode cX4_insert 76 = .ok (.iconst 2, 1) := by decide +kernel
theorem dX4_insert_77 : decode cX4_insert 77 = .ok (.iadd, 1) := by decide +kernel
theorem dX4_insert_78 : decode cX4_insert 78 = .ok (.iload 4, 2) := by decide +kernel
theorem dX4_insert_80 : decode cX4_insert 80 = .ok (.iastore, 1) := by decide +kernel
theorem dX4_insert_81 : decode cX4_insert 81 = .ok (.aload_n 0, 1) := by decide +kernel
theorem dX4_insert_82 : decode cX4_insert 82 = .ok (.getfield 9, 3) := by decide +kernel
theorem dX4_insert_85 : decode cX4_insert 85 = .ok (.iload 6, 2) := by decide +kernel
theorem dX4_insert_87 : decode cX4_insert 87 = .ok (.iconst 3, 1) := by decide +kernel
theorem dX4_insert_88 : decode cX4_insert 88 = .ok (.iadd, 1) := by decide +kernel
theorem dX4_insert_89 : decode cX4_insert 89 = .ok (.iload 5, 2) := by decide +kernel
theorem dX4_insert_91 : decode cX4_insert 91 = .ok (.iastore, 1) := by decide +kernel
theorem dX4_insert_92 : decode cX4_insert 92 = .ok (.aload_n 0, 1) := by decide +kernel
theorem dX4_insert_93 : decode cX4_insert 93 = .ok (.dup, 1) := by decide +kernel
theorem dX4_insert_94 : decode cX4_insert 94 = .ok (.getfield 24, 3) := by decide +kernel
theorem dX4_insert_97 : decode cX4_insert 97 = .ok (.iconst 1, 1) := by decide +kernel
theorem dX4_insert_98 : decode cX4_insert 98 = .ok (.iadd, 1) := by decide +kernel
theorem dX4_insert_99 : decode cX4_insert 99 = .ok (.putfield 24, 3) := by decide +kernel
theorem dX4_insert_102 : decode cX4_insert 102 = .ok (.aload_n 0, 1) := by decide +kernel
theorem dX4_insert_103 : decode cX4_insert 103 = .ok (.iload_n 1, 1) := by decide +kernel
theorem dX4_insert_104 : decode cX4_insert 104 = .ok (.iconst 1, 1) := by decide +kernel
theorem dX4_insert_105 : decode cX4_insert 105 = .ok (.invokevirtual 50, 3) := by decide +kernel
theorem dX4_insert_108 : decode cX4_insert 108 = .ok (.return_, 1) := by decide +kernel
set_option maxRecDepth 20000 in
theorem ggX4_remove_X4_has : GoodIn wsX4_remove wsX4_has := goodIn_r _ [11, 2, 20, 21, 22, 23, 24, 25] (by decide +kernel) (by decide +kernel)
set_option maxRecDepth 20000 in
theorem gX4_remove_X4_has : GoodIn wsX4_remove (wsV RX4 31 RX4 yX4_has wsX4_has) := goodIn_app (goodIn_of _ (by decide +kernel)) ggX4_remove_X4_has
set_option maxRecDepth 20000 in
theorem ggX4_remove_X4_tally : GoodIn wsX4_remove wsX4_tally := goodIn_r _ [15, 1, 16, 17, 18, 19, 20, 21, 22, 23, 24, 25] (by decide +kernel) (by decide +kernel)
set_option maxRecDepth 20000 in
theorem gX4_remove_X4_tally : GoodIn wsX4_remove (wsV RX4 50 RX4 yX4_tally wsX4_tally) := goodIn_app (goodIn_of _ (by decide +kernel)) ggX4_remove_X4_tally
theorem dX4_remove_0 : decode cX4_remove 0 = .ok (.aload_n 0, 1) := by decide +kernel
theorem dX4_remove_1 : decode cX4_remove 1 = .ok (.iload_n 1, 1) := by decide +kernel
theorem dX4_remove_2 : decode cX4_remove 2 = .ok (.invokevirtual 31, 3) := by decide +kernel
theorem dX4_remove_5 : decode cX4_remove 5 = .ok (.ifCond .ne 4, 3) := by decide +kernel
theorem dX4_remove_8 : decode cX4_remove 8 = .ok (.return_, 1) := by decide +kernel
theorem dX4_remove_9 : decode cX4_remove 9 = .ok (.aload_n 0, 1) := by decide +kernel
theorem dX4_remove_10 : decode cX4_remove 10 = .ok (.iload_n 1, 1) := by decide +kernel
theorem dX4_remove_11 : decode cX4_remove 11 = .ok (.iconst (-1), 1) := by decide +kernel
theorem dX4_remove_12 : decode cX4_remove 12 = .ok (.invokevirtual 50, 3) := by decide +kernel
theorem dX4_remove_15 : decode cX4_remove 15 = .ok (.iload_n 1, 1) := by decide +kernel
theorem dX4_remove_16 : decode cX4_remove 16 = .ok (.iconst 4, 1) := by decide +kernel
theorem dX4_remove_17 : decode cX4_remove 17 = .ok (.imul, 1) := by decide +kernel
theorem dX4_remove_18 : decode cX4_remove 18 = .ok (.istore_n 2, 1) := by decide +kernel
theorem dX4_remove_19 : decode cX4_remove 19 = .ok (.aload_n 0, 1) := by decide +kernel
theorem dX4_remove_20 : decode cX4_remove 20 = .ok (.getfield 9, 3) := by decide +kernel
theorem dX4_remove_23 : decode cX4_remove 23 = .ok (.iload_n 2, 1) := by decide +kernel
theorem dX4_remove_24 : decode cX4_remove 24 = .ok (.iconst 4, 1) := by decide +kernel
theorem dX4_remove_25 : decode cX4_remove 25 = .ok (.iadd, 1) := by decide +kernel
theorem dX4_remove_26 : decode cX4_remove 26 = .ok (.aload_n 0, 1) := by decide +kernel
theorem dX4_remove_27 : decode cX4_remove 27 = .ok (.getfield 9, 3) := by decide +kernel
theorem dX4_remove_30 : decode cX4_remove 30 = .ok (.iload_n 2, 1) := by decide +kernel
theorem dX4_remove_31 : decode cX4_remove 31 = .ok (.aload_n 0, 1) := by decide +kernel
theorem dX4_remove_32 : decode cX4_remove 32 = .ok (.getfield 24, 3) := by decide +kernel
theorem dX4_remove_35 : decode cX4_remove 35 = .ok (.iload_n 1, 1) := by decide +kernel
theorem dX4_remove_36 : decode cX4_remove 36 = .ok (.isub, 1) := by decide +kernel
theorem dX4_remove_37 : decode cX4_remove 37 = .ok (.iconst 1, 1) := by decide +kernel
theorem dX4_remove_38 : decode cX4_remove 38 = .ok (.isub, 1) := by decide +kernel
theorem dX4_remove_39 : decode cX4_remove 39 = .ok (.iconst 4, 1) := by decide +kernel
theorem dX4_remove_40 : decode cX4_remove 40 = .ok (.imul, 1) := by decide +kernel
theorem dX4_remove_41 : decode cX4_remove 41 = .ok (.invokestatic 44, 3) := by decide +kernel
theorem dX4_remove_44 : decode cX4_remove 44 = .ok (.aload_n 0, 1) := by decide +kernel
theorem dX4_remove_45 : decode cX4_remove 45 = .ok (.dup, 1) := by decide +kernel
theorem dX4_remove_46 : decode cX4_remove 46 = .ok (.getfield 24, 3) := by decide +kernel
theorem dX4_remove_49 : decode cX4_remove 49 = .ok (.iconst 1, 1) := by decide +kernel
theorem dX4_remove_50 : decode cX4_remove 50 = .ok (.isub, 1) := by decide +kernel
theorem dX4_remove_51 : decode cX4_remove 51 = .ok (.putfield 24, 3) := by decide +kernel
theorem dX4_remove_54 : decode cX4_remove 54 = .ok (.return_, 1) := by decide +kernel
set_option maxRecDepth 20000 in
theorem ggX4_removeLast_X4_remove : GoodIn wsX4_removeLast wsX4_remove := goodIn_r _ [6, 7, 1, 8, 9, 10, 11, 12, 13, 14, 5, 15, 16, 17, 18, 19, 20, 21, 22, 23, 24, 25, 26, 27, 28, 29] (by decide +kernel) (by decide +kernel)
set_option maxRecDepth 20000 in
theorem gX4_removeLast_X4_remove : GoodIn wsX4_removeLast (wsV RX4 54 RX4 yX4_remove wsX4_remove) := goodIn_app (goodIn_of _ (by decide +kernel)) ggX4_removeLast_X4_remove
theorem dX4_removeLast_0 : decode cX4_removeLast 0 = .ok (.iconst 0, 1) := by decide +kernel
theorem dX4_removeLast_1 : decode cX4_removeLast 1 = .ok (.istore_n 2, 1) := by decide +kernel
theorem dX4_removeLast_2 : decode cX4_removeLast 2 = .ok (.iload_n 2, 1) := by decide +kernel
theorem dX4_removeLast_3 : decode cX4_removeLast 3 = .ok (.iload_n 1, 1) := by decide +kernel
theorem dX4_removeLast_4 : decode cX4_removeLast 4 = .ok (.if_icmp .ge 19, 3) := by decide +kernel
theorem dX4_removeLast_7 : decode cX4_removeLast 7 = .ok (.aload_n 0, 1) := by decide +kernel
theorem dX4_removeLast_8 : decode cX4_removeLast 8 = .ok (.aload_n 0, 1) := by decide +kernel
theorem dX4_removeLast_9 : decode cX4_removeLast 9 = .ok (.getfield 24, 3) := by decide +kernel
theorem dX4_removeLast_12 : decode cX4_removeLast 12 = .ok (.iconst 1, 1) := by decide +kernel
theorem dX4_removeLast_13 : decode cX4_removeLast 13 = .ok (.isub, 1) := by decide +kernel
theorem dX4_removeLast_14 : decode cX4_removeLast 14 = .ok (.invokevirtual 54, 3) := by decide +kernel
theorem dX4_removeLast_17 : decode cX4_removeLast 17 = .ok (.iinc 2 1, 3) := by decide +kernel
theorem dX4_removeLast_20 : decode cX4_removeLast 20 = .ok (.goto (-18), 3) := by decide +kernel
theorem dX4_removeLast_23 : decode cX4_removeLast 23 = .ok (.return_, 1) := by decide +kernel
set_option maxRecDepth 20000 in
theorem ggX4_joinAll_X9_isIn : GoodIn wsX4_joinAll wsX9_isIn := goodIn_r _ [3] (by decide +kernel) (by decide +kernel)
set_option maxRecDepth 20000 in
theorem gX4_joinAll_X9_isIn_n58 : GoodIn wsX4_joinAll (wsX9_isIn) := ggX4_joinAll_X9_isIn
set_option maxRecDepth 20000 in
theorem ggX4_joinAll_X4_foesOf : GoodIn wsX4_joinAll wsX4_foesOf := goodIn_r _ [8, 9, 10, 11, 7, 12, 13, 14, 15, 16, 17, 18, 19, 20, 21, 22, 25, 26, 27, 28, 29, 30] (by decide +kernel) (by decide +kernel)
set_option maxRecDepth 20000 in
theorem gX4_joinAll_X4_foesOf : GoodIn wsX4_joinAll (wsV RX4 62 RX4 yX4_foesOf wsX4_foesOf) := goodIn_app (goodIn_of _ (by decide +kernel)) ggX4_joinAll_X4_foesOf
set_option maxRecDepth 20000 in
theorem ggX4_joinAll_X9_everyone : GoodIn wsX4_joinAll wsX9_everyone := goodIn_r _ [24] (by decide +kernel) (by decide +kernel)
set_option maxRecDepth 20000 in
theorem gX4_joinAll_X9_everyone_n65 : GoodIn wsX4_joinAll (wsX9_everyone) := ggX4_joinAll_X9_everyone
theorem dX4_joinAll_0 : decode cX4_joinAll 0 = .ok (.iconst 1, 1) := by decide +kernel
theorem dX4_joinAll_1 : decode cX4_joinAll 1 = .ok (.istore_n 2, 1) := by decide +kernel
theorem dX4_joinAll_2 : decode cX4_joinAll 2 = .ok (.iconst 0, 1) := by decide +kernel
theorem dX4_joinAll_3 : decode cX4_joinAll 3 = .ok (.istore_n 3, 1) := by decide +kernel
theorem dX4_joinAll_4 : decode cX4_joinAll 4 = .ok (.iload_n 3, 1) := by decide +kernel
theorem dX4_joinAll_5 : decode cX4_joinAll 5 = .ok (.iload_n 1, 1) := by decide +kernel
theorem dX4_joinAll_6 : decode cX4_joinAll 6 = .ok (.if_icmp .ge 43, 3) := by decide +kernel
theorem dX4_joinAll_9 : decode cX4_joinAll 9 = .ok (.iconst 0, 1) := by decide +kernel
theorem dX4_joinAll_10 : decode cX4_joinAll 10 = .ok (.istore 4, 2) := by decide +kernel
theorem dX4_joinAll_12 : decode cX4_joinAll 12 = .ok (.iload 4, 2) := by decide +kernel
theorem dX4_joinAll_14 : decode cX4_joinAll 14 = .ok (.iload_n 1, 1) := by decide +kernel
theorem dX4_joinAll_15 : decode cX4_joinAll 15 = .ok (.if_icmp .ge 28, 3) := by decide +kernel
theorem dX4_joinAll_18 : decode cX4_joinAll 18 = .ok (.iload_n 2, 1) := by decide +kernel
theorem dX4_joinAll_19 : decode cX4_joinAll 19 = .ok (.iload 4, 2) := by decide +kernel
theorem dX4_joinAll_21 : decode cX4_joinAll 21 = .ok (.invokestatic 58, 3) := by decide +kernel
theorem dX4_joinAll_24 : decode cX4_joinAll 24 = .ok (.ifCond .eq 13, 3) := by decide +kernel
theorem dX4_joinAll_27 : decode cX4_joinAll 27 = .ok (.iload_n 2, 1) := by decide +kernel
theorem dX4_joinAll_28 : decode cX4_joinAll 28 = .ok (.aload_n 0, 1) := by decide +kernel
theorem dX4_joinAll_29 : decode cX4_joinAll 29 = .ok (.iload 4, 2) := by decide +kernel
theorem dX4_joinAll_31 : decode cX4_joinAll 31 = .ok (.iload_n 1, 1) := by decide +kernel
theorem dX4_joinAll_32 : decode cX4_joinAll 32 = .ok (.invokevirtual 62, 3) := by decide +kernel
theorem dX4_joinAll_35 : decode cX4_joinAll 35 = .ok (.ior, 1) := by decide +kernel
theorem dX4_joinAll_36 : decode cX4_joinAll 36 = .ok (.istore_n 2, 1) := by decide +kernel
theorem dX4_joinAll_37 : decode cX4_joinAll 37 = .ok (.iinc 4 1, 3) := by decide +kernel
theorem dX4_joinAll_40 : decode cX4_joinAll 40 = .ok (.goto (-28), 3) := by decide +kernel
theorem dX4_joinAll_43 : decode cX4_joinAll 43 = .ok (.iinc 3 1, 3) := by decide +kernel
theorem dX4_joinAll_46 : decode cX4_joinAll 46 = .ok (.goto (-42), 3) := by decide +kernel
theorem dX4_joinAll_49 : decode cX4_joinAll 49 = .ok (.iload_n 2, 1) := by decide +kernel
theorem dX4_joinAll_50 : decode cX4_joinAll 50 = .ok (.iload_n 1, 1) := by decide +kernel
theorem dX4_joinAll_51 : decode cX4_joinAll 51 = .ok (.invokestatic 65, 3) := by decide +kernel
theorem dX4_joinAll_54 : decode cX4_joinAll 54 = .ok (.if_icmp .ne 7, 3) := by decide +kernel
theorem dX4_joinAll_57 : decode cX4_joinAll 57 = .ok (.iconst 1, 1) := by decide +kernel
theorem dX4_joinAll_58 : decode cX4_joinAll 58 = .ok (.goto 4, 3) := by decide +kernel
theorem dX4_joinAll_61 : decode cX4_joinAll 61 = .ok (.iconst 0, 1) := by decide +kernel
theorem dX4_joinAll_62 : decode cX4_joinAll 62 = .ok (.ireturn, 1) := by decide +kernel
set_option maxRecDepth 20000 in
theorem ggX4_foesOf_X4_times : GoodIn wsX4_foesOf wsX4_times := goodIn_r _ [5, 6, 7, 8, 4, 9, 10, 11, 12, 13, 14, 15, 16, 17, 18, 19, 20, 21] (by decide +kernel) (by decide +kernel)
set_option maxRecDepth 20000 in
theorem gX4_foesOf_X4_times : GoodIn wsX4_foesOf (wsV RX4 69 RX4 yX4_times wsX4_times) := goodIn_app (goodIn_of _ (by decide +kernel)) ggX4_foesOf_X4_times
theorem dX4_foesOf_0 : decode cX4_foesOf 0 = .ok (.iconst 0, 1) := by decide +kernel
theorem dX4_foesOf_1 : decode cX4_foesOf 1 = .ok (.istore_n 3, 1) := by decide +kernel
theorem dX4_foesOf_2 : decode cX4_foesOf 2 = .ok (.iconst 0, 1) := by decide +kernel
theorem dX4_foesOf_3 : decode cX4_foesOf 3 = .ok (.istore 4, 2) := by decide +kernel
theorem dX4_foesOf_5 : decode cX4_foesOf 5 = .ok (.iload 4, 2) := by decide +kernel
theorem dX4_foesOf_7 : decode cX4_foesOf 7 = .ok (.iload_n 2, 1) := by decide +kernel
theorem dX4_foesOf_8 : decode cX4_foesOf 8 = .ok (.if_icmp .ge 26, 3) := by decide +kernel
theorem dX4_foesOf_11 : decode cX4_foesOf 11 = .ok (.aload_n 0, 1) := by decide +kernel
theorem dX4_foesOf_12 : decode cX4_foesOf 12 = .ok (.iload_n 1, 1) := by decide +kernel
theorem dX4_foesOf_13 : decode cX4_foesOf 13 = .ok (.iload 4, 2) := by decide +kernel
theorem dX4_foesOf_15 : decode cX4_foesOf 15 = .ok (.invokevirtual 69, 3) := by decide +kernel
theorem dX4_foesOf_18 : decode cX4_foesOf 18 = .ok (.ifCond .le 10, 3) := by decide +kernel
theorem dX4_foesOf_21 : decode cX4_foesOf 21 = .ok (.iload_n 3, 1) := by decide +kernel
theorem dX4_foesOf_22 : decode cX4_foesOf 22 = .ok (.iconst 1, 1) := by decide +kernel
theorem dX4_foesOf_23 : decode cX4_foesOf 23 = .ok (.iload 4, 2) := by decide +kernel
theorem dX4_foesOf_25 : decode cX4_foesOf 25 = .ok (.ishl, 1) := by decide +kernel
theorem dX4_foesOf_26 : decode cX4_foesOf 26 = .ok (.ior, 1) := by decide +kernel
theorem dX4_foesOf_27 : decode cX4_foesOf 27 = .ok (.istore_n 3, 1) := by decide +kernel
theorem dX4_foesOf_28 : decode cX4_foesOf 28 = .ok (.iinc 4 1, 3) := by decide +kernel
theorem dX4_foesOf_31 : decode cX4_foesOf 31 = .ok (.goto (-26), 3) := by decide +kernel
theorem dX4_foesOf_34 : decode cX4_foesOf 34 = .ok (.iload_n 3, 1) := by decide +kernel
theorem dX4_foesOf_35 : decode cX4_foesOf 35 = .ok (.ireturn, 1) := by decide +kernel
theorem dX4_tally_0 : decode cX4_tally 0 = .ok (.iload_n 1, 1) := by decide +kernel
theorem dX4_tally_1 : decode cX4_tally 1 = .ok (.iconst 4, 1) := by decide +kernel
theorem dX4_tally_2 : decode cX4_tally 2 = .ok (.imul, 1) := by decide +kernel
theorem dX4_tally_3 : decode cX4_tally 3 = .ok (.istore_n 3, 1) := by decide +kernel
theorem dX4_tally_4 : decode cX4_tally 4 = .ok (.aload_n 0, 1) := by decide +kernel
theorem dX4_tally_5 : decode cX4_tally 5 = .ok (.getfield 9, 3) := by decide +kernel
theorem dX4_tally_8 : decode cX4_tally 8 = .ok (.iload_n 3, 1) := by decide +kernel
theorem dX4_tally_9 : decode cX4_tally 9 = .ok (.iaload, 1) := by decide +kernel
theorem dX4_tally_10 : decode cX4_tally 10 = .ok (.bipush 10, 2) := by decide +kernel
theorem dX4_tally_12 : decode cX4_tally 12 = .ok (.imul, 1) := by decide +kernel
theorem dX4_tally_13 : decode cX4_tally 13 = .ok (.aload_n 0, 1) := by decide +kernel
theorem dX4_tally_14 : decode cX4_tally 14 = .ok (.getfield 9, 3) := by decide +kernel
theorem dX4_tally_17 : decode cX4_tally 17 = .ok (.iload_n 3, 1) := by decide +kernel
theorem dX4_tally_18 : decode cX4_tally 18 = .ok (.iconst 1, 1) := by decide +kernel
theorem dX4_tally_19 : decode cX4_tally 19 = .ok (.iadd, 1) := by decide +kernel
theorem dX4_tally_20 : decode cX4_tally 20 = .ok (.iaload, 1) := by decide +kernel
theorem dX4_tally_21 : decode cX4_tally 21 = .ok (.iadd, 1) := by decide +kernel
theorem dX4_tally_22 : decode cX4_tally 22 = .ok (.istore 4, 2) := by decide +kernel
theorem dX4_tally_24 : decode cX4_tally 24 = .ok (.aload_n 0, 1) := by decide +kernel
theorem dX4_tally_25 : decode cX4_tally 25 = .ok (.getfield 9, 3) := by decide +kernel
theorem dX4_tally_28 : decode cX4_tally 28 = .ok (.iload_n 3, 1) := by decide +kernel
theorem dX4_tally_29 : decode cX4_tally 29 = .ok (.iconst 1, 1) := by decide +kernel
theorem dX4_tally_30 : decode cX4_tally 30 = .ok (.iadd, 1) := by decide +kernel
theorem dX4_tally_31 : decode cX4_tally 31 = .ok (.iaload, 1) := by decide +kernel
theorem dX4_tally_32 : decode cX4_tally 32 = .ok (.bipush 10, 2) := by decide +kernel
theorem dX4_tally_34 : decode cX4_tally 34 = .ok (.imul, 1) := by decide +kernel
theorem dX4_tally_35 : decode cX4_tally 35 = .ok (.aload_n 0, 1) := by decide +kernel
theorem dX4_tally_36 : decode cX4_tally 36 = .ok (.getfield 9, 3) := by decide +kernel
theorem dX4_tally_39 : decode cX4_tally 39 = .ok (.iload_n 3, 1) := by decide +kernel
theorem dX4_tally_40 : decode cX4_tally 40 = .ok (.iaload, 1) := by decide +kernel
theorem dX4_tally_41 : decode cX4_tally 41 = .ok (.iadd, 1) := by decide +kernel
theorem dX4_tally_42 : decode cX4_tally 42 = .ok (.istore 5, 2) := by decide +kernel
theorem dX4_tally_44 : decode cX4_tally 44 = .ok (.aload_n 0, 1) := by decide +kernel
theorem dX4_tally_45 : decode cX4_tally 45 = .ok (.getfield 9, 3) := by decide +kernel
theorem dX4_tally_48 : decode cX4_tally 48 = .ok (.iload_n 3, 1) := by decide +kernel
theorem dX4_tally_49 : decode cX4_tally 49 = .ok (.iconst 2, 1) := by decide +kernel
theorem dX4_tally_50 : decode cX4_tally 50 = .ok (.iadd, 1) := by decide +kernel
theorem dX4_tally_51 : decode cX4_tally 51 = .ok (.iaload, 1) := by decide +kernel
theorem dX4_tally_52 : decode cX4_tally 52 = .ok (.istore 6, 2) := by decide +kernel
theorem dX4_tally_54 : decode cX4_tally 54 = .ok (.aload_n 0, 1) := by decide +kernel
theorem dX4_tally_55 : decode cX4_tally 55 = .ok (.getfield 9, 3) := by decide +kernel
theorem dX4_tally_58 : decode cX4_tally 58 = .ok (.iload_n 3, 1) := by decide +kernel
theorem dX4_tally_59 : decode cX4_tally 59 = .ok (.iconst 3, 1) := by decide +kernel
theorem dX4_tally_60 : decode cX4_tally 60 = .ok (.iadd, 1) := by decide +kernel
theorem dX4_tally_61 : decode cX4_tally 61 = .ok (.iaload, 1) := by decide +kernel
theorem dX4_tally_62 : decode cX4_tally 62 = .ok (.istore 7, 2) := by decide +kernel
theorem dX4_tally_64 : decode cX4_tally 64 = .ok (.aload_n 0, 1) := by decide +kernel
theorem dX4_tally_65 : decode cX4_tally 65 = .ok (.getfield 21, 3) := by decide +kernel
theorem dX4_tally_68 : decode cX4_tally 68 = .ok (.iload 4, 2) := by decide +kernel
theorem dX4_tally_70 : decode cX4_tally 70 = .ok (.dup2, 1) := by decide +kernel
theorem dX4_tally_71 : decode cX4_tally 71 = .ok (.iaload, 1) := by decide +kernel
theorem dX4_tally_72 : decode cX4_tally 72 = .ok (.iload_n 2, 1) := by decide +kernel
theorem dX4_tally_73 : decode cX4_tally 73 = .ok (.iload 6, 2) := by decide +kernel
theorem dX4_tally_75 : decode cX4_tally 75 = .ok (.imul, 1) := by decide +kernel
theorem dX4_tally_76 : decode cX4_tally 76 = .ok (.iadd, 1) := by decide +kernel
theorem dX4_tally_77 : decode cX4_tally 77 = .ok (.iastore, 1) := by decide +kernel
theorem dX4_tally_78 : decode cX4_tally 78 = .ok (.aload_n 0, 1) := by decide +kernel
theorem dX4_tally_79 : decode cX4_tally 79 = .ok (.getfield 21, 3) := by decide +kernel
theorem dX4_tally_82 : decode cX4_tally 82 = .ok (.iload 5, 2) := by decide +kernel
theorem dX4_tally_84 : decode cX4_tally 84 = .ok (.dup2, 1) := by decide +kernel
theorem dX4_tally_85 : decode cX4_tally 85 = .ok (.iaload, 1) := by decide +kernel
theorem dX4_tally_86 : decode cX4_tally 86 = .ok (.iload_n 2, 1) := by decide +kernel
theorem dX4_tally_87 : decode cX4_tally 87 = .ok (.iload 7, 2) := by decide +kernel
theorem dX4_tally_89 : decode cX4_tally 89 = .ok (.imul, 1) := by decide +kernel
theorem dX4_tally_90 : decode cX4_tally 90 = .ok (.iadd, 1) := by decide +kernel
theorem dX4_tally_91 : decode cX4_tally 91 = .ok (.iastore, 1) := by decide +kernel
theorem dX4_tally_92 : decode cX4_tally 92 = .ok (.iload 6, 2) := by decide +kernel
theorem dX4_tally_94 : decode cX4_tally 94 = .ok (.iload 7, 2) := by decide +kernel
theorem dX4_tally_96 : decode cX4_tally 96 = .ok (.if_icmp .le 17, 3) := by decide +kernel
theorem dX4_tally_99 : decode cX4_tally 99 = .ok (.aload_n 0, 1) := by decide +kernel
theorem dX4_tally_100 : decode cX4_tally 100 = .ok (.getfield 15, 3) := by decide +kernel
theorem dX4_tally_103 : decode cX4_tally 103 = .ok (.iload 4, 2) := by decide +kernel
theorem dX4_tally_105 : decode cX4_tally 105 = .ok (.dup2, 1) := by decide +kernel
theorem dX4_tally_106 : decode cX4_tally 106 = .ok (.iaload, 1) := by decide +kernel
theorem dX4_tally_107 : decode cX4_tally 107 = .ok (.iload_n 2, 1) := by decide +kernel
theorem dX4_tally_108 : decode cX4_tally 108 = .ok (.iadd, 1) := by decide +kernel
theorem dX4_tally_109 : decode cX4_tally 109 = .ok (.iastore, 1) := by decide +kernel
theorem dX4_tally_110 : decode cX4_tally 110 = .ok (.goto 46, 3) := by decide +kernel
theorem dX4_tally_113 : decode cX4_tally 113 = .ok (.iload 6, 2) := by decide +kernel
theorem dX4_tally_115 : decode cX4_tally 115 = .ok (.iload 7, 2) := by decide +kernel
theorem dX4_tally_117 : decode cX4_tally 117 = .ok (.if_icmp .ge 17, 3) := by decide +kernel
theorem dX4_tally_120 : decode cX4_tally 120 = .ok (.aload_n 0, 1) := by decide +kernel
theorem dX4_tally_121 : decode cX4_tally 121 = .ok (.getfield 15, 3) := by decide +kernel
theorem dX4_tally_124 : decode cX4_tally 124 = .ok (.iload 5, 2) := by decide +kernel
theorem dX4_tally_126 : decode cX4_tally 126 = .ok (.dup2, 1) := by decide +kernel
theorem dX4_tally_127 : decode cX4_tally 127 = .ok (.iaload, 1) := by decide +kernel
theorem dX4_tally_128 : decode cX4_tally 128 = .ok (.iload_n 2, 1) := by decide +kernel
theorem dX4_tally_129 : decode cX4_tally 129 = .ok (.iadd, 1) := by decide +kernel
theorem dX4_tally_130 : decode cX4_tally 130 = .ok (.iastore, 1) := by decide +kernel
theorem dX4_tally_131 : decode cX4_tally 131 = .ok (.goto 25, 3) := by decide +kernel
theorem dX4_tally_134 : decode cX4_tally 134 = .ok (.aload_n 0, 1) := by decide +kernel
theorem dX4_tally_135 : decode cX4_tally 135 = .ok (.getfield 18, 3) := by decide +kernel
theorem dX4_tally_138 : decode cX4_tally 138 = .ok (.iload 4, 2) := by decide +kernel
theorem dX4_tally_140 : decode cX4_tally 140 = .ok (.dup2, 1) := by decide +kernel
theorem dX4_tally_141 : decode cX4_tally 141 = .ok (.iaload, 1) := by decide +kernel
theorem dX4_tally_142 : decode cX4_tally 142 = .ok (.iload_n 2, 1) := by decide +kernel
theorem dX4_tally_143 : decode cX4_tally 143 = .ok (.iadd, 1) := by decide +kernel
theorem dX4_tally_144 : decode cX4_tally 144 = .ok (.iastore, 1) := by decide +kernel
theorem dX4_tally_145 : decode cX4_tally 145 = .ok (.aload_n 0, 1) := by decide +kernel
theorem dX4_tally_146 : decode cX4_tally 146 = .ok (.getfield 18, 3) := by decide +kernel
theorem dX4_tally_149 : decode cX4_tally 149 = .ok (.iload 5, 2) := by decide +kernel
theorem dX4_tally_151 : decode cX4_tally 151 = .ok (.dup2, 1) := by decide +kernel
theorem dX4_tally_152 : decode cX4_tally 152 = .ok (.iaload, 1) := by decide +kernel
theorem dX4_tally_153 : decode cX4_tally 153 = .ok (.iload_n 2, 1) := by decide +kernel
theorem dX4_tally_154 : decode cX4_tally 154 = .ok (.iadd, 1) := by decide +kernel
theorem dX4_tally_155 : decode cX4_tally 155 = .ok (.iastore, 1) := by decide +kernel
theorem dX4_tally_156 : decode cX4_tally 156 = .ok (.aload_n 0, 1) := by decide +kernel
theorem dX4_tally_157 : decode cX4_tally 157 = .ok (.dup, 1) := by decide +kernel
theorem dX4_tally_158 : decode cX4_tally 158 = .ok (.getfield 28, 3) := by decide +kernel
theorem dX4_tally_161 : decode cX4_tally 161 = .ok (.iconst 1, 1) := by decide +kernel
theorem dX4_tally_162 : decode cX4_tally 162 = .ok (.iadd, 1) := by decide +kernel
theorem dX4_tally_163 : decode cX4_tally 163 = .ok (.putfield 28, 3) := by decide +kernel
theorem dX4_tally_166 : decode cX4_tally 166 = .ok (.return_, 1) := by decide +kernel
