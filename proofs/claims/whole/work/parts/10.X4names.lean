theorem dX4_init_0 : decode cX4_init 0 = .ok (.aload_n 0, 1) := by decide +kernel
theorem dX4_init_1 : decode cX4_init 1 = .ok (.invokespecial 3, 3) := by decide +kernel
theorem dX4_init_4 : decode cX4_init 4 = .ok (.aload_n 0, 1) := by decide +kernel
theorem dX4_init_5 : decode cX4_init 5 = .ok (.sipush 480, 3) := by decide +kernel
theorem dX4_init_8 : decode cX4_init 8 = .ok (.newarray .int, 2) := by decide +kernel
theorem dX4_init_10 : decode cX4_init 10 = .ok (.putfield 9, 3) := by decide +kernel
theorem dX4_init_13 : decode cX4_init 13 = .ok (.aload_n 0, 1) := by decide +kernel
theorem dX4_init_14 : decode cX4_init 14 = .ok (.bipush 100, 2) := by decide +kernel
theorem dX4_init_16 : decode cX4_init 16 = .ok (.newarray .int, 2) := by decide +kernel
theorem dX4_init_18 : decode cX4_init 18 = .ok (.putfield 15, 3) := by decide +kernel
theorem dX4_init_21 : decode cX4_init 21 = .ok (.aload_n 0, 1) := by decide +kernel
theorem dX4_init_22 : decode cX4_init 22 = .ok (.bipush 100, 2) := by decide +kernel
theorem dX4_init_24 : decode cX4_init 24 = .ok (.newarray .int, 2) := by decide +kernel
theorem dX4_init_26 : decode cX4_init 26 = .ok (.putfield 18, 3) := by decide +kernel
theorem dX4_init_29 : decode cX4_init 29 = .ok (.aload_n 0, 1) := by decide +kernel
theorem dX4_init_30 : decode cX4_init 30 = .ok (.bipush 100, 2) := by decide +kernel
theorem dX4_init_32 : decode cX4_init 32 = .ok (.newarray .int, 2) := by decide +kernel
theorem dX4_init_34 : decode cX4_init 34 = .ok (.putfield 21, 3) := by decide +kernel
theorem dX4_init_37 : decode cX4_init 37 = .ok (.aload_n 0, 1) := by decide +kernel
theorem dX4_init_38 : decode cX4_init 38 = .ok (.iconst 0, 1) := by decide +kernel
theorem dX4_init_39 : decode cX4_init 39 = .ok (.putfield 24, 3) := by decide +kernel
theorem dX4_init_42 : decode cX4_init 42 = .ok (.aload_n 0, 1) := by decide +kernel
theorem dX4_init_43 : decode cX4_init 43 = .ok (.iconst 0, 1) := by decide +kernel
theorem dX4_init_44 : decode cX4_init 44 = .ok (.putfield 28, 3) := by decide +kernel
theorem dX4_init_47 : decode cX4_init 47 = .ok (.return_, 1) := by decide +kernel
theorem dX4_count_0 : decode cX4_count 0 = .ok (.aload_n 0, 1) := by decide +kernel
theorem dX4_count_1 : decode cX4_count 1 = .ok (.getfield 24, 3) := by decide +kernel
theorem dX4_count_4 : decode cX4_count 4 = .ok (.ireturn, 1) := by decide +kernel
theorem dX4_changes_0 : decode cX4_changes 0 = .ok (.aload_n 0, 1) := by decide +kernel
theorem dX4_changes_1 : decode cX4_changes 1 = .ok (.getfield 28, 3) := by decide +kernel
theorem dX4_changes_4 : decode cX4_changes 4 = .ok (.ireturn, 1) := by decide +kernel
theorem dX4_has_0 : decode cX4_has 0 = .ok (.iload_n 1, 1) := by decide +kernel
theorem dX4_has_1 : decode cX4_has 1 = .ok (.ifCond .lt 15, 3) := by decide +kernel
theorem dX4_has_4 : decode cX4_has 4 = .ok (.iload_n 1, 1) := by decide +kernel
theorem dX4_has_5 : decode cX4_has 5 = .ok (.aload_n 0, 1) := by decide +kernel
theorem dX4_has_6 : decode cX4_has 6 = .ok (.getfield 24, 3) := by decide +kernel
theorem dX4_has_9 : decode cX4_has 9 = .ok (.if_icmp .ge 7, 3) := by decide +kernel
theorem dX4_has_12 : decode cX4_has 12 = .ok (.iconst 1, 1) := by decide +kernel
theorem dX4_has_13 : decode cX4_has 13 = .ok (.goto 4, 3) := by decide +kernel
theorem dX4_has_16 : decode cX4_has 16 = .ok (.iconst 0, 1) := by decide +kernel
theorem dX4_has_17 : decode cX4_has 17 = .ok (.ireturn, 1) := by decide +kernel
set_option maxRecDepth 20000 in
theorem ggX4_part_X4_has : GoodIn wsX4_part wsX4_has := goodIn_r _ [6, 7, 8, 9, 10, 11, 12, 13] (by decide +kernel) (by decide +kernel)
set_option maxRecDepth 20000 in
theorem gX4_part_X4_has : GoodIn wsX4_part (wsV RX4 31 RX4 yX4_has wsX4_has) := goodIn_app (goodIn_of _ (by decide +kernel)) ggX4_part_X4_has
theorem dX4_part_0 : decode cX4_part 0 = .ok (.aload_n 0, 1) := by decide +kernel
theorem dX4_part_1 : decode cX4_part 1 = .ok (.iload_n 1, 1) := by decide +kernel
theorem dX4_part_2 : decode cX4_part 2 = .ok (.invokevirtual 31, 3) := by decide +kernel
theorem dX4_part_5 : decode cX4_part 5 = .ok (.ifCond .eq 12, 3) := by decide +kernel
theorem dX4_part_8 : decode cX4_part 8 = .ok (.iload_n 2, 1) := by decide +kernel
theorem dX4_part_9 : decode cX4_part 9 = .ok (.ifCond .lt 8, 3) := by decide +kernel
theorem dX4_part_12 : decode cX4_part 12 = .ok (.iload_n 2, 1) := by decide +kernel
theorem dX4_part_13 : decode cX4_part 13 = .ok (.iconst 4, 1) := by decide +kernel
theorem dX4_part_14 : decode cX4_part 14 = .ok (.if_icmp .lt 5, 3) := by decide +kernel
theorem dX4_part_17 : decode cX4_part 17 = .ok (.iconst (-1), 1) := by decide +kernel
theorem dX4_part_18 : decode cX4_part 18 = .ok (.ireturn, 1) := by decide +kernel
theorem dX4_part_19 : decode cX4_part 19 = .ok (.aload_n 0, 1) := by decide +kernel
theorem dX4_part_20 : decode cX4_part 20 = .ok (.getfield 9, 3) := by decide +kernel
theorem dX4_part_23 : decode cX4_part 23 = .ok (.iload_n 1, 1) := by decide +kernel
theorem dX4_part_24 : decode cX4_part 24 = .ok (.iconst 4, 1) := by decide +kernel
theorem dX4_part_25 : decode cX4_part 25 = .ok (.imul, 1) := by decide +kernel
theorem dX4_part_26 : decode cX4_part 26 = .ok (.iload_n 2, 1) := by decide +kernel
theorem dX4_part_27 : decode cX4_part 27 = .ok (.iadd, 1) := by decide +kernel
theorem dX4_part_28 : decode cX4_part 28 = .ok (.iaload, 1) := by decide +kernel
theorem dX4_part_29 : decode cX4_part 29 = .ok (.ireturn, 1) := by decide +kernel
theorem dX4_wins_0 : decode cX4_wins 0 = .ok (.aload_n 0, 1) := by decide +kernel
theorem dX4_wins_1 : decode cX4_wins 1 = .ok (.getfield 15, 3) := by decide +kernel
theorem dX4_wins_4 : decode cX4_wins 4 = .ok (.iload_n 1, 1) := by decide +kernel
theorem dX4_wins_5 : decode cX4_wins 5 = .ok (.bipush 10, 2) := by decide +kernel
theorem dX4_wins_7 : decode cX4_wins 7 = .ok (.imul, 1) := by decide +kernel
theorem dX4_wins_8 : decode cX4_wins 8 = .ok (.iload_n 2, 1) := by decide +kernel
theorem dX4_wins_9 : decode cX4_wins 9 = .ok (.iadd, 1) := by decide +kernel
theorem dX4_wins_10 : decode cX4_wins 10 = .ok (.iaload, 1) := by decide +kernel
theorem dX4_wins_11 : decode cX4_wins 11 = .ok (.ireturn, 1) := by decide +kernel
theorem dX4_draws_0 : decode cX4_draws 0 = .ok (.aload_n 0, 1) := by decide +kernel
theorem dX4_draws_1 : decode cX4_draws 1 = .ok (.getfield 18, 3) := by decide +kernel
theorem dX4_draws_4 : decode cX4_draws 4 = .ok (.iload_n 1, 1) := by decide +kernel
theorem dX4_draws_5 : decode cX4_draws 5 = .ok (.bipush 10, 2) := by decide +kernel
theorem dX4_draws_7 : decode cX4_draws 7 = .ok (.imul, 1) := by decide +kernel
theorem dX4_draws_8 : decode cX4_draws 8 = .ok (.iload_n 2, 1) := by decide +kernel
theorem dX4_draws_9 : decode cX4_draws 9 = .ok (.iadd, 1) := by decide +kernel
theorem dX4_draws_10 : decode cX4_draws 10 = .ok (.iaload, 1) := by decide +kernel
theorem dX4_draws_11 : decode cX4_draws 11 = .ok (.ireturn, 1) := by decide +kernel
theorem dX4_points_0 : decode cX4_points 0 = .ok (.aload_n 0, 1) := by decide +kernel
theorem dX4_points_1 : decode cX4_points 1 = .ok (.getfield 21, 3) := by decide +kernel
theorem dX4_points_4 : decode cX4_points 4 = .ok (.iload_n 1, 1) := by decide +kernel
theorem dX4_points_5 : decode cX4_points 5 = .ok (.bipush 10, 2) := by decide +kernel
theorem dX4_points_7 : decode cX4_points 7 = .ok (.imul, 1) := by decide +kernel
theorem dX4_points_8 : decode cX4_points 8 = .ok (.iload_n 2, 1) := by decide +kernel
theorem dX4_points_9 : decode cX4_points 9 = .ok (.iadd, 1) := by decide +kernel
theorem dX4_points_10 : decode cX4_points 10 = .ok (.iaload, 1) := by decide +kernel
theorem dX4_points_11 : decode cX4_points 11 = .ok (.ireturn, 1) := by decide +kernel
set_option maxRecDepth 20000 in
theorem ggX4_times_X4_wins : GoodIn wsX4_times wsX4_wins := goodIn_r _ [5, 6, 12, 13, 14, 15, 16, 17] (by decide +kernel) (by decide +kernel)
set_option maxRecDepth 20000 in
theorem gX4_times_X4_wins : GoodIn wsX4_times (wsV RX4 35 RX4 yX4_wins wsX4_wins) := goodIn_app (goodIn_of _ (by decide +kernel)) ggX4_times_X4_wins
set_option maxRecDepth 20000 in
theorem ggX4_times_X4_draws : GoodIn wsX4_times wsX4_draws := goodIn_r _ [10, 11, 12, 13, 14, 15, 16, 17] (by decide +kernel) (by decide +kernel)
set_option maxRecDepth 20000 in
theorem gX4_times_X4_draws : GoodIn wsX4_times (wsV RX4 38 RX4 yX4_draws wsX4_draws) := goodIn_app (goodIn_of _ (by decide +kernel)) ggX4_times_X4_draws
theorem dX4_times_0 : decode cX4_times 0 = .ok (.aload_n 0, 1) := by decide +kernel
theorem dX4_times_1 : decode cX4_times 1 = .ok (.iload_n 1, 1) := by decide +kernel
theorem dX4_times_2 : decode cX4_times 2 = .ok (.iload_n 2, 1) := by decide +kernel
theorem dX4_times_3 : decode cX4_times 3 = .ok (.invokevirtual 35, 3) := by decide +kernel
theorem dX4_times_6 : decode cX4_times 6 = .ok (.aload_n 0, 1) := by decide +kernel
theorem dX4_times_7 : decode cX4_times 7 = .ok (.iload_n 1, 1) := by decide +kernel
theorem dX4_times_8 : decode cX4_times 8 = .ok (.iload_n 2, 1) := by decide +kernel
theorem dX4_times_9 : decode cX4_times 9 = .ok (.invokevirtual 38, 3) := by decide +kernel
theorem dX4_times_12 : decode cX4_times 12 = .ok (.iadd, 1) := by decide +kernel
theorem dX4_times_13 : decode cX4_times 13 = .ok (.aload_n 0, 1) := by decide +kernel
theorem dX4_times_14 : decode cX4_times 14 = .ok (.iload_n 2, 1) := by decide +kernel
theorem dX4_times_15 : decode cX4_times 15 = .ok (.iload_n 1, 1) := by decide +kernel
theorem dX4_times_16 : decode cX4_times 16 = .ok (.invokevirtual 35, 3) := by decide +kernel
theorem dX4_times_19 : decode cX4_times 19 = .ok (.iadd, 1) := by decide +kernel
theorem dX4_times_20 : decode cX4_times 20 = .ok (.ireturn, 1) := by decide +kernel
set_option maxRecDepth 20000 in
theorem ggX4_append_X4_insert : GoodIn wsX4_append wsX4_insert := goodIn_r _ [6, 1, 7, 8, 9, 10, 11, 12, 13, 14, 5, 15, 16, 17, 18, 19, 20, 21, 22, 23, 24, 25] (by decide +kernel) (by decide +kernel)
set_option maxRecDepth 20000 in
theorem gX4_append_X4_insert : GoodIn wsX4_append (wsV RX4 40 RX4 yX4_insert wsX4_insert) := goodIn_app (goodIn_of _ (by decide +kernel)) ggX4_append_X4_insert
theorem dX4_append_0 : decode cX4_append 0 = .ok (.aload_n 0, 1) := by decide +kernel
theorem dX4_append_1 : decode cX4_append 1 = .ok (.aload_n 0, 1) := by decide +kernel
theorem dX4_append_2 : decode cX4_append 2 = .ok (.getfield 24, 3) := by decide +kernel
theorem dX4_append_5 : decode cX4_append 5 = .ok (.iload_n 1, 1) := by decide +kernel
theorem dX4_append_6 : decode cX4_append 6 = .ok (.iload_n 2, 1) := by decide +kernel
theorem dX4_append_7 : decode cX4_append 7 = .ok (.iload_n 3, 1) := by decide +kernel
theorem dX4_append_8 : decode cX4_append 8 = .ok (.iload 4, 2) := by decide +kernel
theorem dX4_append_10 : decode cX4_append 10 = .ok (.invokevirtual 40, 3) := by decide +kernel
theorem dX4_append_13 : decode cX4_append 13 = .ok (.return_, 1) := by decide +kernel
set_option maxRecDepth 20000 in
theorem ggX4_insert_X4_tally : GoodIn wsX4_insert wsX4_tally := goodIn_r _ [11, 2, 12, 13, 14, 15, 16, 17, 18, 19, 20, 21] (by decide +kernel) (by decide +kernel)
set_option maxRecDepth 20000 in
theorem gX4_insert_X4_tally : GoodIn wsX4_insert (wsV RX4 50 RX4 yX4_tally wsX4_tally) := goodIn_app (goodIn_of _ (by decide +kernel)) ggX4_insert_X4_tally
theorem dX4_insert_0 : decode cX4_insert 0 = .ok (.aload_n 0, 1) := by decide +kernel
theorem dX4_insert_1 : decode cX4_insert 1 = .ok (.getfield 24, 3) := by decide +kernel
theorem dX4_insert_4 : decode cX4_insert 4 = .ok (.bipush 120, 2) := by decide +kernel
theorem dX4_insert_6 : decode cX4_insert 6 = .ok (.if_icmp .ge 15, 3) := by decide +kernel
theorem dX4_insert_9 : decode cX4_insert 9 = .ok (.iload_n 1, 1) := by decide +kernel
theorem dX4_insert_10 : decode cX4_insert 10 = .ok (.ifCond .lt 11, 3) := by decide +kernel
theorem dX4_insert_13 : decode cX4_insert 13 = .ok (.iload_n 1, 1) := by decide +kernel
theorem dX4_insert_14 : decode cX4_insert 14 = .ok (.aload_n 0, 1) := by decide +kernel
theorem dX4_insert_15 : decode cX4_insert 15 = .ok (.getfield 24, 3) := by decide +kernel
theorem dX4_insert_18 : decode cX4_insert 18 = .ok (.if_icmp .le 4, 3) := by decide +kernel
theorem dX4_insert_21 : decode cX4_insert 21 = .ok (.return_, 1) := by decide +kernel
theorem dX4_insert_22 : decode cX4_insert 22 = .ok (.iload_n 1, 1) := by decide +kernel
theorem dX4_insert_23 : decode cX4_insert 23 = .ok (.iconst 4, 1) := by decide +kernel
theorem dX4_insert_24 : decode cX4_insert 24 = .ok (.imul, 1) := by decide +kernel
theorem dX4_insert_25 : decode cX4_insert 25 = .ok (.istore 6, 2) := by decide +kernel
theorem dX4_insert_27 : decode cX4_insert 27 = .ok (.aload_n 0, 1) := by decide +kernel
theorem dX4_insert_28 : decode cX4_insert 28 = .ok (.getfield 9, 3) := by decide +kernel
theorem dX4_insert_31 : decode cX4_insert 31 = .ok (.iload 6, 2) := by decide +kernel
theorem dX4_insert_33 : decode cX4_insert 33 = .ok (.aload_n 0, 1) := by decide +kernel
theorem dX4_insert_34 : decode cX4_insert 34 = .ok (.getfield 9, 3) := by decide +kernel
theorem dX4_insert_37 : decode cX4_insert 37 = .ok (.iload 6, 2) := by decide +kernel
theorem dX4_insert_39 : decode cX4_insert 39 = .ok (.iconst 4, 1) := by decide +kernel
theorem dX4_insert_40 : decode cX4_insert 40 = .ok (.iadd, 1) := by decide +kernel
theorem dX4_insert_41 : decode cX4_insert 41 = .ok (.aload_n 0, 1) := by decide +kernel
theorem dX4_insert_42 : decode cX4_insert 42 = .ok (.getfield 24, 3) := by decide +kernel
theorem dX4_insert_45 : decode cX4_insert 45 = .ok (.iload_n 1, 1) := by decide +kernel
theorem dX4_insert_46 : decode cX4_insert 46 = .ok (.isub, 1) := by decide +kernel
theorem dX4_insert_47 : decode cX4_insert 47 = .ok (.iconst 4, 1) := by decide +kernel
theorem dX4_insert_48 : decode cX4_insert 48 = .ok (.imul, 1) := by decide +kernel
theorem dX4_insert_49 : decode cX4_insert 49 = .ok (.invokestatic 44, 3) := by decide +kernel
theorem dX4_insert_52 : decode cX4_insert 52 = .ok (.aload_n 0, 1) := by decide +kernel
theorem dX4_insert_53 : decode cX4_insert 53 = .ok (.getfield 9, 3) := by decide +kernel
theorem dX4_insert_56 : decode cX4_insert 56 = .ok (.iload 6, 2) := by decide +kernel
theorem dX4_insert_58 : decode cX4_insert 58 = .ok (.iload_n 2, 1) := by decide +kernel
theorem dX4_insert_59 : decode cX4_insert 59 = .ok (.iastore, 1) := by decide +kernel
theorem dX4_insert_60 : decode cX4_insert 60 = .ok (.aload_n 0, 1) := by decide +kernel
theorem dX4_insert_61 : decode cX4_insert 61 = .ok (.getfield 9, 3) := by decide +kernel
theorem dX4_insert_64 : decode cX4_insert 64 = .ok (.iload 6, 2) := by decide +kernel
theorem dX4_insert_66 : decode cX4_insert 66 = .ok (.iconst 1, 1) := by decide +kernel
theorem dX4_insert_67 : decode cX4_insert 67 = .ok (.iadd, 1) := by decide +kernel
theorem dX4_insert_68 : decode cX4_insert 68 = .ok (.iload_n 3, 1) := by decide +kernel
theorem dX4_insert_69 : decode cX4_insert 69 = .ok (.iastore, 1) := by decide +kernel
theorem dX4_insert_70 : decode cX4_insert 70 = .ok (.aload_n 0, 1) := by decide +kernel
theorem dX4_insert_71 : decode cX4_insert 71 = .ok (.getfield 9, 3) := by decide +kernel
theorem dX4_insert_74 : decode cX4_insert 74 = .ok (.iload 6, 2) := by decide +kernel
theorem dX4_insert_76 : decode cX4_insert 76 = .ok (.iconst 2, 1) := by decide +kernel
theorem dX4_insert_77 : decode cX4_insert 77 = .ok (.iadd, 1) := by decide +kernel
theorem dX4_insert_78 : decode cX4_insert 78 = .ok (.iload 4, 2) := by decide +kernel
theorem dX4_insert_80 : decode cX4_insert 80 = .ok (.iastore, 1) := by decide +kernel
theorem dX4_insert_81 : decode cX4_insert 81 = .ok (.aload_n 0, 1) := by decide +kernel
theorem dX4_insert_82 : decode cX4_insert 82 = .ok (.getfield 9, 3) := by decide +kernel
theorem dX4_insert_85 : decode cX4_insert 85 = .ok (.iload 6, 2) := by decide +kernel
theorem dX4_insert_87 : decode cX4_insert 87 = .ok (.iconst 3, 1) := by decide +kernel
theorem dX4_insert_88 : decode cX4_insert 88 = .ok (.iadd, 1) := by decide +kernel
theorem dX4_insert_89 : decode cX4_insert 89 = .ok (.iload 5, 2) := by decide +kernel
theorem dX4_insert_91 : decode cX4_insert 91 = .ok (.iastore, 1) := by decide +kernel
theorem dX4_insert_92 : decode cX4_insert 92 = .ok (.aload_n 0, 1) := by decide +kernel
theorem dX4_insert_93 : decode cX4_insert 93 = .ok (.dup, 1) := by decide +kernel
theorem dX4_insert_94 : decode cX4_insert 94 = .ok (.getfield 24, 3) := by decide +kernel
theorem dX4_insert_97 : decode cX4_insert 97 = .ok (.iconst 1, 1) := by decide +kernel
theorem dX4_insert_98 : decode cX4_insert 98 = .ok (.iadd, 1) := by decide +kernel
theorem dX4_insert_99 : decode cX4_insert 99 = .ok (.putfield 24, 3) := by decide +kernel
theorem dX4_insert_102 : decode cX4_insert 102 = .ok (.aload_n 0, 1) := by decide +kernel
theorem dX4_insert_103 : decode cX4_insert 103 = .ok (.iload_n 1, 1) := by decide +kernel
theorem dX4_insert_104 : decode cX4_insert 104 = .ok (.iconst 1, 1) := by decide +kernel
theorem dX4_insert_105 : decode cX4_insert 105 = .ok (.invokevirtual 50, 3) := by decide +kernel
theorem dX4_insert_108 : decode cX4_insert 108 = .ok (.return_, 1) := by decide +kernel
set_option maxRecDepth 20000 in
theorem ggX4_remove_X4_has : GoodIn wsX4_remove wsX4_has := goodIn_r _ [11, 2, 20, 21, 22, 23, 24, 25] (by decide +kernel) (by decide +kernel)
set_option maxRecDepth 20000 in
theorem gX4_remove_X4_has : GoodIn wsX4_remove (wsV RX4 31 RX4 yX4_has wsX4_has) := goodIn_app (goodIn_of _ (by decide +kernel)) ggX4_remove_X4_has
set_option maxRecDepth 20000 in
theorem ggX4_remove_X4_tally : GoodIn wsX4_remove wsX4_tally := goodIn_r _ [15, 1, 16, 17, 18, 19, 20, 21, 22, 23, 24, 25] (by decide +kernel) (by decide +kernel)
set_option maxRecDepth 20000 in
theorem gX4_remove_X4_tally : GoodIn wsX4_remove (wsV RX4 50 RX4 yX4_tally wsX4_tally) := goodIn_app (goodIn_of _ (by decide +kernel)) ggX4_remove_X4_tally
theorem dX4_remove_0 : decode cX4_remove 0 = .ok (.aload_n 0, 1) := by decide +kernel
theorem dX4_remove_1 : decode cX4_remove 1 = .ok (.iload_n 1, 1) := by decide +kernel
theorem dX4_remove_2 : decode cX4_remove 2 = .ok (.invokevirtual 31, 3) := by decide +kernel
theorem dX4_remove_5 : decode cX4_remove 5 = .ok (.ifCond .ne 4, 3) := by decide +kernel
theorem dX4_remove_8 : decode cX4_remove 8 = .ok (.return_, 1) := by decide +kernel
theorem dX4_remove_9 : decode cX4_remove 9 = .ok (.aload_n 0, 1) := by decide +kernel
theorem dX4_remove_10 : decode cX4_remove 10 = .ok (.iload_n 1, 1) := by decide +kernel
theorem dX4_remove_11 : decode cX4_remove 11 = .ok (.iconst (-1), 1) := by decide +kernel
theorem dX4_remove_12 : decode cX4_remove 12 = .ok (.invokevirtual 50, 3) := by decide +kernel
theorem dX4_remove_15 : decode cX4_remove 15 = .ok (.iload_n 1, 1) := by decide +kernel
theorem dX4_remove_16 : decode cX4_remove 16 = .ok (.iconst 4, 1) := by decide +kernel
theorem dX4_remove_17 : decode cX4_remove 17 = .ok (.imul, 1) := by decide +kernel
theorem dX4_remove_18 : decode cX4_remove 18 = .ok (.istore_n 2, 1) := by decide +kernel
theorem dX4_remove_19 : decode cX4_remove 19 = .ok (.aload_n 0, 1) := by decide +kernel
theorem dX4_remove_20 : decode cX4_remove 20 = .ok (.getfield 9, 3) := by decide +kernel
theorem dX4_remove_23 : decode cX4_remove 23 = .ok (.iload_n 2, 1) := by decide +kernel
theorem dX4_remove_24 : decode cX4_remove 24 = .ok (.iconst 4, 1) := by decide +kernel
theorem dX4_remove_25 : decode cX4_remove 25 = .ok (.iadd, 1) := by decide +kernel
theorem dX4_remove_26 : decode cX4_remove 26 = .ok (.aload_n 0, 1) := by decide +kernel
theorem dX4_remove_27 : decode cX4_remove 27 = .ok (.getfield 9, 3) := by decide +kernel
theorem dX4_remove_30 : decode cX4_remove 30 = .ok (.iload_n 2, 1) := by decide +kernel
theorem dX4_remove_31 : decode cX4_remove 31 = .ok (.aload_n 0, 1) := by decide +kernel
theorem dX4_remove_32 : decode cX4_remove 32 = .ok (.getfield 24, 3) := by decide +kernel
theorem dX4_remove_35 : decode cX4_remove 35 = .ok (.iload_n 1, 1) := by decide +kernel
theorem dX4_remove_36 : decode cX4_remove 36 = .ok (.isub, 1) := by decide +kernel
theorem dX4_remove_37 : decode cX4_remove 37 = .ok (.iconst 1, 1) := by decide +kernel
theorem dX4_remove_38 : decode cX4_remove 38 = .ok (.isub, 1) := by decide +kernel
theorem dX4_remove_39 : decode cX4_remove 39 = .ok (.iconst 4, 1) := by decide +kernel
theorem dX4_remove_40 : decode cX4_remove 40 = .ok (.imul, 1) := by decide +kernel
theorem dX4_remove_41 : decode cX4_remove 41 = .ok (.invokestatic 44, 3) := by decide +kernel
theorem dX4_remove_44 : decode cX4_remove 44 = .ok (.aload_n 0, 1) := by decide +kernel
theorem dX4_remove_45 : decode cX4_remove 45 = .ok (.dup, 1) := by decide +kernel
theorem dX4_remove_46 : decode cX4_remove 46 = .ok (.getfield 24, 3) := by decide +kernel
theorem dX4_remove_49 : decode cX4_remove 49 = .ok (.iconst 1, 1) := by decide +kernel
theorem dX4_remove_50 : decode cX4_remove 50 = .ok (.isub, 1) := by decide +kernel
theorem dX4_remove_51 : decode cX4_remove 51 = .ok (.putfield 24, 3) := by decide +kernel
theorem dX4_remove_54 : decode cX4_remove 54 = .ok (.return_, 1) := by decide +kernel
set_option maxRecDepth 20000 in
theorem ggX4_removeLast_X4_remove : GoodIn wsX4_removeLast wsX4_remove := goodIn_r _ [6, 7, 1, 8, 9, 10, 11, 12, 13, 14, 5, 15, 16, 17, 18, 19, 20, 21, 22, 23, 24, 25, 26, 27, 28, 29] (by decide +kernel) (by decide +kernel)
set_option maxRecDepth 20000 in
theorem gX4_removeLast_X4_remove : GoodIn wsX4_removeLast (wsV RX4 54 RX4 yX4_remove wsX4_remove) := goodIn_app (goodIn_of _ (by decide +kernel)) ggX4_removeLast_X4_remove
theorem dX4_removeLast_0 : decode cX4_removeLast 0 = .ok (.iconst 0, 1) := by decide +kernel
theorem dX4_removeLast_1 : decode cX4_removeLast 1 = .ok (.istore_n 2, 1) := by decide +kernel
theorem dX4_removeLast_2 : decode cX4_removeLast 2 = .ok (.iload_n 2, 1) := by decide +kernel
theorem dX4_removeLast_3 : decode cX4_removeLast 3 = .ok (.iload_n 1, 1) := by decide +kernel
theorem dX4_removeLast_4 : decode cX4_removeLast 4 = .ok (.if_icmp .ge 19, 3) := by decide +kernel
theorem dX4_removeLast_7 : decode cX4_removeLast 7 = .ok (.aload_n 0, 1) := by decide +kernel
theorem dX4_removeLast_8 : decode cX4_removeLast 8 = .ok (.aload_n 0, 1) := by decide +kernel
theorem dX4_removeLast_9 : decode cX4_removeLast 9 = .ok (.getfield 24, 3) := by decide +kernel
theorem dX4_removeLast_12 : decode cX4_removeLast 12 = .ok (.iconst 1, 1) := by decide +kernel
theorem dX4_removeLast_13 : decode cX4_removeLast 13 = .ok (.isub, 1) := by decide +kernel
theorem dX4_removeLast_14 : decode cX4_removeLast 14 = .ok (.invokevirtual 54, 3) := by decide +kernel
theorem dX4_removeLast_17 : decode cX4_removeLast 17 = .ok (.iinc 2 1, 3) := by decide +kernel
theorem dX4_removeLast_20 : decode cX4_removeLast 20 = .ok (.goto (-18), 3) := by decide +kernel
theorem dX4_removeLast_23 : decode cX4_removeLast 23 = .ok (.return_, 1) := by decide +kernel
set_option maxRecDepth 20000 in
theorem ggX4_joinAll_X9_isIn : GoodIn wsX4_joinAll wsX9_isIn := goodIn_r _ [3] (by decide +kernel) (by decide +kernel)
set_option maxRecDepth 20000 in
theorem gX4_joinAll_X9_isIn_n58 : GoodIn wsX4_joinAll (wsX9_isIn) := ggX4_joinAll_X9_isIn
set_option maxRecDepth 20000 in
theorem ggX4_joinAll_X4_foesOf : GoodIn wsX4_joinAll wsX4_foesOf := goodIn_r _ [8, 9, 10, 11, 7, 12, 13, 14, 15, 16, 17, 18, 19, 20, 21, 22, 25, 26, 27, 28, 29, 30] (by decide +kernel) (by decide +kernel)
set_option maxRecDepth 20000 in
theorem gX4_joinAll_X4_foesOf : GoodIn wsX4_joinAll (wsV RX4 62 RX4 yX4_foesOf wsX4_foesOf) := goodIn_app (goodIn_of _ (by decide +kernel)) ggX4_joinAll_X4_foesOf
set_option maxRecDepth 20000 in
theorem ggX4_joinAll_X9_everyone : GoodIn wsX4_joinAll wsX9_everyone := goodIn_r _ [24] (by decide +kernel) (by decide +kernel)
set_option maxRecDepth 20000 in
theorem gX4_joinAll_X9_everyone_n65 : GoodIn wsX4_joinAll (wsX9_everyone) := ggX4_joinAll_X9_everyone
theorem dX4_joinAll_0 : decode cX4_joinAll 0 = .ok (.iconst 1, 1) := by decide +kernel
theorem dX4_joinAll_1 : decode cX4_joinAll 1 = .ok (.istore_n 2, 1) := by decide +kernel
theorem dX4_joinAll_2 : decode cX4_joinAll 2 = .ok (.iconst 0, 1) := by decide +kernel
theorem dX4_joinAll_3 : decode cX4_joinAll 3 = .ok (.istore_n 3, 1) := by decide +kernel
theorem dX4_joinAll_4 : decode cX4_joinAll 4 = .ok (.iload_n 3, 1) := by decide +kernel
theorem dX4_joinAll_5 : decode cX4_joinAll 5 = .ok (.iload_n 1, 1) := by decide +kernel
theorem dX4_joinAll_6 : decode cX4_joinAll 6 = .ok (.if_icmp .ge 43, 3) := by decide +kernel
theorem dX4_joinAll_9 : decode cX4_joinAll 9 = .ok (.iconst 0, 1) := by decide +kernel
theorem dX4_joinAll_10 : decode cX4_joinAll 10 = .ok (.istore 4, 2) := by decide +kernel
theorem dX4_joinAll_12 : decode cX4_joinAll 12 = .ok (.iload 4, 2) := by decide +kernel
theorem dX4_joinAll_14 : decode cX4_joinAll 14 = .ok (.iload_n 1, 1) := by decide +kernel
theorem dX4_joinAll_15 : decode cX4_joinAll 15 = .ok (.if_icmp .ge 28, 3) := by decide +kernel
theorem dX4_joinAll_18 : decode cX4_joinAll 18 = .ok (.iload_n 2, 1) := by decide +kernel
theorem dX4_joinAll_19 : decode cX4_joinAll 19 = .ok (.iload 4, 2) := by decide +kernel
theorem dX4_joinAll_21 : decode cX4_joinAll 21 = .ok (.invokestatic 58, 3) := by decide +kernel
theorem dX4_joinAll_24 : decode cX4_joinAll 24 = .ok (.ifCond .eq 13, 3) := by decide +kernel
theorem dX4_joinAll_27 : decode cX4_joinAll 27 = .ok (.iload_n 2, 1) := by decide +kernel
theorem dX4_joinAll_28 : decode cX4_joinAll 28 = .ok (.aload_n 0, 1) := by decide +kernel
theorem dX4_joinAll_29 : decode cX4_joinAll 29 = .ok (.iload 4, 2) := by decide +kernel
theorem dX4_joinAll_31 : decode cX4_joinAll 31 = .ok (.iload_n 1, 1) := by decide +kernel
theorem dX4_joinAll_32 : decode cX4_joinAll 32 = .ok (.invokevirtual 62, 3) := by decide +kernel
theorem dX4_joinAll_35 : decode cX4_joinAll 35 = .ok (.ior, 1) := by decide +kernel
theorem dX4_joinAll_36 : decode cX4_joinAll 36 = .ok (.istore_n 2, 1) := by decide +kernel
theorem dX4_joinAll_37 : decode cX4_joinAll 37 = .ok (.iinc 4 1, 3) := by decide +kernel
theorem dX4_joinAll_40 : decode cX4_joinAll 40 = .ok (.goto (-28), 3) := by decide +kernel
theorem dX4_joinAll_43 : decode cX4_joinAll 43 = .ok (.iinc 3 1, 3) := by decide +kernel
theorem dX4_joinAll_46 : decode cX4_joinAll 46 = .ok (.goto (-42), 3) := by decide +kernel
theorem dX4_joinAll_49 : decode cX4_joinAll 49 = .ok (.iload_n 2, 1) := by decide +kernel
theorem dX4_joinAll_50 : decode cX4_joinAll 50 = .ok (.iload_n 1, 1) := by decide +kernel
theorem dX4_joinAll_51 : decode cX4_joinAll 51 = .ok (.invokestatic 65, 3) := by decide +kernel
theorem dX4_joinAll_54 : decode cX4_joinAll 54 = .ok (.if_icmp .ne 7, 3) := by decide +kernel
theorem dX4_joinAll_57 : decode cX4_joinAll 57 = .ok (.iconst 1, 1) := by decide +kernel
theorem dX4_joinAll_58 : decode cX4_joinAll 58 = .ok (.goto 4, 3) := by decide +kernel
theorem dX4_joinAll_61 : decode cX4_joinAll 61 = .ok (.iconst 0, 1) := by decide +kernel
theorem dX4_joinAll_62 : decode cX4_joinAll 62 = .ok (.ireturn, 1) := by decide +kernel
set_option maxRecDepth 20000 in
theorem ggX4_foesOf_X4_times : GoodIn wsX4_foesOf wsX4_times := goodIn_r _ [5, 6, 7, 8, 4, 9, 10, 11, 12, 13, 14, 15, 16, 17, 18, 19, 20, 21] (by decide +kernel) (by decide +kernel)
set_option maxRecDepth 20000 in
theorem gX4_foesOf_X4_times : GoodIn wsX4_foesOf (wsV RX4 69 RX4 yX4_times wsX4_times) := goodIn_app (goodIn_of _ (by decide +kernel)) ggX4_foesOf_X4_times
theorem dX4_foesOf_0 : decode cX4_foesOf 0 = .ok (.iconst 0, 1) := by decide +kernel
theorem dX4_foesOf_1 : decode cX4_foesOf 1 = .ok (.istore_n 3, 1) := by decide +kernel
theorem dX4_foesOf_2 : decode cX4_foesOf 2 = .ok (.iconst 0, 1) := by decide +kernel
theorem dX4_foesOf_3 : decode cX4_foesOf 3 = .ok (.istore 4, 2) := by decide +kernel
theorem dX4_foesOf_5 : decode cX4_foesOf 5 = .ok (.iload 4, 2) := by decide +kernel
theorem dX4_foesOf_7 : decode cX4_foesOf 7 = .ok (.iload_n 2, 1) := by decide +kernel
theorem dX4_foesOf_8 : decode cX4_foesOf 8 = .ok (.if_icmp .ge 26, 3) := by decide +kernel
theorem dX4_foesOf_11 : decode cX4_foesOf 11 = .ok (.aload_n 0, 1) := by decide +kernel
theorem dX4_foesOf_12 : decode cX4_foesOf 12 = .ok (.iload_n 1, 1) := by decide +kernel
theorem dX4_foesOf_13 : decode cX4_foesOf 13 = .ok (.iload 4, 2) := by decide +kernel
theorem dX4_foesOf_15 : decode cX4_foesOf 15 = .ok (.invokevirtual 69, 3) := by decide +kernel
theorem dX4_foesOf_18 : decode cX4_foesOf 18 = .ok (.ifCond .le 10, 3) := by decide +kernel
theorem dX4_foesOf_21 : decode cX4_foesOf 21 = .ok (.iload_n 3, 1) := by decide +kernel
theorem dX4_foesOf_22 : decode cX4_foesOf 22 = .ok (.iconst 1, 1) := by decide +kernel
theorem dX4_foesOf_23 : decode cX4_foesOf 23 = .ok (.iload 4, 2) := by decide +kernel
theorem dX4_foesOf_25 : decode cX4_foesOf 25 = .ok (.ishl, 1) := by decide +kernel
theorem dX4_foesOf_26 : decode cX4_foesOf 26 = .ok (.ior, 1) := by decide +kernel
theorem dX4_foesOf_27 : decode cX4_foesOf 27 = .ok (.istore_n 3, 1) := by decide +kernel
theorem dX4_foesOf_28 : decode cX4_foesOf 28 = .ok (.iinc 4 1, 3) := by decide +kernel
theorem dX4_foesOf_31 : decode cX4_foesOf 31 = .ok (.goto (-26), 3) := by decide +kernel
theorem dX4_foesOf_34 : decode cX4_foesOf 34 = .ok (.iload_n 3, 1) := by decide +kernel
theorem dX4_foesOf_35 : decode cX4_foesOf 35 = .ok (.ireturn, 1) := by decide +kernel
theorem dX4_tally_0 : decode cX4_tally 0 = .ok (.iload_n 1, 1) := by decide +kernel
theorem dX4_tally_1 : decode cX4_tally 1 = .ok (.iconst 4, 1) := by decide +kernel
theorem dX4_tally_2 : decode cX4_tally 2 = .ok (.imul, 1) := by decide +kernel
theorem dX4_tally_3 : decode cX4_tally 3 = .ok (.istore_n 3, 1) := by decide +kernel
theorem dX4_tally_4 : decode cX4_tally 4 = .ok (.aload_n 0, 1) := by decide +kernel
theorem dX4_tally_5 : decode cX4_tally 5 = .ok (.getfield 9, 3) := by decide +kernel
theorem dX4_tally_8 : decode cX4_tally 8 = .ok (.iload_n 3, 1) := by decide +kernel
theorem dX4_tally_9 : decode cX4_tally 9 = .ok (.iaload, 1) := by decide +kernel
theorem dX4_tally_10 : decode cX4_tally 10 = .ok (.bipush 10, 2) := by decide +kernel
theorem dX4_tally_12 : decode cX4_tally 12 = .ok (.imul, 1) := by decide +kernel
theorem dX4_tally_13 : decode cX4_tally 13 = .ok (.aload_n 0, 1) := by decide +kernel
theorem dX4_tally_14 : decode cX4_tally 14 = .ok (.getfield 9, 3) := by decide +kernel
theorem dX4_tally_17 : decode cX4_tally 17 = .ok (.iload_n 3, 1) := by decide +kernel
theorem dX4_tally_18 : decode cX4_tally 18 = .ok (.iconst 1, 1) := by decide +kernel
theorem dX4_tally_19 : decode cX4_tally 19 = .ok (.iadd, 1) := by decide +kernel
theorem dX4_tally_20 : decode cX4_tally 20 = .ok (.iaload, 1) := by decide +kernel
theorem dX4_tally_21 : decode cX4_tally 21 = .ok (.iadd, 1) := by decide +kernel
theorem dX4_tally_22 : decode cX4_tally 22 = .ok (.istore 4, 2) := by decide +kernel
theorem dX4_tally_24 : decode cX4_tally 24 = .ok (.aload_n 0, 1) := by decide +kernel
theorem dX4_tally_25 : decode cX4_tally 25 = .ok (.getfield 9, 3) := by decide +kernel
theorem dX4_tally_28 : decode cX4_tally 28 = .ok (.iload_n 3, 1) := by decide +kernel
theorem dX4_tally_29 : decode cX4_tally 29 = .ok (.iconst 1, 1) := by decide +kernel
theorem dX4_tally_30 : decode cX4_tally 30 = .ok (.iadd, 1) := by decide +kernel
theorem dX4_tally_31 : decode cX4_tally 31 = .ok (.iaload, 1) := by decide +kernel
theorem dX4_tally_32 : decode cX4_tally 32 = .ok (.bipush 10, 2) := by decide +kernel
theorem dX4_tally_34 : decode cX4_tally 34 = .ok (.imul, 1) := by decide +kernel
theorem dX4_tally_35 : decode cX4_tally 35 = .ok (.aload_n 0, 1) := by decide +kernel
theorem dX4_tally_36 : decode cX4_tally 36 = .ok (.getfield 9, 3) := by decide +kernel
theorem dX4_tally_39 : decode cX4_tally 39 = .ok (.iload_n 3, 1) := by decide +kernel
theorem dX4_tally_40 : decode cX4_tally 40 = .ok (.iaload, 1) := by decide +kernel
theorem dX4_tally_41 : decode cX4_tally 41 = .ok (.iadd, 1) := by decide +kernel
theorem dX4_tally_42 : decode cX4_tally 42 = .ok (.istore 5, 2) := by decide +kernel
theorem dX4_tally_44 : decode cX4_tally 44 = .ok (.aload_n 0, 1) := by decide +kernel
theorem dX4_tally_45 : decode cX4_tally 45 = .ok (.getfield 9, 3) := by decide +kernel
theorem dX4_tally_48 : decode cX4_tally 48 = .ok (.iload_n 3, 1) := by decide +kernel
theorem dX4_tally_49 : decode cX4_tally 49 = .ok (.iconst 2, 1) := by decide +kernel
theorem dX4_tally_50 : decode cX4_tally 50 = .ok (.iadd, 1) := by decide +kernel
theorem dX4_tally_51 : decode cX4_tally 51 = .ok (.iaload, 1) := by decide +kernel
theorem dX4_tally_52 : decode cX4_tally 52 = .ok (.istore 6, 2) := by decide +kernel
theorem dX4_tally_54 : decode cX4_tally 54 = .ok (.aload_n 0, 1) := by decide +kernel
theorem dX4_tally_55 : decode cX4_tally 55 = .ok (.getfield 9, 3) := by decide +kernel
theorem dX4_tally_58 : decode cX4_tally 58 = .ok (.iload_n 3, 1) := by decide +kernel
theorem dX4_tally_59 : decode cX4_tally 59 = .ok (.iconst 3, 1) := by decide +kernel
theorem dX4_tally_60 : decode cX4_tally 60 = .ok (.iadd, 1) := by decide +kernel
theorem dX4_tally_61 : decode cX4_tally 61 = .ok (.iaload, 1) := by decide +kernel
theorem dX4_tally_62 : decode cX4_tally 62 = .ok (.istore 7, 2) := by decide +kernel
theorem dX4_tally_64 : decode cX4_tally 64 = .ok (.aload_n 0, 1) := by decide +kernel
theorem dX4_tally_65 : decode cX4_tally 65 = .ok (.getfield 21, 3) := by decide +kernel
theorem dX4_tally_68 : decode cX4_tally 68 = .ok (.iload 4, 2) := by decide +kernel
theorem dX4_tally_70 : decode cX4_tally 70 = .ok (.dup2, 1) := by decide +kernel
theorem dX4_tally_71 : decode cX4_tally 71 = .ok (.iaload, 1) := by decide +kernel
theorem dX4_tally_72 : decode cX4_tally 72 = .ok (.iload_n 2, 1) := by decide +kernel
theorem dX4_tally_73 : decode cX4_tally 73 = .ok (.iload 6, 2) := by decide +kernel
theorem dX4_tally_75 : decode cX4_tally 75 = .ok (.imul, 1) := by decide +kernel
theorem dX4_tally_76 : decode cX4_tally 76 = .ok (.iadd, 1) := by decide +kernel
theorem dX4_tally_77 : decode cX4_tally 77 = .ok (.iastore, 1) := by decide +kernel
theorem dX4_tally_78 : decode cX4_tally 78 = .ok (.aload_n 0, 1) := by decide +kernel
theorem dX4_tally_79 : decode cX4_tally 79 = .ok (.getfield 21, 3) := by decide +kernel
theorem dX4_tally_82 : decode cX4_tally 82 = .ok (.iload 5, 2) := by decide +kernel
theorem dX4_tally_84 : decode cX4_tally 84 = .ok (.dup2, 1) := by decide +kernel
theorem dX4_tally_85 : decode cX4_tally 85 = .ok (.iaload, 1) := by decide +kernel
theorem dX4_tally_86 : decode cX4_tally 86 = .ok (.iload_n 2, 1) := by decide +kernel
theorem dX4_tally_87 : decode cX4_tally 87 = .ok (.iload 7, 2) := by decide +kernel
theorem dX4_tally_89 : decode cX4_tally 89 = .ok (.imul, 1) := by decide +kernel
theorem dX4_tally_90 : decode cX4_tally 90 = .ok (.iadd, 1) := by decide +kernel
theorem dX4_tally_91 : decode cX4_tally 91 = .ok (.iastore, 1) := by decide +kernel
theorem dX4_tally_92 : decode cX4_tally 92 = .ok (.iload 6, 2) := by decide +kernel
theorem dX4_tally_94 : decode cX4_tally 94 = .ok (.iload 7, 2) := by decide +kernel
theorem dX4_tally_96 : decode cX4_tally 96 = .ok (.if_icmp .le 17, 3) := by decide +kernel
theorem dX4_tally_99 : decode cX4_tally 99 = .ok (.aload_n 0, 1) := by decide +kernel
theorem dX4_tally_100 : decode cX4_tally 100 = .ok (.getfield 15, 3) := by decide +kernel
theorem dX4_tally_103 : decode cX4_tally 103 = .ok (.iload 4, 2) := by decide +kernel
theorem dX4_tally_105 : decode cX4_tally 105 = .ok (.dup2, 1) := by decide +kernel
theorem dX4_tally_106 : decode cX4_tally 106 = .ok (.iaload, 1) := by decide +kernel
theorem dX4_tally_107 : decode cX4_tally 107 = .ok (.iload_n 2, 1) := by decide +kernel
theorem dX4_tally_108 : decode cX4_tally 108 = .ok (.iadd, 1) := by decide +kernel
theorem dX4_tally_109 : decode cX4_tally 109 = .ok (.iastore, 1) := by decide +kernel
theorem dX4_tally_110 : decode cX4_tally 110 = .ok (.goto 46, 3) := by decide +kernel
theorem dX4_tally_113 : decode cX4_tally 113 = .ok (.iload 6, 2) := by decide +kernel
theorem dX4_tally_115 : decode cX4_tally 115 = .ok (.iload 7, 2) := by decide +kernel
theorem dX4_tally_117 : decode cX4_tally 117 = .ok (.if_icmp .ge 17, 3) := by decide +kernel
theorem dX4_tally_120 : decode cX4_tally 120 = .ok (.aload_n 0, 1) := by decide +kernel
theorem dX4_tally_121 : decode cX4_tally 121 = .ok (.getfield 15, 3) := by decide +kernel
theorem dX4_tally_124 : decode cX4_tally 124 = .ok (.iload 5, 2) := by decide +kernel
theorem dX4_tally_126 : decode cX4_tally 126 = .ok (.dup2, 1) := by decide +kernel
theorem dX4_tally_127 : decode cX4_tally 127 = .ok (.iaload, 1) := by decide +kernel
theorem dX4_tally_128 : decode cX4_tally 128 = .ok (.iload_n 2, 1) := by decide +kernel
theorem dX4_tally_129 : decode cX4_tally 129 = .ok (.iadd, 1) := by decide +kernel
theorem dX4_tally_130 : decode cX4_tally 130 = .ok (.iastore, 1) := by decide +kernel
theorem dX4_tally_131 : decode cX4_tally 131 = .ok (.goto 25, 3) := by decide +kernel
theorem dX4_tally_134 : decode cX4_tally 134 = .ok (.aload_n 0, 1) := by decide +kernel
theorem dX4_tally_135 : decode cX4_tally 135 = .ok (.getfield 18, 3) := by decide +kernel
theorem dX4_tally_138 : decode cX4_tally 138 = .ok (.iload 4, 2) := by decide +kernel
theorem dX4_tally_140 : decode cX4_tally 140 = .ok (.dup2, 1) := by decide +kernel
theorem dX4_tally_141 : decode cX4_tally 141 = .ok (.iaload, 1) := by decide +kernel
theorem dX4_tally_142 : decode cX4_tally 142 = .ok (.iload_n 2, 1) := by decide +kernel
theorem dX4_tally_143 : decode cX4_tally 143 = .ok (.iadd, 1) := by decide +kernel
theorem dX4_tally_144 : decode cX4_tally 144 = .ok (.iastore, 1) := by decide +kernel
theorem dX4_tally_145 : decode cX4_tally 145 = .ok (.aload_n 0, 1) := by decide +kernel
theorem dX4_tally_146 : decode cX4_tally 146 = .ok (.getfield 18, 3) := by decide +kernel
theorem dX4_tally_149 : decode cX4_tally 149 = .ok (.iload 5, 2) := by decide +kernel
theorem dX4_tally_151 : decode cX4_tally 151 = .ok (.dup2, 1) := by decide +kernel
theorem dX4_tally_152 : decode cX4_tally 152 = .ok (.iaload, 1) := by decide +kernel
theorem dX4_tally_153 : decode cX4_tally 153 = .ok (.iload_n 2, 1) := by decide +kernel
theorem dX4_tally_154 : decode cX4_tally 154 = .ok (.iadd, 1) := by decide +kernel
theorem dX4_tally_155 : decode cX4_tally 155 = .ok (.iastore, 1) := by decide +kernel
theorem dX4_tally_156 : decode cX4_tally 156 = .ok (.aload_n 0, 1) := by decide +kernel
theorem dX4_tally_157 : decode cX4_tally 157 = .ok (.dup, 1) := by decide +kernel
theorem dX4_tally_158 : decode cX4_tally 158 = .ok (.getfield 28, 3) := by decide +kernel
theorem dX4_tally_161 : decode cX4_tally 161 = .ok (.iconst 1, 1) := by decide +kernel
theorem dX4_tally_162 : decode cX4_tally 162 = .ok (.iadd, 1) := by decide +kernel
theorem dX4_tally_163 : decode cX4_tally 163 = .ok (.putfield 28, 3) := by decide +kernel
theorem dX4_tally_166 : decode cX4_tally 166 = .ok (.return_, 1) := by decide +kernel
