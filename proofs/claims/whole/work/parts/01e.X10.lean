theorem dX10_init_0 : decode cX10_init 0 = .ok (.aload_n 0, 1) := by decide +kernel
theorem dX10_init_1 : decode cX10_init 1 = .ok (.invokespecial 1, 3) := by decide +kernel
theorem dX10_init_4 : decode cX10_init 4 = .ok (.aload_n 0, 1) := by decide +kernel
theorem dX10_init_5 : decode cX10_init 5 = .ok (.sipush 600, 3) := by decide +kernel
theorem dX10_init_8 : decode cX10_init 8 = .ok (.newarray .int, 2) := by decide +kernel
theorem dX10_init_10 : decode cX10_init 10 = .ok (.putfield 7, 3) := by decide +kernel
theorem dX10_init_13 : decode cX10_init 13 = .ok (.aload_n 0, 1) := by decide +kernel
theorem dX10_init_14 : decode cX10_init 14 = .ok (.sipush 24000, 3) := by decide +kernel
theorem dX10_init_17 : decode cX10_init 17 = .ok (.newarray .int, 2) := by decide +kernel
theorem dX10_init_19 : decode cX10_init 19 = .ok (.putfield 13, 3) := by decide +kernel
theorem dX10_init_22 : decode cX10_init 22 = .ok (.aload_n 0, 1) := by decide +kernel
theorem dX10_init_23 : decode cX10_init 23 = .ok (.sipush 480, 3) := by decide +kernel
theorem dX10_init_26 : decode cX10_init 26 = .ok (.newarray .int, 2) := by decide +kernel
theorem dX10_init_28 : decode cX10_init 28 = .ok (.putfield 16, 3) := by decide +kernel
theorem dX10_init_31 : decode cX10_init 31 = .ok (.aload_n 0, 1) := by decide +kernel
theorem dX10_init_32 : decode cX10_init 32 = .ok (.bipush 50, 2) := by decide +kernel
theorem dX10_init_34 : decode cX10_init 34 = .ok (.newarray .int, 2) := by decide +kernel
theorem dX10_init_36 : decode cX10_init 36 = .ok (.putfield 19, 3) := by decide +kernel
theorem dX10_init_39 : decode cX10_init 39 = .ok (.aload_n 0, 1) := by decide +kernel
theorem dX10_init_40 : decode cX10_init 40 = .ok (.bipush 10, 2) := by decide +kernel
theorem dX10_init_42 : decode cX10_init 42 = .ok (.newarray .int, 2) := by decide +kernel
theorem dX10_init_44 : decode cX10_init 44 = .ok (.putfield 22, 3) := by decide +kernel
theorem dX10_init_47 : decode cX10_init 47 = .ok (.aload_n 0, 1) := by decide +kernel
theorem dX10_init_48 : decode cX10_init 48 = .ok (.bipush 10, 2) := by decide +kernel
theorem dX10_init_50 : decode cX10_init 50 = .ok (.newarray .int, 2) := by decide +kernel
theorem dX10_init_52 : decode cX10_init 52 = .ok (.putfield 25, 3) := by decide +kernel
theorem dX10_init_55 : decode cX10_init 55 = .ok (.aload_n 0, 1) := by decide +kernel
theorem dX10_init_56 : decode cX10_init 56 = .ok (.bipush 10, 2) := by decide +kernel
theorem dX10_init_58 : decode cX10_init 58 = .ok (.newarray .int, 2) := by decide +kernel
theorem dX10_init_60 : decode cX10_init 60 = .ok (.putfield 28, 3) := by decide +kernel
theorem dX10_init_63 : decode cX10_init 63 = .ok (.aload_n 0, 1) := by decide +kernel
theorem dX10_init_64 : decode cX10_init 64 = .ok (.bipush 36, 2) := by decide +kernel
theorem dX10_init_66 : decode cX10_init 66 = .ok (.newarray .long, 2) := by decide +kernel
theorem dX10_init_68 : decode cX10_init 68 = .ok (.putfield 31, 3) := by decide +kernel
theorem dX10_init_71 : decode cX10_init 71 = .ok (.aload_n 0, 1) := by decide +kernel
theorem dX10_init_72 : decode cX10_init 72 = .ok (.bipush 6, 2) := by decide +kernel
theorem dX10_init_74 : decode cX10_init 74 = .ok (.newarray .long, 2) := by decide +kernel
theorem dX10_init_76 : decode cX10_init 76 = .ok (.putfield 35, 3) := by decide +kernel
theorem dX10_init_79 : decode cX10_init 79 = .ok (.aload_n 0, 1) := by decide +kernel
theorem dX10_init_80 : decode cX10_init 80 = .ok (.bipush 100, 2) := by decide +kernel
theorem dX10_init_82 : decode cX10_init 82 = .ok (.newarray .int, 2) := by decide +kernel
theorem dX10_init_84 : decode cX10_init 84 = .ok (.putfield 38, 3) := by decide +kernel
theorem dX10_init_87 : decode cX10_init 87 = .ok (.aload_n 0, 1) := by decide +kernel
theorem dX10_init_88 : decode cX10_init 88 = .ok (.sipush 1024, 3) := by decide +kernel
theorem dX10_init_91 : decode cX10_init 91 = .ok (.newarray .int, 2) := by decide +kernel
theorem dX10_init_93 : decode cX10_init 93 = .ok (.putfield 41, 3) := by decide +kernel
theorem dX10_init_96 : decode cX10_init 96 = .ok (.aload_n 0, 1) := by decide +kernel
theorem dX10_init_97 : decode cX10_init 97 = .ok (.sipush 1024, 3) := by decide +kernel
theorem dX10_init_100 : decode cX10_init 100 = .ok (.newarray .int, 2) := by decide +kernel
theorem dX10_init_102 : decode cX10_init 102 = .ok (.putfield 44, 3) := by decide +kernel
theorem dX10_init_105 : decode cX10_init 105 = .ok (.aload_n 0, 1) := by decide +kernel
theorem dX10_init_106 : decode cX10_init 106 = .ok (.bipush 10, 2) := by decide +kernel
theorem dX10_init_108 : decode cX10_init 108 = .ok (.newarray .int, 2) := by decide +kernel
theorem dX10_init_110 : decode cX10_init 110 = .ok (.putfield 47, 3) := by decide +kernel
theorem dX10_init_113 : decode cX10_init 113 = .ok (.aload_n 0, 1) := by decide +kernel
theorem dX10_init_114 : decode cX10_init 114 = .ok (.bipush 10, 2) := by decide +kernel
theorem dX10_init_116 : decode cX10_init 116 = .ok (.newarray .int, 2) := by decide +kernel
theorem dX10_init_118 : decode cX10_init 118 = .ok (.putfield 50, 3) := by decide +kernel
theorem dX10_init_121 : decode cX10_init 121 = .ok (.aload_n 0, 1) := by decide +kernel
theorem dX10_init_122 : decode cX10_init 122 = .ok (.sipush 10240, 3) := by decide +kernel
theorem dX10_init_125 : decode cX10_init 125 = .ok (.newarray .int, 2) := by decide +kernel
theorem dX10_init_127 : decode cX10_init 127 = .ok (.putfield 53, 3) := by decide +kernel
theorem dX10_init_130 : decode cX10_init 130 = .ok (.aload_n 0, 1) := by decide +kernel
theorem dX10_init_131 : decode cX10_init 131 = .ok (.getfield 7, 3) := by decide +kernel
theorem dX10_init_134 : decode cX10_init 134 = .ok (.iconst 0, 1) := by decide +kernel
theorem dX10_init_135 : decode cX10_init 135 = .ok (.iconst 1, 1) := by decide +kernel
theorem dX10_init_136 : decode cX10_init 136 = .ok (.iastore, 1) := by decide +kernel
theorem dX10_init_137 : decode cX10_init 137 = .ok (.aload_n 0, 1) := by decide +kernel
theorem dX10_init_138 : decode cX10_init 138 = .ok (.getfield 7, 3) := by decide +kernel
theorem dX10_init_141 : decode cX10_init 141 = .ok (.iconst 4, 1) := by decide +kernel
theorem dX10_init_142 : decode cX10_init 142 = .ok (.iconst 2, 1) := by decide +kernel
theorem dX10_init_143 : decode cX10_init 143 = .ok (.iastore, 1) := by decide +kernel
theorem dX10_init_144 : decode cX10_init 144 = .ok (.aload_n 0, 1) := by decide +kernel
theorem dX10_init_145 : decode cX10_init 145 = .ok (.getfield 7, 3) := by decide +kernel
theorem dX10_init_148 : decode cX10_init 148 = .ok (.iconst 5, 1) := by decide +kernel
theorem dX10_init_149 : decode cX10_init 149 = .ok (.iconst 1, 1) := by decide +kernel
theorem dX10_init_150 : decode cX10_init 150 = .ok (.iastore, 1) := by decide +kernel
theorem dX10_init_151 : decode cX10_init 151 = .ok (.return_, 1) := by decide +kernel
theorem dX10_n_0 : decode cX10_n 0 = .ok (.aload_n 0, 1) := by decide +kernel
theorem dX10_n_1 : decode cX10_n 1 = .ok (.getfield 7, 3) := by decide +kernel
theorem dX10_n_4 : decode cX10_n 4 = .ok (.iconst 0, 1) := by decide +kernel
theorem dX10_n_5 : decode cX10_n 5 = .ok (.iaload, 1) := by decide +kernel
theorem dX10_n_6 : decode cX10_n 6 = .ok (.ireturn, 1) := by decide +kernel
set_option maxRecDepth 20000 in
theorem ggX10_isPlayer_X10_n : GoodIn wsX10_isPlayer wsX10_n := goodIn_r _ [5, 6, 7, 8, 9, 10, 11, 12, 13, 14, 15, 16, 17, 18, 19, 20, 21, 22, 23, 24] (by decide +kernel) (by decide +kernel)
set_option maxRecDepth 20000 in
theorem gX10_isPlayer_X10_n : GoodIn wsX10_isPlayer (wsV RX10 56 RX10 yX10_n wsX10_n) := goodIn_app (goodIn_of _ (by decide +kernel)) ggX10_isPlayer_X10_n
theorem dX10_isPlayer_0 : decode cX10_isPlayer 0 = .ok (.iload_n 1, 1) := by decide +kernel
theorem dX10_isPlayer_1 : decode cX10_isPlayer 1 = .ok (.ifCond .lt 15, 3) := by decide +kernel
theorem dX10_isPlayer_4 : decode cX10_isPlayer 4 = .ok (.iload_n 1, 1) := by decide +kernel
theorem dX10_isPlayer_5 : decode cX10_isPlayer 5 = .ok (.aload_n 0, 1) := by decide +kernel
theorem dX10_isPlayer_6 : decode cX10_isPlayer 6 = .ok (.invokevirtual 56, 3) := by decide +kernel
theorem dX10_isPlayer_9 : decode cX10_isPlayer 9 = .ok (.if_icmp .ge 7, 3) := by decide +kernel
theorem dX10_isPlayer_12 : decode cX10_isPlayer 12 = .ok (.iconst 1, 1) := by decide +kernel
theorem dX10_isPlayer_13 : decode cX10_isPlayer 13 = .ok (.goto 4, 3) := by decide +kernel
theorem dX10_isPlayer_16 : decode cX10_isPlayer 16 = .ok (.iconst 0, 1) := by decide +kernel
theorem dX10_isPlayer_17 : decode cX10_isPlayer 17 = .ok (.ireturn, 1) := by decide +kernel
theorem dX10_act_0 : decode cX10_act 0 = .ok (.aload_n 0, 1) := by decide +kernel
theorem dX10_act_1 : decode cX10_act 1 = .ok (.aload_n 0, 1) := by decide +kernel
theorem dX10_act_2 : decode cX10_act 2 = .ok (.getfield 60, 3) := by decide +kernel
theorem dX10_act_5 : decode cX10_act 5 = .ok (.iconst 1, 1) := by decide +kernel
theorem dX10_act_6 : decode cX10_act 6 = .ok (.iadd, 1) := by decide +kernel
theorem dX10_act_7 : decode cX10_act 7 = .ok (.bipush 40, 2) := by decide +kernel
theorem dX10_act_9 : decode cX10_act 9 = .ok (.irem, 1) := by decide +kernel
theorem dX10_act_10 : decode cX10_act 10 = .ok (.putfield 60, 3) := by decide +kernel
theorem dX10_act_13 : decode cX10_act 13 = .ok (.iconst 0, 1) := by decide +kernel
theorem dX10_act_14 : decode cX10_act 14 = .ok (.istore_n 1, 1) := by decide +kernel
theorem dX10_act_15 : decode cX10_act 15 = .ok (.iload_n 1, 1) := by decide +kernel
theorem dX10_act_16 : decode cX10_act 16 = .ok (.sipush 600, 3) := by decide +kernel
theorem dX10_act_19 : decode cX10_act 19 = .ok (.if_icmp .ge 30, 3) := by decide +kernel
theorem dX10_act_22 : decode cX10_act 22 = .ok (.aload_n 0, 1) := by decide +kernel
theorem dX10_act_23 : decode cX10_act 23 = .ok (.getfield 13, 3) := by decide +kernel
theorem dX10_act_26 : decode cX10_act 26 = .ok (.sipush 600, 3) := by decide +kernel
theorem dX10_act_29 : decode cX10_act 29 = .ok (.aload_n 0, 1) := by decide +kernel
theorem dX10_act_30 : decode cX10_act 30 = .ok (.getfield 60, 3) := by decide +kernel
theorem dX10_act_33 : decode cX10_act 33 = .ok (.imul, 1) := by decide +kernel
theorem dX10_act_34 : decode cX10_act 34 = .ok (.iload_n 1, 1) := by decide +kernel
theorem dX10_act_35 : decode cX10_act 35 = .ok (.iadd, 1) := by decide +kernel
theorem dX10_act_36 : decode cX10_act 36 = .ok (.aload_n 0, 1) := by decide +kernel
theorem dX10_act_37 : decode cX10_act 37 = .ok (.getfield 7, 3) := by decide +kernel
theorem dX10_act_40 : decode cX10_act 40 = .ok (.iload_n 1, 1) := by decide +kernel
theorem dX10_act_41 : decode cX10_act 41 = .ok (.iaload, 1) := by decide +kernel
theorem dX10_act_42 : decode cX10_act 42 = .ok (.iastore, 1) := by decide +kernel
theorem dX10_act_43 : decode cX10_act 43 = .ok (.iinc 1 1, 3) := by decide +kernel
theorem dX10_act_46 : decode cX10_act 46 = .ok (.goto (-31), 3) := by decide +kernel
theorem dX10_act_49 : decode cX10_act 49 = .ok (.aload_n 0, 1) := by decide +kernel
theorem dX10_act_50 : decode cX10_act 50 = .ok (.getfield 64, 3) := by decide +kernel
theorem dX10_act_53 : decode cX10_act 53 = .ok (.bipush 40, 2) := by decide +kernel
theorem dX10_act_55 : decode cX10_act 55 = .ok (.if_icmp .ge 13, 3) := by decide +kernel
theorem dX10_act_58 : decode cX10_act 58 = .ok (.aload_n 0, 1) := by decide +kernel
theorem dX10_act_59 : decode cX10_act 59 = .ok (.dup, 1) := by decide +kernel
theorem dX10_act_60 : decode cX10_act 60 = .ok (.getfield 64, 3) := by decide +kernel
theorem dX10_act_63 : decode cX10_act 63 = .ok (.iconst 1, 1) := by decide +kernel
theorem dX10_act_64 : decode cX10_act 64 = .ok (.iadd, 1) := by decide +kernel
theorem dX10_act_65 : decode cX10_act 65 = .ok (.putfield 64, 3) := by decide +kernel
theorem dX10_act_68 : decode cX10_act 68 = .ok (.return_, 1) := by decide +kernel
theorem dX10_undo_0 : decode cX10_undo 0 = .ok (.iload_n 1, 1) := by decide +kernel
theorem dX10_undo_1 : decode cX10_undo 1 = .ok (.ifCond .lt 11, 3) := by decide +kernel
theorem dX10_undo_4 : decode cX10_undo 4 = .ok (.iload_n 1, 1) := by decide +kernel
theorem dX10_undo_5 : decode cX10_undo 5 = .ok (.aload_n 0, 1) := by decide +kernel
theorem dX10_undo_6 : decode cX10_undo 6 = .ok (.getfield 64, 3) := by decide +kernel
theorem dX10_undo_9 : decode cX10_undo 9 = .ok (.if_icmp .le 5, 3) := by decide +kernel
theorem dX10_undo_12 : decode cX10_undo 12 = .ok (.iconst (-1), 1) := by decide +kernel
theorem dX10_undo_13 : decode cX10_undo 13 = .ok (.ireturn, 1) := by decide +kernel
theorem dX10_undo_14 : decode cX10_undo 14 = .ok (.iconst 0, 1) := by decide +kernel
theorem dX10_undo_15 : decode cX10_undo 15 = .ok (.istore_n 2, 1) := by decide +kernel
theorem dX10_undo_16 : decode cX10_undo 16 = .ok (.iload_n 2, 1) := by decide +kernel
theorem dX10_undo_17 : decode cX10_undo 17 = .ok (.iload_n 1, 1) := by decide +kernel
theorem dX10_undo_18 : decode cX10_undo 18 = .ok (.if_icmp .ge 71, 3) := by decide +kernel
theorem dX10_undo_21 : decode cX10_undo 21 = .ok (.iconst 0, 1) := by decide +kernel
theorem dX10_undo_22 : decode cX10_undo 22 = .ok (.istore_n 3, 1) := by decide +kernel
theorem dX10_undo_23 : decode cX10_undo 23 = .ok (.iload_n 3, 1) := by decide +kernel
theorem dX10_undo_24 : decode cX10_undo 24 = .ok (.sipush 600, 3) := by decide +kernel
theorem dX10_undo_27 : decode cX10_undo 27 = .ok (.if_icmp .ge 30, 3) := by decide +kernel
theorem dX10_undo_30 : decode cX10_undo 30 = .ok (.aload_n 0, 1) := by decide +kernel
theorem dX10_undo_31 : decode cX10_undo 31 = .ok (.getfield 7, 3) := by decide +kernel
theorem dX10_undo_34 : decode cX10_undo 34 = .ok (.iload_n 3, 1) := by decide +kernel
theorem dX10_undo_35 : decode cX10_undo 35 = .ok (.aload_n 0, 1) := by decide +kernel
theorem dX10_undo_36 : decode cX10_undo 36 = .ok (.getfield 13, 3) := by decide +kernel
theorem dX10_undo_39 : decode cX10_undo 39 = .ok (.sipush 600, 3) := by decide +kernel
theorem dX10_undo_42 : decode cX10_undo 42 = .ok (.aload_n 0, 1) := by decide +kernel
theorem dX10_undo_43 : decode cX10_undo 43 = .ok (.getfield 60, 3) := by decide +kernel
theorem dX10_undo_46 : decode cX10_undo 46 = .ok (.imul, 1) := by decide +kernel
theorem dX10_undo_47 : decode cX10_undo 47 = .ok (.iload_n 3, 1) := by decide +kernel
theorem dX10_undo_48 : decode cX10_undo 48 = .ok (.iadd, 1) := by decide +kernel
theorem dX10_undo_49 : decode cX10_undo 49 = .ok (.iaload, 1) := by decide +kernel
theorem dX10_undo_50 : decode cX10_undo 50 = .ok (.iastore, 1) := by decide +kernel
theorem dX10_undo_51 : decode cX10_undo 51 = .ok (.iinc 3 1, 3) := by decide +kernel
theorem dX10_undo_54 : decode cX10_undo 54 = .ok (.goto (-31), 3) := by decide +kernel
theorem dX10_undo_57 : decode cX10_undo 57 = .ok (.aload_n 0, 1) := by decide +kernel
theorem dX10_undo_58 : decode cX10_undo 58 = .ok (.aload_n 0, 1) := by decide +kernel
theorem dX10_undo_59 : decode cX10_undo 59 = .ok (.getfield 60, 3) := by decide +kernel
theorem dX10_undo_62 : decode cX10_undo 62 = .ok (.bipush 40, 2) := by decide +kernel
theorem dX10_undo_64 : decode cX10_undo 64 = .ok (.iadd, 1) := by decide +kernel
theorem dX10_undo_65 : decode cX10_undo 65 = .ok (.iconst 1, 1) := by decide +kernel
theorem dX10_undo_66 : decode cX10_undo 66 = .ok (.isub, 1) := by decide +kernel
theorem dX10_undo_67 : decode cX10_undo 67 = .ok (.bipush 40, 2) := by decide +kernel
theorem dX10_undo_69 : decode cX10_undo 69 = .ok (.irem, 1) := by decide +kernel
theorem dX10_undo_70 : decode cX10_undo 70 = .ok (.putfield 60, 3) := by decide +kernel
theorem dX10_undo_73 : decode cX10_undo 73 = .ok (.aload_n 0, 1) := by decide +kernel
theorem dX10_undo_74 : decode cX10_undo 74 = .ok (.dup, 1) := by decide +kernel
theorem dX10_undo_75 : decode cX10_undo 75 = .ok (.getfield 64, 3) := by decide +kernel
theorem dX10_undo_78 : decode cX10_undo 78 = .ok (.iconst 1, 1) := by decide +kernel
theorem dX10_undo_79 : decode cX10_undo 79 = .ok (.isub, 1) := by decide +kernel
theorem dX10_undo_80 : decode cX10_undo 80 = .ok (.putfield 64, 3) := by decide +kernel
theorem dX10_undo_83 : decode cX10_undo 83 = .ok (.iinc 2 1, 3) := by decide +kernel
theorem dX10_undo_86 : decode cX10_undo 86 = .ok (.goto (-70), 3) := by decide +kernel
theorem dX10_undo_89 : decode cX10_undo 89 = .ok (.iload_n 1, 1) := by decide +kernel
theorem dX10_undo_90 : decode cX10_undo 90 = .ok (.ireturn, 1) := by decide +kernel
set_option maxRecDepth 20000 in
theorem ggX10_player_X10_n : GoodIn wsX10_player wsX10_n := goodIn_r _ [6, 1, 14, 15, 16, 17, 18, 19, 20, 21, 22, 23, 24, 25, 26, 27, 28, 29, 30, 31] (by decide +kernel) (by decide +kernel)
set_option maxRecDepth 20000 in
theorem gX10_player_X10_n : GoodIn wsX10_player (wsV RX10 56 RX10 yX10_n wsX10_n) := goodIn_app (goodIn_of _ (by decide +kernel)) ggX10_player_X10_n
set_option maxRecDepth 20000 in
theorem ggX10_player_X10_act : GoodIn wsX10_player wsX10_act := goodIn_r _ [10, 11, 12, 1, 13, 14, 15, 16, 17, 18, 19, 20, 21, 22, 23, 24, 25, 26, 27, 28, 29, 30, 31] (by decide +kernel) (by decide +kernel)
set_option maxRecDepth 20000 in
theorem gX10_player_X10_act : GoodIn wsX10_player (wsV RX10 67 RX10 yX10_act wsX10_act) := goodIn_app (goodIn_of _ (by decide +kernel)) ggX10_player_X10_act
theorem dX10_player_0 : decode cX10_player 0 = .ok (.aload_n 0, 1) := by decide +kernel
theorem dX10_player_1 : decode cX10_player 1 = .ok (.invokevirtual 56, 3) := by decide +kernel
theorem dX10_player_4 : decode cX10_player 4 = .ok (.bipush 10, 2) := by decide +kernel
theorem dX10_player_6 : decode cX10_player 6 = .ok (.if_icmp .ne 5, 3) := by decide +kernel
theorem dX10_player_9 : decode cX10_player 9 = .ok (.iconst (-1), 1) := by decide +kernel
theorem dX10_player_10 : decode cX10_player 10 = .ok (.ireturn, 1) := by decide +kernel
theorem dX10_player_11 : decode cX10_player 11 = .ok (.aload_n 0, 1) := by decide +kernel
theorem dX10_player_12 : decode cX10_player 12 = .ok (.invokevirtual 67, 3) := by decide +kernel
theorem dX10_player_15 : decode cX10_player 15 = .ok (.aload_n 0, 1) := by decide +kernel
theorem dX10_player_16 : decode cX10_player 16 = .ok (.getfield 7, 3) := by decide +kernel
theorem dX10_player_19 : decode cX10_player 19 = .ok (.iconst 0, 1) := by decide +kernel
theorem dX10_player_20 : decode cX10_player 20 = .ok (.dup2, 1) := by decide +kernel
theorem dX10_player_21 : decode cX10_player 21 = .ok (.iaload, 1) := by decide +kernel
theorem dX10_player_22 : decode cX10_player 22 = .ok (.iconst 1, 1) := by decide +kernel
theorem dX10_player_23 : decode cX10_player 23 = .ok (.iadd, 1) := by decide +kernel
theorem dX10_player_24 : decode cX10_player 24 = .ok (.iastore, 1) := by decide +kernel
theorem dX10_player_25 : decode cX10_player 25 = .ok (.aload_n 0, 1) := by decide +kernel
theorem dX10_player_26 : decode cX10_player 26 = .ok (.invokevirtual 56, 3) := by decide +kernel
theorem dX10_player_29 : decode cX10_player 29 = .ok (.iconst 1, 1) := by decide +kernel
theorem dX10_player_30 : decode cX10_player 30 = .ok (.isub, 1) := by decide +kernel
theorem dX10_player_31 : decode cX10_player 31 = .ok (.ireturn, 1) := by decide +kernel
set_option maxRecDepth 20000 in
theorem ggX10_canMeet_X10_isPlayer : GoodIn wsX10_canMeet wsX10_isPlayer := goodIn_r _ [6, 7, 8, 9, 5, 10, 1, 11, 12, 13, 14, 15, 16, 17, 18, 19, 20, 21, 22, 23, 24, 25, 26, 27, 28] (by decide +kernel) (by decide +kernel)
set_option maxRecDepth 20000 in
theorem gX10_canMeet_X10_isPlayer : GoodIn wsX10_canMeet (wsV RX10 70 RX10 yX10_isPlayer wsX10_isPlayer) := goodIn_app (goodIn_of _ (by decide +kernel)) ggX10_canMeet_X10_isPlayer
theorem dX10_canMeet_0 : decode cX10_canMeet 0 = .ok (.aload_n 0, 1) := by decide +kernel
theorem dX10_canMeet_1 : decode cX10_canMeet 1 = .ok (.getfield 7, 3) := by decide +kernel
theorem dX10_canMeet_4 : decode cX10_canMeet 4 = .ok (.iconst 1, 1) := by decide +kernel
theorem dX10_canMeet_5 : decode cX10_canMeet 5 = .ok (.iaload, 1) := by decide +kernel
theorem dX10_canMeet_6 : decode cX10_canMeet 6 = .ok (.bipush 120, 2) := by decide +kernel
theorem dX10_canMeet_8 : decode cX10_canMeet 8 = .ok (.if_icmp .ge 50, 3) := by decide +kernel
theorem dX10_canMeet_11 : decode cX10_canMeet 11 = .ok (.aload_n 0, 1) := by decide +kernel
theorem dX10_canMeet_12 : decode cX10_canMeet 12 = .ok (.iload_n 1, 1) := by decide +kernel
theorem dX10_canMeet_13 : decode cX10_canMeet 13 = .ok (.invokevirtual 70, 3) := by decide +kernel
theorem dX10_canMeet_16 : decode cX10_canMeet 16 = .ok (.ifCond .eq 42, 3) := by decide +kernel
theorem dX10_canMeet_19 : decode cX10_canMeet 19 = .ok (.aload_n 0, 1) := by decide +kernel
theorem dX10_canMeet_20 : decode cX10_canMeet 20 = .ok (.iload_n 2, 1) := by decide +kernel
theorem dX10_canMeet_21 : decode cX10_canMeet 21 = .ok (.invokevirtual 70, 3) := by decide +kernel
theorem dX10_canMeet_24 : decode cX10_canMeet 24 = .ok (.ifCond .eq 34, 3) := by decide +kernel
theorem dX10_canMeet_27 : decode cX10_canMeet 27 = .ok (.iload_n 1, 1) := by decide +kernel
theorem dX10_canMeet_28 : decode cX10_canMeet 28 = .ok (.iload_n 2, 1) := by decide +kernel
theorem dX10_canMeet_29 : decode cX10_canMeet 29 = .ok (.if_icmp .eq 29, 3) := by decide +kernel
theorem dX10_canMeet_32 : decode cX10_canMeet 32 = .ok (.iload_n 3, 1) := by decide +kernel
theorem dX10_canMeet_33 : decode cX10_canMeet 33 = .ok (.ifCond .lt 25, 3) := by decide +kernel
theorem dX10_canMeet_36 : decode cX10_canMeet 36 = .ok (.iload_n 3, 1) := by decide +kernel
theorem dX10_canMeet_37 : decode cX10_canMeet 37 = .ok (.bipush 99, 2) := by decide +kernel
theorem dX10_canMeet_39 : decode cX10_canMeet 39 = .ok (.if_icmp .gt 19, 3) := by decide +kernel
theorem dX10_canMeet_42 : decode cX10_canMeet 42 = .ok (.iload 4, 2) := by decide +kernel
theorem dX10_canMeet_44 : decode cX10_canMeet 44 = .ok (.ifCond .lt 14, 3) := by decide +kernel
theorem dX10_canMeet_47 : decode cX10_canMeet 47 = .ok (.iload 4, 2) := by decide +kernel
theorem dX10_canMeet_49 : decode cX10_canMeet 49 = .ok (.bipush 99, 2) := by decide +kernel
theorem dX10_canMeet_51 : decode cX10_canMeet 51 = .ok (.if_icmp .gt 7, 3) := by decide +kernel
theorem dX10_canMeet_54 : decode cX10_canMeet 54 = .ok (.iconst 1, 1) := by decide +kernel
theorem dX10_canMeet_55 : decode cX10_canMeet 55 = .ok (.goto 4, 3) := by decide +kernel
theorem dX10_canMeet_58 : decode cX10_canMeet 58 = .ok (.iconst 0, 1) := by decide +kernel
theorem dX10_canMeet_59 : decode cX10_canMeet 59 = .ok (.ireturn, 1) := by decide +kernel
theorem dX10_put_0 : decode cX10_put 0 = .ok (.bipush 11, 2) := by decide +kernel
theorem dX10_put_2 : decode cX10_put 2 = .ok (.iconst 4, 1) := by decide +kernel
theorem dX10_put_3 : decode cX10_put 3 = .ok (.aload_n 0, 1) := by decide +kernel
theorem dX10_put_4 : decode cX10_put 4 = .ok (.getfield 7, 3) := by decide +kernel
theorem dX10_put_7 : decode cX10_put 7 = .ok (.iconst 1, 1) := by decide +kernel
theorem dX10_put_8 : decode cX10_put 8 = .ok (.iaload, 1) := by decide +kernel
theorem dX10_put_9 : decode cX10_put 9 = .ok (.imul, 1) := by decide +kernel
theorem dX10_put_10 : decode cX10_put 10 = .ok (.iadd, 1) := by decide +kernel
theorem dX10_put_11 : decode cX10_put 11 = .ok (.istore 5, 2) := by decide +kernel
theorem dX10_put_13 : decode cX10_put 13 = .ok (.aload_n 0, 1) := by decide +kernel
theorem dX10_put_14 : decode cX10_put 14 = .ok (.getfield 7, 3) := by decide +kernel
theorem dX10_put_17 : decode cX10_put 17 = .ok (.iload 5, 2) := by decide +kernel
theorem dX10_put_19 : decode cX10_put 19 = .ok (.iload_n 1, 1) := by decide +kernel
theorem dX10_put_20 : decode cX10_put 20 = .ok (.iastore, 1) := by decide +kernel
theorem dX10_put_21 : decode cX10_put 21 = .ok (.aload_n 0, 1) := by decide +kernel
theorem dX10_put_22 : decode cX10_put 22 = .ok (.getfield 7, 3) := by decide +kernel
theorem dX10_put_25 : decode cX10_put 25 = .ok (.iload 5, 2) := by decide +kernel
theorem dX10_put_27 : decode cX10_put 27 = .ok (.iconst 1, 1) := by decide +kernel
theorem dX10_put_28 : decode cX10_put 28 = .ok (.iadd, 1) := by decide +kernel
theorem dX10_put_29 : decode cX10_put 29 = .ok (.iload_n 2, 1) := by decide +kernel
theorem dX10_put_30 : decode cX10_put 30 = .ok (.iastore, 1) := by decide +kernel
theorem dX10_put_31 : decode cX10_put 31 = .ok (.aload_n 0, 1) := by decide +kernel
theorem dX10_put_32 : decode cX10_put 32 = .ok (.getfield 7, 3) := by decide +kernel
theorem dX10_put_35 : decode cX10_put 35 = .ok (.iload 5, 2) := by decide +kernel
theorem dX10_put_37 : decode cX10_put 37 = .ok (.iconst 2, 1) := by decide +kernel
theorem dX10_put_38 : decode cX10_put 38 = .ok (.iadd, 1) := by decide +kernel
theorem dX10_put_39 : decode cX10_put 39 = .ok (.iload_n 3, 1) := by decide +kernel
theorem dX10_put_40 : decode cX10_put 40 = .ok (.iastore, 1) := by decide +kernel
theorem dX10_put_41 : decode cX10_put 41 = .ok (.aload_n 0, 1) := by decide +kernel
theorem dX10_put_42 : decode cX10_put 42 = .ok (.getfield 7, 3) := by decide +kernel
theorem dX10_put_45 : decode cX10_put 45 = .ok (.iload 5, 2) := by decide +kernel
theorem dX10_put_47 : decode cX10_put 47 = .ok (.iconst 3, 1) := by decide +kernel
theorem dX10_put_48 : decode cX10_put 48 = .ok (.iadd, 1) := by decide +kernel
theorem dX10_put_49 : decode cX10_put 49 = .ok (.iload 4, 2) := by decide +kernel
theorem dX10_put_51 : decode cX10_put 51 = .ok (.iastore, 1) := by decide +kernel
theorem dX10_put_52 : decode cX10_put 52 = .ok (.aload_n 0, 1) := by decide +kernel
theorem dX10_put_53 : decode cX10_put 53 = .ok (.getfield 7, 3) := by decide +kernel
theorem dX10_put_56 : decode cX10_put 56 = .ok (.iconst 1, 1) := by decide +kernel
theorem dX10_put_57 : decode cX10_put 57 = .ok (.dup2, 1) := by decide +kernel
theorem dX10_put_58 : decode cX10_put 58 = .ok (.iaload, 1) := by decide +kernel
theorem dX10_put_59 : decode cX10_put 59 = .ok (.iconst 1, 1) := by decide +kernel
theorem dX10_put_60 : decode cX10_put 60 = .ok (.iadd, 1) := by decide +kernel
theorem dX10_put_61 : decode cX10_put 61 = .ok (.iastore, 1) := by decide +kernel
theorem dX10_put_62 : decode cX10_put 62 = .ok (.return_, 1) := by decide +kernel
set_option maxRecDepth 20000 in
theorem ggX10_meet_X10_canMeet : GoodIn wsX10_meet wsX10_canMeet := goodIn_r _ [6, 1, 7, 8, 9, 5, 10, 11, 12, 13, 14, 26, 27, 28, 29, 30, 31, 32, 33, 34, 35, 36, 37, 38, 39, 40, 41, 42, 43] (by decide +kernel) (by decide +kernel)
set_option maxRecDepth 20000 in
theorem gX10_meet_X10_canMeet : GoodIn wsX10_meet (wsV RX10 74 RX10 yX10_canMeet wsX10_canMeet) := goodIn_app (goodIn_of _ (by decide +kernel)) ggX10_meet_X10_canMeet
set_option maxRecDepth 20000 in
theorem ggX10_meet_X10_act : GoodIn wsX10_meet wsX10_act := goodIn_r _ [18, 19, 20, 1, 21, 26, 27, 28, 29, 30, 31, 32, 33, 34, 35, 36, 37, 38, 39, 40, 41, 42, 43] (by decide +kernel) (by decide +kernel)
set_option maxRecDepth 20000 in
theorem gX10_meet_X10_act : GoodIn wsX10_meet (wsV RX10 67 RX10 yX10_act wsX10_act) := goodIn_app (goodIn_of _ (by decide +kernel)) ggX10_meet_X10_act
set_option maxRecDepth 20000 in
theorem ggX10_meet_X10_put : GoodIn wsX10_meet wsX10_put := goodIn_r _ [25, 1, 26, 27, 28, 29, 30, 31, 32, 33, 34, 35, 36, 37, 38, 39, 40, 41, 42, 43] (by decide +kernel) (by decide +kernel)
set_option maxRecDepth 20000 in
theorem gX10_meet_X10_put : GoodIn wsX10_meet (wsV RX10 78 RX10 yX10_put wsX10_put) := goodIn_app (goodIn_of _ (by decide +kernel)) ggX10_meet_X10_put
theorem dX10_meet_0 : decode cX10_meet 0 = .ok (.aload_n 0, 1) := by decide +kernel
theorem dX10_meet_1 : decode cX10_meet 1 = .ok (.iload_n 1, 1) := by decide +kernel
theorem dX10_meet_2 : decode cX10_meet 2 = .ok (.iload_n 2, 1) := by decide +kernel
theorem dX10_meet_3 : decode cX10_meet 3 = .ok (.iload_n 3, 1) := by decide +kernel
theorem dX10_meet_4 : decode cX10_meet 4 = .ok (.iload 4, 2) := by decide +kernel
theorem dX10_meet_6 : decode cX10_meet 6 = .ok (.invokevirtual 74, 3) := by decide +kernel
theorem dX10_meet_9 : decode cX10_meet 9 = .ok (.ifCond .ne 5, 3) := by decide +kernel
theorem dX10_meet_12 : decode cX10_meet 12 = .ok (.iconst (-1), 1) := by decide +kernel
theorem dX10_meet_13 : decode cX10_meet 13 = .ok (.ireturn, 1) := by decide +kernel
theorem dX10_meet_14 : decode cX10_meet 14 = .ok (.aload_n 0, 1) := by decide +kernel
theorem dX10_meet_15 : decode cX10_meet 15 = .ok (.invokevirtual 67, 3) := by decide +kernel
theorem dX10_meet_18 : decode cX10_meet 18 = .ok (.aload_n 0, 1) := by decide +kernel
theorem dX10_meet_19 : decode cX10_meet 19 = .ok (.iload_n 1, 1) := by decide +kernel
theorem dX10_meet_20 : decode cX10_meet 20 = .ok (.iload_n 2, 1) := by decide +kernel
theorem dX10_meet_21 : decode cX10_meet 21 = .ok (.iload_n 3, 1) := by decide +kernel
theorem dX10_meet_22 : decode cX10_meet 22 = .ok (.iload 4, 2) := by decide +kernel
theorem dX10_meet_24 : decode cX10_meet 24 = .ok (.invokevirtual 78, 3) := by decide +kernel
theorem dX10_meet_27 : decode cX10_meet 27 = .ok (.aload_n 0, 1) := by decide +kernel
theorem dX10_meet_28 : decode cX10_meet 28 = .ok (.getfield 7, 3) := by decide +kernel
theorem dX10_meet_31 : decode cX10_meet 31 = .ok (.iconst 1, 1) := by decide +kernel
theorem dX10_meet_32 : decode cX10_meet 32 = .ok (.iaload, 1) := by decide +kernel
theorem dX10_meet_33 : decode cX10_meet 33 = .ok (.ireturn, 1) := by decide +kernel
set_option maxRecDepth 20000 in
theorem ggX10_feed_X10_four : GoodIn wsX10_feed wsX10_four := goodIn_r _ [6, 7, 1, 8, 9, 10, 11, 12, 13, 14, 15, 16, 17, 18, 19, 20, 21, 22, 23, 24, 25] (by decide +kernel) (by decide +kernel)
set_option maxRecDepth 20000 in
theorem gX10_feed_X10_four : GoodIn wsX10_feed (wsV RX10 85 RX10 yX10_four wsX10_four) := goodIn_app (goodIn_of _ (by decide +kernel)) ggX10_feed_X10_four
theorem dX10_feed_0 : decode cX10_feed 0 = .ok (.aload_n 0, 1) := by decide +kernel
theorem dX10_feed_1 : decode cX10_feed 1 = .ok (.getfield 82, 3) := by decide +kernel
theorem dX10_feed_4 : decode cX10_feed 4 = .ok (.bipush 20, 2) := by decide +kernel
theorem dX10_feed_6 : decode cX10_feed 6 = .ok (.iadd, 1) := by decide +kernel
theorem dX10_feed_7 : decode cX10_feed 7 = .ok (.sipush 480, 3) := by decide +kernel
theorem dX10_feed_10 : decode cX10_feed 10 = .ok (.if_icmp .le 5, 3) := by decide +kernel
theorem dX10_feed_13 : decode cX10_feed 13 = .ok (.iconst (-1), 1) := by decide +kernel
theorem dX10_feed_14 : decode cX10_feed 14 = .ok (.ireturn, 1) := by decide +kernel
theorem dX10_feed_15 : decode cX10_feed 15 = .ok (.aload_n 0, 1) := by decide +kernel
theorem dX10_feed_16 : decode cX10_feed 16 = .ok (.iload_n 1, 1) := by decide +kernel
theorem dX10_feed_17 : decode cX10_feed 17 = .ok (.invokevirtual 85, 3) := by decide +kernel
theorem dX10_feed_20 : decode cX10_feed 20 = .ok (.aload_n 0, 1) := by decide +kernel
theorem dX10_feed_21 : decode cX10_feed 21 = .ok (.iload_n 2, 1) := by decide +kernel
theorem dX10_feed_22 : decode cX10_feed 22 = .ok (.invokevirtual 85, 3) := by decide +kernel
theorem dX10_feed_25 : decode cX10_feed 25 = .ok (.aload_n 0, 1) := by decide +kernel
theorem dX10_feed_26 : decode cX10_feed 26 = .ok (.iload_n 3, 1) := by decide +kernel
theorem dX10_feed_27 : decode cX10_feed 27 = .ok (.invokevirtual 85, 3) := by decide +kernel
theorem dX10_feed_30 : decode cX10_feed 30 = .ok (.aload_n 0, 1) := by decide +kernel
theorem dX10_feed_31 : decode cX10_feed 31 = .ok (.iload 4, 2) := by decide +kernel
theorem dX10_feed_33 : decode cX10_feed 33 = .ok (.invokevirtual 85, 3) := by decide +kernel
theorem dX10_feed_36 : decode cX10_feed 36 = .ok (.aload_n 0, 1) := by decide +kernel
theorem dX10_feed_37 : decode cX10_feed 37 = .ok (.iload 5, 2) := by decide +kernel
theorem dX10_feed_39 : decode cX10_feed 39 = .ok (.invokevirtual 85, 3) := by decide +kernel
theorem dX10_feed_42 : decode cX10_feed 42 = .ok (.aload_n 0, 1) := by decide +kernel
theorem dX10_feed_43 : decode cX10_feed 43 = .ok (.getfield 82, 3) := by decide +kernel
theorem dX10_feed_46 : decode cX10_feed 46 = .ok (.ireturn, 1) := by decide +kernel
theorem dX10_four_0 : decode cX10_four 0 = .ok (.bipush 24, 2) := by decide +kernel
theorem dX10_four_2 : decode cX10_four 2 = .ok (.istore_n 2, 1) := by decide +kernel
theorem dX10_four_3 : decode cX10_four 3 = .ok (.iload_n 2, 1) := by decide +kernel
theorem dX10_four_4 : decode cX10_four 4 = .ok (.ifCond .lt 35, 3) := by decide +kernel
theorem dX10_four_7 : decode cX10_four 7 = .ok (.aload_n 0, 1) := by decide +kernel
theorem dX10_four_8 : decode cX10_four 8 = .ok (.getfield 16, 3) := by decide +kernel
theorem dX10_four_11 : decode cX10_four 11 = .ok (.aload_n 0, 1) := by decide +kernel
theorem dX10_four_12 : decode cX10_four 12 = .ok (.getfield 82, 3) := by decide +kernel
theorem dX10_four_15 : decode cX10_four 15 = .ok (.iload_n 1, 1) := by decide +kernel
theorem dX10_four_16 : decode cX10_four 16 = .ok (.iload_n 2, 1) := by decide +kernel
theorem dX10_four_17 : decode cX10_four 17 = .ok (.ishr, 1) := by decide +kernel
theorem dX10_four_18 : decode cX10_four 18 = .ok (.sipush 255, 3) := by decide +kernel
theorem dX10_four_21 : decode cX10_four 21 = .ok (.iand, 1) := by decide +kernel
theorem dX10_four_22 : decode cX10_four 22 = .ok (.iastore, 1) := by decide +kernel
theorem dX10_four_23 : decode cX10_four 23 = .ok (.aload_n 0, 1) := by decide +kernel
theorem dX10_four_24 : decode cX10_four 24 = .ok (.dup, 1) := by decide +kernel
theorem dX10_four_25 : decode cX10_four 25 = .ok (.getfield 82, 3) := by decide +kernel
theorem dX10_four_28 : decode cX10_four 28 = .ok (.iconst 1, 1) := by decide +kernel
theorem dX10_four_29 : decode cX10_four 29 = .ok (.iadd, 1) := by decide +kernel
theorem dX10_four_30 : decode cX10_four 30 = .ok (.putfield 82, 3) := by decide +kernel
theorem dX10_four_33 : decode cX10_four 33 = .ok (.iinc 2 (-8), 3) := by decide +kernel
theorem dX10_four_36 : decode cX10_four 36 = .ok (.goto (-33), 3) := by decide +kernel
theorem dX10_four_39 : decode cX10_four 39 = .ok (.return_, 1) := by decide +kernel
set_option maxRecDepth 20000 in
theorem ggX10_sheet_X10_canMeet : GoodIn wsX10_sheet wsX10_canMeet := goodIn_r _ [7, 8, 9, 10, 11, 6, 12, 13, 14, 15, 16, 28, 29, 30, 31, 32, 33, 34, 35, 36, 37, 38, 39, 40, 41, 42, 43, 44, 45] (by decide +kernel) (by decide +kernel)
set_option maxRecDepth 20000 in
theorem gX10_sheet_X10_canMeet : GoodIn wsX10_sheet (wsV RX10 74 RX10 yX10_canMeet wsX10_canMeet) := goodIn_app (goodIn_of _ (by decide +kernel)) ggX10_sheet_X10_canMeet
set_option maxRecDepth 20000 in
theorem ggX10_sheet_X10_act : GoodIn wsX10_sheet wsX10_act := goodIn_r _ [20, 21, 22, 8, 23, 28, 29, 30, 31, 32, 33, 34, 35, 36, 37, 38, 39, 40, 41, 42, 43, 44, 45] (by decide +kernel) (by decide +kernel)
set_option maxRecDepth 20000 in
theorem gX10_sheet_X10_act : GoodIn wsX10_sheet (wsV RX10 67 RX10 yX10_act wsX10_act) := goodIn_app (goodIn_of _ (by decide +kernel)) ggX10_sheet_X10_act
set_option maxRecDepth 20000 in
theorem ggX10_sheet_X10_put : GoodIn wsX10_sheet wsX10_put := goodIn_r _ [27, 8, 28, 29, 30, 31, 32, 33, 34, 35, 36, 37, 38, 39, 40, 41, 42, 43, 44, 45] (by decide +kernel) (by decide +kernel)
set_option maxRecDepth 20000 in
theorem gX10_sheet_X10_put : GoodIn wsX10_sheet (wsV RX10 78 RX10 yX10_put wsX10_put) := goodIn_app (goodIn_of _ (by decide +kernel)) ggX10_sheet_X10_put
theorem dX10_sheet_0 : decode cX10_sheet 0 = .ok (.iload_n 1, 1) := by decide +kernel
theorem dX10_sheet_1 : decode cX10_sheet 1 = .ok (.ifCond .lt 11, 3) := by decide +kernel
theorem dX10_sheet_4 : decode cX10_sheet 4 = .ok (.iload_n 1, 1) := by decide +kernel
theorem dX10_sheet_5 : decode cX10_sheet 5 = .ok (.aload_n 0, 1) := by decide +kernel
theorem dX10_sheet_6 : decode cX10_sheet 6 = .ok (.getfield 82, 3) := by decide +kernel
theorem dX10_sheet_9 : decode cX10_sheet 9 = .ok (.if_icmp .le 5, 3) := by decide +kernel
theorem dX10_sheet_12 : decode cX10_sheet 12 = .ok (.iconst (-1), 1) := by decide +kernel
theorem dX10_sheet_13 : decode cX10_sheet 13 = .ok (.ireturn, 1) := by decide +kernel
theorem dX10_sheet_14 : decode cX10_sheet 14 = .ok (.aload_n 0, 1) := by decide +kernel
theorem dX10_sheet_15 : decode cX10_sheet 15 = .ok (.iconst 0, 1) := by decide +kernel
theorem dX10_sheet_16 : decode cX10_sheet 16 = .ok (.putfield 82, 3) := by decide +kernel
theorem dX10_sheet_19 : decode cX10_sheet 19 = .ok (.iconst 0, 1) := by decide +kernel
theorem dX10_sheet_20 : decode cX10_sheet 20 = .ok (.istore_n 2, 1) := by decide +kernel
theorem dX10_sheet_21 : decode cX10_sheet 21 = .ok (.iconst 1, 1) := by decide +kernel
theorem dX10_sheet_22 : decode cX10_sheet 22 = .ok (.istore_n 3, 1) := by decide +kernel
theorem dX10_sheet_23 : decode cX10_sheet 23 = .ok (.iconst 0, 1) := by decide +kernel
theorem dX10_sheet_24 : decode cX10_sheet 24 = .ok (.istore 4, 2) := by decide +kernel
theorem dX10_sheet_26 : decode cX10_sheet 26 = .ok (.iload 4, 2) := by decide +kernel
theorem dX10_sheet_28 : decode cX10_sheet 28 = .ok (.iconst 4, 1) := by decide +kernel
theorem dX10_sheet_29 : decode cX10_sheet 29 = .ok (.iadd, 1) := by decide +kernel
theorem dX10_sheet_30 : decode cX10_sheet 30 = .ok (.iload_n 1, 1) := by decide +kernel
theorem dX10_sheet_31 : decode cX10_sheet 31 = .ok (.if_icmp .gt 108, 3) := by decide +kernel
theorem dX10_sheet_34 : decode cX10_sheet 34 = .ok (.iload_n 3, 1) := by decide +kernel
theorem dX10_sheet_35 : decode cX10_sheet 35 = .ok (.ifCond .eq 104, 3) := by decide +kernel
theorem dX10_sheet_38 : decode cX10_sheet 38 = .ok (.aload_n 0, 1) := by decide +kernel
theorem dX10_sheet_39 : decode cX10_sheet 39 = .ok (.aload_n 0, 1) := by decide +kernel
theorem dX10_sheet_40 : decode cX10_sheet 40 = .ok (.getfield 16, 3) := by decide +kernel
theorem dX10_sheet_43 : decode cX10_sheet 43 = .ok (.iload 4, 2) := by decide +kernel
theorem dX10_sheet_45 : decode cX10_sheet 45 = .ok (.iaload, 1) := by decide +kernel
theorem dX10_sheet_46 : decode cX10_sheet 46 = .ok (.aload_n 0, 1) := by decide +kernel
theorem dX10_sheet_47 : decode cX10_sheet 47 = .ok (.getfield 16, 3) := by decide +kernel
theorem dX10_sheet_50 : decode cX10_sheet 50 = .ok (.iload 4, 2) := by decide +kernel
theorem dX10_sheet_52 : decode cX10_sheet 52 = .ok (.iconst 1, 1) := by decide +kernel
theorem dX10_sheet_53 : decode cX10_sheet 53 = .ok (.iadd, 1) := by decide +kernel
theorem dX10_sheet_54 : decode cX10_sheet 54 = .ok (.iaload, 1) := by decide +kernel
theorem dX10_sheet_55 : decode cX10_sheet 55 = .ok (.aload_n 0, 1) := by decide +kernel
theorem dX10_sheet_56 : decode cX10_sheet 56 = .ok (.getfield 16, 3) := by decide +kernel
theorem dX10_sheet_59 : decode cX10_sheet 59 = .ok (.iload 4, 2) := by decide +kernel
theorem dX10_sheet_61 : decode cX10_sheet 61 = .ok (.iconst 2, 1) := by decide +kernel
theorem dX10_sheet_62 : decode cX10_sheet 62 = .ok (.iadd, 1) := by decide +kernel
theorem dX10_sheet_63 : decode cX10_sheet 63 = .ok (.iaload, 1) := by decide +kernel
theorem dX10_sheet_64 : decode cX10_sheet 64 = .ok (.aload_n 0, 1) := by decide +kernel
theorem dX10_sheet_65 : decode cX10_sheet 65 = .ok (.getfield 16, 3) := by decide +kernel
theorem dX10_sheet_68 : decode cX10_sheet 68 = .ok (.iload 4, 2) := by decide +kernel
theorem dX10_sheet_70 : decode cX10_sheet 70 = .ok (.iconst 3, 1) := by decide +kernel
theorem dX10_sheet_71 : decode cX10_sheet 71 = .ok (.iadd, 1) := by decide +kernel
theorem dX10_sheet_72 : decode cX10_sheet 72 = .ok (.iaload, 1) := by decide +kernel
theorem dX10_sheet_73 : decode cX10_sheet 73 = .ok (.invokevirtual 74, 3) := by decide +kernel
theorem dX10_sheet_76 : decode cX10_sheet 76 = .ok (.istore_n 3, 1) := by decide +kernel
theorem dX10_sheet_77 : decode cX10_sheet 77 = .ok (.iload_n 3, 1) := by decide +kernel
theorem dX10_sheet_78 : decode cX10_sheet 78 = .ok (.ifCond .ne 6, 3) := by decide +kernel
theorem dX10_sheet_81 : decode cX10_sheet 81 = .ok (.goto 52, 3) := by decide +kernel
theorem dX10_sheet_84 : decode cX10_sheet 84 = .ok (.iload_n 2, 1) := by decide +kernel
theorem dX10_sheet_85 : decode cX10_sheet 85 = .ok (.ifCond .ne 7, 3) := by decide +kernel
theorem dX10_sheet_88 : decode cX10_sheet 88 = .ok (.aload_n 0, 1) := by decide +kernel
theorem dX10_sheet_89 : decode cX10_sheet 89 = .ok (.invokevirtual 67, 3) := by decide +kernel
theorem dX10_sheet_92 : decode cX10_sheet 92 = .ok (.aload_n 0, 1) := by decide +kernel
theorem dX10_sheet_93 : decode cX10_sheet 93 = .ok (.aload_n 0, 1) := by decide +kernel
theorem dX10_sheet_94 : decode cX10_sheet 94 = .ok (.getfield 16, 3) := by decide +kernel
theorem dX10_sheet_97 : decode cX10_sheet 97 = .ok (.iload 4, 2) := by decide +kernel
theorem dX10_sheet_99 : decode cX10_sheet 99 = .ok (.iaload, 1) := by decide +kernel
theorem dX10_sheet_100 : decode cX10_sheet 100 = .ok (.aload_n 0, 1) := by decide +kernel
theorem dX10_sheet_101 : decode cX10_sheet 101 = .ok (.getfield 16, 3) := by decide +kernel
theorem dX10_sheet_104 : decode cX10_sheet 104 = .ok (.iload 4, 2) := by decide +kernel
theorem dX10_sheet_106 : decode cX10_sheet 106 = .ok (.iconst 1, 1) := by decide +kernel
theorem dX10_sheet_107 : decode cX10_sheet 107 = .ok (.iadd, 1) := by decide +kernel
theorem dX10_sheet_108 : decode cX10_sheet 108 = .ok (.iaload, 1) := by decide +kernel
theorem dX10_sheet_109 : decode cX10_sheet 109 = .ok (.aload_n 0, 1) := by decide +kernel
theorem dX10_sheet_110 : decode cX10_sheet 110 = .ok (.getfield 16, 3) := by decide +kernel
theorem dX10_sheet_113 : decode cX10_sheet 113 = .ok (.iload 4, 2) := by decide +kernel
theorem dX10_sheet_115 : decode cX10_sheet 115 = .ok (.iconst 2, 1) := by decide +kernel
theorem dX10_sheet_116 : decode cX10_sheet 116 = .ok (.iadd, 1) := by decide +kernel
theorem dX10_sheet_117 : decode cX10_sheet 117 = .ok (.iaload, 1) := by decide +kernel
theorem dX10_sheet_118 : decode cX10_sheet 118 = .ok (.aload_n 0, 1) := by decide +kernel
theorem dX10_sheet_119 : decode cX10_sheet 119 = .ok (.getfield 16, 3) := by decide +kernel
theorem dX10_sheet_122 : decode cX10_sheet 122 = .ok (.iload 4, 2) := by decide +kernel
theorem dX10_sheet_124 : decode cX10_sheet 124 = .ok (.iconst 3, 1) := by decide +kernel
theorem dX10_sheet_125 : decode cX10_sheet 125 = .ok (.iadd, 1) := by decide +kernel
theorem dX10_sheet_126 : decode cX10_sheet 126 = .ok (.iaload, 1) := by decide +kernel
theorem dX10_sheet_127 : decode cX10_sheet 127 = .ok (.invokevirtual 78, 3) := by decide +kernel
theorem dX10_sheet_130 : decode cX10_sheet 130 = .ok (.iinc 2 1, 3) := by decide +kernel
theorem dX10_sheet_133 : decode cX10_sheet 133 = .ok (.iinc 4 4, 3) := by decide +kernel
theorem dX10_sheet_136 : decode cX10_sheet 136 = .ok (.goto (-110), 3) := by decide +kernel
theorem dX10_sheet_139 : decode cX10_sheet 139 = .ok (.iload_n 2, 1) := by decide +kernel
theorem dX10_sheet_140 : decode cX10_sheet 140 = .ok (.ireturn, 1) := by decide +kernel
set_option maxRecDepth 20000 in
theorem ggX10_drop_X10_act : GoodIn wsX10_drop wsX10_act := goodIn_r _ [6, 7, 8, 1, 9, 10, 11, 12, 13, 14, 15, 16, 17, 18, 19, 20, 21, 22, 23, 24, 25, 26, 27] (by decide +kernel) (by decide +kernel)
set_option maxRecDepth 20000 in
theorem gX10_drop_X10_act : GoodIn wsX10_drop (wsV RX10 67 RX10 yX10_act wsX10_act) := goodIn_app (goodIn_of _ (by decide +kernel)) ggX10_drop_X10_act
theorem dX10_drop_0 : decode cX10_drop 0 = .ok (.iload_n 1, 1) := by decide +kernel
theorem dX10_drop_1 : decode cX10_drop 1 = .ok (.ifCond .lt 13, 3) := by decide +kernel
theorem dX10_drop_4 : decode cX10_drop 4 = .ok (.iload_n 1, 1) := by decide +kernel
theorem dX10_drop_5 : decode cX10_drop 5 = .ok (.aload_n 0, 1) := by decide +kernel
theorem dX10_drop_6 : decode cX10_drop 6 = .ok (.getfield 7, 3) := by decide +kernel
theorem dX10_drop_9 : decode cX10_drop 9 = .ok (.iconst 1, 1) := by decide +kernel
theorem dX10_drop_10 : decode cX10_drop 10 = .ok (.iaload, 1) := by decide +kernel
theorem dX10_drop_11 : decode cX10_drop 11 = .ok (.if_icmp .lt 5, 3) := by decide +kernel
theorem dX10_drop_14 : decode cX10_drop 14 = .ok (.iconst 0, 1) := by decide +kernel
theorem dX10_drop_15 : decode cX10_drop 15 = .ok (.ireturn, 1) := by decide +kernel
theorem dX10_drop_16 : decode cX10_drop 16 = .ok (.aload_n 0, 1) := by decide +kernel
theorem dX10_drop_17 : decode cX10_drop 17 = .ok (.invokevirtual 67, 3) := by decide +kernel
theorem dX10_drop_20 : decode cX10_drop 20 = .ok (.bipush 11, 2) := by decide +kernel
theorem dX10_drop_22 : decode cX10_drop 22 = .ok (.iconst 4, 1) := by decide +kernel
theorem dX10_drop_23 : decode cX10_drop 23 = .ok (.iload_n 1, 1) := by decide +kernel
theorem dX10_drop_24 : decode cX10_drop 24 = .ok (.imul, 1) := by decide +kernel
theorem dX10_drop_25 : decode cX10_drop 25 = .ok (.iadd, 1) := by decide +kernel
theorem dX10_drop_26 : decode cX10_drop 26 = .ok (.istore_n 2, 1) := by decide +kernel
theorem dX10_drop_27 : decode cX10_drop 27 = .ok (.iload_n 2, 1) := by decide +kernel
theorem dX10_drop_28 : decode cX10_drop 28 = .ok (.bipush 11, 2) := by decide +kernel
theorem dX10_drop_30 : decode cX10_drop 30 = .ok (.iconst 4, 1) := by decide +kernel
theorem dX10_drop_31 : decode cX10_drop 31 = .ok (.aload_n 0, 1) := by decide +kernel
theorem dX10_drop_32 : decode cX10_drop 32 = .ok (.getfield 7, 3) := by decide +kernel
theorem dX10_drop_35 : decode cX10_drop 35 = .ok (.iconst 1, 1) := by decide +kernel
theorem dX10_drop_36 : decode cX10_drop 36 = .ok (.iaload, 1) := by decide +kernel
theorem dX10_drop_37 : decode cX10_drop 37 = .ok (.iconst 1, 1) := by decide +kernel
theorem dX10_drop_38 : decode cX10_drop 38 = .ok (.isub, 1) := by decide +kernel
theorem dX10_drop_39 : decode cX10_drop 39 = .ok (.imul, 1) := by decide +kernel
theorem dX10_drop_40 : decode cX10_drop 40 = .ok (.iadd, 1) := by decide +kernel
theorem dX10_drop_41 : decode cX10_drop 41 = .ok (.if_icmp .ge 23, 3) := by decide +kernel
theorem dX10_drop_44 : decode cX10_drop 44 = .ok (.aload_n 0, 1) := by decide +kernel
theorem dX10_drop_45 : decode cX10_drop 45 = .ok (.getfield 7, 3) := by decide +kernel
theorem dX10_drop_48 : decode cX10_drop 48 = .ok (.iload_n 2, 1) := by decide +kernel
theorem dX10_drop_49 : decode cX10_drop 49 = .ok (.aload_n 0, 1) := by decide +kernel
theorem dX10_drop_50 : decode cX10_drop 50 = .ok (.getfield 7, 3) := by decide +kernel
theorem dX10_drop_53 : decode cX10_drop 53 = .ok (.iload_n 2, 1) := by decide +kernel
theorem dX10_drop_54 : decode cX10_drop 54 = .ok (.iconst 4, 1) := by decide +kernel
theorem dX10_drop_55 : decode cX10_drop 55 = .ok (.iadd, 1) := by decide +kernel
theorem dX10_drop_56 : decode cX10_drop 56 = .ok (.iaload, 1) := by decide +kernel
theorem dX10_drop_57 : decode cX10_drop 57 = .ok (.iastore, 1) := by decide +kernel
theorem dX10_drop_58 : decode cX10_drop 58 = .ok (.iinc 2 1, 3) := by decide +kernel
theorem dX10_drop_61 : decode cX10_drop 61 = .ok (.goto (-34), 3) := by decide +kernel
theorem dX10_drop_64 : decode cX10_drop 64 = .ok (.aload_n 0, 1) := by decide +kernel
theorem dX10_drop_65 : decode cX10_drop 65 = .ok (.getfield 7, 3) := by decide +kernel
theorem dX10_drop_68 : decode cX10_drop 68 = .ok (.iconst 1, 1) := by decide +kernel
theorem dX10_drop_69 : decode cX10_drop 69 = .ok (.dup2, 1) := by decide +kernel
theorem dX10_drop_70 : decode cX10_drop 70 = .ok (.iaload, 1) := by decide +kernel
theorem dX10_drop_71 : decode cX10_drop 71 = .ok (.iconst 1, 1) := by decide +kernel
theorem dX10_drop_72 : decode cX10_drop 72 = .ok (.isub, 1) := by decide +kernel
theorem dX10_drop_73 : decode cX10_drop 73 = .ok (.iastore, 1) := by decide +kernel
theorem dX10_drop_74 : decode cX10_drop 74 = .ok (.iconst 1, 1) := by decide +kernel
theorem dX10_drop_75 : decode cX10_drop 75 = .ok (.ireturn, 1) := by decide +kernel
set_option maxRecDepth 20000 in
theorem ggX10_next_X10_isPlayer : GoodIn wsX10_next wsX10_isPlayer := goodIn_r _ [6, 7, 8, 9, 5, 10, 1, 18, 19, 20, 21, 22, 23, 24, 25, 26, 27, 28, 29, 30, 31, 32, 33, 34, 35] (by decide +kernel) (by decide +kernel)
set_option maxRecDepth 20000 in
theorem gX10_next_X10_isPlayer : GoodIn wsX10_next (wsV RX10 70 RX10 yX10_isPlayer wsX10_isPlayer) := goodIn_app (goodIn_of _ (by decide +kernel)) ggX10_next_X10_isPlayer
set_option maxRecDepth 20000 in
theorem ggX10_next_X10_act : GoodIn wsX10_next wsX10_act := goodIn_r _ [14, 15, 16, 1, 17, 18, 19, 20, 21, 22, 23, 24, 25, 26, 27, 28, 29, 30, 31, 32, 33, 34, 35] (by decide +kernel) (by decide +kernel)
set_option maxRecDepth 20000 in
theorem gX10_next_X10_act : GoodIn wsX10_next (wsV RX10 67 RX10 yX10_act wsX10_act) := goodIn_app (goodIn_of _ (by decide +kernel)) ggX10_next_X10_act
theorem dX10_next_0 : decode cX10_next 0 = .ok (.aload_n 0, 1) := by decide +kernel
theorem dX10_next_1 : decode cX10_next 1 = .ok (.getfield 7, 3) := by decide +kernel
theorem dX10_next_4 : decode cX10_next 4 = .ok (.iconst 2, 1) := by decide +kernel
theorem dX10_next_5 : decode cX10_next 5 = .ok (.iaload, 1) := by decide +kernel
theorem dX10_next_6 : decode cX10_next 6 = .ok (.bipush 40, 2) := by decide +kernel
theorem dX10_next_8 : decode cX10_next 8 = .ok (.if_icmp .eq 24, 3) := by decide +kernel
theorem dX10_next_11 : decode cX10_next 11 = .ok (.aload_n 0, 1) := by decide +kernel
theorem dX10_next_12 : decode cX10_next 12 = .ok (.iload_n 1, 1) := by decide +kernel
theorem dX10_next_13 : decode cX10_next 13 = .ok (.invokevirtual 70, 3) := by decide +kernel
theorem dX10_next_16 : decode cX10_next 16 = .ok (.ifCond .eq 16, 3) := by decide +kernel
theorem dX10_next_19 : decode cX10_next 19 = .ok (.aload_n 0, 1) := by decide +kernel
theorem dX10_next_20 : decode cX10_next 20 = .ok (.iload_n 2, 1) := by decide +kernel
theorem dX10_next_21 : decode cX10_next 21 = .ok (.invokevirtual 70, 3) := by decide +kernel
theorem dX10_next_24 : decode cX10_next 24 = .ok (.ifCond .eq 8, 3) := by decide +kernel
theorem dX10_next_27 : decode cX10_next 27 = .ok (.iload_n 1, 1) := by decide +kernel
theorem dX10_next_28 : decode cX10_next 28 = .ok (.iload_n 2, 1) := by decide +kernel
theorem dX10_next_29 : decode cX10_next 29 = .ok (.if_icmp .ne 5, 3) := by decide +kernel
theorem dX10_next_32 : decode cX10_next 32 = .ok (.iconst (-1), 1) := by decide +kernel
theorem dX10_next_33 : decode cX10_next 33 = .ok (.ireturn, 1) := by decide +kernel
theorem dX10_next_34 : decode cX10_next 34 = .ok (.aload_n 0, 1) := by decide +kernel
theorem dX10_next_35 : decode cX10_next 35 = .ok (.invokevirtual 67, 3) := by decide +kernel
theorem dX10_next_38 : decode cX10_next 38 = .ok (.aload_n 0, 1) := by decide +kernel
theorem dX10_next_39 : decode cX10_next 39 = .ok (.getfield 7, 3) := by decide +kernel
theorem dX10_next_42 : decode cX10_next 42 = .ok (.sipush 491, 3) := by decide +kernel
theorem dX10_next_45 : decode cX10_next 45 = .ok (.iconst 2, 1) := by decide +kernel
theorem dX10_next_46 : decode cX10_next 46 = .ok (.aload_n 0, 1) := by decide +kernel
theorem dX10_next_47 : decode cX10_next 47 = .ok (.getfield 7, 3) := by decide +kernel
theorem dX10_next_50 : decode cX10_next 50 = .ok (.iconst 2, 1) := by decide +kernel
theorem dX10_next_51 : decode cX10_next 51 = .ok (.iaload, 1) := by decide +kernel
theorem dX10_next_52 : decode cX10_next 52 = .ok (.imul, 1) := by decide +kernel
theorem dX10_next_53 : decode cX10_next 53 = .ok (.iadd, 1) := by decide +kernel
theorem dX10_next_54 : decode cX10_next 54 = .ok (.iload_n 1, 1) := by decide +kernel
theorem dX10_next_55 : decode cX10_next 55 = .ok (.iastore, 1) := by decide +kernel
theorem dX10_next_56 : decode cX10_next 56 = .ok (.aload_n 0, 1) := by decide +kernel
theorem dX10_next_57 : decode cX10_next 57 = .ok (.getfield 7, 3) := by decide +kernel
theorem dX10_next_60 : decode cX10_next 60 = .ok (.sipush 491, 3) := by decide +kernel
theorem dX10_next_63 : decode cX10_next 63 = .ok (.iconst 2, 1) := by decide +kernel
theorem dX10_next_64 : decode cX10_next 64 = .ok (.aload_n 0, 1) := by decide +kernel
theorem dX10_next_65 : decode cX10_next 65 = .ok (.getfield 7, 3) := by decide +kernel
theorem dX10_next_68 : decode cX10_next 68 = .ok (.iconst 2, 1) := by decide +kernel
theorem dX10_next_69 : decode cX10_next 69 = .ok (.iaload, 1) := by decide +kernel
theorem dX10_next_70 : decode cX10_next 70 = .ok (.imul, 1) := by decide +kernel
theorem dX10_next_71 : decode cX10_next 71 = .ok (.iadd, 1) := by decide +kernel
theorem dX10_next_72 : decode cX10_next 72 = .ok (.iconst 1, 1) := by decide +kernel
theorem dX10_next_73 : decode cX10_next 73 = .ok (.iadd, 1) := by decide +kernel
theorem dX10_next_74 : decode cX10_next 74 = .ok (.iload_n 2, 1) := by decide +kernel
theorem dX10_next_75 : decode cX10_next 75 = .ok (.iastore, 1) := by decide +kernel
theorem dX10_next_76 : decode cX10_next 76 = .ok (.aload_n 0, 1) := by decide +kernel
theorem dX10_next_77 : decode cX10_next 77 = .ok (.getfield 7, 3) := by decide +kernel
theorem dX10_next_80 : decode cX10_next 80 = .ok (.iconst 2, 1) := by decide +kernel
theorem dX10_next_81 : decode cX10_next 81 = .ok (.dup2, 1) := by decide +kernel
theorem dX10_next_82 : decode cX10_next 82 = .ok (.iaload, 1) := by decide +kernel
theorem dX10_next_83 : decode cX10_next 83 = .ok (.iconst 1, 1) := by decide +kernel
theorem dX10_next_84 : decode cX10_next 84 = .ok (.iadd, 1) := by decide +kernel
theorem dX10_next_85 : decode cX10_next 85 = .ok (.iastore, 1) := by decide +kernel
theorem dX10_next_86 : decode cX10_next 86 = .ok (.aload_n 0, 1) := by decide +kernel
theorem dX10_next_87 : decode cX10_next 87 = .ok (.getfield 7, 3) := by decide +kernel
theorem dX10_next_90 : decode cX10_next 90 = .ok (.iconst 2, 1) := by decide +kernel
theorem dX10_next_91 : decode cX10_next 91 = .ok (.iaload, 1) := by decide +kernel
theorem dX10_next_92 : decode cX10_next 92 = .ok (.ireturn, 1) := by decide +kernel
theorem dX10_isPoint_0 : decode cX10_isPoint 0 = .ok (.iload_n 0, 1) := by decide +kernel
theorem dX10_isPoint_1 : decode cX10_isPoint 1 = .ok (.bipush (-10), 2) := by decide +kernel
theorem dX10_isPoint_3 : decode cX10_isPoint 3 = .ok (.if_icmp .lt 13, 3) := by decide +kernel
theorem dX10_isPoint_6 : decode cX10_isPoint 6 = .ok (.iload_n 0, 1) := by decide +kernel
theorem dX10_isPoint_7 : decode cX10_isPoint 7 = .ok (.bipush 10, 2) := by decide +kernel
theorem dX10_isPoint_9 : decode cX10_isPoint 9 = .ok (.if_icmp .gt 7, 3) := by decide +kernel
theorem dX10_isPoint_12 : decode cX10_isPoint 12 = .ok (.iconst 1, 1) := by decide +kernel
theorem dX10_isPoint_13 : decode cX10_isPoint 13 = .ok (.goto 4, 3) := by decide +kernel
theorem dX10_isPoint_16 : decode cX10_isPoint 16 = .ok (.iconst 0, 1) := by decide +kernel
theorem dX10_isPoint_17 : decode cX10_isPoint 17 = .ok (.ireturn, 1) := by decide +kernel
set_option maxRecDepth 20000 in
theorem ggX10_rule_X10_isPoint : GoodIn wsX10_rule wsX10_isPoint := goodIn_r _ [5] (by decide +kernel) (by decide +kernel)
set_option maxRecDepth 20000 in
theorem gX10_rule_X10_isPoint : GoodIn wsX10_rule (va_wsS RX10 89 yX10_isPoint wsX10_isPoint) := goodIn_app (goodIn_of _ (by decide +kernel)) ggX10_rule_X10_isPoint
set_option maxRecDepth 20000 in
theorem ggX10_rule_X10_act : GoodIn wsX10_rule wsX10_act := goodIn_r _ [9, 10, 11, 1, 12, 13, 14, 15, 16, 17, 18, 19, 20, 21, 22, 23, 24, 25, 26, 27, 28, 29, 30] (by decide +kernel) (by decide +kernel)
set_option maxRecDepth 20000 in
theorem gX10_rule_X10_act : GoodIn wsX10_rule (wsV RX10 67 RX10 yX10_act wsX10_act) := goodIn_app (goodIn_of _ (by decide +kernel)) ggX10_rule_X10_act
theorem dX10_rule_0 : decode cX10_rule 0 = .ok (.iload_n 1, 1) := by decide +kernel
theorem dX10_rule_1 : decode cX10_rule 1 = .ok (.invokestatic 89, 3) := by decide +kernel
theorem dX10_rule_4 : decode cX10_rule 4 = .ok (.ifCond .eq 17, 3) := by decide +kernel
theorem dX10_rule_7 : decode cX10_rule 7 = .ok (.iload_n 2, 1) := by decide +kernel
theorem dX10_rule_8 : decode cX10_rule 8 = .ok (.invokestatic 89, 3) := by decide +kernel
theorem dX10_rule_11 : decode cX10_rule 11 = .ok (.ifCond .eq 10, 3) := by decide +kernel
theorem dX10_rule_14 : decode cX10_rule 14 = .ok (.iload_n 3, 1) := by decide +kernel
theorem dX10_rule_15 : decode cX10_rule 15 = .ok (.invokestatic 89, 3) := by decide +kernel
theorem dX10_rule_18 : decode cX10_rule 18 = .ok (.ifCond .ne 5, 3) := by decide +kernel
theorem dX10_rule_21 : decode cX10_rule 21 = .ok (.iconst 0, 1) := by decide +kernel
theorem dX10_rule_22 : decode cX10_rule 22 = .ok (.ireturn, 1) := by decide +kernel
theorem dX10_rule_23 : decode cX10_rule 23 = .ok (.aload_n 0, 1) := by decide +kernel
theorem dX10_rule_24 : decode cX10_rule 24 = .ok (.invokevirtual 67, 3) := by decide +kernel
theorem dX10_rule_27 : decode cX10_rule 27 = .ok (.aload_n 0, 1) := by decide +kernel
theorem dX10_rule_28 : decode cX10_rule 28 = .ok (.getfield 7, 3) := by decide +kernel
theorem dX10_rule_31 : decode cX10_rule 31 = .ok (.iconst 4, 1) := by decide +kernel
theorem dX10_rule_32 : decode cX10_rule 32 = .ok (.iload_n 1, 1) := by decide +kernel
theorem dX10_rule_33 : decode cX10_rule 33 = .ok (.iastore, 1) := by decide +kernel
theorem dX10_rule_34 : decode cX10_rule 34 = .ok (.aload_n 0, 1) := by decide +kernel
theorem dX10_rule_35 : decode cX10_rule 35 = .ok (.getfield 7, 3) := by decide +kernel
theorem dX10_rule_38 : decode cX10_rule 38 = .ok (.iconst 5, 1) := by decide +kernel
theorem dX10_rule_39 : decode cX10_rule 39 = .ok (.iload_n 2, 1) := by decide +kernel
theorem dX10_rule_40 : decode cX10_rule 40 = .ok (.iastore, 1) := by decide +kernel
theorem dX10_rule_41 : decode cX10_rule 41 = .ok (.aload_n 0, 1) := by decide +kernel
theorem dX10_rule_42 : decode cX10_rule 42 = .ok (.getfield 7, 3) := by decide +kernel
theorem dX10_rule_45 : decode cX10_rule 45 = .ok (.bipush 6, 2) := by decide +kernel
theorem dX10_rule_47 : decode cX10_rule 47 = .ok (.iload_n 3, 1) := by decide +kernel
theorem dX10_rule_48 : decode cX10_rule 48 = .ok (.iastore, 1) := by decide +kernel
theorem dX10_rule_49 : decode cX10_rule 49 = .ok (.iconst 1, 1) := by decide +kernel
theorem dX10_rule_50 : decode cX10_rule 50 = .ok (.ireturn, 1) := by decide +kernel
set_option maxRecDepth 20000 in
theorem ggX10_tie_X10_act : GoodIn wsX10_tie wsX10_act := goodIn_r _ [6, 7, 8, 1, 9, 10, 11, 12, 13, 14, 15, 16, 17, 18, 19, 20, 21, 22, 23, 24, 25, 26, 27] (by decide +kernel) (by decide +kernel)
set_option maxRecDepth 20000 in
theorem gX10_tie_X10_act : GoodIn wsX10_tie (wsV RX10 67 RX10 yX10_act wsX10_act) := goodIn_app (goodIn_of _ (by decide +kernel)) ggX10_tie_X10_act
theorem dX10_tie_0 : decode cX10_tie 0 = .ok (.aload_n 0, 1) := by decide +kernel
theorem dX10_tie_1 : decode cX10_tie 1 = .ok (.getfield 7, 3) := by decide +kernel
theorem dX10_tie_4 : decode cX10_tie 4 = .ok (.iconst 3, 1) := by decide +kernel
theorem dX10_tie_5 : decode cX10_tie 5 = .ok (.iaload, 1) := by decide +kernel
theorem dX10_tie_6 : decode cX10_tie 6 = .ok (.iconst 4, 1) := by decide +kernel
theorem dX10_tie_7 : decode cX10_tie 7 = .ok (.if_icmp .eq 12, 3) := by decide +kernel
theorem dX10_tie_10 : decode cX10_tie 10 = .ok (.iload_n 1, 1) := by decide +kernel
theorem dX10_tie_11 : decode cX10_tie 11 = .ok (.ifCond .lt 8, 3) := by decide +kernel
theorem dX10_tie_14 : decode cX10_tie 14 = .ok (.iload_n 1, 1) := by decide +kernel
theorem dX10_tie_15 : decode cX10_tie 15 = .ok (.iconst 5, 1) := by decide +kernel
theorem dX10_tie_16 : decode cX10_tie 16 = .ok (.if_icmp .le 5, 3) := by decide +kernel
theorem dX10_tie_19 : decode cX10_tie 19 = .ok (.iconst (-1), 1) := by decide +kernel
theorem dX10_tie_20 : decode cX10_tie 20 = .ok (.ireturn, 1) := by decide +kernel
theorem dX10_tie_21 : decode cX10_tie 21 = .ok (.aload_n 0, 1) := by decide +kernel
theorem dX10_tie_22 : decode cX10_tie 22 = .ok (.invokevirtual 67, 3) := by decide +kernel
theorem dX10_tie_25 : decode cX10_tie 25 = .ok (.aload_n 0, 1) := by decide +kernel
theorem dX10_tie_26 : decode cX10_tie 26 = .ok (.getfield 7, 3) := by decide +kernel
theorem dX10_tie_29 : decode cX10_tie 29 = .ok (.bipush 7, 2) := by decide +kernel
theorem dX10_tie_31 : decode cX10_tie 31 = .ok (.aload_n 0, 1) := by decide +kernel
theorem dX10_tie_32 : decode cX10_tie 32 = .ok (.getfield 7, 3) := by decide +kernel
theorem dX10_tie_35 : decode cX10_tie 35 = .ok (.iconst 3, 1) := by decide +kernel
theorem dX10_tie_36 : decode cX10_tie 36 = .ok (.iaload, 1) := by decide +kernel
theorem dX10_tie_37 : decode cX10_tie 37 = .ok (.iadd, 1) := by decide +kernel
theorem dX10_tie_38 : decode cX10_tie 38 = .ok (.iload_n 1, 1) := by decide +kernel
theorem dX10_tie_39 : decode cX10_tie 39 = .ok (.iastore, 1) := by decide +kernel
theorem dX10_tie_40 : decode cX10_tie 40 = .ok (.aload_n 0, 1) := by decide +kernel
theorem dX10_tie_41 : decode cX10_tie 41 = .ok (.getfield 7, 3) := by decide +kernel
theorem dX10_tie_44 : decode cX10_tie 44 = .ok (.iconst 3, 1) := by decide +kernel
theorem dX10_tie_45 : decode cX10_tie 45 = .ok (.dup2, 1) := by decide +kernel
theorem dX10_tie_46 : decode cX10_tie 46 = .ok (.iaload, 1) := by decide +kernel
theorem dX10_tie_47 : decode cX10_tie 47 = .ok (.iconst 1, 1) := by decide +kernel
theorem dX10_tie_48 : decode cX10_tie 48 = .ok (.iadd, 1) := by decide +kernel
theorem dX10_tie_49 : decode cX10_tie 49 = .ok (.iastore, 1) := by decide +kernel
theorem dX10_tie_50 : decode cX10_tie 50 = .ok (.aload_n 0, 1) := by decide +kernel
theorem dX10_tie_51 : decode cX10_tie 51 = .ok (.getfield 7, 3) := by decide +kernel
theorem dX10_tie_54 : decode cX10_tie 54 = .ok (.iconst 3, 1) := by decide +kernel
theorem dX10_tie_55 : decode cX10_tie 55 = .ok (.iaload, 1) := by decide +kernel
theorem dX10_tie_56 : decode cX10_tie 56 = .ok (.ireturn, 1) := by decide +kernel
set_option maxRecDepth 20000 in
theorem ggX10_ties_X10_act : GoodIn wsX10_ties wsX10_act := goodIn_r _ [6, 7, 8, 1, 9, 10, 11, 12, 13, 14, 15, 16, 17, 18, 19, 20, 21, 22, 23, 24, 25, 26, 27] (by decide +kernel) (by decide +kernel)
set_option maxRecDepth 20000 in
theorem gX10_ties_X10_act : GoodIn wsX10_ties (wsV RX10 67 RX10 yX10_act wsX10_act) := goodIn_app (goodIn_of _ (by decide +kernel)) ggX10_ties_X10_act
theorem dX10_ties_0 : decode cX10_ties 0 = .ok (.aload_n 0, 1) := by decide +kernel
theorem dX10_ties_1 : decode cX10_ties 1 = .ok (.getfield 7, 3) := by decide +kernel
theorem dX10_ties_4 : decode cX10_ties 4 = .ok (.iconst 3, 1) := by decide +kernel
theorem dX10_ties_5 : decode cX10_ties 5 = .ok (.iaload, 1) := by decide +kernel
theorem dX10_ties_6 : decode cX10_ties 6 = .ok (.istore_n 1, 1) := by decide +kernel
theorem dX10_ties_7 : decode cX10_ties 7 = .ok (.aload_n 0, 1) := by decide +kernel
theorem dX10_ties_8 : decode cX10_ties 8 = .ok (.invokevirtual 67, 3) := by decide +kernel
theorem dX10_ties_11 : decode cX10_ties 11 = .ok (.aload_n 0, 1) := by decide +kernel
theorem dX10_ties_12 : decode cX10_ties 12 = .ok (.getfield 7, 3) := by decide +kernel
theorem dX10_ties_15 : decode cX10_ties 15 = .ok (.iconst 3, 1) := by decide +kernel
theorem dX10_ties_16 : decode cX10_ties 16 = .ok (.iconst 0, 1) := by decide +kernel
theorem dX10_ties_17 : decode cX10_ties 17 = .ok (.iastore, 1) := by decide +kernel
theorem dX10_ties_18 : decode cX10_ties 18 = .ok (.iload_n 1, 1) := by decide +kernel
theorem dX10_ties_19 : decode cX10_ties 19 = .ok (.ireturn, 1) := by decide +kernel
theorem dX10_meeting_0 : decode cX10_meeting 0 = .ok (.iload_n 1, 1) := by decide +kernel
theorem dX10_meeting_1 : decode cX10_meeting 1 = .ok (.ifCond .lt 22, 3) := by decide +kernel
theorem dX10_meeting_4 : decode cX10_meeting 4 = .ok (.iload_n 1, 1) := by decide +kernel
theorem dX10_meeting_5 : decode cX10_meeting 5 = .ok (.aload_n 0, 1) := by decide +kernel
theorem dX10_meeting_6 : decode cX10_meeting 6 = .ok (.getfield 7, 3) := by decide +kernel
theorem dX10_meeting_9 : decode cX10_meeting 9 = .ok (.iconst 1, 1) := by decide +kernel
theorem dX10_meeting_10 : decode cX10_meeting 10 = .ok (.iaload, 1) := by decide +kernel
theorem dX10_meeting_11 : decode cX10_meeting 11 = .ok (.if_icmp .ge 12, 3) := by decide +kernel
theorem dX10_meeting_14 : decode cX10_meeting 14 = .ok (.iload_n 2, 1) := by decide +kernel
theorem dX10_meeting_15 : decode cX10_meeting 15 = .ok (.ifCond .lt 8, 3) := by decide +kernel
theorem dX10_meeting_18 : decode cX10_meeting 18 = .ok (.iload_n 2, 1) := by decide +kernel
theorem dX10_meeting_19 : decode cX10_meeting 19 = .ok (.iconst 3, 1) := by decide +kernel
theorem dX10_meeting_20 : decode cX10_meeting 20 = .ok (.if_icmp .le 7, 3) := by decide +kernel
theorem dX10_meeting_23 : decode cX10_meeting 23 = .ok (.iconst (-1), 1) := by decide +kernel
theorem dX10_meeting_24 : decode cX10_meeting 24 = .ok (.goto 16, 3) := by decide +kernel
theorem dX10_meeting_27 : decode cX10_meeting 27 = .ok (.aload_n 0, 1) := by decide +kernel
theorem dX10_meeting_28 : decode cX10_meeting 28 = .ok (.getfield 7, 3) := by decide +kernel
theorem dX10_meeting_31 : decode cX10_meeting 31 = .ok (.bipush 11, 2) := by decide +kernel
theorem dX10_meeting_33 : decode cX10_meeting 33 = .ok (.iconst 4, 1) := by decide +kernel
theorem dX10_meeting_34 : decode cX10_meeting 34 = .ok (.iload_n 1, 1) := by decide +kernel
theorem dX10_meeting_35 : decode cX10_meeting 35 = .ok (.imul, 1) := by decide +kernel
theorem dX10_meeting_36 : decode cX10_meeting 36 = .ok (.iadd, 1) := by decide +kernel
theorem dX10_meeting_37 : decode cX10_meeting 37 = .ok (.iload_n 2, 1) := by decide +kernel
theorem dX10_meeting_38 : decode cX10_meeting 38 = .ok (.iadd, 1) := by decide +kernel
theorem dX10_meeting_39 : decode cX10_meeting 39 = .ok (.iaload, 1) := by decide +kernel
theorem dX10_meeting_40 : decode cX10_meeting 40 = .ok (.ireturn, 1) := by decide +kernel
theorem dX10_one_0 : decode cX10_one 0 = .ok (.aload_n 0, 1) := by decide +kernel
theorem dX10_one_1 : decode cX10_one 1 = .ok (.getfield 7, 3) := by decide +kernel
theorem dX10_one_4 : decode cX10_one 4 = .ok (.bipush 11, 2) := by decide +kernel
theorem dX10_one_6 : decode cX10_one 6 = .ok (.iconst 4, 1) := by decide +kernel
theorem dX10_one_7 : decode cX10_one 7 = .ok (.iload_n 1, 1) := by decide +kernel
theorem dX10_one_8 : decode cX10_one 8 = .ok (.imul, 1) := by decide +kernel
theorem dX10_one_9 : decode cX10_one 9 = .ok (.iadd, 1) := by decide +kernel
theorem dX10_one_10 : decode cX10_one 10 = .ok (.iaload, 1) := by decide +kernel
theorem dX10_one_11 : decode cX10_one 11 = .ok (.ireturn, 1) := by decide +kernel
theorem dX10_two_0 : decode cX10_two 0 = .ok (.aload_n 0, 1) := by decide +kernel
theorem dX10_two_1 : decode cX10_two 1 = .ok (.getfield 7, 3) := by decide +kernel
theorem dX10_two_4 : decode cX10_two 4 = .ok (.bipush 11, 2) := by decide +kernel
theorem dX10_two_6 : decode cX10_two 6 = .ok (.iconst 4, 1) := by decide +kernel
theorem dX10_two_7 : decode cX10_two 7 = .ok (.iload_n 1, 1) := by decide +kernel
theorem dX10_two_8 : decode cX10_two 8 = .ok (.imul, 1) := by decide +kernel
theorem dX10_two_9 : decode cX10_two 9 = .ok (.iadd, 1) := by decide +kernel
theorem dX10_two_10 : decode cX10_two 10 = .ok (.iconst 1, 1) := by decide +kernel
theorem dX10_two_11 : decode cX10_two 11 = .ok (.iadd, 1) := by decide +kernel
theorem dX10_two_12 : decode cX10_two 12 = .ok (.iaload, 1) := by decide +kernel
theorem dX10_two_13 : decode cX10_two 13 = .ok (.ireturn, 1) := by decide +kernel
theorem dX10_more_0 : decode cX10_more 0 = .ok (.aload_n 0, 1) := by decide +kernel
theorem dX10_more_1 : decode cX10_more 1 = .ok (.getfield 7, 3) := by decide +kernel
theorem dX10_more_4 : decode cX10_more 4 = .ok (.bipush 11, 2) := by decide +kernel
theorem dX10_more_6 : decode cX10_more 6 = .ok (.iconst 4, 1) := by decide +kernel
theorem dX10_more_7 : decode cX10_more 7 = .ok (.iload_n 1, 1) := by decide +kernel
theorem dX10_more_8 : decode cX10_more 8 = .ok (.imul, 1) := by decide +kernel
theorem dX10_more_9 : decode cX10_more 9 = .ok (.iadd, 1) := by decide +kernel
theorem dX10_more_10 : decode cX10_more 10 = .ok (.iconst 2, 1) := by decide +kernel
theorem dX10_more_11 : decode cX10_more 11 = .ok (.iadd, 1) := by decide +kernel
theorem dX10_more_12 : decode cX10_more 12 = .ok (.iaload, 1) := by decide +kernel
theorem dX10_more_13 : decode cX10_more 13 = .ok (.aload_n 0, 1) := by decide +kernel
theorem dX10_more_14 : decode cX10_more 14 = .ok (.getfield 7, 3) := by decide +kernel
theorem dX10_more_17 : decode cX10_more 17 = .ok (.bipush 11, 2) := by decide +kernel
theorem dX10_more_19 : decode cX10_more 19 = .ok (.iconst 4, 1) := by decide +kernel
theorem dX10_more_20 : decode cX10_more 20 = .ok (.iload_n 1, 1) := by decide +kernel
theorem dX10_more_21 : decode cX10_more 21 = .ok (.imul, 1) := by decide +kernel
theorem dX10_more_22 : decode cX10_more 22 = .ok (.iadd, 1) := by decide +kernel
theorem dX10_more_23 : decode cX10_more 23 = .ok (.iconst 3, 1) := by decide +kernel
theorem dX10_more_24 : decode cX10_more 24 = .ok (.iadd, 1) := by decide +kernel
theorem dX10_more_25 : decode cX10_more 25 = .ok (.iaload, 1) := by decide +kernel
theorem dX10_more_26 : decode cX10_more 26 = .ok (.isub, 1) := by decide +kernel
theorem dX10_more_27 : decode cX10_more 27 = .ok (.ireturn, 1) := by decide +kernel
set_option maxRecDepth 20000 in
theorem ggX10_overOf_X10_one : GoodIn wsX10_overOf wsX10_one := goodIn_r _ [6, 1, 15, 16, 17, 18, 19, 20, 21, 22, 23, 24, 25, 26, 27, 28, 29, 30, 31, 32] (by decide +kernel) (by decide +kernel)
set_option maxRecDepth 20000 in
theorem gX10_overOf_X10_one : GoodIn wsX10_overOf (wsV RX10 92 RX10 yX10_one wsX10_one) := goodIn_app (goodIn_of _ (by decide +kernel)) ggX10_overOf_X10_one
set_option maxRecDepth 20000 in
theorem ggX10_overOf_X10_two : GoodIn wsX10_overOf wsX10_two := goodIn_r _ [10, 1, 15, 16, 17, 18, 19, 20, 21, 22, 23, 24, 25, 26, 27, 28, 29, 30, 31, 32] (by decide +kernel) (by decide +kernel)
set_option maxRecDepth 20000 in
theorem gX10_overOf_X10_two : GoodIn wsX10_overOf (wsV RX10 96 RX10 yX10_two wsX10_two) := goodIn_app (goodIn_of _ (by decide +kernel)) ggX10_overOf_X10_two
set_option maxRecDepth 20000 in
theorem ggX10_overOf_X10_more : GoodIn wsX10_overOf wsX10_more := goodIn_r _ [14, 1, 15, 16, 17, 18, 19, 20, 21, 22, 23, 24, 25, 26, 27, 28, 29, 30, 31, 32] (by decide +kernel) (by decide +kernel)
set_option maxRecDepth 20000 in
theorem gX10_overOf_X10_more : GoodIn wsX10_overOf (wsV RX10 99 RX10 yX10_more wsX10_more) := goodIn_app (goodIn_of _ (by decide +kernel)) ggX10_overOf_X10_more
theorem dX10_overOf_0 : decode cX10_overOf 0 = .ok (.iconst 0, 1) := by decide +kernel
theorem dX10_overOf_1 : decode cX10_overOf 1 = .ok (.istore_n 3, 1) := by decide +kernel
theorem dX10_overOf_2 : decode cX10_overOf 2 = .ok (.iconst 0, 1) := by decide +kernel
theorem dX10_overOf_3 : decode cX10_overOf 3 = .ok (.istore 4, 2) := by decide +kernel
theorem dX10_overOf_5 : decode cX10_overOf 5 = .ok (.iload 4, 2) := by decide +kernel
theorem dX10_overOf_7 : decode cX10_overOf 7 = .ok (.aload_n 0, 1) := by decide +kernel
theorem dX10_overOf_8 : decode cX10_overOf 8 = .ok (.getfield 7, 3) := by decide +kernel
theorem dX10_overOf_11 : decode cX10_overOf 11 = .ok (.iconst 1, 1) := by decide +kernel
theorem dX10_overOf_12 : decode cX10_overOf 12 = .ok (.iaload, 1) := by decide +kernel
theorem dX10_overOf_13 : decode cX10_overOf 13 = .ok (.if_icmp .ge 75, 3) := by decide +kernel
theorem dX10_overOf_16 : decode cX10_overOf 16 = .ok (.iload_n 3, 1) := by decide +kernel
theorem dX10_overOf_17 : decode cX10_overOf 17 = .ok (.aload_n 0, 1) := by decide +kernel
theorem dX10_overOf_18 : decode cX10_overOf 18 = .ok (.iload 4, 2) := by decide +kernel
theorem dX10_overOf_20 : decode cX10_overOf 20 = .ok (.invokevirtual 92, 3) := by decide +kernel
theorem dX10_overOf_23 : decode cX10_overOf 23 = .ok (.iload_n 1, 1) := by decide +kernel
theorem dX10_overOf_24 : decode cX10_overOf 24 = .ok (.if_icmp .ne 22, 3) := by decide +kernel
theorem dX10_overOf_27 : decode cX10_overOf 27 = .ok (.aload_n 0, 1) := by decide +kernel
theorem dX10_overOf_28 : decode cX10_overOf 28 = .ok (.iload 4, 2) := by decide +kernel
theorem dX10_overOf_30 : decode cX10_overOf 30 = .ok (.invokevirtual 96, 3) := by decide +kernel
theorem dX10_overOf_33 : decode cX10_overOf 33 = .ok (.iload_n 2, 1) := by decide +kernel
theorem dX10_overOf_34 : decode cX10_overOf 34 = .ok (.if_icmp .ne 12, 3) := by decide +kernel
theorem dX10_overOf_37 : decode cX10_overOf 37 = .ok (.aload_n 0, 1) := by decide +kernel
theorem dX10_overOf_38 : decode cX10_overOf 38 = .ok (.iload 4, 2) := by decide +kernel
theorem dX10_overOf_40 : decode cX10_overOf 40 = .ok (.invokevirtual 99, 3) := by decide +kernel
theorem dX10_overOf_43 : decode cX10_overOf 43 = .ok (.ifCond .gt 32, 3) := by decide +kernel
theorem dX10_overOf_46 : decode cX10_overOf 46 = .ok (.aload_n 0, 1) := by decide +kernel
theorem dX10_overOf_47 : decode cX10_overOf 47 = .ok (.iload 4, 2) := by decide +kernel
theorem dX10_overOf_49 : decode cX10_overOf 49 = .ok (.invokevirtual 92, 3) := by decide +kernel
theorem dX10_overOf_52 : decode cX10_overOf 52 = .ok (.iload_n 2, 1) := by decide +kernel
theorem dX10_overOf_53 : decode cX10_overOf 53 = .ok (.if_icmp .ne 26, 3) := by decide +kernel
theorem dX10_overOf_56 : decode cX10_overOf 56 = .ok (.aload_n 0, 1) := by decide +kernel
theorem dX10_overOf_57 : decode cX10_overOf 57 = .ok (.iload 4, 2) := by decide +kernel
theorem dX10_overOf_59 : decode cX10_overOf 59 = .ok (.invokevirtual 96, 3) := by decide +kernel
theorem dX10_overOf_62 : decode cX10_overOf 62 = .ok (.iload_n 1, 1) := by decide +kernel
theorem dX10_overOf_63 : decode cX10_overOf 63 = .ok (.if_icmp .ne 16, 3) := by decide +kernel
theorem dX10_overOf_66 : decode cX10_overOf 66 = .ok (.aload_n 0, 1) := by decide +kernel
theorem dX10_overOf_67 : decode cX10_overOf 67 = .ok (.iload 4, 2) := by decide +kernel
theorem dX10_overOf_69 : decode cX10_overOf 69 = .ok (.invokevirtual 99, 3) := by decide +kernel
theorem dX10_overOf_72 : decode cX10_overOf 72 = .ok (.ifCond .ge 7, 3) := by decide +kernel
theorem dX10_overOf_75 : decode cX10_overOf 75 = .ok (.iconst 1, 1) := by decide +kernel
theorem dX10_overOf_76 : decode cX10_overOf 76 = .ok (.goto 4, 3) := by decide +kernel
theorem dX10_overOf_79 : decode cX10_overOf 79 = .ok (.iconst 0, 1) := by decide +kernel
theorem dX10_overOf_80 : decode cX10_overOf 80 = .ok (.iadd, 1) := by decide +kernel
theorem dX10_overOf_81 : decode cX10_overOf 81 = .ok (.istore_n 3, 1) := by decide +kernel
theorem dX10_overOf_82 : decode cX10_overOf 82 = .ok (.iinc 4 1, 3) := by decide +kernel
theorem dX10_overOf_85 : decode cX10_overOf 85 = .ok (.goto (-80), 3) := by decide +kernel
theorem dX10_overOf_88 : decode cX10_overOf 88 = .ok (.iload_n 3, 1) := by decide +kernel
theorem dX10_overOf_89 : decode cX10_overOf 89 = .ok (.ireturn, 1) := by decide +kernel
set_option maxRecDepth 20000 in
theorem ggX10_over_X10_isPlayer : GoodIn wsX10_over wsX10_isPlayer := goodIn_r _ [5, 6, 7, 8, 4, 9, 10, 27, 28, 29, 30, 31, 32, 33, 34, 35, 36, 37, 38, 39, 40, 41, 42, 43, 44] (by decide +kernel) (by decide +kernel)
set_option maxRecDepth 20000 in
theorem gX10_over_X10_isPlayer : GoodIn wsX10_over (wsV RX10 70 RX10 yX10_isPlayer wsX10_isPlayer) := goodIn_app (goodIn_of _ (by decide +kernel)) ggX10_over_X10_isPlayer
set_option maxRecDepth 20000 in
theorem ggX10_over_X10_overOf : GoodIn wsX10_over wsX10_overOf := goodIn_r _ [14, 10, 15, 16, 17, 4, 18, 19, 20, 21, 22, 23, 24, 25, 26, 27, 28, 29, 30, 31, 32, 33, 34, 35, 36, 37, 38, 39, 40, 41, 42, 43, 44] (by decide +kernel) (by decide +kernel)
set_option maxRecDepth 20000 in
theorem gX10_over_X10_overOf : GoodIn wsX10_over (wsV RX10 102 RX10 yX10_overOf wsX10_overOf) := goodIn_app (goodIn_of _ (by decide +kernel)) ggX10_over_X10_overOf
theorem dX10_over_0 : decode cX10_over 0 = .ok (.aload_n 0, 1) := by decide +kernel
theorem dX10_over_1 : decode cX10_over 1 = .ok (.iload_n 1, 1) := by decide +kernel
theorem dX10_over_2 : decode cX10_over 2 = .ok (.invokevirtual 70, 3) := by decide +kernel
theorem dX10_over_5 : decode cX10_over 5 = .ok (.ifCond .eq 25, 3) := by decide +kernel
theorem dX10_over_8 : decode cX10_over 8 = .ok (.aload_n 0, 1) := by decide +kernel
theorem dX10_over_9 : decode cX10_over 9 = .ok (.iload_n 2, 1) := by decide +kernel
theorem dX10_over_10 : decode cX10_over 10 = .ok (.invokevirtual 70, 3) := by decide +kernel
theorem dX10_over_13 : decode cX10_over 13 = .ok (.ifCond .eq 17, 3) := by decide +kernel
theorem dX10_over_16 : decode cX10_over 16 = .ok (.iload_n 1, 1) := by decide +kernel
theorem dX10_over_17 : decode cX10_over 17 = .ok (.iload_n 2, 1) := by decide +kernel
theorem dX10_over_18 : decode cX10_over 18 = .ok (.if_icmp .eq 12, 3) := by decide +kernel
theorem dX10_over_21 : decode cX10_over 21 = .ok (.aload_n 0, 1) := by decide +kernel
theorem dX10_over_22 : decode cX10_over 22 = .ok (.iload_n 1, 1) := by decide +kernel
theorem dX10_over_23 : decode cX10_over 23 = .ok (.iload_n 2, 1) := by decide +kernel
theorem dX10_over_24 : decode cX10_over 24 = .ok (.invokevirtual 102, 3) := by decide +kernel
theorem dX10_over_27 : decode cX10_over 27 = .ok (.goto 4, 3) := by decide +kernel
theorem dX10_over_30 : decode cX10_over 30 = .ok (.iconst (-1), 1) := by decide +kernel
theorem dX10_over_31 : decode cX10_over 31 = .ok (.ireturn, 1) := by decide +kernel
set_option maxRecDepth 20000 in
theorem ggX10_beats_X10_overOf : GoodIn wsX10_beats wsX10_overOf := goodIn_r _ [5, 6, 7, 8, 9, 4, 10, 11, 12, 13, 14, 15, 16, 17, 18, 19, 20, 21, 22, 23, 24, 25, 26, 27, 28, 29, 30, 31, 32, 33, 34, 35, 36] (by decide +kernel) (by decide +kernel)
set_option maxRecDepth 20000 in
theorem gX10_beats_X10_overOf : GoodIn wsX10_beats (wsV RX10 102 RX10 yX10_overOf wsX10_overOf) := goodIn_app (goodIn_of _ (by decide +kernel)) ggX10_beats_X10_overOf
theorem dX10_beats_0 : decode cX10_beats 0 = .ok (.aload_n 0, 1) := by decide +kernel
theorem dX10_beats_1 : decode cX10_beats 1 = .ok (.iload_n 1, 1) := by decide +kernel
theorem dX10_beats_2 : decode cX10_beats 2 = .ok (.iload_n 2, 1) := by decide +kernel
theorem dX10_beats_3 : decode cX10_beats 3 = .ok (.invokevirtual 102, 3) := by decide +kernel
theorem dX10_beats_6 : decode cX10_beats 6 = .ok (.aload_n 0, 1) := by decide +kernel
theorem dX10_beats_7 : decode cX10_beats 7 = .ok (.iload_n 2, 1) := by decide +kernel
theorem dX10_beats_8 : decode cX10_beats 8 = .ok (.iload_n 1, 1) := by decide +kernel
theorem dX10_beats_9 : decode cX10_beats 9 = .ok (.invokevirtual 102, 3) := by decide +kernel
theorem dX10_beats_12 : decode cX10_beats 12 = .ok (.if_icmp .le 7, 3) := by decide +kernel
theorem dX10_beats_15 : decode cX10_beats 15 = .ok (.iconst 1, 1) := by decide +kernel
theorem dX10_beats_16 : decode cX10_beats 16 = .ok (.goto 4, 3) := by decide +kernel
theorem dX10_beats_19 : decode cX10_beats 19 = .ok (.iconst 0, 1) := by decide +kernel
theorem dX10_beats_20 : decode cX10_beats 20 = .ok (.ireturn, 1) := by decide +kernel
theorem dX10_by_0 : decode cX10_by 0 = .ok (.iload_n 1, 1) := by decide +kernel
theorem dX10_by_1 : decode cX10_by 1 = .ok (.ifCond .le 12, 3) := by decide +kernel
theorem dX10_by_4 : decode cX10_by 4 = .ok (.aload_n 0, 1) := by decide +kernel
theorem dX10_by_5 : decode cX10_by 5 = .ok (.getfield 7, 3) := by decide +kernel
theorem dX10_by_8 : decode cX10_by 8 = .ok (.iconst 4, 1) := by decide +kernel
theorem dX10_by_9 : decode cX10_by 9 = .ok (.iaload, 1) := by decide +kernel
theorem dX10_by_10 : decode cX10_by 10 = .ok (.goto 23, 3) := by decide +kernel
theorem dX10_by_13 : decode cX10_by 13 = .ok (.iload_n 1, 1) := by decide +kernel
theorem dX10_by_14 : decode cX10_by 14 = .ok (.ifCond .ge 13, 3) := by decide +kernel
theorem dX10_by_17 : decode cX10_by 17 = .ok (.aload_n 0, 1) := by decide +kernel
theorem dX10_by_18 : decode cX10_by 18 = .ok (.getfield 7, 3) := by decide +kernel
theorem dX10_by_21 : decode cX10_by 21 = .ok (.bipush 6, 2) := by decide +kernel
theorem dX10_by_23 : decode cX10_by 23 = .ok (.iaload, 1) := by decide +kernel
theorem dX10_by_24 : decode cX10_by 24 = .ok (.goto 9, 3) := by decide +kernel
theorem dX10_by_27 : decode cX10_by 27 = .ok (.aload_n 0, 1) := by decide +kernel
theorem dX10_by_28 : decode cX10_by 28 = .ok (.getfield 7, 3) := by decide +kernel
theorem dX10_by_31 : decode cX10_by 31 = .ok (.iconst 5, 1) := by decide +kernel
theorem dX10_by_32 : decode cX10_by 32 = .ok (.iaload, 1) := by decide +kernel
theorem dX10_by_33 : decode cX10_by 33 = .ok (.ireturn, 1) := by decide +kernel
set_option maxRecDepth 20000 in
theorem ggX10_scoreWith_X10_one : GoodIn wsX10_scoreWith wsX10_one := goodIn_r _ [6, 1, 19, 20, 21, 22, 23, 24, 25, 26, 27, 28, 29, 30, 31, 32, 33, 34, 35, 36] (by decide +kernel) (by decide +kernel)
set_option maxRecDepth 20000 in
theorem gX10_scoreWith_X10_one : GoodIn wsX10_scoreWith (wsV RX10 92 RX10 yX10_one wsX10_one) := goodIn_app (goodIn_of _ (by decide +kernel)) ggX10_scoreWith_X10_one
set_option maxRecDepth 20000 in
theorem ggX10_scoreWith_X10_two : GoodIn wsX10_scoreWith wsX10_two := goodIn_r _ [10, 1, 19, 20, 21, 22, 23, 24, 25, 26, 27, 28, 29, 30, 31, 32, 33, 34, 35, 36] (by decide +kernel) (by decide +kernel)
set_option maxRecDepth 20000 in
theorem gX10_scoreWith_X10_two : GoodIn wsX10_scoreWith (wsV RX10 96 RX10 yX10_two wsX10_two) := goodIn_app (goodIn_of _ (by decide +kernel)) ggX10_scoreWith_X10_two
set_option maxRecDepth 20000 in
theorem ggX10_scoreWith_X10_more : GoodIn wsX10_scoreWith wsX10_more := goodIn_r _ [14, 1, 19, 20, 21, 22, 23, 24, 25, 26, 27, 28, 29, 30, 31, 32, 33, 34, 35, 36] (by decide +kernel) (by decide +kernel)
set_option maxRecDepth 20000 in
theorem gX10_scoreWith_X10_more : GoodIn wsX10_scoreWith (wsV RX10 99 RX10 yX10_more wsX10_more) := goodIn_app (goodIn_of _ (by decide +kernel)) ggX10_scoreWith_X10_more
set_option maxRecDepth 20000 in
theorem ggX10_scoreWith_X10_by : GoodIn wsX10_scoreWith wsX10_by := goodIn_r _ [18, 1, 19, 20, 21, 22, 23, 24, 25, 26, 27, 28, 29, 30, 31, 32, 33, 34, 35, 36] (by decide +kernel) (by decide +kernel)
set_option maxRecDepth 20000 in
theorem gX10_scoreWith_X10_by : GoodIn wsX10_scoreWith (wsV RX10 106 RX10 yX10_by wsX10_by) := goodIn_app (goodIn_of _ (by decide +kernel)) ggX10_scoreWith_X10_by
theorem dX10_scoreWith_0 : decode cX10_scoreWith 0 = .ok (.iconst 0, 1) := by decide +kernel
theorem dX10_scoreWith_1 : decode cX10_scoreWith 1 = .ok (.istore_n 3, 1) := by decide +kernel
theorem dX10_scoreWith_2 : decode cX10_scoreWith 2 = .ok (.iconst 0, 1) := by decide +kernel
theorem dX10_scoreWith_3 : decode cX10_scoreWith 3 = .ok (.istore 4, 2) := by decide +kernel
theorem dX10_scoreWith_5 : decode cX10_scoreWith 5 = .ok (.iload 4, 2) := by decide +kernel
theorem dX10_scoreWith_7 : decode cX10_scoreWith 7 = .ok (.aload_n 0, 1) := by decide +kernel
theorem dX10_scoreWith_8 : decode cX10_scoreWith 8 = .ok (.getfield 7, 3) := by decide +kernel
theorem dX10_scoreWith_11 : decode cX10_scoreWith 11 = .ok (.iconst 1, 1) := by decide +kernel
theorem dX10_scoreWith_12 : decode cX10_scoreWith 12 = .ok (.iaload, 1) := by decide +kernel
theorem dX10_scoreWith_13 : decode cX10_scoreWith 13 = .ok (.if_icmp .ge 84, 3) := by decide +kernel
theorem dX10_scoreWith_16 : decode cX10_scoreWith 16 = .ok (.aload_n 0, 1) := by decide +kernel
theorem dX10_scoreWith_17 : decode cX10_scoreWith 17 = .ok (.iload 4, 2) := by decide +kernel
theorem dX10_scoreWith_19 : decode cX10_scoreWith 19 = .ok (.invokevirtual 92, 3) := by decide +kernel
theorem dX10_scoreWith_22 : decode cX10_scoreWith 22 = .ok (.iload_n 1, 1) := by decide +kernel
theorem dX10_scoreWith_23 : decode cX10_scoreWith 23 = .ok (.if_icmp .ne 30, 3) := by decide +kernel
theorem dX10_scoreWith_26 : decode cX10_scoreWith 26 = .ok (.iload_n 2, 1) := by decide +kernel
theorem dX10_scoreWith_27 : decode cX10_scoreWith 27 = .ok (.aload_n 0, 1) := by decide +kernel
theorem dX10_scoreWith_28 : decode cX10_scoreWith 28 = .ok (.iload 4, 2) := by decide +kernel
theorem dX10_scoreWith_30 : decode cX10_scoreWith 30 = .ok (.invokevirtual 96, 3) := by decide +kernel
theorem dX10_scoreWith_33 : decode cX10_scoreWith 33 = .ok (.ishr, 1) := by decide +kernel
theorem dX10_scoreWith_34 : decode cX10_scoreWith 34 = .ok (.iconst 1, 1) := by decide +kernel
theorem dX10_scoreWith_35 : decode cX10_scoreWith 35 = .ok (.iand, 1) := by decide +kernel
theorem dX10_scoreWith_36 : decode cX10_scoreWith 36 = .ok (.iconst 1, 1) := by decide +kernel
theorem dX10_scoreWith_37 : decode cX10_scoreWith 37 = .ok (.if_icmp .ne 16, 3) := by decide +kernel
theorem dX10_scoreWith_40 : decode cX10_scoreWith 40 = .ok (.iload_n 3, 1) := by decide +kernel
theorem dX10_scoreWith_41 : decode cX10_scoreWith 41 = .ok (.aload_n 0, 1) := by decide +kernel
theorem dX10_scoreWith_42 : decode cX10_scoreWith 42 = .ok (.aload_n 0, 1) := by decide +kernel
theorem dX10_scoreWith_43 : decode cX10_scoreWith 43 = .ok (.iload 4, 2) := by decide +kernel
theorem dX10_scoreWith_45 : decode cX10_scoreWith 45 = .ok (.invokevirtual 99, 3) := by decide +kernel
theorem dX10_scoreWith_48 : decode cX10_scoreWith 48 = .ok (.invokevirtual 106, 3) := by decide +kernel
theorem dX10_scoreWith_51 : decode cX10_scoreWith 51 = .ok (.iadd, 1) := by decide +kernel
theorem dX10_scoreWith_52 : decode cX10_scoreWith 52 = .ok (.istore_n 3, 1) := by decide +kernel
theorem dX10_scoreWith_53 : decode cX10_scoreWith 53 = .ok (.aload_n 0, 1) := by decide +kernel
theorem dX10_scoreWith_54 : decode cX10_scoreWith 54 = .ok (.iload 4, 2) := by decide +kernel
theorem dX10_scoreWith_56 : decode cX10_scoreWith 56 = .ok (.invokevirtual 96, 3) := by decide +kernel
theorem dX10_scoreWith_59 : decode cX10_scoreWith 59 = .ok (.iload_n 1, 1) := by decide +kernel
theorem dX10_scoreWith_60 : decode cX10_scoreWith 60 = .ok (.if_icmp .ne 31, 3) := by decide +kernel
theorem dX10_scoreWith_63 : decode cX10_scoreWith 63 = .ok (.iload_n 2, 1) := by decide +kernel
theorem dX10_scoreWith_64 : decode cX10_scoreWith 64 = .ok (.aload_n 0, 1) := by decide +kernel
theorem dX10_scoreWith_65 : decode cX10_scoreWith 65 = .ok (.iload 4, 2) := by decide +kernel
theorem dX10_scoreWith_67 : decode cX10_scoreWith 67 = .ok (.invokevirtual 92, 3) := by decide +kernel
theorem dX10_scoreWith_70 : decode cX10_scoreWith 70 = .ok (.ishr, 1) := by decide +kernel
theorem dX10_scoreWith_71 : decode cX10_scoreWith 71 = .ok (.iconst 1, 1) := by decide +kernel
theorem dX10_scoreWith_72 : decode cX10_scoreWith 72 = .ok (.iand, 1) := by decide +kernel
theorem dX10_scoreWith_73 : decode cX10_scoreWith 73 = .ok (.iconst 1, 1) := by decide +kernel
theorem dX10_scoreWith_74 : decode cX10_scoreWith 74 = .ok (.if_icmp .ne 17, 3) := by decide +kernel
theorem dX10_scoreWith_77 : decode cX10_scoreWith 77 = .ok (.iload_n 3, 1) := by decide +kernel
theorem dX10_scoreWith_78 : decode cX10_scoreWith 78 = .ok (.aload_n 0, 1) := by decide +kernel
theorem dX10_scoreWith_79 : decode cX10_scoreWith 79 = .ok (.aload_n 0, 1) := by decide +kernel
theorem dX10_scoreWith_80 : decode cX10_scoreWith 80 = .ok (.iload 4, 2) := by decide +kernel
theorem dX10_scoreWith_82 : decode cX10_scoreWith 82 = .ok (.invokevirtual 99, 3) := by decide +kernel
theorem dX10_scoreWith_85 : decode cX10_scoreWith 85 = .ok (.ineg, 1) := by decide +kernel
theorem dX10_scoreWith_86 : decode cX10_scoreWith 86 = .ok (.invokevirtual 106, 3) := by decide +kernel
theorem dX10_scoreWith_89 : decode cX10_scoreWith 89 = .ok (.iadd, 1) := by decide +kernel
theorem dX10_scoreWith_90 : decode cX10_scoreWith 90 = .ok (.istore_n 3, 1) := by decide +kernel
theorem dX10_scoreWith_91 : decode cX10_scoreWith 91 = .ok (.iinc 4 1, 3) := by decide +kernel
theorem dX10_scoreWith_94 : decode cX10_scoreWith 94 = .ok (.goto (-89), 3) := by decide +kernel
theorem dX10_scoreWith_97 : decode cX10_scoreWith 97 = .ok (.iload_n 3, 1) := by decide +kernel
theorem dX10_scoreWith_98 : decode cX10_scoreWith 98 = .ok (.ireturn, 1) := by decide +kernel
set_option maxRecDepth 20000 in
theorem ggX10_scoreOf_X10_scoreWith : GoodIn wsX10_scoreOf wsX10_scoreWith := goodIn_r _ [5, 6, 7, 8, 9, 4, 10, 11, 12, 13, 14, 15, 16, 17, 18, 19, 20, 21, 22, 23, 24, 25, 26, 27, 28, 29, 30, 31, 32, 33, 34, 35, 36, 37, 38, 39, 40] (by decide +kernel) (by decide +kernel)
set_option maxRecDepth 20000 in
theorem gX10_scoreOf_X10_scoreWith : GoodIn wsX10_scoreOf (wsV RX10 109 RX10 yX10_scoreWith wsX10_scoreWith) := goodIn_app (goodIn_of _ (by decide +kernel)) ggX10_scoreOf_X10_scoreWith
theorem dX10_scoreOf_0 : decode cX10_scoreOf 0 = .ok (.aload_n 0, 1) := by decide +kernel
theorem dX10_scoreOf_1 : decode cX10_scoreOf 1 = .ok (.iload_n 1, 1) := by decide +kernel
theorem dX10_scoreOf_2 : decode cX10_scoreOf 2 = .ok (.sipush 1023, 3) := by decide +kernel
theorem dX10_scoreOf_5 : decode cX10_scoreOf 5 = .ok (.invokevirtual 109, 3) := by decide +kernel
theorem dX10_scoreOf_8 : decode cX10_scoreOf 8 = .ok (.ireturn, 1) := by decide +kernel
set_option maxRecDepth 20000 in
theorem ggX10_score_X10_isPlayer : GoodIn wsX10_score wsX10_isPlayer := goodIn_r _ [5, 6, 7, 8, 4, 9, 10, 35, 36, 37, 38, 39, 40, 41, 42, 43, 44, 45, 46, 47, 48, 49, 50, 51, 52] (by decide +kernel) (by decide +kernel)
set_option maxRecDepth 20000 in
theorem gX10_score_X10_isPlayer : GoodIn wsX10_score (wsV RX10 70 RX10 yX10_isPlayer wsX10_isPlayer) := goodIn_app (goodIn_of _ (by decide +kernel)) ggX10_score_X10_isPlayer
set_option maxRecDepth 20000 in
theorem ggX10_score_X10_scoreOf : GoodIn wsX10_score wsX10_scoreOf := goodIn_r _ [14, 15, 16, 17, 4, 18, 10, 19, 20, 21, 22, 23, 24, 25, 26, 27, 28, 29, 30, 31, 32, 33, 34, 35, 36, 37, 38, 39, 40, 41, 42, 43, 44, 45, 46, 47, 48, 49, 50, 51, 52] (by decide +kernel) (by decide +kernel)
set_option maxRecDepth 20000 in
theorem gX10_score_X10_scoreOf : GoodIn wsX10_score (wsV RX10 112 RX10 yX10_scoreOf wsX10_scoreOf) := goodIn_app (goodIn_of _ (by decide +kernel)) ggX10_score_X10_scoreOf
theorem dX10_score_0 : decode cX10_score 0 = .ok (.aload_n 0, 1) := by decide +kernel
theorem dX10_score_1 : decode cX10_score 1 = .ok (.iload_n 1, 1) := by decide +kernel
theorem dX10_score_2 : decode cX10_score 2 = .ok (.invokevirtual 70, 3) := by decide +kernel
theorem dX10_score_5 : decode cX10_score 5 = .ok (.ifCond .eq 11, 3) := by decide +kernel
theorem dX10_score_8 : decode cX10_score 8 = .ok (.aload_n 0, 1) := by decide +kernel
theorem dX10_score_9 : decode cX10_score 9 = .ok (.iload_n 1, 1) := by decide +kernel
theorem dX10_score_10 : decode cX10_score 10 = .ok (.invokevirtual 112, 3) := by decide +kernel
theorem dX10_score_13 : decode cX10_score 13 = .ok (.goto 4, 3) := by decide +kernel
theorem dX10_score_16 : decode cX10_score 16 = .ok (.iconst 0, 1) := by decide +kernel
theorem dX10_score_17 : decode cX10_score 17 = .ok (.ireturn, 1) := by decide +kernel
set_option maxRecDepth 20000 in
theorem ggX10_numberOf_X10_scoreWith : GoodIn wsX10_numberOf wsX10_scoreWith := goodIn_r _ [6, 1, 7, 8, 9, 5, 10, 11, 12, 13, 14, 15, 16, 17, 18, 19, 20, 21, 22, 27, 28, 29, 30, 31, 32, 33, 34, 35, 36, 37, 38, 39, 40, 41, 42, 43, 44] (by decide +kernel) (by decide +kernel)
set_option maxRecDepth 20000 in
theorem gX10_numberOf_X10_scoreWith : GoodIn wsX10_numberOf (wsV RX10 109 RX10 yX10_scoreWith wsX10_scoreWith) := goodIn_app (goodIn_of _ (by decide +kernel)) ggX10_numberOf_X10_scoreWith
set_option maxRecDepth 20000 in
theorem ggX10_numberOf_X10_one : GoodIn wsX10_numberOf wsX10_one := goodIn_r _ [10, 1, 27, 28, 29, 30, 31, 32, 33, 34, 35, 36, 37, 38, 39, 40, 41, 42, 43, 44] (by decide +kernel) (by decide +kernel)
set_option maxRecDepth 20000 in
theorem gX10_numberOf_X10_one : GoodIn wsX10_numberOf (wsV RX10 92 RX10 yX10_one wsX10_one) := goodIn_app (goodIn_of _ (by decide +kernel)) ggX10_numberOf_X10_one
set_option maxRecDepth 20000 in
theorem ggX10_numberOf_X10_two : GoodIn wsX10_numberOf wsX10_two := goodIn_r _ [14, 1, 27, 28, 29, 30, 31, 32, 33, 34, 35, 36, 37, 38, 39, 40, 41, 42, 43, 44] (by decide +kernel) (by decide +kernel)
set_option maxRecDepth 20000 in
theorem gX10_numberOf_X10_two : GoodIn wsX10_numberOf (wsV RX10 96 RX10 yX10_two wsX10_two) := goodIn_app (goodIn_of _ (by decide +kernel)) ggX10_numberOf_X10_two
set_option maxRecDepth 20000 in
theorem ggX10_numberOf_X10_more : GoodIn wsX10_numberOf wsX10_more := goodIn_r _ [18, 1, 27, 28, 29, 30, 31, 32, 33, 34, 35, 36, 37, 38, 39, 40, 41, 42, 43, 44] (by decide +kernel) (by decide +kernel)
set_option maxRecDepth 20000 in
theorem gX10_numberOf_X10_more : GoodIn wsX10_numberOf (wsV RX10 99 RX10 yX10_more wsX10_more) := goodIn_app (goodIn_of _ (by decide +kernel)) ggX10_numberOf_X10_more
set_option maxRecDepth 20000 in
theorem ggX10_numberOf_X10_scoreOf : GoodIn wsX10_numberOf wsX10_scoreOf := goodIn_r _ [26, 2, 3, 4, 5, 6, 1, 7, 8, 9, 10, 11, 12, 13, 14, 15, 16, 17, 18, 19, 20, 21, 22, 27, 28, 29, 30, 31, 32, 33, 34, 35, 36, 37, 38, 39, 40, 41, 42, 43, 44] (by decide +kernel) (by decide +kernel)
set_option maxRecDepth 20000 in
theorem gX10_numberOf_X10_scoreOf : GoodIn wsX10_numberOf (wsV RX10 112 RX10 yX10_scoreOf wsX10_scoreOf) := goodIn_app (goodIn_of _ (by decide +kernel)) ggX10_numberOf_X10_scoreOf
theorem dX10_numberOf_0 : decode cX10_numberOf 0 = .ok (.iload_n 1, 1) := by decide +kernel
theorem dX10_numberOf_1 : decode cX10_numberOf 1 = .ok (.iconst 5, 1) := by decide +kernel
theorem dX10_numberOf_2 : decode cX10_numberOf 2 = .ok (.if_icmp .ne 10, 3) := by decide +kernel
theorem dX10_numberOf_5 : decode cX10_numberOf 5 = .ok (.aload_n 0, 1) := by decide +kernel
theorem dX10_numberOf_6 : decode cX10_numberOf 6 = .ok (.iload_n 2, 1) := by decide +kernel
theorem dX10_numberOf_7 : decode cX10_numberOf 7 = .ok (.iload_n 3, 1) := by decide +kernel
theorem dX10_numberOf_8 : decode cX10_numberOf 8 = .ok (.invokevirtual 109, 3) := by decide +kernel
theorem dX10_numberOf_11 : decode cX10_numberOf 11 = .ok (.ireturn, 1) := by decide +kernel
theorem dX10_numberOf_12 : decode cX10_numberOf 12 = .ok (.iconst 0, 1) := by decide +kernel
theorem dX10_numberOf_13 : decode cX10_numberOf 13 = .ok (.istore 4, 2) := by decide +kernel
theorem dX10_numberOf_15 : decode cX10_numberOf 15 = .ok (.iconst 0, 1) := by decide +kernel
theorem dX10_numberOf_16 : decode cX10_numberOf 16 = .ok (.istore 5, 2) := by decide +kernel
theorem dX10_numberOf_18 : decode cX10_numberOf 18 = .ok (.iload 5, 2) := by decide +kernel
theorem dX10_numberOf_20 : decode cX10_numberOf 20 = .ok (.aload_n 0, 1) := by decide +kernel
theorem dX10_numberOf_21 : decode cX10_numberOf 21 = .ok (.getfield 7, 3) := by decide +kernel
theorem dX10_numberOf_24 : decode cX10_numberOf 24 = .ok (.iconst 1, 1) := by decide +kernel
theorem dX10_numberOf_25 : decode cX10_numberOf 25 = .ok (.iaload, 1) := by decide +kernel
theorem dX10_numberOf_26 : decode cX10_numberOf 26 = .ok (.if_icmp .ge 236, 3) := by decide +kernel
theorem dX10_numberOf_29 : decode cX10_numberOf 29 = .ok (.aload_n 0, 1) := by decide +kernel
theorem dX10_numberOf_30 : decode cX10_numberOf 30 = .ok (.iload 5, 2) := by decide +kernel
theorem dX10_numberOf_32 : decode cX10_numberOf 32 = .ok (.invokevirtual 92, 3) := by decide +kernel
theorem dX10_numberOf_35 : decode cX10_numberOf 35 = .ok (.iload_n 2, 1) := by decide +kernel
theorem dX10_numberOf_36 : decode cX10_numberOf 36 = .ok (.if_icmp .eq 16, 3) := by decide +kernel
theorem dX10_numberOf_39 : decode cX10_numberOf 39 = .ok (.aload_n 0, 1) := by decide +kernel
theorem dX10_numberOf_40 : decode cX10_numberOf 40 = .ok (.iload 5, 2) := by decide +kernel
theorem dX10_numberOf_42 : decode cX10_numberOf 42 = .ok (.invokevirtual 96, 3) := by decide +kernel
theorem dX10_numberOf_45 : decode cX10_numberOf 45 = .ok (.iload_n 2, 1) := by decide +kernel
theorem dX10_numberOf_46 : decode cX10_numberOf 46 = .ok (.if_icmp .eq 6, 3) := by decide +kernel
theorem dX10_numberOf_49 : decode cX10_numberOf 49 = .ok (.goto 207, 3) := by decide +kernel
theorem dX10_numberOf_52 : decode cX10_numberOf 52 = .ok (.aload_n 0, 1) := by decide +kernel
theorem dX10_numberOf_53 : decode cX10_numberOf 53 = .ok (.iload 5, 2) := by decide +kernel
theorem dX10_numberOf_55 : decode cX10_numberOf 55 = .ok (.invokevirtual 92, 3) := by decide +kernel
theorem dX10_numberOf_58 : decode cX10_numberOf 58 = .ok (.iload_n 2, 1) := by decide +kernel
theorem dX10_numberOf_59 : decode cX10_numberOf 59 = .ok (.if_icmp .ne 12, 3) := by decide +kernel
theorem dX10_numberOf_62 : decode cX10_numberOf 62 = .ok (.aload_n 0, 1) := by decide +kernel
theorem dX10_numberOf_63 : decode cX10_numberOf 63 = .ok (.iload 5, 2) := by decide +kernel
theorem dX10_numberOf_65 : decode cX10_numberOf 65 = .ok (.invokevirtual 99, 3) := by decide +kernel
theorem dX10_numberOf_68 : decode cX10_numberOf 68 = .ok (.goto 10, 3) := by decide +kernel
theorem dX10_numberOf_71 : decode cX10_numberOf 71 = .ok (.aload_n 0, 1) := by decide +kernel
theorem dX10_numberOf_72 : decode cX10_numberOf 72 = .ok (.iload 5, 2) := by decide +kernel
theorem dX10_numberOf_74 : decode cX10_numberOf 74 = .ok (.invokevirtual 99, 3) := by decide +kernel
theorem dX10_numberOf_77 : decode cX10_numberOf 77 = .ok (.ineg, 1) := by decide +kernel
theorem dX10_numberOf_78 : decode cX10_numberOf 78 = .ok (.istore 6, 2) := by decide +kernel
theorem dX10_numberOf_80 : decode cX10_numberOf 80 = .ok (.aload_n 0, 1) := by decide +kernel
theorem dX10_numberOf_81 : decode cX10_numberOf 81 = .ok (.iload 5, 2) := by decide +kernel
theorem dX10_numberOf_83 : decode cX10_numberOf 83 = .ok (.invokevirtual 92, 3) := by decide +kernel
theorem dX10_numberOf_86 : decode cX10_numberOf 86 = .ok (.iload_n 2, 1) := by decide +kernel
theorem dX10_numberOf_87 : decode cX10_numberOf 87 = .ok (.if_icmp .ne 12, 3) := by decide +kernel
theorem dX10_numberOf_90 : decode cX10_numberOf 90 = .ok (.aload_n 0, 1) := by decide +kernel
theorem dX10_numberOf_91 : decode cX10_numberOf 91 = .ok (.iload 5, 2) := by decide +kernel
theorem dX10_numberOf_93 : decode cX10_numberOf 93 = .ok (.invokevirtual 96, 3) := by decide +kernel
theorem dX10_numberOf_96 : decode cX10_numberOf 96 = .ok (.goto 9, 3) := by decide +kernel
theorem dX10_numberOf_99 : decode cX10_numberOf 99 = .ok (.aload_n 0, 1) := by decide +kernel
theorem dX10_numberOf_100 : decode cX10_numberOf 100 = .ok (.iload 5, 2) := by decide +kernel
theorem dX10_numberOf_102 : decode cX10_numberOf 102 = .ok (.invokevirtual 92, 3) := by decide +kernel
theorem dX10_numberOf_105 : decode cX10_numberOf 105 = .ok (.istore 7, 2) := by decide +kernel
theorem dX10_numberOf_107 : decode cX10_numberOf 107 = .ok (.aload_n 0, 1) := by decide +kernel
theorem dX10_numberOf_108 : decode cX10_numberOf 108 = .ok (.getfield 7, 3) := by decide +kernel
theorem dX10_numberOf_111 : decode cX10_numberOf 111 = .ok (.bipush 11, 2) := by decide +kernel
theorem dX10_numberOf_113 : decode cX10_numberOf 113 = .ok (.iconst 4, 1) := by decide +kernel
theorem dX10_numberOf_114 : decode cX10_numberOf 114 = .ok (.iload 5, 2) := by decide +kernel
theorem dX10_numberOf_116 : decode cX10_numberOf 116 = .ok (.imul, 1) := by decide +kernel
theorem dX10_numberOf_117 : decode cX10_numberOf 117 = .ok (.iadd, 1) := by decide +kernel
theorem dX10_numberOf_118 : decode cX10_numberOf 118 = .ok (.aload_n 0, 1) := by decide +kernel
theorem dX10_numberOf_119 : decode cX10_numberOf 119 = .ok (.iload 5, 2) := by decide +kernel
theorem dX10_numberOf_121 : decode cX10_numberOf 121 = .ok (.invokevirtual 92, 3) := by decide +kernel
theorem dX10_numberOf_124 : decode cX10_numberOf 124 = .ok (.iload_n 2, 1) := by decide +kernel
theorem dX10_numberOf_125 : decode cX10_numberOf 125 = .ok (.if_icmp .ne 7, 3) := by decide +kernel
theorem dX10_numberOf_128 : decode cX10_numberOf 128 = .ok (.iconst 2, 1) := by decide +kernel
theorem dX10_numberOf_129 : decode cX10_numberOf 129 = .ok (.goto 4, 3) := by decide +kernel
theorem dX10_numberOf_132 : decode cX10_numberOf 132 = .ok (.iconst 3, 1) := by decide +kernel
theorem dX10_numberOf_133 : decode cX10_numberOf 133 = .ok (.iadd, 1) := by decide +kernel
theorem dX10_numberOf_134 : decode cX10_numberOf 134 = .ok (.iaload, 1) := by decide +kernel
theorem dX10_numberOf_135 : decode cX10_numberOf 135 = .ok (.istore 8, 2) := by decide +kernel
theorem dX10_numberOf_137 : decode cX10_numberOf 137 = .ok (.iload_n 1, 1) := by decide +kernel
theorem dX10_numberOf_138 : decode cX10_numberOf 138 = .ok (.tableswitch 82 0 3 #[30, 48, 58, 68], 30) := by decide +kernel
theorem dX10_numberOf_168 : decode cX10_numberOf 168 = .ok (.iload 4, 2) := by decide +kernel
theorem dX10_numberOf_170 : decode cX10_numberOf 170 = .ok (.iload 6, 2) := by decide +kernel
theorem dX10_numberOf_172 : decode cX10_numberOf 172 = .ok (.ifCond .le 7, 3) := by decide +kernel
theorem dX10_numberOf_175 : decode cX10_numberOf 175 = .ok (.iconst 1, 1) := by decide +kernel
theorem dX10_numberOf_176 : decode cX10_numberOf 176 = .ok (.goto 4, 3) := by decide +kernel
theorem dX10_numberOf_179 : decode cX10_numberOf 179 = .ok (.iconst 0, 1) := by decide +kernel
theorem dX10_numberOf_180 : decode cX10_numberOf 180 = .ok (.iadd, 1) := by decide +kernel
theorem dX10_numberOf_181 : decode cX10_numberOf 181 = .ok (.istore 4, 2) := by decide +kernel
theorem dX10_numberOf_183 : decode cX10_numberOf 183 = .ok (.goto 73, 3) := by decide +kernel
theorem dX10_numberOf_186 : decode cX10_numberOf 186 = .ok (.iload 4, 2) := by decide +kernel
theorem dX10_numberOf_188 : decode cX10_numberOf 188 = .ok (.iload 6, 2) := by decide +kernel
theorem dX10_numberOf_190 : decode cX10_numberOf 190 = .ok (.iadd, 1) := by decide +kernel
theorem dX10_numberOf_191 : decode cX10_numberOf 191 = .ok (.istore 4, 2) := by decide +kernel
theorem dX10_numberOf_193 : decode cX10_numberOf 193 = .ok (.goto 63, 3) := by decide +kernel
theorem dX10_numberOf_196 : decode cX10_numberOf 196 = .ok (.iload 4, 2) := by decide +kernel
theorem dX10_numberOf_198 : decode cX10_numberOf 198 = .ok (.iload 8, 2) := by decide +kernel
theorem dX10_numberOf_200 : decode cX10_numberOf 200 = .ok (.iadd, 1) := by decide +kernel
theorem dX10_numberOf_201 : decode cX10_numberOf 201 = .ok (.istore 4, 2) := by decide +kernel
theorem dX10_numberOf_203 : decode cX10_numberOf 203 = .ok (.goto 53, 3) := by decide +kernel
theorem dX10_numberOf_206 : decode cX10_numberOf 206 = .ok (.iload 4, 2) := by decide +kernel
theorem dX10_numberOf_208 : decode cX10_numberOf 208 = .ok (.aload_n 0, 1) := by decide +kernel
theorem dX10_numberOf_209 : decode cX10_numberOf 209 = .ok (.iload 7, 2) := by decide +kernel
theorem dX10_numberOf_211 : decode cX10_numberOf 211 = .ok (.invokevirtual 112, 3) := by decide +kernel
theorem dX10_numberOf_214 : decode cX10_numberOf 214 = .ok (.iadd, 1) := by decide +kernel
theorem dX10_numberOf_215 : decode cX10_numberOf 215 = .ok (.istore 4, 2) := by decide +kernel
theorem dX10_numberOf_217 : decode cX10_numberOf 217 = .ok (.goto 39, 3) := by decide +kernel
theorem dX10_numberOf_220 : decode cX10_numberOf 220 = .ok (.iload 4, 2) := by decide +kernel
theorem dX10_numberOf_222 : decode cX10_numberOf 222 = .ok (.iload 6, 2) := by decide +kernel
theorem dX10_numberOf_224 : decode cX10_numberOf 224 = .ok (.ifCond .le 14, 3) := by decide +kernel
theorem dX10_numberOf_227 : decode cX10_numberOf 227 = .ok (.iconst 2, 1) := by decide +kernel
theorem dX10_numberOf_228 : decode cX10_numberOf 228 = .ok (.aload_n 0, 1) := by decide +kernel
theorem dX10_numberOf_229 : decode cX10_numberOf 229 = .ok (.iload 7, 2) := by decide +kernel
theorem dX10_numberOf_231 : decode cX10_numberOf 231 = .ok (.invokevirtual 112, 3) := by decide +kernel
theorem dX10_numberOf_234 : decode cX10_numberOf 234 = .ok (.imul, 1) := by decide +kernel
theorem dX10_numberOf_235 : decode cX10_numberOf 235 = .ok (.goto 18, 3) := by decide +kernel
theorem dX10_numberOf_238 : decode cX10_numberOf 238 = .ok (.iload 6, 2) := by decide +kernel
theorem dX10_numberOf_240 : decode cX10_numberOf 240 = .ok (.ifCond .ne 12, 3) := by decide +kernel
theorem dX10_numberOf_243 : decode cX10_numberOf 243 = .ok (.aload_n 0, 1) := by decide +kernel
theorem dX10_numberOf_244 : decode cX10_numberOf 244 = .ok (.iload 7, 2) := by decide +kernel
theorem dX10_numberOf_246 : decode cX10_numberOf 246 = .ok (.invokevirtual 112, 3) := by decide +kernel
theorem dX10_numberOf_249 : decode cX10_numberOf 249 = .ok (.goto 4, 3) := by decide +kernel
theorem dX10_numberOf_252 : decode cX10_numberOf 252 = .ok (.iconst 0, 1) := by decide +kernel
theorem dX10_numberOf_253 : decode cX10_numberOf 253 = .ok (.iadd, 1) := by decide +kernel
theorem dX10_numberOf_254 : decode cX10_numberOf 254 = .ok (.istore 4, 2) := by decide +kernel
theorem dX10_numberOf_256 : decode cX10_numberOf 256 = .ok (.iinc 5 1, 3) := by decide +kernel
theorem dX10_numberOf_259 : decode cX10_numberOf 259 = .ok (.goto (-241), 3) := by decide +kernel
theorem dX10_numberOf_262 : decode cX10_numberOf 262 = .ok (.iload 4, 2) := by decide +kernel
theorem dX10_numberOf_264 : decode cX10_numberOf 264 = .ok (.ireturn, 1) := by decide +kernel
theorem dX10_mark_0 : decode cX10_mark 0 = .ok (.aload_n 0, 1) := by decide +kernel
theorem dX10_mark_1 : decode cX10_mark 1 = .ok (.getfield 19, 3) := by decide +kernel
theorem dX10_mark_4 : decode cX10_mark 4 = .ok (.iconst 5, 1) := by decide +kernel
theorem dX10_mark_5 : decode cX10_mark 5 = .ok (.iload_n 1, 1) := by decide +kernel
theorem dX10_mark_6 : decode cX10_mark 6 = .ok (.imul, 1) := by decide +kernel
theorem dX10_mark_7 : decode cX10_mark 7 = .ok (.iload_n 2, 1) := by decide +kernel
theorem dX10_mark_8 : decode cX10_mark 8 = .ok (.iadd, 1) := by decide +kernel
theorem dX10_mark_9 : decode cX10_mark 9 = .ok (.iaload, 1) := by decide +kernel
theorem dX10_mark_10 : decode cX10_mark 10 = .ok (.ireturn, 1) := by decide +kernel
set_option maxRecDepth 20000 in
theorem ggX10_alike_X10_n : GoodIn wsX10_alike wsX10_n := goodIn_r _ [5, 6, 12, 13, 14, 15, 16, 17, 18, 19, 20, 21, 22, 23, 24, 25, 26, 27, 28, 29] (by decide +kernel) (by decide +kernel)
set_option maxRecDepth 20000 in
theorem gX10_alike_X10_n : GoodIn wsX10_alike (wsV RX10 56 RX10 yX10_n wsX10_n) := goodIn_app (goodIn_of _ (by decide +kernel)) ggX10_alike_X10_n
set_option maxRecDepth 20000 in
theorem ggX10_alike_X10_mark : GoodIn wsX10_alike wsX10_mark := goodIn_r _ [10, 11, 12, 13, 14, 15, 16, 17, 18, 19, 20, 21, 22, 23, 24, 25, 26, 27, 28, 29] (by decide +kernel) (by decide +kernel)
set_option maxRecDepth 20000 in
theorem gX10_alike_X10_mark : GoodIn wsX10_alike (wsV RX10 115 RX10 yX10_mark wsX10_mark) := goodIn_app (goodIn_of _ (by decide +kernel)) ggX10_alike_X10_mark
theorem dX10_alike_0 : decode cX10_alike 0 = .ok (.iconst 0, 1) := by decide +kernel
theorem dX10_alike_1 : decode cX10_alike 1 = .ok (.istore_n 3, 1) := by decide +kernel
theorem dX10_alike_2 : decode cX10_alike 2 = .ok (.iconst 0, 1) := by decide +kernel
theorem dX10_alike_3 : decode cX10_alike 3 = .ok (.istore 4, 2) := by decide +kernel
theorem dX10_alike_5 : decode cX10_alike 5 = .ok (.iload 4, 2) := by decide +kernel
theorem dX10_alike_7 : decode cX10_alike 7 = .ok (.aload_n 0, 1) := by decide +kernel
theorem dX10_alike_8 : decode cX10_alike 8 = .ok (.invokevirtual 56, 3) := by decide +kernel
theorem dX10_alike_11 : decode cX10_alike 11 = .ok (.if_icmp .ge 73, 3) := by decide +kernel
theorem dX10_alike_14 : decode cX10_alike 14 = .ok (.iconst 1, 1) := by decide +kernel
theorem dX10_alike_15 : decode cX10_alike 15 = .ok (.istore 5, 2) := by decide +kernel
theorem dX10_alike_17 : decode cX10_alike 17 = .ok (.iconst 0, 1) := by decide +kernel
theorem dX10_alike_18 : decode cX10_alike 18 = .ok (.istore 6, 2) := by decide +kernel
theorem dX10_alike_20 : decode cX10_alike 20 = .ok (.iload 6, 2) := by decide +kernel
theorem dX10_alike_22 : decode cX10_alike 22 = .ok (.iload_n 2, 1) := by decide +kernel
theorem dX10_alike_23 : decode cX10_alike 23 = .ok (.if_icmp .ge 39, 3) := by decide +kernel
theorem dX10_alike_26 : decode cX10_alike 26 = .ok (.iload 5, 2) := by decide +kernel
theorem dX10_alike_28 : decode cX10_alike 28 = .ok (.ifCond .eq 34, 3) := by decide +kernel
theorem dX10_alike_31 : decode cX10_alike 31 = .ok (.aload_n 0, 1) := by decide +kernel
theorem dX10_alike_32 : decode cX10_alike 32 = .ok (.iload 4, 2) := by decide +kernel
theorem dX10_alike_34 : decode cX10_alike 34 = .ok (.iload 6, 2) := by decide +kernel
theorem dX10_alike_36 : decode cX10_alike 36 = .ok (.invokevirtual 115, 3) := by decide +kernel
theorem dX10_alike_39 : decode cX10_alike 39 = .ok (.aload_n 0, 1) := by decide +kernel
theorem dX10_alike_40 : decode cX10_alike 40 = .ok (.iload_n 1, 1) := by decide +kernel
theorem dX10_alike_41 : decode cX10_alike 41 = .ok (.iload 6, 2) := by decide +kernel
theorem dX10_alike_43 : decode cX10_alike 43 = .ok (.invokevirtual 115, 3) := by decide +kernel
theorem dX10_alike_46 : decode cX10_alike 46 = .ok (.if_icmp .ne 7, 3) := by decide +kernel
theorem dX10_alike_49 : decode cX10_alike 49 = .ok (.iconst 1, 1) := by decide +kernel
theorem dX10_alike_50 : decode cX10_alike 50 = .ok (.goto 4, 3) := by decide +kernel
theorem dX10_alike_53 : decode cX10_alike 53 = .ok (.iconst 0, 1) := by decide +kernel
theorem dX10_alike_54 : decode cX10_alike 54 = .ok (.istore 5, 2) := by decide +kernel
theorem dX10_alike_56 : decode cX10_alike 56 = .ok (.iinc 6 1, 3) := by decide +kernel
theorem dX10_alike_59 : decode cX10_alike 59 = .ok (.goto (-39), 3) := by decide +kernel
theorem dX10_alike_62 : decode cX10_alike 62 = .ok (.iload_n 3, 1) := by decide +kernel
theorem dX10_alike_63 : decode cX10_alike 63 = .ok (.iload 5, 2) := by decide +kernel
theorem dX10_alike_65 : decode cX10_alike 65 = .ok (.ifCond .eq 10, 3) := by decide +kernel
theorem dX10_alike_68 : decode cX10_alike 68 = .ok (.iconst 1, 1) := by decide +kernel
theorem dX10_alike_69 : decode cX10_alike 69 = .ok (.iload 4, 2) := by decide +kernel
theorem dX10_alike_71 : decode cX10_alike 71 = .ok (.ishl, 1) := by decide +kernel
theorem dX10_alike_72 : decode cX10_alike 72 = .ok (.goto 4, 3) := by decide +kernel
theorem dX10_alike_75 : decode cX10_alike 75 = .ok (.iconst 0, 1) := by decide +kernel
theorem dX10_alike_76 : decode cX10_alike 76 = .ok (.ior, 1) := by decide +kernel
theorem dX10_alike_77 : decode cX10_alike 77 = .ok (.istore_n 3, 1) := by decide +kernel
theorem dX10_alike_78 : decode cX10_alike 78 = .ok (.iinc 4 1, 3) := by decide +kernel
theorem dX10_alike_81 : decode cX10_alike 81 = .ok (.goto (-76), 3) := by decide +kernel
theorem dX10_alike_84 : decode cX10_alike 84 = .ok (.iload_n 3, 1) := by decide +kernel
theorem dX10_alike_85 : decode cX10_alike 85 = .ok (.ireturn, 1) := by decide +kernel
set_option maxRecDepth 20000 in
theorem ggX10_gather_X10_n : GoodIn wsX10_gather wsX10_n := goodIn_r _ [8, 2, 49, 50, 51, 52, 53, 54, 55, 56, 57, 58, 59, 60, 61, 62, 63, 64, 65, 66] (by decide +kernel) (by decide +kernel)
set_option maxRecDepth 20000 in
theorem gX10_gather_X10_n : GoodIn wsX10_gather (wsV RX10 56 RX10 yX10_n wsX10_n) := goodIn_app (goodIn_of _ (by decide +kernel)) ggX10_gather_X10_n
set_option maxRecDepth 20000 in
theorem ggX10_gather_X10_scoreOf : GoodIn wsX10_gather wsX10_scoreOf := goodIn_r _ [12, 13, 14, 15, 7, 16, 2, 17, 18, 19, 20, 21, 22, 23, 24, 25, 26, 27, 28, 29, 30, 31, 32, 49, 50, 51, 52, 53, 54, 55, 56, 57, 58, 59, 60, 61, 62, 63, 64, 65, 66] (by decide +kernel) (by decide +kernel)
set_option maxRecDepth 20000 in
theorem gX10_gather_X10_scoreOf : GoodIn wsX10_gather (wsV RX10 112 RX10 yX10_scoreOf wsX10_scoreOf) := goodIn_app (goodIn_of _ (by decide +kernel)) ggX10_gather_X10_scoreOf
set_option maxRecDepth 20000 in
theorem ggX10_gather_X10_alike : GoodIn wsX10_gather wsX10_alike := goodIn_r _ [36, 4, 5, 6, 7, 8, 2, 37, 38, 39, 40, 1, 49, 50, 51, 52, 53, 54, 55, 56, 57, 58, 59, 60, 61, 62, 63, 64, 65, 66] (by decide +kernel) (by decide +kernel)
set_option maxRecDepth 20000 in
theorem gX10_gather_X10_alike : GoodIn wsX10_gather (wsV RX10 118 RX10 yX10_alike wsX10_alike) := goodIn_app (goodIn_of _ (by decide +kernel)) ggX10_gather_X10_alike
set_option maxRecDepth 20000 in
theorem ggX10_gather_X10_numberOf : GoodIn wsX10_gather wsX10_numberOf := goodIn_r _ [44, 2, 13, 14, 15, 7, 16, 17, 18, 19, 20, 21, 22, 23, 24, 25, 26, 27, 28, 29, 30, 31, 32, 9, 10, 11, 12, 49, 50, 51, 52, 53, 54, 55, 56, 57, 58, 59, 60, 61, 62, 63, 64, 65, 66] (by decide +kernel) (by decide +kernel)
set_option maxRecDepth 20000 in
theorem gX10_gather_X10_numberOf : GoodIn wsX10_gather (wsV RX10 121 RX10 yX10_numberOf wsX10_numberOf) := goodIn_app (goodIn_of _ (by decide +kernel)) ggX10_gather_X10_numberOf
set_option maxRecDepth 20000 in
theorem ggX10_gather_X10_isAhead : GoodIn wsX10_gather wsX10_isAhead := goodIn_r _ [48, 2, 37, 38, 39, 7, 40, 1, 49, 50, 51, 52, 53, 54, 55, 56, 57, 58, 59, 60, 61, 62, 63, 64, 65, 66] (by decide +kernel) (by decide +kernel)
set_option maxRecDepth 20000 in
theorem gX10_gather_X10_isAhead : GoodIn wsX10_gather (wsV RX10 125 RX10 yX10_isAhead wsX10_isAhead) := goodIn_app (goodIn_of _ (by decide +kernel)) ggX10_gather_X10_isAhead
theorem dX10_gather_0 : decode cX10_gather 0 = .ok (.iconst 0, 1) := by decide +kernel
theorem dX10_gather_1 : decode cX10_gather 1 = .ok (.istore_n 1, 1) := by decide +kernel
theorem dX10_gather_2 : decode cX10_gather 2 = .ok (.iload_n 1, 1) := by decide +kernel
theorem dX10_gather_3 : decode cX10_gather 3 = .ok (.aload_n 0, 1) := by decide +kernel
theorem dX10_gather_4 : decode cX10_gather 4 = .ok (.invokevirtual 56, 3) := by decide +kernel
theorem dX10_gather_7 : decode cX10_gather 7 = .ok (.if_icmp .ge 22, 3) := by decide +kernel
theorem dX10_gather_10 : decode cX10_gather 10 = .ok (.aload_n 0, 1) := by decide +kernel
theorem dX10_gather_11 : decode cX10_gather 11 = .ok (.getfield 19, 3) := by decide +kernel
theorem dX10_gather_14 : decode cX10_gather 14 = .ok (.iconst 5, 1) := by decide +kernel
theorem dX10_gather_15 : decode cX10_gather 15 = .ok (.iload_n 1, 1) := by decide +kernel
theorem dX10_gather_16 : decode cX10_gather 16 = .ok (.imul, 1) := by decide +kernel
theorem dX10_gather_17 : decode cX10_gather 17 = .ok (.aload_n 0, 1) := by decide +kernel
theorem dX10_gather_18 : decode cX10_gather 18 = .ok (.iload_n 1, 1) := by decide +kernel
theorem dX10_gather_19 : decode cX10_gather 19 = .ok (.invokevirtual 112, 3) := by decide +kernel
theorem dX10_gather_22 : decode cX10_gather 22 = .ok (.iastore, 1) := by decide +kernel
theorem dX10_gather_23 : decode cX10_gather 23 = .ok (.iinc 1 1, 3) := by decide +kernel
theorem dX10_gather_26 : decode cX10_gather 26 = .ok (.goto (-24), 3) := by decide +kernel
theorem dX10_gather_29 : decode cX10_gather 29 = .ok (.iconst 1, 1) := by decide +kernel
theorem dX10_gather_30 : decode cX10_gather 30 = .ok (.istore_n 1, 1) := by decide +kernel
theorem dX10_gather_31 : decode cX10_gather 31 = .ok (.iload_n 1, 1) := by decide +kernel
theorem dX10_gather_32 : decode cX10_gather 32 = .ok (.aload_n 0, 1) := by decide +kernel
theorem dX10_gather_33 : decode cX10_gather 33 = .ok (.getfield 7, 3) := by decide +kernel
theorem dX10_gather_36 : decode cX10_gather 36 = .ok (.iconst 3, 1) := by decide +kernel
theorem dX10_gather_37 : decode cX10_gather 37 = .ok (.iaload, 1) := by decide +kernel
theorem dX10_gather_38 : decode cX10_gather 38 = .ok (.if_icmp .gt 57, 3) := by decide +kernel
theorem dX10_gather_41 : decode cX10_gather 41 = .ok (.iconst 0, 1) := by decide +kernel
theorem dX10_gather_42 : decode cX10_gather 42 = .ok (.istore_n 2, 1) := by decide +kernel
theorem dX10_gather_43 : decode cX10_gather 43 = .ok (.iload_n 2, 1) := by decide +kernel
theorem dX10_gather_44 : decode cX10_gather 44 = .ok (.aload_n 0, 1) := by decide +kernel
theorem dX10_gather_45 : decode cX10_gather 45 = .ok (.invokevirtual 56, 3) := by decide +kernel
theorem dX10_gather_48 : decode cX10_gather 48 = .ok (.if_icmp .ge 41, 3) := by decide +kernel
theorem dX10_gather_51 : decode cX10_gather 51 = .ok (.aload_n 0, 1) := by decide +kernel
theorem dX10_gather_52 : decode cX10_gather 52 = .ok (.getfield 19, 3) := by decide +kernel
theorem dX10_gather_55 : decode cX10_gather 55 = .ok (.iconst 5, 1) := by decide +kernel
theorem dX10_gather_56 : decode cX10_gather 56 = .ok (.iload_n 2, 1) := by decide +kernel
theorem dX10_gather_57 : decode cX10_gather 57 = .ok (.imul, 1) := by decide +kernel
theorem dX10_gather_58 : decode cX10_gather 58 = .ok (.iload_n 1, 1) := by decide +kernel
theorem dX10_gather_59 : decode cX10_gather 59 = .ok (.iadd, 1) := by decide +kernel
theorem dX10_gather_60 : decode cX10_gather 60 = .ok (.aload_n 0, 1) := by decide +kernel
theorem dX10_gather_61 : decode cX10_gather 61 = .ok (.aload_n 0, 1) := by decide +kernel
theorem dX10_gather_62 : decode cX10_gather 62 = .ok (.getfield 7, 3) := by decide +kernel
theorem dX10_gather_65 : decode cX10_gather 65 = .ok (.bipush 7, 2) := by decide +kernel
theorem dX10_gather_67 : decode cX10_gather 67 = .ok (.iload_n 1, 1) := by decide +kernel
theorem dX10_gather_68 : decode cX10_gather 68 = .ok (.iadd, 1) := by decide +kernel
theorem dX10_gather_69 : decode cX10_gather 69 = .ok (.iconst 1, 1) := by decide +kernel
theorem dX10_gather_70 : decode cX10_gather 70 = .ok (.isub, 1) := by decide +kernel
theorem dX10_gather_71 : decode cX10_gather 71 = .ok (.iaload, 1) := by decide +kernel
theorem dX10_gather_72 : decode cX10_gather 72 = .ok (.iload_n 2, 1) := by decide +kernel
theorem dX10_gather_73 : decode cX10_gather 73 = .ok (.aload_n 0, 1) := by decide +kernel
theorem dX10_gather_74 : decode cX10_gather 74 = .ok (.iload_n 2, 1) := by decide +kernel
theorem dX10_gather_75 : decode cX10_gather 75 = .ok (.iload_n 1, 1) := by decide +kernel
theorem dX10_gather_76 : decode cX10_gather 76 = .ok (.invokevirtual 118, 3) := by decide +kernel
theorem dX10_gather_79 : decode cX10_gather 79 = .ok (.invokevirtual 121, 3) := by decide +kernel
theorem dX10_gather_82 : decode cX10_gather 82 = .ok (.iastore, 1) := by decide +kernel
theorem dX10_gather_83 : decode cX10_gather 83 = .ok (.iinc 2 1, 3) := by decide +kernel
theorem dX10_gather_86 : decode cX10_gather 86 = .ok (.goto (-43), 3) := by decide +kernel
theorem dX10_gather_89 : decode cX10_gather 89 = .ok (.iinc 1 1, 3) := by decide +kernel
theorem dX10_gather_92 : decode cX10_gather 92 = .ok (.goto (-61), 3) := by decide +kernel
theorem dX10_gather_95 : decode cX10_gather 95 = .ok (.iconst 0, 1) := by decide +kernel
theorem dX10_gather_96 : decode cX10_gather 96 = .ok (.istore_n 1, 1) := by decide +kernel
theorem dX10_gather_97 : decode cX10_gather 97 = .ok (.iload_n 1, 1) := by decide +kernel
theorem dX10_gather_98 : decode cX10_gather 98 = .ok (.aload_n 0, 1) := by decide +kernel
theorem dX10_gather_99 : decode cX10_gather 99 = .ok (.invokevirtual 56, 3) := by decide +kernel
theorem dX10_gather_102 : decode cX10_gather 102 = .ok (.if_icmp .ge 58, 3) := by decide +kernel
theorem dX10_gather_105 : decode cX10_gather 105 = .ok (.iload_n 1, 1) := by decide +kernel
theorem dX10_gather_106 : decode cX10_gather 106 = .ok (.istore_n 2, 1) := by decide +kernel
theorem dX10_gather_107 : decode cX10_gather 107 = .ok (.iload_n 2, 1) := by decide +kernel
theorem dX10_gather_108 : decode cX10_gather 108 = .ok (.ifCond .le 39, 3) := by decide +kernel
theorem dX10_gather_111 : decode cX10_gather 111 = .ok (.aload_n 0, 1) := by decide +kernel
theorem dX10_gather_112 : decode cX10_gather 112 = .ok (.iload_n 1, 1) := by decide +kernel
theorem dX10_gather_113 : decode cX10_gather 113 = .ok (.aload_n 0, 1) := by decide +kernel
theorem dX10_gather_114 : decode cX10_gather 114 = .ok (.getfield 22, 3) := by decide +kernel
theorem dX10_gather_117 : decode cX10_gather 117 = .ok (.iload_n 2, 1) := by decide +kernel
theorem dX10_gather_118 : decode cX10_gather 118 = .ok (.iconst 1, 1) := by decide +kernel
theorem dX10_gather_119 : decode cX10_gather 119 = .ok (.isub, 1) := by decide +kernel
theorem dX10_gather_120 : decode cX10_gather 120 = .ok (.iaload, 1) := by decide +kernel
theorem dX10_gather_121 : decode cX10_gather 121 = .ok (.invokevirtual 125, 3) := by decide +kernel
theorem dX10_gather_124 : decode cX10_gather 124 = .ok (.ifCond .eq 23, 3) := by decide +kernel
theorem dX10_gather_127 : decode cX10_gather 127 = .ok (.aload_n 0, 1) := by decide +kernel
theorem dX10_gather_128 : decode cX10_gather 128 = .ok (.getfield 22, 3) := by decide +kernel
theorem dX10_gather_131 : decode cX10_gather 131 = .ok (.iload_n 2, 1) := by decide +kernel
theorem dX10_gather_132 : decode cX10_gather 132 = .ok (.aload_n 0, 1) := by decide +kernel
theorem dX10_gather_133 : decode cX10_gather 133 = .ok (.getfield 22, 3) := by decide +kernel
theorem dX10_gather_136 : decode cX10_gather 136 = .ok (.iload_n 2, 1) := by decide +kernel
theorem dX10_gather_137 : decode cX10_gather 137 = .ok (.iconst 1, 1) := by decide +kernel
theorem dX10_gather_138 : decode cX10_gather 138 = .ok (.isub, 1) := by decide +kernel
theorem dX10_gather_139 : decode cX10_gather 139 = .ok (.iaload, 1) := by decide +kernel
theorem dX10_gather_140 : decode cX10_gather 140 = .ok (.iastore, 1) := by decide +kernel
theorem dX10_gather_141 : decode cX10_gather 141 = .ok (.iinc 2 (-1), 3) := by decide +kernel
theorem dX10_gather_144 : decode cX10_gather 144 = .ok (.goto (-37), 3) := by decide +kernel
theorem dX10_gather_147 : decode cX10_gather 147 = .ok (.aload_n 0, 1) := by decide +kernel
theorem dX10_gather_148 : decode cX10_gather 148 = .ok (.getfield 22, 3) := by decide +kernel
theorem dX10_gather_151 : decode cX10_gather 151 = .ok (.iload_n 2, 1) := by decide +kernel
theorem dX10_gather_152 : decode cX10_gather 152 = .ok (.iload_n 1, 1) := by decide +kernel
theorem dX10_gather_153 : decode cX10_gather 153 = .ok (.iastore, 1) := by decide +kernel
theorem dX10_gather_154 : decode cX10_gather 154 = .ok (.iinc 1 1, 3) := by decide +kernel
theorem dX10_gather_157 : decode cX10_gather 157 = .ok (.goto (-60), 3) := by decide +kernel
theorem dX10_gather_160 : decode cX10_gather 160 = .ok (.return_, 1) := by decide +kernel
set_option maxRecDepth 20000 in
theorem ggX10_isAhead_X10_mark : GoodIn wsX10_isAhead wsX10_mark := goodIn_r _ [6, 7, 8, 9, 10, 11, 12, 13, 14, 15, 16, 17, 18, 19, 20, 21, 22, 23, 24, 25] (by decide +kernel) (by decide +kernel)
set_option maxRecDepth 20000 in
theorem gX10_isAhead_X10_mark : GoodIn wsX10_isAhead (wsV RX10 115 RX10 yX10_mark wsX10_mark) := goodIn_app (goodIn_of _ (by decide +kernel)) ggX10_isAhead_X10_mark
theorem dX10_isAhead_0 : decode cX10_isAhead 0 = .ok (.iconst 0, 1) := by decide +kernel
theorem dX10_isAhead_1 : decode cX10_isAhead 1 = .ok (.istore_n 3, 1) := by decide +kernel
theorem dX10_isAhead_2 : decode cX10_isAhead 2 = .ok (.iload_n 3, 1) := by decide +kernel
theorem dX10_isAhead_3 : decode cX10_isAhead 3 = .ok (.aload_n 0, 1) := by decide +kernel
theorem dX10_isAhead_4 : decode cX10_isAhead 4 = .ok (.getfield 7, 3) := by decide +kernel
theorem dX10_isAhead_7 : decode cX10_isAhead 7 = .ok (.iconst 3, 1) := by decide +kernel
theorem dX10_isAhead_8 : decode cX10_isAhead 8 = .ok (.iaload, 1) := by decide +kernel
theorem dX10_isAhead_9 : decode cX10_isAhead 9 = .ok (.if_icmp .gt 45, 3) := by decide +kernel
theorem dX10_isAhead_12 : decode cX10_isAhead 12 = .ok (.aload_n 0, 1) := by decide +kernel
theorem dX10_isAhead_13 : decode cX10_isAhead 13 = .ok (.iload_n 1, 1) := by decide +kernel
theorem dX10_isAhead_14 : decode cX10_isAhead 14 = .ok (.iload_n 3, 1) := by decide +kernel
theorem dX10_isAhead_15 : decode cX10_isAhead 15 = .ok (.invokevirtual 115, 3) := by decide +kernel
theorem dX10_isAhead_18 : decode cX10_isAhead 18 = .ok (.aload_n 0, 1) := by decide +kernel
theorem dX10_isAhead_19 : decode cX10_isAhead 19 = .ok (.iload_n 2, 1) := by decide +kernel
theorem dX10_isAhead_20 : decode cX10_isAhead 20 = .ok (.iload_n 3, 1) := by decide +kernel
theorem dX10_isAhead_21 : decode cX10_isAhead 21 = .ok (.invokevirtual 115, 3) := by decide +kernel
theorem dX10_isAhead_24 : decode cX10_isAhead 24 = .ok (.if_icmp .eq 24, 3) := by decide +kernel
theorem dX10_isAhead_27 : decode cX10_isAhead 27 = .ok (.aload_n 0, 1) := by decide +kernel
theorem dX10_isAhead_28 : decode cX10_isAhead 28 = .ok (.iload_n 1, 1) := by decide +kernel
theorem dX10_isAhead_29 : decode cX10_isAhead 29 = .ok (.iload_n 3, 1) := by decide +kernel
theorem dX10_isAhead_30 : decode cX10_isAhead 30 = .ok (.invokevirtual 115, 3) := by decide +kernel
theorem dX10_isAhead_33 : decode cX10_isAhead 33 = .ok (.aload_n 0, 1) := by decide +kernel
theorem dX10_isAhead_34 : decode cX10_isAhead 34 = .ok (.iload_n 2, 1) := by decide +kernel
theorem dX10_isAhead_35 : decode cX10_isAhead 35 = .ok (.iload_n 3, 1) := by decide +kernel
theorem dX10_isAhead_36 : decode cX10_isAhead 36 = .ok (.invokevirtual 115, 3) := by decide +kernel
theorem dX10_isAhead_39 : decode cX10_isAhead 39 = .ok (.if_icmp .le 7, 3) := by decide +kernel
theorem dX10_isAhead_42 : decode cX10_isAhead 42 = .ok (.iconst 1, 1) := by decide +kernel
theorem dX10_isAhead_43 : decode cX10_isAhead 43 = .ok (.goto 4, 3) := by decide +kernel
theorem dX10_isAhead_46 : decode cX10_isAhead 46 = .ok (.iconst 0, 1) := by decide +kernel
theorem dX10_isAhead_47 : decode cX10_isAhead 47 = .ok (.ireturn, 1) := by decide +kernel
theorem dX10_isAhead_48 : decode cX10_isAhead 48 = .ok (.iinc 3 1, 3) := by decide +kernel
theorem dX10_isAhead_51 : decode cX10_isAhead 51 = .ok (.goto (-49), 3) := by decide +kernel
theorem dX10_isAhead_54 : decode cX10_isAhead 54 = .ok (.iconst 0, 1) := by decide +kernel
theorem dX10_isAhead_55 : decode cX10_isAhead 55 = .ok (.ireturn, 1) := by decide +kernel
set_option maxRecDepth 20000 in
theorem ggX10_number_X10_isPlayer : GoodIn wsX10_number wsX10_isPlayer := goodIn_r _ [5, 6, 7, 8, 4, 9, 10, 57, 58, 59, 60, 61, 62, 63, 64, 65, 66, 67, 68, 69, 70, 71, 72, 73, 74] (by decide +kernel) (by decide +kernel)
set_option maxRecDepth 20000 in
theorem gX10_number_X10_isPlayer : GoodIn wsX10_number (wsV RX10 70 RX10 yX10_isPlayer wsX10_isPlayer) := goodIn_app (goodIn_of _ (by decide +kernel)) ggX10_number_X10_isPlayer
set_option maxRecDepth 20000 in
theorem ggX10_number_X10_gather : GoodIn wsX10_number wsX10_gather := goodIn_r _ [14, 15, 10, 16, 6, 7, 8, 4, 9, 17, 18, 19, 20, 21, 22, 23, 24, 25, 26, 27, 28, 29, 30, 31, 32, 33, 34, 35, 36, 37, 38, 39, 40, 41, 42, 43, 44, 45, 46, 47, 48, 49, 50, 51, 52, 53, 54, 55, 56, 57, 58, 59, 60, 61, 62, 63, 64, 65, 66, 67, 68, 69, 70, 71, 72, 73, 74] (by decide +kernel) (by decide +kernel)
set_option maxRecDepth 20000 in
theorem gX10_number_X10_gather : GoodIn wsX10_number (wsV RX10 129 RX10 yX10_gather wsX10_gather) := goodIn_app (goodIn_of _ (by decide +kernel)) ggX10_number_X10_gather
set_option maxRecDepth 20000 in
theorem ggX10_number_X10_alike : GoodIn wsX10_number wsX10_alike := goodIn_r _ [44, 6, 7, 8, 4, 9, 10, 45, 46, 47, 48, 15, 57, 58, 59, 60, 61, 62, 63, 64, 65, 66, 67, 68, 69, 70, 71, 72, 73, 74] (by decide +kernel) (by decide +kernel)
set_option maxRecDepth 20000 in
theorem gX10_number_X10_alike : GoodIn wsX10_number (wsV RX10 118 RX10 yX10_alike wsX10_alike) := goodIn_app (goodIn_of _ (by decide +kernel)) ggX10_number_X10_alike
set_option maxRecDepth 20000 in
theorem ggX10_number_X10_numberOf : GoodIn wsX10_number wsX10_numberOf := goodIn_r _ [52, 10, 21, 22, 23, 4, 24, 25, 26, 27, 28, 29, 30, 31, 32, 33, 34, 35, 36, 37, 38, 39, 40, 17, 18, 19, 20, 57, 58, 59, 60, 61, 62, 63, 64, 65, 66, 67, 68, 69, 70, 71, 72, 73, 74] (by decide +kernel) (by decide +kernel)
set_option maxRecDepth 20000 in
theorem gX10_number_X10_numberOf : GoodIn wsX10_number (wsV RX10 121 RX10 yX10_numberOf wsX10_numberOf) := goodIn_app (goodIn_of _ (by decide +kernel)) ggX10_number_X10_numberOf
theorem dX10_number_0 : decode cX10_number 0 = .ok (.aload_n 0, 1) := by decide +kernel
theorem dX10_number_1 : decode cX10_number 1 = .ok (.iload_n 2, 1) := by decide +kernel
theorem dX10_number_2 : decode cX10_number 2 = .ok (.invokevirtual 70, 3) := by decide +kernel
theorem dX10_number_5 : decode cX10_number 5 = .ok (.ifCond .eq 12, 3) := by decide +kernel
theorem dX10_number_8 : decode cX10_number 8 = .ok (.iload_n 1, 1) := by decide +kernel
theorem dX10_number_9 : decode cX10_number 9 = .ok (.ifCond .lt 8, 3) := by decide +kernel
theorem dX10_number_12 : decode cX10_number 12 = .ok (.iload_n 1, 1) := by decide +kernel
theorem dX10_number_13 : decode cX10_number 13 = .ok (.iconst 5, 1) := by decide +kernel
theorem dX10_number_14 : decode cX10_number 14 = .ok (.if_icmp .le 5, 3) := by decide +kernel
theorem dX10_number_17 : decode cX10_number 17 = .ok (.iconst 0, 1) := by decide +kernel
theorem dX10_number_18 : decode cX10_number 18 = .ok (.ireturn, 1) := by decide +kernel
theorem dX10_number_19 : decode cX10_number 19 = .ok (.aload_n 0, 1) := by decide +kernel
theorem dX10_number_20 : decode cX10_number 20 = .ok (.invokevirtual 129, 3) := by decide +kernel
theorem dX10_number_23 : decode cX10_number 23 = .ok (.aload_n 0, 1) := by decide +kernel
theorem dX10_number_24 : decode cX10_number 24 = .ok (.iload_n 1, 1) := by decide +kernel
theorem dX10_number_25 : decode cX10_number 25 = .ok (.iload_n 2, 1) := by decide +kernel
theorem dX10_number_26 : decode cX10_number 26 = .ok (.aload_n 0, 1) := by decide +kernel
theorem dX10_number_27 : decode cX10_number 27 = .ok (.iload_n 2, 1) := by decide +kernel
theorem dX10_number_28 : decode cX10_number 28 = .ok (.iconst 1, 1) := by decide +kernel
theorem dX10_number_29 : decode cX10_number 29 = .ok (.invokevirtual 118, 3) := by decide +kernel
theorem dX10_number_32 : decode cX10_number 32 = .ok (.invokevirtual 121, 3) := by decide +kernel
theorem dX10_number_35 : decode cX10_number 35 = .ok (.ireturn, 1) := by decide +kernel
set_option maxRecDepth 20000 in
theorem ggX10_table_X10_gather : GoodIn wsX10_table wsX10_gather := goodIn_r _ [6, 7, 8, 1, 9, 10, 11, 5, 12, 13, 14, 15, 16, 17, 18, 19, 20, 21, 22, 23, 24, 25, 26, 27, 28, 29, 30, 31, 32, 33, 34, 35, 36, 37, 38, 39, 40, 41, 42, 43, 44, 45, 46, 47, 48, 49, 50, 51, 52, 53, 54, 55, 56, 57, 58, 59, 60, 61, 62, 63, 64, 65, 66, 67, 68, 69, 70] (by decide +kernel) (by decide +kernel)
set_option maxRecDepth 20000 in
theorem gX10_table_X10_gather : GoodIn wsX10_table (wsV RX10 129 RX10 yX10_gather wsX10_gather) := goodIn_app (goodIn_of _ (by decide +kernel)) ggX10_table_X10_gather
set_option maxRecDepth 20000 in
theorem ggX10_table_X10_n : GoodIn wsX10_table wsX10_n := goodIn_r _ [12, 8, 53, 54, 55, 56, 57, 58, 59, 60, 61, 62, 63, 64, 65, 66, 67, 68, 69, 70] (by decide +kernel) (by decide +kernel)
set_option maxRecDepth 20000 in
theorem gX10_table_X10_n : GoodIn wsX10_table (wsV RX10 56 RX10 yX10_n wsX10_n) := goodIn_app (goodIn_of _ (by decide +kernel)) ggX10_table_X10_n
theorem dX10_table_0 : decode cX10_table 0 = .ok (.aload_n 0, 1) := by decide +kernel
theorem dX10_table_1 : decode cX10_table 1 = .ok (.invokevirtual 129, 3) := by decide +kernel
theorem dX10_table_4 : decode cX10_table 4 = .ok (.iload_n 1, 1) := by decide +kernel
theorem dX10_table_5 : decode cX10_table 5 = .ok (.ifCond .lt 20, 3) := by decide +kernel
theorem dX10_table_8 : decode cX10_table 8 = .ok (.iload_n 1, 1) := by decide +kernel
theorem dX10_table_9 : decode cX10_table 9 = .ok (.aload_n 0, 1) := by decide +kernel
theorem dX10_table_10 : decode cX10_table 10 = .ok (.invokevirtual 56, 3) := by decide +kernel
theorem dX10_table_13 : decode cX10_table 13 = .ok (.if_icmp .ge 12, 3) := by decide +kernel
theorem dX10_table_16 : decode cX10_table 16 = .ok (.aload_n 0, 1) := by decide +kernel
theorem dX10_table_17 : decode cX10_table 17 = .ok (.getfield 22, 3) := by decide +kernel
theorem dX10_table_20 : decode cX10_table 20 = .ok (.iload_n 1, 1) := by decide +kernel
theorem dX10_table_21 : decode cX10_table 21 = .ok (.iaload, 1) := by decide +kernel
theorem dX10_table_22 : decode cX10_table 22 = .ok (.goto 4, 3) := by decide +kernel
theorem dX10_table_25 : decode cX10_table 25 = .ok (.iconst (-1), 1) := by decide +kernel
theorem dX10_table_26 : decode cX10_table 26 = .ok (.ireturn, 1) := by decide +kernel
set_option maxRecDepth 20000 in
theorem ggX10_tied_X10_gather : GoodIn wsX10_tied wsX10_gather := goodIn_r _ [6, 7, 8, 1, 9, 10, 11, 5, 12, 13, 14, 15, 16, 17, 18, 19, 20, 21, 22, 23, 24, 25, 26, 27, 28, 29, 30, 31, 32, 33, 34, 35, 36, 37, 38, 39, 40, 41, 42, 43, 44, 45, 46, 47, 48, 49, 50, 51, 52, 53, 54, 55, 56, 57, 58, 59, 60, 61, 62, 63, 64, 65, 66, 67, 68, 69, 70] (by decide +kernel) (by decide +kernel)
set_option maxRecDepth 20000 in
theorem gX10_tied_X10_gather : GoodIn wsX10_tied (wsV RX10 129 RX10 yX10_gather wsX10_gather) := goodIn_app (goodIn_of _ (by decide +kernel)) ggX10_tied_X10_gather
set_option maxRecDepth 20000 in
theorem ggX10_tied_X10_n : GoodIn wsX10_tied wsX10_n := goodIn_r _ [12, 8, 53, 54, 55, 56, 57, 58, 59, 60, 61, 62, 63, 64, 65, 66, 67, 68, 69, 70] (by decide +kernel) (by decide +kernel)
set_option maxRecDepth 20000 in
theorem gX10_tied_X10_n : GoodIn wsX10_tied (wsV RX10 56 RX10 yX10_n wsX10_n) := goodIn_app (goodIn_of _ (by decide +kernel)) ggX10_tied_X10_n
set_option maxRecDepth 20000 in
theorem ggX10_tied_X10_isAhead : GoodIn wsX10_tied wsX10_isAhead := goodIn_r _ [52, 8, 41, 42, 43, 5, 44, 7, 53, 54, 55, 56, 57, 58, 59, 60, 61, 62, 63, 64, 65, 66, 67, 68, 69, 70] (by decide +kernel) (by decide +kernel)
set_option maxRecDepth 20000 in
theorem gX10_tied_X10_isAhead : GoodIn wsX10_tied (wsV RX10 125 RX10 yX10_isAhead wsX10_isAhead) := goodIn_app (goodIn_of _ (by decide +kernel)) ggX10_tied_X10_isAhead
theorem dX10_tied_0 : decode cX10_tied 0 = .ok (.aload_n 0, 1) := by decide +kernel
theorem dX10_tied_1 : decode cX10_tied 1 = .ok (.invokevirtual 129, 3) := by decide +kernel
theorem dX10_tied_4 : decode cX10_tied 4 = .ok (.iload_n 1, 1) := by decide +kernel
theorem dX10_tied_5 : decode cX10_tied 5 = .ok (.ifCond .lt 38, 3) := by decide +kernel
theorem dX10_tied_8 : decode cX10_tied 8 = .ok (.iload_n 1, 1) := by decide +kernel
theorem dX10_tied_9 : decode cX10_tied 9 = .ok (.aload_n 0, 1) := by decide +kernel
theorem dX10_tied_10 : decode cX10_tied 10 = .ok (.invokevirtual 56, 3) := by decide +kernel
theorem dX10_tied_13 : decode cX10_tied 13 = .ok (.iconst 1, 1) := by decide +kernel
theorem dX10_tied_14 : decode cX10_tied 14 = .ok (.isub, 1) := by decide +kernel
theorem dX10_tied_15 : decode cX10_tied 15 = .ok (.if_icmp .ge 28, 3) := by decide +kernel
theorem dX10_tied_18 : decode cX10_tied 18 = .ok (.aload_n 0, 1) := by decide +kernel
theorem dX10_tied_19 : decode cX10_tied 19 = .ok (.aload_n 0, 1) := by decide +kernel
theorem dX10_tied_20 : decode cX10_tied 20 = .ok (.getfield 22, 3) := by decide +kernel
theorem dX10_tied_23 : decode cX10_tied 23 = .ok (.iload_n 1, 1) := by decide +kernel
theorem dX10_tied_24 : decode cX10_tied 24 = .ok (.iaload, 1) := by decide +kernel
theorem dX10_tied_25 : decode cX10_tied 25 = .ok (.aload_n 0, 1) := by decide +kernel
theorem dX10_tied_26 : decode cX10_tied 26 = .ok (.getfield 22, 3) := by decide +kernel
theorem dX10_tied_29 : decode cX10_tied 29 = .ok (.iload_n 1, 1) := by decide +kernel
theorem dX10_tied_30 : decode cX10_tied 30 = .ok (.iconst 1, 1) := by decide +kernel
theorem dX10_tied_31 : decode cX10_tied 31 = .ok (.iadd, 1) := by decide +kernel
theorem dX10_tied_32 : decode cX10_tied 32 = .ok (.iaload, 1) := by decide +kernel
theorem dX10_tied_33 : decode cX10_tied 33 = .ok (.invokevirtual 125, 3) := by decide +kernel
theorem dX10_tied_36 : decode cX10_tied 36 = .ok (.ifCond .ne 7, 3) := by decide +kernel
theorem dX10_tied_39 : decode cX10_tied 39 = .ok (.iconst 1, 1) := by decide +kernel
theorem dX10_tied_40 : decode cX10_tied 40 = .ok (.goto 4, 3) := by decide +kernel
theorem dX10_tied_43 : decode cX10_tied 43 = .ok (.iconst 0, 1) := by decide +kernel
theorem dX10_tied_44 : decode cX10_tied 44 = .ok (.ireturn, 1) := by decide +kernel
set_option maxRecDepth 20000 in
theorem ggX10_findHeaps_X10_n : GoodIn wsX10_findHeaps wsX10_n := goodIn_r _ [8, 3, 25, 26, 27, 28, 29, 30, 31, 32, 33, 34, 35, 36, 37, 38, 39, 40, 41, 42] (by decide +kernel) (by decide +kernel)
set_option maxRecDepth 20000 in
theorem gX10_findHeaps_X10_n : GoodIn wsX10_findHeaps (wsV RX10 56 RX10 yX10_n wsX10_n) := goodIn_app (goodIn_of _ (by decide +kernel)) ggX10_findHeaps_X10_n
set_option maxRecDepth 20000 in
theorem ggX10_findHeaps_X10_more : GoodIn wsX10_findHeaps wsX10_more := goodIn_r _ [12, 3, 25, 26, 27, 28, 29, 30, 31, 32, 33, 34, 35, 36, 37, 38, 39, 40, 41, 42] (by decide +kernel) (by decide +kernel)
set_option maxRecDepth 20000 in
theorem gX10_findHeaps_X10_more : GoodIn wsX10_findHeaps (wsV RX10 99 RX10 yX10_more wsX10_more) := goodIn_app (goodIn_of _ (by decide +kernel)) ggX10_findHeaps_X10_more
set_option maxRecDepth 20000 in
theorem ggX10_findHeaps_X10_one : GoodIn wsX10_findHeaps wsX10_one := goodIn_r _ [16, 3, 25, 26, 27, 28, 29, 30, 31, 32, 33, 34, 35, 36, 37, 38, 39, 40, 41, 42] (by decide +kernel) (by decide +kernel)
set_option maxRecDepth 20000 in
theorem gX10_findHeaps_X10_one : GoodIn wsX10_findHeaps (wsV RX10 92 RX10 yX10_one wsX10_one) := goodIn_app (goodIn_of _ (by decide +kernel)) ggX10_findHeaps_X10_one
set_option maxRecDepth 20000 in
theorem ggX10_findHeaps_X10_two : GoodIn wsX10_findHeaps wsX10_two := goodIn_r _ [20, 3, 25, 26, 27, 28, 29, 30, 31, 32, 33, 34, 35, 36, 37, 38, 39, 40, 41, 42] (by decide +kernel) (by decide +kernel)
set_option maxRecDepth 20000 in
theorem gX10_findHeaps_X10_two : GoodIn wsX10_findHeaps (wsV RX10 96 RX10 yX10_two wsX10_two) := goodIn_app (goodIn_of _ (by decide +kernel)) ggX10_findHeaps_X10_two
set_option maxRecDepth 20000 in
theorem ggX10_findHeaps_X10_isFree : GoodIn wsX10_findHeaps wsX10_isFree := goodIn_r _ [24, 2, 1, 4, 5, 6, 7, 8, 3, 25, 26, 27, 28, 29, 30, 31, 32, 33, 34, 35, 36, 37, 38, 39, 40, 41, 42] (by decide +kernel) (by decide +kernel)
set_option maxRecDepth 20000 in
theorem gX10_findHeaps_X10_isFree : GoodIn wsX10_findHeaps (wsV RX10 132 RX10 yX10_isFree wsX10_isFree) := goodIn_app (goodIn_of _ (by decide +kernel)) ggX10_findHeaps_X10_isFree
theorem dX10_findHeaps_0 : decode cX10_findHeaps 0 = .ok (.iconst 0, 1) := by decide +kernel
theorem dX10_findHeaps_1 : decode cX10_findHeaps 1 = .ok (.istore_n 1, 1) := by decide +kernel
theorem dX10_findHeaps_2 : decode cX10_findHeaps 2 = .ok (.iload_n 1, 1) := by decide +kernel
theorem dX10_findHeaps_3 : decode cX10_findHeaps 3 = .ok (.aload_n 0, 1) := by decide +kernel
theorem dX10_findHeaps_4 : decode cX10_findHeaps 4 = .ok (.invokevirtual 56, 3) := by decide +kernel
theorem dX10_findHeaps_7 : decode cX10_findHeaps 7 = .ok (.if_icmp .ge 25, 3) := by decide +kernel
theorem dX10_findHeaps_10 : decode cX10_findHeaps 10 = .ok (.aload_n 0, 1) := by decide +kernel
theorem dX10_findHeaps_11 : decode cX10_findHeaps 11 = .ok (.getfield 25, 3) := by decide +kernel
theorem dX10_findHeaps_14 : decode cX10_findHeaps 14 = .ok (.iload_n 1, 1) := by decide +kernel
theorem dX10_findHeaps_15 : decode cX10_findHeaps 15 = .ok (.iconst 1, 1) := by decide +kernel
theorem dX10_findHeaps_16 : decode cX10_findHeaps 16 = .ok (.iload_n 1, 1) := by decide +kernel
theorem dX10_findHeaps_17 : decode cX10_findHeaps 17 = .ok (.ishl, 1) := by decide +kernel
theorem dX10_findHeaps_18 : decode cX10_findHeaps 18 = .ok (.iastore, 1) := by decide +kernel
theorem dX10_findHeaps_19 : decode cX10_findHeaps 19 = .ok (.aload_n 0, 1) := by decide +kernel
theorem dX10_findHeaps_20 : decode cX10_findHeaps 20 = .ok (.getfield 28, 3) := by decide +kernel
theorem dX10_findHeaps_23 : decode cX10_findHeaps 23 = .ok (.iload_n 1, 1) := by decide +kernel
theorem dX10_findHeaps_24 : decode cX10_findHeaps 24 = .ok (.iconst (-1), 1) := by decide +kernel
theorem dX10_findHeaps_25 : decode cX10_findHeaps 25 = .ok (.iastore, 1) := by decide +kernel
theorem dX10_findHeaps_26 : decode cX10_findHeaps 26 = .ok (.iinc 1 1, 3) := by decide +kernel
theorem dX10_findHeaps_29 : decode cX10_findHeaps 29 = .ok (.goto (-27), 3) := by decide +kernel
theorem dX10_findHeaps_32 : decode cX10_findHeaps 32 = .ok (.iconst 0, 1) := by decide +kernel
theorem dX10_findHeaps_33 : decode cX10_findHeaps 33 = .ok (.istore_n 1, 1) := by decide +kernel
theorem dX10_findHeaps_34 : decode cX10_findHeaps 34 = .ok (.iload_n 1, 1) := by decide +kernel
theorem dX10_findHeaps_35 : decode cX10_findHeaps 35 = .ok (.aload_n 0, 1) := by decide +kernel
theorem dX10_findHeaps_36 : decode cX10_findHeaps 36 = .ok (.getfield 7, 3) := by decide +kernel
theorem dX10_findHeaps_39 : decode cX10_findHeaps 39 = .ok (.iconst 1, 1) := by decide +kernel
theorem dX10_findHeaps_40 : decode cX10_findHeaps 40 = .ok (.iaload, 1) := by decide +kernel
theorem dX10_findHeaps_41 : decode cX10_findHeaps 41 = .ok (.if_icmp .ge 65, 3) := by decide +kernel
theorem dX10_findHeaps_44 : decode cX10_findHeaps 44 = .ok (.aload_n 0, 1) := by decide +kernel
theorem dX10_findHeaps_45 : decode cX10_findHeaps 45 = .ok (.iload_n 1, 1) := by decide +kernel
theorem dX10_findHeaps_46 : decode cX10_findHeaps 46 = .ok (.invokevirtual 99, 3) := by decide +kernel
theorem dX10_findHeaps_49 : decode cX10_findHeaps 49 = .ok (.ifCond .lt 23, 3) := by decide +kernel
theorem dX10_findHeaps_52 : decode cX10_findHeaps 52 = .ok (.aload_n 0, 1) := by decide +kernel
theorem dX10_findHeaps_53 : decode cX10_findHeaps 53 = .ok (.getfield 25, 3) := by decide +kernel
theorem dX10_findHeaps_56 : decode cX10_findHeaps 56 = .ok (.aload_n 0, 1) := by decide +kernel
theorem dX10_findHeaps_57 : decode cX10_findHeaps 57 = .ok (.iload_n 1, 1) := by decide +kernel
theorem dX10_findHeaps_58 : decode cX10_findHeaps 58 = .ok (.invokevirtual 92, 3) := by decide +kernel
theorem dX10_findHeaps_61 : decode cX10_findHeaps 61 = .ok (.dup2, 1) := by decide +kernel
theorem dX10_findHeaps_62 : decode cX10_findHeaps 62 = .ok (.iaload, 1) := by decide +kernel
theorem dX10_findHeaps_63 : decode cX10_findHeaps 63 = .ok (.iconst 1, 1) := by decide +kernel
theorem dX10_findHeaps_64 : decode cX10_findHeaps 64 = .ok (.aload_n 0, 1) := by decide +kernel
theorem dX10_findHeaps_65 : decode cX10_findHeaps 65 = .ok (.iload_n 1, 1) := by decide +kernel
theorem dX10_findHeaps_66 : decode cX10_findHeaps 66 = .ok (.invokevirtual 96, 3) := by decide +kernel
theorem dX10_findHeaps_69 : decode cX10_findHeaps 69 = .ok (.ishl, 1) := by decide +kernel
theorem dX10_findHeaps_70 : decode cX10_findHeaps 70 = .ok (.ior, 1) := by decide +kernel
theorem dX10_findHeaps_71 : decode cX10_findHeaps 71 = .ok (.iastore, 1) := by decide +kernel
theorem dX10_findHeaps_72 : decode cX10_findHeaps 72 = .ok (.aload_n 0, 1) := by decide +kernel
theorem dX10_findHeaps_73 : decode cX10_findHeaps 73 = .ok (.iload_n 1, 1) := by decide +kernel
theorem dX10_findHeaps_74 : decode cX10_findHeaps 74 = .ok (.invokevirtual 99, 3) := by decide +kernel
theorem dX10_findHeaps_77 : decode cX10_findHeaps 77 = .ok (.ifCond .gt 23, 3) := by decide +kernel
theorem dX10_findHeaps_80 : decode cX10_findHeaps 80 = .ok (.aload_n 0, 1) := by decide +kernel
theorem dX10_findHeaps_81 : decode cX10_findHeaps 81 = .ok (.getfield 25, 3) := by decide +kernel
theorem dX10_findHeaps_84 : decode cX10_findHeaps 84 = .ok (.aload_n 0, 1) := by decide +kernel
theorem dX10_findHeaps_85 : decode cX10_findHeaps 85 = .ok (.iload_n 1, 1) := by decide +kernel
theorem dX10_findHeaps_86 : decode cX10_findHeaps 86 = .ok (.invokevirtual 96, 3) := by decide +kernel
theorem dX10_findHeaps_89 : decode cX10_findHeaps 89 = .ok (.dup2, 1) := by decide +kernel
theorem dX10_findHeaps_90 : decode cX10_findHeaps 90 = .ok (.iaload, 1) := by decide +kernel
theorem dX10_findHeaps_91 : decode cX10_findHeaps 91 = .ok (.iconst 1, 1) := by decide +kernel
theorem dX10_findHeaps_92 : decode cX10_findHeaps 92 = .ok (.aload_n 0, 1) := by decide +kernel
theorem dX10_findHeaps_93 : decode cX10_findHeaps 93 = .ok (.iload_n 1, 1) := by decide +kernel
theorem dX10_findHeaps_94 : decode cX10_findHeaps 94 = .ok (.invokevirtual 92, 3) := by decide +kernel
theorem dX10_findHeaps_97 : decode cX10_findHeaps 97 = .ok (.ishl, 1) := by decide +kernel
theorem dX10_findHeaps_98 : decode cX10_findHeaps 98 = .ok (.ior, 1) := by decide +kernel
theorem dX10_findHeaps_99 : decode cX10_findHeaps 99 = .ok (.iastore, 1) := by decide +kernel
theorem dX10_findHeaps_100 : decode cX10_findHeaps 100 = .ok (.iinc 1 1, 3) := by decide +kernel
theorem dX10_findHeaps_103 : decode cX10_findHeaps 103 = .ok (.goto (-69), 3) := by decide +kernel
theorem dX10_findHeaps_106 : decode cX10_findHeaps 106 = .ok (.iconst 0, 1) := by decide +kernel
theorem dX10_findHeaps_107 : decode cX10_findHeaps 107 = .ok (.istore_n 1, 1) := by decide +kernel
theorem dX10_findHeaps_108 : decode cX10_findHeaps 108 = .ok (.iload_n 1, 1) := by decide +kernel
theorem dX10_findHeaps_109 : decode cX10_findHeaps 109 = .ok (.aload_n 0, 1) := by decide +kernel
theorem dX10_findHeaps_110 : decode cX10_findHeaps 110 = .ok (.invokevirtual 56, 3) := by decide +kernel
theorem dX10_findHeaps_113 : decode cX10_findHeaps 113 = .ok (.if_icmp .ge 54, 3) := by decide +kernel
theorem dX10_findHeaps_116 : decode cX10_findHeaps 116 = .ok (.iconst 0, 1) := by decide +kernel
theorem dX10_findHeaps_117 : decode cX10_findHeaps 117 = .ok (.istore_n 2, 1) := by decide +kernel
theorem dX10_findHeaps_118 : decode cX10_findHeaps 118 = .ok (.iload_n 2, 1) := by decide +kernel
theorem dX10_findHeaps_119 : decode cX10_findHeaps 119 = .ok (.aload_n 0, 1) := by decide +kernel
theorem dX10_findHeaps_120 : decode cX10_findHeaps 120 = .ok (.invokevirtual 56, 3) := by decide +kernel
theorem dX10_findHeaps_123 : decode cX10_findHeaps 123 = .ok (.if_icmp .ge 38, 3) := by decide +kernel
theorem dX10_findHeaps_126 : decode cX10_findHeaps 126 = .ok (.aload_n 0, 1) := by decide +kernel
theorem dX10_findHeaps_127 : decode cX10_findHeaps 127 = .ok (.getfield 25, 3) := by decide +kernel
theorem dX10_findHeaps_130 : decode cX10_findHeaps 130 = .ok (.iload_n 2, 1) := by decide +kernel
theorem dX10_findHeaps_131 : decode cX10_findHeaps 131 = .ok (.iaload, 1) := by decide +kernel
theorem dX10_findHeaps_132 : decode cX10_findHeaps 132 = .ok (.iload_n 1, 1) := by decide +kernel
theorem dX10_findHeaps_133 : decode cX10_findHeaps 133 = .ok (.ishr, 1) := by decide +kernel
theorem dX10_findHeaps_134 : decode cX10_findHeaps 134 = .ok (.iconst 1, 1) := by decide +kernel
theorem dX10_findHeaps_135 : decode cX10_findHeaps 135 = .ok (.iand, 1) := by decide +kernel
theorem dX10_findHeaps_136 : decode cX10_findHeaps 136 = .ok (.iconst 1, 1) := by decide +kernel
theorem dX10_findHeaps_137 : decode cX10_findHeaps 137 = .ok (.if_icmp .ne 18, 3) := by decide +kernel
theorem dX10_findHeaps_140 : decode cX10_findHeaps 140 = .ok (.aload_n 0, 1) := by decide +kernel
theorem dX10_findHeaps_141 : decode cX10_findHeaps 141 = .ok (.getfield 25, 3) := by decide +kernel
theorem dX10_findHeaps_144 : decode cX10_findHeaps 144 = .ok (.iload_n 2, 1) := by decide +kernel
theorem dX10_findHeaps_145 : decode cX10_findHeaps 145 = .ok (.dup2, 1) := by decide +kernel
theorem dX10_findHeaps_146 : decode cX10_findHeaps 146 = .ok (.iaload, 1) := by decide +kernel
theorem dX10_findHeaps_147 : decode cX10_findHeaps 147 = .ok (.aload_n 0, 1) := by decide +kernel
theorem dX10_findHeaps_148 : decode cX10_findHeaps 148 = .ok (.getfield 25, 3) := by decide +kernel
theorem dX10_findHeaps_151 : decode cX10_findHeaps 151 = .ok (.iload_n 1, 1) := by decide +kernel
theorem dX10_findHeaps_152 : decode cX10_findHeaps 152 = .ok (.iaload, 1) := by decide +kernel
theorem dX10_findHeaps_153 : decode cX10_findHeaps 153 = .ok (.ior, 1) := by decide +kernel
theorem dX10_findHeaps_154 : decode cX10_findHeaps 154 = .ok (.iastore, 1) := by decide +kernel
theorem dX10_findHeaps_155 : decode cX10_findHeaps 155 = .ok (.iinc 2 1, 3) := by decide +kernel
theorem dX10_findHeaps_158 : decode cX10_findHeaps 158 = .ok (.goto (-40), 3) := by decide +kernel
theorem dX10_findHeaps_161 : decode cX10_findHeaps 161 = .ok (.iinc 1 1, 3) := by decide +kernel
theorem dX10_findHeaps_164 : decode cX10_findHeaps 164 = .ok (.goto (-56), 3) := by decide +kernel
theorem dX10_findHeaps_167 : decode cX10_findHeaps 167 = .ok (.iconst 0, 1) := by decide +kernel
theorem dX10_findHeaps_168 : decode cX10_findHeaps 168 = .ok (.istore_n 1, 1) := by decide +kernel
theorem dX10_findHeaps_169 : decode cX10_findHeaps 169 = .ok (.iconst 1, 1) := by decide +kernel
theorem dX10_findHeaps_170 : decode cX10_findHeaps 170 = .ok (.istore_n 2, 1) := by decide +kernel
theorem dX10_findHeaps_171 : decode cX10_findHeaps 171 = .ok (.iload_n 2, 1) := by decide +kernel
theorem dX10_findHeaps_172 : decode cX10_findHeaps 172 = .ok (.ifCond .eq 128, 3) := by decide +kernel
theorem dX10_findHeaps_175 : decode cX10_findHeaps 175 = .ok (.iconst (-1), 1) := by decide +kernel
theorem dX10_findHeaps_176 : decode cX10_findHeaps 176 = .ok (.istore_n 3, 1) := by decide +kernel
theorem dX10_findHeaps_177 : decode cX10_findHeaps 177 = .ok (.iconst 0, 1) := by decide +kernel
theorem dX10_findHeaps_178 : decode cX10_findHeaps 178 = .ok (.istore 4, 2) := by decide +kernel
theorem dX10_findHeaps_180 : decode cX10_findHeaps 180 = .ok (.iload 4, 2) := by decide +kernel
theorem dX10_findHeaps_182 : decode cX10_findHeaps 182 = .ok (.aload_n 0, 1) := by decide +kernel
theorem dX10_findHeaps_183 : decode cX10_findHeaps 183 = .ok (.invokevirtual 56, 3) := by decide +kernel
theorem dX10_findHeaps_186 : decode cX10_findHeaps 186 = .ok (.if_icmp .ge 35, 3) := by decide +kernel
theorem dX10_findHeaps_189 : decode cX10_findHeaps 189 = .ok (.iload_n 3, 1) := by decide +kernel
theorem dX10_findHeaps_190 : decode cX10_findHeaps 190 = .ok (.ifCond .ge 31, 3) := by decide +kernel
theorem dX10_findHeaps_193 : decode cX10_findHeaps 193 = .ok (.aload_n 0, 1) := by decide +kernel
theorem dX10_findHeaps_194 : decode cX10_findHeaps 194 = .ok (.getfield 28, 3) := by decide +kernel
theorem dX10_findHeaps_197 : decode cX10_findHeaps 197 = .ok (.iload 4, 2) := by decide +kernel
theorem dX10_findHeaps_199 : decode cX10_findHeaps 199 = .ok (.iaload, 1) := by decide +kernel
theorem dX10_findHeaps_200 : decode cX10_findHeaps 200 = .ok (.ifCond .ge 15, 3) := by decide +kernel
theorem dX10_findHeaps_203 : decode cX10_findHeaps 203 = .ok (.aload_n 0, 1) := by decide +kernel
theorem dX10_findHeaps_204 : decode cX10_findHeaps 204 = .ok (.iload 4, 2) := by decide +kernel
theorem dX10_findHeaps_206 : decode cX10_findHeaps 206 = .ok (.invokevirtual 132, 3) := by decide +kernel
theorem dX10_findHeaps_209 : decode cX10_findHeaps 209 = .ok (.ifCond .eq 6, 3) := by decide +kernel
theorem dX10_findHeaps_212 : decode cX10_findHeaps 212 = .ok (.iload 4, 2) := by decide +kernel
theorem dX10_findHeaps_214 : decode cX10_findHeaps 214 = .ok (.istore_n 3, 1) := by decide +kernel
theorem dX10_findHeaps_215 : decode cX10_findHeaps 215 = .ok (.iinc 4 1, 3) := by decide +kernel
theorem dX10_findHeaps_218 : decode cX10_findHeaps 218 = .ok (.goto (-38), 3) := by decide +kernel
theorem dX10_findHeaps_221 : decode cX10_findHeaps 221 = .ok (.iload_n 3, 1) := by decide +kernel
theorem dX10_findHeaps_222 : decode cX10_findHeaps 222 = .ok (.ifCond .lt 7, 3) := by decide +kernel
theorem dX10_findHeaps_225 : decode cX10_findHeaps 225 = .ok (.iconst 1, 1) := by decide +kernel
theorem dX10_findHeaps_226 : decode cX10_findHeaps 226 = .ok (.goto 4, 3) := by decide +kernel
theorem dX10_findHeaps_229 : decode cX10_findHeaps 229 = .ok (.iconst 0, 1) := by decide +kernel
theorem dX10_findHeaps_230 : decode cX10_findHeaps 230 = .ok (.istore_n 2, 1) := by decide +kernel
theorem dX10_findHeaps_231 : decode cX10_findHeaps 231 = .ok (.iload_n 2, 1) := by decide +kernel
theorem dX10_findHeaps_232 : decode cX10_findHeaps 232 = .ok (.ifCond .ne 6, 3) := by decide +kernel
theorem dX10_findHeaps_235 : decode cX10_findHeaps 235 = .ok (.goto (-64), 3) := by decide +kernel
theorem dX10_findHeaps_238 : decode cX10_findHeaps 238 = .ok (.iconst 0, 1) := by decide +kernel
theorem dX10_findHeaps_239 : decode cX10_findHeaps 239 = .ok (.istore 4, 2) := by decide +kernel
theorem dX10_findHeaps_241 : decode cX10_findHeaps 241 = .ok (.iload 4, 2) := by decide +kernel
theorem dX10_findHeaps_243 : decode cX10_findHeaps 243 = .ok (.aload_n 0, 1) := by decide +kernel
theorem dX10_findHeaps_244 : decode cX10_findHeaps 244 = .ok (.invokevirtual 56, 3) := by decide +kernel
theorem dX10_findHeaps_247 : decode cX10_findHeaps 247 = .ok (.if_icmp .ge 47, 3) := by decide +kernel
theorem dX10_findHeaps_250 : decode cX10_findHeaps 250 = .ok (.aload_n 0, 1) := by decide +kernel
theorem dX10_findHeaps_251 : decode cX10_findHeaps 251 = .ok (.getfield 25, 3) := by decide +kernel
theorem dX10_findHeaps_254 : decode cX10_findHeaps 254 = .ok (.iload_n 3, 1) := by decide +kernel
theorem dX10_findHeaps_255 : decode cX10_findHeaps 255 = .ok (.iaload, 1) := by decide +kernel
theorem dX10_findHeaps_256 : decode cX10_findHeaps 256 = .ok (.iload 4, 2) := by decide +kernel
theorem dX10_findHeaps_258 : decode cX10_findHeaps 258 = .ok (.ishr, 1) := by decide +kernel
theorem dX10_findHeaps_259 : decode cX10_findHeaps 259 = .ok (.iconst 1, 1) := by decide +kernel
theorem dX10_findHeaps_260 : decode cX10_findHeaps 260 = .ok (.iand, 1) := by decide +kernel
theorem dX10_findHeaps_261 : decode cX10_findHeaps 261 = .ok (.iconst 1, 1) := by decide +kernel
theorem dX10_findHeaps_262 : decode cX10_findHeaps 262 = .ok (.if_icmp .ne 26, 3) := by decide +kernel
theorem dX10_findHeaps_265 : decode cX10_findHeaps 265 = .ok (.aload_n 0, 1) := by decide +kernel
theorem dX10_findHeaps_266 : decode cX10_findHeaps 266 = .ok (.getfield 25, 3) := by decide +kernel
theorem dX10_findHeaps_269 : decode cX10_findHeaps 269 = .ok (.iload 4, 2) := by decide +kernel
theorem dX10_findHeaps_271 : decode cX10_findHeaps 271 = .ok (.iaload, 1) := by decide +kernel
theorem dX10_findHeaps_272 : decode cX10_findHeaps 272 = .ok (.iload_n 3, 1) := by decide +kernel
theorem dX10_findHeaps_273 : decode cX10_findHeaps 273 = .ok (.ishr, 1) := by decide +kernel
theorem dX10_findHeaps_274 : decode cX10_findHeaps 274 = .ok (.iconst 1, 1) := by decide +kernel
theorem dX10_findHeaps_275 : decode cX10_findHeaps 275 = .ok (.iand, 1) := by decide +kernel
theorem dX10_findHeaps_276 : decode cX10_findHeaps 276 = .ok (.iconst 1, 1) := by decide +kernel
theorem dX10_findHeaps_277 : decode cX10_findHeaps 277 = .ok (.if_icmp .ne 11, 3) := by decide +kernel
theorem dX10_findHeaps_280 : decode cX10_findHeaps 280 = .ok (.aload_n 0, 1) := by decide +kernel
theorem dX10_findHeaps_281 : decode cX10_findHeaps 281 = .ok (.getfield 28, 3) := by decide +kernel
theorem dX10_findHeaps_284 : decode cX10_findHeaps 284 = .ok (.iload 4, 2) := by decide +kernel
theorem dX10_findHeaps_286 : decode cX10_findHeaps 286 = .ok (.iload_n 1, 1) := by decide +kernel
theorem dX10_findHeaps_287 : decode cX10_findHeaps 287 = .ok (.iastore, 1) := by decide +kernel
theorem dX10_findHeaps_288 : decode cX10_findHeaps 288 = .ok (.iinc 4 1, 3) := by decide +kernel
theorem dX10_findHeaps_291 : decode cX10_findHeaps 291 = .ok (.goto (-50), 3) := by decide +kernel
theorem dX10_findHeaps_294 : decode cX10_findHeaps 294 = .ok (.iinc 1 1, 3) := by decide +kernel
theorem dX10_findHeaps_297 : decode cX10_findHeaps 297 = .ok (.goto (-126), 3) := by decide +kernel
theorem dX10_findHeaps_300 : decode cX10_findHeaps 300 = .ok (.iload_n 1, 1) := by decide +kernel
theorem dX10_findHeaps_301 : decode cX10_findHeaps 301 = .ok (.ireturn, 1) := by decide +kernel
set_option maxRecDepth 20000 in
theorem ggX10_isFree_X10_n : GoodIn wsX10_isFree wsX10_n := goodIn_r _ [7, 8, 9, 10, 11, 12, 13, 14, 15, 16, 17, 18, 19, 20, 21, 22, 23, 24, 25, 26] (by decide +kernel) (by decide +kernel)
set_option maxRecDepth 20000 in
theorem gX10_isFree_X10_n : GoodIn wsX10_isFree (wsV RX10 56 RX10 yX10_n wsX10_n) := goodIn_app (goodIn_of _ (by decide +kernel)) ggX10_isFree_X10_n
theorem dX10_isFree_0 : decode cX10_isFree 0 = .ok (.iconst 1, 1) := by decide +kernel
theorem dX10_isFree_1 : decode cX10_isFree 1 = .ok (.istore_n 2, 1) := by decide +kernel
theorem dX10_isFree_2 : decode cX10_isFree 2 = .ok (.iconst 0, 1) := by decide +kernel
theorem dX10_isFree_3 : decode cX10_isFree 3 = .ok (.istore_n 3, 1) := by decide +kernel
theorem dX10_isFree_4 : decode cX10_isFree 4 = .ok (.iload_n 3, 1) := by decide +kernel
theorem dX10_isFree_5 : decode cX10_isFree 5 = .ok (.aload_n 0, 1) := by decide +kernel
theorem dX10_isFree_6 : decode cX10_isFree 6 = .ok (.invokevirtual 56, 3) := by decide +kernel
theorem dX10_isFree_9 : decode cX10_isFree 9 = .ok (.if_icmp .ge 55, 3) := by decide +kernel
theorem dX10_isFree_12 : decode cX10_isFree 12 = .ok (.iload_n 2, 1) := by decide +kernel
theorem dX10_isFree_13 : decode cX10_isFree 13 = .ok (.ifCond .eq 51, 3) := by decide +kernel
theorem dX10_isFree_16 : decode cX10_isFree 16 = .ok (.aload_n 0, 1) := by decide +kernel
theorem dX10_isFree_17 : decode cX10_isFree 17 = .ok (.getfield 28, 3) := by decide +kernel
theorem dX10_isFree_20 : decode cX10_isFree 20 = .ok (.iload_n 3, 1) := by decide +kernel
theorem dX10_isFree_21 : decode cX10_isFree 21 = .ok (.iaload, 1) := by decide +kernel
theorem dX10_isFree_22 : decode cX10_isFree 22 = .ok (.ifCond .ge 30, 3) := by decide +kernel
theorem dX10_isFree_25 : decode cX10_isFree 25 = .ok (.aload_n 0, 1) := by decide +kernel
theorem dX10_isFree_26 : decode cX10_isFree 26 = .ok (.getfield 25, 3) := by decide +kernel
theorem dX10_isFree_29 : decode cX10_isFree 29 = .ok (.iload_n 3, 1) := by decide +kernel
theorem dX10_isFree_30 : decode cX10_isFree 30 = .ok (.iaload, 1) := by decide +kernel
theorem dX10_isFree_31 : decode cX10_isFree 31 = .ok (.iload_n 1, 1) := by decide +kernel
theorem dX10_isFree_32 : decode cX10_isFree 32 = .ok (.ishr, 1) := by decide +kernel
theorem dX10_isFree_33 : decode cX10_isFree 33 = .ok (.iconst 1, 1) := by decide +kernel
theorem dX10_isFree_34 : decode cX10_isFree 34 = .ok (.iand, 1) := by decide +kernel
theorem dX10_isFree_35 : decode cX10_isFree 35 = .ok (.ifCond .eq 17, 3) := by decide +kernel
theorem dX10_isFree_38 : decode cX10_isFree 38 = .ok (.aload_n 0, 1) := by decide +kernel
theorem dX10_isFree_39 : decode cX10_isFree 39 = .ok (.getfield 25, 3) := by decide +kernel
theorem dX10_isFree_42 : decode cX10_isFree 42 = .ok (.iload_n 1, 1) := by decide +kernel
theorem dX10_isFree_43 : decode cX10_isFree 43 = .ok (.iaload, 1) := by decide +kernel
theorem dX10_isFree_44 : decode cX10_isFree 44 = .ok (.iload_n 3, 1) := by decide +kernel
theorem dX10_isFree_45 : decode cX10_isFree 45 = .ok (.ishr, 1) := by decide +kernel
theorem dX10_isFree_46 : decode cX10_isFree 46 = .ok (.iconst 1, 1) := by decide +kernel
theorem dX10_isFree_47 : decode cX10_isFree 47 = .ok (.iand, 1) := by decide +kernel
theorem dX10_isFree_48 : decode cX10_isFree 48 = .ok (.iconst 1, 1) := by decide +kernel
theorem dX10_isFree_49 : decode cX10_isFree 49 = .ok (.if_icmp .ne 7, 3) := by decide +kernel
theorem dX10_isFree_52 : decode cX10_isFree 52 = .ok (.iconst 1, 1) := by decide +kernel
theorem dX10_isFree_53 : decode cX10_isFree 53 = .ok (.goto 4, 3) := by decide +kernel
theorem dX10_isFree_56 : decode cX10_isFree 56 = .ok (.iconst 0, 1) := by decide +kernel
theorem dX10_isFree_57 : decode cX10_isFree 57 = .ok (.istore_n 2, 1) := by decide +kernel
theorem dX10_isFree_58 : decode cX10_isFree 58 = .ok (.iinc 3 1, 3) := by decide +kernel
theorem dX10_isFree_61 : decode cX10_isFree 61 = .ok (.goto (-57), 3) := by decide +kernel
theorem dX10_isFree_64 : decode cX10_isFree 64 = .ok (.iload_n 2, 1) := by decide +kernel
theorem dX10_isFree_65 : decode cX10_isFree 65 = .ok (.ireturn, 1) := by decide +kernel
set_option maxRecDepth 20000 in
theorem ggX10_heaps_X10_findHeaps : GoodIn wsX10_heaps wsX10_findHeaps := goodIn_r _ [5, 6, 7, 8, 9, 10, 11, 4, 12, 13, 14, 15, 16, 17, 18, 19, 20, 21, 22, 23, 24, 25, 26, 27, 28, 29, 30, 31, 32, 33, 34, 35, 36, 37, 38, 39, 40, 41, 42, 43, 44, 45, 46] (by decide +kernel) (by decide +kernel)
set_option maxRecDepth 20000 in
theorem gX10_heaps_X10_findHeaps : GoodIn wsX10_heaps (wsV RX10 135 RX10 yX10_findHeaps wsX10_findHeaps) := goodIn_app (goodIn_of _ (by decide +kernel)) ggX10_heaps_X10_findHeaps
theorem dX10_heaps_0 : decode cX10_heaps 0 = .ok (.aload_n 0, 1) := by decide +kernel
theorem dX10_heaps_1 : decode cX10_heaps 1 = .ok (.invokevirtual 135, 3) := by decide +kernel
theorem dX10_heaps_4 : decode cX10_heaps 4 = .ok (.ireturn, 1) := by decide +kernel
set_option maxRecDepth 20000 in
theorem ggX10_heap_X10_isPlayer : GoodIn wsX10_heap wsX10_isPlayer := goodIn_r _ [6, 7, 8, 9, 5, 10, 11, 33, 34, 35, 36, 37, 38, 39, 40, 41, 42, 43, 44, 45, 46, 47, 48, 49, 50] (by decide +kernel) (by decide +kernel)
set_option maxRecDepth 20000 in
theorem gX10_heap_X10_isPlayer : GoodIn wsX10_heap (wsV RX10 70 RX10 yX10_isPlayer wsX10_isPlayer) := goodIn_app (goodIn_of _ (by decide +kernel)) ggX10_heap_X10_isPlayer
set_option maxRecDepth 20000 in
theorem ggX10_heap_X10_findHeaps : GoodIn wsX10_heap wsX10_findHeaps := goodIn_r _ [15, 16, 1, 11, 7, 8, 9, 5, 10, 17, 18, 19, 20, 21, 22, 23, 24, 25, 26, 27, 28, 29, 30, 31, 32, 33, 34, 35, 36, 37, 38, 39, 40, 41, 42, 43, 44, 45, 46, 47, 48, 49, 50] (by decide +kernel) (by decide +kernel)
set_option maxRecDepth 20000 in
theorem gX10_heap_X10_findHeaps : GoodIn wsX10_heap (wsV RX10 135 RX10 yX10_findHeaps wsX10_findHeaps) := goodIn_app (goodIn_of _ (by decide +kernel)) ggX10_heap_X10_findHeaps
theorem dX10_heap_0 : decode cX10_heap 0 = .ok (.aload_n 0, 1) := by decide +kernel
theorem dX10_heap_1 : decode cX10_heap 1 = .ok (.iload_n 1, 1) := by decide +kernel
theorem dX10_heap_2 : decode cX10_heap 2 = .ok (.invokevirtual 70, 3) := by decide +kernel
theorem dX10_heap_5 : decode cX10_heap 5 = .ok (.ifCond .ne 5, 3) := by decide +kernel
theorem dX10_heap_8 : decode cX10_heap 8 = .ok (.iconst (-1), 1) := by decide +kernel
theorem dX10_heap_9 : decode cX10_heap 9 = .ok (.ireturn, 1) := by decide +kernel
theorem dX10_heap_10 : decode cX10_heap 10 = .ok (.aload_n 0, 1) := by decide +kernel
theorem dX10_heap_11 : decode cX10_heap 11 = .ok (.invokevirtual 135, 3) := by decide +kernel
theorem dX10_heap_14 : decode cX10_heap 14 = .ok (.pop, 1) := by decide +kernel
theorem dX10_heap_15 : decode cX10_heap 15 = .ok (.aload_n 0, 1) := by decide +kernel
theorem dX10_heap_16 : decode cX10_heap 16 = .ok (.getfield 28, 3) := by decide +kernel
theorem dX10_heap_19 : decode cX10_heap 19 = .ok (.iload_n 1, 1) := by decide +kernel
theorem dX10_heap_20 : decode cX10_heap 20 = .ok (.iaload, 1) := by decide +kernel
theorem dX10_heap_21 : decode cX10_heap 21 = .ok (.ireturn, 1) := by decide +kernel
set_option maxRecDepth 20000 in
theorem ggX10_areJoined_X10_n : GoodIn wsX10_areJoined wsX10_n := goodIn_r _ [6, 1, 15, 16, 17, 18, 19, 20, 21, 22, 23, 24, 25, 26, 27, 28, 29, 30, 31, 32] (by decide +kernel) (by decide +kernel)
set_option maxRecDepth 20000 in
theorem gX10_areJoined_X10_n : GoodIn wsX10_areJoined (wsV RX10 56 RX10 yX10_n wsX10_n) := goodIn_app (goodIn_of _ (by decide +kernel)) ggX10_areJoined_X10_n
set_option maxRecDepth 20000 in
theorem ggX10_areJoined_X10_one : GoodIn wsX10_areJoined wsX10_one := goodIn_r _ [10, 1, 15, 16, 17, 18, 19, 20, 21, 22, 23, 24, 25, 26, 27, 28, 29, 30, 31, 32] (by decide +kernel) (by decide +kernel)
set_option maxRecDepth 20000 in
theorem gX10_areJoined_X10_one : GoodIn wsX10_areJoined (wsV RX10 92 RX10 yX10_one wsX10_one) := goodIn_app (goodIn_of _ (by decide +kernel)) ggX10_areJoined_X10_one
set_option maxRecDepth 20000 in
theorem ggX10_areJoined_X10_two : GoodIn wsX10_areJoined wsX10_two := goodIn_r _ [14, 1, 15, 16, 17, 18, 19, 20, 21, 22, 23, 24, 25, 26, 27, 28, 29, 30, 31, 32] (by decide +kernel) (by decide +kernel)
set_option maxRecDepth 20000 in
theorem gX10_areJoined_X10_two : GoodIn wsX10_areJoined (wsV RX10 96 RX10 yX10_two wsX10_two) := goodIn_app (goodIn_of _ (by decide +kernel)) ggX10_areJoined_X10_two
theorem dX10_areJoined_0 : decode cX10_areJoined 0 = .ok (.iconst 1, 1) := by decide +kernel
theorem dX10_areJoined_1 : decode cX10_areJoined 1 = .ok (.istore_n 1, 1) := by decide +kernel
theorem dX10_areJoined_2 : decode cX10_areJoined 2 = .ok (.iconst 0, 1) := by decide +kernel
theorem dX10_areJoined_3 : decode cX10_areJoined 3 = .ok (.istore_n 2, 1) := by decide +kernel
theorem dX10_areJoined_4 : decode cX10_areJoined 4 = .ok (.iload_n 2, 1) := by decide +kernel
theorem dX10_areJoined_5 : decode cX10_areJoined 5 = .ok (.aload_n 0, 1) := by decide +kernel
theorem dX10_areJoined_6 : decode cX10_areJoined 6 = .ok (.invokevirtual 56, 3) := by decide +kernel
theorem dX10_areJoined_9 : decode cX10_areJoined 9 = .ok (.if_icmp .ge 56, 3) := by decide +kernel
theorem dX10_areJoined_12 : decode cX10_areJoined 12 = .ok (.iconst 0, 1) := by decide +kernel
theorem dX10_areJoined_13 : decode cX10_areJoined 13 = .ok (.istore_n 3, 1) := by decide +kernel
theorem dX10_areJoined_14 : decode cX10_areJoined 14 = .ok (.iload_n 3, 1) := by decide +kernel
theorem dX10_areJoined_15 : decode cX10_areJoined 15 = .ok (.aload_n 0, 1) := by decide +kernel
theorem dX10_areJoined_16 : decode cX10_areJoined 16 = .ok (.getfield 7, 3) := by decide +kernel
theorem dX10_areJoined_19 : decode cX10_areJoined 19 = .ok (.iconst 1, 1) := by decide +kernel
theorem dX10_areJoined_20 : decode cX10_areJoined 20 = .ok (.iaload, 1) := by decide +kernel
theorem dX10_areJoined_21 : decode cX10_areJoined 21 = .ok (.if_icmp .ge 38, 3) := by decide +kernel
theorem dX10_areJoined_24 : decode cX10_areJoined 24 = .ok (.iconst 1, 1) := by decide +kernel
theorem dX10_areJoined_25 : decode cX10_areJoined 25 = .ok (.aload_n 0, 1) := by decide +kernel
theorem dX10_areJoined_26 : decode cX10_areJoined 26 = .ok (.iload_n 3, 1) := by decide +kernel
theorem dX10_areJoined_27 : decode cX10_areJoined 27 = .ok (.invokevirtual 92, 3) := by decide +kernel
theorem dX10_areJoined_30 : decode cX10_areJoined 30 = .ok (.ishl, 1) := by decide +kernel
theorem dX10_areJoined_31 : decode cX10_areJoined 31 = .ok (.iconst 1, 1) := by decide +kernel
theorem dX10_areJoined_32 : decode cX10_areJoined 32 = .ok (.aload_n 0, 1) := by decide +kernel
theorem dX10_areJoined_33 : decode cX10_areJoined 33 = .ok (.iload_n 3, 1) := by decide +kernel
theorem dX10_areJoined_34 : decode cX10_areJoined 34 = .ok (.invokevirtual 96, 3) := by decide +kernel
theorem dX10_areJoined_37 : decode cX10_areJoined 37 = .ok (.ishl, 1) := by decide +kernel
theorem dX10_areJoined_38 : decode cX10_areJoined 38 = .ok (.ior, 1) := by decide +kernel
theorem dX10_areJoined_39 : decode cX10_areJoined 39 = .ok (.istore 4, 2) := by decide +kernel
theorem dX10_areJoined_41 : decode cX10_areJoined 41 = .ok (.iload_n 1, 1) := by decide +kernel
theorem dX10_areJoined_42 : decode cX10_areJoined 42 = .ok (.iload 4, 2) := by decide +kernel
theorem dX10_areJoined_44 : decode cX10_areJoined 44 = .ok (.iand, 1) := by decide +kernel
theorem dX10_areJoined_45 : decode cX10_areJoined 45 = .ok (.ifCond .eq 8, 3) := by decide +kernel
theorem dX10_areJoined_48 : decode cX10_areJoined 48 = .ok (.iload_n 1, 1) := by decide +kernel
theorem dX10_areJoined_49 : decode cX10_areJoined 49 = .ok (.iload 4, 2) := by decide +kernel
theorem dX10_areJoined_51 : decode cX10_areJoined 51 = .ok (.ior, 1) := by decide +kernel
theorem dX10_areJoined_52 : decode cX10_areJoined 52 = .ok (.istore_n 1, 1) := by decide +kernel
theorem dX10_areJoined_53 : decode cX10_areJoined 53 = .ok (.iinc 3 1, 3) := by decide +kernel
theorem dX10_areJoined_56 : decode cX10_areJoined 56 = .ok (.goto (-42), 3) := by decide +kernel
theorem dX10_areJoined_59 : decode cX10_areJoined 59 = .ok (.iinc 2 1, 3) := by decide +kernel
theorem dX10_areJoined_62 : decode cX10_areJoined 62 = .ok (.goto (-58), 3) := by decide +kernel
theorem dX10_areJoined_65 : decode cX10_areJoined 65 = .ok (.iload_n 1, 1) := by decide +kernel
theorem dX10_areJoined_66 : decode cX10_areJoined 66 = .ok (.iconst 1, 1) := by decide +kernel
theorem dX10_areJoined_67 : decode cX10_areJoined 67 = .ok (.aload_n 0, 1) := by decide +kernel
theorem dX10_areJoined_68 : decode cX10_areJoined 68 = .ok (.invokevirtual 56, 3) := by decide +kernel
theorem dX10_areJoined_71 : decode cX10_areJoined 71 = .ok (.ishl, 1) := by decide +kernel
theorem dX10_areJoined_72 : decode cX10_areJoined 72 = .ok (.iconst 1, 1) := by decide +kernel
theorem dX10_areJoined_73 : decode cX10_areJoined 73 = .ok (.isub, 1) := by decide +kernel
theorem dX10_areJoined_74 : decode cX10_areJoined 74 = .ok (.if_icmp .ne 7, 3) := by decide +kernel
theorem dX10_areJoined_77 : decode cX10_areJoined 77 = .ok (.iconst 1, 1) := by decide +kernel
theorem dX10_areJoined_78 : decode cX10_areJoined 78 = .ok (.goto 4, 3) := by decide +kernel
theorem dX10_areJoined_81 : decode cX10_areJoined 81 = .ok (.iconst 0, 1) := by decide +kernel
theorem dX10_areJoined_82 : decode cX10_areJoined 82 = .ok (.ireturn, 1) := by decide +kernel
theorem dX10_common_0 : decode cX10_common 0 = .ok (.lload_n 0, 1) := by decide +kernel
theorem dX10_common_1 : decode cX10_common 1 = .ok (.lconst 0, 1) := by decide +kernel
theorem dX10_common_2 : decode cX10_common 2 = .ok (.lcmp, 1) := by decide +kernel
theorem dX10_common_3 : decode cX10_common 3 = .ok (.ifCond .ge 8, 3) := by decide +kernel
theorem dX10_common_6 : decode cX10_common 6 = .ok (.lload_n 0, 1) := by decide +kernel
theorem dX10_common_7 : decode cX10_common 7 = .ok (.lneg, 1) := by decide +kernel
theorem dX10_common_8 : decode cX10_common 8 = .ok (.goto 4, 3) := by decide +kernel
theorem dX10_common_11 : decode cX10_common 11 = .ok (.lload_n 0, 1) := by decide +kernel
theorem dX10_common_12 : decode cX10_common 12 = .ok (.lstore 4, 2) := by decide +kernel
theorem dX10_common_14 : decode cX10_common 14 = .ok (.lload_n 2, 1) := by decide +kernel
theorem dX10_common_15 : decode cX10_common 15 = .ok (.lstore 6, 2) := by decide +kernel
theorem dX10_common_17 : decode cX10_common 17 = .ok (.lload 6, 2) := by decide +kernel
theorem dX10_common_19 : decode cX10_common 19 = .ok (.lconst 0, 1) := by decide +kernel
theorem dX10_common_20 : decode cX10_common 20 = .ok (.lcmp, 1) := by decide +kernel
theorem dX10_common_21 : decode cX10_common 21 = .ok (.ifCond .eq 21, 3) := by decide +kernel
theorem dX10_common_24 : decode cX10_common 24 = .ok (.lload 4, 2) := by decide +kernel
theorem dX10_common_26 : decode cX10_common 26 = .ok (.lload 6, 2) := by decide +kernel
theorem dX10_common_28 : decode cX10_common 28 = .ok (.lrem, 1) := by decide +kernel
theorem dX10_common_29 : decode cX10_common 29 = .ok (.lstore 8, 2) := by decide +kernel
theorem dX10_common_31 : decode cX10_common 31 = .ok (.lload 6, 2) := by decide +kernel
theorem dX10_common_33 : decode cX10_common 33 = .ok (.lstore 4, 2) := by decide +kernel
theorem dX10_common_35 : decode cX10_common 35 = .ok (.lload 8, 2) := by decide +kernel
theorem dX10_common_37 : decode cX10_common 37 = .ok (.lstore 6, 2) := by decide +kernel
theorem dX10_common_39 : decode cX10_common 39 = .ok (.goto (-22), 3) := by decide +kernel
theorem dX10_common_42 : decode cX10_common 42 = .ok (.lload 4, 2) := by decide +kernel
theorem dX10_common_44 : decode cX10_common 44 = .ok (.lreturn, 1) := by decide +kernel
set_option maxRecDepth 20000 in
theorem ggX10_gap_X10_isPlayer : GoodIn wsX10_gap wsX10_isPlayer := goodIn_r _ [8, 9, 10, 11, 7, 12, 2, 36, 37, 38, 39, 40, 41, 42, 43, 44, 45, 46, 47, 48, 49, 50, 51, 52, 53] (by decide +kernel) (by decide +kernel)
set_option maxRecDepth 20000 in
theorem gX10_gap_X10_isPlayer : GoodIn wsX10_gap (wsV RX10 70 RX10 yX10_isPlayer wsX10_isPlayer) := goodIn_app (goodIn_of _ (by decide +kernel)) ggX10_gap_X10_isPlayer
set_option maxRecDepth 20000 in
theorem ggX10_gap_X10_n : GoodIn wsX10_gap wsX10_n := goodIn_r _ [12, 2, 36, 37, 38, 39, 40, 41, 42, 43, 44, 45, 46, 47, 48, 49, 50, 51, 52, 53] (by decide +kernel) (by decide +kernel)
set_option maxRecDepth 20000 in
theorem gX10_gap_X10_n : GoodIn wsX10_gap (wsV RX10 56 RX10 yX10_n wsX10_n) := goodIn_app (goodIn_of _ (by decide +kernel)) ggX10_gap_X10_n
set_option maxRecDepth 20000 in
theorem ggX10_gap_X10_areJoined : GoodIn wsX10_gap wsX10_areJoined := goodIn_r _ [16, 2, 9, 10, 11, 7, 12, 17, 18, 19, 20, 21, 22, 23, 24, 36, 37, 38, 39, 40, 41, 42, 43, 44, 45, 46, 47, 48, 49, 50, 51, 52, 53] (by decide +kernel) (by decide +kernel)
set_option maxRecDepth 20000 in
theorem gX10_gap_X10_areJoined : GoodIn wsX10_gap (wsV RX10 138 RX10 yX10_areJoined wsX10_areJoined) := goodIn_app (goodIn_of _ (by decide +kernel)) ggX10_gap_X10_areJoined
set_option maxRecDepth 20000 in
theorem ggX10_gap_X10_one : GoodIn wsX10_gap wsX10_one := goodIn_r _ [20, 2, 36, 37, 38, 39, 40, 41, 42, 43, 44, 45, 46, 47, 48, 49, 50, 51, 52, 53] (by decide +kernel) (by decide +kernel)
set_option maxRecDepth 20000 in
theorem gX10_gap_X10_one : GoodIn wsX10_gap (wsV RX10 92 RX10 yX10_one wsX10_one) := goodIn_app (goodIn_of _ (by decide +kernel)) ggX10_gap_X10_one
set_option maxRecDepth 20000 in
theorem ggX10_gap_X10_two : GoodIn wsX10_gap wsX10_two := goodIn_r _ [24, 2, 36, 37, 38, 39, 40, 41, 42, 43, 44, 45, 46, 47, 48, 49, 50, 51, 52, 53] (by decide +kernel) (by decide +kernel)
set_option maxRecDepth 20000 in
theorem gX10_gap_X10_two : GoodIn wsX10_gap (wsV RX10 96 RX10 yX10_two wsX10_two) := goodIn_app (goodIn_of _ (by decide +kernel)) ggX10_gap_X10_two
set_option maxRecDepth 20000 in
theorem ggX10_gap_X10_more : GoodIn wsX10_gap wsX10_more := goodIn_r _ [28, 2, 36, 37, 38, 39, 40, 41, 42, 43, 44, 45, 46, 47, 48, 49, 50, 51, 52, 53] (by decide +kernel) (by decide +kernel)
set_option maxRecDepth 20000 in
theorem gX10_gap_X10_more : GoodIn wsX10_gap (wsV RX10 99 RX10 yX10_more wsX10_more) := goodIn_app (goodIn_of _ (by decide +kernel)) ggX10_gap_X10_more
set_option maxRecDepth 20000 in
theorem ggX10_gap_X10_equation : GoodIn wsX10_gap wsX10_equation := goodIn_r _ [32, 1, 36, 37, 38, 39, 40, 41, 42, 43, 44, 45, 46, 47, 48, 49, 50, 51, 52, 53] (by decide +kernel) (by decide +kernel)
set_option maxRecDepth 20000 in
theorem gX10_gap_X10_equation : GoodIn wsX10_gap (wsV RX10 142 RX10 yX10_equation wsX10_equation) := goodIn_app (goodIn_of _ (by decide +kernel)) ggX10_gap_X10_equation
set_option maxRecDepth 20000 in
theorem ggX10_gap_X10_common : GoodIn wsX10_gap wsX10_common := goodIn_r _ [35] (by decide +kernel) (by decide +kernel)
set_option maxRecDepth 20000 in
theorem gX10_gap_X10_common : GoodIn wsX10_gap (va_wsS RX10 145 yX10_common wsX10_common) := goodIn_app (goodIn_of _ (by decide +kernel)) ggX10_gap_X10_common
theorem dX10_gap_0 : decode cX10_gap 0 = .ok (.aload_n 0, 1) := by decide +kernel
theorem dX10_gap_1 : decode cX10_gap 1 = .ok (.iload_n 1, 1) := by decide +kernel
theorem dX10_gap_2 : decode cX10_gap 2 = .ok (.invokevirtual 70, 3) := by decide +kernel
theorem dX10_gap_5 : decode cX10_gap 5 = .ok (.ifCond .eq 28, 3) := by decide +kernel
theorem dX10_gap_8 : decode cX10_gap 8 = .ok (.iload_n 2, 1) := by decide +kernel
theorem dX10_gap_9 : decode cX10_gap 9 = .ok (.ifCond .lt 24, 3) := by decide +kernel
theorem dX10_gap_12 : decode cX10_gap 12 = .ok (.iload_n 2, 1) := by decide +kernel
theorem dX10_gap_13 : decode cX10_gap 13 = .ok (.iconst 1, 1) := by decide +kernel
theorem dX10_gap_14 : decode cX10_gap 14 = .ok (.if_icmp .gt 19, 3) := by decide +kernel
theorem dX10_gap_17 : decode cX10_gap 17 = .ok (.aload_n 0, 1) := by decide +kernel
theorem dX10_gap_18 : decode cX10_gap 18 = .ok (.invokevirtual 56, 3) := by decide +kernel
theorem dX10_gap_21 : decode cX10_gap 21 = .ok (.bipush 6, 2) := by decide +kernel
theorem dX10_gap_23 : decode cX10_gap 23 = .ok (.if_icmp .gt 10, 3) := by decide +kernel
theorem dX10_gap_26 : decode cX10_gap 26 = .ok (.aload_n 0, 1) := by decide +kernel
theorem dX10_gap_27 : decode cX10_gap 27 = .ok (.invokevirtual 138, 3) := by decide +kernel
theorem dX10_gap_30 : decode cX10_gap 30 = .ok (.ifCond .ne 5, 3) := by decide +kernel
theorem dX10_gap_33 : decode cX10_gap 33 = .ok (.lconst 0, 1) := by decide +kernel
theorem dX10_gap_34 : decode cX10_gap 34 = .ok (.lreturn, 1) := by decide +kernel
theorem dX10_gap_35 : decode cX10_gap 35 = .ok (.aload_n 0, 1) := by decide +kernel
theorem dX10_gap_36 : decode cX10_gap 36 = .ok (.invokevirtual 56, 3) := by decide +kernel
theorem dX10_gap_39 : decode cX10_gap 39 = .ok (.iconst 1, 1) := by decide +kernel
theorem dX10_gap_40 : decode cX10_gap 40 = .ok (.isub, 1) := by decide +kernel
theorem dX10_gap_41 : decode cX10_gap 41 = .ok (.istore_n 3, 1) := by decide +kernel
theorem dX10_gap_42 : decode cX10_gap 42 = .ok (.iconst 0, 1) := by decide +kernel
theorem dX10_gap_43 : decode cX10_gap 43 = .ok (.istore 4, 2) := by decide +kernel
theorem dX10_gap_45 : decode cX10_gap 45 = .ok (.iload 4, 2) := by decide +kernel
theorem dX10_gap_47 : decode cX10_gap 47 = .ok (.bipush 36, 2) := by decide +kernel
theorem dX10_gap_49 : decode cX10_gap 49 = .ok (.if_icmp .ge 17, 3) := by decide +kernel
theorem dX10_gap_52 : decode cX10_gap 52 = .ok (.aload_n 0, 1) := by decide +kernel
theorem dX10_gap_53 : decode cX10_gap 53 = .ok (.getfield 31, 3) := by decide +kernel
theorem dX10_gap_56 : decode cX10_gap 56 = .ok (.iload 4, 2) := by decide +kernel
theorem dX10_gap_58 : decode cX10_gap 58 = .ok (.lconst 0, 1) := by decide +kernel
theorem dX10_gap_59 : decode cX10_gap 59 = .ok (.lastore, 1) := by decide +kernel
theorem dX10_gap_60 : decode cX10_gap 60 = .ok (.iinc 4 1, 3) := by decide +kernel
theorem dX10_gap_63 : decode cX10_gap 63 = .ok (.goto (-18), 3) := by decide +kernel
theorem dX10_gap_66 : decode cX10_gap 66 = .ok (.iconst 0, 1) := by decide +kernel
theorem dX10_gap_67 : decode cX10_gap 67 = .ok (.istore 4, 2) := by decide +kernel
theorem dX10_gap_69 : decode cX10_gap 69 = .ok (.iload 4, 2) := by decide +kernel
theorem dX10_gap_71 : decode cX10_gap 71 = .ok (.aload_n 0, 1) := by decide +kernel
theorem dX10_gap_72 : decode cX10_gap 72 = .ok (.getfield 7, 3) := by decide +kernel
theorem dX10_gap_75 : decode cX10_gap 75 = .ok (.iconst 1, 1) := by decide +kernel
theorem dX10_gap_76 : decode cX10_gap 76 = .ok (.iaload, 1) := by decide +kernel
theorem dX10_gap_77 : decode cX10_gap 77 = .ok (.if_icmp .ge 56, 3) := by decide +kernel
theorem dX10_gap_80 : decode cX10_gap 80 = .ok (.aload_n 0, 1) := by decide +kernel
theorem dX10_gap_81 : decode cX10_gap 81 = .ok (.aload_n 0, 1) := by decide +kernel
theorem dX10_gap_82 : decode cX10_gap 82 = .ok (.iload 4, 2) := by decide +kernel
theorem dX10_gap_84 : decode cX10_gap 84 = .ok (.invokevirtual 92, 3) := by decide +kernel
theorem dX10_gap_87 : decode cX10_gap 87 = .ok (.aload_n 0, 1) := by decide +kernel
theorem dX10_gap_88 : decode cX10_gap 88 = .ok (.iload 4, 2) := by decide +kernel
theorem dX10_gap_90 : decode cX10_gap 90 = .ok (.invokevirtual 96, 3) := by decide +kernel
theorem dX10_gap_93 : decode cX10_gap 93 = .ok (.aload_n 0, 1) := by decide +kernel
theorem dX10_gap_94 : decode cX10_gap 94 = .ok (.iload 4, 2) := by decide +kernel
theorem dX10_gap_96 : decode cX10_gap 96 = .ok (.invokevirtual 99, 3) := by decide +kernel
theorem dX10_gap_99 : decode cX10_gap 99 = .ok (.iload_n 3, 1) := by decide +kernel
theorem dX10_gap_100 : decode cX10_gap 100 = .ok (.invokevirtual 142, 3) := by decide +kernel
theorem dX10_gap_103 : decode cX10_gap 103 = .ok (.aload_n 0, 1) := by decide +kernel
theorem dX10_gap_104 : decode cX10_gap 104 = .ok (.aload_n 0, 1) := by decide +kernel
theorem dX10_gap_105 : decode cX10_gap 105 = .ok (.iload 4, 2) := by decide +kernel
theorem dX10_gap_107 : decode cX10_gap 107 = .ok (.invokevirtual 96, 3) := by decide +kernel
theorem dX10_gap_110 : decode cX10_gap 110 = .ok (.aload_n 0, 1) := by decide +kernel
theorem dX10_gap_111 : decode cX10_gap 111 = .ok (.iload 4, 2) := by decide +kernel
theorem dX10_gap_113 : decode cX10_gap 113 = .ok (.invokevirtual 92, 3) := by decide +kernel
theorem dX10_gap_116 : decode cX10_gap 116 = .ok (.aload_n 0, 1) := by decide +kernel
theorem dX10_gap_117 : decode cX10_gap 117 = .ok (.iload 4, 2) := by decide +kernel
theorem dX10_gap_119 : decode cX10_gap 119 = .ok (.invokevirtual 99, 3) := by decide +kernel
theorem dX10_gap_122 : decode cX10_gap 122 = .ok (.ineg, 1) := by decide +kernel
theorem dX10_gap_123 : decode cX10_gap 123 = .ok (.iload_n 3, 1) := by decide +kernel
theorem dX10_gap_124 : decode cX10_gap 124 = .ok (.invokevirtual 142, 3) := by decide +kernel
theorem dX10_gap_127 : decode cX10_gap 127 = .ok (.iinc 4 1, 3) := by decide +kernel
theorem dX10_gap_130 : decode cX10_gap 130 = .ok (.goto (-61), 3) := by decide +kernel
theorem dX10_gap_133 : decode cX10_gap 133 = .ok (.lconst 1, 1) := by decide +kernel
theorem dX10_gap_134 : decode cX10_gap 134 = .ok (.lstore 4, 2) := by decide +kernel
theorem dX10_gap_136 : decode cX10_gap 136 = .ok (.iconst 0, 1) := by decide +kernel
theorem dX10_gap_137 : decode cX10_gap 137 = .ok (.istore 6, 2) := by decide +kernel
theorem dX10_gap_139 : decode cX10_gap 139 = .ok (.iload 6, 2) := by decide +kernel
theorem dX10_gap_141 : decode cX10_gap 141 = .ok (.iload_n 3, 1) := by decide +kernel
theorem dX10_gap_142 : decode cX10_gap 142 = .ok (.if_icmp .ge 139, 3) := by decide +kernel
theorem dX10_gap_145 : decode cX10_gap 145 = .ok (.iconst 0, 1) := by decide +kernel
theorem dX10_gap_146 : decode cX10_gap 146 = .ok (.istore 7, 2) := by decide +kernel
theorem dX10_gap_148 : decode cX10_gap 148 = .ok (.iload 7, 2) := by decide +kernel
theorem dX10_gap_150 : decode cX10_gap 150 = .ok (.iload_n 3, 1) := by decide +kernel
theorem dX10_gap_151 : decode cX10_gap 151 = .ok (.if_icmp .ge 109, 3) := by decide +kernel
theorem dX10_gap_154 : decode cX10_gap 154 = .ok (.iload 7, 2) := by decide +kernel
theorem dX10_gap_156 : decode cX10_gap 156 = .ok (.iload 6, 2) := by decide +kernel
theorem dX10_gap_158 : decode cX10_gap 158 = .ok (.if_icmp .ne 6, 3) := by decide +kernel
theorem dX10_gap_161 : decode cX10_gap 161 = .ok (.goto 93, 3) := by decide +kernel
theorem dX10_gap_164 : decode cX10_gap 164 = .ok (.aload_n 0, 1) := by decide +kernel
theorem dX10_gap_165 : decode cX10_gap 165 = .ok (.getfield 31, 3) := by decide +kernel
theorem dX10_gap_168 : decode cX10_gap 168 = .ok (.bipush 6, 2) := by decide +kernel
theorem dX10_gap_170 : decode cX10_gap 170 = .ok (.iload 7, 2) := by decide +kernel
theorem dX10_gap_172 : decode cX10_gap 172 = .ok (.imul, 1) := by decide +kernel
theorem dX10_gap_173 : decode cX10_gap 173 = .ok (.iload 6, 2) := by decide +kernel
theorem dX10_gap_175 : decode cX10_gap 175 = .ok (.iadd, 1) := by decide +kernel
theorem dX10_gap_176 : decode cX10_gap 176 = .ok (.laload, 1) := by decide +kernel
theorem dX10_gap_177 : decode cX10_gap 177 = .ok (.lstore 8, 2) := by decide +kernel
theorem dX10_gap_179 : decode cX10_gap 179 = .ok (.iconst 0, 1) := by decide +kernel
theorem dX10_gap_180 : decode cX10_gap 180 = .ok (.istore 10, 2) := by decide +kernel
theorem dX10_gap_182 : decode cX10_gap 182 = .ok (.iload 10, 2) := by decide +kernel
theorem dX10_gap_184 : decode cX10_gap 184 = .ok (.iconst 5, 1) := by decide +kernel
theorem dX10_gap_185 : decode cX10_gap 185 = .ok (.if_icmp .gt 69, 3) := by decide +kernel
theorem dX10_gap_188 : decode cX10_gap 188 = .ok (.aload_n 0, 1) := by decide +kernel
theorem dX10_gap_189 : decode cX10_gap 189 = .ok (.getfield 31, 3) := by decide +kernel
theorem dX10_gap_192 : decode cX10_gap 192 = .ok (.bipush 6, 2) := by decide +kernel
theorem dX10_gap_194 : decode cX10_gap 194 = .ok (.iload 7, 2) := by decide +kernel
theorem dX10_gap_196 : decode cX10_gap 196 = .ok (.imul, 1) := by decide +kernel
theorem dX10_gap_197 : decode cX10_gap 197 = .ok (.iload 10, 2) := by decide +kernel
theorem dX10_gap_199 : decode cX10_gap 199 = .ok (.iadd, 1) := by decide +kernel
theorem dX10_gap_200 : decode cX10_gap 200 = .ok (.aload_n 0, 1) := by decide +kernel
theorem dX10_gap_201 : decode cX10_gap 201 = .ok (.getfield 31, 3) := by decide +kernel
theorem dX10_gap_204 : decode cX10_gap 204 = .ok (.bipush 6, 2) := by decide +kernel
theorem dX10_gap_206 : decode cX10_gap 206 = .ok (.iload 6, 2) := by decide +kernel
theorem dX10_gap_208 : decode cX10_gap 208 = .ok (.imul, 1) := by decide +kernel
theorem dX10_gap_209 : decode cX10_gap 209 = .ok (.iload 6, 2) := by decide +kernel
theorem dX10_gap_211 : decode cX10_gap 211 = .ok (.iadd, 1) := by decide +kernel
theorem dX10_gap_212 : decode cX10_gap 212 = .ok (.laload, 1) := by decide +kernel
theorem dX10_gap_213 : decode cX10_gap 213 = .ok (.aload_n 0, 1) := by decide +kernel
theorem dX10_gap_214 : decode cX10_gap 214 = .ok (.getfield 31, 3) := by decide +kernel
theorem dX10_gap_217 : decode cX10_gap 217 = .ok (.bipush 6, 2) := by decide +kernel
theorem dX10_gap_219 : decode cX10_gap 219 = .ok (.iload 7, 2) := by decide +kernel
theorem dX10_gap_221 : decode cX10_gap 221 = .ok (.imul, 1) := by decide +kernel
theorem dX10_gap_222 : decode cX10_gap 222 = .ok (.iload 10, 2) := by decide +kernel
theorem dX10_gap_224 : decode cX10_gap 224 = .ok (.iadd, 1) := by decide +kernel
theorem dX10_gap_225 : decode cX10_gap 225 = .ok (.laload, 1) := by decide +kernel
theorem dX10_gap_226 : decode cX10_gap 226 = .ok (.lmul, 1) := by decide +kernel
theorem dX10_gap_227 : decode cX10_gap 227 = .ok (.lload 8, 2) := by decide +kernel
theorem dX10_gap_229 : decode cX10_gap 229 = .ok (.aload_n 0, 1) := by decide +kernel
theorem dX10_gap_230 : decode cX10_gap 230 = .ok (.getfield 31, 3) := by decide +kernel
theorem dX10_gap_233 : decode cX10_gap 233 = .ok (.bipush 6, 2) := by decide +kernel
theorem dX10_gap_235 : decode cX10_gap 235 = .ok (.iload 6, 2) := by decide +kernel
theorem dX10_gap_237 : decode cX10_gap 237 = .ok (.imul, 1) := by decide +kernel
theorem dX10_gap_238 : decode cX10_gap 238 = .ok (.iload 10, 2) := by decide +kernel
theorem dX10_gap_240 : decode cX10_gap 240 = .ok (.iadd, 1) := by decide +kernel
theorem dX10_gap_241 : decode cX10_gap 241 = .ok (.laload, 1) := by decide +kernel
theorem dX10_gap_242 : decode cX10_gap 242 = .ok (.lmul, 1) := by decide +kernel
theorem dX10_gap_243 : decode cX10_gap 243 = .ok (.lsub, 1) := by decide +kernel
theorem dX10_gap_244 : decode cX10_gap 244 = .ok (.lload 4, 2) := by decide +kernel
theorem dX10_gap_246 : decode cX10_gap 246 = .ok (.ldiv, 1) := by decide +kernel
theorem dX10_gap_247 : decode cX10_gap 247 = .ok (.lastore, 1) := by decide +kernel
theorem dX10_gap_248 : decode cX10_gap 248 = .ok (.iinc 10 1, 3) := by decide +kernel
theorem dX10_gap_251 : decode cX10_gap 251 = .ok (.goto (-69), 3) := by decide +kernel
theorem dX10_gap_254 : decode cX10_gap 254 = .ok (.iinc 7 1, 3) := by decide +kernel
theorem dX10_gap_257 : decode cX10_gap 257 = .ok (.goto (-109), 3) := by decide +kernel
theorem dX10_gap_260 : decode cX10_gap 260 = .ok (.aload_n 0, 1) := by decide +kernel
theorem dX10_gap_261 : decode cX10_gap 261 = .ok (.getfield 31, 3) := by decide +kernel
theorem dX10_gap_264 : decode cX10_gap 264 = .ok (.bipush 6, 2) := by decide +kernel
theorem dX10_gap_266 : decode cX10_gap 266 = .ok (.iload 6, 2) := by decide +kernel
theorem dX10_gap_268 : decode cX10_gap 268 = .ok (.imul, 1) := by decide +kernel
theorem dX10_gap_269 : decode cX10_gap 269 = .ok (.iload 6, 2) := by decide +kernel
theorem dX10_gap_271 : decode cX10_gap 271 = .ok (.iadd, 1) := by decide +kernel
theorem dX10_gap_272 : decode cX10_gap 272 = .ok (.laload, 1) := by decide +kernel
theorem dX10_gap_273 : decode cX10_gap 273 = .ok (.lstore 4, 2) := by decide +kernel
theorem dX10_gap_275 : decode cX10_gap 275 = .ok (.iinc 6 1, 3) := by decide +kernel
theorem dX10_gap_278 : decode cX10_gap 278 = .ok (.goto (-139), 3) := by decide +kernel
theorem dX10_gap_281 : decode cX10_gap 281 = .ok (.lconst 0, 1) := by decide +kernel
theorem dX10_gap_282 : decode cX10_gap 282 = .ok (.lstore 6, 2) := by decide +kernel
theorem dX10_gap_284 : decode cX10_gap 284 = .ok (.iconst 0, 1) := by decide +kernel
theorem dX10_gap_285 : decode cX10_gap 285 = .ok (.istore 8, 2) := by decide +kernel
theorem dX10_gap_287 : decode cX10_gap 287 = .ok (.iload 8, 2) := by decide +kernel
theorem dX10_gap_289 : decode cX10_gap 289 = .ok (.iload_n 3, 1) := by decide +kernel
theorem dX10_gap_290 : decode cX10_gap 290 = .ok (.if_icmp .ge 40, 3) := by decide +kernel
theorem dX10_gap_293 : decode cX10_gap 293 = .ok (.aload_n 0, 1) := by decide +kernel
theorem dX10_gap_294 : decode cX10_gap 294 = .ok (.getfield 35, 3) := by decide +kernel
theorem dX10_gap_297 : decode cX10_gap 297 = .ok (.iload 8, 2) := by decide +kernel
theorem dX10_gap_299 : decode cX10_gap 299 = .ok (.aload_n 0, 1) := by decide +kernel
theorem dX10_gap_300 : decode cX10_gap 300 = .ok (.getfield 31, 3) := by decide +kernel
theorem dX10_gap_303 : decode cX10_gap 303 = .ok (.bipush 6, 2) := by decide +kernel
theorem dX10_gap_305 : decode cX10_gap 305 = .ok (.iload 8, 2) := by decide +kernel
theorem dX10_gap_307 : decode cX10_gap 307 = .ok (.imul, 1) := by decide +kernel
theorem dX10_gap_308 : decode cX10_gap 308 = .ok (.iconst 5, 1) := by decide +kernel
theorem dX10_gap_309 : decode cX10_gap 309 = .ok (.iadd, 1) := by decide +kernel
theorem dX10_gap_310 : decode cX10_gap 310 = .ok (.laload, 1) := by decide +kernel
theorem dX10_gap_311 : decode cX10_gap 311 = .ok (.lastore, 1) := by decide +kernel
theorem dX10_gap_312 : decode cX10_gap 312 = .ok (.lload 6, 2) := by decide +kernel
theorem dX10_gap_314 : decode cX10_gap 314 = .ok (.aload_n 0, 1) := by decide +kernel
theorem dX10_gap_315 : decode cX10_gap 315 = .ok (.getfield 35, 3) := by decide +kernel
theorem dX10_gap_318 : decode cX10_gap 318 = .ok (.iload 8, 2) := by decide +kernel
theorem dX10_gap_320 : decode cX10_gap 320 = .ok (.laload, 1) := by decide +kernel
theorem dX10_gap_321 : decode cX10_gap 321 = .ok (.ladd, 1) := by decide +kernel
theorem dX10_gap_322 : decode cX10_gap 322 = .ok (.lstore 6, 2) := by decide +kernel
theorem dX10_gap_324 : decode cX10_gap 324 = .ok (.iinc 8 1, 3) := by decide +kernel
theorem dX10_gap_327 : decode cX10_gap 327 = .ok (.goto (-40), 3) := by decide +kernel
theorem dX10_gap_330 : decode cX10_gap 330 = .ok (.iload_n 3, 1) := by decide +kernel
theorem dX10_gap_331 : decode cX10_gap 331 = .ok (.bipush 6, 2) := by decide +kernel
theorem dX10_gap_333 : decode cX10_gap 333 = .ok (.if_icmp .ge 10, 3) := by decide +kernel
theorem dX10_gap_336 : decode cX10_gap 336 = .ok (.aload_n 0, 1) := by decide +kernel
theorem dX10_gap_337 : decode cX10_gap 337 = .ok (.getfield 35, 3) := by decide +kernel
theorem dX10_gap_340 : decode cX10_gap 340 = .ok (.iload_n 3, 1) := by decide +kernel
theorem dX10_gap_341 : decode cX10_gap 341 = .ok (.lconst 0, 1) := by decide +kernel
theorem dX10_gap_342 : decode cX10_gap 342 = .ok (.lastore, 1) := by decide +kernel
theorem dX10_gap_343 : decode cX10_gap 343 = .ok (.aload_n 0, 1) := by decide +kernel
theorem dX10_gap_344 : decode cX10_gap 344 = .ok (.getfield 35, 3) := by decide +kernel
theorem dX10_gap_347 : decode cX10_gap 347 = .ok (.iload_n 1, 1) := by decide +kernel
theorem dX10_gap_348 : decode cX10_gap 348 = .ok (.laload, 1) := by decide +kernel
theorem dX10_gap_349 : decode cX10_gap 349 = .ok (.aload_n 0, 1) := by decide +kernel
theorem dX10_gap_350 : decode cX10_gap 350 = .ok (.invokevirtual 56, 3) := by decide +kernel
theorem dX10_gap_353 : decode cX10_gap 353 = .ok (.i2l, 1) := by decide +kernel
theorem dX10_gap_354 : decode cX10_gap 354 = .ok (.lmul, 1) := by decide +kernel
theorem dX10_gap_355 : decode cX10_gap 355 = .ok (.lload 6, 2) := by decide +kernel
theorem dX10_gap_357 : decode cX10_gap 357 = .ok (.lsub, 1) := by decide +kernel
theorem dX10_gap_358 : decode cX10_gap 358 = .ok (.lstore 8, 2) := by decide +kernel
theorem dX10_gap_360 : decode cX10_gap 360 = .ok (.lload 4, 2) := by decide +kernel
theorem dX10_gap_362 : decode cX10_gap 362 = .ok (.aload_n 0, 1) := by decide +kernel
theorem dX10_gap_363 : decode cX10_gap 363 = .ok (.invokevirtual 56, 3) := by decide +kernel
theorem dX10_gap_366 : decode cX10_gap 366 = .ok (.i2l, 1) := by decide +kernel
theorem dX10_gap_367 : decode cX10_gap 367 = .ok (.lmul, 1) := by decide +kernel
theorem dX10_gap_368 : decode cX10_gap 368 = .ok (.lstore 10, 2) := by decide +kernel
theorem dX10_gap_370 : decode cX10_gap 370 = .ok (.lload 8, 2) := by decide +kernel
theorem dX10_gap_372 : decode cX10_gap 372 = .ok (.lload 10, 2) := by decide +kernel
theorem dX10_gap_374 : decode cX10_gap 374 = .ok (.invokestatic 145, 3) := by decide +kernel
theorem dX10_gap_377 : decode cX10_gap 377 = .ok (.lstore 12, 2) := by decide +kernel
theorem dX10_gap_379 : decode cX10_gap 379 = .ok (.iload_n 2, 1) := by decide +kernel
theorem dX10_gap_380 : decode cX10_gap 380 = .ok (.ifCond .ne 11, 3) := by decide +kernel
theorem dX10_gap_383 : decode cX10_gap 383 = .ok (.lload 8, 2) := by decide +kernel
theorem dX10_gap_385 : decode cX10_gap 385 = .ok (.lload 12, 2) := by decide +kernel
theorem dX10_gap_387 : decode cX10_gap 387 = .ok (.ldiv, 1) := by decide +kernel
theorem dX10_gap_388 : decode cX10_gap 388 = .ok (.goto 8, 3) := by decide +kernel
theorem dX10_gap_391 : decode cX10_gap 391 = .ok (.lload 10, 2) := by decide +kernel
theorem dX10_gap_393 : decode cX10_gap 393 = .ok (.lload 12, 2) := by decide +kernel
theorem dX10_gap_395 : decode cX10_gap 395 = .ok (.ldiv, 1) := by decide +kernel
theorem dX10_gap_396 : decode cX10_gap 396 = .ok (.lreturn, 1) := by decide +kernel
theorem dX10_equation_0 : decode cX10_equation 0 = .ok (.iload_n 1, 1) := by decide +kernel
theorem dX10_equation_1 : decode cX10_equation 1 = .ok (.iload 4, 2) := by decide +kernel
theorem dX10_equation_3 : decode cX10_equation 3 = .ok (.if_icmp .ne 4, 3) := by decide +kernel
theorem dX10_equation_6 : decode cX10_equation 6 = .ok (.return_, 1) := by decide +kernel
theorem dX10_equation_7 : decode cX10_equation 7 = .ok (.aload_n 0, 1) := by decide +kernel
theorem dX10_equation_8 : decode cX10_equation 8 = .ok (.getfield 31, 3) := by decide +kernel
theorem dX10_equation_11 : decode cX10_equation 11 = .ok (.bipush 6, 2) := by decide +kernel
theorem dX10_equation_13 : decode cX10_equation 13 = .ok (.iload_n 1, 1) := by decide +kernel
theorem dX10_equation_14 : decode cX10_equation 14 = .ok (.imul, 1) := by decide +kernel
theorem dX10_equation_15 : decode cX10_equation 15 = .ok (.iload_n 1, 1) := by decide +kernel
theorem dX10_equation_16 : decode cX10_equation 16 = .ok (.iadd, 1) := by decide +kernel
theorem dX10_equation_17 : decode cX10_equation 17 = .ok (.dup2, 1) := by decide +kernel
theorem dX10_equation_18 : decode cX10_equation 18 = .ok (.laload, 1) := by decide +kernel
theorem dX10_equation_19 : decode cX10_equation 19 = .ok (.lconst 1, 1) := by decide +kernel
theorem dX10_equation_20 : decode cX10_equation 20 = .ok (.ladd, 1) := by decide +kernel
theorem dX10_equation_21 : decode cX10_equation 21 = .ok (.lastore, 1) := by decide +kernel
theorem dX10_equation_22 : decode cX10_equation 22 = .ok (.iload_n 2, 1) := by decide +kernel
theorem dX10_equation_23 : decode cX10_equation 23 = .ok (.iload 4, 2) := by decide +kernel
theorem dX10_equation_25 : decode cX10_equation 25 = .ok (.if_icmp .ge 18, 3) := by decide +kernel
theorem dX10_equation_28 : decode cX10_equation 28 = .ok (.aload_n 0, 1) := by decide +kernel
theorem dX10_equation_29 : decode cX10_equation 29 = .ok (.getfield 31, 3) := by decide +kernel
theorem dX10_equation_32 : decode cX10_equation 32 = .ok (.bipush 6, 2) := by decide +kernel
theorem dX10_equation_34 : decode cX10_equation 34 = .ok (.iload_n 1, 1) := by decide +kernel
theorem dX10_equation_35 : decode cX10_equation 35 = .ok (.imul, 1) := by decide +kernel
theorem dX10_equation_36 : decode cX10_equation 36 = .ok (.iload_n 2, 1) := by decide +kernel
theorem dX10_equation_37 : decode cX10_equation 37 = .ok (.iadd, 1) := by decide +kernel
theorem dX10_equation_38 : decode cX10_equation 38 = .ok (.dup2, 1) := by decide +kernel
theorem dX10_equation_39 : decode cX10_equation 39 = .ok (.laload, 1) := by decide +kernel
theorem dX10_equation_40 : decode cX10_equation 40 = .ok (.lconst 1, 1) := by decide +kernel
theorem dX10_equation_41 : decode cX10_equation 41 = .ok (.lsub, 1) := by decide +kernel
theorem dX10_equation_42 : decode cX10_equation 42 = .ok (.lastore, 1) := by decide +kernel
theorem dX10_equation_43 : decode cX10_equation 43 = .ok (.aload_n 0, 1) := by decide +kernel
theorem dX10_equation_44 : decode cX10_equation 44 = .ok (.getfield 31, 3) := by decide +kernel
theorem dX10_equation_47 : decode cX10_equation 47 = .ok (.bipush 6, 2) := by decide +kernel
theorem dX10_equation_49 : decode cX10_equation 49 = .ok (.iload_n 1, 1) := by decide +kernel
theorem dX10_equation_50 : decode cX10_equation 50 = .ok (.imul, 1) := by decide +kernel
theorem dX10_equation_51 : decode cX10_equation 51 = .ok (.iconst 5, 1) := by decide +kernel
theorem dX10_equation_52 : decode cX10_equation 52 = .ok (.iadd, 1) := by decide +kernel
theorem dX10_equation_53 : decode cX10_equation 53 = .ok (.dup2, 1) := by decide +kernel
theorem dX10_equation_54 : decode cX10_equation 54 = .ok (.laload, 1) := by decide +kernel
theorem dX10_equation_55 : decode cX10_equation 55 = .ok (.iload_n 3, 1) := by decide +kernel
theorem dX10_equation_56 : decode cX10_equation 56 = .ok (.i2l, 1) := by decide +kernel
theorem dX10_equation_57 : decode cX10_equation 57 = .ok (.ladd, 1) := by decide +kernel
theorem dX10_equation_58 : decode cX10_equation 58 = .ok (.lastore, 1) := by decide +kernel
theorem dX10_equation_59 : decode cX10_equation 59 = .ok (.return_, 1) := by decide +kernel
set_option maxRecDepth 20000 in
theorem ggX10_gatherOvers_X10_n : GoodIn wsX10_gatherOvers wsX10_n := goodIn_r _ [6, 7, 24, 25, 26, 27, 28, 29, 30, 31, 32, 33, 34, 35, 36, 37, 38, 39, 40, 41] (by decide +kernel) (by decide +kernel)
set_option maxRecDepth 20000 in
theorem gX10_gatherOvers_X10_n : GoodIn wsX10_gatherOvers (wsV RX10 56 RX10 yX10_n wsX10_n) := goodIn_app (goodIn_of _ (by decide +kernel)) ggX10_gatherOvers_X10_n
set_option maxRecDepth 20000 in
theorem ggX10_gatherOvers_X10_overOf : GoodIn wsX10_gatherOvers wsX10_overOf := goodIn_r _ [11, 7, 12, 13, 14, 5, 15, 16, 17, 18, 19, 20, 21, 22, 23, 24, 25, 26, 27, 28, 29, 30, 31, 32, 33, 34, 35, 36, 37, 38, 39, 40, 41] (by decide +kernel) (by decide +kernel)
set_option maxRecDepth 20000 in
theorem gX10_gatherOvers_X10_overOf : GoodIn wsX10_gatherOvers (wsV RX10 102 RX10 yX10_overOf wsX10_overOf) := goodIn_app (goodIn_of _ (by decide +kernel)) ggX10_gatherOvers_X10_overOf
theorem dX10_gatherOvers_0 : decode cX10_gatherOvers 0 = .ok (.iconst 0, 1) := by decide +kernel
theorem dX10_gatherOvers_1 : decode cX10_gatherOvers 1 = .ok (.istore_n 1, 1) := by decide +kernel
theorem dX10_gatherOvers_2 : decode cX10_gatherOvers 2 = .ok (.iload_n 1, 1) := by decide +kernel
theorem dX10_gatherOvers_3 : decode cX10_gatherOvers 3 = .ok (.aload_n 0, 1) := by decide +kernel
theorem dX10_gatherOvers_4 : decode cX10_gatherOvers 4 = .ok (.invokevirtual 56, 3) := by decide +kernel
theorem dX10_gatherOvers_7 : decode cX10_gatherOvers 7 = .ok (.if_icmp .ge 51, 3) := by decide +kernel
theorem dX10_gatherOvers_10 : decode cX10_gatherOvers 10 = .ok (.iconst 0, 1) := by decide +kernel
theorem dX10_gatherOvers_11 : decode cX10_gatherOvers 11 = .ok (.istore_n 2, 1) := by decide +kernel
theorem dX10_gatherOvers_12 : decode cX10_gatherOvers 12 = .ok (.iload_n 2, 1) := by decide +kernel
theorem dX10_gatherOvers_13 : decode cX10_gatherOvers 13 = .ok (.aload_n 0, 1) := by decide +kernel
theorem dX10_gatherOvers_14 : decode cX10_gatherOvers 14 = .ok (.invokevirtual 56, 3) := by decide +kernel
theorem dX10_gatherOvers_17 : decode cX10_gatherOvers 17 = .ok (.if_icmp .ge 35, 3) := by decide +kernel
theorem dX10_gatherOvers_20 : decode cX10_gatherOvers 20 = .ok (.aload_n 0, 1) := by decide +kernel
theorem dX10_gatherOvers_21 : decode cX10_gatherOvers 21 = .ok (.getfield 38, 3) := by decide +kernel
theorem dX10_gatherOvers_24 : decode cX10_gatherOvers 24 = .ok (.bipush 10, 2) := by decide +kernel
theorem dX10_gatherOvers_26 : decode cX10_gatherOvers 26 = .ok (.iload_n 1, 1) := by decide +kernel
theorem dX10_gatherOvers_27 : decode cX10_gatherOvers 27 = .ok (.imul, 1) := by decide +kernel
theorem dX10_gatherOvers_28 : decode cX10_gatherOvers 28 = .ok (.iload_n 2, 1) := by decide +kernel
theorem dX10_gatherOvers_29 : decode cX10_gatherOvers 29 = .ok (.iadd, 1) := by decide +kernel
theorem dX10_gatherOvers_30 : decode cX10_gatherOvers 30 = .ok (.iload_n 1, 1) := by decide +kernel
theorem dX10_gatherOvers_31 : decode cX10_gatherOvers 31 = .ok (.iload_n 2, 1) := by decide +kernel
theorem dX10_gatherOvers_32 : decode cX10_gatherOvers 32 = .ok (.if_icmp .ne 7, 3) := by decide +kernel
theorem dX10_gatherOvers_35 : decode cX10_gatherOvers 35 = .ok (.iconst 0, 1) := by decide +kernel
theorem dX10_gatherOvers_36 : decode cX10_gatherOvers 36 = .ok (.goto 9, 3) := by decide +kernel
theorem dX10_gatherOvers_39 : decode cX10_gatherOvers 39 = .ok (.aload_n 0, 1) := by decide +kernel
theorem dX10_gatherOvers_40 : decode cX10_gatherOvers 40 = .ok (.iload_n 1, 1) := by decide +kernel
theorem dX10_gatherOvers_41 : decode cX10_gatherOvers 41 = .ok (.iload_n 2, 1) := by decide +kernel
theorem dX10_gatherOvers_42 : decode cX10_gatherOvers 42 = .ok (.invokevirtual 102, 3) := by decide +kernel
theorem dX10_gatherOvers_45 : decode cX10_gatherOvers 45 = .ok (.iastore, 1) := by decide +kernel
theorem dX10_gatherOvers_46 : decode cX10_gatherOvers 46 = .ok (.iinc 2 1, 3) := by decide +kernel
theorem dX10_gatherOvers_49 : decode cX10_gatherOvers 49 = .ok (.goto (-37), 3) := by decide +kernel
theorem dX10_gatherOvers_52 : decode cX10_gatherOvers 52 = .ok (.iinc 1 1, 3) := by decide +kernel
theorem dX10_gatherOvers_55 : decode cX10_gatherOvers 55 = .ok (.goto (-53), 3) := by decide +kernel
theorem dX10_gatherOvers_58 : decode cX10_gatherOvers 58 = .ok (.return_, 1) := by decide +kernel
set_option maxRecDepth 20000 in
theorem ggX10_behind_X10_n : GoodIn wsX10_behind wsX10_n := goodIn_r _ [6, 7, 8, 9, 10, 11, 12, 13, 14, 15, 16, 17, 18, 19, 20, 21, 22, 23, 24, 25] (by decide +kernel) (by decide +kernel)
set_option maxRecDepth 20000 in
theorem gX10_behind_X10_n : GoodIn wsX10_behind (wsV RX10 56 RX10 yX10_n wsX10_n) := goodIn_app (goodIn_of _ (by decide +kernel)) ggX10_behind_X10_n
theorem dX10_behind_0 : decode cX10_behind 0 = .ok (.iconst 0, 1) := by decide +kernel
theorem dX10_behind_1 : decode cX10_behind 1 = .ok (.istore_n 3, 1) := by decide +kernel
theorem dX10_behind_2 : decode cX10_behind 2 = .ok (.iconst 0, 1) := by decide +kernel
theorem dX10_behind_3 : decode cX10_behind 3 = .ok (.istore 4, 2) := by decide +kernel
theorem dX10_behind_5 : decode cX10_behind 5 = .ok (.iload 4, 2) := by decide +kernel
theorem dX10_behind_7 : decode cX10_behind 7 = .ok (.aload_n 0, 1) := by decide +kernel
theorem dX10_behind_8 : decode cX10_behind 8 = .ok (.invokevirtual 56, 3) := by decide +kernel
theorem dX10_behind_11 : decode cX10_behind 11 = .ok (.if_icmp .ge 38, 3) := by decide +kernel
theorem dX10_behind_14 : decode cX10_behind 14 = .ok (.iload_n 3, 1) := by decide +kernel
theorem dX10_behind_15 : decode cX10_behind 15 = .ok (.iload_n 2, 1) := by decide +kernel
theorem dX10_behind_16 : decode cX10_behind 16 = .ok (.iload 4, 2) := by decide +kernel
theorem dX10_behind_18 : decode cX10_behind 18 = .ok (.ishr, 1) := by decide +kernel
theorem dX10_behind_19 : decode cX10_behind 19 = .ok (.iconst 1, 1) := by decide +kernel
theorem dX10_behind_20 : decode cX10_behind 20 = .ok (.iand, 1) := by decide +kernel
theorem dX10_behind_21 : decode cX10_behind 21 = .ok (.iconst 1, 1) := by decide +kernel
theorem dX10_behind_22 : decode cX10_behind 22 = .ok (.if_icmp .ne 18, 3) := by decide +kernel
theorem dX10_behind_25 : decode cX10_behind 25 = .ok (.aload_n 0, 1) := by decide +kernel
theorem dX10_behind_26 : decode cX10_behind 26 = .ok (.getfield 38, 3) := by decide +kernel
theorem dX10_behind_29 : decode cX10_behind 29 = .ok (.bipush 10, 2) := by decide +kernel
theorem dX10_behind_31 : decode cX10_behind 31 = .ok (.iload_n 1, 1) := by decide +kernel
theorem dX10_behind_32 : decode cX10_behind 32 = .ok (.imul, 1) := by decide +kernel
theorem dX10_behind_33 : decode cX10_behind 33 = .ok (.iload 4, 2) := by decide +kernel
theorem dX10_behind_35 : decode cX10_behind 35 = .ok (.iadd, 1) := by decide +kernel
theorem dX10_behind_36 : decode cX10_behind 36 = .ok (.iaload, 1) := by decide +kernel
theorem dX10_behind_37 : decode cX10_behind 37 = .ok (.goto 4, 3) := by decide +kernel
theorem dX10_behind_40 : decode cX10_behind 40 = .ok (.iconst 0, 1) := by decide +kernel
theorem dX10_behind_41 : decode cX10_behind 41 = .ok (.iadd, 1) := by decide +kernel
theorem dX10_behind_42 : decode cX10_behind 42 = .ok (.istore_n 3, 1) := by decide +kernel
theorem dX10_behind_43 : decode cX10_behind 43 = .ok (.iinc 4 1, 3) := by decide +kernel
theorem dX10_behind_46 : decode cX10_behind 46 = .ok (.goto (-41), 3) := by decide +kernel
theorem dX10_behind_49 : decode cX10_behind 49 = .ok (.iload_n 3, 1) := by decide +kernel
theorem dX10_behind_50 : decode cX10_behind 50 = .ok (.ireturn, 1) := by decide +kernel
set_option maxRecDepth 20000 in
theorem ggX10_fill_X10_gatherOvers : GoodIn wsX10_fill wsX10_gatherOvers := goodIn_r _ [8, 9, 10, 11, 12, 7, 13, 14, 15, 16, 17, 18, 19, 20, 21, 22, 23, 24, 25, 26, 27, 28, 29, 30, 35, 36, 37, 38, 39, 40, 41, 42, 43, 44, 45, 46, 47, 48, 49, 50, 51, 52] (by decide +kernel) (by decide +kernel)
set_option maxRecDepth 20000 in
theorem gX10_fill_X10_gatherOvers : GoodIn wsX10_fill (wsV RX10 149 RX10 yX10_gatherOvers wsX10_gatherOvers) := goodIn_app (goodIn_of _ (by decide +kernel)) ggX10_fill_X10_gatherOvers
set_option maxRecDepth 20000 in
theorem ggX10_fill_X10_n : GoodIn wsX10_fill wsX10_n := goodIn_r _ [13, 14, 35, 36, 37, 38, 39, 40, 41, 42, 43, 44, 45, 46, 47, 48, 49, 50, 51, 52] (by decide +kernel) (by decide +kernel)
set_option maxRecDepth 20000 in
theorem gX10_fill_X10_n : GoodIn wsX10_fill (wsV RX10 56 RX10 yX10_n wsX10_n) := goodIn_app (goodIn_of _ (by decide +kernel)) ggX10_fill_X10_n
set_option maxRecDepth 20000 in
theorem ggX10_fill_X10_behind : GoodIn wsX10_fill wsX10_behind := goodIn_r _ [34, 9, 10, 11, 12, 7, 13, 14, 35, 36, 37, 38, 39, 40, 41, 42, 43, 44, 45, 46, 47, 48, 49, 50, 51, 52] (by decide +kernel) (by decide +kernel)
set_option maxRecDepth 20000 in
theorem gX10_fill_X10_behind : GoodIn wsX10_fill (wsV RX10 153 RX10 yX10_behind wsX10_behind) := goodIn_app (goodIn_of _ (by decide +kernel)) ggX10_fill_X10_behind
theorem dX10_fill_0 : decode cX10_fill 0 = .ok (.aload_n 0, 1) := by decide +kernel
theorem dX10_fill_1 : decode cX10_fill 1 = .ok (.invokevirtual 149, 3) := by decide +kernel
theorem dX10_fill_4 : decode cX10_fill 4 = .ok (.iconst 1, 1) := by decide +kernel
theorem dX10_fill_5 : decode cX10_fill 5 = .ok (.aload_n 0, 1) := by decide +kernel
theorem dX10_fill_6 : decode cX10_fill 6 = .ok (.invokevirtual 56, 3) := by decide +kernel
theorem dX10_fill_9 : decode cX10_fill 9 = .ok (.ishl, 1) := by decide +kernel
theorem dX10_fill_10 : decode cX10_fill 10 = .ok (.iconst 1, 1) := by decide +kernel
theorem dX10_fill_11 : decode cX10_fill 11 = .ok (.isub, 1) := by decide +kernel
theorem dX10_fill_12 : decode cX10_fill 12 = .ok (.istore_n 1, 1) := by decide +kernel
theorem dX10_fill_13 : decode cX10_fill 13 = .ok (.aload_n 0, 1) := by decide +kernel
theorem dX10_fill_14 : decode cX10_fill 14 = .ok (.getfield 41, 3) := by decide +kernel
theorem dX10_fill_17 : decode cX10_fill 17 = .ok (.iload_n 1, 1) := by decide +kernel
theorem dX10_fill_18 : decode cX10_fill 18 = .ok (.iconst 0, 1) := by decide +kernel
theorem dX10_fill_19 : decode cX10_fill 19 = .ok (.iastore, 1) := by decide +kernel
theorem dX10_fill_20 : decode cX10_fill 20 = .ok (.aload_n 0, 1) := by decide +kernel
theorem dX10_fill_21 : decode cX10_fill 21 = .ok (.getfield 44, 3) := by decide +kernel
theorem dX10_fill_24 : decode cX10_fill 24 = .ok (.iload_n 1, 1) := by decide +kernel
theorem dX10_fill_25 : decode cX10_fill 25 = .ok (.iconst 1, 1) := by decide +kernel
theorem dX10_fill_26 : decode cX10_fill 26 = .ok (.iastore, 1) := by decide +kernel
theorem dX10_fill_27 : decode cX10_fill 27 = .ok (.iload_n 1, 1) := by decide +kernel
theorem dX10_fill_28 : decode cX10_fill 28 = .ok (.iconst 1, 1) := by decide +kernel
theorem dX10_fill_29 : decode cX10_fill 29 = .ok (.isub, 1) := by decide +kernel
theorem dX10_fill_30 : decode cX10_fill 30 = .ok (.istore_n 2, 1) := by decide +kernel
theorem dX10_fill_31 : decode cX10_fill 31 = .ok (.iload_n 2, 1) := by decide +kernel
theorem dX10_fill_32 : decode cX10_fill 32 = .ok (.ifCond .lt 131, 3) := by decide +kernel
theorem dX10_fill_35 : decode cX10_fill 35 = .ok (.aload_n 0, 1) := by decide +kernel
theorem dX10_fill_36 : decode cX10_fill 36 = .ok (.getfield 41, 3) := by decide +kernel
theorem dX10_fill_39 : decode cX10_fill 39 = .ok (.iload_n 2, 1) := by decide +kernel
theorem dX10_fill_40 : decode cX10_fill 40 = .ok (.ldc 152, 2) := by decide +kernel
theorem dX10_fill_42 : decode cX10_fill 42 = .ok (.iastore, 1) := by decide +kernel
theorem dX10_fill_43 : decode cX10_fill 43 = .ok (.aload_n 0, 1) := by decide +kernel
theorem dX10_fill_44 : decode cX10_fill 44 = .ok (.getfield 44, 3) := by decide +kernel
theorem dX10_fill_47 : decode cX10_fill 47 = .ok (.iload_n 2, 1) := by decide +kernel
theorem dX10_fill_48 : decode cX10_fill 48 = .ok (.iconst 0, 1) := by decide +kernel
theorem dX10_fill_49 : decode cX10_fill 49 = .ok (.iastore, 1) := by decide +kernel
theorem dX10_fill_50 : decode cX10_fill 50 = .ok (.iconst 0, 1) := by decide +kernel
theorem dX10_fill_51 : decode cX10_fill 51 = .ok (.istore_n 3, 1) := by decide +kernel
theorem dX10_fill_52 : decode cX10_fill 52 = .ok (.iload_n 3, 1) := by decide +kernel
theorem dX10_fill_53 : decode cX10_fill 53 = .ok (.aload_n 0, 1) := by decide +kernel
theorem dX10_fill_54 : decode cX10_fill 54 = .ok (.invokevirtual 56, 3) := by decide +kernel
theorem dX10_fill_57 : decode cX10_fill 57 = .ok (.if_icmp .ge 100, 3) := by decide +kernel
theorem dX10_fill_60 : decode cX10_fill 60 = .ok (.iload_n 2, 1) := by decide +kernel
theorem dX10_fill_61 : decode cX10_fill 61 = .ok (.iload_n 3, 1) := by decide +kernel
theorem dX10_fill_62 : decode cX10_fill 62 = .ok (.ishr, 1) := by decide +kernel
theorem dX10_fill_63 : decode cX10_fill 63 = .ok (.iconst 1, 1) := by decide +kernel
theorem dX10_fill_64 : decode cX10_fill 64 = .ok (.iand, 1) := by decide +kernel
theorem dX10_fill_65 : decode cX10_fill 65 = .ok (.iconst 1, 1) := by decide +kernel
theorem dX10_fill_66 : decode cX10_fill 66 = .ok (.if_icmp .ne 6, 3) := by decide +kernel
theorem dX10_fill_69 : decode cX10_fill 69 = .ok (.goto 82, 3) := by decide +kernel
theorem dX10_fill_72 : decode cX10_fill 72 = .ok (.aload_n 0, 1) := by decide +kernel
theorem dX10_fill_73 : decode cX10_fill 73 = .ok (.iload_n 3, 1) := by decide +kernel
theorem dX10_fill_74 : decode cX10_fill 74 = .ok (.iload_n 2, 1) := by decide +kernel
theorem dX10_fill_75 : decode cX10_fill 75 = .ok (.invokevirtual 153, 3) := by decide +kernel
theorem dX10_fill_78 : decode cX10_fill 78 = .ok (.aload_n 0, 1) := by decide +kernel
theorem dX10_fill_79 : decode cX10_fill 79 = .ok (.getfield 41, 3) := by decide +kernel
theorem dX10_fill_82 : decode cX10_fill 82 = .ok (.iload_n 2, 1) := by decide +kernel
theorem dX10_fill_83 : decode cX10_fill 83 = .ok (.iconst 1, 1) := by decide +kernel
theorem dX10_fill_84 : decode cX10_fill 84 = .ok (.iload_n 3, 1) := by decide +kernel
theorem dX10_fill_85 : decode cX10_fill 85 = .ok (.ishl, 1) := by decide +kernel
theorem dX10_fill_86 : decode cX10_fill 86 = .ok (.ior, 1) := by decide +kernel
theorem dX10_fill_87 : decode cX10_fill 87 = .ok (.iaload, 1) := by decide +kernel
theorem dX10_fill_88 : decode cX10_fill 88 = .ok (.iadd, 1) := by decide +kernel
theorem dX10_fill_89 : decode cX10_fill 89 = .ok (.istore 4, 2) := by decide +kernel
theorem dX10_fill_91 : decode cX10_fill 91 = .ok (.iload 4, 2) := by decide +kernel
theorem dX10_fill_93 : decode cX10_fill 93 = .ok (.aload_n 0, 1) := by decide +kernel
theorem dX10_fill_94 : decode cX10_fill 94 = .ok (.getfield 41, 3) := by decide +kernel
theorem dX10_fill_97 : decode cX10_fill 97 = .ok (.iload_n 2, 1) := by decide +kernel
theorem dX10_fill_98 : decode cX10_fill 98 = .ok (.iaload, 1) := by decide +kernel
theorem dX10_fill_99 : decode cX10_fill 99 = .ok (.if_icmp .ge 18, 3) := by decide +kernel
theorem dX10_fill_102 : decode cX10_fill 102 = .ok (.aload_n 0, 1) := by decide +kernel
theorem dX10_fill_103 : decode cX10_fill 103 = .ok (.getfield 41, 3) := by decide +kernel
theorem dX10_fill_106 : decode cX10_fill 106 = .ok (.iload_n 2, 1) := by decide +kernel
theorem dX10_fill_107 : decode cX10_fill 107 = .ok (.iload 4, 2) := by decide +kernel
theorem dX10_fill_109 : decode cX10_fill 109 = .ok (.iastore, 1) := by decide +kernel
theorem dX10_fill_110 : decode cX10_fill 110 = .ok (.aload_n 0, 1) := by decide +kernel
theorem dX10_fill_111 : decode cX10_fill 111 = .ok (.getfield 44, 3) := by decide +kernel
theorem dX10_fill_114 : decode cX10_fill 114 = .ok (.iload_n 2, 1) := by decide +kernel
theorem dX10_fill_115 : decode cX10_fill 115 = .ok (.iconst 0, 1) := by decide +kernel
theorem dX10_fill_116 : decode cX10_fill 116 = .ok (.iastore, 1) := by decide +kernel
theorem dX10_fill_117 : decode cX10_fill 117 = .ok (.aload_n 0, 1) := by decide +kernel
theorem dX10_fill_118 : decode cX10_fill 118 = .ok (.getfield 44, 3) := by decide +kernel
theorem dX10_fill_121 : decode cX10_fill 121 = .ok (.iload_n 2, 1) := by decide +kernel
theorem dX10_fill_122 : decode cX10_fill 122 = .ok (.dup2, 1) := by decide +kernel
theorem dX10_fill_123 : decode cX10_fill 123 = .ok (.iaload, 1) := by decide +kernel
theorem dX10_fill_124 : decode cX10_fill 124 = .ok (.iload 4, 2) := by decide +kernel
theorem dX10_fill_126 : decode cX10_fill 126 = .ok (.aload_n 0, 1) := by decide +kernel
theorem dX10_fill_127 : decode cX10_fill 127 = .ok (.getfield 41, 3) := by decide +kernel
theorem dX10_fill_130 : decode cX10_fill 130 = .ok (.iload_n 2, 1) := by decide +kernel
theorem dX10_fill_131 : decode cX10_fill 131 = .ok (.iaload, 1) := by decide +kernel
theorem dX10_fill_132 : decode cX10_fill 132 = .ok (.if_icmp .ne 16, 3) := by decide +kernel
theorem dX10_fill_135 : decode cX10_fill 135 = .ok (.aload_n 0, 1) := by decide +kernel
theorem dX10_fill_136 : decode cX10_fill 136 = .ok (.getfield 44, 3) := by decide +kernel
theorem dX10_fill_139 : decode cX10_fill 139 = .ok (.iload_n 2, 1) := by decide +kernel
theorem dX10_fill_140 : decode cX10_fill 140 = .ok (.iconst 1, 1) := by decide +kernel
theorem dX10_fill_141 : decode cX10_fill 141 = .ok (.iload_n 3, 1) := by decide +kernel
theorem dX10_fill_142 : decode cX10_fill 142 = .ok (.ishl, 1) := by decide +kernel
theorem dX10_fill_143 : decode cX10_fill 143 = .ok (.ior, 1) := by decide +kernel
theorem dX10_fill_144 : decode cX10_fill 144 = .ok (.iaload, 1) := by decide +kernel
theorem dX10_fill_145 : decode cX10_fill 145 = .ok (.goto 4, 3) := by decide +kernel
theorem dX10_fill_148 : decode cX10_fill 148 = .ok (.iconst 0, 1) := by decide +kernel
theorem dX10_fill_149 : decode cX10_fill 149 = .ok (.iadd, 1) := by decide +kernel
theorem dX10_fill_150 : decode cX10_fill 150 = .ok (.iastore, 1) := by decide +kernel
theorem dX10_fill_151 : decode cX10_fill 151 = .ok (.iinc 3 1, 3) := by decide +kernel
theorem dX10_fill_154 : decode cX10_fill 154 = .ok (.goto (-102), 3) := by decide +kernel
theorem dX10_fill_157 : decode cX10_fill 157 = .ok (.iinc 2 (-1), 3) := by decide +kernel
theorem dX10_fill_160 : decode cX10_fill 160 = .ok (.goto (-129), 3) := by decide +kernel
theorem dX10_fill_163 : decode cX10_fill 163 = .ok (.return_, 1) := by decide +kernel
set_option maxRecDepth 20000 in
theorem ggX10_cost_X10_n : GoodIn wsX10_cost wsX10_n := goodIn_r _ [7, 8, 34, 35, 36, 37, 38, 39, 40, 41, 42, 43, 44, 45, 46, 47, 48, 49, 50, 51] (by decide +kernel) (by decide +kernel)
set_option maxRecDepth 20000 in
theorem gX10_cost_X10_n : GoodIn wsX10_cost (wsV RX10 56 RX10 yX10_n wsX10_n) := goodIn_app (goodIn_of _ (by decide +kernel)) ggX10_cost_X10_n
set_option maxRecDepth 20000 in
theorem ggX10_cost_X10_gatherOvers : GoodIn wsX10_cost wsX10_gatherOvers := goodIn_r _ [12, 13, 3, 4, 5, 6, 7, 8, 14, 15, 16, 17, 18, 19, 20, 21, 22, 23, 24, 25, 26, 27, 28, 29, 34, 35, 36, 37, 38, 39, 40, 41, 42, 43, 44, 45, 46, 47, 48, 49, 50, 51] (by decide +kernel) (by decide +kernel)
set_option maxRecDepth 20000 in
theorem gX10_cost_X10_gatherOvers : GoodIn wsX10_cost (wsV RX10 149 RX10 yX10_gatherOvers wsX10_gatherOvers) := goodIn_app (goodIn_of _ (by decide +kernel)) ggX10_cost_X10_gatherOvers
set_option maxRecDepth 20000 in
theorem ggX10_cost_X10_behind : GoodIn wsX10_cost wsX10_behind := goodIn_r _ [33, 13, 3, 4, 5, 6, 7, 8, 34, 35, 36, 37, 38, 39, 40, 41, 42, 43, 44, 45, 46, 47, 48, 49, 50, 51] (by decide +kernel) (by decide +kernel)
set_option maxRecDepth 20000 in
theorem gX10_cost_X10_behind : GoodIn wsX10_cost (wsV RX10 153 RX10 yX10_behind wsX10_behind) := goodIn_app (goodIn_of _ (by decide +kernel)) ggX10_cost_X10_behind
theorem dX10_cost_0 : decode cX10_cost 0 = .ok (.lload_n 1, 1) := by decide +kernel
theorem dX10_cost_1 : decode cX10_cost 1 = .ok (.lconst 0, 1) := by decide +kernel
theorem dX10_cost_2 : decode cX10_cost 2 = .ok (.lcmp, 1) := by decide +kernel
theorem dX10_cost_3 : decode cX10_cost 3 = .ok (.ifCond .ge 5, 3) := by decide +kernel
theorem dX10_cost_6 : decode cX10_cost 6 = .ok (.iconst (-1), 1) := by decide +kernel
theorem dX10_cost_7 : decode cX10_cost 7 = .ok (.ireturn, 1) := by decide +kernel
theorem dX10_cost_8 : decode cX10_cost 8 = .ok (.lload_n 1, 1) := by decide +kernel
theorem dX10_cost_9 : decode cX10_cost 9 = .ok (.lstore_n 3, 1) := by decide +kernel
theorem dX10_cost_10 : decode cX10_cost 10 = .ok (.iconst 0, 1) := by decide +kernel
theorem dX10_cost_11 : decode cX10_cost 11 = .ok (.istore 5, 2) := by decide +kernel
theorem dX10_cost_13 : decode cX10_cost 13 = .ok (.aload_n 0, 1) := by decide +kernel
theorem dX10_cost_14 : decode cX10_cost 14 = .ok (.invokevirtual 56, 3) := by decide +kernel
theorem dX10_cost_17 : decode cX10_cost 17 = .ok (.iconst 1, 1) := by decide +kernel
theorem dX10_cost_18 : decode cX10_cost 18 = .ok (.isub, 1) := by decide +kernel
theorem dX10_cost_19 : decode cX10_cost 19 = .ok (.istore 6, 2) := by decide +kernel
theorem dX10_cost_21 : decode cX10_cost 21 = .ok (.iload 6, 2) := by decide +kernel
theorem dX10_cost_23 : decode cX10_cost 23 = .ok (.ifCond .lt 74, 3) := by decide +kernel
theorem dX10_cost_26 : decode cX10_cost 26 = .ok (.aload_n 0, 1) := by decide +kernel
theorem dX10_cost_27 : decode cX10_cost 27 = .ok (.getfield 47, 3) := by decide +kernel
theorem dX10_cost_30 : decode cX10_cost 30 = .ok (.iload 6, 2) := by decide +kernel
theorem dX10_cost_32 : decode cX10_cost 32 = .ok (.lload_n 3, 1) := by decide +kernel
theorem dX10_cost_33 : decode cX10_cost 33 = .ok (.ldc2_w 156, 3) := by decide +kernel
theorem dX10_cost_36 : decode cX10_cost 36 = .ok (.lrem, 1) := by decide +kernel
theorem dX10_cost_37 : decode cX10_cost 37 = .ok (.l2i, 1) := by decide +kernel
theorem dX10_cost_38 : decode cX10_cost 38 = .ok (.iastore, 1) := by decide +kernel
theorem dX10_cost_39 : decode cX10_cost 39 = .ok (.lload_n 3, 1) := by decide +kernel
theorem dX10_cost_40 : decode cX10_cost 40 = .ok (.ldc2_w 156, 3) := by decide +kernel
theorem dX10_cost_43 : decode cX10_cost 43 = .ok (.ldiv, 1) := by decide +kernel
theorem dX10_cost_44 : decode cX10_cost 44 = .ok (.lstore_n 3, 1) := by decide +kernel
theorem dX10_cost_45 : decode cX10_cost 45 = .ok (.aload_n 0, 1) := by decide +kernel
theorem dX10_cost_46 : decode cX10_cost 46 = .ok (.getfield 47, 3) := by decide +kernel
theorem dX10_cost_49 : decode cX10_cost 49 = .ok (.iload 6, 2) := by decide +kernel
theorem dX10_cost_51 : decode cX10_cost 51 = .ok (.iaload, 1) := by decide +kernel
theorem dX10_cost_52 : decode cX10_cost 52 = .ok (.aload_n 0, 1) := by decide +kernel
theorem dX10_cost_53 : decode cX10_cost 53 = .ok (.invokevirtual 56, 3) := by decide +kernel
theorem dX10_cost_56 : decode cX10_cost 56 = .ok (.if_icmp .ge 19, 3) := by decide +kernel
theorem dX10_cost_59 : decode cX10_cost 59 = .ok (.iload 5, 2) := by decide +kernel
theorem dX10_cost_61 : decode cX10_cost 61 = .ok (.aload_n 0, 1) := by decide +kernel
theorem dX10_cost_62 : decode cX10_cost 62 = .ok (.getfield 47, 3) := by decide +kernel
theorem dX10_cost_65 : decode cX10_cost 65 = .ok (.iload 6, 2) := by decide +kernel
theorem dX10_cost_67 : decode cX10_cost 67 = .ok (.iaload, 1) := by decide +kernel
theorem dX10_cost_68 : decode cX10_cost 68 = .ok (.ishr, 1) := by decide +kernel
theorem dX10_cost_69 : decode cX10_cost 69 = .ok (.iconst 1, 1) := by decide +kernel
theorem dX10_cost_70 : decode cX10_cost 70 = .ok (.iand, 1) := by decide +kernel
theorem dX10_cost_71 : decode cX10_cost 71 = .ok (.iconst 1, 1) := by decide +kernel
theorem dX10_cost_72 : decode cX10_cost 72 = .ok (.if_icmp .ne 5, 3) := by decide +kernel
theorem dX10_cost_75 : decode cX10_cost 75 = .ok (.iconst (-1), 1) := by decide +kernel
theorem dX10_cost_76 : decode cX10_cost 76 = .ok (.ireturn, 1) := by decide +kernel
theorem dX10_cost_77 : decode cX10_cost 77 = .ok (.iload 5, 2) := by decide +kernel
theorem dX10_cost_79 : decode cX10_cost 79 = .ok (.iconst 1, 1) := by decide +kernel
theorem dX10_cost_80 : decode cX10_cost 80 = .ok (.aload_n 0, 1) := by decide +kernel
theorem dX10_cost_81 : decode cX10_cost 81 = .ok (.getfield 47, 3) := by decide +kernel
theorem dX10_cost_84 : decode cX10_cost 84 = .ok (.iload 6, 2) := by decide +kernel
theorem dX10_cost_86 : decode cX10_cost 86 = .ok (.iaload, 1) := by decide +kernel
theorem dX10_cost_87 : decode cX10_cost 87 = .ok (.ishl, 1) := by decide +kernel
theorem dX10_cost_88 : decode cX10_cost 88 = .ok (.ior, 1) := by decide +kernel
theorem dX10_cost_89 : decode cX10_cost 89 = .ok (.istore 5, 2) := by decide +kernel
theorem dX10_cost_91 : decode cX10_cost 91 = .ok (.iinc 6 (-1), 3) := by decide +kernel
theorem dX10_cost_94 : decode cX10_cost 94 = .ok (.goto (-73), 3) := by decide +kernel
theorem dX10_cost_97 : decode cX10_cost 97 = .ok (.lload_n 3, 1) := by decide +kernel
theorem dX10_cost_98 : decode cX10_cost 98 = .ok (.lconst 0, 1) := by decide +kernel
theorem dX10_cost_99 : decode cX10_cost 99 = .ok (.lcmp, 1) := by decide +kernel
theorem dX10_cost_100 : decode cX10_cost 100 = .ok (.ifCond .eq 5, 3) := by decide +kernel
theorem dX10_cost_103 : decode cX10_cost 103 = .ok (.iconst (-1), 1) := by decide +kernel
theorem dX10_cost_104 : decode cX10_cost 104 = .ok (.ireturn, 1) := by decide +kernel
theorem dX10_cost_105 : decode cX10_cost 105 = .ok (.aload_n 0, 1) := by decide +kernel
theorem dX10_cost_106 : decode cX10_cost 106 = .ok (.invokevirtual 149, 3) := by decide +kernel
theorem dX10_cost_109 : decode cX10_cost 109 = .ok (.iconst 0, 1) := by decide +kernel
theorem dX10_cost_110 : decode cX10_cost 110 = .ok (.istore 6, 2) := by decide +kernel
theorem dX10_cost_112 : decode cX10_cost 112 = .ok (.iconst 0, 1) := by decide +kernel
theorem dX10_cost_113 : decode cX10_cost 113 = .ok (.istore 5, 2) := by decide +kernel
theorem dX10_cost_115 : decode cX10_cost 115 = .ok (.iconst 0, 1) := by decide +kernel
theorem dX10_cost_116 : decode cX10_cost 116 = .ok (.istore 7, 2) := by decide +kernel
theorem dX10_cost_118 : decode cX10_cost 118 = .ok (.iload 7, 2) := by decide +kernel
theorem dX10_cost_120 : decode cX10_cost 120 = .ok (.aload_n 0, 1) := by decide +kernel
theorem dX10_cost_121 : decode cX10_cost 121 = .ok (.invokevirtual 56, 3) := by decide +kernel
theorem dX10_cost_124 : decode cX10_cost 124 = .ok (.if_icmp .ge 41, 3) := by decide +kernel
theorem dX10_cost_127 : decode cX10_cost 127 = .ok (.iload 6, 2) := by decide +kernel
theorem dX10_cost_129 : decode cX10_cost 129 = .ok (.aload_n 0, 1) := by decide +kernel
theorem dX10_cost_130 : decode cX10_cost 130 = .ok (.aload_n 0, 1) := by decide +kernel
theorem dX10_cost_131 : decode cX10_cost 131 = .ok (.getfield 47, 3) := by decide +kernel
theorem dX10_cost_134 : decode cX10_cost 134 = .ok (.iload 7, 2) := by decide +kernel
theorem dX10_cost_136 : decode cX10_cost 136 = .ok (.iaload, 1) := by decide +kernel
theorem dX10_cost_137 : decode cX10_cost 137 = .ok (.iload 5, 2) := by decide +kernel
theorem dX10_cost_139 : decode cX10_cost 139 = .ok (.invokevirtual 153, 3) := by decide +kernel
theorem dX10_cost_142 : decode cX10_cost 142 = .ok (.iadd, 1) := by decide +kernel
theorem dX10_cost_143 : decode cX10_cost 143 = .ok (.istore 6, 2) := by decide +kernel
theorem dX10_cost_145 : decode cX10_cost 145 = .ok (.iload 5, 2) := by decide +kernel
theorem dX10_cost_147 : decode cX10_cost 147 = .ok (.iconst 1, 1) := by decide +kernel
theorem dX10_cost_148 : decode cX10_cost 148 = .ok (.aload_n 0, 1) := by decide +kernel
theorem dX10_cost_149 : decode cX10_cost 149 = .ok (.getfield 47, 3) := by decide +kernel
theorem dX10_cost_152 : decode cX10_cost 152 = .ok (.iload 7, 2) := by decide +kernel
theorem dX10_cost_154 : decode cX10_cost 154 = .ok (.iaload, 1) := by decide +kernel
theorem dX10_cost_155 : decode cX10_cost 155 = .ok (.ishl, 1) := by decide +kernel
theorem dX10_cost_156 : decode cX10_cost 156 = .ok (.ior, 1) := by decide +kernel
theorem dX10_cost_157 : decode cX10_cost 157 = .ok (.istore 5, 2) := by decide +kernel
theorem dX10_cost_159 : decode cX10_cost 159 = .ok (.iinc 7 1, 3) := by decide +kernel
theorem dX10_cost_162 : decode cX10_cost 162 = .ok (.goto (-44), 3) := by decide +kernel
theorem dX10_cost_165 : decode cX10_cost 165 = .ok (.iload 6, 2) := by decide +kernel
theorem dX10_cost_167 : decode cX10_cost 167 = .ok (.ireturn, 1) := by decide +kernel
set_option maxRecDepth 20000 in
theorem ggX10_best_X10_fill : GoodIn wsX10_best wsX10_fill := goodIn_r _ [6, 1, 7, 8, 9, 10, 11, 5, 12, 13, 14, 15, 16, 17, 18, 19, 20, 21, 22, 23, 24, 25, 26, 27, 28, 29, 30, 31, 32, 33, 34, 35, 36, 37, 38, 39, 40, 41, 42, 43, 44, 45, 46, 47, 48, 49, 50, 51, 52, 53, 54, 55, 56] (by decide +kernel) (by decide +kernel)
set_option maxRecDepth 20000 in
theorem gX10_best_X10_fill : GoodIn wsX10_best (wsV RX10 158 RX10 yX10_fill wsX10_fill) := goodIn_app (goodIn_of _ (by decide +kernel)) ggX10_best_X10_fill
theorem dX10_best_0 : decode cX10_best 0 = .ok (.aload_n 0, 1) := by decide +kernel
theorem dX10_best_1 : decode cX10_best 1 = .ok (.invokevirtual 158, 3) := by decide +kernel
theorem dX10_best_4 : decode cX10_best 4 = .ok (.aload_n 0, 1) := by decide +kernel
theorem dX10_best_5 : decode cX10_best 5 = .ok (.getfield 41, 3) := by decide +kernel
theorem dX10_best_8 : decode cX10_best 8 = .ok (.iconst 0, 1) := by decide +kernel
theorem dX10_best_9 : decode cX10_best 9 = .ok (.iaload, 1) := by decide +kernel
theorem dX10_best_10 : decode cX10_best 10 = .ok (.ireturn, 1) := by decide +kernel
set_option maxRecDepth 20000 in
theorem ggX10_rows_X10_fill : GoodIn wsX10_rows wsX10_fill := goodIn_r _ [6, 7, 1, 8, 9, 10, 11, 5, 12, 13, 14, 15, 16, 17, 18, 19, 20, 21, 22, 23, 24, 25, 26, 27, 28, 29, 30, 31, 32, 33, 34, 35, 36, 37, 38, 39, 40, 41, 42, 43, 44, 45, 46, 47, 48, 49, 50, 51, 52, 53, 54, 55, 56] (by decide +kernel) (by decide +kernel)
set_option maxRecDepth 20000 in
theorem gX10_rows_X10_fill : GoodIn wsX10_rows (wsV RX10 158 RX10 yX10_fill wsX10_fill) := goodIn_app (goodIn_of _ (by decide +kernel)) ggX10_rows_X10_fill
theorem dX10_rows_0 : decode cX10_rows 0 = .ok (.aload_n 0, 1) := by decide +kernel
theorem dX10_rows_1 : decode cX10_rows 1 = .ok (.invokevirtual 158, 3) := by decide +kernel
theorem dX10_rows_4 : decode cX10_rows 4 = .ok (.aload_n 0, 1) := by decide +kernel
theorem dX10_rows_5 : decode cX10_rows 5 = .ok (.getfield 44, 3) := by decide +kernel
theorem dX10_rows_8 : decode cX10_rows 8 = .ok (.iconst 0, 1) := by decide +kernel
theorem dX10_rows_9 : decode cX10_rows 9 = .ok (.iaload, 1) := by decide +kernel
theorem dX10_rows_10 : decode cX10_rows 10 = .ok (.ireturn, 1) := by decide +kernel
set_option maxRecDepth 20000 in
theorem ggX10_first_X10_fill : GoodIn wsX10_first wsX10_fill := goodIn_r _ [7, 1, 8, 9, 10, 11, 12, 6, 13, 14, 15, 16, 17, 18, 19, 20, 21, 22, 23, 24, 25, 26, 27, 28, 29, 30, 31, 32, 33, 34, 35, 36, 37, 38, 39, 40, 41, 42, 43, 44, 45, 46, 47, 48, 49, 50, 51, 52, 53, 54, 55, 56, 57] (by decide +kernel) (by decide +kernel)
set_option maxRecDepth 20000 in
theorem gX10_first_X10_fill : GoodIn wsX10_first (wsV RX10 158 RX10 yX10_fill wsX10_fill) := goodIn_app (goodIn_of _ (by decide +kernel)) ggX10_first_X10_fill
set_option maxRecDepth 20000 in
theorem ggX10_first_X10_n : GoodIn wsX10_first wsX10_n := goodIn_r _ [18, 19, 40, 41, 42, 43, 44, 45, 46, 47, 48, 49, 50, 51, 52, 53, 54, 55, 56, 57] (by decide +kernel) (by decide +kernel)
set_option maxRecDepth 20000 in
theorem gX10_first_X10_n : GoodIn wsX10_first (wsV RX10 56 RX10 yX10_n wsX10_n) := goodIn_app (goodIn_of _ (by decide +kernel)) ggX10_first_X10_n
set_option maxRecDepth 20000 in
theorem ggX10_first_X10_behind : GoodIn wsX10_first wsX10_behind := goodIn_r _ [39, 14, 15, 16, 17, 6, 18, 19, 40, 41, 42, 43, 44, 45, 46, 47, 48, 49, 50, 51, 52, 53, 54, 55, 56, 57] (by decide +kernel) (by decide +kernel)
set_option maxRecDepth 20000 in
theorem gX10_first_X10_behind : GoodIn wsX10_first (wsV RX10 153 RX10 yX10_behind wsX10_behind) := goodIn_app (goodIn_of _ (by decide +kernel)) ggX10_first_X10_behind
theorem dX10_first_0 : decode cX10_first 0 = .ok (.aload_n 0, 1) := by decide +kernel
theorem dX10_first_1 : decode cX10_first 1 = .ok (.invokevirtual 158, 3) := by decide +kernel
theorem dX10_first_4 : decode cX10_first 4 = .ok (.lconst 0, 1) := by decide +kernel
theorem dX10_first_5 : decode cX10_first 5 = .ok (.lstore_n 1, 1) := by decide +kernel
theorem dX10_first_6 : decode cX10_first 6 = .ok (.iconst 0, 1) := by decide +kernel
theorem dX10_first_7 : decode cX10_first 7 = .ok (.istore_n 3, 1) := by decide +kernel
theorem dX10_first_8 : decode cX10_first 8 = .ok (.iconst 0, 1) := by decide +kernel
theorem dX10_first_9 : decode cX10_first 9 = .ok (.istore 4, 2) := by decide +kernel
theorem dX10_first_11 : decode cX10_first 11 = .ok (.iload 4, 2) := by decide +kernel
theorem dX10_first_13 : decode cX10_first 13 = .ok (.aload_n 0, 1) := by decide +kernel
theorem dX10_first_14 : decode cX10_first 14 = .ok (.invokevirtual 56, 3) := by decide +kernel
theorem dX10_first_17 : decode cX10_first 17 = .ok (.if_icmp .ge 93, 3) := by decide +kernel
theorem dX10_first_20 : decode cX10_first 20 = .ok (.iconst (-1), 1) := by decide +kernel
theorem dX10_first_21 : decode cX10_first 21 = .ok (.istore 5, 2) := by decide +kernel
theorem dX10_first_23 : decode cX10_first 23 = .ok (.iconst 0, 1) := by decide +kernel
theorem dX10_first_24 : decode cX10_first 24 = .ok (.istore 6, 2) := by decide +kernel
theorem dX10_first_26 : decode cX10_first 26 = .ok (.iload 6, 2) := by decide +kernel
theorem dX10_first_28 : decode cX10_first 28 = .ok (.aload_n 0, 1) := by decide +kernel
theorem dX10_first_29 : decode cX10_first 29 = .ok (.invokevirtual 56, 3) := by decide +kernel
theorem dX10_first_32 : decode cX10_first 32 = .ok (.if_icmp .ge 55, 3) := by decide +kernel
theorem dX10_first_35 : decode cX10_first 35 = .ok (.iload 5, 2) := by decide +kernel
theorem dX10_first_37 : decode cX10_first 37 = .ok (.ifCond .ge 50, 3) := by decide +kernel
theorem dX10_first_40 : decode cX10_first 40 = .ok (.iload_n 3, 1) := by decide +kernel
theorem dX10_first_41 : decode cX10_first 41 = .ok (.iload 6, 2) := by decide +kernel
theorem dX10_first_43 : decode cX10_first 43 = .ok (.ishr, 1) := by decide +kernel
theorem dX10_first_44 : decode cX10_first 44 = .ok (.iconst 1, 1) := by decide +kernel
theorem dX10_first_45 : decode cX10_first 45 = .ok (.iand, 1) := by decide +kernel
theorem dX10_first_46 : decode cX10_first 46 = .ok (.ifCond .ne 35, 3) := by decide +kernel
theorem dX10_first_49 : decode cX10_first 49 = .ok (.aload_n 0, 1) := by decide +kernel
theorem dX10_first_50 : decode cX10_first 50 = .ok (.iload 6, 2) := by decide +kernel
theorem dX10_first_52 : decode cX10_first 52 = .ok (.iload_n 3, 1) := by decide +kernel
theorem dX10_first_53 : decode cX10_first 53 = .ok (.invokevirtual 153, 3) := by decide +kernel
theorem dX10_first_56 : decode cX10_first 56 = .ok (.aload_n 0, 1) := by decide +kernel
theorem dX10_first_57 : decode cX10_first 57 = .ok (.getfield 41, 3) := by decide +kernel
theorem dX10_first_60 : decode cX10_first 60 = .ok (.iload_n 3, 1) := by decide +kernel
theorem dX10_first_61 : decode cX10_first 61 = .ok (.iconst 1, 1) := by decide +kernel
theorem dX10_first_62 : decode cX10_first 62 = .ok (.iload 6, 2) := by decide +kernel
theorem dX10_first_64 : decode cX10_first 64 = .ok (.ishl, 1) := by decide +kernel
theorem dX10_first_65 : decode cX10_first 65 = .ok (.ior, 1) := by decide +kernel
theorem dX10_first_66 : decode cX10_first 66 = .ok (.iaload, 1) := by decide +kernel
theorem dX10_first_67 : decode cX10_first 67 = .ok (.iadd, 1) := by decide +kernel
theorem dX10_first_68 : decode cX10_first 68 = .ok (.aload_n 0, 1) := by decide +kernel
theorem dX10_first_69 : decode cX10_first 69 = .ok (.getfield 41, 3) := by decide +kernel
theorem dX10_first_72 : decode cX10_first 72 = .ok (.iload_n 3, 1) := by decide +kernel
theorem dX10_first_73 : decode cX10_first 73 = .ok (.iaload, 1) := by decide +kernel
theorem dX10_first_74 : decode cX10_first 74 = .ok (.if_icmp .ne 7, 3) := by decide +kernel
theorem dX10_first_77 : decode cX10_first 77 = .ok (.iload 6, 2) := by decide +kernel
theorem dX10_first_79 : decode cX10_first 79 = .ok (.istore 5, 2) := by decide +kernel
theorem dX10_first_81 : decode cX10_first 81 = .ok (.iinc 6 1, 3) := by decide +kernel
theorem dX10_first_84 : decode cX10_first 84 = .ok (.goto (-58), 3) := by decide +kernel
theorem dX10_first_87 : decode cX10_first 87 = .ok (.ldc2_w 156, 3) := by decide +kernel
theorem dX10_first_90 : decode cX10_first 90 = .ok (.lload_n 1, 1) := by decide +kernel
theorem dX10_first_91 : decode cX10_first 91 = .ok (.lmul, 1) := by decide +kernel
theorem dX10_first_92 : decode cX10_first 92 = .ok (.iload 5, 2) := by decide +kernel
theorem dX10_first_94 : decode cX10_first 94 = .ok (.i2l, 1) := by decide +kernel
theorem dX10_first_95 : decode cX10_first 95 = .ok (.ladd, 1) := by decide +kernel
theorem dX10_first_96 : decode cX10_first 96 = .ok (.lstore_n 1, 1) := by decide +kernel
theorem dX10_first_97 : decode cX10_first 97 = .ok (.iload_n 3, 1) := by decide +kernel
theorem dX10_first_98 : decode cX10_first 98 = .ok (.iconst 1, 1) := by decide +kernel
theorem dX10_first_99 : decode cX10_first 99 = .ok (.iload 5, 2) := by decide +kernel
theorem dX10_first_101 : decode cX10_first 101 = .ok (.ishl, 1) := by decide +kernel
theorem dX10_first_102 : decode cX10_first 102 = .ok (.ior, 1) := by decide +kernel
theorem dX10_first_103 : decode cX10_first 103 = .ok (.istore_n 3, 1) := by decide +kernel
theorem dX10_first_104 : decode cX10_first 104 = .ok (.iinc 4 1, 3) := by decide +kernel
theorem dX10_first_107 : decode cX10_first 107 = .ok (.goto (-96), 3) := by decide +kernel
theorem dX10_first_110 : decode cX10_first 110 = .ok (.lload_n 1, 1) := by decide +kernel
theorem dX10_first_111 : decode cX10_first 111 = .ok (.lreturn, 1) := by decide +kernel
set_option maxRecDepth 20000 in
theorem ggX10_bound_X10_gatherOvers : GoodIn wsX10_bound wsX10_gatherOvers := goodIn_r _ [5, 6, 7, 8, 9, 4, 10, 11, 12, 13, 14, 15, 16, 17, 18, 19, 20, 21, 22, 23, 24, 25, 26, 27, 32, 33, 34, 35, 36, 37, 38, 39, 40, 41, 42, 43, 44, 45, 46, 47, 48, 49] (by decide +kernel) (by decide +kernel)
set_option maxRecDepth 20000 in
theorem gX10_bound_X10_gatherOvers : GoodIn wsX10_bound (wsV RX10 149 RX10 yX10_gatherOvers wsX10_gatherOvers) := goodIn_app (goodIn_of _ (by decide +kernel)) ggX10_bound_X10_gatherOvers
set_option maxRecDepth 20000 in
theorem ggX10_bound_X10_n : GoodIn wsX10_bound wsX10_n := goodIn_r _ [10, 11, 32, 33, 34, 35, 36, 37, 38, 39, 40, 41, 42, 43, 44, 45, 46, 47, 48, 49] (by decide +kernel) (by decide +kernel)
set_option maxRecDepth 20000 in
theorem gX10_bound_X10_n : GoodIn wsX10_bound (wsV RX10 56 RX10 yX10_n wsX10_n) := goodIn_app (goodIn_of _ (by decide +kernel)) ggX10_bound_X10_n
set_option maxRecDepth 20000 in
theorem ggX10_bound_X10_ring : GoodIn wsX10_bound wsX10_ring := goodIn_r _ [31, 6, 32, 33, 34, 35, 36, 37, 38, 39, 40, 41, 42, 43, 44, 45, 46, 47, 48, 49] (by decide +kernel) (by decide +kernel)
set_option maxRecDepth 20000 in
theorem gX10_bound_X10_ring : GoodIn wsX10_bound (wsV RX10 161 RX10 yX10_ring wsX10_ring) := goodIn_app (goodIn_of _ (by decide +kernel)) ggX10_bound_X10_ring
theorem dX10_bound_0 : decode cX10_bound 0 = .ok (.aload_n 0, 1) := by decide +kernel
theorem dX10_bound_1 : decode cX10_bound 1 = .ok (.invokevirtual 149, 3) := by decide +kernel
theorem dX10_bound_4 : decode cX10_bound 4 = .ok (.iconst 0, 1) := by decide +kernel
theorem dX10_bound_5 : decode cX10_bound 5 = .ok (.istore_n 1, 1) := by decide +kernel
theorem dX10_bound_6 : decode cX10_bound 6 = .ok (.iconst 0, 1) := by decide +kernel
theorem dX10_bound_7 : decode cX10_bound 7 = .ok (.istore_n 2, 1) := by decide +kernel
theorem dX10_bound_8 : decode cX10_bound 8 = .ok (.iload_n 2, 1) := by decide +kernel
theorem dX10_bound_9 : decode cX10_bound 9 = .ok (.aload_n 0, 1) := by decide +kernel
theorem dX10_bound_10 : decode cX10_bound 10 = .ok (.invokevirtual 56, 3) := by decide +kernel
theorem dX10_bound_13 : decode cX10_bound 13 = .ok (.if_icmp .ge 67, 3) := by decide +kernel
theorem dX10_bound_16 : decode cX10_bound 16 = .ok (.iload_n 2, 1) := by decide +kernel
theorem dX10_bound_17 : decode cX10_bound 17 = .ok (.iconst 1, 1) := by decide +kernel
theorem dX10_bound_18 : decode cX10_bound 18 = .ok (.iadd, 1) := by decide +kernel
theorem dX10_bound_19 : decode cX10_bound 19 = .ok (.istore_n 3, 1) := by decide +kernel
theorem dX10_bound_20 : decode cX10_bound 20 = .ok (.iload_n 3, 1) := by decide +kernel
theorem dX10_bound_21 : decode cX10_bound 21 = .ok (.aload_n 0, 1) := by decide +kernel
theorem dX10_bound_22 : decode cX10_bound 22 = .ok (.invokevirtual 56, 3) := by decide +kernel
theorem dX10_bound_25 : decode cX10_bound 25 = .ok (.if_icmp .ge 49, 3) := by decide +kernel
theorem dX10_bound_28 : decode cX10_bound 28 = .ok (.iload_n 3, 1) := by decide +kernel
theorem dX10_bound_29 : decode cX10_bound 29 = .ok (.iconst 1, 1) := by decide +kernel
theorem dX10_bound_30 : decode cX10_bound 30 = .ok (.iadd, 1) := by decide +kernel
theorem dX10_bound_31 : decode cX10_bound 31 = .ok (.istore 4, 2) := by decide +kernel
theorem dX10_bound_33 : decode cX10_bound 33 = .ok (.iload 4, 2) := by decide +kernel
theorem dX10_bound_35 : decode cX10_bound 35 = .ok (.aload_n 0, 1) := by decide +kernel
theorem dX10_bound_36 : decode cX10_bound 36 = .ok (.invokevirtual 56, 3) := by decide +kernel
theorem dX10_bound_39 : decode cX10_bound 39 = .ok (.if_icmp .ge 29, 3) := by decide +kernel
theorem dX10_bound_42 : decode cX10_bound 42 = .ok (.iload_n 1, 1) := by decide +kernel
theorem dX10_bound_43 : decode cX10_bound 43 = .ok (.aload_n 0, 1) := by decide +kernel
theorem dX10_bound_44 : decode cX10_bound 44 = .ok (.iload_n 2, 1) := by decide +kernel
theorem dX10_bound_45 : decode cX10_bound 45 = .ok (.iload_n 3, 1) := by decide +kernel
theorem dX10_bound_46 : decode cX10_bound 46 = .ok (.iload 4, 2) := by decide +kernel
theorem dX10_bound_48 : decode cX10_bound 48 = .ok (.invokevirtual 161, 3) := by decide +kernel
theorem dX10_bound_51 : decode cX10_bound 51 = .ok (.aload_n 0, 1) := by decide +kernel
theorem dX10_bound_52 : decode cX10_bound 52 = .ok (.iload_n 2, 1) := by decide +kernel
theorem dX10_bound_53 : decode cX10_bound 53 = .ok (.iload 4, 2) := by decide +kernel
theorem dX10_bound_55 : decode cX10_bound 55 = .ok (.iload_n 3, 1) := by decide +kernel
theorem dX10_bound_56 : decode cX10_bound 56 = .ok (.invokevirtual 161, 3) := by decide +kernel
theorem dX10_bound_59 : decode cX10_bound 59 = .ok (.iadd, 1) := by decide +kernel
theorem dX10_bound_60 : decode cX10_bound 60 = .ok (.iadd, 1) := by decide +kernel
theorem dX10_bound_61 : decode cX10_bound 61 = .ok (.istore_n 1, 1) := by decide +kernel
theorem dX10_bound_62 : decode cX10_bound 62 = .ok (.iinc 4 1, 3) := by decide +kernel
theorem dX10_bound_65 : decode cX10_bound 65 = .ok (.goto (-32), 3) := by decide +kernel
theorem dX10_bound_68 : decode cX10_bound 68 = .ok (.iinc 3 1, 3) := by decide +kernel
theorem dX10_bound_71 : decode cX10_bound 71 = .ok (.goto (-51), 3) := by decide +kernel
theorem dX10_bound_74 : decode cX10_bound 74 = .ok (.iinc 2 1, 3) := by decide +kernel
theorem dX10_bound_77 : decode cX10_bound 77 = .ok (.goto (-69), 3) := by decide +kernel
theorem dX10_bound_80 : decode cX10_bound 80 = .ok (.iload_n 1, 1) := by decide +kernel
theorem dX10_bound_81 : decode cX10_bound 81 = .ok (.ireturn, 1) := by decide +kernel
theorem dX10_ring_0 : decode cX10_ring 0 = .ok (.aload_n 0, 1) := by decide +kernel
theorem dX10_ring_1 : decode cX10_ring 1 = .ok (.getfield 38, 3) := by decide +kernel
theorem dX10_ring_4 : decode cX10_ring 4 = .ok (.bipush 10, 2) := by decide +kernel
theorem dX10_ring_6 : decode cX10_ring 6 = .ok (.iload_n 1, 1) := by decide +kernel
theorem dX10_ring_7 : decode cX10_ring 7 = .ok (.imul, 1) := by decide +kernel
theorem dX10_ring_8 : decode cX10_ring 8 = .ok (.iload_n 2, 1) := by decide +kernel
theorem dX10_ring_9 : decode cX10_ring 9 = .ok (.iadd, 1) := by decide +kernel
theorem dX10_ring_10 : decode cX10_ring 10 = .ok (.iaload, 1) := by decide +kernel
theorem dX10_ring_11 : decode cX10_ring 11 = .ok (.istore 4, 2) := by decide +kernel
theorem dX10_ring_13 : decode cX10_ring 13 = .ok (.aload_n 0, 1) := by decide +kernel
theorem dX10_ring_14 : decode cX10_ring 14 = .ok (.getfield 38, 3) := by decide +kernel
theorem dX10_ring_17 : decode cX10_ring 17 = .ok (.bipush 10, 2) := by decide +kernel
theorem dX10_ring_19 : decode cX10_ring 19 = .ok (.iload_n 2, 1) := by decide +kernel
theorem dX10_ring_20 : decode cX10_ring 20 = .ok (.imul, 1) := by decide +kernel
theorem dX10_ring_21 : decode cX10_ring 21 = .ok (.iload_n 3, 1) := by decide +kernel
theorem dX10_ring_22 : decode cX10_ring 22 = .ok (.iadd, 1) := by decide +kernel
theorem dX10_ring_23 : decode cX10_ring 23 = .ok (.iaload, 1) := by decide +kernel
theorem dX10_ring_24 : decode cX10_ring 24 = .ok (.iload 4, 2) := by decide +kernel
theorem dX10_ring_26 : decode cX10_ring 26 = .ok (.if_icmp .ge 17, 3) := by decide +kernel
theorem dX10_ring_29 : decode cX10_ring 29 = .ok (.aload_n 0, 1) := by decide +kernel
theorem dX10_ring_30 : decode cX10_ring 30 = .ok (.getfield 38, 3) := by decide +kernel
theorem dX10_ring_33 : decode cX10_ring 33 = .ok (.bipush 10, 2) := by decide +kernel
theorem dX10_ring_35 : decode cX10_ring 35 = .ok (.iload_n 2, 1) := by decide +kernel
theorem dX10_ring_36 : decode cX10_ring 36 = .ok (.imul, 1) := by decide +kernel
theorem dX10_ring_37 : decode cX10_ring 37 = .ok (.iload_n 3, 1) := by decide +kernel
theorem dX10_ring_38 : decode cX10_ring 38 = .ok (.iadd, 1) := by decide +kernel
theorem dX10_ring_39 : decode cX10_ring 39 = .ok (.iaload, 1) := by decide +kernel
theorem dX10_ring_40 : decode cX10_ring 40 = .ok (.goto 5, 3) := by decide +kernel
theorem dX10_ring_43 : decode cX10_ring 43 = .ok (.iload 4, 2) := by decide +kernel
theorem dX10_ring_45 : decode cX10_ring 45 = .ok (.istore 4, 2) := by decide +kernel
theorem dX10_ring_47 : decode cX10_ring 47 = .ok (.aload_n 0, 1) := by decide +kernel
theorem dX10_ring_48 : decode cX10_ring 48 = .ok (.getfield 38, 3) := by decide +kernel
theorem dX10_ring_51 : decode cX10_ring 51 = .ok (.bipush 10, 2) := by decide +kernel
theorem dX10_ring_53 : decode cX10_ring 53 = .ok (.iload_n 3, 1) := by decide +kernel
theorem dX10_ring_54 : decode cX10_ring 54 = .ok (.imul, 1) := by decide +kernel
theorem dX10_ring_55 : decode cX10_ring 55 = .ok (.iload_n 1, 1) := by decide +kernel
theorem dX10_ring_56 : decode cX10_ring 56 = .ok (.iadd, 1) := by decide +kernel
theorem dX10_ring_57 : decode cX10_ring 57 = .ok (.iaload, 1) := by decide +kernel
theorem dX10_ring_58 : decode cX10_ring 58 = .ok (.iload 4, 2) := by decide +kernel
theorem dX10_ring_60 : decode cX10_ring 60 = .ok (.if_icmp .ge 17, 3) := by decide +kernel
theorem dX10_ring_63 : decode cX10_ring 63 = .ok (.aload_n 0, 1) := by decide +kernel
theorem dX10_ring_64 : decode cX10_ring 64 = .ok (.getfield 38, 3) := by decide +kernel
theorem dX10_ring_67 : decode cX10_ring 67 = .ok (.bipush 10, 2) := by decide +kernel
theorem dX10_ring_69 : decode cX10_ring 69 = .ok (.iload_n 3, 1) := by decide +kernel
theorem dX10_ring_70 : decode cX10_ring 70 = .ok (.imul, 1) := by decide +kernel
theorem dX10_ring_71 : decode cX10_ring 71 = .ok (.iload_n 1, 1) := by decide +kernel
theorem dX10_ring_72 : decode cX10_ring 72 = .ok (.iadd, 1) := by decide +kernel
theorem dX10_ring_73 : decode cX10_ring 73 = .ok (.iaload, 1) := by decide +kernel
theorem dX10_ring_74 : decode cX10_ring 74 = .ok (.goto 5, 3) := by decide +kernel
theorem dX10_ring_77 : decode cX10_ring 77 = .ok (.iload 4, 2) := by decide +kernel
theorem dX10_ring_79 : decode cX10_ring 79 = .ok (.istore 4, 2) := by decide +kernel
theorem dX10_ring_81 : decode cX10_ring 81 = .ok (.aload_n 0, 1) := by decide +kernel
theorem dX10_ring_82 : decode cX10_ring 82 = .ok (.getfield 38, 3) := by decide +kernel
theorem dX10_ring_85 : decode cX10_ring 85 = .ok (.bipush 10, 2) := by decide +kernel
theorem dX10_ring_87 : decode cX10_ring 87 = .ok (.iload_n 1, 1) := by decide +kernel
theorem dX10_ring_88 : decode cX10_ring 88 = .ok (.imul, 1) := by decide +kernel
theorem dX10_ring_89 : decode cX10_ring 89 = .ok (.iload_n 2, 1) := by decide +kernel
theorem dX10_ring_90 : decode cX10_ring 90 = .ok (.iadd, 1) := by decide +kernel
theorem dX10_ring_91 : decode cX10_ring 91 = .ok (.dup2, 1) := by decide +kernel
theorem dX10_ring_92 : decode cX10_ring 92 = .ok (.iaload, 1) := by decide +kernel
theorem dX10_ring_93 : decode cX10_ring 93 = .ok (.iload 4, 2) := by decide +kernel
theorem dX10_ring_95 : decode cX10_ring 95 = .ok (.isub, 1) := by decide +kernel
theorem dX10_ring_96 : decode cX10_ring 96 = .ok (.iastore, 1) := by decide +kernel
theorem dX10_ring_97 : decode cX10_ring 97 = .ok (.aload_n 0, 1) := by decide +kernel
theorem dX10_ring_98 : decode cX10_ring 98 = .ok (.getfield 38, 3) := by decide +kernel
theorem dX10_ring_101 : decode cX10_ring 101 = .ok (.bipush 10, 2) := by decide +kernel
theorem dX10_ring_103 : decode cX10_ring 103 = .ok (.iload_n 2, 1) := by decide +kernel
theorem dX10_ring_104 : decode cX10_ring 104 = .ok (.imul, 1) := by decide +kernel
theorem dX10_ring_105 : decode cX10_ring 105 = .ok (.iload_n 3, 1) := by decide +kernel
theorem dX10_ring_106 : decode cX10_ring 106 = .ok (.iadd, 1) := by decide +kernel
theorem dX10_ring_107 : decode cX10_ring 107 = .ok (.dup2, 1) := by decide +kernel
theorem dX10_ring_108 : decode cX10_ring 108 = .ok (.iaload, 1) := by decide +kernel
theorem dX10_ring_109 : decode cX10_ring 109 = .ok (.iload 4, 2) := by decide +kernel
theorem dX10_ring_111 : decode cX10_ring 111 = .ok (.isub, 1) := by decide +kernel
theorem dX10_ring_112 : decode cX10_ring 112 = .ok (.iastore, 1) := by decide +kernel
theorem dX10_ring_113 : decode cX10_ring 113 = .ok (.aload_n 0, 1) := by decide +kernel
theorem dX10_ring_114 : decode cX10_ring 114 = .ok (.getfield 38, 3) := by decide +kernel
theorem dX10_ring_117 : decode cX10_ring 117 = .ok (.bipush 10, 2) := by decide +kernel
theorem dX10_ring_119 : decode cX10_ring 119 = .ok (.iload_n 3, 1) := by decide +kernel
theorem dX10_ring_120 : decode cX10_ring 120 = .ok (.imul, 1) := by decide +kernel
theorem dX10_ring_121 : decode cX10_ring 121 = .ok (.iload_n 1, 1) := by decide +kernel
theorem dX10_ring_122 : decode cX10_ring 122 = .ok (.iadd, 1) := by decide +kernel
theorem dX10_ring_123 : decode cX10_ring 123 = .ok (.dup2, 1) := by decide +kernel
theorem dX10_ring_124 : decode cX10_ring 124 = .ok (.iaload, 1) := by decide +kernel
theorem dX10_ring_125 : decode cX10_ring 125 = .ok (.iload 4, 2) := by decide +kernel
theorem dX10_ring_127 : decode cX10_ring 127 = .ok (.isub, 1) := by decide +kernel
theorem dX10_ring_128 : decode cX10_ring 128 = .ok (.iastore, 1) := by decide +kernel
theorem dX10_ring_129 : decode cX10_ring 129 = .ok (.iload 4, 2) := by decide +kernel
theorem dX10_ring_131 : decode cX10_ring 131 = .ok (.ireturn, 1) := by decide +kernel
set_option maxRecDepth 20000 in
theorem ggX10_gatherBeaten_X10_n : GoodIn wsX10_gatherBeaten wsX10_n := goodIn_r _ [6, 7, 28, 29, 30, 31, 32, 33, 34, 35, 36, 37, 38, 39, 40, 41, 42, 43, 44, 45] (by decide +kernel) (by decide +kernel)
set_option maxRecDepth 20000 in
theorem gX10_gatherBeaten_X10_n : GoodIn wsX10_gatherBeaten (wsV RX10 56 RX10 yX10_n wsX10_n) := goodIn_app (goodIn_of _ (by decide +kernel)) ggX10_gatherBeaten_X10_n
set_option maxRecDepth 20000 in
theorem ggX10_gatherBeaten_X10_beats : GoodIn wsX10_gatherBeaten wsX10_beats := goodIn_r _ [11, 12, 13, 14, 5, 15, 7, 16, 17, 18, 19, 20, 21, 22, 23, 24, 25, 26, 27, 28, 29, 30, 31, 32, 33, 34, 35, 36, 37, 38, 39, 40, 41, 42, 43, 44, 45] (by decide +kernel) (by decide +kernel)
set_option maxRecDepth 20000 in
theorem gX10_gatherBeaten_X10_beats : GoodIn wsX10_gatherBeaten (wsV RX10 164 RX10 yX10_beats wsX10_beats) := goodIn_app (goodIn_of _ (by decide +kernel)) ggX10_gatherBeaten_X10_beats
theorem dX10_gatherBeaten_0 : decode cX10_gatherBeaten 0 = .ok (.iconst 0, 1) := by decide +kernel
theorem dX10_gatherBeaten_1 : decode cX10_gatherBeaten 1 = .ok (.istore_n 1, 1) := by decide +kernel
theorem dX10_gatherBeaten_2 : decode cX10_gatherBeaten 2 = .ok (.iload_n 1, 1) := by decide +kernel
theorem dX10_gatherBeaten_3 : decode cX10_gatherBeaten 3 = .ok (.aload_n 0, 1) := by decide +kernel
theorem dX10_gatherBeaten_4 : decode cX10_gatherBeaten 4 = .ok (.invokevirtual 56, 3) := by decide +kernel
theorem dX10_gatherBeaten_7 : decode cX10_gatherBeaten 7 = .ok (.if_icmp .ge 62, 3) := by decide +kernel
theorem dX10_gatherBeaten_10 : decode cX10_gatherBeaten 10 = .ok (.aload_n 0, 1) := by decide +kernel
theorem dX10_gatherBeaten_11 : decode cX10_gatherBeaten 11 = .ok (.getfield 50, 3) := by decide +kernel
theorem dX10_gatherBeaten_14 : decode cX10_gatherBeaten 14 = .ok (.iload_n 1, 1) := by decide +kernel
theorem dX10_gatherBeaten_15 : decode cX10_gatherBeaten 15 = .ok (.iconst 0, 1) := by decide +kernel
theorem dX10_gatherBeaten_16 : decode cX10_gatherBeaten 16 = .ok (.iastore, 1) := by decide +kernel
theorem dX10_gatherBeaten_17 : decode cX10_gatherBeaten 17 = .ok (.iconst 0, 1) := by decide +kernel
theorem dX10_gatherBeaten_18 : decode cX10_gatherBeaten 18 = .ok (.istore_n 2, 1) := by decide +kernel
theorem dX10_gatherBeaten_19 : decode cX10_gatherBeaten 19 = .ok (.iload_n 2, 1) := by decide +kernel
theorem dX10_gatherBeaten_20 : decode cX10_gatherBeaten 20 = .ok (.aload_n 0, 1) := by decide +kernel
theorem dX10_gatherBeaten_21 : decode cX10_gatherBeaten 21 = .ok (.invokevirtual 56, 3) := by decide +kernel
theorem dX10_gatherBeaten_24 : decode cX10_gatherBeaten 24 = .ok (.if_icmp .ge 39, 3) := by decide +kernel
theorem dX10_gatherBeaten_27 : decode cX10_gatherBeaten 27 = .ok (.aload_n 0, 1) := by decide +kernel
theorem dX10_gatherBeaten_28 : decode cX10_gatherBeaten 28 = .ok (.getfield 50, 3) := by decide +kernel
theorem dX10_gatherBeaten_31 : decode cX10_gatherBeaten 31 = .ok (.iload_n 1, 1) := by decide +kernel
theorem dX10_gatherBeaten_32 : decode cX10_gatherBeaten 32 = .ok (.dup2, 1) := by decide +kernel
theorem dX10_gatherBeaten_33 : decode cX10_gatherBeaten 33 = .ok (.iaload, 1) := by decide +kernel
theorem dX10_gatherBeaten_34 : decode cX10_gatherBeaten 34 = .ok (.iload_n 1, 1) := by decide +kernel
theorem dX10_gatherBeaten_35 : decode cX10_gatherBeaten 35 = .ok (.iload_n 2, 1) := by decide +kernel
theorem dX10_gatherBeaten_36 : decode cX10_gatherBeaten 36 = .ok (.if_icmp .eq 18, 3) := by decide +kernel
theorem dX10_gatherBeaten_39 : decode cX10_gatherBeaten 39 = .ok (.aload_n 0, 1) := by decide +kernel
theorem dX10_gatherBeaten_40 : decode cX10_gatherBeaten 40 = .ok (.iload_n 1, 1) := by decide +kernel
theorem dX10_gatherBeaten_41 : decode cX10_gatherBeaten 41 = .ok (.iload_n 2, 1) := by decide +kernel
theorem dX10_gatherBeaten_42 : decode cX10_gatherBeaten 42 = .ok (.invokevirtual 164, 3) := by decide +kernel
theorem dX10_gatherBeaten_45 : decode cX10_gatherBeaten 45 = .ok (.ifCond .eq 9, 3) := by decide +kernel
theorem dX10_gatherBeaten_48 : decode cX10_gatherBeaten 48 = .ok (.iconst 1, 1) := by decide +kernel
theorem dX10_gatherBeaten_49 : decode cX10_gatherBeaten 49 = .ok (.iload_n 2, 1) := by decide +kernel
theorem dX10_gatherBeaten_50 : decode cX10_gatherBeaten 50 = .ok (.ishl, 1) := by decide +kernel
theorem dX10_gatherBeaten_51 : decode cX10_gatherBeaten 51 = .ok (.goto 4, 3) := by decide +kernel
theorem dX10_gatherBeaten_54 : decode cX10_gatherBeaten 54 = .ok (.iconst 0, 1) := by decide +kernel
theorem dX10_gatherBeaten_55 : decode cX10_gatherBeaten 55 = .ok (.ior, 1) := by decide +kernel
theorem dX10_gatherBeaten_56 : decode cX10_gatherBeaten 56 = .ok (.iastore, 1) := by decide +kernel
theorem dX10_gatherBeaten_57 : decode cX10_gatherBeaten 57 = .ok (.iinc 2 1, 3) := by decide +kernel
theorem dX10_gatherBeaten_60 : decode cX10_gatherBeaten 60 = .ok (.goto (-41), 3) := by decide +kernel
theorem dX10_gatherBeaten_63 : decode cX10_gatherBeaten 63 = .ok (.iinc 1 1, 3) := by decide +kernel
theorem dX10_gatherBeaten_66 : decode cX10_gatherBeaten 66 = .ok (.goto (-64), 3) := by decide +kernel
theorem dX10_gatherBeaten_69 : decode cX10_gatherBeaten 69 = .ok (.return_, 1) := by decide +kernel
theorem dX10_many_0 : decode cX10_many 0 = .ok (.iconst 0, 1) := by decide +kernel
theorem dX10_many_1 : decode cX10_many 1 = .ok (.istore_n 1, 1) := by decide +kernel
theorem dX10_many_2 : decode cX10_many 2 = .ok (.iconst 0, 1) := by decide +kernel
theorem dX10_many_3 : decode cX10_many 3 = .ok (.istore_n 2, 1) := by decide +kernel
theorem dX10_many_4 : decode cX10_many 4 = .ok (.iload_n 2, 1) := by decide +kernel
theorem dX10_many_5 : decode cX10_many 5 = .ok (.bipush 10, 2) := by decide +kernel
theorem dX10_many_7 : decode cX10_many 7 = .ok (.if_icmp .ge 17, 3) := by decide +kernel
theorem dX10_many_10 : decode cX10_many 10 = .ok (.iload_n 1, 1) := by decide +kernel
theorem dX10_many_11 : decode cX10_many 11 = .ok (.iload_n 0, 1) := by decide +kernel
theorem dX10_many_12 : decode cX10_many 12 = .ok (.iload_n 2, 1) := by decide +kernel
theorem dX10_many_13 : decode cX10_many 13 = .ok (.ishr, 1) := by decide +kernel
theorem dX10_many_14 : decode cX10_many 14 = .ok (.iconst 1, 1) := by decide +kernel
theorem dX10_many_15 : decode cX10_many 15 = .ok (.iand, 1) := by decide +kernel
theorem dX10_many_16 : decode cX10_many 16 = .ok (.iadd, 1) := by decide +kernel
theorem dX10_many_17 : decode cX10_many 17 = .ok (.istore_n 1, 1) := by decide +kernel
theorem dX10_many_18 : decode cX10_many 18 = .ok (.iinc 2 1, 3) := by decide +kernel
theorem dX10_many_21 : decode cX10_many 21 = .ok (.goto (-17), 3) := by decide +kernel
theorem dX10_many_24 : decode cX10_many 24 = .ok (.iload_n 1, 1) := by decide +kernel
theorem dX10_many_25 : decode cX10_many 25 = .ok (.ireturn, 1) := by decide +kernel
set_option maxRecDepth 20000 in
theorem ggX10_core_X10_gatherBeaten : GoodIn wsX10_core wsX10_gatherBeaten := goodIn_r _ [6, 1, 7, 8, 9, 5, 10, 11, 12, 13, 14, 15, 16, 17, 18, 19, 20, 21, 22, 23, 24, 25, 26, 27, 28, 29, 30, 31, 35, 36, 37, 38, 39, 40, 41, 42, 43, 44, 45, 46, 47, 48, 49, 50, 51, 52] (by decide +kernel) (by decide +kernel)
set_option maxRecDepth 20000 in
theorem gX10_core_X10_gatherBeaten : GoodIn wsX10_core (wsV RX10 167 RX10 yX10_gatherBeaten wsX10_gatherBeaten) := goodIn_app (goodIn_of _ (by decide +kernel)) ggX10_core_X10_gatherBeaten
set_option maxRecDepth 20000 in
theorem ggX10_core_X10_n : GoodIn wsX10_core wsX10_n := goodIn_r _ [10, 11, 35, 36, 37, 38, 39, 40, 41, 42, 43, 44, 45, 46, 47, 48, 49, 50, 51, 52] (by decide +kernel) (by decide +kernel)
set_option maxRecDepth 20000 in
theorem gX10_core_X10_n : GoodIn wsX10_core (wsV RX10 56 RX10 yX10_n wsX10_n) := goodIn_app (goodIn_of _ (by decide +kernel)) ggX10_core_X10_n
set_option maxRecDepth 20000 in
theorem ggX10_core_X10_many : GoodIn wsX10_core wsX10_many := goodIn_r _ [34] (by decide +kernel) (by decide +kernel)
set_option maxRecDepth 20000 in
theorem gX10_core_X10_many : GoodIn wsX10_core (va_wsS RX10 170 yX10_many wsX10_many) := goodIn_app (goodIn_of _ (by decide +kernel)) ggX10_core_X10_many
theorem dX10_core_0 : decode cX10_core 0 = .ok (.aload_n 0, 1) := by decide +kernel
theorem dX10_core_1 : decode cX10_core 1 = .ok (.invokevirtual 167, 3) := by decide +kernel
theorem dX10_core_4 : decode cX10_core 4 = .ok (.iconst 1, 1) := by decide +kernel
theorem dX10_core_5 : decode cX10_core 5 = .ok (.aload_n 0, 1) := by decide +kernel
theorem dX10_core_6 : decode cX10_core 6 = .ok (.invokevirtual 56, 3) := by decide +kernel
theorem dX10_core_9 : decode cX10_core 9 = .ok (.ishl, 1) := by decide +kernel
theorem dX10_core_10 : decode cX10_core 10 = .ok (.iconst 1, 1) := by decide +kernel
theorem dX10_core_11 : decode cX10_core 11 = .ok (.isub, 1) := by decide +kernel
theorem dX10_core_12 : decode cX10_core 12 = .ok (.istore_n 1, 1) := by decide +kernel
theorem dX10_core_13 : decode cX10_core 13 = .ok (.iload_n 1, 1) := by decide +kernel
theorem dX10_core_14 : decode cX10_core 14 = .ok (.istore_n 2, 1) := by decide +kernel
theorem dX10_core_15 : decode cX10_core 15 = .ok (.iconst 1, 1) := by decide +kernel
theorem dX10_core_16 : decode cX10_core 16 = .ok (.istore_n 3, 1) := by decide +kernel
theorem dX10_core_17 : decode cX10_core 17 = .ok (.iload_n 3, 1) := by decide +kernel
theorem dX10_core_18 : decode cX10_core 18 = .ok (.iload_n 1, 1) := by decide +kernel
theorem dX10_core_19 : decode cX10_core 19 = .ok (.if_icmp .ge 95, 3) := by decide +kernel
theorem dX10_core_22 : decode cX10_core 22 = .ok (.iload_n 3, 1) := by decide +kernel
theorem dX10_core_23 : decode cX10_core 23 = .ok (.invokestatic 170, 3) := by decide +kernel
theorem dX10_core_26 : decode cX10_core 26 = .ok (.iload_n 2, 1) := by decide +kernel
theorem dX10_core_27 : decode cX10_core 27 = .ok (.invokestatic 170, 3) := by decide +kernel
theorem dX10_core_30 : decode cX10_core 30 = .ok (.if_icmp .ge 7, 3) := by decide +kernel
theorem dX10_core_33 : decode cX10_core 33 = .ok (.iconst 1, 1) := by decide +kernel
theorem dX10_core_34 : decode cX10_core 34 = .ok (.goto 4, 3) := by decide +kernel
theorem dX10_core_37 : decode cX10_core 37 = .ok (.iconst 0, 1) := by decide +kernel
theorem dX10_core_38 : decode cX10_core 38 = .ok (.istore 4, 2) := by decide +kernel
theorem dX10_core_40 : decode cX10_core 40 = .ok (.iconst 0, 1) := by decide +kernel
theorem dX10_core_41 : decode cX10_core 41 = .ok (.istore 5, 2) := by decide +kernel
theorem dX10_core_43 : decode cX10_core 43 = .ok (.iload 5, 2) := by decide +kernel
theorem dX10_core_45 : decode cX10_core 45 = .ok (.aload_n 0, 1) := by decide +kernel
theorem dX10_core_46 : decode cX10_core 46 = .ok (.invokevirtual 56, 3) := by decide +kernel
theorem dX10_core_49 : decode cX10_core 49 = .ok (.if_icmp .ge 48, 3) := by decide +kernel
theorem dX10_core_52 : decode cX10_core 52 = .ok (.iload 4, 2) := by decide +kernel
theorem dX10_core_54 : decode cX10_core 54 = .ok (.ifCond .eq 43, 3) := by decide +kernel
theorem dX10_core_57 : decode cX10_core 57 = .ok (.iload_n 3, 1) := by decide +kernel
theorem dX10_core_58 : decode cX10_core 58 = .ok (.iload 5, 2) := by decide +kernel
theorem dX10_core_60 : decode cX10_core 60 = .ok (.ishr, 1) := by decide +kernel
theorem dX10_core_61 : decode cX10_core 61 = .ok (.iconst 1, 1) := by decide +kernel
theorem dX10_core_62 : decode cX10_core 62 = .ok (.iand, 1) := by decide +kernel
theorem dX10_core_63 : decode cX10_core 63 = .ok (.ifCond .eq 21, 3) := by decide +kernel
theorem dX10_core_66 : decode cX10_core 66 = .ok (.iload_n 1, 1) := by decide +kernel
theorem dX10_core_67 : decode cX10_core 67 = .ok (.iload_n 3, 1) := by decide +kernel
theorem dX10_core_68 : decode cX10_core 68 = .ok (.iconst (-1), 1) := by decide +kernel
theorem dX10_core_69 : decode cX10_core 69 = .ok (.ixor, 1) := by decide +kernel
theorem dX10_core_70 : decode cX10_core 70 = .ok (.iand, 1) := by decide +kernel
theorem dX10_core_71 : decode cX10_core 71 = .ok (.aload_n 0, 1) := by decide +kernel
theorem dX10_core_72 : decode cX10_core 72 = .ok (.getfield 50, 3) := by decide +kernel
theorem dX10_core_75 : decode cX10_core 75 = .ok (.iload 5, 2) := by decide +kernel
theorem dX10_core_77 : decode cX10_core 77 = .ok (.iaload, 1) := by decide +kernel
theorem dX10_core_78 : decode cX10_core 78 = .ok (.iconst (-1), 1) := by decide +kernel
theorem dX10_core_79 : decode cX10_core 79 = .ok (.ixor, 1) := by decide +kernel
theorem dX10_core_80 : decode cX10_core 80 = .ok (.iand, 1) := by decide +kernel
theorem dX10_core_81 : decode cX10_core 81 = .ok (.ifCond .ne 7, 3) := by decide +kernel
theorem dX10_core_84 : decode cX10_core 84 = .ok (.iconst 1, 1) := by decide +kernel
theorem dX10_core_85 : decode cX10_core 85 = .ok (.goto 4, 3) := by decide +kernel
theorem dX10_core_88 : decode cX10_core 88 = .ok (.iconst 0, 1) := by decide +kernel
theorem dX10_core_89 : decode cX10_core 89 = .ok (.istore 4, 2) := by decide +kernel
theorem dX10_core_91 : decode cX10_core 91 = .ok (.iinc 5 1, 3) := by decide +kernel
theorem dX10_core_94 : decode cX10_core 94 = .ok (.goto (-51), 3) := by decide +kernel
theorem dX10_core_97 : decode cX10_core 97 = .ok (.iload 4, 2) := by decide +kernel
theorem dX10_core_99 : decode cX10_core 99 = .ok (.ifCond .eq 7, 3) := by decide +kernel
theorem dX10_core_102 : decode cX10_core 102 = .ok (.iload_n 3, 1) := by decide +kernel
theorem dX10_core_103 : decode cX10_core 103 = .ok (.goto 4, 3) := by decide +kernel
theorem dX10_core_106 : decode cX10_core 106 = .ok (.iload_n 2, 1) := by decide +kernel
theorem dX10_core_107 : decode cX10_core 107 = .ok (.istore_n 2, 1) := by decide +kernel
theorem dX10_core_108 : decode cX10_core 108 = .ok (.iinc 3 1, 3) := by decide +kernel
theorem dX10_core_111 : decode cX10_core 111 = .ok (.goto (-94), 3) := by decide +kernel
theorem dX10_core_114 : decode cX10_core 114 = .ok (.iload_n 2, 1) := by decide +kernel
theorem dX10_core_115 : decode cX10_core 115 = .ok (.ireturn, 1) := by decide +kernel
set_option maxRecDepth 20000 in
theorem ggX10_champion_X10_gatherBeaten : GoodIn wsX10_champion wsX10_gatherBeaten := goodIn_r _ [6, 1, 7, 8, 9, 5, 10, 11, 12, 13, 14, 15, 16, 17, 18, 19, 20, 21, 22, 23, 24, 25, 26, 27, 28, 29, 30, 31, 35, 36, 37, 38, 39, 40, 41, 42, 43, 44, 45, 46, 47, 48, 49, 50, 51, 52] (by decide +kernel) (by decide +kernel)
set_option maxRecDepth 20000 in
theorem gX10_champion_X10_gatherBeaten : GoodIn wsX10_champion (wsV RX10 167 RX10 yX10_gatherBeaten wsX10_gatherBeaten) := goodIn_app (goodIn_of _ (by decide +kernel)) ggX10_champion_X10_gatherBeaten
set_option maxRecDepth 20000 in
theorem ggX10_champion_X10_n : GoodIn wsX10_champion wsX10_n := goodIn_r _ [10, 11, 35, 36, 37, 38, 39, 40, 41, 42, 43, 44, 45, 46, 47, 48, 49, 50, 51, 52] (by decide +kernel) (by decide +kernel)
set_option maxRecDepth 20000 in
theorem gX10_champion_X10_n : GoodIn wsX10_champion (wsV RX10 56 RX10 yX10_n wsX10_n) := goodIn_app (goodIn_of _ (by decide +kernel)) ggX10_champion_X10_n
set_option maxRecDepth 20000 in
theorem ggX10_champion_X10_many : GoodIn wsX10_champion wsX10_many := goodIn_r _ [34] (by decide +kernel) (by decide +kernel)
set_option maxRecDepth 20000 in
theorem gX10_champion_X10_many : GoodIn wsX10_champion (va_wsS RX10 170 yX10_many wsX10_many) := goodIn_app (goodIn_of _ (by decide +kernel)) ggX10_champion_X10_many
theorem dX10_champion_0 : decode cX10_champion 0 = .ok (.aload_n 0, 1) := by decide +kernel
theorem dX10_champion_1 : decode cX10_champion 1 = .ok (.invokevirtual 167, 3) := by decide +kernel
theorem dX10_champion_4 : decode cX10_champion 4 = .ok (.iconst 0, 1) := by decide +kernel
theorem dX10_champion_5 : decode cX10_champion 5 = .ok (.istore_n 1, 1) := by decide +kernel
theorem dX10_champion_6 : decode cX10_champion 6 = .ok (.iload_n 1, 1) := by decide +kernel
theorem dX10_champion_7 : decode cX10_champion 7 = .ok (.aload_n 0, 1) := by decide +kernel
theorem dX10_champion_8 : decode cX10_champion 8 = .ok (.invokevirtual 56, 3) := by decide +kernel
theorem dX10_champion_11 : decode cX10_champion 11 = .ok (.if_icmp .ge 29, 3) := by decide +kernel
theorem dX10_champion_14 : decode cX10_champion 14 = .ok (.aload_n 0, 1) := by decide +kernel
theorem dX10_champion_15 : decode cX10_champion 15 = .ok (.getfield 50, 3) := by decide +kernel
theorem dX10_champion_18 : decode cX10_champion 18 = .ok (.iload_n 1, 1) := by decide +kernel
theorem dX10_champion_19 : decode cX10_champion 19 = .ok (.iaload, 1) := by decide +kernel
theorem dX10_champion_20 : decode cX10_champion 20 = .ok (.invokestatic 170, 3) := by decide +kernel
theorem dX10_champion_23 : decode cX10_champion 23 = .ok (.aload_n 0, 1) := by decide +kernel
theorem dX10_champion_24 : decode cX10_champion 24 = .ok (.invokevirtual 56, 3) := by decide +kernel
theorem dX10_champion_27 : decode cX10_champion 27 = .ok (.iconst 1, 1) := by decide +kernel
theorem dX10_champion_28 : decode cX10_champion 28 = .ok (.isub, 1) := by decide +kernel
theorem dX10_champion_29 : decode cX10_champion 29 = .ok (.if_icmp .ne 5, 3) := by decide +kernel
theorem dX10_champion_32 : decode cX10_champion 32 = .ok (.iload_n 1, 1) := by decide +kernel
theorem dX10_champion_33 : decode cX10_champion 33 = .ok (.ireturn, 1) := by decide +kernel
theorem dX10_champion_34 : decode cX10_champion 34 = .ok (.iinc 1 1, 3) := by decide +kernel
theorem dX10_champion_37 : decode cX10_champion 37 = .ok (.goto (-31), 3) := by decide +kernel
theorem dX10_champion_40 : decode cX10_champion 40 = .ok (.iconst (-1), 1) := by decide +kernel
theorem dX10_champion_41 : decode cX10_champion 41 = .ok (.ireturn, 1) := by decide +kernel
set_option maxRecDepth 20000 in
theorem ggX10_walks_X10_gatherBeaten : GoodIn wsX10_walks wsX10_gatherBeaten := goodIn_r _ [7, 2, 8, 9, 10, 6, 11, 12, 13, 14, 15, 16, 17, 18, 19, 20, 21, 22, 23, 24, 25, 26, 27, 28, 29, 30, 31, 32, 33, 34, 35, 36, 37, 38, 39, 40, 41, 42, 43, 44, 45, 46, 47, 48, 49, 50] (by decide +kernel) (by decide +kernel)
set_option maxRecDepth 20000 in
theorem gX10_walks_X10_gatherBeaten : GoodIn wsX10_walks (wsV RX10 167 RX10 yX10_gatherBeaten wsX10_gatherBeaten) := goodIn_app (goodIn_of _ (by decide +kernel)) ggX10_walks_X10_gatherBeaten
set_option maxRecDepth 20000 in
theorem ggX10_walks_X10_n : GoodIn wsX10_walks wsX10_n := goodIn_r _ [11, 12, 33, 34, 35, 36, 37, 38, 39, 40, 41, 42, 43, 44, 45, 46, 47, 48, 49, 50] (by decide +kernel) (by decide +kernel)
set_option maxRecDepth 20000 in
theorem gX10_walks_X10_n : GoodIn wsX10_walks (wsV RX10 56 RX10 yX10_n wsX10_n) := goodIn_app (goodIn_of _ (by decide +kernel)) ggX10_walks_X10_n
theorem dX10_walks_0 : decode cX10_walks 0 = .ok (.aload_n 0, 1) := by decide +kernel
theorem dX10_walks_1 : decode cX10_walks 1 = .ok (.invokevirtual 167, 3) := by decide +kernel
theorem dX10_walks_4 : decode cX10_walks 4 = .ok (.iconst 0, 1) := by decide +kernel
theorem dX10_walks_5 : decode cX10_walks 5 = .ok (.istore_n 1, 1) := by decide +kernel
theorem dX10_walks_6 : decode cX10_walks 6 = .ok (.iconst 1, 1) := by decide +kernel
theorem dX10_walks_7 : decode cX10_walks 7 = .ok (.istore_n 2, 1) := by decide +kernel
theorem dX10_walks_8 : decode cX10_walks 8 = .ok (.iload_n 2, 1) := by decide +kernel
theorem dX10_walks_9 : decode cX10_walks 9 = .ok (.iconst 1, 1) := by decide +kernel
theorem dX10_walks_10 : decode cX10_walks 10 = .ok (.aload_n 0, 1) := by decide +kernel
theorem dX10_walks_11 : decode cX10_walks 11 = .ok (.invokevirtual 56, 3) := by decide +kernel
theorem dX10_walks_14 : decode cX10_walks 14 = .ok (.ishl, 1) := by decide +kernel
theorem dX10_walks_15 : decode cX10_walks 15 = .ok (.if_icmp .ge 162, 3) := by decide +kernel
theorem dX10_walks_18 : decode cX10_walks 18 = .ok (.iconst 0, 1) := by decide +kernel
theorem dX10_walks_19 : decode cX10_walks 19 = .ok (.istore_n 3, 1) := by decide +kernel
theorem dX10_walks_20 : decode cX10_walks 20 = .ok (.iload_n 3, 1) := by decide +kernel
theorem dX10_walks_21 : decode cX10_walks 21 = .ok (.aload_n 0, 1) := by decide +kernel
theorem dX10_walks_22 : decode cX10_walks 22 = .ok (.invokevirtual 56, 3) := by decide +kernel
theorem dX10_walks_25 : decode cX10_walks 25 = .ok (.if_icmp .ge 146, 3) := by decide +kernel
theorem dX10_walks_28 : decode cX10_walks 28 = .ok (.sipush 1024, 3) := by decide +kernel
theorem dX10_walks_31 : decode cX10_walks 31 = .ok (.iload_n 3, 1) := by decide +kernel
theorem dX10_walks_32 : decode cX10_walks 32 = .ok (.imul, 1) := by decide +kernel
theorem dX10_walks_33 : decode cX10_walks 33 = .ok (.iload_n 2, 1) := by decide +kernel
theorem dX10_walks_34 : decode cX10_walks 34 = .ok (.iadd, 1) := by decide +kernel
theorem dX10_walks_35 : decode cX10_walks 35 = .ok (.istore 4, 2) := by decide +kernel
theorem dX10_walks_37 : decode cX10_walks 37 = .ok (.aload_n 0, 1) := by decide +kernel
theorem dX10_walks_38 : decode cX10_walks 38 = .ok (.getfield 53, 3) := by decide +kernel
theorem dX10_walks_41 : decode cX10_walks 41 = .ok (.iload 4, 2) := by decide +kernel
theorem dX10_walks_43 : decode cX10_walks 43 = .ok (.iload_n 2, 1) := by decide +kernel
theorem dX10_walks_44 : decode cX10_walks 44 = .ok (.iconst 1, 1) := by decide +kernel
theorem dX10_walks_45 : decode cX10_walks 45 = .ok (.iload_n 3, 1) := by decide +kernel
theorem dX10_walks_46 : decode cX10_walks 46 = .ok (.ishl, 1) := by decide +kernel
theorem dX10_walks_47 : decode cX10_walks 47 = .ok (.if_icmp .ne 7, 3) := by decide +kernel
theorem dX10_walks_50 : decode cX10_walks 50 = .ok (.iconst 1, 1) := by decide +kernel
theorem dX10_walks_51 : decode cX10_walks 51 = .ok (.goto 4, 3) := by decide +kernel
theorem dX10_walks_54 : decode cX10_walks 54 = .ok (.iconst 0, 1) := by decide +kernel
theorem dX10_walks_55 : decode cX10_walks 55 = .ok (.iastore, 1) := by decide +kernel
theorem dX10_walks_56 : decode cX10_walks 56 = .ok (.iconst 0, 1) := by decide +kernel
theorem dX10_walks_57 : decode cX10_walks 57 = .ok (.istore 5, 2) := by decide +kernel
theorem dX10_walks_59 : decode cX10_walks 59 = .ok (.iload 5, 2) := by decide +kernel
theorem dX10_walks_61 : decode cX10_walks 61 = .ok (.aload_n 0, 1) := by decide +kernel
theorem dX10_walks_62 : decode cX10_walks 62 = .ok (.invokevirtual 56, 3) := by decide +kernel
theorem dX10_walks_65 : decode cX10_walks 65 = .ok (.if_icmp .ge 78, 3) := by decide +kernel
theorem dX10_walks_68 : decode cX10_walks 68 = .ok (.iload_n 2, 1) := by decide +kernel
theorem dX10_walks_69 : decode cX10_walks 69 = .ok (.iload_n 3, 1) := by decide +kernel
theorem dX10_walks_70 : decode cX10_walks 70 = .ok (.ishr, 1) := by decide +kernel
theorem dX10_walks_71 : decode cX10_walks 71 = .ok (.iconst 1, 1) := by decide +kernel
theorem dX10_walks_72 : decode cX10_walks 72 = .ok (.iand, 1) := by decide +kernel
theorem dX10_walks_73 : decode cX10_walks 73 = .ok (.iconst 1, 1) := by decide +kernel
theorem dX10_walks_74 : decode cX10_walks 74 = .ok (.if_icmp .ne 69, 3) := by decide +kernel
theorem dX10_walks_77 : decode cX10_walks 77 = .ok (.iload 5, 2) := by decide +kernel
theorem dX10_walks_79 : decode cX10_walks 79 = .ok (.iload_n 3, 1) := by decide +kernel
theorem dX10_walks_80 : decode cX10_walks 80 = .ok (.if_icmp .eq 57, 3) := by decide +kernel
theorem dX10_walks_83 : decode cX10_walks 83 = .ok (.iload_n 2, 1) := by decide +kernel
theorem dX10_walks_84 : decode cX10_walks 84 = .ok (.iload 5, 2) := by decide +kernel
theorem dX10_walks_86 : decode cX10_walks 86 = .ok (.ishr, 1) := by decide +kernel
theorem dX10_walks_87 : decode cX10_walks 87 = .ok (.iconst 1, 1) := by decide +kernel
theorem dX10_walks_88 : decode cX10_walks 88 = .ok (.iand, 1) := by decide +kernel
theorem dX10_walks_89 : decode cX10_walks 89 = .ok (.iconst 1, 1) := by decide +kernel
theorem dX10_walks_90 : decode cX10_walks 90 = .ok (.if_icmp .ne 47, 3) := by decide +kernel
theorem dX10_walks_93 : decode cX10_walks 93 = .ok (.aload_n 0, 1) := by decide +kernel
theorem dX10_walks_94 : decode cX10_walks 94 = .ok (.getfield 50, 3) := by decide +kernel
theorem dX10_walks_97 : decode cX10_walks 97 = .ok (.iload 5, 2) := by decide +kernel
theorem dX10_walks_99 : decode cX10_walks 99 = .ok (.iaload, 1) := by decide +kernel
theorem dX10_walks_100 : decode cX10_walks 100 = .ok (.iload_n 3, 1) := by decide +kernel
theorem dX10_walks_101 : decode cX10_walks 101 = .ok (.ishr, 1) := by decide +kernel
theorem dX10_walks_102 : decode cX10_walks 102 = .ok (.iconst 1, 1) := by decide +kernel
theorem dX10_walks_103 : decode cX10_walks 103 = .ok (.iand, 1) := by decide +kernel
theorem dX10_walks_104 : decode cX10_walks 104 = .ok (.iconst 1, 1) := by decide +kernel
theorem dX10_walks_105 : decode cX10_walks 105 = .ok (.if_icmp .ne 32, 3) := by decide +kernel
theorem dX10_walks_108 : decode cX10_walks 108 = .ok (.aload_n 0, 1) := by decide +kernel
theorem dX10_walks_109 : decode cX10_walks 109 = .ok (.getfield 53, 3) := by decide +kernel
theorem dX10_walks_112 : decode cX10_walks 112 = .ok (.iload 4, 2) := by decide +kernel
theorem dX10_walks_114 : decode cX10_walks 114 = .ok (.dup2, 1) := by decide +kernel
theorem dX10_walks_115 : decode cX10_walks 115 = .ok (.iaload, 1) := by decide +kernel
theorem dX10_walks_116 : decode cX10_walks 116 = .ok (.aload_n 0, 1) := by decide +kernel
theorem dX10_walks_117 : decode cX10_walks 117 = .ok (.getfield 53, 3) := by decide +kernel
theorem dX10_walks_120 : decode cX10_walks 120 = .ok (.sipush 1024, 3) := by decide +kernel
theorem dX10_walks_123 : decode cX10_walks 123 = .ok (.iload 5, 2) := by decide +kernel
theorem dX10_walks_125 : decode cX10_walks 125 = .ok (.imul, 1) := by decide +kernel
theorem dX10_walks_126 : decode cX10_walks 126 = .ok (.iload_n 2, 1) := by decide +kernel
theorem dX10_walks_127 : decode cX10_walks 127 = .ok (.iconst 1, 1) := by decide +kernel
theorem dX10_walks_128 : decode cX10_walks 128 = .ok (.iload_n 3, 1) := by decide +kernel
theorem dX10_walks_129 : decode cX10_walks 129 = .ok (.ishl, 1) := by decide +kernel
theorem dX10_walks_130 : decode cX10_walks 130 = .ok (.iconst (-1), 1) := by decide +kernel
theorem dX10_walks_131 : decode cX10_walks 131 = .ok (.ixor, 1) := by decide +kernel
theorem dX10_walks_132 : decode cX10_walks 132 = .ok (.iand, 1) := by decide +kernel
theorem dX10_walks_133 : decode cX10_walks 133 = .ok (.iadd, 1) := by decide +kernel
theorem dX10_walks_134 : decode cX10_walks 134 = .ok (.iaload, 1) := by decide +kernel
theorem dX10_walks_135 : decode cX10_walks 135 = .ok (.iadd, 1) := by decide +kernel
theorem dX10_walks_136 : decode cX10_walks 136 = .ok (.iastore, 1) := by decide +kernel
theorem dX10_walks_137 : decode cX10_walks 137 = .ok (.iinc 5 1, 3) := by decide +kernel
theorem dX10_walks_140 : decode cX10_walks 140 = .ok (.goto (-81), 3) := by decide +kernel
theorem dX10_walks_143 : decode cX10_walks 143 = .ok (.iload_n 2, 1) := by decide +kernel
theorem dX10_walks_144 : decode cX10_walks 144 = .ok (.iconst 1, 1) := by decide +kernel
theorem dX10_walks_145 : decode cX10_walks 145 = .ok (.aload_n 0, 1) := by decide +kernel
theorem dX10_walks_146 : decode cX10_walks 146 = .ok (.invokevirtual 56, 3) := by decide +kernel
theorem dX10_walks_149 : decode cX10_walks 149 = .ok (.ishl, 1) := by decide +kernel
theorem dX10_walks_150 : decode cX10_walks 150 = .ok (.iconst 1, 1) := by decide +kernel
theorem dX10_walks_151 : decode cX10_walks 151 = .ok (.isub, 1) := by decide +kernel
theorem dX10_walks_152 : decode cX10_walks 152 = .ok (.if_icmp .ne 13, 3) := by decide +kernel
theorem dX10_walks_155 : decode cX10_walks 155 = .ok (.iload_n 1, 1) := by decide +kernel
theorem dX10_walks_156 : decode cX10_walks 156 = .ok (.aload_n 0, 1) := by decide +kernel
theorem dX10_walks_157 : decode cX10_walks 157 = .ok (.getfield 53, 3) := by decide +kernel
theorem dX10_walks_160 : decode cX10_walks 160 = .ok (.iload 4, 2) := by decide +kernel
theorem dX10_walks_162 : decode cX10_walks 162 = .ok (.iaload, 1) := by decide +kernel
theorem dX10_walks_163 : decode cX10_walks 163 = .ok (.iadd, 1) := by decide +kernel
theorem dX10_walks_164 : decode cX10_walks 164 = .ok (.istore_n 1, 1) := by decide +kernel
theorem dX10_walks_165 : decode cX10_walks 165 = .ok (.iinc 3 1, 3) := by decide +kernel
theorem dX10_walks_168 : decode cX10_walks 168 = .ok (.goto (-148), 3) := by decide +kernel
theorem dX10_walks_171 : decode cX10_walks 171 = .ok (.iinc 2 1, 3) := by decide +kernel
theorem dX10_walks_174 : decode cX10_walks 174 = .ok (.goto (-166), 3) := by decide +kernel
theorem dX10_walks_177 : decode cX10_walks 177 = .ok (.iload_n 1, 1) := by decide +kernel
theorem dX10_walks_178 : decode cX10_walks 178 = .ok (.ireturn, 1) := by decide +kernel
set_option maxRecDepth 20000 in
theorem ggX10_has_X10_one : GoodIn wsX10_has wsX10_one := goodIn_r _ [6, 1, 15, 16, 17, 18, 19, 20, 21, 22, 23, 24, 25, 26, 27, 28, 29, 30, 31, 32] (by decide +kernel) (by decide +kernel)
set_option maxRecDepth 20000 in
theorem gX10_has_X10_one : GoodIn wsX10_has (wsV RX10 92 RX10 yX10_one wsX10_one) := goodIn_app (goodIn_of _ (by decide +kernel)) ggX10_has_X10_one
set_option maxRecDepth 20000 in
theorem ggX10_has_X10_more : GoodIn wsX10_has wsX10_more := goodIn_r _ [10, 1, 15, 16, 17, 18, 19, 20, 21, 22, 23, 24, 25, 26, 27, 28, 29, 30, 31, 32] (by decide +kernel) (by decide +kernel)
set_option maxRecDepth 20000 in
theorem gX10_has_X10_more : GoodIn wsX10_has (wsV RX10 99 RX10 yX10_more wsX10_more) := goodIn_app (goodIn_of _ (by decide +kernel)) ggX10_has_X10_more
set_option maxRecDepth 20000 in
theorem ggX10_has_X10_two : GoodIn wsX10_has wsX10_two := goodIn_r _ [14, 1, 15, 16, 17, 18, 19, 20, 21, 22, 23, 24, 25, 26, 27, 28, 29, 30, 31, 32] (by decide +kernel) (by decide +kernel)
set_option maxRecDepth 20000 in
theorem gX10_has_X10_two : GoodIn wsX10_has (wsV RX10 96 RX10 yX10_two wsX10_two) := goodIn_app (goodIn_of _ (by decide +kernel)) ggX10_has_X10_two
theorem dX10_has_0 : decode cX10_has 0 = .ok (.iconst 0, 1) := by decide +kernel
theorem dX10_has_1 : decode cX10_has 1 = .ok (.istore_n 2, 1) := by decide +kernel
theorem dX10_has_2 : decode cX10_has 2 = .ok (.iconst 0, 1) := by decide +kernel
theorem dX10_has_3 : decode cX10_has 3 = .ok (.istore_n 3, 1) := by decide +kernel
theorem dX10_has_4 : decode cX10_has 4 = .ok (.iload_n 3, 1) := by decide +kernel
theorem dX10_has_5 : decode cX10_has 5 = .ok (.aload_n 0, 1) := by decide +kernel
theorem dX10_has_6 : decode cX10_has 6 = .ok (.getfield 7, 3) := by decide +kernel
theorem dX10_has_9 : decode cX10_has 9 = .ok (.iconst 1, 1) := by decide +kernel
theorem dX10_has_10 : decode cX10_has 10 = .ok (.iaload, 1) := by decide +kernel
theorem dX10_has_11 : decode cX10_has 11 = .ok (.if_icmp .ge 83, 3) := by decide +kernel
theorem dX10_has_14 : decode cX10_has 14 = .ok (.aload_n 0, 1) := by decide +kernel
theorem dX10_has_15 : decode cX10_has 15 = .ok (.iload_n 3, 1) := by decide +kernel
theorem dX10_has_16 : decode cX10_has 16 = .ok (.invokevirtual 92, 3) := by decide +kernel
theorem dX10_has_19 : decode cX10_has 19 = .ok (.iload_n 1, 1) := by decide +kernel
theorem dX10_has_20 : decode cX10_has 20 = .ok (.if_icmp .ne 31, 3) := by decide +kernel
theorem dX10_has_23 : decode cX10_has 23 = .ok (.iload_n 2, 1) := by decide +kernel
theorem dX10_has_24 : decode cX10_has 24 = .ok (.aload_n 0, 1) := by decide +kernel
theorem dX10_has_25 : decode cX10_has 25 = .ok (.iload_n 3, 1) := by decide +kernel
theorem dX10_has_26 : decode cX10_has 26 = .ok (.invokevirtual 99, 3) := by decide +kernel
theorem dX10_has_29 : decode cX10_has 29 = .ok (.ifCond .le 7, 3) := by decide +kernel
theorem dX10_has_32 : decode cX10_has 32 = .ok (.iconst 2, 1) := by decide +kernel
theorem dX10_has_33 : decode cX10_has 33 = .ok (.goto 16, 3) := by decide +kernel
theorem dX10_has_36 : decode cX10_has 36 = .ok (.aload_n 0, 1) := by decide +kernel
theorem dX10_has_37 : decode cX10_has 37 = .ok (.iload_n 3, 1) := by decide +kernel
theorem dX10_has_38 : decode cX10_has 38 = .ok (.invokevirtual 99, 3) := by decide +kernel
theorem dX10_has_41 : decode cX10_has 41 = .ok (.ifCond .ne 7, 3) := by decide +kernel
theorem dX10_has_44 : decode cX10_has 44 = .ok (.iconst 1, 1) := by decide +kernel
theorem dX10_has_45 : decode cX10_has 45 = .ok (.goto 4, 3) := by decide +kernel
theorem dX10_has_48 : decode cX10_has 48 = .ok (.iconst 0, 1) := by decide +kernel
theorem dX10_has_49 : decode cX10_has 49 = .ok (.iadd, 1) := by decide +kernel
theorem dX10_has_50 : decode cX10_has 50 = .ok (.istore_n 2, 1) := by decide +kernel
theorem dX10_has_51 : decode cX10_has 51 = .ok (.aload_n 0, 1) := by decide +kernel
theorem dX10_has_52 : decode cX10_has 52 = .ok (.iload_n 3, 1) := by decide +kernel
theorem dX10_has_53 : decode cX10_has 53 = .ok (.invokevirtual 96, 3) := by decide +kernel
theorem dX10_has_56 : decode cX10_has 56 = .ok (.iload_n 1, 1) := by decide +kernel
theorem dX10_has_57 : decode cX10_has 57 = .ok (.if_icmp .ne 31, 3) := by decide +kernel
theorem dX10_has_60 : decode cX10_has 60 = .ok (.iload_n 2, 1) := by decide +kernel
theorem dX10_has_61 : decode cX10_has 61 = .ok (.aload_n 0, 1) := by decide +kernel
theorem dX10_has_62 : decode cX10_has 62 = .ok (.iload_n 3, 1) := by decide +kernel
theorem dX10_has_63 : decode cX10_has 63 = .ok (.invokevirtual 99, 3) := by decide +kernel
theorem dX10_has_66 : decode cX10_has 66 = .ok (.ifCond .ge 7, 3) := by decide +kernel
theorem dX10_has_69 : decode cX10_has 69 = .ok (.iconst 2, 1) := by decide +kernel
theorem dX10_has_70 : decode cX10_has 70 = .ok (.goto 16, 3) := by decide +kernel
theorem dX10_has_73 : decode cX10_has 73 = .ok (.aload_n 0, 1) := by decide +kernel
theorem dX10_has_74 : decode cX10_has 74 = .ok (.iload_n 3, 1) := by decide +kernel
theorem dX10_has_75 : decode cX10_has 75 = .ok (.invokevirtual 99, 3) := by decide +kernel
theorem dX10_has_78 : decode cX10_has 78 = .ok (.ifCond .ne 7, 3) := by decide +kernel
theorem dX10_has_81 : decode cX10_has 81 = .ok (.iconst 1, 1) := by decide +kernel
theorem dX10_has_82 : decode cX10_has 82 = .ok (.goto 4, 3) := by decide +kernel
theorem dX10_has_85 : decode cX10_has 85 = .ok (.iconst 0, 1) := by decide +kernel
theorem dX10_has_86 : decode cX10_has 86 = .ok (.iadd, 1) := by decide +kernel
theorem dX10_has_87 : decode cX10_has 87 = .ok (.istore_n 2, 1) := by decide +kernel
theorem dX10_has_88 : decode cX10_has 88 = .ok (.iinc 3 1, 3) := by decide +kernel
theorem dX10_has_91 : decode cX10_has 91 = .ok (.goto (-87), 3) := by decide +kernel
theorem dX10_has_94 : decode cX10_has 94 = .ok (.iload_n 2, 1) := by decide +kernel
theorem dX10_has_95 : decode cX10_has 95 = .ok (.ireturn, 1) := by decide +kernel
set_option maxRecDepth 20000 in
theorem ggX10_why_X10_isPlayer : GoodIn wsX10_why wsX10_isPlayer := goodIn_r _ [6, 7, 8, 9, 5, 10, 1, 27, 28, 29, 30, 31, 32, 33, 34, 35, 36, 37, 38, 39, 40, 41, 42, 43, 44] (by decide +kernel) (by decide +kernel)
set_option maxRecDepth 20000 in
theorem gX10_why_X10_isPlayer : GoodIn wsX10_why (wsV RX10 70 RX10 yX10_isPlayer wsX10_isPlayer) := goodIn_app (goodIn_of _ (by decide +kernel)) ggX10_why_X10_isPlayer
set_option maxRecDepth 20000 in
theorem ggX10_why_X10_has : GoodIn wsX10_why wsX10_has := goodIn_r _ [14, 1, 15, 16, 17, 5, 18, 19, 20, 21, 22, 23, 24, 25, 26, 27, 28, 29, 30, 31, 32, 33, 34, 35, 36, 37, 38, 39, 40, 41, 42, 43, 44] (by decide +kernel) (by decide +kernel)
set_option maxRecDepth 20000 in
theorem gX10_why_X10_has : GoodIn wsX10_why (wsV RX10 173 RX10 yX10_has wsX10_has) := goodIn_app (goodIn_of _ (by decide +kernel)) ggX10_why_X10_has
set_option maxRecDepth 20000 in
theorem ggX10_why_X10_n : GoodIn wsX10_why wsX10_n := goodIn_r _ [10, 1, 27, 28, 29, 30, 31, 32, 33, 34, 35, 36, 37, 38, 39, 40, 41, 42, 43, 44] (by decide +kernel) (by decide +kernel)
set_option maxRecDepth 20000 in
theorem gX10_why_X10_n : GoodIn wsX10_why (wsV RX10 56 RX10 yX10_n wsX10_n) := goodIn_app (goodIn_of _ (by decide +kernel)) ggX10_why_X10_n
theorem dX10_why_0 : decode cX10_why 0 = .ok (.aload_n 0, 1) := by decide +kernel
theorem dX10_why_1 : decode cX10_why 1 = .ok (.iload_n 1, 1) := by decide +kernel
theorem dX10_why_2 : decode cX10_why 2 = .ok (.invokevirtual 70, 3) := by decide +kernel
theorem dX10_why_5 : decode cX10_why 5 = .ok (.ifCond .ne 5, 3) := by decide +kernel
theorem dX10_why_8 : decode cX10_why 8 = .ok (.iconst (-1), 1) := by decide +kernel
theorem dX10_why_9 : decode cX10_why 9 = .ok (.ireturn, 1) := by decide +kernel
theorem dX10_why_10 : decode cX10_why 10 = .ok (.aload_n 0, 1) := by decide +kernel
theorem dX10_why_11 : decode cX10_why 11 = .ok (.iload_n 1, 1) := by decide +kernel
theorem dX10_why_12 : decode cX10_why 12 = .ok (.invokevirtual 173, 3) := by decide +kernel
theorem dX10_why_15 : decode cX10_why 15 = .ok (.istore_n 2, 1) := by decide +kernel
theorem dX10_why_16 : decode cX10_why 16 = .ok (.iconst 0, 1) := by decide +kernel
theorem dX10_why_17 : decode cX10_why 17 = .ok (.istore_n 3, 1) := by decide +kernel
theorem dX10_why_18 : decode cX10_why 18 = .ok (.iload_n 3, 1) := by decide +kernel
theorem dX10_why_19 : decode cX10_why 19 = .ok (.aload_n 0, 1) := by decide +kernel
theorem dX10_why_20 : decode cX10_why 20 = .ok (.getfield 7, 3) := by decide +kernel
theorem dX10_why_23 : decode cX10_why 23 = .ok (.iconst 2, 1) := by decide +kernel
theorem dX10_why_24 : decode cX10_why 24 = .ok (.iaload, 1) := by decide +kernel
theorem dX10_why_25 : decode cX10_why 25 = .ok (.if_icmp .ge 51, 3) := by decide +kernel
theorem dX10_why_28 : decode cX10_why 28 = .ok (.iload_n 2, 1) := by decide +kernel
theorem dX10_why_29 : decode cX10_why 29 = .ok (.aload_n 0, 1) := by decide +kernel
theorem dX10_why_30 : decode cX10_why 30 = .ok (.getfield 7, 3) := by decide +kernel
theorem dX10_why_33 : decode cX10_why 33 = .ok (.sipush 491, 3) := by decide +kernel
theorem dX10_why_36 : decode cX10_why 36 = .ok (.iconst 2, 1) := by decide +kernel
theorem dX10_why_37 : decode cX10_why 37 = .ok (.iload_n 3, 1) := by decide +kernel
theorem dX10_why_38 : decode cX10_why 38 = .ok (.imul, 1) := by decide +kernel
theorem dX10_why_39 : decode cX10_why 39 = .ok (.iadd, 1) := by decide +kernel
theorem dX10_why_40 : decode cX10_why 40 = .ok (.iaload, 1) := by decide +kernel
theorem dX10_why_41 : decode cX10_why 41 = .ok (.iload_n 1, 1) := by decide +kernel
theorem dX10_why_42 : decode cX10_why 42 = .ok (.if_icmp .eq 21, 3) := by decide +kernel
theorem dX10_why_45 : decode cX10_why 45 = .ok (.aload_n 0, 1) := by decide +kernel
theorem dX10_why_46 : decode cX10_why 46 = .ok (.getfield 7, 3) := by decide +kernel
theorem dX10_why_49 : decode cX10_why 49 = .ok (.sipush 491, 3) := by decide +kernel
theorem dX10_why_52 : decode cX10_why 52 = .ok (.iconst 2, 1) := by decide +kernel
theorem dX10_why_53 : decode cX10_why 53 = .ok (.iload_n 3, 1) := by decide +kernel
theorem dX10_why_54 : decode cX10_why 54 = .ok (.imul, 1) := by decide +kernel
theorem dX10_why_55 : decode cX10_why 55 = .ok (.iadd, 1) := by decide +kernel
theorem dX10_why_56 : decode cX10_why 56 = .ok (.iconst 1, 1) := by decide +kernel
theorem dX10_why_57 : decode cX10_why 57 = .ok (.iadd, 1) := by decide +kernel
theorem dX10_why_58 : decode cX10_why 58 = .ok (.iaload, 1) := by decide +kernel
theorem dX10_why_59 : decode cX10_why 59 = .ok (.iload_n 1, 1) := by decide +kernel
theorem dX10_why_60 : decode cX10_why 60 = .ok (.if_icmp .ne 7, 3) := by decide +kernel
theorem dX10_why_63 : decode cX10_why 63 = .ok (.iconst 2, 1) := by decide +kernel
theorem dX10_why_64 : decode cX10_why 64 = .ok (.goto 4, 3) := by decide +kernel
theorem dX10_why_67 : decode cX10_why 67 = .ok (.iconst 0, 1) := by decide +kernel
theorem dX10_why_68 : decode cX10_why 68 = .ok (.iadd, 1) := by decide +kernel
theorem dX10_why_69 : decode cX10_why 69 = .ok (.istore_n 2, 1) := by decide +kernel
theorem dX10_why_70 : decode cX10_why 70 = .ok (.iinc 3 1, 3) := by decide +kernel
theorem dX10_why_73 : decode cX10_why 73 = .ok (.goto (-55), 3) := by decide +kernel
theorem dX10_why_76 : decode cX10_why 76 = .ok (.iconst 1, 1) := by decide +kernel
theorem dX10_why_77 : decode cX10_why 77 = .ok (.istore_n 3, 1) := by decide +kernel
theorem dX10_why_78 : decode cX10_why 78 = .ok (.iload_n 3, 1) := by decide +kernel
theorem dX10_why_79 : decode cX10_why 79 = .ok (.iconst 1, 1) := by decide +kernel
theorem dX10_why_80 : decode cX10_why 80 = .ok (.aload_n 0, 1) := by decide +kernel
theorem dX10_why_81 : decode cX10_why 81 = .ok (.invokevirtual 56, 3) := by decide +kernel
theorem dX10_why_84 : decode cX10_why 84 = .ok (.ishl, 1) := by decide +kernel
theorem dX10_why_85 : decode cX10_why 85 = .ok (.if_icmp .ge 150, 3) := by decide +kernel
theorem dX10_why_88 : decode cX10_why 88 = .ok (.iload_n 3, 1) := by decide +kernel
theorem dX10_why_89 : decode cX10_why 89 = .ok (.iload_n 1, 1) := by decide +kernel
theorem dX10_why_90 : decode cX10_why 90 = .ok (.ishr, 1) := by decide +kernel
theorem dX10_why_91 : decode cX10_why 91 = .ok (.iconst 1, 1) := by decide +kernel
theorem dX10_why_92 : decode cX10_why 92 = .ok (.iand, 1) := by decide +kernel
theorem dX10_why_93 : decode cX10_why 93 = .ok (.iconst 1, 1) := by decide +kernel
theorem dX10_why_94 : decode cX10_why 94 = .ok (.if_icmp .ne 6, 3) := by decide +kernel
theorem dX10_why_97 : decode cX10_why 97 = .ok (.goto 132, 3) := by decide +kernel
theorem dX10_why_100 : decode cX10_why 100 = .ok (.iconst 0, 1) := by decide +kernel
theorem dX10_why_101 : decode cX10_why 101 = .ok (.istore 4, 2) := by decide +kernel
theorem dX10_why_103 : decode cX10_why 103 = .ok (.iconst 0, 1) := by decide +kernel
theorem dX10_why_104 : decode cX10_why 104 = .ok (.istore 5, 2) := by decide +kernel
theorem dX10_why_106 : decode cX10_why 106 = .ok (.iload 5, 2) := by decide +kernel
theorem dX10_why_108 : decode cX10_why 108 = .ok (.aload_n 0, 1) := by decide +kernel
theorem dX10_why_109 : decode cX10_why 109 = .ok (.invokevirtual 56, 3) := by decide +kernel
theorem dX10_why_112 : decode cX10_why 112 = .ok (.if_icmp .ge 36, 3) := by decide +kernel
theorem dX10_why_115 : decode cX10_why 115 = .ok (.iload 4, 2) := by decide +kernel
theorem dX10_why_117 : decode cX10_why 117 = .ok (.iload_n 3, 1) := by decide +kernel
theorem dX10_why_118 : decode cX10_why 118 = .ok (.iload 5, 2) := by decide +kernel
theorem dX10_why_120 : decode cX10_why 120 = .ok (.ishr, 1) := by decide +kernel
theorem dX10_why_121 : decode cX10_why 121 = .ok (.iconst 1, 1) := by decide +kernel
theorem dX10_why_122 : decode cX10_why 122 = .ok (.iand, 1) := by decide +kernel
theorem dX10_why_123 : decode cX10_why 123 = .ok (.iconst 1, 1) := by decide +kernel
theorem dX10_why_124 : decode cX10_why 124 = .ok (.if_icmp .ne 14, 3) := by decide +kernel
theorem dX10_why_127 : decode cX10_why 127 = .ok (.aload_n 0, 1) := by decide +kernel
theorem dX10_why_128 : decode cX10_why 128 = .ok (.iload 5, 2) := by decide +kernel
theorem dX10_why_130 : decode cX10_why 130 = .ok (.invokevirtual 173, 3) := by decide +kernel
theorem dX10_why_133 : decode cX10_why 133 = .ok (.iload_n 2, 1) := by decide +kernel
theorem dX10_why_134 : decode cX10_why 134 = .ok (.isub, 1) := by decide +kernel
theorem dX10_why_135 : decode cX10_why 135 = .ok (.goto 4, 3) := by decide +kernel
theorem dX10_why_138 : decode cX10_why 138 = .ok (.iconst 0, 1) := by decide +kernel
theorem dX10_why_139 : decode cX10_why 139 = .ok (.iadd, 1) := by decide +kernel
theorem dX10_why_140 : decode cX10_why 140 = .ok (.istore 4, 2) := by decide +kernel
theorem dX10_why_142 : decode cX10_why 142 = .ok (.iinc 5 1, 3) := by decide +kernel
theorem dX10_why_145 : decode cX10_why 145 = .ok (.goto (-39), 3) := by decide +kernel
theorem dX10_why_148 : decode cX10_why 148 = .ok (.iconst 0, 1) := by decide +kernel
theorem dX10_why_149 : decode cX10_why 149 = .ok (.istore 5, 2) := by decide +kernel
theorem dX10_why_151 : decode cX10_why 151 = .ok (.iload 5, 2) := by decide +kernel
theorem dX10_why_153 : decode cX10_why 153 = .ok (.aload_n 0, 1) := by decide +kernel
theorem dX10_why_154 : decode cX10_why 154 = .ok (.getfield 7, 3) := by decide +kernel
theorem dX10_why_157 : decode cX10_why 157 = .ok (.iconst 2, 1) := by decide +kernel
theorem dX10_why_158 : decode cX10_why 158 = .ok (.iaload, 1) := by decide +kernel
theorem dX10_why_159 : decode cX10_why 159 = .ok (.if_icmp .ge 63, 3) := by decide +kernel
theorem dX10_why_162 : decode cX10_why 162 = .ok (.iload 4, 2) := by decide +kernel
theorem dX10_why_164 : decode cX10_why 164 = .ok (.iload_n 3, 1) := by decide +kernel
theorem dX10_why_165 : decode cX10_why 165 = .ok (.aload_n 0, 1) := by decide +kernel
theorem dX10_why_166 : decode cX10_why 166 = .ok (.getfield 7, 3) := by decide +kernel
theorem dX10_why_169 : decode cX10_why 169 = .ok (.sipush 491, 3) := by decide +kernel
theorem dX10_why_172 : decode cX10_why 172 = .ok (.iconst 2, 1) := by decide +kernel
theorem dX10_why_173 : decode cX10_why 173 = .ok (.iload 5, 2) := by decide +kernel
theorem dX10_why_175 : decode cX10_why 175 = .ok (.imul, 1) := by decide +kernel
theorem dX10_why_176 : decode cX10_why 176 = .ok (.iadd, 1) := by decide +kernel
theorem dX10_why_177 : decode cX10_why 177 = .ok (.iaload, 1) := by decide +kernel
theorem dX10_why_178 : decode cX10_why 178 = .ok (.ishr, 1) := by decide +kernel
theorem dX10_why_179 : decode cX10_why 179 = .ok (.iconst 1, 1) := by decide +kernel
theorem dX10_why_180 : decode cX10_why 180 = .ok (.iand, 1) := by decide +kernel
theorem dX10_why_181 : decode cX10_why 181 = .ok (.iconst 1, 1) := by decide +kernel
theorem dX10_why_182 : decode cX10_why 182 = .ok (.if_icmp .ne 30, 3) := by decide +kernel
theorem dX10_why_185 : decode cX10_why 185 = .ok (.iload_n 3, 1) := by decide +kernel
theorem dX10_why_186 : decode cX10_why 186 = .ok (.aload_n 0, 1) := by decide +kernel
theorem dX10_why_187 : decode cX10_why 187 = .ok (.getfield 7, 3) := by decide +kernel
theorem dX10_why_190 : decode cX10_why 190 = .ok (.sipush 491, 3) := by decide +kernel
theorem dX10_why_193 : decode cX10_why 193 = .ok (.iconst 2, 1) := by decide +kernel
theorem dX10_why_194 : decode cX10_why 194 = .ok (.iload 5, 2) := by decide +kernel
theorem dX10_why_196 : decode cX10_why 196 = .ok (.imul, 1) := by decide +kernel
theorem dX10_why_197 : decode cX10_why 197 = .ok (.iadd, 1) := by decide +kernel
theorem dX10_why_198 : decode cX10_why 198 = .ok (.iconst 1, 1) := by decide +kernel
theorem dX10_why_199 : decode cX10_why 199 = .ok (.iadd, 1) := by decide +kernel
theorem dX10_why_200 : decode cX10_why 200 = .ok (.iaload, 1) := by decide +kernel
theorem dX10_why_201 : decode cX10_why 201 = .ok (.ishr, 1) := by decide +kernel
theorem dX10_why_202 : decode cX10_why 202 = .ok (.iconst 1, 1) := by decide +kernel
theorem dX10_why_203 : decode cX10_why 203 = .ok (.iand, 1) := by decide +kernel
theorem dX10_why_204 : decode cX10_why 204 = .ok (.iconst 1, 1) := by decide +kernel
theorem dX10_why_205 : decode cX10_why 205 = .ok (.if_icmp .ne 7, 3) := by decide +kernel
theorem dX10_why_208 : decode cX10_why 208 = .ok (.iconst 2, 1) := by decide +kernel
theorem dX10_why_209 : decode cX10_why 209 = .ok (.goto 4, 3) := by decide +kernel
theorem dX10_why_212 : decode cX10_why 212 = .ok (.iconst 0, 1) := by decide +kernel
theorem dX10_why_213 : decode cX10_why 213 = .ok (.iadd, 1) := by decide +kernel
theorem dX10_why_214 : decode cX10_why 214 = .ok (.istore 4, 2) := by decide +kernel
theorem dX10_why_216 : decode cX10_why 216 = .ok (.iinc 5 1, 3) := by decide +kernel
theorem dX10_why_219 : decode cX10_why 219 = .ok (.goto (-68), 3) := by decide +kernel
theorem dX10_why_222 : decode cX10_why 222 = .ok (.iload 4, 2) := by decide +kernel
theorem dX10_why_224 : decode cX10_why 224 = .ok (.ifCond .le 5, 3) := by decide +kernel
theorem dX10_why_227 : decode cX10_why 227 = .ok (.iload_n 3, 1) := by decide +kernel
theorem dX10_why_228 : decode cX10_why 228 = .ok (.ireturn, 1) := by decide +kernel
theorem dX10_why_229 : decode cX10_why 229 = .ok (.iinc 3 1, 3) := by decide +kernel
theorem dX10_why_232 : decode cX10_why 232 = .ok (.goto (-154), 3) := by decide +kernel
theorem dX10_why_235 : decode cX10_why 235 = .ok (.iconst 0, 1) := by decide +kernel
theorem dX10_why_236 : decode cX10_why 236 = .ok (.ireturn, 1) := by decide +kernel
set_option maxRecDepth 20000 in
theorem ggX10_may_X10_why : GoodIn wsX10_may wsX10_why := goodIn_r _ [5, 6, 7, 8, 9, 4, 10, 11, 12, 13, 14, 15, 16, 17, 18, 19, 20, 21, 22, 23, 24, 25, 26, 27, 28, 29, 30, 31, 32, 33, 34, 35, 36, 37, 38, 39, 40, 41, 42, 43, 44, 45, 46, 47, 48] (by decide +kernel) (by decide +kernel)
set_option maxRecDepth 20000 in
theorem gX10_may_X10_why : GoodIn wsX10_may (wsV RX10 176 RX10 yX10_why wsX10_why) := goodIn_app (goodIn_of _ (by decide +kernel)) ggX10_may_X10_why
theorem dX10_may_0 : decode cX10_may 0 = .ok (.aload_n 0, 1) := by decide +kernel
theorem dX10_may_1 : decode cX10_may 1 = .ok (.iload_n 1, 1) := by decide +kernel
theorem dX10_may_2 : decode cX10_may 2 = .ok (.invokevirtual 176, 3) := by decide +kernel
theorem dX10_may_5 : decode cX10_may 5 = .ok (.istore_n 2, 1) := by decide +kernel
theorem dX10_may_6 : decode cX10_may 6 = .ok (.iload_n 2, 1) := by decide +kernel
theorem dX10_may_7 : decode cX10_may 7 = .ok (.ifCond .ge 7, 3) := by decide +kernel
theorem dX10_may_10 : decode cX10_may 10 = .ok (.iconst (-1), 1) := by decide +kernel
theorem dX10_may_11 : decode cX10_may 11 = .ok (.goto 12, 3) := by decide +kernel
theorem dX10_may_14 : decode cX10_may 14 = .ok (.iload_n 2, 1) := by decide +kernel
theorem dX10_may_15 : decode cX10_may 15 = .ok (.ifCond .ne 7, 3) := by decide +kernel
theorem dX10_may_18 : decode cX10_may 18 = .ok (.iconst 1, 1) := by decide +kernel
theorem dX10_may_19 : decode cX10_may 19 = .ok (.goto 4, 3) := by decide +kernel
theorem dX10_may_22 : decode cX10_may 22 = .ok (.iconst 0, 1) := by decide +kernel
theorem dX10_may_23 : decode cX10_may 23 = .ok (.ireturn, 1) := by decide +kernel
set_option maxRecDepth 20000 in
theorem ggX10_about_X10_n : GoodIn wsX10_about wsX10_n := goodIn_r _ [8, 1, 21, 22, 23, 24, 25, 26, 27, 28, 29, 30, 31, 32, 33, 34, 35, 36, 37, 38] (by decide +kernel) (by decide +kernel)
set_option maxRecDepth 20000 in
theorem gX10_about_X10_n : GoodIn wsX10_about (wsV RX10 56 RX10 yX10_n wsX10_n) := goodIn_app (goodIn_of _ (by decide +kernel)) ggX10_about_X10_n
set_option maxRecDepth 20000 in
theorem ggX10_about_X10_areJoined : GoodIn wsX10_about wsX10_areJoined := goodIn_r _ [12, 1, 4, 5, 6, 7, 8, 13, 14, 15, 16, 17, 18, 19, 20, 21, 22, 23, 24, 25, 26, 27, 28, 29, 30, 31, 32, 33, 34, 35, 36, 37, 38] (by decide +kernel) (by decide +kernel)
set_option maxRecDepth 20000 in
theorem gX10_about_X10_areJoined : GoodIn wsX10_about (wsV RX10 138 RX10 yX10_areJoined wsX10_areJoined) := goodIn_app (goodIn_of _ (by decide +kernel)) ggX10_about_X10_areJoined
theorem dX10_about_0 : decode cX10_about 0 = .ok (.iload_n 1, 1) := by decide +kernel
theorem dX10_about_1 : decode cX10_about 1 = .ok (.tableswitch 92 0 6 #[43, 48, 55, 62, 69, 74, 79], 43) := by decide +kernel
theorem dX10_about_44 : decode cX10_about 44 = .ok (.aload_n 0, 1) := by decide +kernel
theorem dX10_about_45 : decode cX10_about 45 = .ok (.invokevirtual 56, 3) := by decide +kernel
theorem dX10_about_48 : decode cX10_about 48 = .ok (.ireturn, 1) := by decide +kernel
theorem dX10_about_49 : decode cX10_about 49 = .ok (.aload_n 0, 1) := by decide +kernel
theorem dX10_about_50 : decode cX10_about 50 = .ok (.getfield 7, 3) := by decide +kernel
theorem dX10_about_53 : decode cX10_about 53 = .ok (.iconst 1, 1) := by decide +kernel
theorem dX10_about_54 : decode cX10_about 54 = .ok (.iaload, 1) := by decide +kernel
theorem dX10_about_55 : decode cX10_about 55 = .ok (.ireturn, 1) := by decide +kernel
theorem dX10_about_56 : decode cX10_about 56 = .ok (.aload_n 0, 1) := by decide +kernel
theorem dX10_about_57 : decode cX10_about 57 = .ok (.getfield 7, 3) := by decide +kernel
theorem dX10_about_60 : decode cX10_about 60 = .ok (.iconst 2, 1) := by decide +kernel
theorem dX10_about_61 : decode cX10_about 61 = .ok (.iaload, 1) := by decide +kernel
theorem dX10_about_62 : decode cX10_about 62 = .ok (.ireturn, 1) := by decide +kernel
theorem dX10_about_63 : decode cX10_about 63 = .ok (.aload_n 0, 1) := by decide +kernel
theorem dX10_about_64 : decode cX10_about 64 = .ok (.getfield 7, 3) := by decide +kernel
theorem dX10_about_67 : decode cX10_about 67 = .ok (.iconst 3, 1) := by decide +kernel
theorem dX10_about_68 : decode cX10_about 68 = .ok (.iaload, 1) := by decide +kernel
theorem dX10_about_69 : decode cX10_about 69 = .ok (.ireturn, 1) := by decide +kernel
theorem dX10_about_70 : decode cX10_about 70 = .ok (.aload_n 0, 1) := by decide +kernel
theorem dX10_about_71 : decode cX10_about 71 = .ok (.getfield 64, 3) := by decide +kernel
theorem dX10_about_74 : decode cX10_about 74 = .ok (.ireturn, 1) := by decide +kernel
theorem dX10_about_75 : decode cX10_about 75 = .ok (.aload_n 0, 1) := by decide +kernel
theorem dX10_about_76 : decode cX10_about 76 = .ok (.getfield 82, 3) := by decide +kernel
theorem dX10_about_79 : decode cX10_about 79 = .ok (.ireturn, 1) := by decide +kernel
theorem dX10_about_80 : decode cX10_about 80 = .ok (.aload_n 0, 1) := by decide +kernel
theorem dX10_about_81 : decode cX10_about 81 = .ok (.invokevirtual 138, 3) := by decide +kernel
theorem dX10_about_84 : decode cX10_about 84 = .ok (.ifCond .eq 7, 3) := by decide +kernel
theorem dX10_about_87 : decode cX10_about 87 = .ok (.iconst 1, 1) := by decide +kernel
theorem dX10_about_88 : decode cX10_about 88 = .ok (.goto 4, 3) := by decide +kernel
theorem dX10_about_91 : decode cX10_about 91 = .ok (.iconst 0, 1) := by decide +kernel
theorem dX10_about_92 : decode cX10_about 92 = .ok (.ireturn, 1) := by decide +kernel
theorem dX10_about_93 : decode cX10_about 93 = .ok (.iconst (-1), 1) := by decide +kernel
theorem dX10_about_94 : decode cX10_about 94 = .ok (.ireturn, 1) := by decide +kernel
