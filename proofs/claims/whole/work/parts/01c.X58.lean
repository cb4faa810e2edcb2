theorem dX5_init_0 : decode cX5_init 0 = .ok (.aload_n 0, 1) := by decide +kernel
theorem dX5_init_1 : decode cX5_init 1 = .ok (.invokespecial 3, 3) := by decide +kernel
theorem dX5_init_4 : decode cX5_init 4 = .ok (.aload_n 0, 1) := by decide +kernel
theorem dX5_init_5 : decode cX5_init 5 = .ok (.sipush 1024, 3) := by decide +kernel
theorem dX5_init_8 : decode cX5_init 8 = .ok (.newarray .int, 2) := by decide +kernel
theorem dX5_init_10 : decode cX5_init 10 = .ok (.putfield 9, 3) := by decide +kernel
theorem dX5_init_13 : decode cX5_init 13 = .ok (.aload_n 0, 1) := by decide +kernel
theorem dX5_init_14 : decode cX5_init 14 = .ok (.sipush 1024, 3) := by decide +kernel
theorem dX5_init_17 : decode cX5_init 17 = .ok (.newarray .int, 2) := by decide +kernel
theorem dX5_init_19 : decode cX5_init 19 = .ok (.putfield 15, 3) := by decide +kernel
theorem dX5_init_22 : decode cX5_init 22 = .ok (.aload_n 0, 1) := by decide +kernel
theorem dX5_init_23 : decode cX5_init 23 = .ok (.iconst (-1), 1) := by decide +kernel
theorem dX5_init_24 : decode cX5_init 24 = .ok (.putfield 18, 3) := by decide +kernel
theorem dX5_init_27 : decode cX5_init 27 = .ok (.aload_n 0, 1) := by decide +kernel
theorem dX5_init_28 : decode cX5_init 28 = .ok (.iconst (-1), 1) := by decide +kernel
theorem dX5_init_29 : decode cX5_init 29 = .ok (.putfield 22, 3) := by decide +kernel
theorem dX5_init_32 : decode cX5_init 32 = .ok (.return_, 1) := by decide +kernel
set_option maxRecDepth 20000 in
theorem ggX5_leastCost_X9_everyone : GoodIn wsX5_leastCost wsX9_everyone := goodIn_r _ [4] (by decide +kernel) (by decide +kernel)
set_option maxRecDepth 20000 in
theorem gX5_leastCost_X9_everyone_n25 : GoodIn wsX5_leastCost (wsX9_everyone) := ggX5_leastCost_X9_everyone
theorem dX5_leastCost_0 : decode cX5_leastCost 0 = .ok (.aload_n 0, 1) := by decide +kernel
theorem dX5_leastCost_1 : decode cX5_leastCost 1 = .ok (.getfield 9, 3) := by decide +kernel
theorem dX5_leastCost_4 : decode cX5_leastCost 4 = .ok (.iload_n 1, 1) := by decide +kernel
theorem dX5_leastCost_5 : decode cX5_leastCost 5 = .ok (.invokestatic 25, 3) := by decide +kernel
theorem dX5_leastCost_8 : decode cX5_leastCost 8 = .ok (.iaload, 1) := by decide +kernel
theorem dX5_leastCost_9 : decode cX5_leastCost 9 = .ok (.ireturn, 1) := by decide +kernel
set_option maxRecDepth 20000 in
theorem ggX5_howMany_X9_everyone : GoodIn wsX5_howMany wsX9_everyone := goodIn_r _ [4] (by decide +kernel) (by decide +kernel)
set_option maxRecDepth 20000 in
theorem gX5_howMany_X9_everyone_n25 : GoodIn wsX5_howMany (wsX9_everyone) := ggX5_howMany_X9_everyone
theorem dX5_howMany_0 : decode cX5_howMany 0 = .ok (.aload_n 0, 1) := by decide +kernel
theorem dX5_howMany_1 : decode cX5_howMany 1 = .ok (.getfield 15, 3) := by decide +kernel
theorem dX5_howMany_4 : decode cX5_howMany 4 = .ok (.iload_n 1, 1) := by decide +kernel
theorem dX5_howMany_5 : decode cX5_howMany 5 = .ok (.invokestatic 25, 3) := by decide +kernel
theorem dX5_howMany_8 : decode cX5_howMany 8 = .ok (.iaload, 1) := by decide +kernel
theorem dX5_howMany_9 : decode cX5_howMany 9 = .ok (.ireturn, 1) := by decide +kernel
set_option maxRecDepth 20000 in
theorem ggX5_search_X4_changes : GoodIn wsX5_search wsX4_changes := goodIn_r _ [9, 10, 34, 35, 36, 37, 38, 39] (by decide +kernel) (by decide +kernel)
set_option maxRecDepth 20000 in
theorem gX5_search_X4_changes : GoodIn wsX5_search (wsV RX5 29 RX4 yX4_changes wsX4_changes) := goodIn_app (goodIn_of _ (by decide +kernel)) ggX5_search_X4_changes
set_option maxRecDepth 20000 in
theorem ggX5_search_X9_everyone : GoodIn wsX5_search wsX9_everyone := goodIn_r _ [13] (by decide +kernel) (by decide +kernel)
set_option maxRecDepth 20000 in
theorem gX5_search_X9_everyone_n25 : GoodIn wsX5_search (wsX9_everyone) := ggX5_search_X9_everyone
set_option maxRecDepth 20000 in
theorem ggX5_search_X5_settle : GoodIn wsX5_search wsX5_settle := goodIn_r _ [18, 3, 4, 19, 12, 20, 21, 22, 23, 17, 24, 25, 26, 27, 8, 28, 29, 30, 31, 32, 33, 34, 35, 36, 37, 38, 39] (by decide +kernel) (by decide +kernel)
set_option maxRecDepth 20000 in
theorem gX5_search_X5_settle : GoodIn wsX5_search (wsV RX5 35 RX5 yX5_settle wsX5_settle) := goodIn_app (goodIn_of _ (by decide +kernel)) ggX5_search_X5_settle
theorem dX5_search_0 : decode cX5_search 0 = .ok (.aload_n 0, 1) := by decide +kernel
theorem dX5_search_1 : decode cX5_search 1 = .ok (.getfield 18, 3) := by decide +kernel
theorem dX5_search_4 : decode cX5_search 4 = .ok (.aload_n 1, 1) := by decide +kernel
theorem dX5_search_5 : decode cX5_search 5 = .ok (.invokevirtual 29, 3) := by decide +kernel
theorem dX5_search_8 : decode cX5_search 8 = .ok (.if_icmp .ne 12, 3) := by decide +kernel
theorem dX5_search_11 : decode cX5_search 11 = .ok (.aload_n 0, 1) := by decide +kernel
theorem dX5_search_12 : decode cX5_search 12 = .ok (.getfield 22, 3) := by decide +kernel
theorem dX5_search_15 : decode cX5_search 15 = .ok (.iload_n 2, 1) := by decide +kernel
theorem dX5_search_16 : decode cX5_search 16 = .ok (.if_icmp .ne 4, 3) := by decide +kernel
theorem dX5_search_19 : decode cX5_search 19 = .ok (.return_, 1) := by decide +kernel
theorem dX5_search_20 : decode cX5_search 20 = .ok (.aload_n 0, 1) := by decide +kernel
theorem dX5_search_21 : decode cX5_search 21 = .ok (.getfield 9, 3) := by decide +kernel
theorem dX5_search_24 : decode cX5_search 24 = .ok (.iconst 0, 1) := by decide +kernel
theorem dX5_search_25 : decode cX5_search 25 = .ok (.iconst 0, 1) := by decide +kernel
theorem dX5_search_26 : decode cX5_search 26 = .ok (.iastore, 1) := by decide +kernel
theorem dX5_search_27 : decode cX5_search 27 = .ok (.aload_n 0, 1) := by decide +kernel
theorem dX5_search_28 : decode cX5_search 28 = .ok (.getfield 15, 3) := by decide +kernel
theorem dX5_search_31 : decode cX5_search 31 = .ok (.iconst 0, 1) := by decide +kernel
theorem dX5_search_32 : decode cX5_search 32 = .ok (.iconst 1, 1) := by decide +kernel
theorem dX5_search_33 : decode cX5_search 33 = .ok (.iastore, 1) := by decide +kernel
theorem dX5_search_34 : decode cX5_search 34 = .ok (.iconst 1, 1) := by decide +kernel
theorem dX5_search_35 : decode cX5_search 35 = .ok (.istore_n 3, 1) := by decide +kernel
theorem dX5_search_36 : decode cX5_search 36 = .ok (.iload_n 3, 1) := by decide +kernel
theorem dX5_search_37 : decode cX5_search 37 = .ok (.iload_n 2, 1) := by decide +kernel
theorem dX5_search_38 : decode cX5_search 38 = .ok (.invokestatic 25, 3) := by decide +kernel
theorem dX5_search_41 : decode cX5_search 41 = .ok (.if_icmp .gt 16, 3) := by decide +kernel
theorem dX5_search_44 : decode cX5_search 44 = .ok (.aload_n 0, 1) := by decide +kernel
theorem dX5_search_45 : decode cX5_search 45 = .ok (.aload_n 1, 1) := by decide +kernel
theorem dX5_search_46 : decode cX5_search 46 = .ok (.iload_n 2, 1) := by decide +kernel
theorem dX5_search_47 : decode cX5_search 47 = .ok (.iload_n 3, 1) := by decide +kernel
theorem dX5_search_48 : decode cX5_search 48 = .ok (.invokevirtual 35, 3) := by decide +kernel
theorem dX5_search_51 : decode cX5_search 51 = .ok (.iinc 3 1, 3) := by decide +kernel
theorem dX5_search_54 : decode cX5_search 54 = .ok (.goto (-18), 3) := by decide +kernel
theorem dX5_search_57 : decode cX5_search 57 = .ok (.aload_n 0, 1) := by decide +kernel
theorem dX5_search_58 : decode cX5_search 58 = .ok (.aload_n 1, 1) := by decide +kernel
theorem dX5_search_59 : decode cX5_search 59 = .ok (.invokevirtual 29, 3) := by decide +kernel
theorem dX5_search_62 : decode cX5_search 62 = .ok (.putfield 18, 3) := by decide +kernel
theorem dX5_search_65 : decode cX5_search 65 = .ok (.aload_n 0, 1) := by decide +kernel
theorem dX5_search_66 : decode cX5_search 66 = .ok (.iload_n 2, 1) := by decide +kernel
theorem dX5_search_67 : decode cX5_search 67 = .ok (.putfield 22, 3) := by decide +kernel
theorem dX5_search_70 : decode cX5_search 70 = .ok (.return_, 1) := by decide +kernel
set_option maxRecDepth 20000 in
theorem ggX5_leastRow_X9_everyone : GoodIn wsX5_leastRow wsX9_everyone := goodIn_r _ [4] (by decide +kernel) (by decide +kernel)
set_option maxRecDepth 20000 in
theorem gX5_leastRow_X9_everyone_n25 : GoodIn wsX5_leastRow (wsX9_everyone) := ggX5_leastRow_X9_everyone
set_option maxRecDepth 20000 in
theorem ggX5_leastRow_X5_leastHead : GoodIn wsX5_leastRow wsX5_leastHead := goodIn_r _ [9, 10, 11, 12, 13, 8, 14, 15, 3, 16, 17, 18, 19, 20, 21, 22, 23, 24, 25, 26, 27, 28, 29, 30, 31, 32] (by decide +kernel) (by decide +kernel)
set_option maxRecDepth 20000 in
theorem gX5_leastRow_X5_leastHead : GoodIn wsX5_leastRow (wsV RX5 39 RX5 yX5_leastHead wsX5_leastHead) := goodIn_app (goodIn_of _ (by decide +kernel)) ggX5_leastRow_X5_leastHead
theorem dX5_leastRow_0 : decode cX5_leastRow 0 = .ok (.lconst 0, 1) := by decide +kernel
theorem dX5_leastRow_1 : decode cX5_leastRow 1 = .ok (.lstore_n 3, 1) := by decide +kernel
theorem dX5_leastRow_2 : decode cX5_leastRow 2 = .ok (.iload_n 2, 1) := by decide +kernel
theorem dX5_leastRow_3 : decode cX5_leastRow 3 = .ok (.invokestatic 25, 3) := by decide +kernel
theorem dX5_leastRow_6 : decode cX5_leastRow 6 = .ok (.istore 5, 2) := by decide +kernel
theorem dX5_leastRow_8 : decode cX5_leastRow 8 = .ok (.iconst 0, 1) := by decide +kernel
theorem dX5_leastRow_9 : decode cX5_leastRow 9 = .ok (.istore 6, 2) := by decide +kernel
theorem dX5_leastRow_11 : decode cX5_leastRow 11 = .ok (.iload 6, 2) := by decide +kernel
theorem dX5_leastRow_13 : decode cX5_leastRow 13 = .ok (.iload_n 2, 1) := by decide +kernel
theorem dX5_leastRow_14 : decode cX5_leastRow 14 = .ok (.if_icmp .ge 40, 3) := by decide +kernel
theorem dX5_leastRow_17 : decode cX5_leastRow 17 = .ok (.aload_n 0, 1) := by decide +kernel
theorem dX5_leastRow_18 : decode cX5_leastRow 18 = .ok (.aload_n 1, 1) := by decide +kernel
theorem dX5_leastRow_19 : decode cX5_leastRow 19 = .ok (.iload_n 2, 1) := by decide +kernel
theorem dX5_leastRow_20 : decode cX5_leastRow 20 = .ok (.iload 5, 2) := by decide +kernel
theorem dX5_leastRow_22 : decode cX5_leastRow 22 = .ok (.invokevirtual 39, 3) := by decide +kernel
theorem dX5_leastRow_25 : decode cX5_leastRow 25 = .ok (.istore 7, 2) := by decide +kernel
theorem dX5_leastRow_27 : decode cX5_leastRow 27 = .ok (.lload_n 3, 1) := by decide +kernel
theorem dX5_leastRow_28 : decode cX5_leastRow 28 = .ok (.ldc2_w 43, 3) := by decide +kernel
theorem dX5_leastRow_31 : decode cX5_leastRow 31 = .ok (.lmul, 1) := by decide +kernel
theorem dX5_leastRow_32 : decode cX5_leastRow 32 = .ok (.iload 7, 2) := by decide +kernel
theorem dX5_leastRow_34 : decode cX5_leastRow 34 = .ok (.i2l, 1) := by decide +kernel
theorem dX5_leastRow_35 : decode cX5_leastRow 35 = .ok (.ladd, 1) := by decide +kernel
theorem dX5_leastRow_36 : decode cX5_leastRow 36 = .ok (.lstore_n 3, 1) := by decide +kernel
theorem dX5_leastRow_37 : decode cX5_leastRow 37 = .ok (.iload 5, 2) := by decide +kernel
theorem dX5_leastRow_39 : decode cX5_leastRow 39 = .ok (.iconst 1, 1) := by decide +kernel
theorem dX5_leastRow_40 : decode cX5_leastRow 40 = .ok (.iload 7, 2) := by decide +kernel
theorem dX5_leastRow_42 : decode cX5_leastRow 42 = .ok (.ishl, 1) := by decide +kernel
theorem dX5_leastRow_43 : decode cX5_leastRow 43 = .ok (.iconst (-1), 1) := by decide +kernel
theorem dX5_leastRow_44 : decode cX5_leastRow 44 = .ok (.ixor, 1) := by decide +kernel
theorem dX5_leastRow_45 : decode cX5_leastRow 45 = .ok (.iand, 1) := by decide +kernel
theorem dX5_leastRow_46 : decode cX5_leastRow 46 = .ok (.istore 5, 2) := by decide +kernel
theorem dX5_leastRow_48 : decode cX5_leastRow 48 = .ok (.iinc 6 1, 3) := by decide +kernel
theorem dX5_leastRow_51 : decode cX5_leastRow 51 = .ok (.goto (-40), 3) := by decide +kernel
theorem dX5_leastRow_54 : decode cX5_leastRow 54 = .ok (.lload_n 3, 1) := by decide +kernel
theorem dX5_leastRow_55 : decode cX5_leastRow 55 = .ok (.lreturn, 1) := by decide +kernel
set_option maxRecDepth 20000 in
theorem ggX5_costOf_X9_isIn : GoodIn wsX5_costOf wsX9_isIn := goodIn_r _ [4] (by decide +kernel) (by decide +kernel)
set_option maxRecDepth 20000 in
theorem gX5_costOf_X9_isIn_n45 : GoodIn wsX5_costOf (wsX9_isIn) := ggX5_costOf_X9_isIn
set_option maxRecDepth 20000 in
theorem ggX5_costOf_X5_costAhead : GoodIn wsX5_costOf wsX5_costAhead := goodIn_r _ [9, 2, 3, 4, 10, 11, 12, 13, 14, 15, 16, 17, 18, 19, 20, 21] (by decide +kernel) (by decide +kernel)
set_option maxRecDepth 20000 in
theorem gX5_costOf_X5_costAhead : GoodIn wsX5_costOf (wsV RX5 49 RX5 yX5_costAhead wsX5_costAhead) := goodIn_app (goodIn_of _ (by decide +kernel)) ggX5_costOf_X5_costAhead
theorem dX5_costOf_0 : decode cX5_costOf 0 = .ok (.lload_n 3, 1) := by decide +kernel
theorem dX5_costOf_1 : decode cX5_costOf 1 = .ok (.lconst 0, 1) := by decide +kernel
theorem dX5_costOf_2 : decode cX5_costOf 2 = .ok (.lcmp, 1) := by decide +kernel
theorem dX5_costOf_3 : decode cX5_costOf 3 = .ok (.ifCond .ge 5, 3) := by decide +kernel
theorem dX5_costOf_6 : decode cX5_costOf 6 = .ok (.iconst (-1), 1) := by decide +kernel
theorem dX5_costOf_7 : decode cX5_costOf 7 = .ok (.ireturn, 1) := by decide +kernel
theorem dX5_costOf_8 : decode cX5_costOf 8 = .ok (.lload_n 3, 1) := by decide +kernel
theorem dX5_costOf_9 : decode cX5_costOf 9 = .ok (.lstore 5, 2) := by decide +kernel
theorem dX5_costOf_11 : decode cX5_costOf 11 = .ok (.iconst 0, 1) := by decide +kernel
theorem dX5_costOf_12 : decode cX5_costOf 12 = .ok (.istore 7, 2) := by decide +kernel
theorem dX5_costOf_14 : decode cX5_costOf 14 = .ok (.iconst 0, 1) := by decide +kernel
theorem dX5_costOf_15 : decode cX5_costOf 15 = .ok (.istore 8, 2) := by decide +kernel
theorem dX5_costOf_17 : decode cX5_costOf 17 = .ok (.iconst 0, 1) := by decide +kernel
theorem dX5_costOf_18 : decode cX5_costOf 18 = .ok (.istore 9, 2) := by decide +kernel
theorem dX5_costOf_20 : decode cX5_costOf 20 = .ok (.iload 9, 2) := by decide +kernel
theorem dX5_costOf_22 : decode cX5_costOf 22 = .ok (.iload_n 2, 1) := by decide +kernel
theorem dX5_costOf_23 : decode cX5_costOf 23 = .ok (.if_icmp .ge 68, 3) := by decide +kernel
theorem dX5_costOf_26 : decode cX5_costOf 26 = .ok (.lload 5, 2) := by decide +kernel
theorem dX5_costOf_28 : decode cX5_costOf 28 = .ok (.ldc2_w 43, 3) := by decide +kernel
theorem dX5_costOf_31 : decode cX5_costOf 31 = .ok (.lrem, 1) := by decide +kernel
theorem dX5_costOf_32 : decode cX5_costOf 32 = .ok (.l2i, 1) := by decide +kernel
theorem dX5_costOf_33 : decode cX5_costOf 33 = .ok (.istore 10, 2) := by decide +kernel
theorem dX5_costOf_35 : decode cX5_costOf 35 = .ok (.lload 5, 2) := by decide +kernel
theorem dX5_costOf_37 : decode cX5_costOf 37 = .ok (.ldc2_w 43, 3) := by decide +kernel
theorem dX5_costOf_40 : decode cX5_costOf 40 = .ok (.ldiv, 1) := by decide +kernel
theorem dX5_costOf_41 : decode cX5_costOf 41 = .ok (.lstore 5, 2) := by decide +kernel
theorem dX5_costOf_43 : decode cX5_costOf 43 = .ok (.iload 10, 2) := by decide +kernel
theorem dX5_costOf_45 : decode cX5_costOf 45 = .ok (.iload_n 2, 1) := by decide +kernel
theorem dX5_costOf_46 : decode cX5_costOf 46 = .ok (.if_icmp .ge 13, 3) := by decide +kernel
theorem dX5_costOf_49 : decode cX5_costOf 49 = .ok (.iload 7, 2) := by decide +kernel
theorem dX5_costOf_51 : decode cX5_costOf 51 = .ok (.iload 10, 2) := by decide +kernel
theorem dX5_costOf_53 : decode cX5_costOf 53 = .ok (.invokestatic 45, 3) := by decide +kernel
theorem dX5_costOf_56 : decode cX5_costOf 56 = .ok (.ifCond .eq 5, 3) := by decide +kernel
theorem dX5_costOf_59 : decode cX5_costOf 59 = .ok (.iconst (-1), 1) := by decide +kernel
theorem dX5_costOf_60 : decode cX5_costOf 60 = .ok (.ireturn, 1) := by decide +kernel
theorem dX5_costOf_61 : decode cX5_costOf 61 = .ok (.iload 8, 2) := by decide +kernel
theorem dX5_costOf_63 : decode cX5_costOf 63 = .ok (.aload_n 0, 1) := by decide +kernel
theorem dX5_costOf_64 : decode cX5_costOf 64 = .ok (.aload_n 1, 1) := by decide +kernel
theorem dX5_costOf_65 : decode cX5_costOf 65 = .ok (.iload_n 2, 1) := by decide +kernel
theorem dX5_costOf_66 : decode cX5_costOf 66 = .ok (.iload 10, 2) := by decide +kernel
theorem dX5_costOf_68 : decode cX5_costOf 68 = .ok (.iload 7, 2) := by decide +kernel
theorem dX5_costOf_70 : decode cX5_costOf 70 = .ok (.invokevirtual 49, 3) := by decide +kernel
theorem dX5_costOf_73 : decode cX5_costOf 73 = .ok (.iadd, 1) := by decide +kernel
theorem dX5_costOf_74 : decode cX5_costOf 74 = .ok (.istore 8, 2) := by decide +kernel
theorem dX5_costOf_76 : decode cX5_costOf 76 = .ok (.iload 7, 2) := by decide +kernel
theorem dX5_costOf_78 : decode cX5_costOf 78 = .ok (.iconst 1, 1) := by decide +kernel
theorem dX5_costOf_79 : decode cX5_costOf 79 = .ok (.iload 10, 2) := by decide +kernel
theorem dX5_costOf_81 : decode cX5_costOf 81 = .ok (.ishl, 1) := by decide +kernel
theorem dX5_costOf_82 : decode cX5_costOf 82 = .ok (.ior, 1) := by decide +kernel
theorem dX5_costOf_83 : decode cX5_costOf 83 = .ok (.istore 7, 2) := by decide +kernel
theorem dX5_costOf_85 : decode cX5_costOf 85 = .ok (.iinc 9 1, 3) := by decide +kernel
theorem dX5_costOf_88 : decode cX5_costOf 88 = .ok (.goto (-68), 3) := by decide +kernel
theorem dX5_costOf_91 : decode cX5_costOf 91 = .ok (.lload 5, 2) := by decide +kernel
theorem dX5_costOf_93 : decode cX5_costOf 93 = .ok (.lconst 0, 1) := by decide +kernel
theorem dX5_costOf_94 : decode cX5_costOf 94 = .ok (.lcmp, 1) := by decide +kernel
theorem dX5_costOf_95 : decode cX5_costOf 95 = .ok (.ifCond .ne 8, 3) := by decide +kernel
theorem dX5_costOf_98 : decode cX5_costOf 98 = .ok (.iload 8, 2) := by decide +kernel
theorem dX5_costOf_100 : decode cX5_costOf 100 = .ok (.goto 4, 3) := by decide +kernel
theorem dX5_costOf_103 : decode cX5_costOf 103 = .ok (.iconst (-1), 1) := by decide +kernel
theorem dX5_costOf_104 : decode cX5_costOf 104 = .ok (.ireturn, 1) := by decide +kernel
set_option maxRecDepth 20000 in
theorem ggX5_settle_X9_isIn : GoodIn wsX5_settle wsX9_isIn := goodIn_r _ [5] (by decide +kernel) (by decide +kernel)
set_option maxRecDepth 20000 in
theorem gX5_settle_X9_isIn_n45 : GoodIn wsX5_settle (wsX9_isIn) := ggX5_settle_X9_isIn
set_option maxRecDepth 20000 in
theorem ggX5_settle_X5_costAhead : GoodIn wsX5_settle wsX5_costAhead := goodIn_r _ [10, 3, 4, 5, 11, 12, 13, 14, 15, 16, 21, 22, 23, 24, 25, 26] (by decide +kernel) (by decide +kernel)
set_option maxRecDepth 20000 in
theorem gX5_settle_X5_costAhead : GoodIn wsX5_settle (wsV RX5 49 RX5 yX5_costAhead wsX5_costAhead) := goodIn_app (goodIn_of _ (by decide +kernel)) ggX5_settle_X5_costAhead
theorem dX5_settle_0 : decode cX5_settle 0 = .ok (.bipush 121, 2) := by decide +kernel
theorem dX5_settle_2 : decode cX5_settle 2 = .ok (.istore 4, 2) := by decide +kernel
theorem dX5_settle_4 : decode cX5_settle 4 = .ok (.iconst 0, 1) := by decide +kernel
theorem dX5_settle_5 : decode cX5_settle 5 = .ok (.istore 5, 2) := by decide +kernel
theorem dX5_settle_7 : decode cX5_settle 7 = .ok (.iconst 0, 1) := by decide +kernel
theorem dX5_settle_8 : decode cX5_settle 8 = .ok (.istore 6, 2) := by decide +kernel
theorem dX5_settle_10 : decode cX5_settle 10 = .ok (.iload 6, 2) := by decide +kernel
theorem dX5_settle_12 : decode cX5_settle 12 = .ok (.iload_n 2, 1) := by decide +kernel
theorem dX5_settle_13 : decode cX5_settle 13 = .ok (.if_icmp .ge 81, 3) := by decide +kernel
theorem dX5_settle_16 : decode cX5_settle 16 = .ok (.iload_n 3, 1) := by decide +kernel
theorem dX5_settle_17 : decode cX5_settle 17 = .ok (.iload 6, 2) := by decide +kernel
theorem dX5_settle_19 : decode cX5_settle 19 = .ok (.invokestatic 45, 3) := by decide +kernel
theorem dX5_settle_22 : decode cX5_settle 22 = .ok (.ifCond .eq 66, 3) := by decide +kernel
theorem dX5_settle_25 : decode cX5_settle 25 = .ok (.iload_n 3, 1) := by decide +kernel
theorem dX5_settle_26 : decode cX5_settle 26 = .ok (.iconst 1, 1) := by decide +kernel
theorem dX5_settle_27 : decode cX5_settle 27 = .ok (.iload 6, 2) := by decide +kernel
theorem dX5_settle_29 : decode cX5_settle 29 = .ok (.ishl, 1) := by decide +kernel
theorem dX5_settle_30 : decode cX5_settle 30 = .ok (.iconst (-1), 1) := by decide +kernel
theorem dX5_settle_31 : decode cX5_settle 31 = .ok (.ixor, 1) := by decide +kernel
theorem dX5_settle_32 : decode cX5_settle 32 = .ok (.iand, 1) := by decide +kernel
theorem dX5_settle_33 : decode cX5_settle 33 = .ok (.istore 7, 2) := by decide +kernel
theorem dX5_settle_35 : decode cX5_settle 35 = .ok (.aload_n 0, 1) := by decide +kernel
theorem dX5_settle_36 : decode cX5_settle 36 = .ok (.getfield 9, 3) := by decide +kernel
theorem dX5_settle_39 : decode cX5_settle 39 = .ok (.iload 7, 2) := by decide +kernel
theorem dX5_settle_41 : decode cX5_settle 41 = .ok (.iaload, 1) := by decide +kernel
theorem dX5_settle_42 : decode cX5_settle 42 = .ok (.aload_n 0, 1) := by decide +kernel
theorem dX5_settle_43 : decode cX5_settle 43 = .ok (.aload_n 1, 1) := by decide +kernel
theorem dX5_settle_44 : decode cX5_settle 44 = .ok (.iload_n 2, 1) := by decide +kernel
theorem dX5_settle_45 : decode cX5_settle 45 = .ok (.iload 6, 2) := by decide +kernel
theorem dX5_settle_47 : decode cX5_settle 47 = .ok (.iload 7, 2) := by decide +kernel
theorem dX5_settle_49 : decode cX5_settle 49 = .ok (.invokevirtual 49, 3) := by decide +kernel
theorem dX5_settle_52 : decode cX5_settle 52 = .ok (.iadd, 1) := by decide +kernel
theorem dX5_settle_53 : decode cX5_settle 53 = .ok (.istore 8, 2) := by decide +kernel
theorem dX5_settle_55 : decode cX5_settle 55 = .ok (.iload 8, 2) := by decide +kernel
theorem dX5_settle_57 : decode cX5_settle 57 = .ok (.iload 4, 2) := by decide +kernel
theorem dX5_settle_59 : decode cX5_settle 59 = .ok (.if_icmp .ge 10, 3) := by decide +kernel
theorem dX5_settle_62 : decode cX5_settle 62 = .ok (.iload 8, 2) := by decide +kernel
theorem dX5_settle_64 : decode cX5_settle 64 = .ok (.istore 4, 2) := by decide +kernel
theorem dX5_settle_66 : decode cX5_settle 66 = .ok (.iconst 0, 1) := by decide +kernel
theorem dX5_settle_67 : decode cX5_settle 67 = .ok (.istore 5, 2) := by decide +kernel
theorem dX5_settle_69 : decode cX5_settle 69 = .ok (.iload 8, 2) := by decide +kernel
theorem dX5_settle_71 : decode cX5_settle 71 = .ok (.iload 4, 2) := by decide +kernel
theorem dX5_settle_73 : decode cX5_settle 73 = .ok (.if_icmp .ne 15, 3) := by decide +kernel
theorem dX5_settle_76 : decode cX5_settle 76 = .ok (.iload 5, 2) := by decide +kernel
theorem dX5_settle_78 : decode cX5_settle 78 = .ok (.aload_n 0, 1) := by decide +kernel
theorem dX5_settle_79 : decode cX5_settle 79 = .ok (.getfield 15, 3) := by decide +kernel
theorem dX5_settle_82 : decode cX5_settle 82 = .ok (.iload 7, 2) := by decide +kernel
theorem dX5_settle_84 : decode cX5_settle 84 = .ok (.iaload, 1) := by decide +kernel
theorem dX5_settle_85 : decode cX5_settle 85 = .ok (.iadd, 1) := by decide +kernel
theorem dX5_settle_86 : decode cX5_settle 86 = .ok (.istore 5, 2) := by decide +kernel
theorem dX5_settle_88 : decode cX5_settle 88 = .ok (.iinc 6 1, 3) := by decide +kernel
theorem dX5_settle_91 : decode cX5_settle 91 = .ok (.goto (-81), 3) := by decide +kernel
theorem dX5_settle_94 : decode cX5_settle 94 = .ok (.aload_n 0, 1) := by decide +kernel
theorem dX5_settle_95 : decode cX5_settle 95 = .ok (.getfield 9, 3) := by decide +kernel
theorem dX5_settle_98 : decode cX5_settle 98 = .ok (.iload_n 3, 1) := by decide +kernel
theorem dX5_settle_99 : decode cX5_settle 99 = .ok (.iload 4, 2) := by decide +kernel
theorem dX5_settle_101 : decode cX5_settle 101 = .ok (.iastore, 1) := by decide +kernel
theorem dX5_settle_102 : decode cX5_settle 102 = .ok (.aload_n 0, 1) := by decide +kernel
theorem dX5_settle_103 : decode cX5_settle 103 = .ok (.getfield 15, 3) := by decide +kernel
theorem dX5_settle_106 : decode cX5_settle 106 = .ok (.iload_n 3, 1) := by decide +kernel
theorem dX5_settle_107 : decode cX5_settle 107 = .ok (.iload 5, 2) := by decide +kernel
theorem dX5_settle_109 : decode cX5_settle 109 = .ok (.iastore, 1) := by decide +kernel
theorem dX5_settle_110 : decode cX5_settle 110 = .ok (.return_, 1) := by decide +kernel
set_option maxRecDepth 20000 in
theorem ggX5_leastHead_X5_costAhead : GoodIn wsX5_leastHead wsX5_costAhead := goodIn_r _ [6, 7, 8, 9, 10, 11, 12, 13, 14, 15, 20, 21, 22, 23, 24, 25] (by decide +kernel) (by decide +kernel)
set_option maxRecDepth 20000 in
theorem gX5_leastHead_X5_costAhead : GoodIn wsX5_leastHead (wsV RX5 49 RX5 yX5_costAhead wsX5_costAhead) := goodIn_app (goodIn_of _ (by decide +kernel)) ggX5_leastHead_X5_costAhead
theorem dX5_leastHead_0 : decode cX5_leastHead 0 = .ok (.iconst 0, 1) := by decide +kernel
theorem dX5_leastHead_1 : decode cX5_leastHead 1 = .ok (.istore 4, 2) := by decide +kernel
theorem dX5_leastHead_3 : decode cX5_leastHead 3 = .ok (.iload 4, 2) := by decide +kernel
theorem dX5_leastHead_5 : decode cX5_leastHead 5 = .ok (.iload_n 2, 1) := by decide +kernel
theorem dX5_leastHead_6 : decode cX5_leastHead 6 = .ok (.if_icmp .ge 55, 3) := by decide +kernel
theorem dX5_leastHead_9 : decode cX5_leastHead 9 = .ok (.iload_n 3, 1) := by decide +kernel
theorem dX5_leastHead_10 : decode cX5_leastHead 10 = .ok (.iconst 1, 1) := by decide +kernel
theorem dX5_leastHead_11 : decode cX5_leastHead 11 = .ok (.iload 4, 2) := by decide +kernel
theorem dX5_leastHead_13 : decode cX5_leastHead 13 = .ok (.ishl, 1) := by decide +kernel
theorem dX5_leastHead_14 : decode cX5_leastHead 14 = .ok (.iconst (-1), 1) := by decide +kernel
theorem dX5_leastHead_15 : decode cX5_leastHead 15 = .ok (.ixor, 1) := by decide +kernel
theorem dX5_leastHead_16 : decode cX5_leastHead 16 = .ok (.iand, 1) := by decide +kernel
theorem dX5_leastHead_17 : decode cX5_leastHead 17 = .ok (.istore 5, 2) := by decide +kernel
theorem dX5_leastHead_19 : decode cX5_leastHead 19 = .ok (.iload 5, 2) := by decide +kernel
theorem dX5_leastHead_21 : decode cX5_leastHead 21 = .ok (.iload_n 3, 1) := by decide +kernel
theorem dX5_leastHead_22 : decode cX5_leastHead 22 = .ok (.if_icmp .eq 33, 3) := by decide +kernel
theorem dX5_leastHead_25 : decode cX5_leastHead 25 = .ok (.aload_n 0, 1) := by decide +kernel
theorem dX5_leastHead_26 : decode cX5_leastHead 26 = .ok (.getfield 9, 3) := by decide +kernel
theorem dX5_leastHead_29 : decode cX5_leastHead 29 = .ok (.iload 5, 2) := by decide +kernel
theorem dX5_leastHead_31 : decode cX5_leastHead 31 = .ok (.iaload, 1) := by decide +kernel
theorem dX5_leastHead_32 : decode cX5_leastHead 32 = .ok (.aload_n 0, 1) := by decide +kernel
theorem dX5_leastHead_33 : decode cX5_leastHead 33 = .ok (.aload_n 1, 1) := by decide +kernel
theorem dX5_leastHead_34 : decode cX5_leastHead 34 = .ok (.iload_n 2, 1) := by decide +kernel
theorem dX5_leastHead_35 : decode cX5_leastHead 35 = .ok (.iload 4, 2) := by decide +kernel
theorem dX5_leastHead_37 : decode cX5_leastHead 37 = .ok (.iload 5, 2) := by decide +kernel
theorem dX5_leastHead_39 : decode cX5_leastHead 39 = .ok (.invokevirtual 49, 3) := by decide +kernel
theorem dX5_leastHead_42 : decode cX5_leastHead 42 = .ok (.iadd, 1) := by decide +kernel
theorem dX5_leastHead_43 : decode cX5_leastHead 43 = .ok (.aload_n 0, 1) := by decide +kernel
theorem dX5_leastHead_44 : decode cX5_leastHead 44 = .ok (.getfield 9, 3) := by decide +kernel
theorem dX5_leastHead_47 : decode cX5_leastHead 47 = .ok (.iload_n 3, 1) := by decide +kernel
theorem dX5_leastHead_48 : decode cX5_leastHead 48 = .ok (.iaload, 1) := by decide +kernel
theorem dX5_leastHead_49 : decode cX5_leastHead 49 = .ok (.if_icmp .ne 6, 3) := by decide +kernel
theorem dX5_leastHead_52 : decode cX5_leastHead 52 = .ok (.iload 4, 2) := by decide +kernel
theorem dX5_leastHead_54 : decode cX5_leastHead 54 = .ok (.ireturn, 1) := by decide +kernel
theorem dX5_leastHead_55 : decode cX5_leastHead 55 = .ok (.iinc 4 1, 3) := by decide +kernel
theorem dX5_leastHead_58 : decode cX5_leastHead 58 = .ok (.goto (-55), 3) := by decide +kernel
theorem dX5_leastHead_61 : decode cX5_leastHead 61 = .ok (.iconst 0, 1) := by decide +kernel
theorem dX5_leastHead_62 : decode cX5_leastHead 62 = .ok (.ireturn, 1) := by decide +kernel
set_option maxRecDepth 20000 in
theorem ggX5_costAhead_X9_isIn : GoodIn wsX5_costAhead wsX9_isIn := goodIn_r _ [3] (by decide +kernel) (by decide +kernel)
set_option maxRecDepth 20000 in
theorem gX5_costAhead_X9_isIn_n45 : GoodIn wsX5_costAhead (wsX9_isIn) := ggX5_costAhead_X9_isIn
set_option maxRecDepth 20000 in
theorem ggX5_costAhead_X4_wins : GoodIn wsX5_costAhead wsX4_wins := goodIn_r _ [8, 9, 10, 11, 12, 13, 14, 15] (by decide +kernel) (by decide +kernel)
set_option maxRecDepth 20000 in
theorem gX5_costAhead_X4_wins : GoodIn wsX5_costAhead (wsV RX5 53 RX4 yX4_wins wsX4_wins) := goodIn_app (goodIn_of _ (by decide +kernel)) ggX5_costAhead_X4_wins
theorem dX5_costAhead_0 : decode cX5_costAhead 0 = .ok (.iconst 0, 1) := by decide +kernel
theorem dX5_costAhead_1 : decode cX5_costAhead 1 = .ok (.istore 5, 2) := by decide +kernel
theorem dX5_costAhead_3 : decode cX5_costAhead 3 = .ok (.iconst 0, 1) := by decide +kernel
theorem dX5_costAhead_4 : decode cX5_costAhead 4 = .ok (.istore 6, 2) := by decide +kernel
theorem dX5_costAhead_6 : decode cX5_costAhead 6 = .ok (.iload 6, 2) := by decide +kernel
theorem dX5_costAhead_8 : decode cX5_costAhead 8 = .ok (.iload_n 2, 1) := by decide +kernel
theorem dX5_costAhead_9 : decode cX5_costAhead 9 = .ok (.if_icmp .ge 31, 3) := by decide +kernel
theorem dX5_costAhead_12 : decode cX5_costAhead 12 = .ok (.iload 4, 2) := by decide +kernel
theorem dX5_costAhead_14 : decode cX5_costAhead 14 = .ok (.iload 6, 2) := by decide +kernel
theorem dX5_costAhead_16 : decode cX5_costAhead 16 = .ok (.invokestatic 45, 3) := by decide +kernel
theorem dX5_costAhead_19 : decode cX5_costAhead 19 = .ok (.ifCond .eq 15, 3) := by decide +kernel
theorem dX5_costAhead_22 : decode cX5_costAhead 22 = .ok (.iload 5, 2) := by decide +kernel
theorem dX5_costAhead_24 : decode cX5_costAhead 24 = .ok (.aload_n 1, 1) := by decide +kernel
theorem dX5_costAhead_25 : decode cX5_costAhead 25 = .ok (.iload 6, 2) := by decide +kernel
theorem dX5_costAhead_27 : decode cX5_costAhead 27 = .ok (.iload_n 3, 1) := by decide +kernel
theorem dX5_costAhead_28 : decode cX5_costAhead 28 = .ok (.invokevirtual 53, 3) := by decide +kernel
theorem dX5_costAhead_31 : decode cX5_costAhead 31 = .ok (.iadd, 1) := by decide +kernel
theorem dX5_costAhead_32 : decode cX5_costAhead 32 = .ok (.istore 5, 2) := by decide +kernel
theorem dX5_costAhead_34 : decode cX5_costAhead 34 = .ok (.iinc 6 1, 3) := by decide +kernel
theorem dX5_costAhead_37 : decode cX5_costAhead 37 = .ok (.goto (-31), 3) := by decide +kernel
theorem dX5_costAhead_40 : decode cX5_costAhead 40 = .ok (.iload 5, 2) := by decide +kernel
theorem dX5_costAhead_42 : decode cX5_costAhead 42 = .ok (.ireturn, 1) := by decide +kernel
theorem dX6_init_0 : decode cX6_init 0 = .ok (.aload_n 0, 1) := by decide +kernel
theorem dX6_init_1 : decode cX6_init 1 = .ok (.invokespecial 3, 3) := by decide +kernel
theorem dX6_init_4 : decode cX6_init 4 = .ok (.aload_n 0, 1) := by decide +kernel
theorem dX6_init_5 : decode cX6_init 5 = .ok (.iconst 4, 1) := by decide +kernel
theorem dX6_init_6 : decode cX6_init 6 = .ok (.newarray .int, 2) := by decide +kernel
theorem dX6_init_8 : decode cX6_init 8 = .ok (.putfield 9, 3) := by decide +kernel
theorem dX6_init_11 : decode cX6_init 11 = .ok (.aload_n 0, 1) := by decide +kernel
theorem dX6_init_12 : decode cX6_init 12 = .ok (.bipush 50, 2) := by decide +kernel
theorem dX6_init_14 : decode cX6_init 14 = .ok (.newarray .int, 2) := by decide +kernel
theorem dX6_init_16 : decode cX6_init 16 = .ok (.putfield 15, 3) := by decide +kernel
theorem dX6_init_19 : decode cX6_init 19 = .ok (.aload_n 0, 1) := by decide +kernel
theorem dX6_init_20 : decode cX6_init 20 = .ok (.bipush 10, 2) := by decide +kernel
theorem dX6_init_22 : decode cX6_init 22 = .ok (.newarray .int, 2) := by decide +kernel
theorem dX6_init_24 : decode cX6_init 24 = .ok (.putfield 18, 3) := by decide +kernel
theorem dX6_init_27 : decode cX6_init 27 = .ok (.aload_n 0, 1) := by decide +kernel
theorem dX6_init_28 : decode cX6_init 28 = .ok (.iconst 0, 1) := by decide +kernel
theorem dX6_init_29 : decode cX6_init 29 = .ok (.putfield 21, 3) := by decide +kernel
theorem dX6_init_32 : decode cX6_init 32 = .ok (.aload_n 0, 1) := by decide +kernel
theorem dX6_init_33 : decode cX6_init 33 = .ok (.iconst 2, 1) := by decide +kernel
theorem dX6_init_34 : decode cX6_init 34 = .ok (.putfield 25, 3) := by decide +kernel
theorem dX6_init_37 : decode cX6_init 37 = .ok (.aload_n 0, 1) := by decide +kernel
theorem dX6_init_38 : decode cX6_init 38 = .ok (.iconst 1, 1) := by decide +kernel
theorem dX6_init_39 : decode cX6_init 39 = .ok (.putfield 28, 3) := by decide +kernel
theorem dX6_init_42 : decode cX6_init 42 = .ok (.aload_n 0, 1) := by decide +kernel
theorem dX6_init_43 : decode cX6_init 43 = .ok (.iconst 0, 1) := by decide +kernel
theorem dX6_init_44 : decode cX6_init 44 = .ok (.putfield 31, 3) := by decide +kernel
theorem dX6_init_47 : decode cX6_init 47 = .ok (.return_, 1) := by decide +kernel
theorem dX6_worthWon_0 : decode cX6_worthWon 0 = .ok (.aload_n 0, 1) := by decide +kernel
theorem dX6_worthWon_1 : decode cX6_worthWon 1 = .ok (.getfield 25, 3) := by decide +kernel
theorem dX6_worthWon_4 : decode cX6_worthWon 4 = .ok (.ireturn, 1) := by decide +kernel
theorem dX6_worthDrawn_0 : decode cX6_worthDrawn 0 = .ok (.aload_n 0, 1) := by decide +kernel
theorem dX6_worthDrawn_1 : decode cX6_worthDrawn 1 = .ok (.getfield 28, 3) := by decide +kernel
theorem dX6_worthDrawn_4 : decode cX6_worthDrawn 4 = .ok (.ireturn, 1) := by decide +kernel
theorem dX6_worthLost_0 : decode cX6_worthLost 0 = .ok (.aload_n 0, 1) := by decide +kernel
theorem dX6_worthLost_1 : decode cX6_worthLost 1 = .ok (.getfield 31, 3) := by decide +kernel
theorem dX6_worthLost_4 : decode cX6_worthLost 4 = .ok (.ireturn, 1) := by decide +kernel
theorem dX6_setWorth_0 : decode cX6_setWorth 0 = .ok (.aload_n 0, 1) := by decide +kernel
theorem dX6_setWorth_1 : decode cX6_setWorth 1 = .ok (.iload_n 1, 1) := by decide +kernel
theorem dX6_setWorth_2 : decode cX6_setWorth 2 = .ok (.putfield 25, 3) := by decide +kernel
theorem dX6_setWorth_5 : decode cX6_setWorth 5 = .ok (.aload_n 0, 1) := by decide +kernel
theorem dX6_setWorth_6 : decode cX6_setWorth 6 = .ok (.iload_n 2, 1) := by decide +kernel
theorem dX6_setWorth_7 : decode cX6_setWorth 7 = .ok (.putfield 28, 3) := by decide +kernel
theorem dX6_setWorth_10 : decode cX6_setWorth 10 = .ok (.aload_n 0, 1) := by decide +kernel
theorem dX6_setWorth_11 : decode cX6_setWorth 11 = .ok (.iload_n 3, 1) := by decide +kernel
theorem dX6_setWorth_12 : decode cX6_setWorth 12 = .ok (.putfield 31, 3) := by decide +kernel
theorem dX6_setWorth_15 : decode cX6_setWorth 15 = .ok (.return_, 1) := by decide +kernel
theorem dX6_kindCount_0 : decode cX6_kindCount 0 = .ok (.aload_n 0, 1) := by decide +kernel
theorem dX6_kindCount_1 : decode cX6_kindCount 1 = .ok (.getfield 21, 3) := by decide +kernel
theorem dX6_kindCount_4 : decode cX6_kindCount 4 = .ok (.ireturn, 1) := by decide +kernel
theorem dX6_kindAt_0 : decode cX6_kindAt 0 = .ok (.iload_n 1, 1) := by decide +kernel
theorem dX6_kindAt_1 : decode cX6_kindAt 1 = .ok (.ifCond .lt 20, 3) := by decide +kernel
theorem dX6_kindAt_4 : decode cX6_kindAt 4 = .ok (.iload_n 1, 1) := by decide +kernel
theorem dX6_kindAt_5 : decode cX6_kindAt 5 = .ok (.aload_n 0, 1) := by decide +kernel
theorem dX6_kindAt_6 : decode cX6_kindAt 6 = .ok (.getfield 21, 3) := by decide +kernel
theorem dX6_kindAt_9 : decode cX6_kindAt 9 = .ok (.if_icmp .ge 12, 3) := by decide +kernel
theorem dX6_kindAt_12 : decode cX6_kindAt 12 = .ok (.aload_n 0, 1) := by decide +kernel
theorem dX6_kindAt_13 : decode cX6_kindAt 13 = .ok (.getfield 9, 3) := by decide +kernel
theorem dX6_kindAt_16 : decode cX6_kindAt 16 = .ok (.iload_n 1, 1) := by decide +kernel
theorem dX6_kindAt_17 : decode cX6_kindAt 17 = .ok (.iaload, 1) := by decide +kernel
theorem dX6_kindAt_18 : decode cX6_kindAt 18 = .ok (.goto 4, 3) := by decide +kernel
theorem dX6_kindAt_21 : decode cX6_kindAt 21 = .ok (.iconst (-1), 1) := by decide +kernel
theorem dX6_kindAt_22 : decode cX6_kindAt 22 = .ok (.ireturn, 1) := by decide +kernel
theorem dX6_addKind_0 : decode cX6_addKind 0 = .ok (.aload_n 0, 1) := by decide +kernel
theorem dX6_addKind_1 : decode cX6_addKind 1 = .ok (.getfield 21, 3) := by decide +kernel
theorem dX6_addKind_4 : decode cX6_addKind 4 = .ok (.iconst 4, 1) := by decide +kernel
theorem dX6_addKind_5 : decode cX6_addKind 5 = .ok (.if_icmp .ge 23, 3) := by decide +kernel
theorem dX6_addKind_8 : decode cX6_addKind 8 = .ok (.aload_n 0, 1) := by decide +kernel
theorem dX6_addKind_9 : decode cX6_addKind 9 = .ok (.getfield 9, 3) := by decide +kernel
theorem dX6_addKind_12 : decode cX6_addKind 12 = .ok (.aload_n 0, 1) := by decide +kernel
theorem dX6_addKind_13 : decode cX6_addKind 13 = .ok (.getfield 21, 3) := by decide +kernel
theorem dX6_addKind_16 : decode cX6_addKind 16 = .ok (.iload_n 1, 1) := by decide +kernel
theorem dX6_addKind_17 : decode cX6_addKind 17 = .ok (.iastore, 1) := by decide +kernel
theorem dX6_addKind_18 : decode cX6_addKind 18 = .ok (.aload_n 0, 1) := by decide +kernel
theorem dX6_addKind_19 : decode cX6_addKind 19 = .ok (.dup, 1) := by decide +kernel
theorem dX6_addKind_20 : decode cX6_addKind 20 = .ok (.getfield 21, 3) := by decide +kernel
theorem dX6_addKind_23 : decode cX6_addKind 23 = .ok (.iconst 1, 1) := by decide +kernel
theorem dX6_addKind_24 : decode cX6_addKind 24 = .ok (.iadd, 1) := by decide +kernel
theorem dX6_addKind_25 : decode cX6_addKind 25 = .ok (.putfield 21, 3) := by decide +kernel
theorem dX6_addKind_28 : decode cX6_addKind 28 = .ok (.return_, 1) := by decide +kernel
theorem dX6_keepKinds_0 : decode cX6_keepKinds 0 = .ok (.aload_n 0, 1) := by decide +kernel
theorem dX6_keepKinds_1 : decode cX6_keepKinds 1 = .ok (.iconst 0, 1) := by decide +kernel
theorem dX6_keepKinds_2 : decode cX6_keepKinds 2 = .ok (.iload_n 1, 1) := by decide +kernel
theorem dX6_keepKinds_3 : decode cX6_keepKinds 3 = .ok (.aload_n 0, 1) := by decide +kernel
theorem dX6_keepKinds_4 : decode cX6_keepKinds 4 = .ok (.getfield 21, 3) := by decide +kernel
theorem dX6_keepKinds_7 : decode cX6_keepKinds 7 = .ok (.invokestatic 34, 3) := by decide +kernel
theorem dX6_keepKinds_10 : decode cX6_keepKinds 10 = .ok (.invokestatic 40, 3) := by decide +kernel
theorem dX6_keepKinds_13 : decode cX6_keepKinds 13 = .ok (.putfield 21, 3) := by decide +kernel
theorem dX6_keepKinds_16 : decode cX6_keepKinds 16 = .ok (.return_, 1) := by decide +kernel
theorem dX6_keyOf_0 : decode cX6_keyOf 0 = .ok (.aload_n 0, 1) := by decide +kernel
theorem dX6_keyOf_1 : decode cX6_keyOf 1 = .ok (.getfield 15, 3) := by decide +kernel
theorem dX6_keyOf_4 : decode cX6_keyOf 4 = .ok (.iload_n 1, 1) := by decide +kernel
theorem dX6_keyOf_5 : decode cX6_keyOf 5 = .ok (.bipush 10, 2) := by decide +kernel
theorem dX6_keyOf_7 : decode cX6_keyOf 7 = .ok (.imul, 1) := by decide +kernel
theorem dX6_keyOf_8 : decode cX6_keyOf 8 = .ok (.iload_n 2, 1) := by decide +kernel
theorem dX6_keyOf_9 : decode cX6_keyOf 9 = .ok (.iadd, 1) := by decide +kernel
theorem dX6_keyOf_10 : decode cX6_keyOf 10 = .ok (.iaload, 1) := by decide +kernel
theorem dX6_keyOf_11 : decode cX6_keyOf 11 = .ok (.ireturn, 1) := by decide +kernel
theorem dX6_playerAt_0 : decode cX6_playerAt 0 = .ok (.aload_n 0, 1) := by decide +kernel
theorem dX6_playerAt_1 : decode cX6_playerAt 1 = .ok (.getfield 18, 3) := by decide +kernel
theorem dX6_playerAt_4 : decode cX6_playerAt 4 = .ok (.iload_n 1, 1) := by decide +kernel
theorem dX6_playerAt_5 : decode cX6_playerAt 5 = .ok (.iaload, 1) := by decide +kernel
theorem dX6_playerAt_6 : decode cX6_playerAt 6 = .ok (.ireturn, 1) := by decide +kernel
set_option maxRecDepth 20000 in
theorem ggX6_isTiedWithNext_X6_compareKeys : GoodIn wsX6_isTiedWithNext wsX6_compareKeys := goodIn_r _ [7, 8, 9, 10, 6, 11, 12, 13, 14, 15, 16, 17, 18, 19, 20, 21, 22, 23] (by decide +kernel) (by decide +kernel)
set_option maxRecDepth 20000 in
theorem gX6_isTiedWithNext_X6_compareKeys : GoodIn wsX6_isTiedWithNext (wsV RX6 43 RX6 yX6_compareKeys wsX6_compareKeys) := goodIn_app (goodIn_of _ (by decide +kernel)) ggX6_isTiedWithNext_X6_compareKeys
theorem dX6_isTiedWithNext_0 : decode cX6_isTiedWithNext 0 = .ok (.aload_n 0, 1) := by decide +kernel
theorem dX6_isTiedWithNext_1 : decode cX6_isTiedWithNext 1 = .ok (.aload_n 0, 1) := by decide +kernel
theorem dX6_isTiedWithNext_2 : decode cX6_isTiedWithNext 2 = .ok (.getfield 18, 3) := by decide +kernel
theorem dX6_isTiedWithNext_5 : decode cX6_isTiedWithNext 5 = .ok (.iload_n 1, 1) := by decide +kernel
theorem dX6_isTiedWithNext_6 : decode cX6_isTiedWithNext 6 = .ok (.iaload, 1) := by decide +kernel
theorem dX6_isTiedWithNext_7 : decode cX6_isTiedWithNext 7 = .ok (.aload_n 0, 1) := by decide +kernel
theorem dX6_isTiedWithNext_8 : decode cX6_isTiedWithNext 8 = .ok (.getfield 18, 3) := by decide +kernel
theorem dX6_isTiedWithNext_11 : decode cX6_isTiedWithNext 11 = .ok (.iload_n 1, 1) := by decide +kernel
theorem dX6_isTiedWithNext_12 : decode cX6_isTiedWithNext 12 = .ok (.iconst 1, 1) := by decide +kernel
theorem dX6_isTiedWithNext_13 : decode cX6_isTiedWithNext 13 = .ok (.iadd, 1) := by decide +kernel
theorem dX6_isTiedWithNext_14 : decode cX6_isTiedWithNext 14 = .ok (.iaload, 1) := by decide +kernel
theorem dX6_isTiedWithNext_15 : decode cX6_isTiedWithNext 15 = .ok (.iconst 1, 1) := by decide +kernel
theorem dX6_isTiedWithNext_16 : decode cX6_isTiedWithNext 16 = .ok (.aload_n 0, 1) := by decide +kernel
theorem dX6_isTiedWithNext_17 : decode cX6_isTiedWithNext 17 = .ok (.getfield 21, 3) := by decide +kernel
theorem dX6_isTiedWithNext_20 : decode cX6_isTiedWithNext 20 = .ok (.iadd, 1) := by decide +kernel
theorem dX6_isTiedWithNext_21 : decode cX6_isTiedWithNext 21 = .ok (.invokevirtual 43, 3) := by decide +kernel
theorem dX6_isTiedWithNext_24 : decode cX6_isTiedWithNext 24 = .ok (.ifCond .ne 7, 3) := by decide +kernel
theorem dX6_isTiedWithNext_27 : decode cX6_isTiedWithNext 27 = .ok (.iconst 1, 1) := by decide +kernel
theorem dX6_isTiedWithNext_28 : decode cX6_isTiedWithNext 28 = .ok (.goto 4, 3) := by decide +kernel
theorem dX6_isTiedWithNext_31 : decode cX6_isTiedWithNext 31 = .ok (.iconst 0, 1) := by decide +kernel
theorem dX6_isTiedWithNext_32 : decode cX6_isTiedWithNext 32 = .ok (.ireturn, 1) := by decide +kernel
set_option maxRecDepth 20000 in
theorem ggX6_arrange_X6_fillScores : GoodIn wsX6_arrange wsX6_fillScores := goodIn_r _ [7, 8, 9, 10, 11, 6, 12, 13, 14, 15, 16, 17, 18, 19, 20, 21, 22, 23, 24, 25, 26, 63, 64, 65, 66, 67, 68, 69, 70, 71, 72, 73, 74, 75] (by decide +kernel) (by decide +kernel)
set_option maxRecDepth 20000 in
theorem gX6_arrange_X6_fillScores : GoodIn wsX6_arrange (wsV RX6 47 RX6 yX6_fillScores wsX6_fillScores) := goodIn_app (goodIn_of _ (by decide +kernel)) ggX6_arrange_X6_fillScores
set_option maxRecDepth 20000 in
theorem ggX6_arrange_X6_fillKey : GoodIn wsX6_arrange wsX6_fillKey := goodIn_r _ [30, 8, 31, 32, 33, 6, 34, 16, 17, 18, 19, 20, 21, 35, 36, 37, 38, 39, 40, 41, 42, 43, 44, 45, 23, 24, 25, 26, 22, 46, 47, 48, 49, 50, 51, 52, 53, 54, 55, 56, 57, 9, 10, 11, 12, 13, 14, 15, 63, 64, 65, 66, 67, 68, 69, 70, 71, 72, 73, 74, 75] (by decide +kernel) (by decide +kernel)
set_option maxRecDepth 20000 in
theorem gX6_arrange_X6_fillKey : GoodIn wsX6_arrange (wsV RX6 51 RX6 yX6_fillKey wsX6_fillKey) := goodIn_app (goodIn_of _ (by decide +kernel)) ggX6_arrange_X6_fillKey
set_option maxRecDepth 20000 in
theorem ggX6_arrange_X6_putInPlace : GoodIn wsX6_arrange wsX6_putInPlace := goodIn_r _ [61, 62, 1, 46, 47, 48, 6, 49, 50, 51, 52, 53, 8, 54, 55, 56, 57, 63, 64, 65, 66, 67, 68, 69] (by decide +kernel) (by decide +kernel)
set_option maxRecDepth 20000 in
theorem gX6_arrange_X6_putInPlace : GoodIn wsX6_arrange (wsV RX6 55 RX6 yX6_putInPlace wsX6_putInPlace) := goodIn_app (goodIn_of _ (by decide +kernel)) ggX6_arrange_X6_putInPlace
theorem dX6_arrange_0 : decode cX6_arrange 0 = .ok (.aload_n 0, 1) := by decide +kernel
theorem dX6_arrange_1 : decode cX6_arrange 1 = .ok (.aload_n 1, 1) := by decide +kernel
theorem dX6_arrange_2 : decode cX6_arrange 2 = .ok (.iload_n 2, 1) := by decide +kernel
theorem dX6_arrange_3 : decode cX6_arrange 3 = .ok (.invokevirtual 47, 3) := by decide +kernel
theorem dX6_arrange_6 : decode cX6_arrange 6 = .ok (.iconst 0, 1) := by decide +kernel
theorem dX6_arrange_7 : decode cX6_arrange 7 = .ok (.istore_n 3, 1) := by decide +kernel
theorem dX6_arrange_8 : decode cX6_arrange 8 = .ok (.iload_n 3, 1) := by decide +kernel
theorem dX6_arrange_9 : decode cX6_arrange 9 = .ok (.aload_n 0, 1) := by decide +kernel
theorem dX6_arrange_10 : decode cX6_arrange 10 = .ok (.getfield 21, 3) := by decide +kernel
theorem dX6_arrange_13 : decode cX6_arrange 13 = .ok (.if_icmp .ge 24, 3) := by decide +kernel
theorem dX6_arrange_16 : decode cX6_arrange 16 = .ok (.aload_n 0, 1) := by decide +kernel
theorem dX6_arrange_17 : decode cX6_arrange 17 = .ok (.aload_n 1, 1) := by decide +kernel
theorem dX6_arrange_18 : decode cX6_arrange 18 = .ok (.iload_n 2, 1) := by decide +kernel
theorem dX6_arrange_19 : decode cX6_arrange 19 = .ok (.aload_n 0, 1) := by decide +kernel
theorem dX6_arrange_20 : decode cX6_arrange 20 = .ok (.getfield 9, 3) := by decide +kernel
theorem dX6_arrange_23 : decode cX6_arrange 23 = .ok (.iload_n 3, 1) := by decide +kernel
theorem dX6_arrange_24 : decode cX6_arrange 24 = .ok (.iaload, 1) := by decide +kernel
theorem dX6_arrange_25 : decode cX6_arrange 25 = .ok (.iload_n 3, 1) := by decide +kernel
theorem dX6_arrange_26 : decode cX6_arrange 26 = .ok (.iconst 1, 1) := by decide +kernel
theorem dX6_arrange_27 : decode cX6_arrange 27 = .ok (.iadd, 1) := by decide +kernel
theorem dX6_arrange_28 : decode cX6_arrange 28 = .ok (.invokevirtual 51, 3) := by decide +kernel
theorem dX6_arrange_31 : decode cX6_arrange 31 = .ok (.iinc 3 1, 3) := by decide +kernel
theorem dX6_arrange_34 : decode cX6_arrange 34 = .ok (.goto (-26), 3) := by decide +kernel
theorem dX6_arrange_37 : decode cX6_arrange 37 = .ok (.iconst 0, 1) := by decide +kernel
theorem dX6_arrange_38 : decode cX6_arrange 38 = .ok (.istore_n 3, 1) := by decide +kernel
theorem dX6_arrange_39 : decode cX6_arrange 39 = .ok (.iload_n 3, 1) := by decide +kernel
theorem dX6_arrange_40 : decode cX6_arrange 40 = .ok (.iload_n 2, 1) := by decide +kernel
theorem dX6_arrange_41 : decode cX6_arrange 41 = .ok (.if_icmp .ge 14, 3) := by decide +kernel
theorem dX6_arrange_44 : decode cX6_arrange 44 = .ok (.aload_n 0, 1) := by decide +kernel
theorem dX6_arrange_45 : decode cX6_arrange 45 = .ok (.iload_n 3, 1) := by decide +kernel
theorem dX6_arrange_46 : decode cX6_arrange 46 = .ok (.invokevirtual 55, 3) := by decide +kernel
theorem dX6_arrange_49 : decode cX6_arrange 49 = .ok (.iinc 3 1, 3) := by decide +kernel
theorem dX6_arrange_52 : decode cX6_arrange 52 = .ok (.goto (-13), 3) := by decide +kernel
theorem dX6_arrange_55 : decode cX6_arrange 55 = .ok (.return_, 1) := by decide +kernel
set_option maxRecDepth 20000 in
theorem ggX6_fillScores_X6_worth : GoodIn wsX6_fillScores wsX6_worth := goodIn_r _ [6, 7, 8, 9, 10, 11, 12, 13, 14, 15, 16, 17, 18, 19, 20, 21, 22, 23, 24, 25, 26, 27, 28, 29, 30, 31, 32, 33] (by decide +kernel) (by decide +kernel)
set_option maxRecDepth 20000 in
theorem gX6_fillScores_X6_worth : GoodIn wsX6_fillScores (wsV RX6 59 RX6 yX6_worth wsX6_worth) := goodIn_app (goodIn_of _ (by decide +kernel)) ggX6_fillScores_X6_worth
theorem dX6_fillScores_0 : decode cX6_fillScores 0 = .ok (.iconst 0, 1) := by decide +kernel
theorem dX6_fillScores_1 : decode cX6_fillScores 1 = .ok (.istore_n 3, 1) := by decide +kernel
theorem dX6_fillScores_2 : decode cX6_fillScores 2 = .ok (.iload_n 3, 1) := by decide +kernel
theorem dX6_fillScores_3 : decode cX6_fillScores 3 = .ok (.iload_n 2, 1) := by decide +kernel
theorem dX6_fillScores_4 : decode cX6_fillScores 4 = .ok (.if_icmp .ge 48, 3) := by decide +kernel
theorem dX6_fillScores_7 : decode cX6_fillScores 7 = .ok (.iconst 0, 1) := by decide +kernel
theorem dX6_fillScores_8 : decode cX6_fillScores 8 = .ok (.istore 4, 2) := by decide +kernel
theorem dX6_fillScores_10 : decode cX6_fillScores 10 = .ok (.iconst 0, 1) := by decide +kernel
theorem dX6_fillScores_11 : decode cX6_fillScores 11 = .ok (.istore 5, 2) := by decide +kernel
theorem dX6_fillScores_13 : decode cX6_fillScores 13 = .ok (.iload 5, 2) := by decide +kernel
theorem dX6_fillScores_15 : decode cX6_fillScores 15 = .ok (.iload_n 2, 1) := by decide +kernel
theorem dX6_fillScores_16 : decode cX6_fillScores 16 = .ok (.if_icmp .ge 22, 3) := by decide +kernel
theorem dX6_fillScores_19 : decode cX6_fillScores 19 = .ok (.iload 4, 2) := by decide +kernel
theorem dX6_fillScores_21 : decode cX6_fillScores 21 = .ok (.aload_n 0, 1) := by decide +kernel
theorem dX6_fillScores_22 : decode cX6_fillScores 22 = .ok (.aload_n 1, 1) := by decide +kernel
theorem dX6_fillScores_23 : decode cX6_fillScores 23 = .ok (.iload_n 3, 1) := by decide +kernel
theorem dX6_fillScores_24 : decode cX6_fillScores 24 = .ok (.iload 5, 2) := by decide +kernel
theorem dX6_fillScores_26 : decode cX6_fillScores 26 = .ok (.invokevirtual 59, 3) := by decide +kernel
theorem dX6_fillScores_29 : decode cX6_fillScores 29 = .ok (.iadd, 1) := by decide +kernel
theorem dX6_fillScores_30 : decode cX6_fillScores 30 = .ok (.istore 4, 2) := by decide +kernel
theorem dX6_fillScores_32 : decode cX6_fillScores 32 = .ok (.iinc 5 1, 3) := by decide +kernel
theorem dX6_fillScores_35 : decode cX6_fillScores 35 = .ok (.goto (-22), 3) := by decide +kernel
theorem dX6_fillScores_38 : decode cX6_fillScores 38 = .ok (.aload_n 0, 1) := by decide +kernel
theorem dX6_fillScores_39 : decode cX6_fillScores 39 = .ok (.getfield 15, 3) := by decide +kernel
theorem dX6_fillScores_42 : decode cX6_fillScores 42 = .ok (.iload_n 3, 1) := by decide +kernel
theorem dX6_fillScores_43 : decode cX6_fillScores 43 = .ok (.iload 4, 2) := by decide +kernel
theorem dX6_fillScores_45 : decode cX6_fillScores 45 = .ok (.iastore, 1) := by decide +kernel
theorem dX6_fillScores_46 : decode cX6_fillScores 46 = .ok (.iinc 3 1, 3) := by decide +kernel
theorem dX6_fillScores_49 : decode cX6_fillScores 49 = .ok (.goto (-47), 3) := by decide +kernel
theorem dX6_fillScores_52 : decode cX6_fillScores 52 = .ok (.return_, 1) := by decide +kernel
set_option maxRecDepth 20000 in
theorem ggX6_fillKey_X6_share : GoodIn wsX6_fillKey wsX6_share := goodIn_r _ [6, 1, 7, 8, 9, 10, 11, 12, 13, 14, 15, 16, 17, 18, 19, 20, 21, 22, 23, 24, 25, 26, 27, 28, 29, 30, 31, 5, 32, 33, 34, 35, 36, 37, 38, 39, 40, 41, 42, 43, 44, 45, 46, 47, 48, 49, 50, 51, 52, 53, 54, 55, 56, 57, 58, 59, 60] (by decide +kernel) (by decide +kernel)
set_option maxRecDepth 20000 in
theorem gX6_fillKey_X6_share : GoodIn wsX6_fillKey (wsV RX6 63 RX6 yX6_share wsX6_share) := goodIn_app (goodIn_of _ (by decide +kernel)) ggX6_fillKey_X6_share
theorem dX6_fillKey_0 : decode cX6_fillKey 0 = .ok (.iconst 0, 1) := by decide +kernel
theorem dX6_fillKey_1 : decode cX6_fillKey 1 = .ok (.istore 5, 2) := by decide +kernel
theorem dX6_fillKey_3 : decode cX6_fillKey 3 = .ok (.iload 5, 2) := by decide +kernel
theorem dX6_fillKey_5 : decode cX6_fillKey 5 = .ok (.iload_n 2, 1) := by decide +kernel
theorem dX6_fillKey_6 : decode cX6_fillKey 6 = .ok (.if_icmp .ge 59, 3) := by decide +kernel
theorem dX6_fillKey_9 : decode cX6_fillKey 9 = .ok (.iconst 0, 1) := by decide +kernel
theorem dX6_fillKey_10 : decode cX6_fillKey 10 = .ok (.istore 6, 2) := by decide +kernel
theorem dX6_fillKey_12 : decode cX6_fillKey 12 = .ok (.iconst 0, 1) := by decide +kernel
theorem dX6_fillKey_13 : decode cX6_fillKey 13 = .ok (.istore 7, 2) := by decide +kernel
theorem dX6_fillKey_15 : decode cX6_fillKey 15 = .ok (.iload 7, 2) := by decide +kernel
theorem dX6_fillKey_17 : decode cX6_fillKey 17 = .ok (.iload_n 2, 1) := by decide +kernel
theorem dX6_fillKey_18 : decode cX6_fillKey 18 = .ok (.if_icmp .ge 26, 3) := by decide +kernel
theorem dX6_fillKey_21 : decode cX6_fillKey 21 = .ok (.iload 6, 2) := by decide +kernel
theorem dX6_fillKey_23 : decode cX6_fillKey 23 = .ok (.aload_n 0, 1) := by decide +kernel
theorem dX6_fillKey_24 : decode cX6_fillKey 24 = .ok (.aload_n 1, 1) := by decide +kernel
theorem dX6_fillKey_25 : decode cX6_fillKey 25 = .ok (.iload_n 3, 1) := by decide +kernel
theorem dX6_fillKey_26 : decode cX6_fillKey 26 = .ok (.iload 5, 2) := by decide +kernel
theorem dX6_fillKey_28 : decode cX6_fillKey 28 = .ok (.iload 7, 2) := by decide +kernel
theorem dX6_fillKey_30 : decode cX6_fillKey 30 = .ok (.iload 4, 2) := by decide +kernel
theorem dX6_fillKey_32 : decode cX6_fillKey 32 = .ok (.invokevirtual 63, 3) := by decide +kernel
theorem dX6_fillKey_35 : decode cX6_fillKey 35 = .ok (.iadd, 1) := by decide +kernel
theorem dX6_fillKey_36 : decode cX6_fillKey 36 = .ok (.istore 6, 2) := by decide +kernel
theorem dX6_fillKey_38 : decode cX6_fillKey 38 = .ok (.iinc 7 1, 3) := by decide +kernel
theorem dX6_fillKey_41 : decode cX6_fillKey 41 = .ok (.goto (-26), 3) := by decide +kernel
theorem dX6_fillKey_44 : decode cX6_fillKey 44 = .ok (.aload_n 0, 1) := by decide +kernel
theorem dX6_fillKey_45 : decode cX6_fillKey 45 = .ok (.getfield 15, 3) := by decide +kernel
theorem dX6_fillKey_48 : decode cX6_fillKey 48 = .ok (.iload 4, 2) := by decide +kernel
theorem dX6_fillKey_50 : decode cX6_fillKey 50 = .ok (.bipush 10, 2) := by decide +kernel
theorem dX6_fillKey_52 : decode cX6_fillKey 52 = .ok (.imul, 1) := by decide +kernel
theorem dX6_fillKey_53 : decode cX6_fillKey 53 = .ok (.iload 5, 2) := by decide +kernel
theorem dX6_fillKey_55 : decode cX6_fillKey 55 = .ok (.iadd, 1) := by decide +kernel
theorem dX6_fillKey_56 : decode cX6_fillKey 56 = .ok (.iload 6, 2) := by decide +kernel
theorem dX6_fillKey_58 : decode cX6_fillKey 58 = .ok (.iastore, 1) := by decide +kernel
theorem dX6_fillKey_59 : decode cX6_fillKey 59 = .ok (.iinc 5 1, 3) := by decide +kernel
theorem dX6_fillKey_62 : decode cX6_fillKey 62 = .ok (.goto (-59), 3) := by decide +kernel
theorem dX6_fillKey_65 : decode cX6_fillKey 65 = .ok (.return_, 1) := by decide +kernel
set_option maxRecDepth 20000 in
theorem ggX6_worth_X4_wins : GoodIn wsX6_worth wsX4_wins := goodIn_r _ [8, 9, 22, 23, 24, 25, 26, 27] (by decide +kernel) (by decide +kernel)
set_option maxRecDepth 20000 in
theorem gX6_worth_X4_wins : GoodIn wsX6_worth (wsV RX6 67 RX4 yX4_wins wsX4_wins) := goodIn_app (goodIn_of _ (by decide +kernel)) ggX6_worth_X4_wins
set_option maxRecDepth 20000 in
theorem ggX6_worth_X4_draws : GoodIn wsX6_worth wsX4_draws := goodIn_r _ [13, 14, 22, 23, 24, 25, 26, 27] (by decide +kernel) (by decide +kernel)
set_option maxRecDepth 20000 in
theorem gX6_worth_X4_draws : GoodIn wsX6_worth (wsV RX6 72 RX4 yX4_draws wsX4_draws) := goodIn_app (goodIn_of _ (by decide +kernel)) ggX6_worth_X4_draws
theorem dX6_worth_0 : decode cX6_worth 0 = .ok (.aload_n 0, 1) := by decide +kernel
theorem dX6_worth_1 : decode cX6_worth 1 = .ok (.getfield 25, 3) := by decide +kernel
theorem dX6_worth_4 : decode cX6_worth 4 = .ok (.aload_n 1, 1) := by decide +kernel
theorem dX6_worth_5 : decode cX6_worth 5 = .ok (.iload_n 2, 1) := by decide +kernel
theorem dX6_worth_6 : decode cX6_worth 6 = .ok (.iload_n 3, 1) := by decide +kernel
theorem dX6_worth_7 : decode cX6_worth 7 = .ok (.invokevirtual 67, 3) := by decide +kernel
theorem dX6_worth_10 : decode cX6_worth 10 = .ok (.imul, 1) := by decide +kernel
theorem dX6_worth_11 : decode cX6_worth 11 = .ok (.aload_n 0, 1) := by decide +kernel
theorem dX6_worth_12 : decode cX6_worth 12 = .ok (.getfield 28, 3) := by decide +kernel
theorem dX6_worth_15 : decode cX6_worth 15 = .ok (.aload_n 1, 1) := by decide +kernel
theorem dX6_worth_16 : decode cX6_worth 16 = .ok (.iload_n 2, 1) := by decide +kernel
theorem dX6_worth_17 : decode cX6_worth 17 = .ok (.iload_n 3, 1) := by decide +kernel
theorem dX6_worth_18 : decode cX6_worth 18 = .ok (.invokevirtual 72, 3) := by decide +kernel
theorem dX6_worth_21 : decode cX6_worth 21 = .ok (.imul, 1) := by decide +kernel
theorem dX6_worth_22 : decode cX6_worth 22 = .ok (.iadd, 1) := by decide +kernel
theorem dX6_worth_23 : decode cX6_worth 23 = .ok (.aload_n 0, 1) := by decide +kernel
theorem dX6_worth_24 : decode cX6_worth 24 = .ok (.getfield 31, 3) := by decide +kernel
theorem dX6_worth_27 : decode cX6_worth 27 = .ok (.aload_n 1, 1) := by decide +kernel
theorem dX6_worth_28 : decode cX6_worth 28 = .ok (.iload_n 3, 1) := by decide +kernel
theorem dX6_worth_29 : decode cX6_worth 29 = .ok (.iload_n 2, 1) := by decide +kernel
theorem dX6_worth_30 : decode cX6_worth 30 = .ok (.invokevirtual 67, 3) := by decide +kernel
theorem dX6_worth_33 : decode cX6_worth 33 = .ok (.imul, 1) := by decide +kernel
theorem dX6_worth_34 : decode cX6_worth 34 = .ok (.iadd, 1) := by decide +kernel
theorem dX6_worth_35 : decode cX6_worth 35 = .ok (.ireturn, 1) := by decide +kernel
set_option maxRecDepth 20000 in
theorem ggX6_share_X4_wins : GoodIn wsX6_share wsX4_wins := goodIn_r _ [6, 7, 51, 52, 53, 54, 55, 56] (by decide +kernel) (by decide +kernel)
set_option maxRecDepth 20000 in
theorem gX6_share_X4_wins : GoodIn wsX6_share (wsV RX6 67 RX4 yX4_wins wsX4_wins) := goodIn_app (goodIn_of _ (by decide +kernel)) ggX6_share_X4_wins
set_option maxRecDepth 20000 in
theorem ggX6_share_X4_points : GoodIn wsX6_share wsX4_points := goodIn_r _ [11, 12, 51, 52, 53, 54, 55, 56] (by decide +kernel) (by decide +kernel)
set_option maxRecDepth 20000 in
theorem gX6_share_X4_points : GoodIn wsX6_share (wsV RX6 75 RX4 yX4_points wsX4_points) := goodIn_app (goodIn_of _ (by decide +kernel)) ggX6_share_X4_points
set_option maxRecDepth 20000 in
theorem ggX6_share_X4_times : GoodIn wsX6_share wsX4_times := goodIn_r _ [16, 17, 3, 4, 5, 6, 7, 18, 19, 20, 21, 22, 51, 52, 53, 54, 55, 56] (by decide +kernel) (by decide +kernel)
set_option maxRecDepth 20000 in
theorem gX6_share_X4_times : GoodIn wsX6_share (wsV RX6 78 RX4 yX4_times wsX4_times) := goodIn_app (goodIn_of _ (by decide +kernel)) ggX6_share_X4_times
set_option maxRecDepth 20000 in
theorem ggX6_share_X4_draws : GoodIn wsX6_share wsX4_draws := goodIn_r _ [21, 22, 51, 52, 53, 54, 55, 56] (by decide +kernel) (by decide +kernel)
set_option maxRecDepth 20000 in
theorem gX6_share_X4_draws : GoodIn wsX6_share (wsV RX6 72 RX4 yX4_draws wsX4_draws) := goodIn_app (goodIn_of _ (by decide +kernel)) ggX6_share_X4_draws
set_option maxRecDepth 20000 in
theorem ggX6_share_X6_compareKeys : GoodIn wsX6_share wsX6_compareKeys := goodIn_r _ [28, 29, 30, 31, 27, 32, 1, 33, 34, 35, 36, 44, 45, 46, 47, 48, 49, 50] (by decide +kernel) (by decide +kernel)
set_option maxRecDepth 20000 in
theorem gX6_share_X6_compareKeys : GoodIn wsX6_share (wsV RX6 43 RX6 yX6_compareKeys wsX6_compareKeys) := goodIn_app (goodIn_of _ (by decide +kernel)) ggX6_share_X6_compareKeys
set_option maxRecDepth 20000 in
theorem ggX6_share_X6_worth : GoodIn wsX6_share wsX6_worth := goodIn_r _ [40, 41, 42, 43, 2, 3, 4, 5, 6, 7, 23, 19, 20, 21, 22, 44, 45, 46, 47, 48, 49, 50, 51, 52, 53, 54, 55, 56] (by decide +kernel) (by decide +kernel)
set_option maxRecDepth 20000 in
theorem gX6_share_X6_worth : GoodIn wsX6_share (wsV RX6 59 RX6 yX6_worth wsX6_worth) := goodIn_app (goodIn_of _ (by decide +kernel)) ggX6_share_X6_worth
theorem dX6_share_0 : decode cX6_share 0 = .ok (.iload_n 2, 1) := by decide +kernel
theorem dX6_share_1 : decode cX6_share 1 = .ok (.tableswitch 138 0 5 #[39, 47, 63, 71, 87, 113], 39) := by decide +kernel
theorem dX6_share_40 : decode cX6_share 40 = .ok (.aload_n 1, 1) := by decide +kernel
theorem dX6_share_41 : decode cX6_share 41 = .ok (.iload_n 3, 1) := by decide +kernel
theorem dX6_share_42 : decode cX6_share 42 = .ok (.iload 4, 2) := by decide +kernel
theorem dX6_share_44 : decode cX6_share 44 = .ok (.invokevirtual 67, 3) := by decide +kernel
theorem dX6_share_47 : decode cX6_share 47 = .ok (.ireturn, 1) := by decide +kernel
theorem dX6_share_48 : decode cX6_share 48 = .ok (.aload_n 1, 1) := by decide +kernel
theorem dX6_share_49 : decode cX6_share 49 = .ok (.iload_n 3, 1) := by decide +kernel
theorem dX6_share_50 : decode cX6_share 50 = .ok (.iload 4, 2) := by decide +kernel
theorem dX6_share_52 : decode cX6_share 52 = .ok (.invokevirtual 75, 3) := by decide +kernel
theorem dX6_share_55 : decode cX6_share 55 = .ok (.aload_n 1, 1) := by decide +kernel
theorem dX6_share_56 : decode cX6_share 56 = .ok (.iload 4, 2) := by decide +kernel
theorem dX6_share_58 : decode cX6_share 58 = .ok (.iload_n 3, 1) := by decide +kernel
theorem dX6_share_59 : decode cX6_share 59 = .ok (.invokevirtual 75, 3) := by decide +kernel
theorem dX6_share_62 : decode cX6_share 62 = .ok (.isub, 1) := by decide +kernel
theorem dX6_share_63 : decode cX6_share 63 = .ok (.ireturn, 1) := by decide +kernel
theorem dX6_share_64 : decode cX6_share 64 = .ok (.aload_n 1, 1) := by decide +kernel
theorem dX6_share_65 : decode cX6_share 65 = .ok (.iload_n 3, 1) := by decide +kernel
theorem dX6_share_66 : decode cX6_share 66 = .ok (.iload 4, 2) := by decide +kernel
theorem dX6_share_68 : decode cX6_share 68 = .ok (.invokevirtual 75, 3) := by decide +kernel
theorem dX6_share_71 : decode cX6_share 71 = .ok (.ireturn, 1) := by decide +kernel
theorem dX6_share_72 : decode cX6_share 72 = .ok (.aload_n 1, 1) := by decide +kernel
theorem dX6_share_73 : decode cX6_share 73 = .ok (.iload_n 3, 1) := by decide +kernel
theorem dX6_share_74 : decode cX6_share 74 = .ok (.iload 4, 2) := by decide +kernel
theorem dX6_share_76 : decode cX6_share 76 = .ok (.invokevirtual 78, 3) := by decide +kernel
theorem dX6_share_79 : decode cX6_share 79 = .ok (.aload_n 0, 1) := by decide +kernel
theorem dX6_share_80 : decode cX6_share 80 = .ok (.getfield 15, 3) := by decide +kernel
theorem dX6_share_83 : decode cX6_share 83 = .ok (.iload 4, 2) := by decide +kernel
theorem dX6_share_85 : decode cX6_share 85 = .ok (.iaload, 1) := by decide +kernel
theorem dX6_share_86 : decode cX6_share 86 = .ok (.imul, 1) := by decide +kernel
theorem dX6_share_87 : decode cX6_share 87 = .ok (.ireturn, 1) := by decide +kernel
theorem dX6_share_88 : decode cX6_share 88 = .ok (.iconst 2, 1) := by decide +kernel
theorem dX6_share_89 : decode cX6_share 89 = .ok (.aload_n 1, 1) := by decide +kernel
theorem dX6_share_90 : decode cX6_share 90 = .ok (.iload_n 3, 1) := by decide +kernel
theorem dX6_share_91 : decode cX6_share 91 = .ok (.iload 4, 2) := by decide +kernel
theorem dX6_share_93 : decode cX6_share 93 = .ok (.invokevirtual 67, 3) := by decide +kernel
theorem dX6_share_96 : decode cX6_share 96 = .ok (.imul, 1) := by decide +kernel
theorem dX6_share_97 : decode cX6_share 97 = .ok (.aload_n 1, 1) := by decide +kernel
theorem dX6_share_98 : decode cX6_share 98 = .ok (.iload_n 3, 1) := by decide +kernel
theorem dX6_share_99 : decode cX6_share 99 = .ok (.iload 4, 2) := by decide +kernel
theorem dX6_share_101 : decode cX6_share 101 = .ok (.invokevirtual 72, 3) := by decide +kernel
theorem dX6_share_104 : decode cX6_share 104 = .ok (.iadd, 1) := by decide +kernel
theorem dX6_share_105 : decode cX6_share 105 = .ok (.aload_n 0, 1) := by decide +kernel
theorem dX6_share_106 : decode cX6_share 106 = .ok (.getfield 15, 3) := by decide +kernel
theorem dX6_share_109 : decode cX6_share 109 = .ok (.iload 4, 2) := by decide +kernel
theorem dX6_share_111 : decode cX6_share 111 = .ok (.iaload, 1) := by decide +kernel
theorem dX6_share_112 : decode cX6_share 112 = .ok (.imul, 1) := by decide +kernel
theorem dX6_share_113 : decode cX6_share 113 = .ok (.ireturn, 1) := by decide +kernel
theorem dX6_share_114 : decode cX6_share 114 = .ok (.aload_n 0, 1) := by decide +kernel
theorem dX6_share_115 : decode cX6_share 115 = .ok (.iload_n 3, 1) := by decide +kernel
theorem dX6_share_116 : decode cX6_share 116 = .ok (.iload 4, 2) := by decide +kernel
theorem dX6_share_118 : decode cX6_share 118 = .ok (.iload 5, 2) := by decide +kernel
theorem dX6_share_120 : decode cX6_share 120 = .ok (.invokevirtual 43, 3) := by decide +kernel
theorem dX6_share_123 : decode cX6_share 123 = .ok (.ifCond .ne 14, 3) := by decide +kernel
theorem dX6_share_126 : decode cX6_share 126 = .ok (.aload_n 0, 1) := by decide +kernel
theorem dX6_share_127 : decode cX6_share 127 = .ok (.aload_n 1, 1) := by decide +kernel
theorem dX6_share_128 : decode cX6_share 128 = .ok (.iload_n 3, 1) := by decide +kernel
theorem dX6_share_129 : decode cX6_share 129 = .ok (.iload 4, 2) := by decide +kernel
theorem dX6_share_131 : decode cX6_share 131 = .ok (.invokevirtual 59, 3) := by decide +kernel
theorem dX6_share_134 : decode cX6_share 134 = .ok (.goto 4, 3) := by decide +kernel
theorem dX6_share_137 : decode cX6_share 137 = .ok (.iconst 0, 1) := by decide +kernel
theorem dX6_share_138 : decode cX6_share 138 = .ok (.ireturn, 1) := by decide +kernel
theorem dX6_share_139 : decode cX6_share 139 = .ok (.iconst 0, 1) := by decide +kernel
theorem dX6_share_140 : decode cX6_share 140 = .ok (.ireturn, 1) := by decide +kernel
set_option maxRecDepth 20000 in
theorem ggX6_compareKeys_X6_keyOf : GoodIn wsX6_compareKeys wsX6_keyOf := goodIn_r _ [5, 6, 11, 12, 13, 14, 15, 16, 17] (by decide +kernel) (by decide +kernel)
set_option maxRecDepth 20000 in
theorem gX6_compareKeys_X6_keyOf : GoodIn wsX6_compareKeys (wsV RX6 81 RX6 yX6_keyOf wsX6_keyOf) := goodIn_app (goodIn_of _ (by decide +kernel)) ggX6_compareKeys_X6_keyOf
set_option maxRecDepth 20000 in
theorem ggX6_compareKeys_J6_compare_7cf53 : GoodIn wsX6_compareKeys wsJ6_compare_7cf53 := goodIn_r _ [10] (by decide +kernel) (by decide +kernel)
set_option maxRecDepth 20000 in
theorem gX6_compareKeys_J6_compare_7cf53 : GoodIn wsX6_compareKeys (va_wsS RX6 84 yJ6_compare_7cf53 wsJ6_compare_7cf53) := goodIn_app (goodIn_of _ (by decide +kernel)) ggX6_compareKeys_J6_compare_7cf53
theorem dX6_compareKeys_0 : decode cX6_compareKeys 0 = .ok (.iconst 0, 1) := by decide +kernel
theorem dX6_compareKeys_1 : decode cX6_compareKeys 1 = .ok (.istore 4, 2) := by decide +kernel
theorem dX6_compareKeys_3 : decode cX6_compareKeys 3 = .ok (.iload 4, 2) := by decide +kernel
theorem dX6_compareKeys_5 : decode cX6_compareKeys 5 = .ok (.iload_n 3, 1) := by decide +kernel
theorem dX6_compareKeys_6 : decode cX6_compareKeys 6 = .ok (.if_icmp .ge 36, 3) := by decide +kernel
theorem dX6_compareKeys_9 : decode cX6_compareKeys 9 = .ok (.aload_n 0, 1) := by decide +kernel
theorem dX6_compareKeys_10 : decode cX6_compareKeys 10 = .ok (.iload 4, 2) := by decide +kernel
theorem dX6_compareKeys_12 : decode cX6_compareKeys 12 = .ok (.iload_n 1, 1) := by decide +kernel
theorem dX6_compareKeys_13 : decode cX6_compareKeys 13 = .ok (.invokevirtual 81, 3) := by decide +kernel
theorem dX6_compareKeys_16 : decode cX6_compareKeys 16 = .ok (.aload_n 0, 1) := by decide +kernel
theorem dX6_compareKeys_17 : decode cX6_compareKeys 17 = .ok (.iload 4, 2) := by decide +kernel
theorem dX6_compareKeys_19 : decode cX6_compareKeys 19 = .ok (.iload_n 2, 1) := by decide +kernel
theorem dX6_compareKeys_20 : decode cX6_compareKeys 20 = .ok (.invokevirtual 81, 3) := by decide +kernel
theorem dX6_compareKeys_23 : decode cX6_compareKeys 23 = .ok (.invokestatic 84, 3) := by decide +kernel
theorem dX6_compareKeys_26 : decode cX6_compareKeys 26 = .ok (.istore 5, 2) := by decide +kernel
theorem dX6_compareKeys_28 : decode cX6_compareKeys 28 = .ok (.iload 5, 2) := by decide +kernel
theorem dX6_compareKeys_30 : decode cX6_compareKeys 30 = .ok (.ifCond .eq 6, 3) := by decide +kernel
theorem dX6_compareKeys_33 : decode cX6_compareKeys 33 = .ok (.iload 5, 2) := by decide +kernel
theorem dX6_compareKeys_35 : decode cX6_compareKeys 35 = .ok (.ireturn, 1) := by decide +kernel
theorem dX6_compareKeys_36 : decode cX6_compareKeys 36 = .ok (.iinc 4 1, 3) := by decide +kernel
theorem dX6_compareKeys_39 : decode cX6_compareKeys 39 = .ok (.goto (-36), 3) := by decide +kernel
theorem dX6_compareKeys_42 : decode cX6_compareKeys 42 = .ok (.iconst 0, 1) := by decide +kernel
theorem dX6_compareKeys_43 : decode cX6_compareKeys 43 = .ok (.ireturn, 1) := by decide +kernel
set_option maxRecDepth 20000 in
theorem ggX6_putInPlace_X6_compareKeys : GoodIn wsX6_putInPlace wsX6_compareKeys := goodIn_r _ [7, 8, 9, 10, 6, 11, 12, 13, 14, 15, 16, 17, 18, 19, 20, 21, 22, 23] (by decide +kernel) (by decide +kernel)
set_option maxRecDepth 20000 in
theorem gX6_putInPlace_X6_compareKeys : GoodIn wsX6_putInPlace (wsV RX6 43 RX6 yX6_compareKeys wsX6_compareKeys) := goodIn_app (goodIn_of _ (by decide +kernel)) ggX6_putInPlace_X6_compareKeys
theorem dX6_putInPlace_0 : decode cX6_putInPlace 0 = .ok (.iload_n 1, 1) := by decide +kernel
theorem dX6_putInPlace_1 : decode cX6_putInPlace 1 = .ok (.istore_n 2, 1) := by decide +kernel
theorem dX6_putInPlace_2 : decode cX6_putInPlace 2 = .ok (.iload_n 2, 1) := by decide +kernel
theorem dX6_putInPlace_3 : decode cX6_putInPlace 3 = .ok (.ifCond .le 45, 3) := by decide +kernel
theorem dX6_putInPlace_6 : decode cX6_putInPlace 6 = .ok (.aload_n 0, 1) := by decide +kernel
theorem dX6_putInPlace_7 : decode cX6_putInPlace 7 = .ok (.iload_n 1, 1) := by decide +kernel
theorem dX6_putInPlace_8 : decode cX6_putInPlace 8 = .ok (.aload_n 0, 1) := by decide +kernel
theorem dX6_putInPlace_9 : decode cX6_putInPlace 9 = .ok (.getfield 18, 3) := by decide +kernel
theorem dX6_putInPlace_12 : decode cX6_putInPlace 12 = .ok (.iload_n 2, 1) := by decide +kernel
theorem dX6_putInPlace_13 : decode cX6_putInPlace 13 = .ok (.iconst 1, 1) := by decide +kernel
theorem dX6_putInPlace_14 : decode cX6_putInPlace 14 = .ok (.isub, 1) := by decide +kernel
theorem dX6_putInPlace_15 : decode cX6_putInPlace 15 = .ok (.iaload, 1) := by decide +kernel
theorem dX6_putInPlace_16 : decode cX6_putInPlace 16 = .ok (.iconst 1, 1) := by decide +kernel
theorem dX6_putInPlace_17 : decode cX6_putInPlace 17 = .ok (.aload_n 0, 1) := by decide +kernel
theorem dX6_putInPlace_18 : decode cX6_putInPlace 18 = .ok (.getfield 21, 3) := by decide +kernel
theorem dX6_putInPlace_21 : decode cX6_putInPlace 21 = .ok (.iadd, 1) := by decide +kernel
theorem dX6_putInPlace_22 : decode cX6_putInPlace 22 = .ok (.invokevirtual 43, 3) := by decide +kernel
theorem dX6_putInPlace_25 : decode cX6_putInPlace 25 = .ok (.ifCond .le 23, 3) := by decide +kernel
theorem dX6_putInPlace_28 : decode cX6_putInPlace 28 = .ok (.aload_n 0, 1) := by decide +kernel
theorem dX6_putInPlace_29 : decode cX6_putInPlace 29 = .ok (.getfield 18, 3) := by decide +kernel
theorem dX6_putInPlace_32 : decode cX6_putInPlace 32 = .ok (.iload_n 2, 1) := by decide +kernel
theorem dX6_putInPlace_33 : decode cX6_putInPlace 33 = .ok (.aload_n 0, 1) := by decide +kernel
theorem dX6_putInPlace_34 : decode cX6_putInPlace 34 = .ok (.getfield 18, 3) := by decide +kernel
theorem dX6_putInPlace_37 : decode cX6_putInPlace 37 = .ok (.iload_n 2, 1) := by decide +kernel
theorem dX6_putInPlace_38 : decode cX6_putInPlace 38 = .ok (.iconst 1, 1) := by decide +kernel
theorem dX6_putInPlace_39 : decode cX6_putInPlace 39 = .ok (.isub, 1) := by decide +kernel
theorem dX6_putInPlace_40 : decode cX6_putInPlace 40 = .ok (.iaload, 1) := by decide +kernel
theorem dX6_putInPlace_41 : decode cX6_putInPlace 41 = .ok (.iastore, 1) := by decide +kernel
theorem dX6_putInPlace_42 : decode cX6_putInPlace 42 = .ok (.iinc 2 (-1), 3) := by decide +kernel
theorem dX6_putInPlace_45 : decode cX6_putInPlace 45 = .ok (.goto (-43), 3) := by decide +kernel
theorem dX6_putInPlace_48 : decode cX6_putInPlace 48 = .ok (.aload_n 0, 1) := by decide +kernel
theorem dX6_putInPlace_49 : decode cX6_putInPlace 49 = .ok (.getfield 18, 3) := by decide +kernel
theorem dX6_putInPlace_52 : decode cX6_putInPlace 52 = .ok (.iload_n 2, 1) := by decide +kernel
theorem dX6_putInPlace_53 : decode cX6_putInPlace 53 = .ok (.iload_n 1, 1) := by decide +kernel
theorem dX6_putInPlace_54 : decode cX6_putInPlace 54 = .ok (.iastore, 1) := by decide +kernel
theorem dX6_putInPlace_55 : decode cX6_putInPlace 55 = .ok (.return_, 1) := by decide +kernel
theorem dX7_init_0 : decode cX7_init 0 = .ok (.aload_n 0, 1) := by decide +kernel
theorem dX7_init_1 : decode cX7_init 1 = .ok (.invokespecial 3, 3) := by decide +kernel
theorem dX7_init_4 : decode cX7_init 4 = .ok (.aload_n 0, 1) := by decide +kernel
theorem dX7_init_5 : decode cX7_init 5 = .ok (.sipush 480, 3) := by decide +kernel
theorem dX7_init_8 : decode cX7_init 8 = .ok (.newarray .byte, 2) := by decide +kernel
theorem dX7_init_10 : decode cX7_init 10 = .ok (.putfield 9, 3) := by decide +kernel
theorem dX7_init_13 : decode cX7_init 13 = .ok (.aload_n 0, 1) := by decide +kernel
theorem dX7_init_14 : decode cX7_init 14 = .ok (.iconst 0, 1) := by decide +kernel
theorem dX7_init_15 : decode cX7_init 15 = .ok (.putfield 15, 3) := by decide +kernel
theorem dX7_init_18 : decode cX7_init 18 = .ok (.return_, 1) := by decide +kernel
theorem dX7_size_0 : decode cX7_size 0 = .ok (.aload_n 0, 1) := by decide +kernel
theorem dX7_size_1 : decode cX7_size 1 = .ok (.getfield 15, 3) := by decide +kernel
theorem dX7_size_4 : decode cX7_size 4 = .ok (.ireturn, 1) := by decide +kernel
theorem dX7_hasRoomForFeed_0 : decode cX7_hasRoomForFeed 0 = .ok (.aload_n 0, 1) := by decide +kernel
theorem dX7_hasRoomForFeed_1 : decode cX7_hasRoomForFeed 1 = .ok (.getfield 15, 3) := by decide +kernel
theorem dX7_hasRoomForFeed_4 : decode cX7_hasRoomForFeed 4 = .ok (.bipush 20, 2) := by decide +kernel
theorem dX7_hasRoomForFeed_6 : decode cX7_hasRoomForFeed 6 = .ok (.iadd, 1) := by decide +kernel
theorem dX7_hasRoomForFeed_7 : decode cX7_hasRoomForFeed 7 = .ok (.sipush 480, 3) := by decide +kernel
theorem dX7_hasRoomForFeed_10 : decode cX7_hasRoomForFeed 10 = .ok (.if_icmp .gt 7, 3) := by decide +kernel
theorem dX7_hasRoomForFeed_13 : decode cX7_hasRoomForFeed 13 = .ok (.iconst 1, 1) := by decide +kernel
theorem dX7_hasRoomForFeed_14 : decode cX7_hasRoomForFeed 14 = .ok (.goto 4, 3) := by decide +kernel
theorem dX7_hasRoomForFeed_17 : decode cX7_hasRoomForFeed 17 = .ok (.iconst 0, 1) := by decide +kernel
theorem dX7_hasRoomForFeed_18 : decode cX7_hasRoomForFeed 18 = .ok (.ireturn, 1) := by decide +kernel
theorem dX7_append_0 : decode cX7_append 0 = .ok (.bipush 24, 2) := by decide +kernel
theorem dX7_append_2 : decode cX7_append 2 = .ok (.istore_n 2, 1) := by decide +kernel
theorem dX7_append_3 : decode cX7_append 3 = .ok (.iload_n 2, 1) := by decide +kernel
theorem dX7_append_4 : decode cX7_append 4 = .ok (.ifCond .lt 42, 3) := by decide +kernel
theorem dX7_append_7 : decode cX7_append 7 = .ok (.aload_n 0, 1) := by decide +kernel
theorem dX7_append_8 : decode cX7_append 8 = .ok (.getfield 15, 3) := by decide +kernel
theorem dX7_append_11 : decode cX7_append 11 = .ok (.sipush 480, 3) := by decide +kernel
theorem dX7_append_14 : decode cX7_append 14 = .ok (.if_icmp .ge 32, 3) := by decide +kernel
theorem dX7_append_17 : decode cX7_append 17 = .ok (.aload_n 0, 1) := by decide +kernel
theorem dX7_append_18 : decode cX7_append 18 = .ok (.getfield 9, 3) := by decide +kernel
theorem dX7_append_21 : decode cX7_append 21 = .ok (.aload_n 0, 1) := by decide +kernel
theorem dX7_append_22 : decode cX7_append 22 = .ok (.getfield 15, 3) := by decide +kernel
theorem dX7_append_25 : decode cX7_append 25 = .ok (.iload_n 1, 1) := by decide +kernel
theorem dX7_append_26 : decode cX7_append 26 = .ok (.iload_n 2, 1) := by decide +kernel
theorem dX7_append_27 : decode cX7_append 27 = .ok (.ishr, 1) := by decide +kernel
theorem dX7_append_28 : decode cX7_append 28 = .ok (.i2b, 1) := by decide +kernel
theorem dX7_append_29 : decode cX7_append 29 = .ok (.bastore, 1) := by decide +kernel
theorem dX7_append_30 : decode cX7_append 30 = .ok (.aload_n 0, 1) := by decide +kernel
theorem dX7_append_31 : decode cX7_append 31 = .ok (.dup, 1) := by decide +kernel
theorem dX7_append_32 : decode cX7_append 32 = .ok (.getfield 15, 3) := by decide +kernel
theorem dX7_append_35 : decode cX7_append 35 = .ok (.iconst 1, 1) := by decide +kernel
theorem dX7_append_36 : decode cX7_append 36 = .ok (.iadd, 1) := by decide +kernel
theorem dX7_append_37 : decode cX7_append 37 = .ok (.putfield 15, 3) := by decide +kernel
theorem dX7_append_40 : decode cX7_append 40 = .ok (.iinc 2 (-8), 3) := by decide +kernel
theorem dX7_append_43 : decode cX7_append 43 = .ok (.goto (-40), 3) := by decide +kernel
theorem dX7_append_46 : decode cX7_append 46 = .ok (.return_, 1) := by decide +kernel
theorem dX7_at_0 : decode cX7_at 0 = .ok (.iload_n 1, 1) := by decide +kernel
theorem dX7_at_1 : decode cX7_at 1 = .ok (.ifCond .lt 24, 3) := by decide +kernel
theorem dX7_at_4 : decode cX7_at 4 = .ok (.iload_n 1, 1) := by decide +kernel
theorem dX7_at_5 : decode cX7_at 5 = .ok (.aload_n 0, 1) := by decide +kernel
theorem dX7_at_6 : decode cX7_at 6 = .ok (.getfield 15, 3) := by decide +kernel
theorem dX7_at_9 : decode cX7_at 9 = .ok (.if_icmp .ge 16, 3) := by decide +kernel
theorem dX7_at_12 : decode cX7_at 12 = .ok (.aload_n 0, 1) := by decide +kernel
theorem dX7_at_13 : decode cX7_at 13 = .ok (.getfield 9, 3) := by decide +kernel
theorem dX7_at_16 : decode cX7_at 16 = .ok (.iload_n 1, 1) := by decide +kernel
theorem dX7_at_17 : decode cX7_at 17 = .ok (.baload, 1) := by decide +kernel
theorem dX7_at_18 : decode cX7_at 18 = .ok (.sipush 255, 3) := by decide +kernel
theorem dX7_at_21 : decode cX7_at 21 = .ok (.iand, 1) := by decide +kernel
theorem dX7_at_22 : decode cX7_at 22 = .ok (.goto 4, 3) := by decide +kernel
theorem dX7_at_25 : decode cX7_at 25 = .ok (.iconst (-1), 1) := by decide +kernel
theorem dX7_at_26 : decode cX7_at 26 = .ok (.ireturn, 1) := by decide +kernel
theorem dX7_empty_0 : decode cX7_empty 0 = .ok (.aload_n 0, 1) := by decide +kernel
theorem dX7_empty_1 : decode cX7_empty 1 = .ok (.iconst 0, 1) := by decide +kernel
theorem dX7_empty_2 : decode cX7_empty 2 = .ok (.putfield 15, 3) := by decide +kernel
theorem dX7_empty_5 : decode cX7_empty 5 = .ok (.return_, 1) := by decide +kernel
theorem dX8_init_0 : decode cX8_init 0 = .ok (.aload_n 0, 1) := by decide +kernel
theorem dX8_init_1 : decode cX8_init 1 = .ok (.invokespecial 3, 3) := by decide +kernel
theorem dX8_init_4 : decode cX8_init 4 = .ok (.aload_n 0, 1) := by decide +kernel
theorem dX8_init_5 : decode cX8_init 5 = .ok (.bipush 100, 2) := by decide +kernel
theorem dX8_init_7 : decode cX8_init 7 = .ok (.newarray .int, 2) := by decide +kernel
theorem dX8_init_9 : decode cX8_init 9 = .ok (.putfield 9, 3) := by decide +kernel
theorem dX8_init_12 : decode cX8_init 12 = .ok (.aload_n 0, 1) := by decide +kernel
theorem dX8_init_13 : decode cX8_init 13 = .ok (.sipush 1024, 3) := by decide +kernel
theorem dX8_init_16 : decode cX8_init 16 = .ok (.newarray .int, 2) := by decide +kernel
theorem dX8_init_18 : decode cX8_init 18 = .ok (.putfield 15, 3) := by decide +kernel
theorem dX8_init_21 : decode cX8_init 21 = .ok (.aload_n 0, 1) := by decide +kernel
theorem dX8_init_22 : decode cX8_init 22 = .ok (.iconst 0, 1) := by decide +kernel
theorem dX8_init_23 : decode cX8_init 23 = .ok (.putfield 18, 3) := by decide +kernel
theorem dX8_init_26 : decode cX8_init 26 = .ok (.return_, 1) := by decide +kernel
theorem dX8_count_0 : decode cX8_count 0 = .ok (.aload_n 0, 1) := by decide +kernel
theorem dX8_count_1 : decode cX8_count 1 = .ok (.getfield 18, 3) := by decide +kernel
theorem dX8_count_4 : decode cX8_count 4 = .ok (.ireturn, 1) := by decide +kernel
theorem dX8_change_0 : decode cX8_change 0 = .ok (.aload_n 0, 1) := by decide +kernel
theorem dX8_change_1 : decode cX8_change 1 = .ok (.getfield 9, 3) := by decide +kernel
theorem dX8_change_4 : decode cX8_change 4 = .ok (.iload_n 1, 1) := by decide +kernel
theorem dX8_change_5 : decode cX8_change 5 = .ok (.bipush 10, 2) := by decide +kernel
theorem dX8_change_7 : decode cX8_change 7 = .ok (.imul, 1) := by decide +kernel
theorem dX8_change_8 : decode cX8_change 8 = .ok (.iload_n 2, 1) := by decide +kernel
theorem dX8_change_9 : decode cX8_change 9 = .ok (.iadd, 1) := by decide +kernel
theorem dX8_change_10 : decode cX8_change 10 = .ok (.dup2, 1) := by decide +kernel
theorem dX8_change_11 : decode cX8_change 11 = .ok (.iaload, 1) := by decide +kernel
theorem dX8_change_12 : decode cX8_change 12 = .ok (.iload_n 3, 1) := by decide +kernel
theorem dX8_change_13 : decode cX8_change 13 = .ok (.iadd, 1) := by decide +kernel
theorem dX8_change_14 : decode cX8_change 14 = .ok (.iastore, 1) := by decide +kernel
theorem dX8_change_15 : decode cX8_change 15 = .ok (.aload_n 0, 1) := by decide +kernel
theorem dX8_change_16 : decode cX8_change 16 = .ok (.getfield 9, 3) := by decide +kernel
theorem dX8_change_19 : decode cX8_change 19 = .ok (.iload_n 2, 1) := by decide +kernel
theorem dX8_change_20 : decode cX8_change 20 = .ok (.bipush 10, 2) := by decide +kernel
theorem dX8_change_22 : decode cX8_change 22 = .ok (.imul, 1) := by decide +kernel
theorem dX8_change_23 : decode cX8_change 23 = .ok (.iload_n 1, 1) := by decide +kernel
theorem dX8_change_24 : decode cX8_change 24 = .ok (.iadd, 1) := by decide +kernel
theorem dX8_change_25 : decode cX8_change 25 = .ok (.dup2, 1) := by decide +kernel
theorem dX8_change_26 : decode cX8_change 26 = .ok (.iaload, 1) := by decide +kernel
theorem dX8_change_27 : decode cX8_change 27 = .ok (.iload_n 3, 1) := by decide +kernel
theorem dX8_change_28 : decode cX8_change 28 = .ok (.iadd, 1) := by decide +kernel
theorem dX8_change_29 : decode cX8_change 29 = .ok (.iastore, 1) := by decide +kernel
theorem dX8_change_30 : decode cX8_change 30 = .ok (.aload_n 0, 1) := by decide +kernel
theorem dX8_change_31 : decode cX8_change 31 = .ok (.dup, 1) := by decide +kernel
theorem dX8_change_32 : decode cX8_change 32 = .ok (.getfield 18, 3) := by decide +kernel
theorem dX8_change_35 : decode cX8_change 35 = .ok (.iload_n 3, 1) := by decide +kernel
theorem dX8_change_36 : decode cX8_change 36 = .ok (.iadd, 1) := by decide +kernel
theorem dX8_change_37 : decode cX8_change 37 = .ok (.putfield 18, 3) := by decide +kernel
theorem dX8_change_40 : decode cX8_change 40 = .ok (.return_, 1) := by decide +kernel
set_option maxRecDepth 20000 in
theorem ggX8_leastHindrance_X8_pointsOf : GoodIn wsX8_leastHindrance wsX8_pointsOf := goodIn_r _ [6, 7, 8, 9, 10, 11, 12, 13, 14, 15, 16, 17, 36, 37, 38, 39, 40, 41] (by decide +kernel) (by decide +kernel)
set_option maxRecDepth 20000 in
theorem gX8_leastHindrance_X8_pointsOf : GoodIn wsX8_leastHindrance (wsV RX8 22 RX8 yX8_pointsOf wsX8_pointsOf) := goodIn_app (goodIn_of _ (by decide +kernel)) ggX8_leastHindrance_X8_pointsOf
set_option maxRecDepth 20000 in
theorem ggX8_leastHindrance_X9_everyone : GoodIn wsX8_leastHindrance wsX9_everyone := goodIn_r _ [20] (by decide +kernel) (by decide +kernel)
set_option maxRecDepth 20000 in
theorem gX8_leastHindrance_X9_everyone_n26 : GoodIn wsX8_leastHindrance (wsX9_everyone) := ggX8_leastHindrance_X9_everyone
set_option maxRecDepth 20000 in
theorem ggX8_leastHindrance_X8_gamesWith : GoodIn wsX8_leastHindrance wsX8_gamesWith := goodIn_r _ [24, 25, 26, 19, 27, 33, 34, 35] (by decide +kernel) (by decide +kernel)
set_option maxRecDepth 20000 in
theorem gX8_leastHindrance_X8_gamesWith : GoodIn wsX8_leastHindrance (wsV RX8 30 RX8 yX8_gamesWith wsX8_gamesWith) := goodIn_app (goodIn_of _ (by decide +kernel)) ggX8_leastHindrance_X8_gamesWith
set_option maxRecDepth 20000 in
theorem ggX8_leastHindrance_X9_isIn : GoodIn wsX8_leastHindrance wsX9_isIn := goodIn_r _ [27] (by decide +kernel) (by decide +kernel)
set_option maxRecDepth 20000 in
theorem gX8_leastHindrance_X9_isIn_n34 : GoodIn wsX8_leastHindrance (wsX9_isIn) := ggX8_leastHindrance_X9_isIn
set_option maxRecDepth 20000 in
theorem ggX8_leastHindrance_J6_numberOfTrailingZeros_0f7a4 : GoodIn wsX8_leastHindrance wsJ6_numberOfTrailingZeros_0f7a4 := goodIn_r _ [31, 32] (by decide +kernel) (by decide +kernel)
set_option maxRecDepth 20000 in
theorem gX8_leastHindrance_J6_numberOfTrailingZeros_0f7a4 : GoodIn wsX8_leastHindrance (va_wsS RX8 38 yJ6_numberOfTrailingZeros_0f7a4 wsJ6_numberOfTrailingZeros_0f7a4) := goodIn_app (goodIn_of _ (by decide +kernel)) ggX8_leastHindrance_J6_numberOfTrailingZeros_0f7a4
theorem dX8_leastHindrance_0 : decode cX8_leastHindrance 0 = .ok (.aload_n 0, 1) := by decide +kernel
theorem dX8_leastHindrance_1 : decode cX8_leastHindrance 1 = .ok (.aload_n 1, 1) := by decide +kernel
theorem dX8_leastHindrance_2 : decode cX8_leastHindrance 2 = .ok (.iload_n 2, 1) := by decide +kernel
theorem dX8_leastHindrance_3 : decode cX8_leastHindrance 3 = .ok (.iload_n 3, 1) := by decide +kernel
theorem dX8_leastHindrance_4 : decode cX8_leastHindrance 4 = .ok (.invokevirtual 22, 3) := by decide +kernel
theorem dX8_leastHindrance_7 : decode cX8_leastHindrance 7 = .ok (.iconst 2, 1) := by decide +kernel
theorem dX8_leastHindrance_8 : decode cX8_leastHindrance 8 = .ok (.aload_n 0, 1) := by decide +kernel
theorem dX8_leastHindrance_9 : decode cX8_leastHindrance 9 = .ok (.iload_n 3, 1) := by decide +kernel
theorem dX8_leastHindrance_10 : decode cX8_leastHindrance 10 = .ok (.iload_n 2, 1) := by decide +kernel
theorem dX8_leastHindrance_11 : decode cX8_leastHindrance 11 = .ok (.invokestatic 26, 3) := by decide +kernel
theorem dX8_leastHindrance_14 : decode cX8_leastHindrance 14 = .ok (.iload_n 2, 1) := by decide +kernel
theorem dX8_leastHindrance_15 : decode cX8_leastHindrance 15 = .ok (.invokevirtual 30, 3) := by decide +kernel
theorem dX8_leastHindrance_18 : decode cX8_leastHindrance 18 = .ok (.imul, 1) := by decide +kernel
theorem dX8_leastHindrance_19 : decode cX8_leastHindrance 19 = .ok (.iadd, 1) := by decide +kernel
theorem dX8_leastHindrance_20 : decode cX8_leastHindrance 20 = .ok (.istore 4, 2) := by decide +kernel
theorem dX8_leastHindrance_22 : decode cX8_leastHindrance 22 = .ok (.aload_n 0, 1) := by decide +kernel
theorem dX8_leastHindrance_23 : decode cX8_leastHindrance 23 = .ok (.getfield 15, 3) := by decide +kernel
theorem dX8_leastHindrance_26 : decode cX8_leastHindrance 26 = .ok (.iconst 0, 1) := by decide +kernel
theorem dX8_leastHindrance_27 : decode cX8_leastHindrance 27 = .ok (.iconst 0, 1) := by decide +kernel
theorem dX8_leastHindrance_28 : decode cX8_leastHindrance 28 = .ok (.iastore, 1) := by decide +kernel
theorem dX8_leastHindrance_29 : decode cX8_leastHindrance 29 = .ok (.iconst 1, 1) := by decide +kernel
theorem dX8_leastHindrance_30 : decode cX8_leastHindrance 30 = .ok (.istore 5, 2) := by decide +kernel
theorem dX8_leastHindrance_32 : decode cX8_leastHindrance 32 = .ok (.iload 5, 2) := by decide +kernel
theorem dX8_leastHindrance_34 : decode cX8_leastHindrance 34 = .ok (.iload_n 2, 1) := by decide +kernel
theorem dX8_leastHindrance_35 : decode cX8_leastHindrance 35 = .ok (.invokestatic 26, 3) := by decide +kernel
theorem dX8_leastHindrance_38 : decode cX8_leastHindrance 38 = .ok (.if_icmp .gt 85, 3) := by decide +kernel
theorem dX8_leastHindrance_41 : decode cX8_leastHindrance 41 = .ok (.iload 5, 2) := by decide +kernel
theorem dX8_leastHindrance_43 : decode cX8_leastHindrance 43 = .ok (.iload_n 3, 1) := by decide +kernel
theorem dX8_leastHindrance_44 : decode cX8_leastHindrance 44 = .ok (.invokestatic 34, 3) := by decide +kernel
theorem dX8_leastHindrance_47 : decode cX8_leastHindrance 47 = .ok (.ifCond .ne 70, 3) := by decide +kernel
theorem dX8_leastHindrance_50 : decode cX8_leastHindrance 50 = .ok (.iload 5, 2) := by decide +kernel
theorem dX8_leastHindrance_52 : decode cX8_leastHindrance 52 = .ok (.invokestatic 38, 3) := by decide +kernel
theorem dX8_leastHindrance_55 : decode cX8_leastHindrance 55 = .ok (.istore 6, 2) := by decide +kernel
theorem dX8_leastHindrance_57 : decode cX8_leastHindrance 57 = .ok (.iload 5, 2) := by decide +kernel
theorem dX8_leastHindrance_59 : decode cX8_leastHindrance 59 = .ok (.iload 5, 2) := by decide +kernel
theorem dX8_leastHindrance_61 : decode cX8_leastHindrance 61 = .ok (.iconst 1, 1) := by decide +kernel
theorem dX8_leastHindrance_62 : decode cX8_leastHindrance 62 = .ok (.isub, 1) := by decide +kernel
theorem dX8_leastHindrance_63 : decode cX8_leastHindrance 63 = .ok (.iand, 1) := by decide +kernel
theorem dX8_leastHindrance_64 : decode cX8_leastHindrance 64 = .ok (.istore 7, 2) := by decide +kernel
theorem dX8_leastHindrance_66 : decode cX8_leastHindrance 66 = .ok (.aload_n 0, 1) := by decide +kernel
theorem dX8_leastHindrance_67 : decode cX8_leastHindrance 67 = .ok (.getfield 15, 3) := by decide +kernel
theorem dX8_leastHindrance_70 : decode cX8_leastHindrance 70 = .ok (.iload 5, 2) := by decide +kernel
theorem dX8_leastHindrance_72 : decode cX8_leastHindrance 72 = .ok (.aload_n 0, 1) := by decide +kernel
theorem dX8_leastHindrance_73 : decode cX8_leastHindrance 73 = .ok (.getfield 15, 3) := by decide +kernel
theorem dX8_leastHindrance_76 : decode cX8_leastHindrance 76 = .ok (.iload 7, 2) := by decide +kernel
theorem dX8_leastHindrance_78 : decode cX8_leastHindrance 78 = .ok (.iaload, 1) := by decide +kernel
theorem dX8_leastHindrance_79 : decode cX8_leastHindrance 79 = .ok (.aload_n 0, 1) := by decide +kernel
theorem dX8_leastHindrance_80 : decode cX8_leastHindrance 80 = .ok (.aload_n 1, 1) := by decide +kernel
theorem dX8_leastHindrance_81 : decode cX8_leastHindrance 81 = .ok (.iload_n 2, 1) := by decide +kernel
theorem dX8_leastHindrance_82 : decode cX8_leastHindrance 82 = .ok (.iload 6, 2) := by decide +kernel
theorem dX8_leastHindrance_84 : decode cX8_leastHindrance 84 = .ok (.invokevirtual 22, 3) := by decide +kernel
theorem dX8_leastHindrance_87 : decode cX8_leastHindrance 87 = .ok (.iadd, 1) := by decide +kernel
theorem dX8_leastHindrance_88 : decode cX8_leastHindrance 88 = .ok (.iload 4, 2) := by decide +kernel
theorem dX8_leastHindrance_90 : decode cX8_leastHindrance 90 = .ok (.isub, 1) := by decide +kernel
theorem dX8_leastHindrance_91 : decode cX8_leastHindrance 91 = .ok (.iconst 2, 1) := by decide +kernel
theorem dX8_leastHindrance_92 : decode cX8_leastHindrance 92 = .ok (.aload_n 0, 1) := by decide +kernel
theorem dX8_leastHindrance_93 : decode cX8_leastHindrance 93 = .ok (.iload 6, 2) := by decide +kernel
theorem dX8_leastHindrance_95 : decode cX8_leastHindrance 95 = .ok (.iload 7, 2) := by decide +kernel
theorem dX8_leastHindrance_97 : decode cX8_leastHindrance 97 = .ok (.iload_n 2, 1) := by decide +kernel
theorem dX8_leastHindrance_98 : decode cX8_leastHindrance 98 = .ok (.invokevirtual 30, 3) := by decide +kernel
theorem dX8_leastHindrance_101 : decode cX8_leastHindrance 101 = .ok (.imul, 1) := by decide +kernel
theorem dX8_leastHindrance_102 : decode cX8_leastHindrance 102 = .ok (.iadd, 1) := by decide +kernel
theorem dX8_leastHindrance_103 : decode cX8_leastHindrance 103 = .ok (.iastore, 1) := by decide +kernel
theorem dX8_leastHindrance_104 : decode cX8_leastHindrance 104 = .ok (.aload_n 0, 1) := by decide +kernel
theorem dX8_leastHindrance_105 : decode cX8_leastHindrance 105 = .ok (.getfield 15, 3) := by decide +kernel
theorem dX8_leastHindrance_108 : decode cX8_leastHindrance 108 = .ok (.iload 5, 2) := by decide +kernel
theorem dX8_leastHindrance_110 : decode cX8_leastHindrance 110 = .ok (.iaload, 1) := by decide +kernel
theorem dX8_leastHindrance_111 : decode cX8_leastHindrance 111 = .ok (.ifCond .le 6, 3) := by decide +kernel
theorem dX8_leastHindrance_114 : decode cX8_leastHindrance 114 = .ok (.iload 5, 2) := by decide +kernel
theorem dX8_leastHindrance_116 : decode cX8_leastHindrance 116 = .ok (.ireturn, 1) := by decide +kernel
theorem dX8_leastHindrance_117 : decode cX8_leastHindrance 117 = .ok (.iinc 5 1, 3) := by decide +kernel
theorem dX8_leastHindrance_120 : decode cX8_leastHindrance 120 = .ok (.goto (-88), 3) := by decide +kernel
theorem dX8_leastHindrance_123 : decode cX8_leastHindrance 123 = .ok (.iconst 0, 1) := by decide +kernel
theorem dX8_leastHindrance_124 : decode cX8_leastHindrance 124 = .ok (.ireturn, 1) := by decide +kernel
set_option maxRecDepth 20000 in
theorem ggX8_pointsOf_X4_wins : GoodIn wsX8_pointsOf wsX4_wins := goodIn_r _ [5, 6, 12, 13, 14, 15, 16, 17] (by decide +kernel) (by decide +kernel)
set_option maxRecDepth 20000 in
theorem gX8_pointsOf_X4_wins : GoodIn wsX8_pointsOf (wsV RX8 43 RX4 yX4_wins wsX4_wins) := goodIn_app (goodIn_of _ (by decide +kernel)) ggX8_pointsOf_X4_wins
set_option maxRecDepth 20000 in
theorem ggX8_pointsOf_X4_draws : GoodIn wsX8_pointsOf wsX4_draws := goodIn_r _ [10, 11, 12, 13, 14, 15, 16, 17] (by decide +kernel) (by decide +kernel)
set_option maxRecDepth 20000 in
theorem gX8_pointsOf_X4_draws : GoodIn wsX8_pointsOf (wsV RX8 49 RX4 yX4_draws wsX4_draws) := goodIn_app (goodIn_of _ (by decide +kernel)) ggX8_pointsOf_X4_draws
theorem dX8_pointsOf_0 : decode cX8_pointsOf 0 = .ok (.iconst 0, 1) := by decide +kernel
theorem dX8_pointsOf_1 : decode cX8_pointsOf 1 = .ok (.istore 4, 2) := by decide +kernel
theorem dX8_pointsOf_3 : decode cX8_pointsOf 3 = .ok (.iconst 0, 1) := by decide +kernel
theorem dX8_pointsOf_4 : decode cX8_pointsOf 4 = .ok (.istore 5, 2) := by decide +kernel
theorem dX8_pointsOf_6 : decode cX8_pointsOf 6 = .ok (.iload 5, 2) := by decide +kernel
theorem dX8_pointsOf_8 : decode cX8_pointsOf 8 = .ok (.iload_n 2, 1) := by decide +kernel
theorem dX8_pointsOf_9 : decode cX8_pointsOf 9 = .ok (.if_icmp .ge 31, 3) := by decide +kernel
theorem dX8_pointsOf_12 : decode cX8_pointsOf 12 = .ok (.iload 4, 2) := by decide +kernel
theorem dX8_pointsOf_14 : decode cX8_pointsOf 14 = .ok (.iconst 2, 1) := by decide +kernel
theorem dX8_pointsOf_15 : decode cX8_pointsOf 15 = .ok (.aload_n 1, 1) := by decide +kernel
theorem dX8_pointsOf_16 : decode cX8_pointsOf 16 = .ok (.iload_n 3, 1) := by decide +kernel
theorem dX8_pointsOf_17 : decode cX8_pointsOf 17 = .ok (.iload 5, 2) := by decide +kernel
theorem dX8_pointsOf_19 : decode cX8_pointsOf 19 = .ok (.invokevirtual 43, 3) := by decide +kernel
theorem dX8_pointsOf_22 : decode cX8_pointsOf 22 = .ok (.imul, 1) := by decide +kernel
theorem dX8_pointsOf_23 : decode cX8_pointsOf 23 = .ok (.aload_n 1, 1) := by decide +kernel
theorem dX8_pointsOf_24 : decode cX8_pointsOf 24 = .ok (.iload_n 3, 1) := by decide +kernel
theorem dX8_pointsOf_25 : decode cX8_pointsOf 25 = .ok (.iload 5, 2) := by decide +kernel
theorem dX8_pointsOf_27 : decode cX8_pointsOf 27 = .ok (.invokevirtual 49, 3) := by decide +kernel
theorem dX8_pointsOf_30 : decode cX8_pointsOf 30 = .ok (.iadd, 1) := by decide +kernel
theorem dX8_pointsOf_31 : decode cX8_pointsOf 31 = .ok (.iadd, 1) := by decide +kernel
theorem dX8_pointsOf_32 : decode cX8_pointsOf 32 = .ok (.istore 4, 2) := by decide +kernel
theorem dX8_pointsOf_34 : decode cX8_pointsOf 34 = .ok (.iinc 5 1, 3) := by decide +kernel
theorem dX8_pointsOf_37 : decode cX8_pointsOf 37 = .ok (.goto (-31), 3) := by decide +kernel
theorem dX8_pointsOf_40 : decode cX8_pointsOf 40 = .ok (.iload 4, 2) := by decide +kernel
theorem dX8_pointsOf_42 : decode cX8_pointsOf 42 = .ok (.ireturn, 1) := by decide +kernel
set_option maxRecDepth 20000 in
theorem ggX8_gamesWith_X9_isIn : GoodIn wsX8_gamesWith wsX9_isIn := goodIn_r _ [4] (by decide +kernel) (by decide +kernel)
set_option maxRecDepth 20000 in
theorem gX8_gamesWith_X9_isIn_n34 : GoodIn wsX8_gamesWith (wsX9_isIn) := ggX8_gamesWith_X9_isIn
theorem dX8_gamesWith_0 : decode cX8_gamesWith 0 = .ok (.iconst 0, 1) := by decide +kernel
theorem dX8_gamesWith_1 : decode cX8_gamesWith 1 = .ok (.istore 4, 2) := by decide +kernel
theorem dX8_gamesWith_3 : decode cX8_gamesWith 3 = .ok (.iconst 0, 1) := by decide +kernel
theorem dX8_gamesWith_4 : decode cX8_gamesWith 4 = .ok (.istore 5, 2) := by decide +kernel
theorem dX8_gamesWith_6 : decode cX8_gamesWith 6 = .ok (.iload 5, 2) := by decide +kernel
theorem dX8_gamesWith_8 : decode cX8_gamesWith 8 = .ok (.iload_n 3, 1) := by decide +kernel
theorem dX8_gamesWith_9 : decode cX8_gamesWith 9 = .ok (.if_icmp .ge 35, 3) := by decide +kernel
theorem dX8_gamesWith_12 : decode cX8_gamesWith 12 = .ok (.iload_n 2, 1) := by decide +kernel
theorem dX8_gamesWith_13 : decode cX8_gamesWith 13 = .ok (.iload 5, 2) := by decide +kernel
theorem dX8_gamesWith_15 : decode cX8_gamesWith 15 = .ok (.invokestatic 34, 3) := by decide +kernel
theorem dX8_gamesWith_18 : decode cX8_gamesWith 18 = .ok (.ifCond .eq 20, 3) := by decide +kernel
theorem dX8_gamesWith_21 : decode cX8_gamesWith 21 = .ok (.iload 4, 2) := by decide +kernel
theorem dX8_gamesWith_23 : decode cX8_gamesWith 23 = .ok (.aload_n 0, 1) := by decide +kernel
theorem dX8_gamesWith_24 : decode cX8_gamesWith 24 = .ok (.getfield 9, 3) := by decide +kernel
theorem dX8_gamesWith_27 : decode cX8_gamesWith 27 = .ok (.iload_n 1, 1) := by decide +kernel
theorem dX8_gamesWith_28 : decode cX8_gamesWith 28 = .ok (.bipush 10, 2) := by decide +kernel
theorem dX8_gamesWith_30 : decode cX8_gamesWith 30 = .ok (.imul, 1) := by decide +kernel
theorem dX8_gamesWith_31 : decode cX8_gamesWith 31 = .ok (.iload 5, 2) := by decide +kernel
theorem dX8_gamesWith_33 : decode cX8_gamesWith 33 = .ok (.iadd, 1) := by decide +kernel
theorem dX8_gamesWith_34 : decode cX8_gamesWith 34 = .ok (.iaload, 1) := by decide +kernel
theorem dX8_gamesWith_35 : decode cX8_gamesWith 35 = .ok (.iadd, 1) := by decide +kernel
theorem dX8_gamesWith_36 : decode cX8_gamesWith 36 = .ok (.istore 4, 2) := by decide +kernel
theorem dX8_gamesWith_38 : decode cX8_gamesWith 38 = .ok (.iinc 5 1, 3) := by decide +kernel
theorem dX8_gamesWith_41 : decode cX8_gamesWith 41 = .ok (.goto (-35), 3) := by decide +kernel
theorem dX8_gamesWith_44 : decode cX8_gamesWith 44 = .ok (.iload 4, 2) := by decide +kernel
theorem dX8_gamesWith_46 : decode cX8_gamesWith 46 = .ok (.ireturn, 1) := by decide +kernel
