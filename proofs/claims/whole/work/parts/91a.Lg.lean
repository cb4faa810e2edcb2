set_option maxRecDepth 20000 in
theorem ggL_law_X9_init : GoodIn wsL_law wsX9_init := goodIn_r _ [9, 10, 11, 12, 13, 14, 15, 16, 17, 18, 19, 20, 21, 22, 23, 24, 25, 26, 27, 28, 29, 30, 31, 32, 33, 34, 35, 36, 37, 38, 39, 40, 41, 42, 43, 44, 45, 46, 47, 48, 49, 50, 51, 52, 53, 54, 55, 56, 57, 58, 59, 60, 61, 62, 63, 64, 65, 66, 67, 68, 69, 70, 71, 72, 73, 74, 75, 76, 77, 78, 79, 80, 81, 82, 83, 84, 85, 86, 87, 88, 89, 90, 91, 92, 93, 94, 95, 96, 97, 98, 99, 100, 101, 102, 103, 104, 105, 106, 107, 108, 109, 110, 111, 932, 933, 934, 935, 936, 937, 904, 905, 906, 907, 908, 909, 910, 911, 912, 913, 938, 939, 940, 941, 942, 943, 944, 945, 946, 947, 948, 949, 950, 951, 952, 953, 954, 955, 956, 957, 958, 959, 960, 961, 962, 963] (by decide +kernel) (by decide +kernel)
set_option maxRecDepth 20000 in
theorem gL_law_X9_init : GoodIn wsL_law (wsX9_init) := ggL_law_X9_init
set_option maxRecDepth 20000 in
theorem ggL_law_X10_init : GoodIn wsL_law wsX10_init := goodIn_r _ [114, 115, 11, 12, 53, 116, 117, 118, 119, 120, 121, 122, 96, 123, 124, 125, 126, 127, 128, 129, 130, 914, 915, 916, 917, 918, 919, 920, 921, 922, 923, 924, 925, 926, 927, 928, 929, 930, 931] (by decide +kernel) (by decide +kernel)
set_option maxRecDepth 20000 in
theorem gL_law_X10_init : GoodIn wsL_law (wsX10_init) := ggL_law_X10_init
set_option maxRecDepth 20000 in
theorem ggL_law_X9_player : GoodIn wsL_law wsX9_player := goodIn_r _ [134, 49, 28, 135, 136, 137, 27, 138, 76, 75, 77, 139, 140, 141, 142, 904, 905, 906, 907, 908, 909, 910, 911, 912, 913, 943, 944, 945] (by decide +kernel) (by decide +kernel)
set_option maxRecDepth 20000 in
theorem gL_law_X9_player : GoodIn wsL_law (wsV RL 13 RX9 yX9_player wsX9_player) := goodIn_app (goodIn_of _ (by decide +kernel)) ggL_law_X9_player
set_option maxRecDepth 20000 in
theorem ggL_law_X10_player : GoodIn wsL_law wsX10_player := goodIn_r _ [146, 116, 147, 148, 149, 5, 150, 151, 152, 153, 154, 155, 117, 156, 914, 915, 916, 917, 918, 919, 920, 921, 922, 923, 924, 925, 926, 927, 928, 929, 930, 931] (by decide +kernel) (by decide +kernel)
set_option maxRecDepth 20000 in
theorem gL_law_X10_player : GoodIn wsL_law (wsV RL 17 RX10 yX10_player wsX10_player) := goodIn_app (goodIn_of _ (by decide +kernel)) ggL_law_X10_player
set_option maxRecDepth 20000 in
theorem ggL_law_X9_meet : GoodIn wsL_law wsX9_meet := goodIn_r _ [160, 16, 28, 161, 162, 163, 2, 164, 165, 166, 167, 168, 169, 170, 171, 172, 49, 173, 174, 175, 176, 177, 178, 15, 179, 58, 180, 181, 182, 183, 184, 185, 186, 187, 54, 188, 189, 190, 191, 192, 193, 194, 195, 57, 55, 56, 59, 135, 136, 137, 27, 138, 76, 75, 77, 139, 140, 141, 142, 904, 905, 906, 907, 908, 909, 910, 911, 912, 913, 932, 933, 934, 935, 936, 937, 943, 944, 945] (by decide +kernel) (by decide +kernel)
set_option maxRecDepth 20000 in
theorem gL_law_X9_meet : GoodIn wsL_law (wsV RL 18 RX9 yX9_meet wsX9_meet) := goodIn_app (goodIn_of _ (by decide +kernel)) ggL_law_X9_meet
set_option maxRecDepth 20000 in
theorem ggL_law_X10_meet : GoodIn wsL_law wsX10_meet := goodIn_r _ [199, 116, 200, 201, 202, 5, 203, 204, 205, 206, 207, 147, 148, 149, 150, 151, 152, 153, 154, 155, 117, 156, 208, 209, 210, 211, 914, 915, 916, 917, 918, 919, 920, 921, 922, 923, 924, 925, 926, 927, 928, 929, 930, 931] (by decide +kernel) (by decide +kernel)
set_option maxRecDepth 20000 in
theorem gL_law_X10_meet : GoodIn wsL_law (wsV RL 22 RX10 yX10_meet wsX10_meet) := goodIn_app (goodIn_of _ (by decide +kernel)) ggL_law_X10_meet
set_option maxRecDepth 20000 in
theorem ggL_law_X9_feed : GoodIn wsL_law wsX9_feed := goodIn_r _ [215, 20, 216, 217, 218, 19, 219, 65, 220, 221, 222, 223, 64, 224, 225, 226, 227, 904, 905, 906, 907, 908, 909, 910, 911, 912, 913, 938, 939] (by decide +kernel) (by decide +kernel)
set_option maxRecDepth 20000 in
theorem gL_law_X9_feed : GoodIn wsL_law (wsV RL 23 RX9 yX9_feed wsX9_feed) := goodIn_app (goodIn_of _ (by decide +kernel)) ggL_law_X9_feed
set_option maxRecDepth 20000 in
theorem ggL_law_X10_feed : GoodIn wsL_law wsX10_feed := goodIn_r _ [231, 232, 233, 234, 235, 5, 236, 118, 914, 915, 916, 917, 918, 919, 920, 921, 922, 923, 924, 925, 926, 927, 928, 929, 930, 931] (by decide +kernel) (by decide +kernel)
set_option maxRecDepth 20000 in
theorem gL_law_X10_feed : GoodIn wsL_law (wsV RL 27 RX10 yX10_feed wsX10_feed) := goodIn_app (goodIn_of _ (by decide +kernel)) ggL_law_X10_feed
set_option maxRecDepth 20000 in
theorem ggL_law_X9_sheet : GoodIn wsL_law wsX9_sheet := goodIn_r _ [240, 20, 28, 224, 225, 226, 19, 227, 65, 241, 242, 243, 2, 244, 16, 245, 246, 247, 248, 64, 161, 162, 163, 164, 165, 166, 167, 168, 169, 170, 171, 172, 49, 173, 174, 175, 176, 177, 178, 15, 179, 58, 180, 181, 182, 183, 184, 185, 186, 187, 54, 188, 189, 190, 191, 192, 193, 194, 195, 57, 55, 56, 59, 249, 250, 251, 252, 135, 136, 137, 27, 138, 76, 75, 77, 139, 140, 141, 142, 904, 905, 906, 907, 908, 909, 910, 911, 912, 913, 938, 939, 932, 933, 934, 935, 936, 937, 943, 944, 945] (by decide +kernel) (by decide +kernel)
set_option maxRecDepth 20000 in
theorem gL_law_X9_sheet : GoodIn wsL_law (wsV RL 28 RX9 yX9_sheet wsX9_sheet) := goodIn_app (goodIn_of _ (by decide +kernel)) ggL_law_X9_sheet
set_option maxRecDepth 20000 in
theorem ggL_law_X10_sheet : GoodIn wsL_law wsX10_sheet := goodIn_r _ [256, 232, 118, 200, 201, 202, 5, 203, 116, 204, 205, 206, 207, 147, 148, 149, 150, 151, 152, 153, 154, 155, 117, 156, 208, 209, 210, 211, 914, 915, 916, 917, 918, 919, 920, 921, 922, 923, 924, 925, 926, 927, 928, 929, 930, 931] (by decide +kernel) (by decide +kernel)
set_option maxRecDepth 20000 in
theorem gL_law_X10_sheet : GoodIn wsL_law (wsV RL 32 RX10 yX10_sheet wsX10_sheet) := goodIn_app (goodIn_of _ (by decide +kernel)) ggL_law_X10_sheet
set_option maxRecDepth 20000 in
theorem ggL_law_X9_drop : GoodIn wsL_law wsX9_drop := goodIn_r _ [260, 16, 28, 261, 262, 263, 15, 264, 58, 265, 266, 267, 268, 54, 269, 135, 136, 137, 27, 138, 76, 75, 77, 139, 140, 141, 142, 270, 271, 272, 273, 188, 189, 190, 191, 192, 193, 194, 195, 57, 55, 56, 59, 904, 905, 906, 907, 908, 909, 910, 911, 912, 913, 932, 933, 934, 935, 936, 937, 943, 944, 945] (by decide +kernel) (by decide +kernel)
set_option maxRecDepth 20000 in
theorem gL_law_X9_drop : GoodIn wsL_law (wsV RL 33 RX9 yX9_drop wsX9_drop) := goodIn_app (goodIn_of _ (by decide +kernel)) ggL_law_X9_drop
set_option maxRecDepth 20000 in
theorem ggL_law_X10_drop : GoodIn wsL_law wsX10_drop := goodIn_r _ [277, 116, 151, 152, 153, 5, 154, 155, 117, 156, 914, 915, 916, 917, 918, 919, 920, 921, 922, 923, 924, 925, 926, 927, 928, 929, 930, 931] (by decide +kernel) (by decide +kernel)
set_option maxRecDepth 20000 in
theorem gL_law_X10_drop : GoodIn wsL_law (wsV RL 37 RX10 yX10_drop wsX10_drop) := goodIn_app (goodIn_of _ (by decide +kernel)) ggL_law_X10_drop
