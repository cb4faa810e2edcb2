set_option maxRecDepth 20000 in
theorem ggL_law_X9_next : GoodIn wsL_law wsX9_next := goodIn_r _ [281, 24, 28, 165, 166, 167, 2, 168, 169, 170, 171, 172, 49, 282, 283, 284, 23, 285, 71, 286, 287, 288, 289, 69, 135, 136, 137, 27, 138, 76, 75, 77, 139, 140, 141, 142, 904, 905, 906, 907, 908, 909, 910, 911, 912, 913, 940, 941, 942, 943, 944, 945] (by decide +kernel) (by decide +kernel)
set_option maxRecDepth 20000 in
theorem gL_law_X9_next : GoodIn wsL_law (wsV RL 38 RX9 yX9_next wsX9_next) := goodIn_app (goodIn_of _ (by decide +kernel)) ggL_law_X9_next
set_option maxRecDepth 20000 in
theorem ggL_law_X10_next : GoodIn wsL_law wsX10_next := goodIn_r _ [293, 116, 204, 205, 206, 5, 207, 147, 148, 149, 150, 151, 152, 153, 154, 155, 117, 156, 914, 915, 916, 917, 918, 919, 920, 921, 922, 923, 924, 925, 926, 927, 928, 929, 930, 931] (by decide +kernel) (by decide +kernel)
set_option maxRecDepth 20000 in
theorem gL_law_X10_next : GoodIn wsL_law (wsV RL 42 RX10 yX10_next wsX10_next) := goodIn_app (goodIn_of _ (by decide +kernel)) ggL_law_X10_next
set_option maxRecDepth 20000 in
theorem ggL_law_X9_rule : GoodIn wsL_law wsX9_rule := goodIn_r _ [297, 28, 32, 298, 299, 2, 300, 301, 302, 303, 31, 304, 85, 305, 306, 307, 308, 86, 309, 310, 311, 312, 87, 135, 136, 137, 27, 138, 76, 75, 77, 139, 140, 141, 142, 313, 314, 315, 316, 904, 905, 906, 907, 908, 909, 910, 911, 912, 913, 946, 947, 948, 949, 950, 951, 952, 943, 944, 945] (by decide +kernel) (by decide +kernel)
set_option maxRecDepth 20000 in
theorem gL_law_X9_rule : GoodIn wsL_law (wsV RL 43 RX9 yX9_rule wsX9_rule) := goodIn_app (goodIn_of _ (by decide +kernel)) ggL_law_X9_rule
set_option maxRecDepth 20000 in
theorem ggL_law_X10_rule : GoodIn wsL_law wsX10_rule := goodIn_r _ [320, 116, 321, 322, 5, 323, 151, 152, 153, 154, 155, 117, 156, 914, 915, 916, 917, 918, 919, 920, 921, 922, 923, 924, 925, 926, 927, 928, 929, 930, 931] (by decide +kernel) (by decide +kernel)
set_option maxRecDepth 20000 in
theorem gL_law_X10_rule : GoodIn wsL_law (wsV RL 47 RX10 yX10_rule wsX10_rule) := goodIn_app (goodIn_of _ (by decide +kernel)) ggL_law_X10_rule
set_option maxRecDepth 20000 in
theorem ggL_law_X9_tie : GoodIn wsL_law wsX9_tie := goodIn_r _ [327, 32, 28, 328, 329, 2, 330, 331, 332, 333, 31, 334, 84, 335, 336, 337, 338, 81, 135, 136, 137, 27, 138, 76, 75, 77, 139, 140, 141, 142, 904, 905, 906, 907, 908, 909, 910, 911, 912, 913, 946, 947, 948, 949, 950, 951, 952, 943, 944, 945] (by decide +kernel) (by decide +kernel)
set_option maxRecDepth 20000 in
theorem gL_law_X9_tie : GoodIn wsL_law (wsV RL 48 RX9 yX9_tie wsX9_tie) := goodIn_app (goodIn_of _ (by decide +kernel)) ggL_law_X9_tie
set_option maxRecDepth 20000 in
theorem ggL_law_X10_tie : GoodIn wsL_law wsX10_tie := goodIn_r _ [342, 116, 151, 152, 153, 5, 154, 155, 117, 156, 914, 915, 916, 917, 918, 919, 920, 921, 922, 923, 924, 925, 926, 927, 928, 929, 930, 931] (by decide +kernel) (by decide +kernel)
set_option maxRecDepth 20000 in
theorem gL_law_X10_tie : GoodIn wsL_law (wsV RL 51 RX10 yX10_tie wsX10_tie) := goodIn_app (goodIn_of _ (by decide +kernel)) ggL_law_X10_tie
set_option maxRecDepth 20000 in
theorem ggL_law_X9_ties : GoodIn wsL_law wsX9_ties := goodIn_r _ [346, 32, 28, 331, 332, 333, 31, 334, 84, 347, 348, 349, 350, 81, 135, 136, 137, 27, 138, 76, 75, 77, 139, 140, 141, 142, 351, 352, 353, 354, 355, 356, 357, 358, 904, 905, 906, 907, 908, 909, 910, 911, 912, 913, 946, 947, 948, 949, 950, 951, 952, 943, 944, 945] (by decide +kernel) (by decide +kernel)
set_option maxRecDepth 20000 in
theorem gL_law_X9_ties : GoodIn wsL_law (wsV RL 52 RX9 yX9_ties wsX9_ties) := goodIn_app (goodIn_of _ (by decide +kernel)) ggL_law_X9_ties
set_option maxRecDepth 20000 in
theorem ggL_law_X10_ties : GoodIn wsL_law wsX10_ties := goodIn_r _ [362, 116, 151, 152, 153, 5, 154, 155, 117, 156, 914, 915, 916, 917, 918, 919, 920, 921, 922, 923, 924, 925, 926, 927, 928, 929, 930, 931] (by decide +kernel) (by decide +kernel)
set_option maxRecDepth 20000 in
theorem gL_law_X10_ties : GoodIn wsL_law (wsV RL 55 RX10 yX10_ties wsX10_ties) := goodIn_app (goodIn_of _ (by decide +kernel)) ggL_law_X10_ties
set_option maxRecDepth 20000 in
theorem ggL_law_X9_meeting : GoodIn wsL_law wsX9_meeting := goodIn_r _ [366, 16, 265, 266, 267, 15, 268, 54, 269, 262, 263, 264, 58, 904, 905, 906, 907, 908, 909, 910, 911, 912, 913, 932, 933, 934, 935, 936, 937] (by decide +kernel) (by decide +kernel)
set_option maxRecDepth 20000 in
theorem gL_law_X9_meeting : GoodIn wsL_law (wsV RL 56 RX9 yX9_meeting wsX9_meeting) := goodIn_app (goodIn_of _ (by decide +kernel)) ggL_law_X9_meeting
set_option maxRecDepth 20000 in
theorem ggL_law_X10_meeting : GoodIn wsL_law wsX10_meeting := goodIn_r _ [370, 116, 914, 915, 916, 917, 918, 919, 920, 921, 922, 923, 924, 925, 926, 927, 928, 929, 930, 931] (by decide +kernel) (by decide +kernel)
set_option maxRecDepth 20000 in
theorem gL_law_X10_meeting : GoodIn wsL_law (wsV RL 59 RX10 yX10_meeting wsX10_meeting) := goodIn_app (goodIn_of _ (by decide +kernel)) ggL_law_X10_meeting
set_option maxRecDepth 20000 in
theorem ggL_law_X9_over : GoodIn wsL_law wsX9_over := goodIn_r _ [374, 16, 165, 166, 167, 2, 168, 169, 170, 171, 172, 49, 375, 376, 377, 15, 378, 55, 904, 905, 906, 907, 908, 909, 910, 911, 912, 913, 932, 933, 934, 935, 936, 937] (by decide +kernel) (by decide +kernel)
set_option maxRecDepth 20000 in
theorem gL_law_X9_over : GoodIn wsL_law (wsV RL 60 RX9 yX9_over wsX9_over) := goodIn_app (goodIn_of _ (by decide +kernel)) ggL_law_X9_over
set_option maxRecDepth 20000 in
theorem ggL_law_X10_over : GoodIn wsL_law wsX10_over := goodIn_r _ [382, 204, 205, 206, 5, 207, 147, 148, 149, 150, 116, 383, 384, 385, 386, 387, 388, 389, 390, 391, 392, 393, 394, 395, 396, 397, 398, 914, 915, 916, 917, 918, 919, 920, 921, 922, 923, 924, 925, 926, 927, 928, 929, 930, 931] (by decide +kernel) (by decide +kernel)
set_option maxRecDepth 20000 in
theorem gL_law_X10_over : GoodIn wsL_law (wsV RL 63 RX10 yX10_over wsX10_over) := goodIn_app (goodIn_of _ (by decide +kernel)) ggL_law_X10_over
