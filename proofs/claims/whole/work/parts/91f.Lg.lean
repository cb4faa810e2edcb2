set_option maxRecDepth 20000 in
theorem ggL_law_X9_about : GoodIn wsL_law wsX9_about := goodIn_r _ [899, 49, 16, 24, 32, 28, 20, 176, 177, 178, 15, 179, 58, 282, 283, 284, 23, 285, 71, 331, 332, 333, 31, 334, 84, 862, 863, 864, 27, 865, 77, 224, 225, 226, 19, 227, 65, 583, 584, 585, 586, 539, 2, 540, 587, 588, 589, 590, 591, 453, 454, 455, 456, 376, 377, 378, 55, 457, 413, 414, 415, 56, 541, 542, 904, 905, 906, 907, 908, 909, 910, 911, 912, 913, 932, 933, 934, 935, 936, 937, 940, 941, 942, 946, 947, 948, 949, 950, 951, 952, 943, 944, 945, 938, 939] (by decide +kernel) (by decide +kernel)
set_option maxRecDepth 20000 in
theorem gL_law_X9_about : GoodIn wsL_law (wsV RL 141 RX9 yX9_about wsX9_about) := goodIn_app (goodIn_of _ (by decide +kernel)) ggL_law_X9_about
set_option maxRecDepth 20000 in
theorem ggL_law_X10_about : GoodIn wsL_law wsX10_about := goodIn_r _ [903, 116, 156, 232, 147, 148, 149, 5, 150, 629, 630, 631, 632, 387, 388, 389, 390, 391, 392, 393, 394, 914, 915, 916, 917, 918, 919, 920, 921, 922, 923, 924, 925, 926, 927, 928, 929, 930, 931] (by decide +kernel) (by decide +kernel)
set_option maxRecDepth 20000 in
theorem gL_law_X10_about : GoodIn wsL_law (wsV RL 144 RX10 yX10_about wsX10_about) := goodIn_app (goodIn_of _ (by decide +kernel)) ggL_law_X10_about
