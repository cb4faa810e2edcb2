set_option maxRecDepth 20000 in
theorem ggL_law_X9_core : GoodIn wsL_law wsX9_core := goodIn_r _ [750, 48, 16, 49, 751, 752, 753, 47, 754, 755, 756, 757, 758, 109, 733, 376, 377, 15, 378, 55, 541, 2, 542, 759, 760, 761, 762, 539, 540, 763, 764, 465, 765, 766, 767, 768, 901, 902, 903, 904, 905, 906, 907, 908, 909, 910, 958, 959, 960, 929, 930, 931, 932, 933, 934] (by decide +kernel) (by decide +kernel)
set_option maxRecDepth 20000 in
theorem gL_law_X9_core : GoodIn wsL_law (wsV RL 117 RX9 yX9_core wsX9_core) := goodIn_app (goodIn_of _ (by decide +kernel)) ggL_law_X9_core
set_option maxRecDepth 20000 in
theorem ggL_law_X10_core : GoodIn wsL_law wsX10_core := goodIn_r _ [772, 129, 773, 774, 775, 5, 776, 147, 148, 149, 150, 116, 777, 778, 779, 780, 383, 384, 385, 386, 387, 388, 389, 390, 391, 392, 393, 394, 395, 396, 397, 398, 781, 782, 783, 911, 912, 913, 914, 915, 916, 917, 918, 919, 920, 921, 922, 923, 924, 925, 926, 927, 928] (by decide +kernel) (by decide +kernel)
set_option maxRecDepth 20000 in
theorem gL_law_X10_core : GoodIn wsL_law (wsV RL 120 RX10 yX10_core wsX10_core) := goodIn_app (goodIn_of _ (by decide +kernel)) ggL_law_X10_core
set_option maxRecDepth 20000 in
theorem ggL_law_X9_champion : GoodIn wsL_law wsX9_champion := goodIn_r _ [787, 48, 16, 49, 788, 789, 790, 47, 791, 109, 755, 756, 757, 758, 733, 376, 377, 15, 378, 55, 541, 2, 542, 901, 902, 903, 904, 905, 906, 907, 908, 909, 910, 958, 959, 960, 929, 930, 931, 932, 933, 934] (by decide +kernel) (by decide +kernel)
set_option maxRecDepth 20000 in
theorem gL_law_X9_champion : GoodIn wsL_law (wsV RL 121 RX9 yX9_champion wsX9_champion) := goodIn_app (goodIn_of _ (by decide +kernel)) ggL_law_X9_champion
set_option maxRecDepth 20000 in
theorem ggL_law_X10_champion : GoodIn wsL_law wsX10_champion := goodIn_r _ [795, 129, 773, 774, 775, 5, 776, 147, 148, 149, 150, 116, 777, 778, 779, 780, 383, 384, 385, 386, 387, 388, 389, 390, 391, 392, 393, 394, 395, 396, 397, 398, 781, 782, 783, 911, 912, 913, 914, 915, 916, 917, 918, 919, 920, 921, 922, 923, 924, 925, 926, 927, 928] (by decide +kernel) (by decide +kernel)
set_option maxRecDepth 20000 in
theorem gL_law_X10_champion : GoodIn wsL_law (wsV RL 124 RX10 yX10_champion wsX10_champion) := goodIn_app (goodIn_of _ (by decide +kernel)) ggL_law_X10_champion
set_option maxRecDepth 20000 in
theorem ggL_law_X9_walks : GoodIn wsL_law wsX9_walks := goodIn_r _ [799, 48, 16, 49, 800, 801, 802, 47, 803, 111, 755, 756, 757, 758, 109, 733, 376, 377, 15, 378, 55, 804, 805, 806, 807, 541, 2, 542, 808, 809, 810, 811, 539, 540, 901, 902, 903, 904, 905, 906, 907, 908, 909, 910, 958, 959, 960, 929, 930, 931, 932, 933, 934] (by decide +kernel) (by decide +kernel)
set_option maxRecDepth 20000 in
theorem gL_law_X9_walks : GoodIn wsL_law (wsV RL 125 RX9 yX9_walks wsX9_walks) := goodIn_app (goodIn_of _ (by decide +kernel)) ggL_law_X9_walks
set_option maxRecDepth 20000 in
theorem ggL_law_X10_walks : GoodIn wsL_law wsX10_walks := goodIn_r _ [815, 130, 129, 773, 774, 775, 5, 776, 147, 148, 149, 150, 116, 777, 778, 779, 780, 383, 384, 385, 386, 387, 388, 389, 390, 391, 392, 393, 394, 395, 396, 397, 398, 911, 912, 913, 914, 915, 916, 917, 918, 919, 920, 921, 922, 923, 924, 925, 926, 927, 928] (by decide +kernel) (by decide +kernel)
set_option maxRecDepth 20000 in
theorem gL_law_X10_walks : GoodIn wsL_law (wsV RL 128 RX10 yX10_walks wsX10_walks) := goodIn_app (goodIn_of _ (by decide +kernel)) ggL_law_X10_walks
set_option maxRecDepth 20000 in
theorem ggL_law_X9_may : GoodIn wsL_law wsX9_may := goodIn_r _ [819, 24, 16, 49, 169, 170, 171, 2, 172, 820, 821, 822, 23, 823, 70, 824, 825, 826, 827, 828, 376, 377, 15, 378, 55, 829, 413, 414, 415, 56, 541, 542, 830, 831, 832, 833, 69, 539, 540, 834, 835, 465, 836, 837, 901, 902, 903, 904, 905, 906, 907, 908, 909, 910, 937, 938, 939, 929, 930, 931, 932, 933, 934] (by decide +kernel) (by decide +kernel)
set_option maxRecDepth 20000 in
theorem gL_law_X9_may : GoodIn wsL_law (wsV RL 129 RX9 yX9_may wsX9_may) := goodIn_app (goodIn_of _ (by decide +kernel)) ggL_law_X9_may
set_option maxRecDepth 20000 in
theorem ggL_law_X10_may : GoodIn wsL_law wsX10_may := goodIn_r _ [841, 842, 843, 844, 5, 845, 116, 204, 205, 206, 207, 147, 148, 149, 150, 846, 847, 848, 849, 387, 388, 389, 390, 395, 396, 397, 398, 391, 392, 393, 394, 911, 912, 913, 914, 915, 916, 917, 918, 919, 920, 921, 922, 923, 924, 925, 926, 927, 928] (by decide +kernel) (by decide +kernel)
set_option maxRecDepth 20000 in
theorem gL_law_X10_may : GoodIn wsL_law (wsV RL 132 RX10 yX10_may wsX10_may) := goodIn_app (goodIn_of _ (by decide +kernel)) ggL_law_X10_may
set_option maxRecDepth 20000 in
theorem ggL_law_X9_why : GoodIn wsL_law wsX9_why := goodIn_r _ [853, 24, 16, 49, 169, 170, 171, 2, 172, 820, 821, 822, 23, 823, 70, 824, 825, 826, 827, 828, 376, 377, 15, 378, 55, 829, 413, 414, 415, 56, 541, 542, 830, 831, 832, 833, 69, 539, 540, 834, 835, 465, 836, 837, 901, 902, 903, 904, 905, 906, 907, 908, 909, 910, 937, 938, 939, 929, 930, 931, 932, 933, 934] (by decide +kernel) (by decide +kernel)
set_option maxRecDepth 20000 in
theorem gL_law_X9_why : GoodIn wsL_law (wsV RL 133 RX9 yX9_why wsX9_why) := goodIn_app (goodIn_of _ (by decide +kernel)) ggL_law_X9_why
set_option maxRecDepth 20000 in
theorem ggL_law_X10_why : GoodIn wsL_law wsX10_why := goodIn_r _ [845, 116, 204, 205, 206, 5, 207, 147, 148, 149, 150, 846, 847, 848, 849, 387, 388, 389, 390, 395, 396, 397, 398, 391, 392, 393, 394, 911, 912, 913, 914, 915, 916, 917, 918, 919, 920, 921, 922, 923, 924, 925, 926, 927, 928] (by decide +kernel) (by decide +kernel)
set_option maxRecDepth 20000 in
theorem gL_law_X10_why : GoodIn wsL_law (wsV RL 136 RX10 yX10_why wsX10_why) := goodIn_app (goodIn_of _ (by decide +kernel)) ggL_law_X10_why
set_option maxRecDepth 20000 in
theorem ggL_law_X9_undo : GoodIn wsL_law wsX9_undo := goodIn_r _ [858, 28, 859, 860, 861, 27, 862, 77, 863, 864, 865, 2, 866, 49, 16, 24, 32, 867, 868, 869, 870, 75, 871, 872, 873, 874, 76, 875, 876, 877, 15, 878, 58, 879, 271, 272, 273, 54, 188, 189, 190, 191, 269, 262, 263, 264, 192, 193, 194, 195, 57, 55, 56, 59, 880, 185, 186, 187, 286, 287, 288, 23, 289, 69, 71, 313, 314, 315, 31, 316, 85, 86, 87, 331, 332, 333, 334, 84, 351, 352, 353, 354, 355, 140, 141, 142, 356, 357, 358, 881, 882, 883, 884, 335, 336, 337, 338, 81, 885, 886, 887, 888, 901, 902, 903, 904, 905, 906, 907, 908, 909, 910, 940, 941, 942, 929, 930, 931, 932, 933, 934, 937, 938, 939, 943, 944, 945, 946, 947, 948, 949] (by decide +kernel) (by decide +kernel)
set_option maxRecDepth 20000 in
theorem gL_law_X9_undo : GoodIn wsL_law (wsV RL 137 RX9 yX9_undo wsX9_undo) := goodIn_app (goodIn_of _ (by decide +kernel)) ggL_law_X9_undo
set_option maxRecDepth 20000 in
theorem ggL_law_X10_undo : GoodIn wsL_law wsX10_undo := goodIn_r _ [892, 156, 116, 117, 155, 911, 912, 913, 914, 915, 916, 917, 918, 919, 920, 921, 922, 923, 924, 925, 926, 927, 928] (by decide +kernel) (by decide +kernel)
set_option maxRecDepth 20000 in
theorem gL_law_X10_undo : GoodIn wsL_law (wsV RL 140 RX10 yX10_undo wsX10_undo) := goodIn_app (goodIn_of _ (by decide +kernel)) ggL_law_X10_undo
