set_option maxRecDepth 20000 in
theorem ggL_law_X9_core : GoodIn wsL_law wsX9_core := goodIn_r _ [749, 48, 16, 49, 750, 751, 752, 47, 753, 754, 755, 756, 757, 109, 732, 376, 377, 15, 378, 55, 541, 2, 542, 758, 759, 760, 761, 539, 540, 762, 763, 465, 764, 765, 766, 767, 904, 905, 906, 907, 908, 909, 910, 911, 912, 913, 961, 962, 963, 932, 933, 934, 935, 936, 937] (by decide +kernel) (by decide +kernel)
set_option maxRecDepth 20000 in
theorem gL_law_X9_core : GoodIn wsL_law (wsV RL 117 RX9 yX9_core wsX9_core) := goodIn_app (goodIn_of _ (by decide +kernel)) ggL_law_X9_core
set_option maxRecDepth 20000 in
theorem ggL_law_X10_core : GoodIn wsL_law wsX10_core := goodIn_r _ [771, 129, 772, 773, 774, 5, 775, 147, 148, 149, 150, 116, 776, 777, 778, 779, 383, 384, 385, 386, 387, 388, 389, 390, 391, 392, 393, 394, 395, 396, 397, 398, 780, 781, 782, 914, 915, 916, 917, 918, 919, 920, 921, 922, 923, 924, 925, 926, 927, 928, 929, 930, 931] (by decide +kernel) (by decide +kernel)
set_option maxRecDepth 20000 in
theorem gL_law_X10_core : GoodIn wsL_law (wsV RL 120 RX10 yX10_core wsX10_core) := goodIn_app (goodIn_of _ (by decide +kernel)) ggL_law_X10_core
set_option maxRecDepth 20000 in
theorem ggL_law_X9_champion : GoodIn wsL_law wsX9_champion := goodIn_r _ [786, 48, 16, 49, 787, 788, 789, 47, 790, 109, 754, 755, 756, 757, 732, 376, 377, 15, 378, 55, 541, 2, 542, 904, 905, 906, 907, 908, 909, 910, 911, 912, 913, 961, 962, 963, 932, 933, 934, 935, 936, 937] (by decide +kernel) (by decide +kernel)
set_option maxRecDepth 20000 in
theorem gL_law_X9_champion : GoodIn wsL_law (wsV RL 121 RX9 yX9_champion wsX9_champion) := goodIn_app (goodIn_of _ (by decide +kernel)) ggL_law_X9_champion
set_option maxRecDepth 20000 in
theorem ggL_law_X10_champion : GoodIn wsL_law wsX10_champion := goodIn_r _ [794, 129, 772, 773, 774, 5, 775, 147, 148, 149, 150, 116, 776, 777, 778, 779, 383, 384, 385, 386, 387, 388, 389, 390, 391, 392, 393, 394, 395, 396, 397, 398, 780, 781, 782, 914, 915, 916, 917, 918, 919, 920, 921, 922, 923, 924, 925, 926, 927, 928, 929, 930, 931] (by decide +kernel) (by decide +kernel)
set_option maxRecDepth 20000 in
theorem gL_law_X10_champion : GoodIn wsL_law (wsV RL 124 RX10 yX10_champion wsX10_champion) := goodIn_app (goodIn_of _ (by decide +kernel)) ggL_law_X10_champion
set_option maxRecDepth 20000 in
theorem ggL_law_X9_walks : GoodIn wsL_law wsX9_walks := goodIn_r _ [798, 48, 16, 49, 799, 800, 801, 47, 802, 111, 754, 755, 756, 757, 109, 732, 376, 377, 15, 378, 55, 803, 804, 805, 806, 53, 807, 808, 809, 810, 541, 2, 542, 811, 812, 813, 814, 539, 540, 904, 905, 906, 907, 908, 909, 910, 911, 912, 913, 961, 962, 963, 932, 933, 934, 935, 936, 937] (by decide +kernel) (by decide +kernel)
set_option maxRecDepth 20000 in
theorem gL_law_X9_walks : GoodIn wsL_law (wsV RL 125 RX9 yX9_walks wsX9_walks) := goodIn_app (goodIn_of _ (by decide +kernel)) ggL_law_X9_walks
set_option maxRecDepth 20000 in
theorem ggL_law_X10_walks : GoodIn wsL_law wsX10_walks := goodIn_r _ [818, 130, 129, 772, 773, 774, 5, 775, 147, 148, 149, 150, 116, 776, 777, 778, 779, 383, 384, 385, 386, 387, 388, 389, 390, 391, 392, 393, 394, 395, 396, 397, 398, 914, 915, 916, 917, 918, 919, 920, 921, 922, 923, 924, 925, 926, 927, 928, 929, 930, 931] (by decide +kernel) (by decide +kernel)
set_option maxRecDepth 20000 in
theorem gL_law_X10_walks : GoodIn wsL_law (wsV RL 128 RX10 yX10_walks wsX10_walks) := goodIn_app (goodIn_of _ (by decide +kernel)) ggL_law_X10_walks
set_option maxRecDepth 20000 in
theorem ggL_law_X9_may : GoodIn wsL_law wsX9_may := goodIn_r _ [822, 24, 16, 49, 169, 170, 171, 2, 172, 823, 824, 825, 23, 826, 70, 827, 828, 829, 830, 831, 376, 377, 15, 378, 55, 832, 413, 414, 415, 56, 541, 542, 833, 834, 835, 836, 69, 539, 540, 837, 838, 465, 839, 840, 904, 905, 906, 907, 908, 909, 910, 911, 912, 913, 940, 941, 942, 932, 933, 934, 935, 936, 937] (by decide +kernel) (by decide +kernel)
set_option maxRecDepth 20000 in
theorem gL_law_X9_may : GoodIn wsL_law (wsV RL 129 RX9 yX9_may wsX9_may) := goodIn_app (goodIn_of _ (by decide +kernel)) ggL_law_X9_may
set_option maxRecDepth 20000 in
theorem ggL_law_X10_may : GoodIn wsL_law wsX10_may := goodIn_r _ [844, 845, 846, 847, 5, 848, 116, 204, 205, 206, 207, 147, 148, 149, 150, 849, 850, 851, 852, 387, 388, 389, 390, 395, 396, 397, 398, 391, 392, 393, 394, 914, 915, 916, 917, 918, 919, 920, 921, 922, 923, 924, 925, 926, 927, 928, 929, 930, 931] (by decide +kernel) (by decide +kernel)
set_option maxRecDepth 20000 in
theorem gL_law_X10_may : GoodIn wsL_law (wsV RL 132 RX10 yX10_may wsX10_may) := goodIn_app (goodIn_of _ (by decide +kernel)) ggL_law_X10_may
set_option maxRecDepth 20000 in
theorem ggL_law_X9_why : GoodIn wsL_law wsX9_why := goodIn_r _ [856, 24, 16, 49, 169, 170, 171, 2, 172, 823, 824, 825, 23, 826, 70, 827, 828, 829, 830, 831, 376, 377, 15, 378, 55, 832, 413, 414, 415, 56, 541, 542, 833, 834, 835, 836, 69, 539, 540, 837, 838, 465, 839, 840, 904, 905, 906, 907, 908, 909, 910, 911, 912, 913, 940, 941, 942, 932, 933, 934, 935, 936, 937] (by decide +kernel) (by decide +kernel)
set_option maxRecDepth 20000 in
theorem gL_law_X9_why : GoodIn wsL_law (wsV RL 133 RX9 yX9_why wsX9_why) := goodIn_app (goodIn_of _ (by decide +kernel)) ggL_law_X9_why
set_option maxRecDepth 20000 in
theorem ggL_law_X10_why : GoodIn wsL_law wsX10_why := goodIn_r _ [848, 116, 204, 205, 206, 5, 207, 147, 148, 149, 150, 849, 850, 851, 852, 387, 388, 389, 390, 395, 396, 397, 398, 391, 392, 393, 394, 914, 915, 916, 917, 918, 919, 920, 921, 922, 923, 924, 925, 926, 927, 928, 929, 930, 931] (by decide +kernel) (by decide +kernel)
set_option maxRecDepth 20000 in
theorem gL_law_X10_why : GoodIn wsL_law (wsV RL 136 RX10 yX10_why wsX10_why) := goodIn_app (goodIn_of _ (by decide +kernel)) ggL_law_X10_why
set_option maxRecDepth 20000 in
theorem ggL_law_X9_undo : GoodIn wsL_law wsX9_undo := goodIn_r _ [861, 28, 862, 863, 864, 27, 865, 77, 866, 867, 868, 2, 869, 49, 16, 24, 32, 870, 871, 872, 873, 75, 874, 875, 876, 877, 76, 878, 879, 880, 15, 881, 58, 882, 271, 272, 273, 54, 188, 189, 190, 191, 269, 262, 263, 264, 192, 193, 194, 195, 57, 55, 56, 59, 883, 185, 186, 187, 286, 287, 288, 23, 289, 69, 71, 313, 314, 315, 31, 316, 85, 86, 87, 331, 332, 333, 334, 84, 351, 352, 353, 354, 355, 140, 141, 142, 356, 357, 358, 884, 885, 886, 887, 335, 336, 337, 338, 81, 888, 889, 890, 891, 904, 905, 906, 907, 908, 909, 910, 911, 912, 913, 943, 944, 945, 932, 933, 934, 935, 936, 937, 940, 941, 942, 946, 947, 948, 949, 950, 951, 952] (by decide +kernel) (by decide +kernel)
set_option maxRecDepth 20000 in
theorem gL_law_X9_undo : GoodIn wsL_law (wsV RL 137 RX9 yX9_undo wsX9_undo) := goodIn_app (goodIn_of _ (by decide +kernel)) ggL_law_X9_undo
set_option maxRecDepth 20000 in
theorem ggL_law_X10_undo : GoodIn wsL_law wsX10_undo := goodIn_r _ [895, 156, 116, 117, 155, 914, 915, 916, 917, 918, 919, 920, 921, 922, 923, 924, 925, 926, 927, 928, 929, 930, 931] (by decide +kernel) (by decide +kernel)
set_option maxRecDepth 20000 in
theorem gL_law_X10_undo : GoodIn wsL_law (wsV RL 140 RX10 yX10_undo wsX10_undo) := goodIn_app (goodIn_of _ (by decide +kernel)) ggL_law_X10_undo
