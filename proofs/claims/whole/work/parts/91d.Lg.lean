set_option maxRecDepth 20000 in
theorem ggL_law_X9_gap : GoodIn wsL_law wsX9_gap := goodIn_r _ [582, 49, 16, 40, 169, 170, 171, 2, 172, 583, 584, 585, 15, 586, 539, 540, 587, 588, 589, 590, 591, 453, 454, 455, 456, 376, 377, 378, 55, 457, 413, 414, 415, 56, 541, 542, 592, 593, 594, 39, 595, 98, 596, 597, 598, 599, 97, 600, 601, 449, 450, 451, 57, 602, 603, 604, 605, 606, 607, 608, 609, 610, 611, 612, 613, 614, 615, 616, 617, 618, 619, 141, 620, 621, 622, 623, 624, 904, 905, 906, 907, 908, 909, 910, 911, 912, 913, 932, 933, 934, 935, 936, 937, 955, 956] (by decide +kernel) (by decide +kernel)
set_option maxRecDepth 20000 in
theorem gL_law_X9_gap : GoodIn wsL_law (wsV RL 88 RX9 yX9_gap wsX9_gap) := goodIn_app (goodIn_of _ (by decide +kernel)) ggL_law_X9_gap
set_option maxRecDepth 20000 in
theorem ggL_law_X10_gap : GoodIn wsL_law wsX10_gap := goodIn_r _ [628, 123, 116, 124, 204, 205, 206, 5, 207, 147, 148, 149, 150, 629, 630, 631, 632, 387, 388, 389, 390, 391, 392, 393, 394, 395, 396, 397, 398, 633, 634, 635, 636, 637, 638, 639, 914, 915, 916, 917, 918, 919, 920, 921, 922, 923, 924, 925, 926, 927, 928, 929, 930, 931] (by decide +kernel) (by decide +kernel)
set_option maxRecDepth 20000 in
theorem gL_law_X10_gap : GoodIn wsL_law (wsV RL 92 RX10 yX10_gap wsX10_gap) := goodIn_app (goodIn_of _ (by decide +kernel)) ggL_law_X10_gap
set_option maxRecDepth 20000 in
theorem ggL_law_X9_cost : GoodIn wsL_law wsX9_cost := goodIn_r _ [643, 44, 16, 49, 644, 645, 646, 43, 647, 648, 539, 2, 540, 649, 650, 651, 652, 653, 376, 377, 15, 378, 55, 904, 905, 906, 907, 908, 909, 910, 911, 912, 913, 932, 933, 934, 935, 936, 937] (by decide +kernel) (by decide +kernel)
set_option maxRecDepth 20000 in
theorem gL_law_X9_cost : GoodIn wsL_law (wsV RL 95 RX9 yX9_cost wsX9_cost) := goodIn_app (goodIn_of _ (by decide +kernel)) ggL_law_X9_cost
set_option maxRecDepth 20000 in
theorem ggL_law_X10_cost : GoodIn wsL_law wsX10_cost := goodIn_r _ [657, 128, 658, 147, 148, 149, 5, 150, 116, 659, 660, 661, 662, 125, 383, 384, 385, 386, 387, 388, 389, 390, 391, 392, 393, 394, 395, 396, 397, 398, 663, 664, 665, 666, 914, 915, 916, 917, 918, 919, 920, 921, 922, 923, 924, 925, 926, 927, 928, 929, 930, 931] (by decide +kernel) (by decide +kernel)
set_option maxRecDepth 20000 in
theorem gL_law_X10_cost : GoodIn wsL_law (wsV RL 99 RX10 yX10_cost wsX10_cost) := goodIn_app (goodIn_of _ (by decide +kernel)) ggL_law_X10_cost
set_option maxRecDepth 20000 in
theorem ggL_law_X9_best : GoodIn wsL_law wsX9_best := goodIn_r _ [670, 44, 16, 49, 671, 672, 673, 43, 674, 104, 105, 102, 103, 675, 676, 677, 15, 678, 59, 541, 2, 542, 679, 680, 681, 682, 539, 540, 649, 650, 651, 652, 653, 376, 377, 378, 55, 683, 684, 685, 686, 904, 905, 906, 907, 908, 909, 910, 911, 912, 913, 957, 958, 959, 960, 932, 933, 934, 935, 936, 937] (by decide +kernel) (by decide +kernel)
set_option maxRecDepth 20000 in
theorem gL_law_X9_best : GoodIn wsL_law (wsV RL 100 RX9 yX9_best wsX9_best) := goodIn_app (goodIn_of _ (by decide +kernel)) ggL_law_X9_best
set_option maxRecDepth 20000 in
theorem ggL_law_X10_best : GoodIn wsL_law wsX10_best := goodIn_r _ [690, 126, 691, 692, 693, 5, 694, 127, 695, 659, 660, 661, 662, 125, 147, 148, 149, 150, 116, 383, 384, 385, 386, 387, 388, 389, 390, 391, 392, 393, 394, 395, 396, 397, 398, 663, 664, 665, 666, 914, 915, 916, 917, 918, 919, 920, 921, 922, 923, 924, 925, 926, 927, 928, 929, 930, 931] (by decide +kernel) (by decide +kernel)
set_option maxRecDepth 20000 in
theorem gL_law_X10_best : GoodIn wsL_law (wsV RL 103 RX10 yX10_best wsX10_best) := goodIn_app (goodIn_of _ (by decide +kernel)) ggL_law_X10_best
set_option maxRecDepth 20000 in
theorem ggL_law_X9_rows : GoodIn wsL_law wsX9_rows := goodIn_r _ [699, 44, 16, 49, 671, 672, 673, 43, 674, 104, 105, 102, 103, 675, 676, 677, 15, 678, 59, 541, 2, 542, 679, 680, 681, 682, 539, 540, 649, 650, 651, 652, 653, 376, 377, 378, 55, 700, 701, 702, 703, 904, 905, 906, 907, 908, 909, 910, 911, 912, 913, 957, 958, 959, 960, 932, 933, 934, 935, 936, 937] (by decide +kernel) (by decide +kernel)
set_option maxRecDepth 20000 in
theorem gL_law_X9_rows : GoodIn wsL_law (wsV RL 104 RX9 yX9_rows wsX9_rows) := goodIn_app (goodIn_of _ (by decide +kernel)) ggL_law_X9_rows
set_option maxRecDepth 20000 in
theorem ggL_law_X10_rows : GoodIn wsL_law wsX10_rows := goodIn_r _ [707, 127, 691, 692, 693, 5, 694, 126, 695, 659, 660, 661, 662, 125, 147, 148, 149, 150, 116, 383, 384, 385, 386, 387, 388, 389, 390, 391, 392, 393, 394, 395, 396, 397, 398, 663, 664, 665, 666, 914, 915, 916, 917, 918, 919, 920, 921, 922, 923, 924, 925, 926, 927, 928, 929, 930, 931] (by decide +kernel) (by decide +kernel)
set_option maxRecDepth 20000 in
theorem gL_law_X10_rows : GoodIn wsL_law (wsV RL 107 RX10 yX10_rows wsX10_rows) := goodIn_app (goodIn_of _ (by decide +kernel)) ggL_law_X10_rows
set_option maxRecDepth 20000 in
theorem ggL_law_X9_first : GoodIn wsL_law wsX9_first := goodIn_r _ [711, 44, 16, 49, 671, 672, 673, 43, 674, 104, 105, 102, 103, 675, 676, 677, 15, 678, 59, 541, 2, 542, 679, 680, 681, 682, 539, 540, 649, 650, 651, 652, 653, 376, 377, 378, 55, 712, 713, 714, 715, 648, 716, 717, 718, 719, 904, 905, 906, 907, 908, 909, 910, 911, 912, 913, 957, 958, 959, 960, 932, 933, 934, 935, 936, 937] (by decide +kernel) (by decide +kernel)
set_option maxRecDepth 20000 in
theorem gL_law_X9_first : GoodIn wsL_law (wsV RL 108 RX9 yX9_first wsX9_first) := goodIn_app (goodIn_of _ (by decide +kernel)) ggL_law_X9_first
set_option maxRecDepth 20000 in
theorem ggL_law_X10_first : GoodIn wsL_law wsX10_first := goodIn_r _ [723, 126, 658, 691, 692, 693, 5, 694, 127, 695, 659, 660, 661, 662, 125, 147, 148, 149, 150, 116, 383, 384, 385, 386, 387, 388, 389, 390, 391, 392, 393, 394, 395, 396, 397, 398, 663, 664, 665, 666, 914, 915, 916, 917, 918, 919, 920, 921, 922, 923, 924, 925, 926, 927, 928, 929, 930, 931] (by decide +kernel) (by decide +kernel)
set_option maxRecDepth 20000 in
theorem gL_law_X10_first : GoodIn wsL_law (wsV RL 112 RX10 yX10_first wsX10_first) := goodIn_app (goodIn_of _ (by decide +kernel)) ggL_law_X10_first
set_option maxRecDepth 20000 in
theorem ggL_law_X9_bound : GoodIn wsL_law wsX9_bound := goodIn_r _ [727, 48, 16, 49, 728, 729, 730, 47, 731, 110, 732, 376, 377, 15, 378, 55, 733, 734, 735, 736, 737, 140, 141, 142, 904, 905, 906, 907, 908, 909, 910, 911, 912, 913, 961, 962, 963, 932, 933, 934, 935, 936, 937] (by decide +kernel) (by decide +kernel)
set_option maxRecDepth 20000 in
theorem gL_law_X9_bound : GoodIn wsL_law (wsV RL 113 RX9 yX9_bound wsX9_bound) := goodIn_app (goodIn_of _ (by decide +kernel)) ggL_law_X9_bound
set_option maxRecDepth 20000 in
theorem ggL_law_X10_bound : GoodIn wsL_law wsX10_bound := goodIn_r _ [741, 659, 660, 661, 5, 662, 125, 147, 148, 149, 150, 116, 383, 384, 385, 386, 387, 388, 389, 390, 391, 392, 393, 394, 395, 396, 397, 398, 742, 743, 744, 745, 914, 915, 916, 917, 918, 919, 920, 921, 922, 923, 924, 925, 926, 927, 928, 929, 930, 931] (by decide +kernel) (by decide +kernel)
set_option maxRecDepth 20000 in
theorem gL_law_X10_bound : GoodIn wsL_law (wsV RL 116 RX10 yX10_bound wsX10_bound) := goodIn_app (goodIn_of _ (by decide +kernel)) ggL_law_X10_bound
