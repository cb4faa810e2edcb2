set_option maxRecDepth 20000 in
theorem ggL_law_X9_score : GoodIn wsL_law wsX9_score := goodIn_r _ [402, 32, 16, 49, 169, 170, 171, 2, 172, 403, 404, 405, 31, 406, 82, 407, 408, 409, 410, 85, 86, 87, 411, 376, 377, 15, 378, 55, 412, 413, 414, 415, 56, 416, 417, 418, 419, 904, 905, 906, 907, 908, 909, 910, 911, 912, 913, 946, 947, 948, 949, 950, 951, 952, 932, 933, 934, 935, 936, 937] (by decide +kernel) (by decide +kernel)
set_option maxRecDepth 20000 in
theorem gL_law_X9_score : GoodIn wsL_law (wsV RL 64 RX9 yX9_score wsX9_score) := goodIn_app (goodIn_of _ (by decide +kernel)) ggL_law_X9_score
set_option maxRecDepth 20000 in
theorem ggL_law_X10_score : GoodIn wsL_law wsX10_score := goodIn_r _ [423, 204, 205, 206, 5, 207, 147, 148, 149, 150, 116, 424, 425, 426, 427, 428, 429, 430, 431, 387, 388, 389, 390, 391, 392, 393, 394, 395, 396, 397, 398, 432, 433, 434, 435, 914, 915, 916, 917, 918, 919, 920, 921, 922, 923, 924, 925, 926, 927, 928, 929, 930, 931] (by decide +kernel) (by decide +kernel)
set_option maxRecDepth 20000 in
theorem gL_law_X10_score : GoodIn wsL_law (wsV RL 67 RX10 yX10_score wsX10_score) := goodIn_app (goodIn_of _ (by decide +kernel)) ggL_law_X10_score
set_option maxRecDepth 20000 in
theorem ggL_law_X9_number : GoodIn wsL_law wsX9_number := goodIn_r _ [439, 32, 16, 49, 328, 329, 2, 330, 169, 170, 171, 172, 403, 404, 405, 31, 406, 82, 407, 408, 409, 410, 85, 86, 87, 411, 376, 377, 15, 378, 55, 412, 413, 414, 415, 56, 440, 441, 442, 443, 444, 445, 446, 447, 448, 449, 450, 451, 57, 452, 453, 454, 455, 456, 457, 458, 459, 460, 461, 462, 417, 418, 419, 463, 464, 465, 466, 416, 904, 905, 906, 907, 908, 909, 910, 911, 912, 913, 946, 947, 948, 949, 950, 951, 952, 932, 933, 934, 935, 936, 937] (by decide +kernel) (by decide +kernel)
set_option maxRecDepth 20000 in
theorem gL_law_X9_number : GoodIn wsL_law (wsV RL 68 RX9 yX9_number wsX9_number) := goodIn_app (goodIn_of _ (by decide +kernel)) ggL_law_X9_number
set_option maxRecDepth 20000 in
theorem ggL_law_X10_number : GoodIn wsL_law wsX10_number := goodIn_r _ [470, 204, 205, 206, 5, 207, 147, 148, 149, 150, 116, 471, 472, 473, 474, 119, 120, 424, 425, 426, 427, 428, 429, 430, 431, 387, 388, 389, 390, 391, 392, 393, 394, 395, 396, 397, 398, 432, 433, 434, 435, 475, 476, 477, 478, 479, 480, 481, 482, 483, 484, 485, 486, 487, 488, 489, 490, 914, 915, 916, 917, 918, 919, 920, 921, 922, 923, 924, 925, 926, 927, 928, 929, 930, 931] (by decide +kernel) (by decide +kernel)
set_option maxRecDepth 20000 in
theorem gL_law_X10_number : GoodIn wsL_law (wsV RL 71 RX10 yX10_number wsX10_number) := goodIn_app (goodIn_of _ (by decide +kernel)) ggL_law_X10_number
set_option maxRecDepth 20000 in
theorem ggL_law_X9_table : GoodIn wsL_law wsX9_table := goodIn_r _ [494, 32, 16, 49, 169, 170, 171, 2, 172, 495, 496, 497, 31, 498, 84, 81, 499, 404, 405, 406, 82, 407, 408, 409, 410, 85, 86, 87, 411, 376, 377, 15, 378, 55, 412, 413, 414, 415, 56, 500, 441, 442, 443, 444, 445, 446, 447, 448, 449, 450, 451, 57, 452, 453, 454, 455, 456, 457, 458, 459, 460, 461, 462, 417, 418, 419, 463, 464, 465, 466, 501, 502, 503, 504, 83, 505, 506, 507, 508, 904, 905, 906, 907, 908, 909, 910, 911, 912, 913, 946, 947, 948, 949, 950, 951, 952, 932, 933, 934, 935, 936, 937] (by decide +kernel) (by decide +kernel)
set_option maxRecDepth 20000 in
theorem gL_law_X9_table : GoodIn wsL_law (wsV RL 72 RX9 yX9_table wsX9_table) := goodIn_app (goodIn_of _ (by decide +kernel)) ggL_law_X9_table
set_option maxRecDepth 20000 in
theorem ggL_law_X10_table : GoodIn wsL_law wsX10_table := goodIn_r _ [512, 120, 471, 472, 473, 5, 474, 119, 116, 147, 148, 149, 150, 424, 425, 426, 427, 428, 429, 430, 431, 387, 388, 389, 390, 391, 392, 393, 394, 395, 396, 397, 398, 432, 433, 434, 435, 475, 476, 477, 478, 479, 480, 481, 482, 483, 484, 485, 486, 487, 488, 489, 490, 914, 915, 916, 917, 918, 919, 920, 921, 922, 923, 924, 925, 926, 927, 928, 929, 930, 931] (by decide +kernel) (by decide +kernel)
set_option maxRecDepth 20000 in
theorem gL_law_X10_table : GoodIn wsL_law (wsV RL 75 RX10 yX10_table wsX10_table) := goodIn_app (goodIn_of _ (by decide +kernel)) ggL_law_X10_table
set_option maxRecDepth 20000 in
theorem ggL_law_X9_tied : GoodIn wsL_law wsX9_tied := goodIn_r _ [516, 49, 32, 16, 169, 170, 171, 2, 172, 495, 496, 497, 31, 498, 84, 81, 499, 404, 405, 406, 82, 407, 408, 409, 410, 85, 86, 87, 411, 376, 377, 15, 378, 55, 412, 413, 414, 415, 56, 500, 441, 442, 443, 444, 445, 446, 447, 448, 449, 450, 451, 57, 452, 453, 454, 455, 456, 457, 458, 459, 460, 461, 462, 417, 418, 419, 463, 464, 465, 466, 501, 502, 503, 504, 83, 517, 518, 519, 520, 904, 905, 906, 907, 908, 909, 910, 911, 912, 913, 946, 947, 948, 949, 950, 951, 952, 932, 933, 934, 935, 936, 937] (by decide +kernel) (by decide +kernel)
set_option maxRecDepth 20000 in
theorem gL_law_X9_tied : GoodIn wsL_law (wsV RL 76 RX9 yX9_tied wsX9_tied) := goodIn_app (goodIn_of _ (by decide +kernel)) ggL_law_X9_tied
set_option maxRecDepth 20000 in
theorem ggL_law_X10_tied : GoodIn wsL_law wsX10_tied := goodIn_r _ [524, 120, 471, 472, 473, 5, 474, 119, 116, 147, 148, 149, 150, 424, 425, 426, 427, 428, 429, 430, 431, 387, 388, 389, 390, 391, 392, 393, 394, 395, 396, 397, 398, 432, 433, 434, 435, 475, 476, 477, 478, 479, 480, 481, 482, 483, 484, 485, 486, 487, 488, 489, 490, 914, 915, 916, 917, 918, 919, 920, 921, 922, 923, 924, 925, 926, 927, 928, 929, 930, 931] (by decide +kernel) (by decide +kernel)
set_option maxRecDepth 20000 in
theorem gL_law_X10_tied : GoodIn wsL_law (wsV RL 79 RX10 yX10_tied wsX10_tied) := goodIn_app (goodIn_of _ (by decide +kernel)) ggL_law_X10_tied
set_option maxRecDepth 20000 in
theorem ggL_law_X9_heaps : GoodIn wsL_law wsX9_heaps := goodIn_r _ [528, 36, 16, 49, 529, 530, 531, 35, 532, 533, 534, 535, 536, 91, 537, 376, 377, 15, 378, 55, 538, 413, 414, 415, 56, 539, 2, 540, 541, 542, 543, 544, 545, 546, 547, 548, 549, 550, 551, 552, 553, 554, 92, 904, 905, 906, 907, 908, 909, 910, 911, 912, 913, 953, 954, 932, 933, 934, 935, 936, 937] (by decide +kernel) (by decide +kernel)
set_option maxRecDepth 20000 in
theorem gL_law_X9_heaps : GoodIn wsL_law (wsV RL 80 RX9 yX9_heaps wsX9_heaps) := goodIn_app (goodIn_of _ (by decide +kernel)) ggL_law_X9_heaps
set_option maxRecDepth 20000 in
theorem ggL_law_X10_heaps : GoodIn wsL_law wsX10_heaps := goodIn_r _ [558, 559, 560, 561, 5, 562, 121, 122, 116, 147, 148, 149, 150, 395, 396, 397, 398, 387, 388, 389, 390, 391, 392, 393, 394, 563, 564, 565, 566, 914, 915, 916, 917, 918, 919, 920, 921, 922, 923, 924, 925, 926, 927, 928, 929, 930, 931] (by decide +kernel) (by decide +kernel)
set_option maxRecDepth 20000 in
theorem gL_law_X10_heaps : GoodIn wsL_law (wsV RL 83 RX10 yX10_heaps wsX10_heaps) := goodIn_app (goodIn_of _ (by decide +kernel)) ggL_law_X10_heaps
set_option maxRecDepth 20000 in
theorem ggL_law_X9_heap : GoodIn wsL_law wsX9_heap := goodIn_r _ [570, 36, 16, 49, 169, 170, 171, 2, 172, 529, 530, 531, 35, 532, 533, 534, 535, 536, 91, 537, 376, 377, 15, 378, 55, 538, 413, 414, 415, 56, 539, 540, 541, 542, 543, 544, 545, 546, 547, 548, 549, 550, 551, 552, 553, 554, 92, 571, 572, 573, 574, 904, 905, 906, 907, 908, 909, 910, 911, 912, 913, 953, 954, 932, 933, 934, 935, 936, 937] (by decide +kernel) (by decide +kernel)
set_option maxRecDepth 20000 in
theorem gL_law_X9_heap : GoodIn wsL_law (wsV RL 84 RX9 yX9_heap wsX9_heap) := goodIn_app (goodIn_of _ (by decide +kernel)) ggL_law_X9_heap
set_option maxRecDepth 20000 in
theorem ggL_law_X10_heap : GoodIn wsL_law wsX10_heap := goodIn_r _ [578, 122, 204, 205, 206, 5, 207, 147, 148, 149, 150, 116, 559, 560, 561, 562, 121, 395, 396, 397, 398, 387, 388, 389, 390, 391, 392, 393, 394, 563, 564, 565, 566, 914, 915, 916, 917, 918, 919, 920, 921, 922, 923, 924, 925, 926, 927, 928, 929, 930, 931] (by decide +kernel) (by decide +kernel)
set_option maxRecDepth 20000 in
theorem gL_law_X10_heap : GoodIn wsL_law (wsV RL 87 RX10 yX10_heap wsX10_heap) := goodIn_app (goodIn_of _ (by decide +kernel)) ggL_law_X10_heap
