theorem in_r {big : List Cond} (ws : List Cond) (ps : List Nat) (hp : ws = ps.filterMap (fun i => big[i]?)) : ∀ w ∈ ws, w ∈ big := by
  intro w hw
  rw [hp] at hw
  obtain ⟨i, -, hi⟩ := List.mem_filterMap.mp hw
  exact List.mem_of_getElem? hi
theorem in_app {big a b : List Cond} (h : ∀ w ∈ a, w ∈ big) (g : ∀ w ∈ b, w ∈ big) : ∀ w ∈ a ++ b, w ∈ big := fun w hw => (List.mem_append.mp hw).elim (h w) (g w)
set_option maxRecDepth 20000 in
theorem Lin_r1 : ∀ w ∈ wsL_law_r1, w ∈ lw_tbl := in_r _ [76, 77, 61, 805, 806, 71, 1114, 78, 79, 80, 81, 82, 83, 84, 85, 62, 246, 110, 111, 63, 247, 124, 125, 64] (by decide +kernel)
set_option maxRecDepth 20000 in
theorem Lin_r2 : ∀ w ∈ wsL_law_r2, w ∈ lw_tbl := in_r _ [248, 140, 141, 65, 249, 156, 157, 66, 250, 184, 185, 67, 251, 197, 198, 68, 252, 211, 212, 69, 253, 230, 231, 70] (by decide +kernel)
set_option maxRecDepth 20000 in
theorem Lin_r3 : ∀ w ∈ wsL_law_r3, w ∈ lw_tbl := in_r _ [254, 255, 87, 88, 89, 109, 90, 91, 92, 93, 94, 95, 113, 114, 115, 123, 116, 117, 127, 128, 129, 130, 131, 132] (by decide +kernel)
set_option maxRecDepth 20000 in
theorem Lin_r4 : ∀ w ∈ wsL_law_r4, w ∈ lw_tbl := in_r _ [143, 144, 145, 146, 147, 148, 159, 160, 161, 162, 163, 164, 165, 166, 167, 168, 187, 188, 189, 190, 191, 200, 201, 202] (by decide +kernel)
set_option maxRecDepth 20000 in
theorem Lin_r5 : ∀ w ∈ wsL_law_r5, w ∈ lw_tbl := in_r _ [210, 203, 204, 214, 215, 216, 217, 218, 219, 220, 233, 234, 235, 236, 237, 238, 807, 808, 809, 810, 811, 812, 815, 817] (by decide +kernel)
set_option maxRecDepth 20000 in
theorem Lin_r6 : ∀ w ∈ wsL_law_r6, w ∈ lw_tbl := in_r _ [818, 819, 820, 821, 822, 823, 824, 825, 826, 827, 828, 277, 278, 279, 280, 281, 282, 283, 284, 285, 286, 72, 287, 870] (by decide +kernel)
set_option maxRecDepth 20000 in
theorem Lin_r7 : ∀ w ∈ wsL_law_r7, w ∈ lw_tbl := in_r _ [871, 872, 873, 874, 876, 31, 877, 878, 880, 32, 881, 814, 813, 288, 289, 290, 291, 292, 294, 0, 295, 296, 298, 1] (by decide +kernel)
set_option maxRecDepth 20000 in
theorem Lin_r8 : ∀ w ∈ wsL_law_r8, w ∈ lw_tbl := in_r _ [299, 300, 302, 2, 303, 304, 305, 306, 307, 308, 309, 310, 311, 312, 313, 314, 315, 316, 317, 318, 319, 321, 320, 73] (by decide +kernel)
set_option maxRecDepth 20000 in
theorem Lin_r9 : ∀ w ∈ wsL_law_r9, w ∈ lw_tbl := in_r _ [322, 324, 3, 325, 882, 883, 884, 885, 886, 888, 33, 889, 890, 892, 34, 893, 894, 896, 35, 897, 326, 327, 328, 329] (by decide +kernel)
set_option maxRecDepth 20000 in
theorem Lin_r10 : ∀ w ∈ wsL_law_r10, w ∈ lw_tbl := in_r _ [330, 331, 332, 333, 334, 335, 336, 337, 338, 339, 340, 341, 898, 899, 900, 901, 816, 902, 904, 36, 905, 342, 343, 344] (by decide +kernel)
set_option maxRecDepth 20000 in
theorem Lin_r11 : ∀ w ∈ wsL_law_r11, w ∈ lw_tbl := in_r _ [345, 346, 348, 4, 349, 350, 351, 352, 353, 354, 355, 356, 357, 906, 907, 908, 909, 358, 359, 360, 361, 362, 363, 364] (by decide +kernel)
set_option maxRecDepth 20000 in
theorem Lin_r12 : ∀ w ∈ wsL_law_r12, w ∈ lw_tbl := in_r _ [365, 366, 367, 368, 369, 370, 371, 372, 373, 374, 910, 911, 912, 913, 375, 376, 377, 378, 379, 380, 381, 382, 383, 384] (by decide +kernel)
set_option maxRecDepth 20000 in
theorem Lin_r13 : ∀ w ∈ wsL_law_r13, w ∈ lw_tbl := in_r _ [385, 386, 914, 915, 916, 917, 387, 388, 389, 390, 391, 392, 393, 394, 395, 396, 397, 398, 399, 400, 401, 402, 403, 404] (by decide +kernel)
set_option maxRecDepth 20000 in
theorem Lin_r14 : ∀ w ∈ wsL_law_r14, w ∈ lw_tbl := in_r _ [405, 406, 407, 408, 409, 918, 919, 920, 921, 922, 923, 924, 410, 411, 412, 413, 414, 415, 416, 417, 418, 419, 420, 421] (by decide +kernel)
set_option maxRecDepth 20000 in
theorem Lin_r15 : ∀ w ∈ wsL_law_r15, w ∈ lw_tbl := in_r _ [422, 423, 424, 925, 926, 927, 928, 425, 426, 427, 428, 429, 430, 431, 432, 433, 434, 435, 436, 437, 438, 439, 440, 929] (by decide +kernel)
set_option maxRecDepth 20000 in
theorem Lin_r16 : ∀ w ∈ wsL_law_r16, w ∈ lw_tbl := in_r _ [930, 931, 932, 441, 442, 443, 444, 933, 934, 935, 936, 445, 446, 447, 448, 449, 450, 451, 452, 937, 938, 939, 940, 941] (by decide +kernel)
set_option maxRecDepth 20000 in
theorem Lin_r17 : ∀ w ∈ wsL_law_r17, w ∈ lw_tbl := in_r _ [943, 37, 944, 945, 947, 38, 948, 949, 951, 39, 952, 953, 955, 40, 956, 453, 454, 455, 456, 457, 458, 459, 460, 461] (by decide +kernel)
set_option maxRecDepth 20000 in
theorem Lin_r18 : ∀ w ∈ wsL_law_r18, w ∈ lw_tbl := in_r _ [463, 5, 464, 465, 466, 467, 468, 469, 470, 471, 472, 473, 957, 958, 959, 960, 961, 963, 41, 964, 965, 967, 42, 968] (by decide +kernel)
set_option maxRecDepth 20000 in
theorem Lin_r19 : ∀ w ∈ wsL_law_r19, w ∈ lw_tbl := in_r _ [969, 971, 43, 972, 474, 475, 476, 477, 478, 479, 480, 481, 482, 484, 6, 485, 486, 487, 488, 489, 490, 491, 492, 493] (by decide +kernel)
set_option maxRecDepth 20000 in
theorem Lin_r20 : ∀ w ∈ wsL_law_r20, w ∈ lw_tbl := in_r _ [494, 495, 496, 498, 7, 499, 500, 501, 502, 74, 503, 973, 974, 975, 976, 977, 979, 44, 980, 981, 983, 45, 984, 985] (by decide +kernel)
set_option maxRecDepth 20000 in
theorem Lin_r21 : ∀ w ∈ wsL_law_r21, w ∈ lw_tbl := in_r _ [987, 46, 988, 989, 991, 47, 992, 993, 995, 48, 996, 504, 505, 506, 507, 508, 509, 510, 511, 512, 513, 514, 516, 8] (by decide +kernel)
set_option maxRecDepth 20000 in
theorem Lin_r22 : ∀ w ∈ wsL_law_r22, w ∈ lw_tbl := in_r _ [517, 518, 519, 520, 521, 997, 998, 999, 1000, 522, 523, 524, 525, 526, 527, 528, 529, 1001, 1002, 1003, 1004, 530, 531, 532] (by decide +kernel)
set_option maxRecDepth 20000 in
theorem Lin_r23 : ∀ w ∈ wsL_law_r23, w ∈ lw_tbl := in_r _ [533, 534, 535, 536, 537, 538, 540, 9, 541, 542, 543, 545, 546, 548, 549, 550, 552, 10, 553, 554, 556, 11, 557, 558] (by decide +kernel)
set_option maxRecDepth 20000 in
theorem Lin_r24 : ∀ w ∈ wsL_law_r24, w ∈ lw_tbl := in_r _ [560, 12, 561, 1005, 1006, 1007, 1008, 1009, 1011, 49, 1012, 1013, 1015, 50, 1016, 562, 563, 564, 565, 566, 567, 568, 569, 1017] (by decide +kernel)
set_option maxRecDepth 20000 in
theorem Lin_r25 : ∀ w ∈ wsL_law_r25, w ∈ lw_tbl := in_r _ [1018, 1019, 1020, 570, 571, 572, 573, 574, 575, 576, 577, 579, 581, 13, 582, 583, 585, 586, 587, 588, 589, 591, 14, 592] (by decide +kernel)
set_option maxRecDepth 20000 in
theorem Lin_r26 : ∀ w ∈ wsL_law_r26, w ∈ lw_tbl := in_r _ [593, 594, 595, 597, 15, 598, 599, 600, 601, 602, 603, 605, 16, 606, 607, 609, 17, 610, 611, 612, 613, 614, 615, 616] (by decide +kernel)
set_option maxRecDepth 20000 in
theorem Lin_r27 : ∀ w ∈ wsL_law_r27, w ∈ lw_tbl := in_r _ [617, 1021, 1022, 1023, 1024, 1025, 1027, 51, 1028, 1029, 1031, 52, 1032, 1033, 1034, 1035, 618, 619, 620, 621, 622, 623, 624, 625] (by decide +kernel)
set_option maxRecDepth 20000 in
theorem Lin_r28 : ∀ w ∈ wsL_law_r28, w ∈ lw_tbl := in_r _ [626, 628, 630, 18, 631, 632, 1036, 1037, 1038, 1039, 1040, 1041, 1043, 53, 1044, 1045, 1047, 54, 1048, 633, 634, 635, 636, 637] (by decide +kernel)
set_option maxRecDepth 20000 in
theorem Lin_r29 : ∀ w ∈ wsL_law_r29, w ∈ lw_tbl := in_r _ [638, 639, 640, 641, 642, 643, 644, 646, 648, 19, 649, 650, 651, 652, 653, 1049, 1050, 1051, 1052, 1053, 1055, 55, 1056, 1057] (by decide +kernel)
set_option maxRecDepth 20000 in
theorem Lin_r30 : ∀ w ∈ wsL_law_r30, w ∈ lw_tbl := in_r _ [654, 655, 656, 657, 658, 659, 660, 661, 1058, 1059, 1060, 1061, 662, 663, 664, 665, 666, 667, 668, 669, 670, 672, 20, 673] (by decide +kernel)
set_option maxRecDepth 20000 in
theorem Lin_r31 : ∀ w ∈ wsL_law_r31, w ∈ lw_tbl := in_r _ [1062, 1063, 1064, 1065, 674, 675, 676, 677, 678, 679, 680, 681, 682, 683, 685, 21, 686, 687, 1066, 1067, 1068, 1069, 1070, 1072] (by decide +kernel)
set_option maxRecDepth 20000 in
theorem Lin_r32 : ∀ w ∈ wsL_law_r32, w ∈ lw_tbl := in_r _ [56, 1073, 688, 689, 690, 691, 692, 693, 694, 695, 696, 698, 22, 699, 701, 703, 23, 704, 706, 707, 708, 709, 710, 711] (by decide +kernel)
set_option maxRecDepth 20000 in
theorem Lin_r33 : ∀ w ∈ wsL_law_r33, w ∈ lw_tbl := in_r _ [1074, 1075, 1076, 1077, 1078, 1080, 57, 1081, 1082, 1084, 58, 1085, 1086, 1087, 1088, 712, 713, 714, 715, 716, 717, 718, 719, 1089] (by decide +kernel)
set_option maxRecDepth 20000 in
theorem Lin_r34 : ∀ w ∈ wsL_law_r34, w ∈ lw_tbl := in_r _ [1090, 1091, 1092, 720, 721, 722, 723, 724, 725, 726, 727, 728, 730, 24, 731, 732, 733, 75, 734, 735, 737, 25, 738, 1093] (by decide +kernel)
set_option maxRecDepth 20000 in
theorem Lin_r35 : ∀ w ∈ wsL_law_r35, w ∈ lw_tbl := in_r _ [1094, 1095, 1096, 739, 740, 741, 742, 743, 744, 745, 746, 747, 749, 26, 750, 751, 752, 754, 756, 27, 757, 759, 760, 761] (by decide +kernel)
set_option maxRecDepth 20000 in
theorem Lin_r36 : ∀ w ∈ wsL_law_r36, w ∈ lw_tbl := in_r _ [762, 1105, 1106, 1107, 1108, 1109, 1098, 1099, 1100, 1101, 1103, 59, 1104, 763, 764, 765, 766, 1097, 767, 768, 769, 770, 771, 772] (by decide +kernel)
set_option maxRecDepth 20000 in
theorem Lin_r37 : ∀ w ∈ wsL_law_r37, w ∈ lw_tbl := in_r _ [773, 774, 775, 777, 28, 778, 779, 780, 781, 782, 783, 785, 29, 786, 787, 788, 789, 790, 791, 792, 793, 795, 30, 796] (by decide +kernel)
set_option maxRecDepth 20000 in
theorem Lin_r38 : ∀ w ∈ wsL_law_r38, w ∈ lw_tbl := in_r _ [797, 798, 799, 800, 866, 867, 868, 869, 801, 802, 803, 804, 1110, 1111, 1112, 1113] (by decide +kernel)
set_option maxRecDepth 20000 in
theorem Lin_X9 : ∀ w ∈ wsX90, w ∈ lw_tbl := in_r _ [256, 258, 260, 262, 264, 266, 268, 270, 272, 274] (by decide +kernel)
set_option maxRecDepth 20000 in
theorem Lin_X10 : ∀ w ∈ wsX100, w ∈ lw_tbl := in_r _ [829, 831, 833, 835, 837, 839, 841, 843, 845, 847, 849, 851, 853, 855, 857, 859, 861, 863] (by decide +kernel)
set_option maxRecDepth 20000 in
theorem Lin_X4 : ∀ w ∈ wsX40, w ∈ lw_tbl := in_r _ [96, 98, 100, 102, 104, 106] (by decide +kernel)
set_option maxRecDepth 20000 in
theorem Lin_X7 : ∀ w ∈ wsX70, w ∈ lw_tbl := in_r _ [118, 120] (by decide +kernel)
set_option maxRecDepth 20000 in
theorem Lin_X8 : ∀ w ∈ wsX80, w ∈ lw_tbl := in_r _ [133, 135, 137] (by decide +kernel)
set_option maxRecDepth 20000 in
theorem Lin_X0 : ∀ w ∈ wsX00, w ∈ lw_tbl := in_r _ [149, 151, 153] (by decide +kernel)
set_option maxRecDepth 20000 in
theorem Lin_X6 : ∀ w ∈ wsX60, w ∈ lw_tbl := in_r _ [169, 171, 173, 175, 177, 179, 181] (by decide +kernel)
set_option maxRecDepth 20000 in
theorem Lin_X3 : ∀ w ∈ wsX30, w ∈ lw_tbl := in_r _ [192, 194] (by decide +kernel)
set_option maxRecDepth 20000 in
theorem Lin_X2 : ∀ w ∈ wsX20, w ∈ lw_tbl := in_r _ [205, 207] (by decide +kernel)
set_option maxRecDepth 20000 in
theorem Lin_X5 : ∀ w ∈ wsX50, w ∈ lw_tbl := in_r _ [221, 223, 225, 227] (by decide +kernel)
set_option maxRecDepth 20000 in
theorem Lin_X1 : ∀ w ∈ wsX10, w ∈ lw_tbl := in_r _ [239, 241, 243] (by decide +kernel)
theorem wsL_law_in : ∀ w ∈ wsL_law, w ∈ lw_tbl := in_app (in_app (in_app (in_app (in_app (in_app (in_app (in_app (in_app (in_app (in_app (in_app (in_app Lin_r1 (in_app Lin_r2 (in_app Lin_r3 (in_app Lin_r4 (in_app Lin_r5 (in_app Lin_r6 (in_app Lin_r7 (in_app Lin_r8 (in_app Lin_r9 (in_app Lin_r10 (in_app Lin_r11 (in_app Lin_r12 (in_app Lin_r13 (in_app Lin_r14 (in_app Lin_r15 (in_app Lin_r16 (in_app Lin_r17 (in_app Lin_r18 (in_app Lin_r19 (in_app Lin_r20 (in_app Lin_r21 (in_app Lin_r22 (in_app Lin_r23 (in_app Lin_r24 (in_app Lin_r25 (in_app Lin_r26 (in_app Lin_r27 (in_app Lin_r28 (in_app Lin_r29 (in_app Lin_r30 (in_app Lin_r31 (in_app Lin_r32 (in_app Lin_r33 (in_app Lin_r34 (in_app Lin_r35 (in_app Lin_r36 (in_app Lin_r37 Lin_r38))))))))))))))))))))))))))))))))))))) Lin_X9) Lin_X10) Lin_X4) Lin_X7) Lin_X8) Lin_X0) Lin_X6) Lin_X3) Lin_X2) Lin_X5) Lin_X1) (fun w h => nomatch h)
