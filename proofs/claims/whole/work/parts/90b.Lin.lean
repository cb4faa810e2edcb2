theorem in_r {big : List Cond} (ws : List Cond) (ps : List Nat) (hp : ws = ps.filterMap (fun i => big[i]?)) : ∀ w ∈ ws, w ∈ big := by
  intro w hw
  rw [hp] at hw
  obtain ⟨i, -, hi⟩ := List.mem_filterMap.mp hw
  exact List.mem_of_getElem? hi
theorem in_app {big a b : List Cond} (h : ∀ w ∈ a, w ∈ big) (g : ∀ w ∈ b, w ∈ big) : ∀ w ∈ a ++ b, w ∈ big := fun w hw => (List.mem_append.mp hw).elim (h w) (g w)
set_option maxRecDepth 20000 in
theorem Lin_r1 : ∀ w ∈ wsL_law_r1, w ∈ lw_tbl := in_r _ [75, 76, 60, 801, 802, 70, 1110, 77, 78, 79, 80, 81, 82, 83, 84, 61, 245, 109, 110, 62, 246, 123, 124, 63] (by decide +kernel)
set_option maxRecDepth 20000 in
theorem Lin_r2 : ∀ w ∈ wsL_law_r2, w ∈ lw_tbl := in_r _ [247, 139, 140, 64, 248, 155, 156, 65, 249, 183, 184, 66, 250, 196, 197, 67, 251, 210, 211, 68, 252, 229, 230, 69] (by decide +kernel)
set_option maxRecDepth 20000 in
theorem Lin_r3 : ∀ w ∈ wsL_law_r3, w ∈ lw_tbl := in_r _ [253, 254, 86, 87, 88, 108, 89, 90, 91, 92, 93, 94, 112, 113, 114, 122, 115, 116, 126, 127, 128, 129, 130, 131] (by decide +kernel)
set_option maxRecDepth 20000 in
theorem Lin_r4 : ∀ w ∈ wsL_law_r4, w ∈ lw_tbl := in_r _ [142, 143, 144, 145, 146, 147, 158, 159, 160, 161, 162, 163, 164, 165, 166, 167, 186, 187, 188, 189, 190, 199, 200, 201] (by decide +kernel)
set_option maxRecDepth 20000 in
theorem Lin_r5 : ∀ w ∈ wsL_law_r5, w ∈ lw_tbl := in_r _ [209, 202, 203, 213, 214, 215, 216, 217, 218, 219, 232, 233, 234, 235, 236, 237, 803, 804, 805, 806, 807, 808, 811, 813] (by decide +kernel)
set_option maxRecDepth 20000 in
theorem Lin_r6 : ∀ w ∈ wsL_law_r6, w ∈ lw_tbl := in_r _ [814, 815, 816, 817, 818, 819, 820, 821, 822, 823, 824, 276, 277, 278, 279, 280, 281, 282, 283, 284, 285, 71, 286, 866] (by decide +kernel)
set_option maxRecDepth 20000 in
theorem Lin_r7 : ∀ w ∈ wsL_law_r7, w ∈ lw_tbl := in_r _ [867, 868, 869, 870, 872, 30, 873, 874, 876, 31, 877, 810, 809, 287, 288, 289, 290, 291, 293, 0, 294, 295, 297, 1] (by decide +kernel)
set_option maxRecDepth 20000 in
theorem Lin_r8 : ∀ w ∈ wsL_law_r8, w ∈ lw_tbl := in_r _ [298, 299, 301, 2, 302, 303, 304, 305, 306, 307, 308, 309, 310, 311, 312, 313, 314, 315, 316, 317, 318, 320, 319, 72] (by decide +kernel)
set_option maxRecDepth 20000 in
theorem Lin_r9 : ∀ w ∈ wsL_law_r9, w ∈ lw_tbl := in_r _ [321, 323, 3, 324, 878, 879, 880, 881, 882, 884, 32, 885, 886, 888, 33, 889, 890, 892, 34, 893, 325, 326, 327, 328] (by decide +kernel)
set_option maxRecDepth 20000 in
theorem Lin_r10 : ∀ w ∈ wsL_law_r10, w ∈ lw_tbl := in_r _ [329, 330, 331, 332, 333, 334, 335, 336, 337, 338, 339, 340, 894, 895, 896, 897, 812, 898, 900, 35, 901, 341, 342, 343] (by decide +kernel)
set_option maxRecDepth 20000 in
theorem Lin_r11 : ∀ w ∈ wsL_law_r11, w ∈ lw_tbl := in_r _ [344, 345, 347, 4, 348, 349, 350, 351, 352, 353, 354, 355, 356, 902, 903, 904, 905, 357, 358, 359, 360, 361, 362, 363] (by decide +kernel)
set_option maxRecDepth 20000 in
theorem Lin_r12 : ∀ w ∈ wsL_law_r12, w ∈ lw_tbl := in_r _ [364, 365, 366, 367, 368, 369, 370, 371, 372, 373, 906, 907, 908, 909, 374, 375, 376, 377, 378, 379, 380, 381, 382, 383] (by decide +kernel)
set_option maxRecDepth 20000 in
theorem Lin_r13 : ∀ w ∈ wsL_law_r13, w ∈ lw_tbl := in_r _ [384, 385, 910, 911, 912, 913, 386, 387, 388, 389, 390, 391, 392, 393, 394, 395, 396, 397, 398, 399, 400, 401, 402, 403] (by decide +kernel)
set_option maxRecDepth 20000 in
theorem Lin_r14 : ∀ w ∈ wsL_law_r14, w ∈ lw_tbl := in_r _ [404, 405, 406, 407, 408, 914, 915, 916, 917, 918, 919, 920, 409, 410, 411, 412, 413, 414, 415, 416, 417, 418, 419, 420] (by decide +kernel)
set_option maxRecDepth 20000 in
theorem Lin_r15 : ∀ w ∈ wsL_law_r15, w ∈ lw_tbl := in_r _ [421, 422, 423, 921, 922, 923, 924, 424, 425, 426, 427, 428, 429, 430, 431, 432, 433, 434, 435, 436, 437, 438, 439, 925] (by decide +kernel)
set_option maxRecDepth 20000 in
theorem Lin_r16 : ∀ w ∈ wsL_law_r16, w ∈ lw_tbl := in_r _ [926, 927, 928, 440, 441, 442, 443, 929, 930, 931, 932, 444, 445, 446, 447, 448, 449, 450, 451, 933, 934, 935, 936, 937] (by decide +kernel)
set_option maxRecDepth 20000 in
theorem Lin_r17 : ∀ w ∈ wsL_law_r17, w ∈ lw_tbl := in_r _ [939, 36, 940, 941, 943, 37, 944, 945, 947, 38, 948, 949, 951, 39, 952, 452, 453, 454, 455, 456, 457, 458, 459, 460] (by decide +kernel)
set_option maxRecDepth 20000 in
theorem Lin_r18 : ∀ w ∈ wsL_law_r18, w ∈ lw_tbl := in_r _ [462, 5, 463, 464, 465, 466, 467, 468, 469, 470, 471, 472, 953, 954, 955, 956, 957, 959, 40, 960, 961, 963, 41, 964] (by decide +kernel)
set_option maxRecDepth 20000 in
theorem Lin_r19 : ∀ w ∈ wsL_law_r19, w ∈ lw_tbl := in_r _ [965, 967, 42, 968, 473, 474, 475, 476, 477, 478, 479, 480, 481, 483, 6, 484, 485, 486, 487, 488, 489, 490, 491, 492] (by decide +kernel)
set_option maxRecDepth 20000 in
theorem Lin_r20 : ∀ w ∈ wsL_law_r20, w ∈ lw_tbl := in_r _ [493, 494, 495, 497, 7, 498, 499, 500, 501, 73, 502, 969, 970, 971, 972, 973, 975, 43, 976, 977, 979, 44, 980, 981] (by decide +kernel)
set_option maxRecDepth 20000 in
theorem Lin_r21 : ∀ w ∈ wsL_law_r21, w ∈ lw_tbl := in_r _ [983, 45, 984, 985, 987, 46, 988, 989, 991, 47, 992, 503, 504, 505, 506, 507, 508, 509, 510, 511, 512, 513, 515, 8] (by decide +kernel)
set_option maxRecDepth 20000 in
theorem Lin_r22 : ∀ w ∈ wsL_law_r22, w ∈ lw_tbl := in_r _ [516, 517, 518, 519, 520, 993, 994, 995, 996, 521, 522, 523, 524, 525, 526, 527, 528, 997, 998, 999, 1000, 529, 530, 531] (by decide +kernel)
set_option maxRecDepth 20000 in
theorem Lin_r23 : ∀ w ∈ wsL_law_r23, w ∈ lw_tbl := in_r _ [532, 533, 534, 535, 536, 537, 539, 9, 540, 541, 542, 544, 545, 547, 548, 549, 551, 10, 552, 553, 555, 11, 556, 557] (by decide +kernel)
set_option maxRecDepth 20000 in
theorem Lin_r24 : ∀ w ∈ wsL_law_r24, w ∈ lw_tbl := in_r _ [559, 12, 560, 1001, 1002, 1003, 1004, 1005, 1007, 48, 1008, 1009, 1011, 49, 1012, 561, 562, 563, 564, 565, 566, 567, 568, 1013] (by decide +kernel)
set_option maxRecDepth 20000 in
theorem Lin_r25 : ∀ w ∈ wsL_law_r25, w ∈ lw_tbl := in_r _ [1014, 1015, 1016, 569, 570, 571, 572, 573, 574, 575, 576, 578, 580, 13, 581, 582, 584, 585, 586, 587, 588, 590, 14, 591] (by decide +kernel)
set_option maxRecDepth 20000 in
theorem Lin_r26 : ∀ w ∈ wsL_law_r26, w ∈ lw_tbl := in_r _ [592, 593, 594, 596, 15, 597, 598, 599, 600, 601, 602, 604, 16, 605, 606, 608, 17, 609, 610, 611, 612, 613, 614, 615] (by decide +kernel)
set_option maxRecDepth 20000 in
theorem Lin_r27 : ∀ w ∈ wsL_law_r27, w ∈ lw_tbl := in_r _ [616, 1017, 1018, 1019, 1020, 1021, 1023, 50, 1024, 1025, 1027, 51, 1028, 1029, 1030, 1031, 617, 618, 619, 620, 621, 622, 623, 624] (by decide +kernel)
set_option maxRecDepth 20000 in
theorem Lin_r28 : ∀ w ∈ wsL_law_r28, w ∈ lw_tbl := in_r _ [625, 627, 629, 18, 630, 631, 1032, 1033, 1034, 1035, 1036, 1037, 1039, 52, 1040, 1041, 1043, 53, 1044, 632, 633, 634, 635, 636] (by decide +kernel)
set_option maxRecDepth 20000 in
theorem Lin_r29 : ∀ w ∈ wsL_law_r29, w ∈ lw_tbl := in_r _ [637, 638, 639, 640, 641, 642, 643, 645, 647, 19, 648, 649, 650, 651, 652, 653, 1045, 1046, 1047, 1048, 1049, 1051, 54, 1052] (by decide +kernel)
set_option maxRecDepth 20000 in
theorem Lin_r30 : ∀ w ∈ wsL_law_r30, w ∈ lw_tbl := in_r _ [1053, 654, 655, 656, 657, 658, 659, 660, 661, 1054, 1055, 1056, 1057, 662, 663, 664, 665, 666, 667, 668, 669, 670, 672, 20] (by decide +kernel)
set_option maxRecDepth 20000 in
theorem Lin_r31 : ∀ w ∈ wsL_law_r31, w ∈ lw_tbl := in_r _ [673, 1058, 1059, 1060, 1061, 674, 675, 676, 677, 678, 679, 680, 681, 682, 683, 685, 21, 686, 687, 1062, 1063, 1064, 1065, 1066] (by decide +kernel)
set_option maxRecDepth 20000 in
theorem Lin_r32 : ∀ w ∈ wsL_law_r32, w ∈ lw_tbl := in_r _ [1068, 55, 1069, 688, 689, 690, 691, 692, 693, 694, 695, 696, 698, 22, 699, 701, 703, 23, 704, 706, 707, 708, 709, 710] (by decide +kernel)
set_option maxRecDepth 20000 in
theorem Lin_r33 : ∀ w ∈ wsL_law_r33, w ∈ lw_tbl := in_r _ [711, 1070, 1071, 1072, 1073, 1074, 1076, 56, 1077, 1078, 1080, 57, 1081, 1082, 1083, 1084, 712, 713, 714, 715, 716, 717, 718, 719] (by decide +kernel)
set_option maxRecDepth 20000 in
theorem Lin_r34 : ∀ w ∈ wsL_law_r34, w ∈ lw_tbl := in_r _ [1085, 1086, 1087, 1088, 720, 721, 722, 723, 724, 725, 726, 727, 728, 729, 74, 730, 731, 733, 24, 734, 1089, 1090, 1091, 1092] (by decide +kernel)
set_option maxRecDepth 20000 in
theorem Lin_r35 : ∀ w ∈ wsL_law_r35, w ∈ lw_tbl := in_r _ [735, 736, 737, 738, 739, 740, 741, 742, 743, 745, 25, 746, 747, 748, 750, 752, 26, 753, 755, 756, 757, 758, 1101, 1102] (by decide +kernel)
set_option maxRecDepth 20000 in
theorem Lin_r36 : ∀ w ∈ wsL_law_r36, w ∈ lw_tbl := in_r _ [1103, 1104, 1105, 1094, 1095, 1096, 1097, 1099, 58, 1100, 759, 760, 761, 762, 1093, 763, 764, 765, 766, 767, 768, 769, 770, 771] (by decide +kernel)
set_option maxRecDepth 20000 in
theorem Lin_r37 : ∀ w ∈ wsL_law_r37, w ∈ lw_tbl := in_r _ [773, 27, 774, 775, 776, 777, 778, 779, 781, 28, 782, 783, 784, 785, 786, 787, 788, 789, 791, 29, 792, 793, 794, 795] (by decide +kernel)
set_option maxRecDepth 20000 in
theorem Lin_r38 : ∀ w ∈ wsL_law_r38, w ∈ lw_tbl := in_r _ [796, 862, 863, 864, 865, 797, 798, 799, 800, 1106, 1107, 1108, 1109] (by decide +kernel)
set_option maxRecDepth 20000 in
theorem Lin_X9 : ∀ w ∈ wsX90, w ∈ lw_tbl := in_r _ [255, 257, 259, 261, 263, 265, 267, 269, 271, 273] (by decide +kernel)
set_option maxRecDepth 20000 in
theorem Lin_X10 : ∀ w ∈ wsX100, w ∈ lw_tbl := in_r _ [825, 827, 829, 831, 833, 835, 837, 839, 841, 843, 845, 847, 849, 851, 853, 855, 857, 859] (by decide +kernel)
set_option maxRecDepth 20000 in
theorem Lin_X4 : ∀ w ∈ wsX40, w ∈ lw_tbl := in_r _ [95, 97, 99, 101, 103, 105] (by decide +kernel)
set_option maxRecDepth 20000 in
theorem Lin_X7 : ∀ w ∈ wsX70, w ∈ lw_tbl := in_r _ [117, 119] (by decide +kernel)
set_option maxRecDepth 20000 in
theorem Lin_X8 : ∀ w ∈ wsX80, w ∈ lw_tbl := in_r _ [132, 134, 136] (by decide +kernel)
set_option maxRecDepth 20000 in
theorem Lin_X0 : ∀ w ∈ wsX00, w ∈ lw_tbl := in_r _ [148, 150, 152] (by decide +kernel)
set_option maxRecDepth 20000 in
theorem Lin_X6 : ∀ w ∈ wsX60, w ∈ lw_tbl := in_r _ [168, 170, 172, 174, 176, 178, 180] (by decide +kernel)
set_option maxRecDepth 20000 in
theorem Lin_X3 : ∀ w ∈ wsX30, w ∈ lw_tbl := in_r _ [191, 193] (by decide +kernel)
set_option maxRecDepth 20000 in
theorem Lin_X2 : ∀ w ∈ wsX20, w ∈ lw_tbl := in_r _ [204, 206] (by decide +kernel)
set_option maxRecDepth 20000 in
theorem Lin_X5 : ∀ w ∈ wsX50, w ∈ lw_tbl := in_r _ [220, 222, 224, 226] (by decide +kernel)
set_option maxRecDepth 20000 in
theorem Lin_X1 : ∀ w ∈ wsX10, w ∈ lw_tbl := in_r _ [238, 240, 242] (by decide +kernel)
theorem wsL_law_in : ∀ w ∈ wsL_law, w ∈ lw_tbl := in_app (in_app (in_app (in_app (in_app (in_app (in_app (in_app (in_app (in_app (in_app (in_app (in_app Lin_r1 (in_app Lin_r2 (in_app Lin_r3 (in_app Lin_r4 (in_app Lin_r5 (in_app Lin_r6 (in_app Lin_r7 (in_app Lin_r8 (in_app Lin_r9 (in_app Lin_r10 (in_app Lin_r11 (in_app Lin_r12 (in_app Lin_r13 (in_app Lin_r14 (in_app Lin_r15 (in_app Lin_r16 (in_app Lin_r17 (in_app Lin_r18 (in_app Lin_r19 (in_app Lin_r20 (in_app Lin_r21 (in_app Lin_r22 (in_app Lin_r23 (in_app Lin_r24 (in_app Lin_r25 (in_app Lin_r26 (in_app Lin_r27 (in_app Lin_r28 (in_app Lin_r29 (in_app Lin_r30 (in_app Lin_r31 (in_app Lin_r32 (in_app Lin_r33 (in_app Lin_r34 (in_app Lin_r35 (in_app Lin_r36 (in_app Lin_r37 Lin_r38))))))))))))))))))))))))))))))))))))) Lin_X9) Lin_X10) Lin_X4) Lin_X7) Lin_X8) Lin_X0) Lin_X6) Lin_X3) Lin_X2) Lin_X5) Lin_X1) (fun w h => nomatch h)
