set_option maxRecDepth 20000 in
theorem in_wsL_law_r1 : ∀ w ∈ wsL_law_r1, w ∈ lw_tbl := fun w h => (goodIn_r wsL_law_r1 [66, 67, 53, 760, 761, 60, 1134, 68, 69, 70, 71, 72, 73, 74, 75, 54, 264, 104, 105, 55, 265, 158, 159, 56] (by decide +kernel) (by decide +kernel) w h).1
set_option maxRecDepth 20000 in
theorem in_wsL_law_r2 : ∀ w ∈ wsL_law_r2, w ∈ lw_tbl := fun w h => (goodIn_r wsL_law_r2 [266, 267, 217, 268, 194, 195, 57, 269, 103, 270, 271, 218, 219, 58, 272, 235, 236, 59, 273, 275, 276, 277, 278, 279] (by decide +kernel) (by decide +kernel) w h).1
set_option maxRecDepth 20000 in
theorem in_wsL_law_r3 : ∀ w ∈ wsL_law_r3, w ∈ lw_tbl := fun w h => (goodIn_r wsL_law_r3 [77, 78, 79, 80, 106, 107, 108, 109, 110, 111, 112, 113, 116, 117, 118, 119, 120, 121, 122, 123, 125, 126, 128, 130] (by decide +kernel) (by decide +kernel) w h).1
set_option maxRecDepth 20000 in
theorem in_wsL_law_r4 : ∀ w ∈ wsL_law_r4, w ∈ lw_tbl := fun w h => (goodIn_r wsL_law_r4 [132, 133, 134, 161, 162, 163, 197, 198, 199, 200, 202, 204, 221, 222, 223, 224, 225, 238, 239, 240, 241, 242, 252, 253] (by decide +kernel) (by decide +kernel) w h).1
set_option maxRecDepth 20000 in
theorem in_wsL_law_r5 : ∀ w ∈ wsL_law_r5, w ∈ lw_tbl := fun w h => (goodIn_r wsL_law_r5 [254, 255, 164, 131, 166, 256, 257, 258, 259, 168, 170, 172, 174, 176, 260, 261, 262, 263, 762, 763, 764, 765, 444, 787] (by decide +kernel) (by decide +kernel) w h).1
set_option maxRecDepth 20000 in
theorem in_wsL_law_r6 : ∀ w ∈ wsL_law_r6, w ∈ lw_tbl := fun w h => (goodIn_r wsL_law_r6 [789, 795, 796, 797, 798, 800, 801, 802, 803, 804, 807, 808, 809, 811, 812, 814, 815, 766, 768, 26, 769, 770, 771, 772] (by decide +kernel) (by decide +kernel) w h).1
set_option maxRecDepth 20000 in
theorem in_wsL_law_r7 : ∀ w ∈ wsL_law_r7, w ∈ lw_tbl := fun w h => (goodIn_r wsL_law_r7 [773, 774, 776, 27, 777, 778, 780, 28, 781, 782, 784, 29, 785, 313, 314, 315, 316, 317, 318, 319, 320, 321, 322, 323] (by decide +kernel) (by decide +kernel) w h).1
set_option maxRecDepth 20000 in
theorem in_wsL_law_r8 : ∀ w ∈ wsL_law_r8, w ∈ lw_tbl := fun w h => (goodIn_r wsL_law_r8 [81, 324, 877, 878, 879, 880, 788, 884, 881, 882, 883, 325, 326, 327, 328, 329, 330, 331, 332, 885, 886, 887, 888, 333] (by decide +kernel) (by decide +kernel) w h).1
set_option maxRecDepth 20000 in
theorem in_wsL_law_r9 : ∀ w ∈ wsL_law_r9, w ∈ lw_tbl := fun w h => (goodIn_r wsL_law_r9 [334, 335, 336, 337, 338, 339, 340, 83, 87, 85, 84, 341, 342, 344, 0, 345, 346, 347, 348, 349, 351, 1, 352, 86] (by decide +kernel) (by decide +kernel) w h).1
set_option maxRecDepth 20000 in
theorem in_wsL_law_r10 : ∀ w ∈ wsL_law_r10, w ∈ lw_tbl := fun w h => (goodIn_r wsL_law_r10 [353, 354, 61, 355, 356, 357, 358, 359, 361, 2, 362, 363, 364, 365, 372, 374, 3, 375, 376, 377, 378, 62, 379, 1135] (by decide +kernel) (by decide +kernel) w h).1
set_option maxRecDepth 20000 in
theorem in_wsL_law_r11 : ∀ w ∈ wsL_law_r11, w ∈ lw_tbl := fun w h => (goodIn_r wsL_law_r11 [380, 381, 382, 383, 384, 1136, 386, 387, 388, 389, 390, 391, 392, 393, 394, 395, 63, 396, 397, 398, 399, 400, 402, 403] (by decide +kernel) (by decide +kernel) w h).1
set_option maxRecDepth 20000 in
theorem in_wsL_law_r12 : ∀ w ∈ wsL_law_r12, w ∈ lw_tbl := fun w h => (goodIn_r wsL_law_r12 [64, 404, 405, 406, 65, 407, 408, 409, 410, 411, 412, 413, 414, 415, 416, 417, 418, 420, 422, 424, 426, 4, 427, 435] (by decide +kernel) (by decide +kernel) w h).1
set_option maxRecDepth 20000 in
theorem in_wsL_law_r13 : ∀ w ∈ wsL_law_r13, w ∈ lw_tbl := fun w h => (goodIn_r wsL_law_r13 [436, 437, 438, 439, 440, 441, 442, 443, 889, 890, 891, 892, 790, 794, 792, 793, 893, 895, 30, 896, 791, 897, 899, 31] (by decide +kernel) (by decide +kernel) w h).1
set_option maxRecDepth 20000 in
theorem in_wsL_law_r14 : ∀ w ∈ wsL_law_r14, w ∈ lw_tbl := fun w h => (goodIn_r wsL_law_r14 [900, 901, 902, 903, 904, 905, 907, 32, 908, 909, 910, 911, 912, 913, 914, 915, 916, 917, 445, 446, 447, 448, 449, 918] (by decide +kernel) (by decide +kernel) w h).1
set_option maxRecDepth 20000 in
theorem in_wsL_law_r15 : ∀ w ∈ wsL_law_r15, w ∈ lw_tbl := fun w h => (goodIn_r wsL_law_r15 [919, 920, 921, 450, 451, 452, 453, 454, 455, 456, 457, 458, 460, 5, 461, 477, 471, 472, 478, 462, 463, 464, 465, 470] (by decide +kernel) (by decide +kernel) w h).1
set_option maxRecDepth 20000 in
theorem in_wsL_law_r16 : ∀ w ∈ wsL_law_r16, w ∈ lw_tbl := fun w h => (goodIn_r wsL_law_r16 [466, 467, 468, 469, 473, 474, 475, 476, 922, 923, 924, 925, 926, 928, 33, 929, 930, 932, 34, 933, 934, 936, 35, 937] (by decide +kernel) (by decide +kernel) w h).1
set_option maxRecDepth 20000 in
theorem in_wsL_law_r17 : ∀ w ∈ wsL_law_r17, w ∈ lw_tbl := fun w h => (goodIn_r wsL_law_r17 [938, 940, 36, 941, 942, 944, 37, 945, 946, 948, 38, 949, 479, 480, 481, 482, 483, 484, 485, 486, 950, 951, 952, 953] (by decide +kernel) (by decide +kernel) w h).1
set_option maxRecDepth 20000 in
theorem in_wsL_law_r18 : ∀ w ∈ wsL_law_r18, w ∈ lw_tbl := fun w h => (goodIn_r wsL_law_r18 [954, 956, 39, 957, 487, 488, 489, 490, 491, 492, 493, 494, 495, 497, 6, 498, 127, 124, 499, 958, 959, 960, 961, 962] (by decide +kernel) (by decide +kernel) w h).1
set_option maxRecDepth 20000 in
theorem in_wsL_law_r19 : ∀ w ∈ wsL_law_r19, w ∈ lw_tbl := fun w h => (goodIn_r wsL_law_r19 [964, 40, 965, 500, 501, 502, 503, 165, 167, 169, 171, 173, 175, 177, 504, 505, 506, 966, 967, 968, 969, 507, 508, 509] (by decide +kernel) (by decide +kernel) w h).1
set_option maxRecDepth 20000 in
theorem in_wsL_law_r20 : ∀ w ∈ wsL_law_r20, w ∈ lw_tbl := fun w h => (goodIn_r wsL_law_r20 [510, 970, 511, 512, 513, 514, 515, 516, 517, 518, 519, 520, 521, 971, 972, 973, 974, 975, 977, 41, 978, 522, 523, 524] (by decide +kernel) (by decide +kernel) w h).1
set_option maxRecDepth 20000 in
theorem in_wsL_law_r21 : ∀ w ∈ wsL_law_r21, w ∈ lw_tbl := fun w h => (goodIn_r wsL_law_r21 [525, 526, 527, 528, 529, 979, 980, 981, 982, 530, 531, 532, 533, 983, 984, 985, 986, 534, 535, 536, 537, 538, 539, 540] (by decide +kernel) (by decide +kernel) w h).1
set_option maxRecDepth 20000 in
theorem in_wsL_law_r22 : ∀ w ∈ wsL_law_r22, w ∈ lw_tbl := fun w h => (goodIn_r wsL_law_r22 [541, 542, 543, 544, 206, 987, 988, 989, 990, 799, 545, 546, 547, 548, 549, 550, 551, 552, 991, 992, 993, 994, 553, 554] (by decide +kernel) (by decide +kernel) w h).1
set_option maxRecDepth 20000 in
theorem in_wsL_law_r23 : ∀ w ∈ wsL_law_r23, w ∈ lw_tbl := fun w h => (goodIn_r wsL_law_r23 [555, 556, 995, 996, 997, 998, 999, 1000, 1001, 557, 558, 559, 560, 561, 563, 7, 564, 565, 567, 8, 568, 569, 570, 571] (by decide +kernel) (by decide +kernel) w h).1
set_option maxRecDepth 20000 in
theorem in_wsL_law_r24 : ∀ w ∈ wsL_law_r24, w ∈ lw_tbl := fun w h => (goodIn_r wsL_law_r24 [572, 573, 574, 576, 9, 577, 207, 201, 203, 205, 578, 580, 10, 581, 582, 583, 1002, 1003, 1004, 1005, 1006, 1008, 42, 1009] (by decide +kernel) (by decide +kernel) w h).1
set_option maxRecDepth 20000 in
theorem in_wsL_law_r25 : ∀ w ∈ wsL_law_r25, w ∈ lw_tbl := fun w h => (goodIn_r wsL_law_r25 [1010, 1012, 43, 1013, 1014, 1015, 1016, 1017, 1019, 44, 1020, 584, 585, 586, 587, 588, 589, 590, 591, 592, 593, 594, 595, 596] (by decide +kernel) (by decide +kernel) w h).1
set_option maxRecDepth 20000 in
theorem in_wsL_law_r26 : ∀ w ∈ wsL_law_r26, w ∈ lw_tbl := fun w h => (goodIn_r wsL_law_r26 [1021, 1022, 1023, 1024, 1025, 1026, 1027, 1028, 1029, 1030, 597, 598, 599, 600, 601, 603, 11, 604, 605, 607, 12, 608, 609, 611] (by decide +kernel) (by decide +kernel) w h).1
set_option maxRecDepth 20000 in
theorem in_wsL_law_r27 : ∀ w ∈ wsL_law_r27, w ∈ lw_tbl := fun w h => (goodIn_r wsL_law_r27 [13, 612, 613, 1031, 1032, 1033, 1034, 1035, 1037, 45, 1038, 1039, 1041, 46, 1042, 614, 615, 616, 617, 129, 1043, 1044, 1045, 1046] (by decide +kernel) (by decide +kernel) w h).1
set_option maxRecDepth 20000 in
theorem in_wsL_law_r28 : ∀ w ∈ wsL_law_r28, w ∈ lw_tbl := fun w h => (goodIn_r wsL_law_r28 [618, 619, 620, 621, 622, 624, 14, 625, 1047, 1048, 1049, 1050, 805, 1051, 1053, 47, 1054, 806, 626, 627, 628, 629, 1055, 1056] (by decide +kernel) (by decide +kernel) w h).1
set_option maxRecDepth 20000 in
theorem in_wsL_law_r29 : ∀ w ∈ wsL_law_r29, w ∈ lw_tbl := fun w h => (goodIn_r wsL_law_r29 [1057, 1058, 630, 631, 632, 633, 634, 636, 15, 637, 1059, 1060, 1061, 1062, 638, 639, 640, 641, 642, 644, 16, 645, 646, 648] (by decide +kernel) (by decide +kernel) w h).1
set_option maxRecDepth 20000 in
theorem in_wsL_law_r30 : ∀ w ∈ wsL_law_r30, w ∈ lw_tbl := fun w h => (goodIn_r wsL_law_r30 [17, 649, 1063, 1064, 1065, 1066, 1067, 1069, 48, 1070, 650, 651, 652, 653, 1071, 1072, 1073, 1074, 654, 655, 656, 657, 658, 660] (by decide +kernel) (by decide +kernel) w h).1
set_option maxRecDepth 20000 in
theorem in_wsL_law_r31 : ∀ w ∈ wsL_law_r31, w ∈ lw_tbl := fun w h => (goodIn_r wsL_law_r31 [18, 661, 662, 664, 19, 665, 666, 667, 668, 669, 1075, 1076, 1077, 1078, 1079, 1081, 49, 1082, 1083, 1085, 50, 1086, 670, 671] (by decide +kernel) (by decide +kernel) w h).1
set_option maxRecDepth 20000 in
theorem in_wsL_law_r32 : ∀ w ∈ wsL_law_r32, w ∈ lw_tbl := fun w h => (goodIn_r wsL_law_r32 [672, 673, 674, 675, 676, 677, 226, 1087, 1088, 1089, 1090, 810, 678, 679, 680, 681, 682, 683, 684, 685, 686, 687, 688, 689] (by decide +kernel) (by decide +kernel) w h).1
set_option maxRecDepth 20000 in
theorem in_wsL_law_r33 : ∀ w ∈ wsL_law_r33, w ∈ lw_tbl := fun w h => (goodIn_r wsL_law_r33 [690, 1091, 1092, 1093, 1094, 691, 692, 693, 694, 695, 696, 697, 698, 243, 1095, 1096, 1097, 1098, 813, 699, 700, 701, 702, 703] (by decide +kernel) (by decide +kernel) w h).1
set_option maxRecDepth 20000 in
theorem in_wsL_law_r34 : ∀ w ∈ wsL_law_r34, w ∈ lw_tbl := fun w h => (goodIn_r wsL_law_r34 [704, 705, 706, 707, 708, 1099, 1100, 1101, 1102, 1103, 710, 711, 712, 713, 714, 715, 717, 20, 718, 274, 719, 721, 21, 722] (by decide +kernel) (by decide +kernel) w h).1
set_option maxRecDepth 20000 in
theorem in_wsL_law_r35 : ∀ w ∈ wsL_law_r35, w ∈ lw_tbl := fun w h => (goodIn_r wsL_law_r35 [723, 724, 726, 22, 727, 728, 729, 731, 23, 732, 733, 734, 736, 24, 737, 738, 739, 741, 25, 742, 743, 1104, 1105, 1106] (by decide +kernel) (by decide +kernel) w h).1
set_option maxRecDepth 20000 in
theorem in_wsL_law_r36 : ∀ w ∈ wsL_law_r36, w ∈ lw_tbl := fun w h => (goodIn_r wsL_law_r36 [1107, 1108, 786, 1109, 1110, 1111, 1112, 1113, 744, 745, 746, 747, 1114, 1115, 1116, 1117, 1118, 1120, 51, 1121, 748, 749, 750, 751] (by decide +kernel) (by decide +kernel) w h).1
set_option maxRecDepth 20000 in
theorem in_wsL_law_r37 : ∀ w ∈ wsL_law_r37, w ∈ lw_tbl := fun w h => (goodIn_r wsL_law_r37 [1122, 1123, 1124, 1125, 752, 753, 754, 755, 227, 244, 82, 1126, 1127, 1128, 1129, 756, 757, 758, 759, 1130, 1131, 1132, 1133] (by decide +kernel) (by decide +kernel) w h).1
set_option maxRecDepth 20000 in
theorem in_wsX00 : ∀ w ∈ wsX00, w ∈ lw_tbl := fun w h => (goodIn_r wsX00 [178, 180, 182, 184, 186, 188, 190] (by decide +kernel) (by decide +kernel) w h).1
set_option maxRecDepth 20000 in
theorem in_wsX10 : ∀ w ∈ wsX10, w ∈ lw_tbl := fun w h => (goodIn_r wsX10 [228, 230, 232] (by decide +kernel) (by decide +kernel) w h).1
set_option maxRecDepth 20000 in
theorem in_wsX20 : ∀ w ∈ wsX20, w ∈ lw_tbl := fun w h => (goodIn_r wsX20 [208, 210, 212, 214] (by decide +kernel) (by decide +kernel) w h).1
set_option maxRecDepth 20000 in
theorem in_wsX30 : ∀ w ∈ wsX30, w ∈ lw_tbl := fun w h => (goodIn_r wsX30 [88, 90, 92, 94, 96, 98, 100] (by decide +kernel) (by decide +kernel) w h).1
set_option maxRecDepth 20000 in
theorem in_wsX40 : ∀ w ∈ wsX40, w ∈ lw_tbl := fun w h => (goodIn_r wsX40 [135, 137, 139, 141, 143, 145, 147, 149, 151, 153, 155] (by decide +kernel) (by decide +kernel) w h).1
set_option maxRecDepth 20000 in
theorem in_wsX50 : ∀ w ∈ wsX50, w ∈ lw_tbl := fun w h => (goodIn_r wsX50 [245, 247, 249] (by decide +kernel) (by decide +kernel) w h).1
set_option maxRecDepth 20000 in
theorem in_wsX60 : ∀ w ∈ wsX60, w ∈ lw_tbl := fun w h => (goodIn_r wsX60 [280, 282, 284, 286, 288, 290, 292, 294, 296, 298, 300, 302, 304, 306, 308, 310] (by decide +kernel) (by decide +kernel) w h).1
set_option maxRecDepth 20000 in
theorem in_wsX70 : ∀ w ∈ wsX70, w ∈ lw_tbl := fun w h => (goodIn_r wsX70 [816, 818, 820, 822, 824, 826, 828, 830, 832, 834, 836, 838, 840, 842, 844, 846, 848, 850, 852, 854, 856, 858, 860, 862, 864, 866, 868, 870, 872, 874] (by decide +kernel) (by decide +kernel) w h).1
theorem xmapp {big a b : List Cond} (ha : ∀ w ∈ a, w ∈ big) (hb : ∀ w ∈ b, w ∈ big) : ∀ w ∈ a ++ b, w ∈ big := fun w h => (List.mem_append.mp h).elim (ha w) (hb w)
theorem wsL_law_in : ∀ w ∈ wsL_law, w ∈ lw_tbl := (xmapp (xmapp (xmapp (xmapp (xmapp (xmapp (xmapp (xmapp (xmapp (xmapp in_wsL_law_r1 (xmapp in_wsL_law_r2 (xmapp in_wsL_law_r3 (xmapp in_wsL_law_r4 (xmapp in_wsL_law_r5 (xmapp in_wsL_law_r6 (xmapp in_wsL_law_r7 (xmapp in_wsL_law_r8 (xmapp in_wsL_law_r9 (xmapp in_wsL_law_r10 (xmapp in_wsL_law_r11 (xmapp in_wsL_law_r12 (xmapp in_wsL_law_r13 (xmapp in_wsL_law_r14 (xmapp in_wsL_law_r15 (xmapp in_wsL_law_r16 (xmapp in_wsL_law_r17 (xmapp in_wsL_law_r18 (xmapp in_wsL_law_r19 (xmapp in_wsL_law_r20 (xmapp in_wsL_law_r21 (xmapp in_wsL_law_r22 (xmapp in_wsL_law_r23 (xmapp in_wsL_law_r24 (xmapp in_wsL_law_r25 (xmapp in_wsL_law_r26 (xmapp in_wsL_law_r27 (xmapp in_wsL_law_r28 (xmapp in_wsL_law_r29 (xmapp in_wsL_law_r30 (xmapp in_wsL_law_r31 (xmapp in_wsL_law_r32 (xmapp in_wsL_law_r33 (xmapp in_wsL_law_r34 (xmapp in_wsL_law_r35 (xmapp in_wsL_law_r36 in_wsL_law_r37)))))))))))))))))))))))))))))))))))) in_wsX60) in_wsX70) in_wsX30) in_wsX40) in_wsX00) in_wsX20) in_wsX10) in_wsX50) (fun _ h => absurd h List.not_mem_nil))
