noncomputable section
theorem inPl {big ws : List Cond} (ps : List Nat) (h : ws = ps.filterMap (fun i => big[i]?)) : ∀ w ∈ ws, w ∈ big := by
  intro w hw
  rw [h] at hw
  obtain ⟨i, -, hi⟩ := List.mem_filterMap.mp hw
  exact List.mem_of_getElem? hi
set_option maxRecDepth 20000 in
theorem lwIn_r1 : ∀ w ∈ wsL_law_r1, w ∈ lw_tbl := inPl [67, 68, 54, 701, 702, 58, 69, 70, 71, 72, 73, 74, 75, 76, 55, 160, 161, 162, 116, 117, 56, 164, 146, 147] rfl
set_option maxRecDepth 20000 in
theorem lwIn_r2 : ∀ w ∈ wsL_law_r2, w ∈ lw_tbl := inPl [57, 165, 115, 166, 168, 78, 79, 80, 81, 86, 91, 94, 119, 120, 121, 122, 124, 145, 125, 126, 127, 149, 150, 151] rfl
set_option maxRecDepth 20000 in
theorem lwIn_r3 : ∀ w ∈ wsL_law_r3, w ∈ lw_tbl := inPl [152, 703, 704, 705, 706, 707, 708, 709, 710, 711, 712, 713, 714, 715, 716, 717, 718, 719, 720, 721, 726, 727, 730, 731] rfl
set_option maxRecDepth 20000 in
theorem lwIn_r4 : ∀ w ∈ wsL_law_r4, w ∈ lw_tbl := inPl [732, 733, 737, 741, 745, 746, 747, 748, 188, 189, 190, 191, 192, 194, 0, 195, 196, 197, 198, 199, 153, 200, 201, 202] rfl
set_option maxRecDepth 20000 in
theorem lwIn_r5 : ∀ w ∈ wsL_law_r5, w ∈ lw_tbl := inPl [203, 843, 844, 845, 846, 734, 847, 848, 849, 850, 852, 13, 853, 204, 205, 206, 207, 208, 209, 210, 211, 212, 213, 214] rfl
set_option maxRecDepth 20000 in
theorem lwIn_r6 : ∀ w ∈ wsL_law_r6, w ∈ lw_tbl := inPl [215, 216, 217, 218, 219, 220, 221, 222, 223, 229, 230, 231, 59, 232, 1159, 233, 234, 235, 236, 237, 238, 239, 240, 241] rfl
set_option maxRecDepth 20000 in
theorem lwIn_r7 : ∀ w ∈ wsL_law_r7, w ∈ lw_tbl := inPl [1160, 243, 244, 245, 246, 247, 248, 249, 250, 251, 252, 60, 253, 254, 255, 256, 257, 259, 260, 61, 261, 262, 263, 62] rfl
set_option maxRecDepth 20000 in
theorem lwIn_r8 : ∀ w ∈ wsL_law_r8, w ∈ lw_tbl := inPl [264, 265, 266, 267, 268, 269, 270, 271, 272, 273, 274, 275, 277, 279, 281, 282, 283, 284, 285, 287, 286, 63, 82, 88] rfl
set_option maxRecDepth 20000 in
theorem lwIn_r9 : ∀ w ∈ wsL_law_r9, w ∈ lw_tbl := inPl [92, 288, 289, 64, 290, 291, 292, 293, 96, 294, 295, 296, 297, 298, 299, 300, 301, 302, 303, 304, 305, 84, 306, 307] rfl
set_option maxRecDepth 20000 in
theorem lwIn_r10 : ∀ w ∈ wsL_law_r10, w ∈ lw_tbl := inPl [308, 309, 310, 311, 312, 313, 314, 315, 316, 317, 89, 318, 319, 320, 321, 322, 323, 324, 325, 326, 327, 328, 329, 331] rfl
set_option maxRecDepth 20000 in
theorem lwIn_r11 : ∀ w ∈ wsL_law_r11, w ∈ lw_tbl := inPl [332, 334, 335, 336, 337, 338, 339, 340, 341, 342, 343, 854, 855, 856, 857, 735, 736, 858, 860, 14, 861, 862, 864, 15] rfl
set_option maxRecDepth 20000 in
theorem lwIn_r12 : ∀ w ∈ wsL_law_r12, w ∈ lw_tbl := inPl [865, 866, 868, 16, 869, 870, 872, 17, 873, 874, 875, 876, 877, 879, 18, 880, 881, 883, 19, 884, 740, 739, 722, 723] rfl
set_option maxRecDepth 20000 in
theorem lwIn_r13 : ∀ w ∈ wsL_law_r13, w ∈ lw_tbl := inPl [724, 725, 728, 729, 885, 887, 20, 888, 889, 891, 21, 892, 893, 895, 22, 896, 897, 899, 23, 900, 901, 903, 24, 904] rfl
set_option maxRecDepth 20000 in
theorem lwIn_r14 : ∀ w ∈ wsL_law_r14, w ∈ lw_tbl := inPl [905, 907, 25, 908, 345, 346, 347, 348, 349, 350, 351, 352, 353, 917, 918, 919, 920, 354, 355, 356, 357, 358, 359, 360] rfl
set_option maxRecDepth 20000 in
theorem lwIn_r15 : ∀ w ∈ wsL_law_r15, w ∈ lw_tbl := inPl [361, 362, 363, 364, 365, 366, 367, 368, 369, 370, 371, 372, 65, 373, 374, 375, 376, 921, 922, 923, 924, 925, 927, 26] rfl
set_option maxRecDepth 20000 in
theorem lwIn_r16 : ∀ w ∈ wsL_law_r16, w ∈ lw_tbl := inPl [928, 377, 378, 379, 380, 381, 382, 383, 384, 385, 386, 387, 929, 930, 931, 932, 388, 389, 390, 391, 392, 393, 394, 395] rfl
set_option maxRecDepth 20000 in
theorem lwIn_r17 : ∀ w ∈ wsL_law_r17, w ∈ lw_tbl := inPl [397, 398, 399, 396, 933, 934, 935, 936, 937, 939, 27, 940, 400, 401, 402, 403, 404, 406, 1, 407, 408, 409, 410, 411] rfl
set_option maxRecDepth 20000 in
theorem lwIn_r18 : ∀ w ∈ wsL_law_r18, w ∈ lw_tbl := inPl [412, 413, 414, 415, 941, 942, 943, 944, 945, 947, 28, 948, 949, 951, 29, 952, 416, 417, 418, 419, 420, 421, 422, 423] rfl
set_option maxRecDepth 20000 in
theorem lwIn_r19 : ∀ w ∈ wsL_law_r19, w ∈ lw_tbl := inPl [424, 425, 426, 953, 954, 955, 956, 957, 959, 30, 960, 427, 428, 429, 430, 431, 432, 433, 434, 961, 962, 963, 964, 965] rfl
set_option maxRecDepth 20000 in
theorem lwIn_r20 : ∀ w ∈ wsL_law_r20, w ∈ lw_tbl := inPl [967, 31, 968, 969, 970, 971, 435, 436, 437, 438, 439, 440, 441, 442, 443, 444, 445, 446, 447, 448, 449, 450, 451, 452] rfl
set_option maxRecDepth 20000 in
theorem lwIn_r21 : ∀ w ∈ wsL_law_r21, w ∈ lw_tbl := inPl [453, 454, 455, 456, 457, 458, 459, 460, 461, 462, 463, 464, 465, 972, 973, 974, 975, 976, 978, 32, 979, 980, 982, 33] rfl
set_option maxRecDepth 20000 in
theorem lwIn_r22 : ∀ w ∈ wsL_law_r22, w ∈ lw_tbl := inPl [983, 984, 986, 34, 987, 988, 990, 35, 991, 466, 467, 468, 469, 93, 470, 471, 472, 473, 992, 993, 994, 995, 996, 998] rfl
set_option maxRecDepth 20000 in
theorem lwIn_r23 : ∀ w ∈ wsL_law_r23, w ∈ lw_tbl := inPl [36, 999, 474, 475, 476, 477, 97, 1000, 1001, 1002, 1003, 478, 479, 480, 481, 482, 483, 484, 485, 487, 2, 488, 85, 489] rfl
set_option maxRecDepth 20000 in
theorem lwIn_r24 : ∀ w ∈ wsL_law_r24, w ∈ lw_tbl := inPl [491, 3, 492, 167, 493, 494, 495, 496, 497, 498, 499, 500, 501, 502, 503, 1004, 1005, 1006, 1007, 1008, 1009, 1010, 1011, 1013] rfl
set_option maxRecDepth 20000 in
theorem lwIn_r25 : ∀ w ∈ wsL_law_r25, w ∈ lw_tbl := inPl [37, 1014, 1015, 1017, 38, 1018, 742, 1019, 1021, 39, 1022, 1023, 1025, 40, 1026, 1027, 1029, 41, 1030, 504, 505, 506, 507, 1031] rfl
set_option maxRecDepth 20000 in
theorem lwIn_r26 : ∀ w ∈ wsL_law_r26, w ∈ lw_tbl := inPl [1032, 1033, 1034, 508, 509, 510, 511, 512, 514, 4, 515, 516, 518, 5, 519, 90, 520, 1035, 1036, 1037, 1038, 1039, 1041, 42] rfl
set_option maxRecDepth 20000 in
theorem lwIn_r27 : ∀ w ∈ wsL_law_r27, w ∈ lw_tbl := inPl [1042, 743, 744, 1043, 1045, 43, 1046, 521, 522, 523, 524, 525, 526, 527, 528, 1047, 1048, 1049, 1050, 529, 530, 531, 532, 533] rfl
set_option maxRecDepth 20000 in
theorem lwIn_r28 : ∀ w ∈ wsL_law_r28, w ∈ lw_tbl := inPl [534, 535, 536, 87, 95, 537, 538, 539, 540, 541, 542, 123, 128, 543, 544, 545, 546, 547, 548, 549, 66, 550, 551, 552] rfl
set_option maxRecDepth 20000 in
theorem lwIn_r29 : ∀ w ∈ wsL_law_r29, w ∈ lw_tbl := inPl [553, 554, 83, 555, 556, 557, 558, 559, 560, 561, 562, 563, 564, 565, 566, 567, 568, 569, 570, 572, 6, 573, 574, 576] rfl
set_option maxRecDepth 20000 in
theorem lwIn_r30 : ∀ w ∈ wsL_law_r30, w ∈ lw_tbl := inPl [7, 577, 585, 578, 579, 580, 581, 582, 583, 584, 1051, 1052, 1053, 1054, 1055, 1057, 44, 1058, 749, 1059, 1061, 45, 1062, 750] rfl
set_option maxRecDepth 20000 in
theorem lwIn_r31 : ∀ w ∈ wsL_law_r31, w ∈ lw_tbl := inPl [586, 587, 588, 589, 129, 1063, 1064, 1065, 1066, 590, 591, 592, 593, 594, 596, 8, 597, 598, 1067, 1068, 1069, 1070, 1071, 1073] rfl
set_option maxRecDepth 20000 in
theorem lwIn_r32 : ∀ w ∈ wsL_law_r32, w ∈ lw_tbl := inPl [46, 1074, 1075, 599, 600, 601, 602, 603, 605, 9, 606, 607, 1076, 1077, 1078, 1079, 1080, 1082, 47, 1083, 608, 609, 610, 611] rfl
set_option maxRecDepth 20000 in
theorem lwIn_r33 : ∀ w ∈ wsL_law_r33, w ∈ lw_tbl := inPl [1084, 1085, 1086, 1087, 612, 613, 614, 615, 616, 618, 10, 619, 620, 621, 622, 623, 1088, 1089, 1090, 1091, 1092, 1094, 48, 1095] rfl
set_option maxRecDepth 20000 in
theorem lwIn_r34 : ∀ w ∈ wsL_law_r34, w ∈ lw_tbl := inPl [1096, 1098, 49, 1099, 1100, 1102, 50, 1103, 624, 625, 626, 627, 628, 629, 630, 1104, 1105, 1106, 1107, 631, 632, 633, 634, 635] rfl
set_option maxRecDepth 20000 in
theorem lwIn_r35 : ∀ w ∈ wsL_law_r35, w ∈ lw_tbl := inPl [1108, 1109, 1110, 1111, 636, 637, 638, 639, 1112, 1113, 1114, 1115, 640, 641, 642, 643, 1116, 1117, 1118, 1119, 644, 645, 646, 647] rfl
set_option maxRecDepth 20000 in
theorem lwIn_r36 : ∀ w ∈ wsL_law_r36, w ∈ lw_tbl := inPl [1120, 1121, 1122, 1123, 648, 649, 650, 651, 1124, 1125, 1126, 1127, 652, 653, 654, 655, 656, 658, 11, 659, 660, 661, 662, 663] rfl
set_option maxRecDepth 20000 in
theorem lwIn_r37 : ∀ w ∈ wsL_law_r37, w ∈ lw_tbl := inPl [664, 665, 666, 667, 668, 1128, 1129, 1130, 1131, 751, 1132, 1134, 51, 1135, 1136, 1137, 1138, 669, 670, 671, 672, 1139, 1140, 1141] rfl
set_option maxRecDepth 20000 in
theorem lwIn_r38 : ∀ w ∈ wsL_law_r38, w ∈ lw_tbl := inPl [1142, 673, 674, 675, 676, 677, 679, 12, 680, 1143, 1144, 1145, 1146, 1147, 1149, 52, 1150, 681, 682, 683, 684, 1151, 1152, 1153] rfl
set_option maxRecDepth 20000 in
theorem lwIn_r39 : ∀ w ∈ wsL_law_r39, w ∈ lw_tbl := inPl [1154, 685, 686, 687, 688, 163, 909, 910, 911, 912, 738, 689, 690, 691, 692, 913, 914, 915, 916, 693, 694, 695, 696, 154] rfl
set_option maxRecDepth 20000 in
theorem lwIn_r40 : ∀ w ∈ wsL_law_r40, w ∈ lw_tbl := inPl [697, 698, 699, 700, 1155, 1156, 1157, 1158] rfl
set_option maxRecDepth 20000 in
theorem lwIn_X30 : ∀ w ∈ wsX30, w ∈ lw_tbl := inPl [169, 171, 173, 175, 177, 179, 181, 183, 185] rfl
set_option maxRecDepth 20000 in
theorem lwIn_X40 : ∀ w ∈ wsX40, w ∈ lw_tbl := inPl [752, 754, 756, 758, 760, 762, 764, 766, 768, 770, 772, 774, 776, 778, 780, 782, 784, 786, 788, 790, 792, 794, 796, 798, 800, 802, 804, 806, 808, 810, 812, 814, 816, 818, 820, 822, 824, 826, 828, 830, 832, 834, 836, 838, 840] rfl
set_option maxRecDepth 20000 in
theorem lwIn_X20 : ∀ w ∈ wsX20, w ∈ lw_tbl := inPl [98, 100, 102, 104, 106, 108, 110, 112] rfl
set_option maxRecDepth 20000 in
theorem lwIn_X10 : ∀ w ∈ wsX10, w ∈ lw_tbl := inPl [130, 132, 134, 136, 138, 140, 142] rfl
set_option maxRecDepth 20000 in
theorem lwIn_X00 : ∀ w ∈ wsX00, w ∈ lw_tbl := inPl [155, 157] rfl
set_option maxRecDepth 20000 in
theorem wsL_law_in : ∀ w ∈ wsL_law, w ∈ lw_tbl := (List.forall_mem_append.mpr ⟨(List.forall_mem_append.mpr ⟨(List.forall_mem_append.mpr ⟨(List.forall_mem_append.mpr ⟨(List.forall_mem_append.mpr ⟨(List.forall_mem_append.mpr ⟨(List.forall_mem_append.mpr ⟨lwIn_r1, List.forall_mem_append.mpr ⟨lwIn_r2, List.forall_mem_append.mpr ⟨lwIn_r3, List.forall_mem_append.mpr ⟨lwIn_r4, List.forall_mem_append.mpr ⟨lwIn_r5, List.forall_mem_append.mpr ⟨lwIn_r6, List.forall_mem_append.mpr ⟨lwIn_r7, List.forall_mem_append.mpr ⟨lwIn_r8, List.forall_mem_append.mpr ⟨lwIn_r9, List.forall_mem_append.mpr ⟨lwIn_r10, List.forall_mem_append.mpr ⟨lwIn_r11, List.forall_mem_append.mpr ⟨lwIn_r12, List.forall_mem_append.mpr ⟨lwIn_r13, List.forall_mem_append.mpr ⟨lwIn_r14, List.forall_mem_append.mpr ⟨lwIn_r15, List.forall_mem_append.mpr ⟨lwIn_r16, List.forall_mem_append.mpr ⟨lwIn_r17, List.forall_mem_append.mpr ⟨lwIn_r18, List.forall_mem_append.mpr ⟨lwIn_r19, List.forall_mem_append.mpr ⟨lwIn_r20, List.forall_mem_append.mpr ⟨lwIn_r21, List.forall_mem_append.mpr ⟨lwIn_r22, List.forall_mem_append.mpr ⟨lwIn_r23, List.forall_mem_append.mpr ⟨lwIn_r24, List.forall_mem_append.mpr ⟨lwIn_r25, List.forall_mem_append.mpr ⟨lwIn_r26, List.forall_mem_append.mpr ⟨lwIn_r27, List.forall_mem_append.mpr ⟨lwIn_r28, List.forall_mem_append.mpr ⟨lwIn_r29, List.forall_mem_append.mpr ⟨lwIn_r30, List.forall_mem_append.mpr ⟨lwIn_r31, List.forall_mem_append.mpr ⟨lwIn_r32, List.forall_mem_append.mpr ⟨lwIn_r33, List.forall_mem_append.mpr ⟨lwIn_r34, List.forall_mem_append.mpr ⟨lwIn_r35, List.forall_mem_append.mpr ⟨lwIn_r36, List.forall_mem_append.mpr ⟨lwIn_r37, List.forall_mem_append.mpr ⟨lwIn_r38, List.forall_mem_append.mpr ⟨lwIn_r39, lwIn_r40⟩⟩⟩⟩⟩⟩⟩⟩⟩⟩⟩⟩⟩⟩⟩⟩⟩⟩⟩⟩⟩⟩⟩⟩⟩⟩⟩⟩⟩⟩⟩⟩⟩⟩⟩⟩⟩⟩⟩), lwIn_X30⟩), lwIn_X40⟩), lwIn_X20⟩), lwIn_X10⟩), lwIn_X00⟩), fun _ h => absurd h List.not_mem_nil⟩)
theorem inX3 : ∀ w ∈ wsX30, w ∈ lw_tbl := lwIn_X30
theorem inX4 : ∀ w ∈ wsX40, w ∈ lw_tbl := lwIn_X40
theorem inX2 : ∀ w ∈ wsX20, w ∈ lw_tbl := lwIn_X20
theorem inX1 : ∀ w ∈ wsX10, w ∈ lw_tbl := lwIn_X10
theorem inX0 : ∀ w ∈ wsX00, w ∈ lw_tbl := lwIn_X00
theorem lwGood {ws : List Cond} (h : GoodIn wsL_law ws) : GoodIn lw_tbl ws := fun w hw => ⟨wsL_law_in w (h w hw).1, (h w hw).2⟩
end
