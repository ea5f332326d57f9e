theorem mem_r {big : List Cond} (ws : List Cond) (ps : List Nat) (hp : ws = ps.filterMap (fun i => big[i]?)) : ∀ w ∈ ws, w ∈ big := by
  intro w hw
  rw [hp] at hw
  obtain ⟨i, -, hi⟩ := List.mem_filterMap.mp hw
  exact List.mem_of_getElem? hi
set_option maxRecDepth 20000 in
theorem in_wsL_law_r1 : ∀ w ∈ wsL_law_r1, w ∈ lw_tbl := mem_r _ [75, 76, 61, 831, 832, 68, 1363, 77, 78, 79, 80, 81, 82, 83, 84, 62, 246, 247, 248, 249, 145, 146, 64, 250] (by decide +kernel)
set_option maxRecDepth 20000 in
theorem in_wsL_law_r2 : ∀ w ∈ wsL_law_r2, w ∈ lw_tbl := mem_r _ [172, 173, 65, 251, 199, 252, 201, 253, 144, 254, 203, 66, 224, 67, 85, 86, 87, 88, 102, 105, 107, 109, 111, 113] (by decide +kernel)
set_option maxRecDepth 20000 in
theorem in_wsL_law_r3 : ∀ w ∈ wsL_law_r3, w ∈ lw_tbl := mem_r _ [120, 89, 90, 91, 92, 95, 97, 96, 63, 115, 118, 98, 99, 100, 101, 148, 149, 150, 171, 151, 175, 176, 177, 178] (by decide +kernel)
set_option maxRecDepth 20000 in
theorem in_wsL_law_r4 : ∀ w ∈ wsL_law_r4, w ∈ lw_tbl := mem_r _ [205, 206, 207, 223, 208, 210, 226, 227, 228, 229, 833, 834, 835, 836, 841, 842, 843, 844, 846, 853, 854, 855, 857, 858] (by decide +kernel)
set_option maxRecDepth 20000 in
theorem in_wsL_law_r5 : ∀ w ∈ wsL_law_r5, w ∈ lw_tbl := mem_r _ [859, 860, 861, 862, 863, 837, 839, 9, 840, 280, 281, 282, 283, 284, 285, 286, 287, 288, 289, 290, 152, 926, 927, 928] (by decide +kernel)
set_option maxRecDepth 20000 in
theorem in_wsL_law_r6 : ∀ w ∈ wsL_law_r6, w ∈ lw_tbl := mem_r _ [929, 930, 847, 934, 931, 932, 933, 291, 292, 293, 294, 121, 153, 255, 116, 295, 296, 297, 298, 299, 156, 154, 155, 300] (by decide +kernel)
set_option maxRecDepth 20000 in
theorem in_wsL_law_r7 : ∀ w ∈ wsL_law_r7, w ∈ lw_tbl := mem_r _ [301, 302, 303, 157, 304, 305, 306, 307, 308, 309, 310, 311, 312, 313, 314, 315, 316, 317, 318, 319, 320, 321, 323, 324] (by decide +kernel)
set_option maxRecDepth 20000 in
theorem in_wsL_law_r8 : ∀ w ∈ wsL_law_r8, w ∈ lw_tbl := mem_r _ [325, 326, 327, 328, 329, 69, 330, 1364, 331, 332, 333, 334, 335, 1365, 337, 338, 339, 340, 341, 342, 343, 344, 345, 346] (by decide +kernel)
set_option maxRecDepth 20000 in
theorem in_wsL_law_r9 : ∀ w ∈ wsL_law_r9, w ∈ lw_tbl := mem_r _ [70, 347, 348, 349, 350, 351, 353, 354, 71, 355, 356, 357, 72, 358, 359, 360, 361, 362, 363, 364, 365, 366, 367, 368] (by decide +kernel)
set_option maxRecDepth 20000 in
theorem in_wsL_law_r10 : ∀ w ∈ wsL_law_r10, w ∈ lw_tbl := mem_r _ [369, 371, 373, 380, 381, 382, 383, 117, 385, 386, 387, 388, 389, 390, 391, 392, 395, 396, 397, 398, 399, 400, 401, 402] (by decide +kernel)
set_option maxRecDepth 20000 in
theorem in_wsL_law_r11 : ∀ w ∈ wsL_law_r11, w ∈ lw_tbl := mem_r _ [404, 405, 406, 407, 409, 410, 411, 412, 413, 418, 419, 420, 421, 104, 426, 427, 428, 429, 935, 936, 937, 938, 850, 852] (by decide +kernel)
set_option maxRecDepth 20000 in
theorem in_wsL_law_r12 : ∀ w ∈ wsL_law_r12, w ∈ lw_tbl := mem_r _ [848, 849, 856, 939, 940, 941, 942, 944, 10, 945, 851, 946, 948, 11, 949, 950, 951, 952, 953, 954, 955, 956, 958, 12] (by decide +kernel)
set_option maxRecDepth 20000 in
theorem in_wsL_law_r13 : ∀ w ∈ wsL_law_r13, w ∈ lw_tbl := mem_r _ [959, 960, 962, 13, 963, 964, 966, 14, 967, 968, 970, 15, 971, 972, 974, 16, 975, 976, 978, 17, 979, 980, 982, 18] (by decide +kernel)
set_option maxRecDepth 20000 in
theorem in_wsL_law_r14 : ∀ w ∈ wsL_law_r14, w ∈ lw_tbl := mem_r _ [983, 984, 986, 19, 987, 988, 990, 20, 991, 992, 994, 21, 995, 996, 998, 22, 999, 1000, 1002, 23, 1003, 1004, 1005, 1006] (by decide +kernel)
set_option maxRecDepth 20000 in
theorem in_wsL_law_r15 : ∀ w ∈ wsL_law_r15, w ∈ lw_tbl := mem_r _ [1007, 1009, 24, 1010, 430, 431, 432, 433, 434, 435, 103, 1011, 1012, 1013, 1014, 1015, 1016, 1018, 25, 1019, 436, 437, 438, 439] (by decide +kernel)
set_option maxRecDepth 20000 in
theorem in_wsL_law_r16 : ∀ w ∈ wsL_law_r16, w ∈ lw_tbl := mem_r _ [1020, 1021, 1022, 1023, 440, 441, 442, 443, 444, 445, 446, 447, 448, 449, 450, 451, 452, 453, 1024, 1025, 1026, 1027, 1028, 1029] (by decide +kernel)
set_option maxRecDepth 20000 in
theorem in_wsL_law_r17 : ∀ w ∈ wsL_law_r17, w ∈ lw_tbl := mem_r _ [1030, 1031, 1032, 454, 455, 456, 457, 106, 108, 110, 458, 460, 0, 461, 462, 463, 464, 465, 466, 467, 468, 469, 470, 471] (by decide +kernel)
set_option maxRecDepth 20000 in
theorem in_wsL_law_r18 : ∀ w ∈ wsL_law_r18, w ∈ lw_tbl := mem_r _ [472, 473, 474, 475, 73, 476, 477, 478, 479, 480, 481, 482, 483, 484, 485, 486, 487, 488, 489, 490, 491, 492, 1033, 1034] (by decide +kernel)
set_option maxRecDepth 20000 in
theorem in_wsL_law_r19 : ∀ w ∈ wsL_law_r19, w ∈ lw_tbl := mem_r _ [1035, 1036, 1041, 1037, 1039, 26, 1040, 1042, 1044, 27, 1045, 1046, 1048, 28, 1049, 1050, 1052, 29, 1053, 1054, 1056, 30, 1057, 1058] (by decide +kernel)
set_option maxRecDepth 20000 in
theorem in_wsL_law_r20 : ∀ w ∈ wsL_law_r20, w ∈ lw_tbl := mem_r _ [1060, 31, 1061, 1062, 1064, 32, 1065, 1066, 1067, 1068, 1069, 1071, 33, 1072, 493, 494, 495, 496, 1073, 1074, 1075, 1076, 497, 498] (by decide +kernel)
set_option maxRecDepth 20000 in
theorem in_wsL_law_r21 : ∀ w ∈ wsL_law_r21, w ∈ lw_tbl := mem_r _ [499, 500, 1077, 1078, 1079, 1080, 501, 502, 503, 504, 505, 506, 507, 508, 1081, 1082, 1083, 1084, 1085, 1086, 1087, 509, 510, 511] (by decide +kernel)
set_option maxRecDepth 20000 in
theorem in_wsL_law_r22 : ∀ w ∈ wsL_law_r22, w ∈ lw_tbl := mem_r _ [512, 112, 1088, 1089, 1090, 1091, 513, 514, 515, 516, 114, 1092, 1093, 1094, 1095, 517, 518, 519, 520, 521, 522, 523, 524, 525] (by decide +kernel)
set_option maxRecDepth 20000 in
theorem in_wsL_law_r23 : ∀ w ∈ wsL_law_r23, w ∈ lw_tbl := mem_r _ [526, 527, 528, 530, 531, 1096, 1097, 1098, 1099, 1100, 1102, 34, 1103, 532, 533, 534, 535, 536, 537, 538, 539, 122, 540, 541] (by decide +kernel)
set_option maxRecDepth 20000 in
theorem in_wsL_law_r24 : ∀ w ∈ wsL_law_r24, w ∈ lw_tbl := mem_r _ [542, 543, 544, 546, 547, 548, 549, 73, 550, 551, 552, 553, 554, 555, 556, 557, 558, 559, 74, 560, 561, 562, 563, 1104] (by decide +kernel)
set_option maxRecDepth 20000 in
theorem in_wsL_law_r25 : ∀ w ∈ wsL_law_r25, w ∈ lw_tbl := mem_r _ [1105, 1106, 1107, 1108, 1109, 1111, 35, 1112, 1113, 1115, 36, 1116, 1117, 1119, 37, 1120, 1121, 1122, 1123, 1124, 1126, 38, 1127, 564] (by decide +kernel)
set_option maxRecDepth 20000 in
theorem in_wsL_law_r26 : ∀ w ∈ wsL_law_r26, w ∈ lw_tbl := mem_r _ [565, 566, 567, 1128, 1129, 1130, 1131, 568, 569, 570, 571, 572, 573, 574, 575, 576, 577, 578, 579, 580, 581, 1132, 1133, 1134] (by decide +kernel)
set_option maxRecDepth 20000 in
theorem in_wsL_law_r27 : ∀ w ∈ wsL_law_r27, w ∈ lw_tbl := mem_r _ [1135, 1136, 1138, 39, 1139, 1140, 582, 583, 584, 585, 586, 587, 588, 589, 1141, 1142, 1143, 1144, 1145, 1146, 590, 591, 592, 593] (by decide +kernel)
set_option maxRecDepth 20000 in
theorem in_wsL_law_r28 : ∀ w ∈ wsL_law_r28, w ∈ lw_tbl := mem_r _ [119, 594, 595, 596, 597, 598, 599, 600, 601, 602, 603, 604, 605, 606, 607, 608, 609, 610, 611, 1147, 1148, 1149, 1150, 1151] (by decide +kernel)
set_option maxRecDepth 20000 in
theorem in_wsL_law_r29 : ∀ w ∈ wsL_law_r29, w ∈ lw_tbl := mem_r _ [1153, 40, 1154, 1155, 1157, 41, 1158, 1159, 1161, 42, 1162, 1163, 1165, 43, 1166, 1167, 1168, 1169, 612, 613, 614, 615, 1170, 1171] (by decide +kernel)
set_option maxRecDepth 20000 in
theorem in_wsL_law_r30 : ∀ w ∈ wsL_law_r30, w ∈ lw_tbl := mem_r _ [1172, 1173, 616, 617, 618, 619, 620, 621, 622, 623, 1174, 1175, 1176, 1177, 1178, 1180, 44, 1181, 624, 625, 626, 627, 628, 629] (by decide +kernel)
set_option maxRecDepth 20000 in
theorem in_wsL_law_r31 : ∀ w ∈ wsL_law_r31, w ∈ lw_tbl := mem_r _ [630, 631, 632, 1182, 1183, 1184, 1185, 633, 634, 635, 636, 637, 638, 639, 640, 641, 1186, 1187, 1188, 1189, 642, 643, 644, 645] (by decide +kernel)
set_option maxRecDepth 20000 in
theorem in_wsL_law_r32 : ∀ w ∈ wsL_law_r32, w ∈ lw_tbl := mem_r _ [646, 648, 1, 649, 1190, 1191, 1192, 1193, 1194, 1196, 45, 1197, 1198, 1199, 1200, 650, 651, 652, 653, 1201, 1202, 1203, 1204, 654] (by decide +kernel)
set_option maxRecDepth 20000 in
theorem in_wsL_law_r33 : ∀ w ∈ wsL_law_r33, w ∈ lw_tbl := mem_r _ [655, 656, 657, 658, 660, 2, 661, 1205, 1206, 1207, 1208, 662, 663, 664, 665, 666, 668, 3, 669, 670, 1209, 1210, 1211, 1212] (by decide +kernel)
set_option maxRecDepth 20000 in
theorem in_wsL_law_r34 : ∀ w ∈ wsL_law_r34, w ∈ lw_tbl := mem_r _ [671, 672, 673, 674, 212, 675, 676, 677, 678, 680, 4, 681, 215, 209, 682, 1213, 1214, 1215, 1216, 1217, 1218, 1219, 1220, 1222] (by decide +kernel)
set_option maxRecDepth 20000 in
theorem in_wsL_law_r35 : ∀ w ∈ wsL_law_r35, w ∈ lw_tbl := mem_r _ [46, 1223, 683, 684, 685, 686, 693, 687, 688, 689, 690, 691, 692, 694, 695, 696, 697, 698, 699, 1224, 1225, 1226, 1227, 1228] (by decide +kernel)
set_option maxRecDepth 20000 in
theorem in_wsL_law_r36 : ∀ w ∈ wsL_law_r36, w ∈ lw_tbl := mem_r _ [1232, 1229, 1230, 1231, 1233, 1234, 1235, 700, 701, 702, 703, 1236, 1237, 1238, 1239, 704, 705, 706, 707, 708, 709, 710, 711, 1240] (by decide +kernel)
set_option maxRecDepth 20000 in
theorem in_wsL_law_r37 : ∀ w ∈ wsL_law_r37, w ∈ lw_tbl := mem_r _ [1241, 1242, 1243, 1244, 712, 713, 714, 715, 716, 718, 5, 719, 1245, 1246, 1247, 1248, 1249, 1251, 47, 1252, 1253, 720, 721, 722] (by decide +kernel)
set_option maxRecDepth 20000 in
theorem in_wsL_law_r38 : ∀ w ∈ wsL_law_r38, w ∈ lw_tbl := mem_r _ [723, 1254, 1255, 1256, 1257, 724, 725, 726, 727, 1258, 1259, 1260, 1261, 728, 729, 730, 731, 732, 1278, 1279, 1280, 1281, 1274, 1276] (by decide +kernel)
set_option maxRecDepth 20000 in
theorem in_wsL_law_r39 : ∀ w ∈ wsL_law_r39, w ∈ lw_tbl := mem_r _ [48, 1277, 733, 734, 735, 736, 737, 738, 739, 740, 213, 1262, 1263, 1264, 1265, 741, 742, 743, 744, 745, 746, 747, 748, 1266] (by decide +kernel)
set_option maxRecDepth 20000 in
theorem in_wsL_law_r40 : ∀ w ∈ wsL_law_r40, w ∈ lw_tbl := mem_r _ [1267, 1268, 1269, 749, 750, 751, 752, 1270, 1271, 1272, 1273, 753, 754, 755, 756, 230, 757, 758, 759, 760, 761, 762, 763, 231] (by decide +kernel)
set_option maxRecDepth 20000 in
theorem in_wsL_law_r41 : ∀ w ∈ wsL_law_r41, w ∈ lw_tbl := mem_r _ [764, 765, 766, 767, 211, 233, 214, 235, 1282, 1283, 1284, 1285, 1286, 1287, 1288, 768, 769, 770, 771, 234, 236, 232, 772, 774] (by decide +kernel)
set_option maxRecDepth 20000 in
theorem in_wsL_law_r42 : ∀ w ∈ wsL_law_r42, w ∈ lw_tbl := mem_r _ [6, 775, 776, 777, 778, 779, 1289, 1290, 1291, 1292, 1293, 1294, 1295, 1296, 1298, 49, 1299, 1300, 1301, 1302, 781, 782, 783, 784] (by decide +kernel)
set_option maxRecDepth 20000 in
theorem in_wsL_law_r43 : ∀ w ∈ wsL_law_r43, w ∈ lw_tbl := mem_r _ [785, 786, 787, 788, 180, 185, 789, 790, 791, 792, 182, 183, 184, 793, 794, 795, 800, 796, 797, 798, 803, 805, 7, 806] (by decide +kernel)
set_option maxRecDepth 20000 in
theorem in_wsL_law_r44 : ∀ w ∈ wsL_law_r44, w ∈ lw_tbl := mem_r _ [807, 809, 8, 810, 1303, 1304, 1305, 1306, 864, 868, 865, 866, 867, 1307, 1309, 50, 1310, 1311, 1313, 51, 1314, 1315, 1317, 52] (by decide +kernel)
set_option maxRecDepth 20000 in
theorem in_wsL_law_r45 : ∀ w ∈ wsL_law_r45, w ∈ lw_tbl := mem_r _ [1318, 1319, 1321, 53, 1322, 1323, 1325, 54, 1326, 1327, 1329, 55, 1330, 1331, 1333, 56, 1334, 1335, 1337, 57, 1338, 1339, 1341, 58] (by decide +kernel)
set_option maxRecDepth 20000 in
theorem in_wsL_law_r46 : ∀ w ∈ wsL_law_r46, w ∈ lw_tbl := mem_r _ [1342, 1343, 1345, 59, 1346, 811, 812, 813, 814, 181, 179, 1347, 1348, 1349, 1350, 815, 816, 817, 818, 819, 820, 821, 822, 1351] (by decide +kernel)
set_option maxRecDepth 20000 in
theorem in_wsL_law_r47 : ∀ w ∈ wsL_law_r47, w ∈ lw_tbl := mem_r _ [1352, 1353, 1354, 823, 824, 825, 826, 256, 1355, 1356, 1357, 1358, 845, 827, 828, 829, 830, 1359, 1360, 1361, 1362] (by decide +kernel)
set_option maxRecDepth 20000 in
theorem in_wsX50 : ∀ w ∈ wsX50, w ∈ lw_tbl := mem_r _ [257, 259, 261, 263, 265, 267, 269, 271, 273, 275, 277] (by decide +kernel)
set_option maxRecDepth 20000 in
theorem in_wsX60 : ∀ w ∈ wsX60, w ∈ lw_tbl := mem_r _ [869, 871, 873, 875, 877, 879, 881, 883, 885, 887, 889, 891, 893, 895, 897, 899, 901, 903, 905, 907, 909, 911, 913, 915, 917, 919, 921, 923] (by decide +kernel)
set_option maxRecDepth 20000 in
theorem in_wsX10 : ∀ w ∈ wsX10, w ∈ lw_tbl := mem_r _ [123, 125, 127, 129, 131, 133, 135, 137, 139, 141] (by decide +kernel)
set_option maxRecDepth 20000 in
theorem in_wsX40 : ∀ w ∈ wsX40, w ∈ lw_tbl := mem_r _ [158, 160, 162, 164, 166, 168] (by decide +kernel)
set_option maxRecDepth 20000 in
theorem in_wsX00 : ∀ w ∈ wsX00, w ∈ lw_tbl := mem_r _ [186, 188, 190, 192, 194, 196] (by decide +kernel)
set_option maxRecDepth 20000 in
theorem in_wsX20 : ∀ w ∈ wsX20, w ∈ lw_tbl := mem_r _ [216, 218, 220] (by decide +kernel)
set_option maxRecDepth 20000 in
theorem in_wsX30 : ∀ w ∈ wsX30, w ∈ lw_tbl := mem_r _ [237, 239, 241, 243] (by decide +kernel)
theorem wsL_law_in : ∀ w ∈ wsL_law, w ∈ lw_tbl := List.forall_mem_append.mpr ⟨(List.forall_mem_append.mpr ⟨(List.forall_mem_append.mpr ⟨(List.forall_mem_append.mpr ⟨(List.forall_mem_append.mpr ⟨(List.forall_mem_append.mpr ⟨(List.forall_mem_append.mpr ⟨(List.forall_mem_append.mpr ⟨(List.forall_mem_append.mpr ⟨in_wsL_law_r1, (List.forall_mem_append.mpr ⟨in_wsL_law_r2, (List.forall_mem_append.mpr ⟨in_wsL_law_r3, (List.forall_mem_append.mpr ⟨in_wsL_law_r4, (List.forall_mem_append.mpr ⟨in_wsL_law_r5, (List.forall_mem_append.mpr ⟨in_wsL_law_r6, (List.forall_mem_append.mpr ⟨in_wsL_law_r7, (List.forall_mem_append.mpr ⟨in_wsL_law_r8, (List.forall_mem_append.mpr ⟨in_wsL_law_r9, (List.forall_mem_append.mpr ⟨in_wsL_law_r10, (List.forall_mem_append.mpr ⟨in_wsL_law_r11, (List.forall_mem_append.mpr ⟨in_wsL_law_r12, (List.forall_mem_append.mpr ⟨in_wsL_law_r13, (List.forall_mem_append.mpr ⟨in_wsL_law_r14, (List.forall_mem_append.mpr ⟨in_wsL_law_r15, (List.forall_mem_append.mpr ⟨in_wsL_law_r16, (List.forall_mem_append.mpr ⟨in_wsL_law_r17, (List.forall_mem_append.mpr ⟨in_wsL_law_r18, (List.forall_mem_append.mpr ⟨in_wsL_law_r19, (List.forall_mem_append.mpr ⟨in_wsL_law_r20, (List.forall_mem_append.mpr ⟨in_wsL_law_r21, (List.forall_mem_append.mpr ⟨in_wsL_law_r22, (List.forall_mem_append.mpr ⟨in_wsL_law_r23, (List.forall_mem_append.mpr ⟨in_wsL_law_r24, (List.forall_mem_append.mpr ⟨in_wsL_law_r25, (List.forall_mem_append.mpr ⟨in_wsL_law_r26, (List.forall_mem_append.mpr ⟨in_wsL_law_r27, (List.forall_mem_append.mpr ⟨in_wsL_law_r28, (List.forall_mem_append.mpr ⟨in_wsL_law_r29, (List.forall_mem_append.mpr ⟨in_wsL_law_r30, (List.forall_mem_append.mpr ⟨in_wsL_law_r31, (List.forall_mem_append.mpr ⟨in_wsL_law_r32, (List.forall_mem_append.mpr ⟨in_wsL_law_r33, (List.forall_mem_append.mpr ⟨in_wsL_law_r34, (List.forall_mem_append.mpr ⟨in_wsL_law_r35, (List.forall_mem_append.mpr ⟨in_wsL_law_r36, (List.forall_mem_append.mpr ⟨in_wsL_law_r37, (List.forall_mem_append.mpr ⟨in_wsL_law_r38, (List.forall_mem_append.mpr ⟨in_wsL_law_r39, (List.forall_mem_append.mpr ⟨in_wsL_law_r40, (List.forall_mem_append.mpr ⟨in_wsL_law_r41, (List.forall_mem_append.mpr ⟨in_wsL_law_r42, (List.forall_mem_append.mpr ⟨in_wsL_law_r43, (List.forall_mem_append.mpr ⟨in_wsL_law_r44, (List.forall_mem_append.mpr ⟨in_wsL_law_r45, (List.forall_mem_append.mpr ⟨in_wsL_law_r46, in_wsL_law_r47⟩)⟩)⟩)⟩)⟩)⟩)⟩)⟩)⟩)⟩)⟩)⟩)⟩)⟩)⟩)⟩)⟩)⟩)⟩)⟩)⟩)⟩)⟩)⟩)⟩)⟩)⟩)⟩)⟩)⟩)⟩)⟩)⟩)⟩)⟩)⟩)⟩)⟩)⟩)⟩)⟩)⟩)⟩)⟩)⟩)⟩), in_wsX50⟩), in_wsX60⟩), in_wsX10⟩), in_wsX40⟩), in_wsX00⟩), in_wsX20⟩), in_wsX30⟩), fun _ h => absurd h List.not_mem_nil⟩
