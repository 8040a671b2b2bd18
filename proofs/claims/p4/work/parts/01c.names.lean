theorem mem_r {big : List Cond} (ws : List Cond) (ps : List Nat) (hp : ws = ps.filterMap (fun i => big[i]?)) : ∀ w ∈ ws, w ∈ big := by
  intro w hw
  rw [hp] at hw
  obtain ⟨i, -, hi⟩ := List.mem_filterMap.mp hw
  exact List.mem_of_getElem? hi
theorem mem_app {big a b : List Cond} (ha : ∀ w ∈ a, w ∈ big) (hb : ∀ w ∈ b, w ∈ big) : ∀ w ∈ a ++ b, w ∈ big := fun w h => (List.mem_append.mp h).elim (ha w) (hb w)
set_option maxRecDepth 20000 in
theorem in_wsL_law_r1 : ∀ w ∈ wsL_law_r1, w ∈ lw_tbl := mem_r _ [74, 75, 54, 947, 948, 67, 76, 77, 78, 79, 80, 81, 82, 83, 55, 422, 98, 99, 56, 423, 141, 142, 58, 424] (by decide +kernel)
set_option maxRecDepth 20000 in
theorem in_wsL_law_r2 : ∀ w ∈ wsL_law_r2, w ∈ lw_tbl := mem_r _ [157, 425, 159, 59, 306, 307, 63, 426, 357, 358, 65, 427, 418, 165, 60, 428, 420, 190, 61, 429, 430, 85, 86, 87] (by decide +kernel)
set_option maxRecDepth 20000 in
theorem in_wsL_law_r3 : ∀ w ∈ wsL_law_r3, w ∈ lw_tbl := mem_r _ [97, 88, 89, 100, 101, 102, 103, 130, 132, 104, 105, 57, 129, 106, 107, 108, 109, 111, 113, 115, 117, 110, 144, 145] (by decide +kernel)
set_option maxRecDepth 20000 in
theorem in_wsL_law_r4 : ∀ w ∈ wsL_law_r4, w ∈ lw_tbl := mem_r _ [146, 147, 149, 161, 162, 163, 278, 280, 282, 164, 285, 189, 288, 218, 219, 62, 291, 167, 168, 169, 170, 188, 171, 172] (by decide +kernel)
set_option maxRecDepth 20000 in
theorem in_wsL_law_r5 : ∀ w ∈ wsL_law_r5, w ∈ lw_tbl := mem_r _ [173, 174, 192, 193, 194, 195, 197, 200, 202, 204, 221, 222, 223, 224, 225, 227, 228, 230, 231, 232, 233, 234, 235, 236] (by decide +kernel)
set_option maxRecDepth 20000 in
theorem in_wsL_law_r6 : ∀ w ∈ wsL_law_r6, w ∈ lw_tbl := mem_r _ [238, 239, 240, 242, 243, 308, 309, 310, 311, 315, 316, 319, 322, 323, 324, 328, 332, 336, 312, 313, 64, 314, 359, 360] (by decide +kernel)
set_option maxRecDepth 20000 in
theorem in_wsL_law_r7 : ∀ w ∈ wsL_law_r7, w ∈ lw_tbl := mem_r _ [361, 362, 387, 390, 391, 393, 395, 397, 399, 388, 363, 364, 66, 389, 365, 366, 367, 368, 370, 372, 374, 375, 369, 949] (by decide +kernel)
set_option maxRecDepth 20000 in
theorem in_wsL_law_r8 : ∀ w ∈ wsL_law_r8, w ∈ lw_tbl := mem_r _ [950, 951, 952, 639, 953, 962, 963, 964, 965, 966, 967, 968, 970, 971, 972, 973, 974, 975, 977, 978, 979, 980, 981, 982] (by decide +kernel)
set_option maxRecDepth 20000 in
theorem in_wsL_law_r9 : ∀ w ∈ wsL_law_r9, w ∈ lw_tbl := mem_r _ [983, 984, 985, 986, 987, 988, 989, 990, 991, 992, 993, 995, 996, 997, 998, 999, 1000, 1001, 1002, 1004, 1005, 1006, 1007, 1008] (by decide +kernel)
set_option maxRecDepth 20000 in
theorem in_wsL_law_r10 : ∀ w ∈ wsL_law_r10, w ∈ lw_tbl := mem_r _ [1009, 450, 451, 452, 453, 90, 454, 455, 456, 457, 1131, 1132, 1133, 1134, 954, 458, 459, 460, 461, 462, 463, 464, 1135, 1136] (by decide +kernel)
set_option maxRecDepth 20000 in
theorem in_wsL_law_r11 : ∀ w ∈ wsL_law_r11, w ∈ lw_tbl := mem_r _ [1137, 1138, 465, 466, 467, 468, 148, 469, 470, 471, 1202, 1203, 1204, 1205, 1150, 1151, 1152, 472, 473, 474, 475, 150, 476, 477] (by decide +kernel)
set_option maxRecDepth 20000 in
theorem in_wsL_law_r12 : ∀ w ∈ wsL_law_r12, w ∈ lw_tbl := mem_r _ [478, 479, 480, 481, 482, 483, 484, 1206, 1207, 1208, 1209, 1210, 1211, 1212, 1213, 1214, 1215, 485, 486, 487, 488, 279, 1216, 1217] (by decide +kernel)
set_option maxRecDepth 20000 in
theorem in_wsL_law_r13 : ∀ w ∈ wsL_law_r13, w ∈ lw_tbl := mem_r _ [1218, 1219, 1147, 1148, 1149, 489, 490, 491, 492, 283, 1220, 1221, 1222, 1223, 493, 494, 495, 496, 281, 497, 498, 68, 499, 1224] (by decide +kernel)
set_option maxRecDepth 20000 in
theorem in_wsL_law_r14 : ∀ w ∈ wsL_law_r14, w ∈ lw_tbl := mem_r _ [1225, 1226, 1227, 500, 501, 502, 503, 287, 176, 504, 505, 506, 507, 175, 112, 508, 510, 0, 511, 512, 513, 514, 515, 516] (by decide +kernel)
set_option maxRecDepth 20000 in
theorem in_wsL_law_r15 : ∀ w ∈ wsL_law_r15, w ∈ lw_tbl := mem_r _ [517, 518, 519, 520, 522, 1, 523, 91, 524, 525, 526, 527, 528, 529, 530, 531, 532, 533, 534, 536, 2, 537, 538, 539] (by decide +kernel)
set_option maxRecDepth 20000 in
theorem in_wsL_law_r16 : ∀ w ∈ wsL_law_r16, w ∈ lw_tbl := mem_r _ [540, 541, 543, 3, 544, 545, 547, 4, 548, 550, 551, 552, 553, 554, 555, 556, 69, 557, 1347, 558, 559, 560, 561, 562] (by decide +kernel)
set_option maxRecDepth 20000 in
theorem in_wsL_law_r17 : ∀ w ∈ wsL_law_r17, w ∈ lw_tbl := mem_r _ [1348, 564, 565, 566, 567, 568, 569, 570, 571, 572, 573, 70, 574, 575, 576, 577, 578, 580, 581, 71, 582, 583, 584, 72] (by decide +kernel)
set_option maxRecDepth 20000 in
theorem in_wsL_law_r18 : ∀ w ∈ wsL_law_r18, w ∈ lw_tbl := mem_r _ [585, 586, 587, 588, 589, 590, 591, 592, 593, 594, 595, 596, 598, 600, 602, 604, 5, 605, 114, 606, 611, 613, 6, 614] (by decide +kernel)
set_option maxRecDepth 20000 in
theorem in_wsL_law_r19 : ∀ w ∈ wsL_law_r19, w ∈ lw_tbl := mem_r _ [618, 620, 7, 621, 116, 623, 625, 8, 626, 630, 632, 9, 633, 634, 635, 636, 637, 1139, 1140, 1141, 1142, 961, 956, 1143] (by decide +kernel)
set_option maxRecDepth 20000 in
theorem in_wsL_law_r20 : ∀ w ∈ wsL_law_r20, w ∈ lw_tbl := mem_r _ [1145, 31, 1146, 955, 959, 1153, 1155, 32, 1156, 958, 957, 960, 1157, 1159, 33, 1160, 1161, 1162, 1163, 1164, 1166, 34, 1167, 1169] (by decide +kernel)
set_option maxRecDepth 20000 in
theorem in_wsL_law_r21 : ∀ w ∈ wsL_law_r21, w ∈ lw_tbl := mem_r _ [1170, 1171, 1172, 1173, 1174, 1176, 35, 1177, 969, 1178, 1180, 36, 1181, 1182, 1184, 37, 1185, 1186, 1188, 38, 1189, 640, 641, 642] (by decide +kernel)
set_option maxRecDepth 20000 in
theorem in_wsL_law_r22 : ∀ w ∈ wsL_law_r22, w ∈ lw_tbl := mem_r _ [643, 290, 206, 644, 645, 646, 647, 205, 648, 649, 650, 651, 652, 654, 10, 655, 198, 201, 203, 657, 659, 11, 660, 196] (by decide +kernel)
set_option maxRecDepth 20000 in
theorem in_wsL_law_r23 : ∀ w ∈ wsL_law_r23, w ∈ lw_tbl := mem_r _ [666, 668, 12, 669, 670, 672, 13, 673, 674, 675, 676, 677, 1190, 1191, 1192, 1193, 1194, 1196, 39, 1197, 678, 679, 680, 681] (by decide +kernel)
set_option maxRecDepth 20000 in
theorem in_wsL_law_r24 : ∀ w ∈ wsL_law_r24, w ∈ lw_tbl := mem_r _ [131, 133, 1198, 1199, 1200, 1201, 682, 683, 684, 685, 686, 687, 688, 689, 690, 692, 14, 693, 695, 696, 697, 698, 699, 700] (by decide +kernel)
set_option maxRecDepth 20000 in
theorem in_wsL_law_r25 : ∀ w ∈ wsL_law_r25, w ∈ lw_tbl := mem_r _ [701, 704, 705, 706, 1228, 1229, 1230, 1231, 1232, 1234, 40, 1235, 1236, 1237, 1238, 707, 708, 709, 710, 292, 229, 711, 712, 713] (by decide +kernel)
set_option maxRecDepth 20000 in
theorem in_wsL_law_r26 : ∀ w ∈ wsL_law_r26, w ∈ lw_tbl := mem_r _ [714, 1239, 1240, 1241, 1242, 715, 716, 717, 718, 237, 719, 720, 721, 722, 724, 725, 726, 727, 1243, 1244, 1245, 1246, 728, 729] (by decide +kernel)
set_option maxRecDepth 20000 in
theorem in_wsL_law_r27 : ∀ w ∈ wsL_law_r27, w ∈ lw_tbl := mem_r _ [730, 731, 226, 732, 733, 734, 735, 286, 284, 289, 736, 737, 738, 739, 743, 744, 745, 746, 747, 748, 749, 750, 751, 752] (by decide +kernel)
set_option maxRecDepth 20000 in
theorem in_wsL_law_r28 : ∀ w ∈ wsL_law_r28, w ∈ lw_tbl := mem_r _ [753, 754, 755, 757, 15, 758, 759, 761, 16, 762, 151, 763, 765, 17, 766, 794, 795, 796, 797, 767, 769, 18, 770, 771] (by decide +kernel)
set_option maxRecDepth 20000 in
theorem in_wsL_law_r29 : ∀ w ∈ wsL_law_r29, w ∈ lw_tbl := mem_r _ [773, 19, 774, 775, 777, 20, 778, 779, 781, 21, 782, 784, 785, 73, 786, 787, 789, 22, 790, 798, 799, 800, 801, 803] (by decide +kernel)
set_option maxRecDepth 20000 in
theorem in_wsL_law_r30 : ∀ w ∈ wsL_law_r30, w ∈ lw_tbl := mem_r _ [805, 23, 806, 807, 808, 809, 810, 811, 812, 813, 814, 815, 1247, 1248, 1249, 1250, 976, 1251, 1253, 41, 1254, 1255, 1257, 42] (by decide +kernel)
set_option maxRecDepth 20000 in
theorem in_wsL_law_r31 : ∀ w ∈ wsL_law_r31, w ∈ lw_tbl := mem_r _ [1258, 1259, 1260, 1261, 1262, 1263, 1264, 1265, 1267, 43, 1268, 1269, 1271, 44, 1272, 1273, 1275, 45, 1276, 1277, 1279, 46, 1280, 1281] (by decide +kernel)
set_option maxRecDepth 20000 in
theorem in_wsL_law_r32 : ∀ w ∈ wsL_law_r32, w ∈ lw_tbl := mem_r _ [1283, 47, 1284, 1285, 1287, 48, 1288, 1289, 1290, 1291, 1292, 1294, 49, 1295, 816, 817, 818, 819, 820, 821, 822, 823, 824, 1296] (by decide +kernel)
set_option maxRecDepth 20000 in
theorem in_wsL_law_r33 : ∀ w ∈ wsL_law_r33, w ∈ lw_tbl := mem_r _ [1297, 1298, 1299, 825, 826, 827, 828, 829, 1300, 1301, 1302, 1303, 830, 831, 832, 833, 834, 835, 836, 241, 244, 837, 838, 839] (by decide +kernel)
set_option maxRecDepth 20000 in
theorem in_wsL_law_r34 : ∀ w ∈ wsL_law_r34, w ∈ lw_tbl := mem_r _ [840, 841, 842, 843, 844, 1304, 1305, 1306, 1307, 1308, 1309, 1310, 845, 846, 847, 848, 327, 396, 849, 850, 851, 852, 1311, 1312] (by decide +kernel)
set_option maxRecDepth 20000 in
theorem in_wsL_law_r35 : ∀ w ∈ wsL_law_r35, w ∈ lw_tbl := mem_r _ [1313, 1314, 994, 1003, 854, 855, 856, 857, 331, 335, 1315, 1316, 1317, 1318, 858, 859, 860, 861, 337, 1319, 1320, 1321, 1322, 862] (by decide +kernel)
set_option maxRecDepth 20000 in
theorem in_wsL_law_r36 : ∀ w ∈ wsL_law_r36, w ∈ lw_tbl := mem_r _ [863, 864, 865, 398, 866, 867, 868, 869, 870, 329, 871, 872, 873, 874, 875, 876, 877, 878, 330, 333, 879, 880, 882, 24] (by decide +kernel)
set_option maxRecDepth 20000 in
theorem in_wsL_law_r37 : ∀ w ∈ wsL_law_r37, w ∈ lw_tbl := mem_r _ [883, 326, 320, 317, 884, 885, 886, 887, 892, 888, 889, 890, 891, 893, 894, 896, 25, 897, 898, 900, 26, 901, 902, 904] (by decide +kernel)
set_option maxRecDepth 20000 in
theorem in_wsL_law_r38 : ∀ w ∈ wsL_law_r38, w ∈ lw_tbl := mem_r _ [27, 905, 325, 371, 906, 912, 913, 914, 907, 908, 909, 915, 917, 28, 918, 925, 919, 920, 921, 922, 923, 924, 926, 928] (by decide +kernel)
set_option maxRecDepth 20000 in
theorem in_wsL_law_r39 : ∀ w ∈ wsL_law_r39, w ∈ lw_tbl := mem_r _ [29, 929, 930, 932, 30, 933, 373, 334, 321, 318, 934, 1323, 1324, 1325, 1326, 1010, 1011, 1327, 1329, 50, 1330, 1331, 1333, 51] (by decide +kernel)
set_option maxRecDepth 20000 in
theorem in_wsL_law_r40 : ∀ w ∈ wsL_law_r40, w ∈ lw_tbl := mem_r _ [1334, 1335, 1337, 52, 1338, 935, 936, 937, 938, 400, 392, 394, 1339, 1340, 1341, 1342, 939, 940, 941, 942, 199, 943, 944, 945] (by decide +kernel)
set_option maxRecDepth 20000 in
theorem in_wsL_law_r41 : ∀ w ∈ wsL_law_r41, w ∈ lw_tbl := mem_r _ [946, 1343, 1344, 1345, 1346] (by decide +kernel)
set_option maxRecDepth 20000 in
theorem in_wsX110 : ∀ w ∈ wsX110, w ∈ lw_tbl := mem_r _ [431, 433, 435, 437, 439, 441, 443, 445, 447] (by decide +kernel)
set_option maxRecDepth 20000 in
theorem in_wsX120 : ∀ w ∈ wsX120, w ∈ lw_tbl := mem_r _ [1012, 1014, 1016, 1018, 1020, 1022, 1024, 1026, 1028, 1030, 1032, 1034, 1036, 1038, 1040, 1042, 1044, 1046, 1048, 1050, 1052, 1054, 1056, 1058, 1060, 1062, 1064, 1066, 1068, 1070, 1072, 1074, 1076, 1078, 1080, 1082, 1084, 1086, 1088, 1090, 1092, 1094, 1096, 1098, 1100, 1102, 1104, 1106, 1108, 1110, 1112, 1114, 1116, 1118, 1120, 1122, 1124, 1126, 1128] (by decide +kernel)
set_option maxRecDepth 20000 in
theorem in_wsX90 : ∀ w ∈ wsX90, w ∈ lw_tbl := mem_r _ [92, 94] (by decide +kernel)
set_option maxRecDepth 20000 in
theorem in_wsX60 : ∀ w ∈ wsX60, w ∈ lw_tbl := mem_r _ [134, 136, 138] (by decide +kernel)
set_option maxRecDepth 20000 in
theorem in_wsX80 : ∀ w ∈ wsX80, w ∈ lw_tbl := mem_r _ [152, 154] (by decide +kernel)
set_option maxRecDepth 20000 in
theorem in_wsX00 : ∀ w ∈ wsX00, w ∈ lw_tbl := mem_r _ [293, 295, 297, 299, 301, 303] (by decide +kernel)
set_option maxRecDepth 20000 in
theorem in_wsX20 : ∀ w ∈ wsX20, w ∈ lw_tbl := mem_r _ [338, 340, 342, 344, 346, 348, 350, 352, 354] (by decide +kernel)
set_option maxRecDepth 20000 in
theorem in_wsX50 : ∀ w ∈ wsX50, w ∈ lw_tbl := mem_r _ [401, 403, 405, 407, 409, 411, 413, 415] (by decide +kernel)
set_option maxRecDepth 20000 in
theorem in_wsX70 : ∀ w ∈ wsX70, w ∈ lw_tbl := mem_r _ [177, 179, 181, 183, 185] (by decide +kernel)
set_option maxRecDepth 20000 in
theorem in_wsX10 : ∀ w ∈ wsX10, w ∈ lw_tbl := mem_r _ [207, 209, 211, 213, 215] (by decide +kernel)
set_option maxRecDepth 20000 in
theorem in_wsX100 : ∀ w ∈ wsX100, w ∈ lw_tbl := mem_r _ [118, 120, 122, 124, 126] (by decide +kernel)
set_option maxRecDepth 20000 in
theorem in_wsX40 : ∀ w ∈ wsX40, w ∈ lw_tbl := mem_r _ [245, 247, 249, 251, 253, 255, 257, 259, 261, 263, 265, 267, 269, 271, 273, 275] (by decide +kernel)
set_option maxRecDepth 20000 in
theorem in_wsX30 : ∀ w ∈ wsX30, w ∈ lw_tbl := mem_r _ [376, 378, 380, 382, 384] (by decide +kernel)
theorem wsL_law_in : ∀ w ∈ wsL_law, w ∈ lw_tbl := (mem_app (mem_app (mem_app (mem_app (mem_app (mem_app (mem_app (mem_app (mem_app (mem_app (mem_app (mem_app (mem_app (mem_app (mem_app in_wsL_law_r1 (mem_app in_wsL_law_r2 (mem_app in_wsL_law_r3 (mem_app in_wsL_law_r4 (mem_app in_wsL_law_r5 (mem_app in_wsL_law_r6 (mem_app in_wsL_law_r7 (mem_app in_wsL_law_r8 (mem_app in_wsL_law_r9 (mem_app in_wsL_law_r10 (mem_app in_wsL_law_r11 (mem_app in_wsL_law_r12 (mem_app in_wsL_law_r13 (mem_app in_wsL_law_r14 (mem_app in_wsL_law_r15 (mem_app in_wsL_law_r16 (mem_app in_wsL_law_r17 (mem_app in_wsL_law_r18 (mem_app in_wsL_law_r19 (mem_app in_wsL_law_r20 (mem_app in_wsL_law_r21 (mem_app in_wsL_law_r22 (mem_app in_wsL_law_r23 (mem_app in_wsL_law_r24 (mem_app in_wsL_law_r25 (mem_app in_wsL_law_r26 (mem_app in_wsL_law_r27 (mem_app in_wsL_law_r28 (mem_app in_wsL_law_r29 (mem_app in_wsL_law_r30 (mem_app in_wsL_law_r31 (mem_app in_wsL_law_r32 (mem_app in_wsL_law_r33 (mem_app in_wsL_law_r34 (mem_app in_wsL_law_r35 (mem_app in_wsL_law_r36 (mem_app in_wsL_law_r37 (mem_app in_wsL_law_r38 (mem_app in_wsL_law_r39 (mem_app in_wsL_law_r40 in_wsL_law_r41)))))))))))))))))))))))))))))))))))))))) in_wsX110) in_wsX120) in_wsX90) in_wsX60) in_wsX80) in_wsX00) in_wsX20) in_wsX50) in_wsX70) in_wsX10) in_wsX100) in_wsX40) in_wsX30) (fun _ h => absurd h List.not_mem_nil))

