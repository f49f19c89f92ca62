theorem in_tb {big ws : List Cond} (ps : List Nat) (hp : ws = ps.filterMap (fun i => big[i]?)) : ∀ w ∈ ws, w ∈ big := by
  intro w hw
  rw [hp] at hw
  obtain ⟨i, -, hi⟩ := List.mem_filterMap.mp hw
  exact List.mem_of_getElem? hi
set_option maxRecDepth 20000 in
theorem tu0 : ∀ w ∈ wu0, w ∈ lw_tbl := in_tb [100, 101, 89, 842, 843, 96, 1416, 102, 103, 104, 105, 106, 107, 108, 109, 90, 266, 267, 268, 147, 148, 91, 270, 271, 178, 179, 92, 272, 196, 197, 93, 273] rfl
set_option maxRecDepth 20000 in
theorem tu1 : ∀ w ∈ wu1, w ∈ lw_tbl := in_tb [226, 274, 228, 275, 230, 94, 248, 95, 111, 112, 113, 114, 116, 118, 146, 122, 123, 124, 125, 126, 150, 151, 152, 157, 177, 160, 161, 181, 182, 183, 195, 187] rfl
set_option maxRecDepth 20000 in
theorem tu2 : ∀ w ∈ wu2, w ∈ lw_tbl := in_tb [199, 200, 201, 211, 232, 233, 234, 235, 239, 250, 251, 252, 253, 844, 845, 846, 847, 848, 849, 850, 851, 852, 854, 859, 860, 861, 862, 864, 870, 871, 872, 873] rfl
set_option maxRecDepth 20000 in
theorem tu3 : ∀ w ∈ wu3, w ∈ lw_tbl := in_tb [879, 880, 881, 882, 883, 884, 885, 886, 887, 888, 889, 297, 298, 299, 300, 115, 117, 301, 302, 303, 304, 305, 306, 97, 307, 990, 991, 992, 993, 994, 995, 996] rfl
set_option maxRecDepth 20000 in
theorem tu4 : ∀ w ∈ wu4, w ∈ lw_tbl := in_tb [997, 308, 309, 310, 311, 312, 313, 314, 315, 316, 317, 318, 319, 320, 321, 322, 323, 324, 325, 326, 327, 328, 329, 330, 331, 332, 333, 334, 335, 336, 337, 998] rfl
set_option maxRecDepth 20000 in
theorem tu5 : ∀ w ∈ wu5, w ∈ lw_tbl := in_tb [999, 1000, 1001, 1002, 1004, 34, 1005, 1006, 1007, 1009, 35, 1010, 1011, 1013, 36, 1014, 1015, 1016, 1017, 1018, 1019, 1020, 1021, 1022, 1024, 37, 1025, 338, 339, 340, 341, 1026] rfl
set_option maxRecDepth 20000 in
theorem tu6 : ∀ w ∈ wu6, w ∈ lw_tbl := in_tb [1027, 1028, 1029, 342, 343, 344, 345, 346, 347, 348, 349, 350, 351, 352, 353, 354, 355, 356, 358, 0, 359, 360, 362, 1, 363, 1030, 1031, 1032, 1033, 1034, 1036, 38] rfl
set_option maxRecDepth 20000 in
theorem tu7 : ∀ w ∈ wu7, w ∈ lw_tbl := in_tb [1037, 1038, 1040, 39, 1041, 1042, 1043, 1044, 1045, 364, 365, 366, 367, 1046, 1047, 1048, 1049, 1050, 1052, 40, 1053, 368, 369, 370, 371, 1054, 1055, 1056, 1057, 1058, 1060, 41] rfl
set_option maxRecDepth 20000 in
theorem tu8 : ∀ w ∈ wu8, w ∈ lw_tbl := in_tb [1061, 372, 373, 374, 375, 185, 376, 377, 378, 379, 184, 1062, 1063, 1064, 1065, 1066, 865, 380, 381, 382, 383, 384, 385, 386, 387, 120, 388, 390, 389, 98, 391, 392] rfl
set_option maxRecDepth 20000 in
theorem tu9 : ∀ w ∈ wu9, w ∈ lw_tbl := in_tb [393, 394, 186, 395, 397, 2, 398, 399, 401, 3, 402, 403, 405, 4, 406, 407, 409, 5, 410, 411, 413, 6, 414, 415, 416, 417, 419, 7, 420, 421, 423, 8] rfl
set_option maxRecDepth 20000 in
theorem tu10 : ∀ w ∈ wu10, w ∈ lw_tbl := in_tb [424, 426, 1067, 1068, 1069, 1070, 867, 868, 869, 866, 1071, 1073, 42, 1074, 1075, 1077, 43, 1078, 1079, 1080, 1081, 1082, 1083, 1084, 1085, 1087, 44, 1088, 1089, 1091, 45, 1092] rfl
set_option maxRecDepth 20000 in
theorem tu11 : ∀ w ∈ wu11, w ∈ lw_tbl := in_tb [1093, 1095, 46, 1096, 1097, 1099, 47, 1100, 427, 428, 429, 430, 121, 431, 432, 433, 434, 435, 436, 437, 438, 439, 440, 441, 442, 443, 444, 1101, 1102, 1103, 1104, 1109] rfl
set_option maxRecDepth 20000 in
theorem tu12 : ∀ w ∈ wu12, w ∈ lw_tbl := in_tb [853, 1105, 1106, 1107, 1108, 445, 446, 447, 448, 156, 449, 450, 451, 452, 453, 454, 455, 456, 457, 458, 459, 460, 461, 462, 463, 464, 465, 466, 467, 468, 469, 470] rfl
set_option maxRecDepth 20000 in
theorem tu13 : ∀ w ∈ wu13, w ∈ lw_tbl := in_tb [471, 472, 474, 9, 475, 476, 478, 10, 479, 480, 481, 482, 483, 484, 485, 99, 486, 487, 488, 489, 153, 154, 490, 491, 492, 493, 494, 495, 496, 497, 498, 499] rfl
set_option maxRecDepth 20000 in
theorem tu14 : ∀ w ∈ wu14, w ∈ lw_tbl := in_tb [500, 501, 503, 11, 504, 505, 507, 12, 508, 509, 511, 13, 512, 513, 514, 515, 516, 517, 518, 519, 520, 521, 522, 523, 524, 525, 526, 527, 528, 529, 530, 531] rfl
set_option maxRecDepth 20000 in
theorem tu15 : ∀ w ∈ wu15, w ∈ lw_tbl := in_tb [532, 533, 534, 155, 159, 535, 537, 14, 538, 539, 541, 15, 542, 543, 545, 16, 546, 547, 548, 549, 550, 551, 552, 553, 554, 555, 556, 557, 558, 559, 560, 561] rfl
set_option maxRecDepth 20000 in
theorem tu16 : ∀ w ∈ wu16, w ∈ lw_tbl := in_tb [1118, 1119, 1120, 1121, 876, 1114, 1116, 48, 1117, 1122, 1124, 49, 1125, 1126, 1128, 50, 1129, 1130, 1132, 51, 1133, 1134, 1135, 1136, 1137, 1139, 52, 1140, 1141, 1143, 53, 1144] rfl
set_option maxRecDepth 20000 in
theorem tu17 : ∀ w ∈ wu17, w ∈ lw_tbl := in_tb [875, 874, 1145, 1147, 54, 1148, 1149, 1150, 1151, 1152, 1154, 55, 1155, 1156, 1158, 56, 1159, 1160, 1162, 57, 1163, 877, 878, 1164, 1166, 58, 1167, 1168, 1170, 59, 1171, 1172] rfl
set_option maxRecDepth 20000 in
theorem tu18 : ∀ w ∈ wu18, w ∈ lw_tbl := in_tb [1174, 60, 1175, 1176, 1178, 61, 1179, 562, 563, 564, 565, 1110, 1111, 1112, 1113, 566, 567, 568, 569, 1180, 1181, 1182, 1183, 570, 571, 572, 573, 158, 574, 575, 576, 577] rfl
set_option maxRecDepth 20000 in
theorem tu19 : ∀ w ∈ wu19, w ∈ lw_tbl := in_tb [579, 17, 580, 581, 582, 583, 584, 585, 587, 18, 588, 589, 590, 591, 595, 596, 592, 593, 594, 1184, 1185, 1186, 1187, 1188, 1190, 62, 1191, 1192, 1194, 63, 1195, 1196] rfl
set_option maxRecDepth 20000 in
theorem tu20 : ∀ w ∈ wu20, w ∈ lw_tbl := in_tb [1197, 1198, 1199, 1200, 1201, 597, 598, 599, 600, 601, 602, 603, 604, 605, 1202, 1203, 1204, 1205, 606, 607, 608, 609, 610, 611, 612, 613, 614, 1206, 1207, 1208, 1209, 1210] rfl
set_option maxRecDepth 20000 in
theorem tu21 : ∀ w ∈ wu21, w ∈ lw_tbl := in_tb [1212, 64, 1213, 1214, 1216, 65, 1217, 1218, 1220, 66, 1221, 615, 616, 617, 618, 619, 621, 19, 622, 1222, 1223, 1224, 1225, 1226, 1228, 67, 1229, 623, 624, 625, 626, 627] rfl
set_option maxRecDepth 20000 in
theorem tu22 : ∀ w ∈ wu22, w ∈ lw_tbl := in_tb [628, 629, 630, 1230, 1231, 1232, 1233, 631, 632, 633, 634, 635, 636, 637, 638, 1234, 1235, 1236, 1237, 1238, 1240, 68, 1241, 639, 640, 641, 642, 1242, 1243, 1244, 1245, 643] rfl
set_option maxRecDepth 20000 in
theorem tu23 : ∀ w ∈ wu23, w ∈ lw_tbl := in_tb [644, 645, 646, 1246, 1247, 1248, 1249, 647, 648, 649, 650, 651, 652, 653, 654, 656, 20, 657, 658, 660, 21, 661, 662, 663, 664, 665, 666, 667, 668, 669, 670, 237] rfl
set_option maxRecDepth 20000 in
theorem tu24 : ∀ w ∈ wu24, w ∈ lw_tbl := in_tb [671, 672, 673, 674, 675, 676, 678, 22, 679, 1250, 1251, 1252, 1253, 1254, 1255, 1256, 1257, 1259, 69, 1260, 680, 681, 682, 683, 684, 686, 23, 687, 236, 238, 688, 690] rfl
set_option maxRecDepth 20000 in
theorem tu25 : ∀ w ∈ wu25, w ∈ lw_tbl := in_tb [24, 691, 692, 694, 25, 695, 696, 697, 698, 699, 700, 702, 26, 703, 1261, 1262, 1263, 1264, 1265, 1267, 70, 1268, 1269, 1271, 71, 1272, 1273, 1275, 72, 1276, 704, 705] rfl
set_option maxRecDepth 20000 in
theorem tu26 : ∀ w ∈ wu26, w ∈ lw_tbl := in_tb [706, 707, 1277, 1278, 1279, 1280, 708, 709, 710, 711, 1281, 1282, 1283, 1284, 1285, 1286, 712, 713, 714, 715, 119, 1287, 1288, 1289, 1290, 716, 717, 718, 719, 720, 721, 722] rfl
set_option maxRecDepth 20000 in
theorem tu27 : ∀ w ∈ wu27, w ∈ lw_tbl := in_tb [723, 724, 726, 27, 727, 728, 729, 1291, 1292, 1293, 1294, 1295, 1297, 73, 1298, 1299, 730, 731, 732, 733, 1300, 1301, 1302, 1303, 1304, 734, 735, 736, 737, 738, 739, 740] rfl
set_option maxRecDepth 20000 in
theorem tu28 : ∀ w ∈ wu28, w ∈ lw_tbl := in_tb [1305, 1306, 1307, 1308, 741, 742, 743, 744, 1309, 1310, 1311, 1312, 1313, 1314, 1315, 745, 746, 747, 748, 1316, 1317, 1318, 1319, 749, 750, 751, 752, 240, 757, 753, 754, 755] rfl
set_option maxRecDepth 20000 in
theorem tu29 : ∀ w ∈ wu29, w ∈ lw_tbl := in_tb [756, 1320, 1321, 1322, 1323, 758, 759, 760, 761, 762, 763, 764, 765, 766, 767, 768, 255, 257, 1324, 1325, 1326, 1327, 1328, 1329, 1330, 769, 770, 771, 772, 258, 256, 773] rfl
set_option maxRecDepth 20000 in
theorem tu30 : ∀ w ∈ wu30, w ∈ lw_tbl := in_tb [775, 28, 776, 254, 777, 778, 779, 780, 781, 782, 1331, 1332, 1333, 1334, 1335, 1336, 1337, 1339, 74, 1340, 1341, 1342, 1343, 783, 784, 785, 786, 203, 205, 207, 787, 788] rfl
set_option maxRecDepth 20000 in
theorem tu31 : ∀ w ∈ wu31, w ∈ lw_tbl := in_tb [789, 790, 208, 210, 791, 792, 793, 794, 202, 795, 797, 29, 798, 206, 204, 799, 801, 30, 802, 803, 805, 31, 806, 807, 809, 32, 810, 811, 813, 33, 814, 1344] rfl
set_option maxRecDepth 20000 in
theorem tu32 : ∀ w ∈ wu32, w ∈ lw_tbl := in_tb [1345, 1346, 1347, 890, 892, 891, 893, 894, 1348, 1350, 75, 1351, 1352, 1354, 76, 1355, 1356, 1358, 77, 1359, 1360, 1362, 78, 1363, 1364, 1366, 79, 1367, 1368, 1370, 80, 1371] rfl
set_option maxRecDepth 20000 in
theorem tu33 : ∀ w ∈ wu33, w ∈ lw_tbl := in_tb [1372, 1374, 81, 1375, 1376, 1378, 82, 1379, 1380, 1382, 83, 1383, 1384, 1386, 84, 1387, 1388, 1390, 85, 1391, 815, 816, 817, 818, 209, 212, 1392, 1393, 1394, 1395, 819, 820] rfl
set_option maxRecDepth 20000 in
theorem tu34 : ∀ w ∈ wu34, w ∈ lw_tbl := in_tb [821, 822, 823, 824, 825, 826, 827, 828, 829, 830, 831, 832, 833, 1396, 1397, 1398, 1399, 1400, 1402, 86, 1403, 1404, 1406, 87, 1407, 834, 835, 836, 837, 269, 1408, 1409] rfl
set_option maxRecDepth 20000 in
theorem tu35 : ∀ w ∈ wu35, w ∈ lw_tbl := in_tb [1410, 1411, 855, 856, 858, 857, 863, 838, 839, 840, 841, 1412, 1413, 1414, 1415] rfl
set_option maxRecDepth 20000 in
theorem tuX6 : ∀ w ∈ wsX60, w ∈ lw_tbl := in_tb [276, 278, 280, 282, 284, 286, 288, 290, 292, 294] rfl
set_option maxRecDepth 20000 in
theorem tuX7 : ∀ w ∈ wsX70, w ∈ lw_tbl := in_tb [895, 897, 899, 901, 903, 905, 907, 909, 911, 913, 915, 917, 919, 921, 923, 925, 927, 929, 931, 933, 935, 937, 939, 941, 943, 945, 947, 949, 951, 953, 955, 957, 959, 961, 963, 965, 967, 969, 971, 973, 975, 977, 979, 981, 983, 985, 987] rfl
set_option maxRecDepth 20000 in
theorem tuX4 : ∀ w ∈ wsX40, w ∈ lw_tbl := in_tb [127, 129, 131, 133, 135, 137, 139, 141, 143] rfl
set_option maxRecDepth 20000 in
theorem tuX1 : ∀ w ∈ wsX10, w ∈ lw_tbl := in_tb [162, 164, 166, 168, 170, 172, 174] rfl
set_option maxRecDepth 20000 in
theorem tuX5 : ∀ w ∈ wsX50, w ∈ lw_tbl := in_tb [188, 190, 192] rfl
set_option maxRecDepth 20000 in
theorem tuX0 : ∀ w ∈ wsX00, w ∈ lw_tbl := in_tb [213, 215, 217, 219, 221, 223] rfl
set_option maxRecDepth 20000 in
theorem tuX2 : ∀ w ∈ wsX20, w ∈ lw_tbl := in_tb [241, 243, 245] rfl
set_option maxRecDepth 20000 in
theorem tuX3 : ∀ w ∈ wsX30, w ∈ lw_tbl := in_tb [259, 261, 263] rfl
theorem mem_app {a b : List Cond} (h1 : ∀ w ∈ a, w ∈ lw_tbl) (h2 : ∀ w ∈ b, w ∈ lw_tbl) : ∀ w ∈ a ++ b, w ∈ lw_tbl := fun w h => (List.mem_append.mp h).elim (h1 w) (h2 w)
theorem wsU_in : ∀ w ∈ wsU, w ∈ lw_tbl := (mem_app (mem_app (mem_app (mem_app (mem_app tu0 tu1) (mem_app tu2 (mem_app tu3 tu4))) (mem_app (mem_app tu5 (mem_app tu6 tu7)) (mem_app tu8 (mem_app tu9 tu10)))) (mem_app (mem_app (mem_app tu11 tu12) (mem_app tu13 (mem_app tu14 tu15))) (mem_app (mem_app tu16 (mem_app tu17 tu18)) (mem_app tu19 (mem_app tu20 tu21))))) (mem_app (mem_app (mem_app (mem_app tu22 tu23) (mem_app tu24 (mem_app tu25 tu26))) (mem_app (mem_app tu27 (mem_app tu28 tu29)) (mem_app tu30 (mem_app tu31 tu32)))) (mem_app (mem_app (mem_app tu33 tu34) (mem_app tu35 (mem_app tuX6 tuX7))) (mem_app (mem_app tuX4 (mem_app tuX1 tuX5)) (mem_app tuX0 (mem_app tuX2 tuX3))))))
theorem inX6 : ∀ w ∈ wsX60, w ∈ lw_tbl := tuX6
theorem inX7 : ∀ w ∈ wsX70, w ∈ lw_tbl := tuX7
theorem inX4 : ∀ w ∈ wsX40, w ∈ lw_tbl := tuX4
theorem inX1 : ∀ w ∈ wsX10, w ∈ lw_tbl := tuX1
theorem inX5 : ∀ w ∈ wsX50, w ∈ lw_tbl := tuX5
theorem inX0 : ∀ w ∈ wsX00, w ∈ lw_tbl := tuX0
theorem inX2 : ∀ w ∈ wsX20, w ∈ lw_tbl := tuX2
theorem inX3 : ∀ w ∈ wsX30, w ∈ lw_tbl := tuX3
