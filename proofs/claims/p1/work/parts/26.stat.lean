/-! What the tables know, checked by the kernel place by place (laid by wip/p1/tools/gen2.py). -/
def rz_fp : List (Nat × Nat × Nat × Nat × Nat) := [(0, 12, 0, 2, 329), (0, 18, 0, 3, 331), (0, 22, 0, 4, 333), (0, 25, 0, 5, 335), (0, 29, 0, 0, 327), (0, 32, 0, 1, 328), (1, 11, 1, 0, 125), (1, 19, 1, 1, 127), (1, 23, 1, 2, 129), (1, 27, 1, 3, 131), (1, 30, 1, 4, 133), (1, 33, 1, 5, 135), (1, 36, 1, 6, 137), (1, 39, 1, 7, 139), (1, 42, 1, 8, 140), (1, 46, 1, 9, 142), (1, 57, 9, 6, 553), (1, 60, 9, 2, 542), (1, 69, 9, 7, 556), (1, 75, 9, 13, 571), (1, 88, 9, 3, 545), (1, 99, 9, 10, 563), (1, 102, 6, 0, 107), (2, 9, 2, 0, 228), (2, 15, 2, 1, 231), (2, 18, 2, 2, 232), (3, 12, 3, 2, 277), (3, 18, 3, 3, 279), (3, 22, 3, 4, 281), (3, 25, 3, 5, 283), (3, 28, 3, 0, 275), (3, 31, 3, 1, 276), (4, 12, 4, 2, 247), (4, 18, 4, 3, 249), (4, 21, 4, 4, 251), (4, 25, 4, 5, 253), (4, 28, 4, 0, 245), (4, 31, 4, 1, 246), (5, 9, 5, 0, 198), (5, 15, 5, 1, 200), (5, 19, 5, 2, 202), (6, 9, 6, 0, 105), (6, 15, 6, 1, 108), (6, 19, 6, 2, 110), (6, 23, 6, 3, 112), (7, 9, 7, 0, 178), (7, 15, 7, 1, 179), (7, 18, 7, 2, 180), (7, 22, 7, 3, 181), (8, 12, 8, 2, 307), (8, 18, 8, 3, 309), (8, 22, 8, 0, 305), (8, 26, 8, 1, 306), (8, 64, 2, 0, 229), (9, 9, 9, 1, 537), (9, 15, 9, 2, 541), (9, 19, 9, 3, 544), (9, 22, 9, 4, 547), (9, 25, 9, 5, 550), (9, 28, 9, 6, 552), (9, 32, 9, 7, 555), (9, 35, 9, 8, 558), (9, 39, 9, 9, 560), (9, 42, 9, 10, 562), (9, 45, 9, 11, 565), (9, 48, 9, 12, 567), (9, 53, 9, 13, 570), (9, 57, 9, 14, 572), (9, 60, 9, 15, 574), (9, 63, 9, 16, 577), (9, 66, 9, 17, 579), (9, 69, 9, 18, 581), (9, 73, 9, 0, 532), (10, 12, 10, 1, 351), (10, 16, 10, 2, 352), (10, 22, 10, 3, 353), (10, 28, 10, 4, 354), (10, 34, 10, 5, 355), (10, 40, 10, 6, 356), (10, 47, 10, 7, 357), (10, 54, 10, 8, 358), (10, 58, 10, 9, 359), (10, 62, 10, 10, 360), (10, 65, 10, 11, 361), (10, 77, 10, 0, 350), (10, 94, 1, 0, 126), (10, 98, 6, 0, 106), (10, 120, 1, 2, 130), (10, 129, 9, 1, 539), (10, 137, 9, 0, 536), (10, 140, 7, 3, 182), (10, 146, 1, 3, 132), (10, 161, 1, 4, 134), (10, 168, 1, 8, 141), (10, 194, 8, 3, 310), (10, 197, 0, 2, 330), (10, 201, 2, 2, 237), (10, 206, 0, 3, 332), (10, 234, 4, 4, 252), (10, 237, 4, 5, 254), (10, 240, 4, 2, 248), (10, 243, 4, 3, 250), (10, 250, 3, 3, 280), (10, 253, 3, 4, 282), (10, 256, 3, 5, 284), (10, 259, 3, 2, 278), (10, 265, 8, 2, 308), (10, 266, 0, 5, 336), (10, 269, 0, 4, 334), (10, 286, 1, 5, 136), (10, 287, 5, 2, 203), (10, 290, 1, 6, 138), (11, 1, 11, 0, 1085), (11, 13, 11, 2, 1087), (11, 17, 11, 3, 1088), (11, 20, 11, 4, 1089), (11, 24, 11, 5, 1090), (11, 27, 11, 7, 1092), (11, 30, 11, 8, 1093), (11, 33, 11, 9, 1094), (11, 36, 11, 10, 1095), (11, 39, 11, 11, 1096), (11, 42, 11, 12, 1097), (11, 45, 11, 13, 1098), (11, 48, 11, 14, 1099), (11, 51, 11, 15, 1100), (11, 54, 11, 16, 1101), (11, 57, 11, 17, 1102), (11, 60, 11, 18, 1103), (11, 63, 11, 19, 1104), (11, 67, 11, 20, 1105), (11, 70, 11, 21, 1106), (11, 73, 11, 22, 1107), (11, 76, 11, 23, 1108), (11, 79, 11, 24, 1109), (11, 82, 11, 25, 1110), (11, 85, 11, 26, 1111), (11, 88, 11, 27, 1112), (11, 91, 11, 28, 1113), (11, 94, 11, 29, 1114), (11, 97, 11, 30, 1115), (11, 100, 11, 31, 1116), (11, 103, 11, 32, 1117), (11, 106, 11, 33, 1118), (11, 109, 11, 34, 1119), (11, 112, 11, 35, 1120), (11, 115, 11, 37, 1122), (11, 118, 11, 39, 1124), (11, 121, 11, 45, 1130), (11, 124, 11, 46, 1131), (11, 127, 11, 1, 1086), (11, 130, 11, 6, 1091), (11, 149, 11, 44, 1129), (11, 161, 11, 40, 1125), (11, 192, 11, 42, 1127), (11, 237, 11, 43, 1128), (11, 271, 11, 36, 1121)]
def rz_cp : List (Nat × Nat × Nat × Nat) := [(0, 9, 2, 325), (1, 9, 6, 96), (1, 17, 9, 98), (3, 9, 2, 273), (4, 9, 2, 222), (8, 9, 2, 303), (10, 9, 1, 90), (10, 20, 4, 164), (10, 26, 3, 166), (10, 32, 8, 168), (10, 38, 0, 170), (10, 44, 7, 172), (10, 51, 5, 192), (12, 8, 10, 82), (12, 88, 11, 1079)]
def rz_mp : List (Nat × Nat × Nat × Nat × Nat) := [(0, 11, 95, 326, 1), (1, 50, 101, 101, 1), (1, 51, 106, 527, 0), (1, 54, 107, 622, 0), (1, 84, 86, 638, 0), (1, 105, 89, 634, 0), (1, 109, 92, 630, 0), (3, 11, 95, 274, 1), (4, 11, 95, 224, 1), (5, 23, 2, 395, 0), (8, 11, 95, 304, 1), (8, 54, 105, 842, 0), (10, 11, 88, 92, 0), (10, 46, 102, 174, 1), (10, 53, 98, 194, 1), (10, 68, 2, 211, 0), (10, 74, 1, 214, 0), (10, 80, 97, 218, 0), (10, 83, 96, 269, 0), (10, 84, 104, 299, 0), (10, 85, 25, 321, 0), (10, 86, 35, 396, 0), (10, 90, 30, 412, 0), (10, 110, 100, 498, 0), (10, 114, 90, 509, 0), (10, 125, 91, 522, 0), (10, 134, 93, 626, 0), (10, 164, 40, 678, 0), (10, 172, 87, 953, 0), (10, 190, 103, 912, 0), (10, 246, 94, 1028, 0), (10, 262, 3, 1047, 0), (10, 272, 99, 391, 0), (11, 133, 85, 1263, 0), (11, 137, 57, 1267, 0), (11, 141, 58, 1271, 0), (11, 152, 79, 1259, 0), (11, 180, 77, 1354, 0), (11, 199, 61, 1236, 0), (11, 243, 65, 1255, 0), (11, 254, 59, 1374, 0), (11, 257, 66, 1378, 0), (11, 260, 51, 1239, 0), (11, 267, 68, 1283, 0), (11, 277, 71, 1291, 0), (11, 298, 3, 1437, 0), (12, 7, 41, 408, 0), (12, 17, 31, 505, 0), (12, 21, 27, 517, 0), (12, 25, 44, 654, 0), (12, 29, 32, 666, 0), (12, 32, 50, 948, 0), (12, 35, 34, 967, 0), (12, 38, 48, 974, 0), (12, 42, 39, 981, 0), (12, 45, 46, 989, 0), (12, 49, 28, 996, 0), (12, 53, 47, 1003, 0), (12, 56, 49, 1010, 0), (12, 59, 42, 1017, 0), (12, 62, 37, 1024, 0), (12, 65, 36, 1035, 0), (12, 68, 45, 1042, 0), (12, 71, 26, 1053, 0), (12, 74, 43, 1060, 0), (12, 77, 29, 1071, 0), (12, 80, 6, 400, 0), (12, 85, 33, 84, 0), (12, 90, 62, 1081, 0), (12, 93, 15, 403, 0), (12, 96, 72, 1231, 0), (12, 97, 83, 1075, 0), (12, 101, 9, 502, 0), (12, 104, 56, 1247, 0), (12, 105, 5, 514, 0), (12, 108, 53, 1251, 0), (12, 109, 18, 651, 0), (12, 112, 75, 1279, 0), (12, 113, 10, 663, 0), (12, 115, 60, 1287, 0), (12, 116, 24, 945, 0), (12, 118, 84, 1382, 0), (12, 119, 11, 964, 0), (12, 121, 63, 1392, 0), (12, 122, 22, 971, 0), (12, 124, 81, 1396, 0), (12, 125, 14, 978, 0), (12, 127, 70, 1400, 0), (12, 128, 20, 986, 0), (12, 130, 78, 1404, 0), (12, 131, 7, 993, 0), (12, 133, 54, 1408, 0), (12, 134, 21, 1000, 0), (12, 136, 80, 1412, 0), (12, 137, 23, 1007, 0), (12, 139, 82, 1416, 0), (12, 140, 16, 1014, 0), (12, 142, 73, 1420, 0), (12, 143, 13, 1021, 0), (12, 145, 67, 1424, 0), (12, 146, 12, 1032, 0), (12, 148, 64, 1428, 0), (12, 149, 19, 1039, 0), (12, 151, 76, 1432, 0), (12, 152, 4, 1050, 0), (12, 154, 52, 1438, 0), (12, 155, 38, 387, 0), (12, 159, 69, 1442, 0), (12, 160, 17, 1057, 0), (12, 162, 74, 1446, 0), (12, 163, 8, 1068, 0), (12, 165, 55, 1450, 0)]
def rz_op : List (Nat × Nat × Nat) := [(0, 3, 324), (1, 3, 95), (2, 3, 227), (3, 3, 272), (4, 3, 221), (5, 3, 197), (6, 3, 104), (7, 3, 177), (8, 3, 302), (9, 3, 530), (10, 3, 87), (11, 7, 1084)]
def rz_kp : List (Nat × Nat × Int × Nat) := [(10, 167, 1000000, 952), (11, 290, 1000000, 1386)]
def rz_lp : List (Nat × Nat × Int × Nat) := [(1, 63, 9223372036854775807, 642), (8, 46, 9223372036854775807, 916), (9, 51, 9223372036854775807, 531), (10, 260, 2147483647, 1046), (10, 275, (-1), 399), (11, 155, (-1), 1321), (11, 159, 9223372036854775807, 1331), (11, 170, 2, 1340), (11, 183, 4, 1307), (11, 203, 8, 1308), (11, 227, 32, 1318), (11, 231, 16, 1235), (11, 233, 5, 1320), (11, 246, 6, 1349), (11, 296, 2147483647, 1436), (12, 91, 4294967295, 1454)]
def rz_mw : List (Nat × Nat × Nat × Nat) := [(0, 0, 0, 0), (216, 68, 215, 0), (213, 68, 212, 0), (1049, 68, 1048, 0), (1052, 62, 1051, 0), (516, 62, 515, 0), (402, 62, 401, 0), (995, 62, 994, 0), (1070, 62, 1069, 0), (504, 62, 503, 0), (665, 62, 664, 0), (966, 62, 965, 0), (1034, 62, 1033, 0), (1023, 62, 1022, 0), (980, 62, 979, 0), (405, 62, 404, 0), (1016, 62, 1015, 0), (1059, 62, 1058, 0), (653, 62, 652, 0), (1041, 62, 1040, 0), (988, 62, 987, 0), (1002, 62, 1001, 0), (973, 62, 972, 0), (1009, 62, 1008, 0), (947, 62, 946, 0), (323, 73, 322, 0), (1056, 63, 1054, 1055), (520, 63, 518, 519), (999, 63, 997, 998), (1074, 63, 1072, 1073), (414, 63, 413, 0), (508, 63, 506, 507), (669, 63, 667, 668), (86, 63, 85, 0), (970, 63, 968, 969), (398, 63, 397, 0), (1038, 63, 1036, 1037), (1027, 63, 1025, 1026), (390, 63, 388, 389), (984, 63, 982, 983), (681, 63, 680, 4), (411, 63, 409, 410), (1020, 63, 1018, 1019), (1063, 63, 1061, 1062), (657, 63, 655, 656), (1045, 63, 1043, 1044), (992, 63, 990, 991), (1006, 63, 1004, 1005), (977, 63, 975, 976), (1013, 63, 1011, 1012), (951, 63, 949, 950), (1242, 74, 1241, 32), (1441, 74, 1439, 1440), (1254, 74, 1252, 1253), (1411, 74, 1409, 1410), (1453, 74, 1451, 1452), (1250, 74, 1248, 1249), (1270, 74, 1269, 37), (1274, 74, 1273, 38), (1377, 74, 1376, 59), (1290, 74, 1288, 1289), (1238, 74, 1237, 0), (1083, 74, 1082, 0), (1395, 74, 1393, 1394), (1431, 74, 1429, 1430), (1258, 74, 1257, 34), (1381, 74, 1380, 60), (1427, 74, 1425, 1426), (1286, 74, 1285, 40), (1445, 74, 1443, 1444), (1403, 74, 1401, 1402), (1294, 74, 1293, 41), (1234, 74, 1232, 1233), (1423, 74, 1421, 1422), (1449, 74, 1447, 1448), (1282, 74, 1280, 1281), (1435, 74, 1433, 1434), (1357, 74, 1356, 54), (1407, 74, 1405, 1406), (1262, 74, 1261, 35), (1415, 74, 1413, 1414), (1399, 74, 1397, 1398), (1419, 74, 1417, 1418), (1078, 74, 1076, 1077), (1385, 74, 1383, 1384), (1266, 74, 1265, 36), (641, 64, 640, 1), (956, 64, 954, 955), (94, 64, 93, 0), (637, 64, 635, 636), (512, 64, 510, 511), (525, 64, 523, 524), (633, 64, 631, 632), (629, 64, 627, 628), (1031, 70, 1029, 1030), (226, 70, 225, 0), (271, 71, 270, 0), (220, 69, 219, 0), (196, 67, 195, 0), (394, 67, 392, 393), (501, 65, 499, 500), (103, 65, 102, 0), (176, 66, 175, 0), (915, 72, 913, 914), (301, 72, 300, 0), (845, 72, 844, 20), (529, 80, 528, 0), (625, 80, 623, 624)]
def rz_kd : List Nat := [0, 0, 0, 0, 0, 0, 0, 0, 0, 0, 0, 0, 0, 0, 0, 0, 0, 0, 0, 0, 0, 0, 0, 0, 0, 1, 2, 2, 2, 2, 0, 2, 2, 1, 2, 0, 2, 2, 2, 2, 2, 2, 2, 2, 2, 2, 2, 2, 2, 2, 2, 2, 2, 2, 2, 2, 2, 2, 2, 2, 2, 0, 1, 2, 2, 2, 2, 2, 2, 2, 2, 2, 2, 2, 2, 2, 2, 2, 2, 2, 2, 2, 2, 2, 2, 2, 2, 2, 1, 2, 2, 2, 2, 2, 2, 1, 1, 1, 1, 2, 2, 1, 1, 2, 1, 2, 1, 2]
def rz_cw0 : List Nat := [337, 339, 341, 343, 345, 347]
def rz_cw1 : List Nat := [143, 145, 147, 149, 151, 153, 155, 157, 159, 161]
def rz_cw2 : List Nat := [238, 240, 242]
def rz_cw3 : List Nat := [285, 287, 289, 291, 293, 295]
def rz_cw4 : List Nat := [255, 257, 259, 261, 263, 265]
def rz_cw5 : List Nat := [204, 206, 208]
def rz_cw6 : List Nat := [114, 116, 118, 120]
def rz_cw7 : List Nat := [183, 185, 187, 189]
def rz_cw8 : List Nat := [311, 313, 315, 317]
def rz_cw9 : List Nat := [583, 585, 587, 589, 591, 593, 595, 597, 599, 601, 603, 605, 607, 609, 611, 613, 615, 617, 619]
def rz_cw10 : List Nat := [362, 364, 366, 368, 370, 372, 374, 376, 378, 380, 382, 384]
def rz_cw11 : List Nat := [1133, 1135, 1137, 1139, 1141, 1143, 1145, 1147, 1149, 1151, 1153, 1155, 1157, 1159, 1161, 1163, 1165, 1167, 1169, 1171, 1173, 1175, 1177, 1179, 1181, 1183, 1185, 1187, 1189, 1191, 1193, 1195, 1197, 1199, 1201, 1203, 1205, 1207, 1209, 1211, 1213, 1215, 1217, 1219, 1221, 1223, 1225, 1227]
def rz_ci : List (Nat × Nat) := [(320, 73), (91, 64), (223, 70), (268, 71), (217, 69), (193, 67), (100, 65), (173, 66), (298, 72), (526, 80), (83, 63), (1080, 74)]
theorem rz_lwTS {i : Nat} {w : Cond} (h : decide (lw_tbl[i]? = some w) = true) (hg : rz_gw w = true) : w ∈ rz_TS := rz_inTS (of_decide_eq_true h) hg
def rz_fpB (t : Nat × Nat × Nat × Nat × Nat) : Bool := decide (t.2.2.2.1 < rz_N t.2.2.1) && (decide ((rz_T t.2.2.1 t.2.2.2.1).1 = rz_cn t.2.2.1) && decide (lw_tbl[t.2.2.2.2]? = some (Cond.fieldLink (rz_cn t.1) t.2.1 (rz_cn t.2.2.1) (rz_T t.2.2.1 t.2.2.2.1).2.1 (rz_T t.2.2.1 t.2.2.2.1).2.2.1)))
def rz_cpB (t : Nat × Nat × Nat × Nat) : Bool := decide (lw_tbl[t.2.2.2]? = some (Cond.classLink (rz_cn t.1) t.2.1 (rz_cn t.2.2.1)))
def rz_mpB (t : Nat × Nat × Nat × Nat × Nat) : Bool := bif Nat.beq t.2.2.2.2 0 then decide (lw_tbl[t.2.2.2.1]? = some (Cond.methodLink (rz_cn t.1) t.2.1 (rz_y t.2.2.1))) else decide (lw_tbl[t.2.2.2.1]? = some (Cond.methodLinkNest (rz_cn t.1) t.2.1 (rz_y t.2.2.1) "TurnHall"))
def rz_opB (t : Nat × Nat × Nat) : Bool := decide (lw_tbl[t.2.2]? = some (Cond.methodLink (rz_cn t.1) t.2.1 Lib.objectInit))
def rz_kpB (t : Nat × Nat × Int × Nat) : Bool := rz_r32 t.2.2.1 && decide (lw_tbl[t.2.2.2]? = some (Cond.constant (rz_cn t.1) t.2.1 (Int32.ofInt t.2.2.1)))
def rz_lpB (t : Nat × Nat × Int × Nat) : Bool := rz_r64 t.2.2.1 && decide (lw_tbl[t.2.2.2]? = some (Cond.constantLong (rz_cn t.1) t.2.1 (Int64.ofInt t.2.2.1)))
set_option maxRecDepth 100000 in
theorem rz_fp1 : rz_fp.all rz_fpB = true := by decide +kernel
set_option maxRecDepth 100000 in
theorem rz_cp1 : rz_cp.all rz_cpB = true := by decide +kernel
set_option maxRecDepth 100000 in
theorem rz_mp1 : rz_mp.all rz_mpB = true := by decide +kernel
set_option maxRecDepth 100000 in
theorem rz_op1 : rz_op.all rz_opB = true := by decide +kernel
set_option maxRecDepth 100000 in
theorem rz_kp1 : rz_kp.all rz_kpB = true := by decide +kernel
set_option maxRecDepth 100000 in
theorem rz_lp1 : rz_lp.all rz_lpB = true := by decide +kernel
theorem rz_fp2 {o x a k w : Nat} (h : (o, x, a, k, w) ∈ rz_fp) : rz_flOK o x a k := by
  have h1 := List.all_eq_true.mp rz_fp1 _ h
  simp only [rz_fpB, Bool.and_eq_true, decide_eq_true_eq] at h1
  exact ⟨h1.1, h1.2.1, rz_inTS h1.2.2 rfl⟩
theorem rz_cp2 {o x a w : Nat} (h : (o, x, a, w) ∈ rz_cp) : Cond.classLink (rz_cn o) x (rz_cn a) ∈ rz_TS := rz_lwTS (List.all_eq_true.mp rz_cp1 _ h) rfl
theorem rz_mp2 {o x a w n : Nat} (h : (o, x, a, w, n) ∈ rz_mp) : (n = 0 ∧ Cond.methodLink (rz_cn o) x (rz_y a) ∈ rz_TS) ∨ (n ≠ 0 ∧ Cond.methodLinkNest (rz_cn o) x (rz_y a) "TurnHall" ∈ rz_TS) := by
  have h1 := List.all_eq_true.mp rz_mp1 _ h
  unfold rz_mpB at h1
  dsimp only at h1
  cases hn : Nat.beq n 0 with
  | true =>
    simp only [hn, cond_true] at h1
    exact Or.inl ⟨Nat.eq_of_beq_eq_true hn, rz_lwTS h1 rfl⟩
  | false =>
    simp only [hn, cond_false] at h1
    exact Or.inr ⟨fun q => (by subst q; cases hn), rz_lwTS h1 rfl⟩
theorem rz_op2 {o x w : Nat} (h : (o, x, w) ∈ rz_op) : Cond.methodLink (rz_cn o) x Lib.objectInit ∈ rz_TS := rz_lwTS (List.all_eq_true.mp rz_op1 _ h) rfl
theorem rz_kp2 {o x w : Nat} {b : Int} (h : (o, x, b, w) ∈ rz_kp) : Cond.constant (rz_cn o) x (Int32.ofInt b) ∈ rz_TS ∧ rz_r32 b = true := by
  have h1 := List.all_eq_true.mp rz_kp1 _ h
  simp only [rz_kpB, Bool.and_eq_true] at h1
  exact ⟨rz_lwTS h1.2 rfl, h1.1⟩
theorem rz_lp2 {o x w : Nat} {b : Int} (h : (o, x, b, w) ∈ rz_lp) : Cond.constantLong (rz_cn o) x (Int64.ofInt b) ∈ rz_TS ∧ rz_r64 b = true := by
  have h1 := List.all_eq_true.mp rz_lp1 _ h
  simp only [rz_lpB, Bool.and_eq_true] at h1
  exact ⟨rz_lwTS h1.2 rfl, h1.1⟩
/-! classes -/
def rz_clB (C : String) (T : u_T) (ws : List Nat) (N : Nat) : Bool := (List.range N).all fun k => match rz_nth ws k with
  | some i => decide (lw_tbl[i]? = some (u_lay C T k))
  | none => false
theorem rz_layg (C : String) (T : u_T) (k : Nat) : rz_gw (u_lay C T k) = true := by
  unfold u_lay
  by_cases h : (T k).2.2.2 = true
  · rw [if_pos h]; rfl
  · rw [if_neg h]; rfl
theorem rz_clS {C : String} {T : u_T} {ws : List Nat} {N : Nat} (h : rz_clB C T ws N = true) : ∀ w ∈ u_ws C T N, w ∈ rz_TS := by
  intro w hw
  obtain ⟨k, hk, rfl⟩ := List.mem_map.mp hw
  have h1 := List.all_eq_true.mp h k hk
  cases hn : rz_nth ws k with
  | none => simp [hn] at h1
  | some i =>
    simp only [hn, decide_eq_true_eq] at h1
    exact rz_inTS h1 (rz_layg C T k)
set_option maxRecDepth 100000 in
theorem rz_cl0 : rz_clB RX0 TX0 rz_cw0 6 = true := by decide +kernel
theorem rz_ck0 : rz_clOK 0 := ⟨rfl, rz_clS rz_cl0, tyX0_ok, nmX0, rz_inTS (i := 320) (by decide +kernel) rfl, rz_inTS (i := 73) (by decide +kernel) rfl⟩
set_option maxRecDepth 100000 in
theorem rz_cl1 : rz_clB RX1 TX1 rz_cw1 10 = true := by decide +kernel
theorem rz_ck1 : rz_clOK 1 := ⟨rfl, rz_clS rz_cl1, tyX1_ok, nmX1, rz_inTS (i := 91) (by decide +kernel) rfl, rz_inTS (i := 64) (by decide +kernel) rfl⟩
set_option maxRecDepth 100000 in
theorem rz_cl2 : rz_clB RX2 TX2 rz_cw2 3 = true := by decide +kernel
theorem rz_ck2 : rz_clOK 2 := ⟨rfl, rz_clS rz_cl2, tyX2_ok, nmX2, rz_inTS (i := 223) (by decide +kernel) rfl, rz_inTS (i := 70) (by decide +kernel) rfl⟩
set_option maxRecDepth 100000 in
theorem rz_cl3 : rz_clB RX3 TX3 rz_cw3 6 = true := by decide +kernel
theorem rz_ck3 : rz_clOK 3 := ⟨rfl, rz_clS rz_cl3, tyX3_ok, nmX3, rz_inTS (i := 268) (by decide +kernel) rfl, rz_inTS (i := 71) (by decide +kernel) rfl⟩
set_option maxRecDepth 100000 in
theorem rz_cl4 : rz_clB RX4 TX4 rz_cw4 6 = true := by decide +kernel
theorem rz_ck4 : rz_clOK 4 := ⟨rfl, rz_clS rz_cl4, tyX4_ok, nmX4, rz_inTS (i := 217) (by decide +kernel) rfl, rz_inTS (i := 69) (by decide +kernel) rfl⟩
set_option maxRecDepth 100000 in
theorem rz_cl5 : rz_clB RX5 TX5 rz_cw5 3 = true := by decide +kernel
theorem rz_ck5 : rz_clOK 5 := ⟨rfl, rz_clS rz_cl5, tyX5_ok, nmX5, rz_inTS (i := 193) (by decide +kernel) rfl, rz_inTS (i := 67) (by decide +kernel) rfl⟩
set_option maxRecDepth 100000 in
theorem rz_cl6 : rz_clB RX6 TX6 rz_cw6 4 = true := by decide +kernel
theorem rz_ck6 : rz_clOK 6 := ⟨rfl, rz_clS rz_cl6, tyX6_ok, nmX6, rz_inTS (i := 100) (by decide +kernel) rfl, rz_inTS (i := 65) (by decide +kernel) rfl⟩
set_option maxRecDepth 100000 in
theorem rz_cl7 : rz_clB RX7 TX7 rz_cw7 4 = true := by decide +kernel
theorem rz_ck7 : rz_clOK 7 := ⟨rfl, rz_clS rz_cl7, tyX7_ok, nmX7, rz_inTS (i := 173) (by decide +kernel) rfl, rz_inTS (i := 66) (by decide +kernel) rfl⟩
set_option maxRecDepth 100000 in
theorem rz_cl8 : rz_clB RX8 TX8 rz_cw8 4 = true := by decide +kernel
theorem rz_ck8 : rz_clOK 8 := ⟨rfl, rz_clS rz_cl8, tyX8_ok, nmX8, rz_inTS (i := 298) (by decide +kernel) rfl, rz_inTS (i := 72) (by decide +kernel) rfl⟩
set_option maxRecDepth 100000 in
theorem rz_cl9 : rz_clB RX9 TX9 rz_cw9 19 = true := by decide +kernel
theorem rz_ck9 : rz_clOK 9 := ⟨rfl, rz_clS rz_cl9, tyX9_ok, nmX9, rz_inTS (i := 526) (by decide +kernel) rfl, rz_inTS (i := 80) (by decide +kernel) rfl⟩
set_option maxRecDepth 100000 in
theorem rz_cl10 : rz_clB RX10 TX10 rz_cw10 12 = true := by decide +kernel
theorem rz_ck10 : rz_clOK 10 := ⟨rfl, rz_clS rz_cl10, tyX10_ok, nmX10, rz_inTS (i := 83) (by decide +kernel) rfl, rz_inTS (i := 63) (by decide +kernel) rfl⟩
set_option maxRecDepth 100000 in
theorem rz_cl11 : rz_clB RX11 TX11 rz_cw11 48 = true := by decide +kernel
theorem rz_ck11 : rz_clOK 11 := ⟨rfl, rz_clS rz_cl11, tyX11_ok, nmX11, rz_inTS (i := 1080) (by decide +kernel) rfl, rz_inTS (i := 74) (by decide +kernel) rfl⟩
theorem rz_clAll : ∀ a, a < 12 → rz_clOK a := by
  intro a ha
  match a, ha with
  | 0, _ => exact rz_ck0
  | 1, _ => exact rz_ck1
  | 2, _ => exact rz_ck2
  | 3, _ => exact rz_ck3
  | 4, _ => exact rz_ck4
  | 5, _ => exact rz_ck5
  | 6, _ => exact rz_ck6
  | 7, _ => exact rz_ck7
  | 8, _ => exact rz_ck8
  | 9, _ => exact rz_ck9
  | 10, _ => exact rz_ck10
  | 11, _ => exact rz_ck11
  | n + 12, h => exact absurd h (by omega)
theorem rz_tyAll : ∀ a, a < 12 → ∀ k, k < rz_N a → rz_ty a k = .int ∨ rz_ty a k = .long ∨ rz_ty a k = .boolean ∨ (∃ n, rz_ty a k = .object n) ∨ ∃ n, rz_ty a k = .array n := by
  intro a ha k hk
  have h : ∀ ty : FieldType, (match ty with
    | .int | .long | .boolean | .object _ | .array _ => true
    | _ => false) = true → ty = .int ∨ ty = .long ∨ ty = .boolean ∨ (∃ n, ty = .object n) ∨ ∃ n, ty = .array n := by
    intro ty hty
    cases ty with
    | int => exact Or.inl rfl
    | long => exact Or.inr (Or.inl rfl)
    | boolean => exact Or.inr (Or.inr (Or.inl rfl))
    | object n => exact Or.inr (Or.inr (Or.inr (Or.inl ⟨n, rfl⟩)))
    | array n => exact Or.inr (Or.inr (Or.inr (Or.inr ⟨n, rfl⟩)))
    | _ => simp at hty
  refine h _ ?_
  have hall : ((List.range 12).all fun a => (List.range (rz_N a)).all fun k => match rz_ty a k with
    | .int | .long | .boolean | .object _ | .array _ => true
    | _ => false) = true := by decide +kernel
  exact List.all_eq_true.mp (List.all_eq_true.mp hall a (List.mem_range.mpr ha)) k (List.mem_range.mpr hk)
/-! methods -/
def rz_par (m n : Nat) : Bool := decide ((parseMethodDescriptor (rz_y m).desc).map (fun d => d.parameters.length) = some n)
theorem rz_parS {m n : Nat} (h : rz_par m n = true) : ∀ sig, parseMethodDescriptor (rz_y m).desc = some sig → sig.parameters.length = n := by
  intro sig hs
  have h1 := of_decide_eq_true h
  rw [hs] at h1
  exact Option.some.inj h1
def rz_mB (m : Nat) (t : Nat × Nat × Nat × Nat) (kd : Nat) : Bool :=
  ((decide (rz_hh m = []) && decide (lw_tbl[t.1]? = some (Cond.code (rz_y m) (rz_by m) (rz_nL m) (rz_ret m)))) || decide (lw_tbl[t.1]? = some (Cond.codeWith (rz_y m) (rz_by m) (rz_nL m) (rz_ret m) (rz_hh m)))) &&
  (decide (lw_tbl[t.2.1]? = some (Cond.initialized (rz_y m).cls)) && (decide ((rz_y m).cls = rz_cn (rz_mo m)) && (plainFor (rz_y m) && (decide ((rz_y m).cls ≠ "java/lang/invoke/MethodHandle") && (decide ((rz_y m).cls ≠ "java/lang/invoke/VarHandle") && (Nat.ble (rz_nL m) 45 &&
  (bif Nat.beq kd 0 then decide (lw_tbl[t.2.2.1]? = some (Cond.static (rz_y m))) && rz_par m (rz_np m)
   else decide (lw_tbl[t.2.2.1]? = some (Cond.instanceMethod (rz_y m))) && (Nat.blt 0 (rz_np m) && (rz_par m (rz_np m - 1) && (bif Nat.beq kd 1 then decide ((rz_y m).name = "<init>") && (decide (rz_ret m = none) && (decide (rz_hh m = []) && decide (lw_tbl[t.1]? = some (Cond.code (rz_y m) (rz_by m) (rz_nL m) (rz_ret m))))) else Nat.blt (rz_mo m) 12 && decide (lw_tbl[t.2.2.2]? = some (Cond.selects (rz_cn (rz_mo m)) (rz_y m) (rz_y m)))))))))))))
def rz_mK (m : Nat) : Bool := match rz_nth rz_mw m, rz_nth rz_kd m with
  | some t, some kd => rz_mB m t kd
  | _, _ => false
set_option maxRecDepth 100000 in
theorem rz_mA1 : (List.range 27).all (fun m => rz_mK (m + 1)) = true := by decide +kernel
set_option maxRecDepth 100000 in
theorem rz_mA2 : (List.range 27).all (fun m => rz_mK (m + 28)) = true := by decide +kernel
set_option maxRecDepth 100000 in
theorem rz_mA3 : (List.range 27).all (fun m => rz_mK (m + 55)) = true := by decide +kernel
set_option maxRecDepth 100000 in
theorem rz_mA4 : (List.range 26).all (fun m => rz_mK (m + 82)) = true := by decide +kernel
theorem rz_mA {m : Nat} (h0 : 0 < m) (h1 : m < 108) : rz_mK m = true := by
  by_cases a : m < 28
  · have := List.all_eq_true.mp rz_mA1 (m - 1) (List.mem_range.mpr (by omega)); rwa [show m - 1 + 1 = m by omega] at this
  · by_cases b : m < 55
    · have := List.all_eq_true.mp rz_mA2 (m - 28) (List.mem_range.mpr (by omega)); rwa [show m - 28 + 28 = m by omega] at this
    · by_cases c : m < 82
      · have := List.all_eq_true.mp rz_mA3 (m - 55) (List.mem_range.mpr (by omega)); rwa [show m - 55 + 55 = m by omega] at this
      · have := List.all_eq_true.mp rz_mA4 (m - 82) (List.mem_range.mpr (by omega)); rwa [show m - 82 + 82 = m by omega] at this
/-- what a method's row says -/
theorem rz_mF {m : Nat} (h0 : 0 < m) (h1 : m < 108) : rz_mOK m ∧ ∃ kd, rz_nth rz_kd m = some kd ∧ ((kd = 0 ∧ Cond.static (rz_y m) ∈ rz_TS ∧ ∀ sig, parseMethodDescriptor (rz_y m).desc = some sig → sig.parameters.length = rz_np m) ∨
    (kd ≠ 0 ∧ Cond.instanceMethod (rz_y m) ∈ rz_TS ∧ (∀ sig, parseMethodDescriptor (rz_y m).desc = some sig → sig.parameters.length + 1 = rz_np m) ∧ ((kd = 1 ∧ (rz_y m).name = "<init>" ∧ rz_ret m = none ∧ rz_hh m = [] ∧ Cond.code (rz_y m) (rz_by m) (rz_nL m) (rz_ret m) ∈ rz_TS) ∨ (kd ≠ 1 ∧ rz_mo m < 12 ∧ Cond.selects (rz_cn (rz_mo m)) (rz_y m) (rz_y m) ∈ rz_TS)))) := by
  have h := rz_mA h0 h1
  unfold rz_mK at h
  cases ht : rz_nth rz_mw m with
  | none => simp [ht] at h
  | some t =>
    cases hk : rz_nth rz_kd m with
    | none => simp [ht, hk] at h
    | some kd =>
      simp only [ht, hk] at h
      unfold rz_mB at h
      rw [Bool.and_eq_true, Bool.and_eq_true, Bool.and_eq_true, Bool.and_eq_true, Bool.and_eq_true, Bool.and_eq_true, Bool.and_eq_true] at h
      obtain ⟨q1, q2, q3, q4, q5, q6, q7, q8⟩ := h
      have hcode : (rz_hh m = [] ∧ Cond.code (rz_y m) (rz_by m) (rz_nL m) (rz_ret m) ∈ rz_TS) ∨ Cond.codeWith (rz_y m) (rz_by m) (rz_nL m) (rz_ret m) (rz_hh m) ∈ rz_TS := by
        rw [Bool.or_eq_true, Bool.and_eq_true] at q1
        rcases q1 with ⟨a, b⟩ | a
        · exact Or.inl ⟨of_decide_eq_true a, rz_lwTS b rfl⟩
        · exact Or.inr (rz_lwTS a rfl)
      refine ⟨⟨hcode, rz_lwTS q2 rfl, of_decide_eq_true q3, q4, ⟨of_decide_eq_true q5, of_decide_eq_true q6⟩, Nat.ble_eq.mp q7⟩, kd, rfl, ?_⟩
      cases hz : Nat.beq kd 0 with
      | true =>
        simp only [hz, cond_true] at q8
        rw [Bool.and_eq_true] at q8
        exact Or.inl ⟨Nat.eq_of_beq_eq_true hz, rz_lwTS q8.1 rfl, rz_parS q8.2⟩
      | false =>
        simp only [hz, cond_false] at q8
        rw [Bool.and_eq_true, Bool.and_eq_true, Bool.and_eq_true] at q8
        obtain ⟨r1, r2, r3, r4⟩ := q8
        have r2 := Nat.blt_eq.mp r2
        refine Or.inr ⟨fun q => (by subst q; cases hz), rz_lwTS r1 rfl, fun sig hs => (by have := rz_parS r3 sig hs; omega), ?_⟩
        cases hy : Nat.beq kd 1 with
        | true =>
          simp only [hy, cond_true] at r4
          rw [Bool.and_eq_true, Bool.and_eq_true, Bool.and_eq_true] at r4
          exact Or.inl ⟨Nat.eq_of_beq_eq_true hy, of_decide_eq_true r4.1, of_decide_eq_true r4.2.1, of_decide_eq_true r4.2.2.1, rz_lwTS r4.2.2.2 rfl⟩
        | false =>
          simp only [hy, cond_false] at r4
          rw [Bool.and_eq_true] at r4
          exact Or.inr ⟨fun q => (by subst q; cases hy), Nat.blt_eq.mp r4.1, rz_lwTS r4.2 rfl⟩
