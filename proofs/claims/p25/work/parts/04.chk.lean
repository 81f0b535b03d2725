theorem gIn {w : Cond} {p : Nat} (h : lw_tbl[p]? = some w) : w ∈ lw_tbl := List.mem_of_getElem? h
def gTx : u_T := fun _ => ("", "", "", false)
def gCl : List vw_C := [(RX0, TX0, 3), (RX1, TX1, 7), (RX2, TX2, 7), (RX3, TX3, 13), (RX4, TX4, 7), (RX5, TX5, 13), (RX6, TX6, 2), (RX7, TX7, 9), (RX8, TX8, 17), (RX9, TX9, 11), (RX10, TX10, 69), ("java/util/NoSuchElementException", gTx, 0)]
abbrev gc (ci : Nat) : vw_C := gCl.getD ci ("", gTx, 0)
def gTy (ci k : Nat) : FieldType := (match ci with | 0 => tyX0 | 1 => tyX1 | 2 => tyX2 | 3 => tyX3 | 4 => tyX4 | 5 => tyX5 | 6 => tyX6 | 7 => tyX7 | 8 => tyX8 | 9 => tyX9 | 10 => tyX10 | _ => fun _ => .int) k
theorem gInBy {big : List Cond} (ws : List Cond) (ps : List Nat) (hp : ws = ps.filterMap (fun i => big[i]?)) : ∀ w ∈ ws, w ∈ big := by
  intro w hw
  rw [hp] at hw
  obtain ⟨i, -, hi⟩ := List.mem_filterMap.mp hw
  exact List.mem_of_getElem? hi
set_option maxRecDepth 20000 in
theorem gWs0 : ∀ w ∈ u_ws RX0 TX0 3, w ∈ lw_tbl := gInBy _ [357, 359, 361] (by decide +kernel)
set_option maxRecDepth 20000 in
theorem gWs1 : ∀ w ∈ u_ws RX1 TX1 7, w ∈ lw_tbl := gInBy _ [439, 441, 443, 445, 447, 449, 451] (by decide +kernel)
set_option maxRecDepth 20000 in
theorem gWs2 : ∀ w ∈ u_ws RX2 TX2 7, w ∈ lw_tbl := gInBy _ [261, 263, 265, 267, 269, 271, 273] (by decide +kernel)
set_option maxRecDepth 20000 in
theorem gWs3 : ∀ w ∈ u_ws RX3 TX3 13, w ∈ lw_tbl := gInBy _ [204, 206, 208, 210, 212, 214, 216, 218, 220, 222, 224, 226, 228] (by decide +kernel)
set_option maxRecDepth 20000 in
theorem gWs4 : ∀ w ∈ u_ws RX4 TX4 7, w ∈ lw_tbl := gInBy _ [333, 335, 337, 339, 341, 343, 345] (by decide +kernel)
set_option maxRecDepth 20000 in
theorem gWs5 : ∀ w ∈ u_ws RX5 TX5 13, w ∈ lw_tbl := gInBy _ [397, 399, 401, 403, 405, 407, 409, 411, 413, 415, 417, 419, 421] (by decide +kernel)
set_option maxRecDepth 20000 in
theorem gWs6 : ∀ w ∈ u_ws RX6 TX6 2, w ∈ lw_tbl := gInBy _ [129, 131] (by decide +kernel)
set_option maxRecDepth 20000 in
theorem gWs7 : ∀ w ∈ u_ws RX7 TX7 9, w ∈ lw_tbl := gInBy _ [301, 303, 305, 307, 309, 311, 313, 315, 317] (by decide +kernel)
set_option maxRecDepth 20000 in
theorem gWs8 : ∀ w ∈ u_ws RX8 TX8 17, w ∈ lw_tbl := gInBy _ [489, 491, 493, 495, 497, 499, 501, 503, 505, 507, 509, 511, 513, 515, 517, 519, 521] (by decide +kernel)
set_option maxRecDepth 20000 in
theorem gWs9 : ∀ w ∈ u_ws RX9 TX9 11, w ∈ lw_tbl := gInBy _ [535, 537, 539, 541, 543, 545, 547, 549, 551, 553, 555] (by decide +kernel)
set_option maxRecDepth 20000 in
theorem gWs10 : ∀ w ∈ u_ws RX10 TX10 69, w ∈ lw_tbl := gInBy _ [1372, 1374, 1376, 1378, 1380, 1382, 1384, 1386, 1388, 1390, 1392, 1394, 1396, 1398, 1400, 1402, 1404, 1406, 1408, 1410, 1412, 1414, 1416, 1418, 1420, 1422, 1424, 1426, 1428, 1430, 1432, 1434, 1436, 1438, 1440, 1442, 1444, 1446, 1448, 1450, 1452, 1454, 1456, 1458, 1460, 1462, 1464, 1466, 1468, 1470, 1472, 1474, 1476, 1478, 1480, 1482, 1484, 1486, 1488, 1490, 1492, 1494, 1496, 1498, 1500, 1502, 1504, 1506, 1508] (by decide +kernel)
def gOkC (ci : Nat) : Prop := (∀ w ∈ u_ws (gc ci).1 (gc ci).2.1 (gc ci).2.2, w ∈ lw_tbl) ∧ (∀ k, k < (gc ci).2.2 → parseFieldDescriptor ((gc ci).2.1 k).2.2.1 = some (gTy ci k)) ∧ (∀ a, a < (gc ci).2.2 → ∀ b, b < (gc ci).2.2 → a ≠ b → ((gc ci).2.1 a).2.1 ≠ ((gc ci).2.1 b).2.1) ∧ (gFt.getD ci []).length = (gc ci).2.2 ∧ (∀ k, k < (gc ci).2.2 → ((gc ci).2.1 k).2.2.2 = (gFf.getD ci []).getD k true ∧ (gFf.getD ci []).getD k false = (gFf.getD ci []).getD k true) ∧ (∀ k, k < (gc ci).2.2 → ((gFt.getD ci []).getD k 9 = 0 ∧ gTy ci k = .int) ∨ ((gFt.getD ci []).getD k 9 = 1 ∧ gTy ci k = .long) ∨ ((gFt.getD ci []).getD k 9 = 3 ∧ gTy ci k = .boolean) ∨ ((gFt.getD ci []).getD k 9 = 2 ∧ ((∃ c, gTy ci k = .object c) ∨ ∃ t, gTy ci k = .array t))) ∧ (∀ k, k < (gc ci).2.2 → ((gc ci).2.1 k).1 = (gc ci).1) ∧ (Cond.instantiable (gc ci).1 (gc ci).2.2 ∈ lw_tbl ∨ ci = 11) ∧ Cond.initialized (gc ci).1 ∈ lw_tbl ∧ gCl[ci]? = some (gc ci)
def gRefT : FieldType → Bool
  | .object _ => true
  | .array _ => true
  | _ => false
theorem gRefT_ok {t : FieldType} (h : gRefT t = true) : (∃ c, t = .object c) ∨ ∃ u, t = .array u := by
  cases t <;> simp [gRefT] at h ⊢
def gKd (a : Nat) (t : FieldType) : Bool := (a == 0 && t == .int) || (a == 1 && t == .long) || (a == 3 && t == .boolean) || (a == 2 && gRefT t)
theorem gKd_ok {a : Nat} {t : FieldType} (h : gKd a t = true) : (a = 0 ∧ t = .int) ∨ (a = 1 ∧ t = .long) ∨ (a = 3 ∧ t = .boolean) ∨ (a = 2 ∧ ((∃ c, t = .object c) ∨ ∃ u, t = .array u)) := by
  simp only [gKd, Bool.or_eq_true, Bool.and_eq_true, beq_iff_eq] at h
  rcases h with ((h | h) | h) | h
  · exact Or.inl h
  · exact Or.inr (Or.inl h)
  · exact Or.inr (Or.inr (Or.inl h))
  · exact Or.inr (Or.inr (Or.inr ⟨h.1, gRefT_ok h.2⟩))
set_option maxRecDepth 20000 in
theorem gOk0 : gOkC 0 := ⟨gWs0, tyX0_ok, nmX0, by decide +kernel, by decide +kernel, fun k hk => gKd_ok ((by decide +kernel : ∀ k, k < 3 → gKd ((gFt.getD 0 []).getD k 9) (gTy 0 k) = true) k hk), by decide +kernel, Or.inl (gIn (p := 349) (by decide +kernel)), gIn (p := 92) (by decide +kernel), rfl⟩
set_option maxRecDepth 20000 in
theorem gOk1 : gOkC 1 := ⟨gWs1, tyX1_ok, nmX1, by decide +kernel, by decide +kernel, fun k hk => gKd_ok ((by decide +kernel : ∀ k, k < 7 → gKd ((gFt.getD 1 []).getD k 9) (gTy 1 k) = true) k hk), by decide +kernel, Or.inl (gIn (p := 365) (by decide +kernel)), gIn (p := 93) (by decide +kernel), rfl⟩
set_option maxRecDepth 20000 in
theorem gOk2 : gOkC 2 := ⟨gWs2, tyX2_ok, nmX2, by decide +kernel, by decide +kernel, fun k hk => gKd_ok ((by decide +kernel : ∀ k, k < 7 → gKd ((gFt.getD 2 []).getD k 9) (gTy 2 k) = true) k hk), by decide +kernel, Or.inl (gIn (p := 136) (by decide +kernel)), gIn (p := 87) (by decide +kernel), rfl⟩
set_option maxRecDepth 20000 in
theorem gOk3 : gOkC 3 := ⟨gWs3, tyX3_ok, nmX3, by decide +kernel, by decide +kernel, fun k hk => gKd_ok ((by decide +kernel : ∀ k, k < 13 → gKd ((gFt.getD 3 []).getD k 9) (gTy 3 k) = true) k hk), by decide +kernel, Or.inl (gIn (p := 142) (by decide +kernel)), gIn (p := 88) (by decide +kernel), rfl⟩
set_option maxRecDepth 20000 in
theorem gOk4 : gOkC 4 := ⟨gWs4, tyX4_ok, nmX4, by decide +kernel, by decide +kernel, fun k hk => gKd_ok ((by decide +kernel : ∀ k, k < 7 → gKd ((gFt.getD 4 []).getD k 9) (gTy 4 k) = true) k hk), by decide +kernel, Or.inl (gIn (p := 321) (by decide +kernel)), gIn (p := 91) (by decide +kernel), rfl⟩
set_option maxRecDepth 20000 in
theorem gOk5 : gOkC 5 := ⟨gWs5, tyX5_ok, nmX5, by decide +kernel, by decide +kernel, fun k hk => gKd_ok ((by decide +kernel : ∀ k, k < 13 → gKd ((gFt.getD 5 []).getD k 9) (gTy 5 k) = true) k hk), by decide +kernel, Or.inl (gIn (p := 371) (by decide +kernel)), gIn (p := 94) (by decide +kernel), rfl⟩
set_option maxRecDepth 20000 in
theorem gOk6 : gOkC 6 := ⟨gWs6, tyX6_ok, nmX6, by decide +kernel, by decide +kernel, fun k hk => gKd_ok ((by decide +kernel : ∀ k, k < 2 → gKd ((gFt.getD 6 []).getD k 9) (gTy 6 k) = true) k hk), by decide +kernel, Or.inl (gIn (p := 118) (by decide +kernel)), gIn (p := 86) (by decide +kernel), rfl⟩
set_option maxRecDepth 20000 in
theorem gOk7 : gOkC 7 := ⟨gWs7, tyX7_ok, nmX7, by decide +kernel, by decide +kernel, fun k hk => gKd_ok ((by decide +kernel : ∀ k, k < 9 → gKd ((gFt.getD 7 []).getD k 9) (gTy 7 k) = true) k hk), by decide +kernel, Or.inl (gIn (p := 278) (by decide +kernel)), gIn (p := 90) (by decide +kernel), rfl⟩
set_option maxRecDepth 20000 in
theorem gOk8 : gOkC 8 := ⟨gWs8, tyX8_ok, nmX8, by decide +kernel, by decide +kernel, fun k hk => gKd_ok ((by decide +kernel : ∀ k, k < 17 → gKd ((gFt.getD 8 []).getD k 9) (gTy 8 k) = true) k hk), by decide +kernel, Or.inl (gIn (p := 455) (by decide +kernel)), gIn (p := 95) (by decide +kernel), rfl⟩
set_option maxRecDepth 20000 in
theorem gOk9 : gOkC 9 := ⟨gWs9, tyX9_ok, nmX9, by decide +kernel, by decide +kernel, fun k hk => gKd_ok ((by decide +kernel : ∀ k, k < 11 → gKd ((gFt.getD 9 []).getD k 9) (gTy 9 k) = true) k hk), by decide +kernel, Or.inl (gIn (p := 110) (by decide +kernel)), gIn (p := 85) (by decide +kernel), rfl⟩
set_option maxRecDepth 20000 in
theorem gOk10 : gOkC 10 := ⟨gWs10, tyX10_ok, nmX10, by decide +kernel, by decide +kernel, fun k hk => gKd_ok ((by decide +kernel : ∀ k, k < 69 → gKd ((gFt.getD 10 []).getD k 9) (gTy 10 k) = true) k hk), by decide +kernel, Or.inl (gIn (p := 1288) (by decide +kernel)), gIn (p := 96) (by decide +kernel), rfl⟩
theorem gOkAll : ∀ ci, ci < 11 → gOkC ci
  | 0, _ => gOk0
  | 1, _ => gOk1
  | 2, _ => gOk2
  | 3, _ => gOk3
  | 4, _ => gOk4
  | 5, _ => gOk5
  | 6, _ => gOk6
  | 7, _ => gOk7
  | 8, _ => gOk8
  | 9, _ => gOk9
  | 10, _ => gOk10
  | n + 11, h => absurd h (by omega)
def gFp : List Nat := [123, 124, 125, 126, 127, 128, 157, 158, 159, 160, 161, 162, 163, 164, 165, 166, 167, 168, 169, 170, 171, 172, 173, 174, 175, 176, 177, 178, 179, 180, 181, 182, 183, 184, 185, 186, 187, 188, 189, 190, 191, 192, 193, 194, 195, 196, 197, 198, 199, 200, 201, 202, 203, 232, 233, 234, 235, 236, 237, 238, 239, 240, 241, 242, 243, 244, 245, 246, 247, 248, 249, 250, 251, 252, 253, 254, 255, 256, 257, 258, 259, 260, 283, 284, 285, 286, 287, 288, 289, 290, 291, 292, 293, 294, 295, 296, 297, 298, 299, 300, 326, 327, 328, 329, 330, 331, 332, 354, 355, 356, 376, 377, 378, 379, 380, 381, 382, 383, 384, 385, 386, 387, 388, 389, 390, 391, 392, 393, 394, 395, 396, 424, 425, 426, 427, 428, 429, 430, 431, 432, 433, 434, 435, 436, 437, 438, 462, 463, 464, 465, 466, 467, 468, 469, 470, 471, 472, 473, 474, 475, 476, 477, 478, 479, 480, 481, 482, 483, 484, 485, 486, 487, 488, 524, 525, 526, 527, 528, 529, 530, 531, 532, 533, 534, 1303, 1304, 1305, 1306, 1307, 1308, 1309, 1310, 1311, 1312, 1313, 1314, 1315, 1316, 1317, 1318, 1319, 1320, 1321, 1322, 1323, 1324, 1325, 1326, 1327, 1328, 1329, 1330, 1331, 1332, 1333, 1334, 1335, 1336, 1337, 1338, 1339, 1340, 1341, 1342, 1343, 1344, 1345, 1346, 1347, 1348, 1349, 1350, 1351, 1352, 1353, 1354, 1355, 1356, 1357, 1358, 1359, 1360, 1361, 1362, 1363, 1364, 1365, 1366, 1367, 1368, 1369, 1370, 1371]
def gFck (e : (Nat × Nat × Nat × Nat) × Nat) : Bool := decide (lw_tbl[e.2]? = some (Cond.fieldLink (gOwn.getD e.1.1 "") e.1.2.1 ((gc e.1.2.2.1).2.1 e.1.2.2.2).1 ((gc e.1.2.2.1).2.1 e.1.2.2.2).2.1 ((gc e.1.2.2.1).2.1 e.1.2.2.2).2.2.1)) && decide (e.1.2.2.2 < (gc e.1.2.2.1).2.2) && decide (e.1.2.2.1 < 11)
set_option maxRecDepth 100000 in
theorem gF_len : gF.length = gFp.length := by decide +kernel
set_option maxRecDepth 100000 in
theorem gF_ck : (gF.zip gFp).all gFck = true := by decide +kernel
def gCp : List Nat := [111, 114, 119, 122, 137, 140, 143, 146, 147, 151, 154, 279, 282, 322, 325, 350, 353, 366, 369, 372, 375, 456, 459, 461, 558, 562, 566, 570, 574, 578, 579, 583, 587, 590, 594, 598, 603, 607, 617, 621, 659, 663, 667, 671, 672, 676, 677, 680, 684, 688, 693, 697, 698, 702, 706, 711, 715, 716, 720, 724, 728, 732, 736, 740, 744, 748, 752, 756, 760, 764, 765, 769, 773, 777, 780, 784, 785, 790, 794, 798, 802, 803, 804, 808, 812, 816, 821, 822, 823, 824, 826, 830, 831, 832, 833, 834, 838, 841, 845, 849, 853, 857, 858, 859, 863, 864, 868, 872, 877, 881, 885, 889, 893, 897, 901, 905, 911, 915, 916, 917, 918, 922, 925, 929, 933, 937, 941, 945, 949, 950, 954, 955, 959, 963, 964, 968, 972, 976, 977, 981, 985, 986, 990, 994, 998, 1002, 1006, 1010, 1011, 1012, 1016, 1020, 1024, 1028, 1034, 1038, 1039, 1043, 1047, 1051, 1055, 1059, 1063, 1067, 1071, 1075, 1079, 1083, 1084, 1088, 1089, 1090, 1094, 1098, 1102, 1103, 1107, 1108, 1112, 1113, 1114, 1118, 1122, 1126, 1130, 1134, 1138, 1142, 1146, 1147, 1151, 1152, 1156, 1157, 1158, 1163, 1166, 1170, 1174, 1178, 1182, 1186, 1190, 1233, 1255, 1259, 1262, 1266, 1269, 1273, 1274, 1277, 1281, 1285, 1290, 1295, 1298, 1299, 1512, 1516, 1520, 1524, 1528, 1531, 1534, 1539, 1543, 1547, 1551, 1555, 1559, 1563, 1567, 1572, 1584, 1588, 1592, 1596, 1600, 1604, 1608, 1611, 1619, 1623, 1628, 1634, 1638, 1642, 1646, 1650, 1654, 1658, 1661, 1665, 1670, 1674, 1678, 1687, 1691, 1695, 1699, 1702, 1706, 1710, 1714, 1718, 1722, 1726, 1730, 1734, 1738, 1745, 1749, 1753, 1757, 1761, 1765, 1769, 1773, 1777, 1781, 1785, 1789, 1793, 1797, 1801, 1806, 1810, 1814, 1818, 1822, 1826, 1829, 1833, 1837, 1841, 1845, 1849, 1853, 1857, 1861, 1865, 1869, 1873, 1877, 1881, 1885, 1889, 1893, 1897, 1902, 1906, 1910]
def gSpY : Nat → MethodName
  | 1000 => objectInit
  | 1001 => arraycopyName
  | 1002 => yJ0_length_8abf5
  | 1003 => yJ0_charAt_5068e
  | 1004 => ⟨"java/util/NoSuchElementException", "<init>", "()V"⟩
  | 1005 => Lib.Math.max.name
  | 1006 => Lib.Math.min.name
  | 1007 => Lib.Math.abs.name
  | mj => (gMe mj).1
def gCck (e : (Nat × Nat × Nat × Nat) × Nat) : Bool := decide (lw_tbl[e.2]? = some (if e.1.2.2.2 = 0 then Cond.methodLink (gOwn.getD e.1.1 "") e.1.2.1 (gSpY e.1.2.2.1) else Cond.methodLinkNest (gOwn.getD e.1.1 "") e.1.2.1 (gSpY e.1.2.2.1) "HouseClaps")) && (decide (e.1.2.2.1 < 253) || decide (1000 ≤ e.1.2.2.1)) && (decide (e.1.2.2.2 = 0) || decide (e.1.2.2.2 = 1)) && !(decide (e.1.2.2.1 = 0))
set_option maxRecDepth 100000 in
theorem gC_len : gCall.length = gCp.length := by decide +kernel
set_option maxRecDepth 100000 in
theorem gC_ck : (gCall.zip gCp).all gCck = true := by decide +kernel
def gNp : List Nat := [109, 117, 135, 141, 277, 320, 348, 364, 370, 454, 460, 1189, 1194, 1294]
def gNck (e : (Nat × Nat × Nat) × Nat) : Bool := decide (lw_tbl[e.2]? = some (Cond.classLink (gOwn.getD e.1.1 "") e.1.2.1 (gc e.1.2.2).1)) && decide (e.1.2.2 < 12)
theorem gN_len : gNew.length = gNp.length := by decide +kernel
set_option maxRecDepth 100000 in
theorem gN_ck : (gNew.zip gNp).all gNck = true := by decide +kernel
def gKp : List Nat := [747, 768, 876, 908, 909, 910, 1031, 1032, 1033, 1162, 1538, 1558, 1571, 1576, 1577, 1578, 1579, 1580, 1581, 1582, 1583, 1615, 1616, 1617, 1618, 1626, 1627, 1632, 1633, 1669, 1682, 1683, 1684, 1685, 1686, 1741, 1742, 1743, 1744, 1805, 1901, 602, 692, 710, 820, 825]
def gKck (e : (Nat × Nat × Value) × Nat) : Bool := match e.1.2.2 with
  | .int v => decide (lw_tbl[e.2]? = some (Cond.constant (gOwn.getD e.1.1 "") e.1.2.1 v))
  | .long v => decide (lw_tbl[e.2]? = some (Cond.constantLong (gOwn.getD e.1.1 "") e.1.2.1 v))
  | .ref v => decide (lw_tbl[e.2]? = some (Cond.stringRef (gOwn.getD e.1.1 "") e.1.2.1 (gStr.getD (v - 1000001) ""))) && decide (1000001 ≤ v) && decide (v < 1000006)
  | _ => false
theorem gK_len : gCon.length = gKp.length := by decide +kernel
set_option maxRecDepth 100000 in
theorem gK_ck : (gCon.zip gKp).all gKck = true := by decide +kernel
