theorem in_r {big : List Cond} (ws : List Cond) (ps : List Nat) (hp : ws = ps.filterMap (fun i => big[i]?)) : ∀ w ∈ ws, w ∈ big := by
  intro w hw
  rw [hp] at hw
  obtain ⟨i, -, hi⟩ := List.mem_filterMap.mp hw
  exact List.mem_of_getElem? hi
theorem in_a {big a b : List Cond} (ha : ∀ w ∈ a, w ∈ big) (hb : ∀ w ∈ b, w ∈ big) : ∀ w ∈ a ++ b, w ∈ big := fun w h => (List.mem_append.mp h).elim (ha w) (hb w)
set_option maxRecDepth 20000 in
theorem in_wsL_law_0_r1 : ∀ w ∈ wsL_law_0_r1, w ∈ lw_tbl := in_r wsL_law_0_r1 [121, 122, 94, 1293, 1294, 105, 1403, 123, 124, 125, 126, 127, 128, 129, 130, 95, 409, 159, 160, 96, 410, 411, 321, 166] rfl
set_option maxRecDepth 20000 in
theorem in_wsL_law_0_r2 : ∀ w ∈ wsL_law_0_r2, w ∈ lw_tbl := in_r wsL_law_0_r2 [97, 412, 323, 203, 98, 413, 325, 326, 101, 414, 346, 347, 102, 415, 374, 375, 103, 416, 396, 397, 104, 417, 418, 419] rfl
set_option maxRecDepth 20000 in
theorem in_wsL_law_0_r3 : ∀ w ∈ wsL_law_0_r3, w ∈ lw_tbl := in_r wsL_law_0_r3 [132, 133, 134, 158, 135, 136, 138, 140, 141, 142, 162, 163, 164, 165, 298, 202, 302, 222, 223, 99, 304, 245, 246, 100] rfl
set_option maxRecDepth 20000 in
theorem in_wsL_law_0_r4 : ∀ w ∈ wsL_law_0_r4, w ∈ lw_tbl := in_r wsL_law_0_r4 [306, 308, 168, 169, 170, 201, 171, 172, 173, 179, 180, 182, 184, 205, 206, 207, 208, 209, 210, 211, 225, 226, 227, 228] rfl
set_option maxRecDepth 20000 in
theorem in_wsL_law_0_r5 : ∀ w ∈ wsL_law_0_r5, w ∈ lw_tbl := in_r wsL_law_0_r5 [229, 230, 231, 232, 248, 249, 250, 251, 254, 256, 258, 261, 264, 267, 269, 271, 273, 274, 328, 329, 330, 331, 332, 333] rfl
set_option maxRecDepth 20000 in
theorem in_wsL_law_0_r6 : ∀ w ∈ wsL_law_0_r6, w ∈ lw_tbl := in_r wsL_law_0_r6 [335, 349, 350, 351, 352, 353, 354, 355, 356, 357, 358, 377, 378, 379, 380, 381, 382, 383, 384, 399, 400, 401, 402, 403] rfl
set_option maxRecDepth 20000 in
theorem in_wsL_law_0_r7 : ∀ w ∈ wsL_law_0_r7, w ∈ lw_tbl := in_r wsL_law_0_r7 [1295, 1296, 1297, 1298, 1300, 1301, 1302, 1304, 1306, 1312, 1313, 1315, 1316, 1319, 1320, 1402, 1321, 1322, 1323, 1324, 1325, 1326, 1327, 1328] rfl
set_option maxRecDepth 20000 in
theorem in_wsL_law_0_r8 : ∀ w ∈ wsL_law_0_r8, w ∈ lw_tbl := in_r wsL_law_0_r8 [1329, 1330, 1331, 1332, 443, 444, 445, 446, 447, 448, 449, 450, 451, 452, 453, 454, 1412, 1413, 1414, 1415, 1299, 1307, 455, 456] rfl
set_option maxRecDepth 20000 in
theorem in_wsL_law_0_r9 : ∀ w ∈ wsL_law_0_r9, w ∈ lw_tbl := in_r wsL_law_0_r9 [457, 458, 1416, 1417, 1418, 1419, 628, 629, 93, 630, 631, 632, 633, 634, 635, 636, 746, 114, 814, 115, 637, 596, 597, 598] rfl
set_option maxRecDepth 20000 in
theorem in_wsL_law_0_r10 : ∀ w ∈ wsL_law_0_r10, w ∈ lw_tbl := in_r wsL_law_0_r10 [599, 601, 600, 106, 638, 639, 640, 641, 642, 643, 644, 645, 646, 647, 648, 649, 650, 652, 8, 653, 654, 656, 9, 657] rfl
set_option maxRecDepth 20000 in
theorem in_wsL_law_0_r11 : ∀ w ∈ wsL_law_0_r11, w ∈ lw_tbl := in_r wsL_law_0_r11 [658, 659, 660, 661, 662, 664, 10, 665, 667, 668, 669, 670, 671, 672, 673, 107, 674, 1857, 675, 676, 677, 678, 679, 1858] rfl
set_option maxRecDepth 20000 in
theorem in_wsL_law_0_r12 : ∀ w ∈ wsL_law_0_r12, w ∈ lw_tbl := in_r wsL_law_0_r12 [681, 682, 683, 684, 685, 686, 687, 688, 689, 690, 108, 691, 692, 693, 694, 695, 697, 698, 109, 699, 700, 701, 110, 702] rfl
set_option maxRecDepth 20000 in
theorem in_wsL_law_0_r13 : ∀ w ∈ wsL_law_0_r13, w ∈ lw_tbl := in_r wsL_law_0_r13 [703, 704, 705, 706, 707, 708, 709, 710, 711, 712, 713, 715, 717, 719, 720, 722, 11, 723, 724, 725, 726, 727, 728, 729] rfl
set_option maxRecDepth 20000 in
theorem in_wsL_law_0_r14 : ∀ w ∈ wsL_law_0_r14, w ∈ lw_tbl := in_r wsL_law_0_r14 [730, 731, 733, 734, 735, 736, 738, 740, 12, 741, 742, 744, 13, 745, 1424, 1425, 1426, 1427, 1310, 1428, 1430, 36, 1431, 1314] rfl
set_option maxRecDepth 20000 in
theorem in_wsL_law_0_r15 : ∀ w ∈ wsL_law_0_r15, w ∈ lw_tbl := in_r wsL_law_0_r15 [1308, 1309, 1432, 1434, 37, 1435, 1436, 1438, 38, 1439, 1440, 1442, 39, 1443, 1444, 1446, 40, 1447, 1448, 1450, 41, 1451, 1452, 1454] rfl
set_option maxRecDepth 20000 in
theorem in_wsL_law_0_r16 : ∀ w ∈ wsL_law_0_r16, w ∈ lw_tbl := in_r wsL_law_0_r16 [42, 1455, 1457, 1459, 43, 1460, 1461, 1462, 1463, 1465, 44, 1466, 1467, 1469, 45, 1470, 1471, 1473, 46, 1474, 1475, 1477, 47, 1478] rfl
set_option maxRecDepth 20000 in
theorem in_wsL_law_0_r17 : ∀ w ∈ wsL_law_0_r17, w ∈ lw_tbl := in_r wsL_law_0_r17 [1479, 1481, 48, 1482, 1483, 1485, 49, 1486, 1488, 1490, 50, 1491, 1493, 1495, 51, 1496, 1311, 1499, 1501, 52, 1502, 1503, 1505, 53] rfl
set_option maxRecDepth 20000 in
theorem in_wsL_law_0_r18 : ∀ w ∈ wsL_law_0_r18, w ∈ lw_tbl := in_r wsL_law_0_r18 [1506, 1507, 1509, 54, 1520, 1522, 57, 1523, 1510, 1511, 1513, 55, 1514, 1515, 1517, 56, 1518, 1524, 1526, 58, 1527, 1528, 1530, 59] rfl
set_option maxRecDepth 20000 in
theorem in_wsL_law_0_r19 : ∀ w ∈ wsL_law_0_r19, w ∈ lw_tbl := in_r wsL_law_0_r19 [1531, 1532, 1542, 1544, 60, 1545, 1546, 1548, 61, 1549, 1305, 1289, 1290, 1291, 1292, 830, 831, 832, 833, 834, 835, 836, 837, 838] rfl
set_option maxRecDepth 20000 in
theorem in_wsL_law_0_r20 : ∀ w ∈ wsL_law_0_r20, w ∈ lw_tbl := in_r wsL_law_0_r20 [839, 840, 841, 842, 844, 845, 847, 849, 15, 850, 851, 853, 16, 854, 855, 857, 17, 858, 860, 861, 863, 18, 864, 865] rfl
