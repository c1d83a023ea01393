set_option maxRecDepth 20000 in
theorem in_wsL_law_0_r21 : ∀ w ∈ wsL_law_0_r21, w ∈ lw_tbl := in_r wsL_law_0_r21 [867, 19, 868, 869, 870, 871, 872, 883, 603, 604, 605, 606, 1550, 1551, 1552, 1553, 459, 460, 461, 462, 1420, 1421, 1422, 1423] rfl
set_option maxRecDepth 20000 in
theorem in_wsL_law_0_r22 : ∀ w ∈ wsL_law_0_r22, w ∈ lw_tbl := in_r wsL_law_0_r22 [884, 885, 886, 887, 888, 889, 890, 891, 892, 894, 20, 895, 900, 116, 896, 897, 898, 899, 916, 517, 518, 519, 917, 513] rfl
set_option maxRecDepth 20000 in
theorem in_wsL_law_0_r23 : ∀ w ∈ wsL_law_0_r23, w ∈ lw_tbl := in_r wsL_law_0_r23 [514, 515, 1554, 1555, 1556, 1557, 1558, 1560, 62, 1561, 1562, 1564, 63, 1565, 1566, 1567, 1568, 1569, 1571, 64, 1572, 1573, 1575, 65] rfl
set_option maxRecDepth 20000 in
theorem in_wsL_law_0_r24 : ∀ w ∈ wsL_law_0_r24, w ∈ lw_tbl := in_r wsL_law_0_r24 [1576, 918, 919, 920, 921, 922, 923, 924, 925, 927, 21, 928, 929, 1577, 1578, 1579, 1580, 931, 932, 933, 934, 935, 936, 937] rfl
set_option maxRecDepth 20000 in
theorem in_wsL_law_0_r25 : ∀ w ∈ wsL_law_0_r25, w ∈ lw_tbl := in_r wsL_law_0_r25 [938, 509, 510, 511, 1581, 1582, 1583, 1584, 1585, 1587, 66, 1588, 1589, 1590, 1591, 939, 940, 941, 942, 943, 944, 945, 946, 487] rfl
set_option maxRecDepth 20000 in
theorem in_wsL_law_0_r26 : ∀ w ∈ wsL_law_0_r26, w ∈ lw_tbl := in_r wsL_law_0_r26 [488, 489, 490, 491, 492, 493, 494, 496, 2, 497, 498, 499, 117, 500, 501, 502, 503, 504, 505, 506, 507, 508, 512, 516] rfl
set_option maxRecDepth 20000 in
theorem in_wsL_law_0_r27 : ∀ w ∈ wsL_law_0_r27, w ∈ lw_tbl := in_r wsL_law_0_r27 [520, 522, 3, 523, 1592, 1593, 1594, 1595, 1596, 1598, 67, 1599, 1600, 1602, 68, 1603, 1604, 1606, 69, 1607, 1608, 1610, 70, 1611] rfl
set_option maxRecDepth 20000 in
theorem in_wsL_law_0_r28 : ∀ w ∈ wsL_law_0_r28, w ∈ lw_tbl := in_r wsL_law_0_r28 [1612, 1613, 1614, 1615, 1616, 1617, 1618, 1619, 118, 1620, 1621, 1622, 1623, 1624, 1625, 947, 948, 949, 950, 951, 952, 953, 475, 477] rfl
set_option maxRecDepth 20000 in
theorem in_wsL_law_0_r29 : ∀ w ∈ wsL_law_0_r29, w ∈ lw_tbl := in_r wsL_law_0_r29 [1, 478, 479, 480, 481, 482, 524, 483, 484, 485, 486, 525, 526, 527, 528, 529, 539, 530, 532, 4, 533, 534, 536, 5] rfl
set_option maxRecDepth 20000 in
theorem in_wsL_law_0_r30 : ∀ w ∈ wsL_law_0_r30, w ∈ lw_tbl := in_r wsL_law_0_r30 [537, 538, 540, 541, 542, 467, 1626, 1627, 1628, 1629, 1630, 1632, 71, 1633, 1634, 1636, 72, 1637, 1317, 1318, 1638, 1639, 1641, 73] rfl
set_option maxRecDepth 20000 in
theorem in_wsL_law_0_r31 : ∀ w ∈ wsL_law_0_r31, w ∈ lw_tbl := in_r wsL_law_0_r31 [1642, 1643, 1645, 74, 1646, 1647, 1648, 1649, 954, 955, 956, 957, 958, 959, 960, 962, 963, 964, 965, 966, 968, 22, 969, 970] rfl
set_option maxRecDepth 20000 in
theorem in_wsL_law_0_r32 : ∀ w ∈ wsL_law_0_r32, w ∈ lw_tbl := in_r wsL_law_0_r32 [972, 23, 973, 578, 579, 581, 582, 1650, 1651, 1652, 1653, 1654, 1656, 75, 1657, 1658, 1660, 76, 1661, 1662, 1663, 1664, 1665, 1666] rfl
set_option maxRecDepth 20000 in
theorem in_wsL_law_0_r33 : ∀ w ∈ wsL_law_0_r33, w ∈ lw_tbl := in_r wsL_law_0_r33 [1667, 976, 977, 978, 979, 980, 981, 982, 983, 984, 985, 986, 1668, 1669, 1670, 1671, 987, 988, 989, 990, 991, 992, 993, 994] rfl
set_option maxRecDepth 20000 in
theorem in_wsL_law_0_r34 : ∀ w ∈ wsL_law_0_r34, w ∈ lw_tbl := in_r wsL_law_0_r34 [995, 996, 997, 998, 999, 1000, 1001, 1003, 1004, 1005, 1006, 1007, 1008, 1009, 1010, 1011, 1012, 1672, 1673, 1674, 1675, 1013, 1014, 1015] rfl
set_option maxRecDepth 20000 in
theorem in_wsL_law_0_r35 : ∀ w ∈ wsL_law_0_r35, w ∈ lw_tbl := in_r wsL_law_0_r35 [1016, 1017, 1018, 1019, 1021, 1022, 1023, 1024, 1030, 1025, 1026, 1027, 1028, 1029, 1031, 1032, 119, 1033, 1034, 1036, 24, 1037, 1038, 1039] rfl
set_option maxRecDepth 20000 in
theorem in_wsL_law_0_r36 : ∀ w ∈ wsL_law_0_r36, w ∈ lw_tbl := in_r wsL_law_0_r36 [1676, 1677, 1678, 1679, 1680, 1682, 77, 1683, 1040, 1041, 1042, 1043, 1044, 1045, 1046, 1047, 1048, 1049, 1050, 1051, 1052, 1054, 25, 1055] rfl
set_option maxRecDepth 20000 in
theorem in_wsL_law_0_r37 : ∀ w ∈ wsL_law_0_r37, w ∈ lw_tbl := in_r wsL_law_0_r37 [1684, 1685, 1686, 1687, 1688, 1690, 78, 1691, 1056, 1057, 1058, 1059, 1060, 1061, 1062, 1063, 1064, 1065, 1066, 1067, 1692, 1693, 1694, 1695] rfl
set_option maxRecDepth 20000 in
theorem in_wsL_law_0_r38 : ∀ w ∈ wsL_law_0_r38, w ∈ lw_tbl := in_r wsL_law_0_r38 [1696, 1698, 79, 1699, 1069, 1070, 1071, 1072, 1073, 1074, 1075, 1076, 1077, 1078, 1079, 1085, 1080, 1082, 26, 1083, 1084, 1086, 1087, 1088] rfl
set_option maxRecDepth 20000 in
theorem in_wsL_law_0_r39 : ∀ w ∈ wsL_law_0_r39, w ∈ lw_tbl := in_r wsL_law_0_r39 [1089, 1090, 1091, 1093, 27, 1094, 1095, 1096, 1700, 1701, 1702, 1703, 1704, 1706, 80, 1707, 1708, 1710, 81, 1711, 1097, 1098, 1099, 1100] rfl
set_option maxRecDepth 20000 in
theorem in_wsL_law_0_r40 : ∀ w ∈ wsL_law_0_r40, w ∈ lw_tbl := in_r wsL_law_0_r40 [1101, 1102, 1103, 1712, 1713, 1714, 1715, 1104, 1105, 1106, 1107, 1108, 1109, 1110, 1111, 1112, 1113, 1114, 1716, 1717, 1718, 1719, 1725, 1726] rfl
