set_option maxRecDepth 20000 in
theorem in_wsL_law_0_r41 : ∀ w ∈ wsL_law_0_r41, w ∈ lw_tbl := in_r wsL_law_0_r41 [1727, 1724, 1728, 1720, 1722, 82, 1723, 1115, 1116, 1117, 1118, 1119, 1120, 1121, 1122, 1124, 28, 1125, 468, 469, 470, 1729, 1730, 1731] rfl
set_option maxRecDepth 20000 in
theorem in_wsL_law_0_r42 : ∀ w ∈ wsL_law_0_r42, w ∈ lw_tbl := in_r wsL_law_0_r42 [1732, 1733, 1735, 83, 1736, 1737, 1738, 1739, 463, 464, 465, 466, 471, 473, 0, 474, 543, 1740, 1741, 1742, 1743, 1126, 1127, 1128] rfl
set_option maxRecDepth 20000 in
theorem in_wsL_law_0_r43 : ∀ w ∈ wsL_law_0_r43, w ∈ lw_tbl := in_r wsL_law_0_r43 [1129, 1130, 1131, 1132, 1134, 1135, 1136, 1137, 1138, 1145, 1139, 1140, 1142, 29, 1143, 1144, 1146, 1148, 30, 1149, 1150, 1152, 31, 1153] rfl
set_option maxRecDepth 20000 in
theorem in_wsL_law_0_r44 : ∀ w ∈ wsL_law_0_r44, w ∈ lw_tbl := in_r wsL_law_0_r44 [1154, 1156, 32, 1157, 1744, 1745, 1746, 1747, 1748, 1750, 84, 1751, 1752, 1754, 85, 1755, 1756, 1758, 86, 1759, 1760, 1762, 87, 1763] rfl
set_option maxRecDepth 20000 in
theorem in_wsL_law_0_r45 : ∀ w ∈ wsL_law_0_r45, w ∈ lw_tbl := in_r wsL_law_0_r45 [544, 545, 546, 547, 548, 550, 6, 551, 1764, 1765, 1766, 1767, 1768, 1770, 88, 1771, 1158, 1159, 1160, 1161, 1162, 1163, 1164, 1772] rfl
set_option maxRecDepth 20000 in
theorem in_wsL_law_0_r46 : ∀ w ∈ wsL_law_0_r46, w ∈ lw_tbl := in_r wsL_law_0_r46 [1773, 1774, 1775, 1165, 1166, 1167, 1168, 1169, 1170, 1171, 1172, 1173, 1174, 1177, 1178, 1179, 1180, 1776, 1777, 1778, 1779, 552, 553, 554] rfl
set_option maxRecDepth 20000 in
theorem in_wsL_law_0_r47 : ∀ w ∈ wsL_law_0_r47, w ∈ lw_tbl := in_r wsL_law_0_r47 [555, 1780, 1781, 1782, 1783, 556, 557, 558, 559, 560, 561, 562, 563, 568, 564, 566, 7, 567, 1784, 1785, 1786, 1787, 1788, 1790] rfl
set_option maxRecDepth 20000 in
theorem in_wsL_law_0_r48 : ∀ w ∈ wsL_law_0_r48, w ∈ lw_tbl := in_r wsL_law_0_r48 [89, 1791, 1792, 1794, 90, 1795, 1181, 1182, 1183, 1184, 1185, 1186, 1187, 1189, 1190, 1191, 1192, 1193, 1195, 33, 1196, 1197, 1198, 1199] rfl
set_option maxRecDepth 20000 in
theorem in_wsL_law_0_r49 : ∀ w ∈ wsL_law_0_r49, w ∈ lw_tbl := in_r wsL_law_0_r49 [1200, 1201, 1202, 1203, 1796, 1797, 1798, 1799, 1800, 1204, 1205, 1206, 1207, 1208, 1209, 1210, 1211, 1212, 1213, 1214, 1801, 1802, 1803, 1804] rfl
set_option maxRecDepth 20000 in
theorem in_wsL_law_0_r50 : ∀ w ∈ wsL_law_0_r50, w ∈ lw_tbl := in_r wsL_law_0_r50 [1215, 1216, 1217, 1218, 1219, 1220, 1221, 1222, 1223, 1224, 1225, 1228, 1229, 1230, 1231, 1232, 1233, 1234, 1235, 1236, 1237, 1238, 1805, 1806] rfl
set_option maxRecDepth 20000 in
theorem in_wsL_law_0_r51 : ∀ w ∈ wsL_law_0_r51, w ∈ lw_tbl := in_r wsL_law_0_r51 [1807, 1808, 1809, 1811, 91, 1812, 1813, 1815, 92, 1816, 569, 570, 571, 572, 573, 574, 575, 576, 1817, 1818, 1819, 1820, 1239, 1240] rfl
set_option maxRecDepth 20000 in
theorem in_wsL_law_0_r52 : ∀ w ∈ wsL_law_0_r52, w ∈ lw_tbl := in_r wsL_law_0_r52 [1241, 1242, 1243, 1244, 1245, 1247, 1248, 1249, 1250, 1251, 1252, 1254, 34, 1255, 1256, 1821, 1822, 1823, 1824, 1825, 1257, 1258, 1259, 1260] rfl
set_option maxRecDepth 20000 in
theorem in_wsL_law_0_r53 : ∀ w ∈ wsL_law_0_r53, w ∈ lw_tbl := in_r wsL_law_0_r53 [1261, 1262, 1263, 1264, 1265, 120, 1281, 1283, 35, 1284, 1285, 1286, 1287, 1288, 1826, 1827, 1828, 1829, 583, 584, 585, 586, 1830, 1831] rfl
set_option maxRecDepth 20000 in
theorem in_wsL_law_0_r54 : ∀ w ∈ wsL_law_0_r54, w ∈ lw_tbl := in_r wsL_law_0_r54 [1832, 1833, 587, 588, 589, 590, 591, 592, 593, 594, 595, 602, 607, 608, 609, 610, 611, 612, 613, 614, 615, 1404, 1405, 1406] rfl
set_option maxRecDepth 20000 in
theorem in_wsL_law_0_r55 : ∀ w ∈ wsL_law_0_r55, w ∈ lw_tbl := in_r wsL_law_0_r55 [1407, 1303, 616, 617, 618, 619, 1408, 1409, 1410, 1411, 620, 621, 622, 623, 624, 625, 626, 627, 1834, 1835, 1836, 1837] rfl
set_option maxRecDepth 20000 in
theorem in_wsX100 : ∀ w ∈ wsX100, w ∈ lw_tbl := in_r wsX100 [420, 422, 424, 426, 428, 430, 432, 434, 436, 438, 440] rfl
set_option maxRecDepth 20000 in
theorem in_wsX110 : ∀ w ∈ wsX110, w ∈ lw_tbl := in_r wsX110 [1333, 1335, 1337, 1339, 1341, 1343, 1345, 1347, 1349, 1351, 1353, 1355, 1357, 1359, 1361, 1363, 1365, 1367, 1369, 1371, 1373, 1375, 1377, 1379, 1381, 1383, 1385, 1387, 1389, 1391, 1393, 1395, 1397, 1399] rfl
set_option maxRecDepth 20000 in
theorem in_wsX80 : ∀ w ∈ wsX80, w ∈ lw_tbl := in_r wsX80 [145, 147, 149, 151, 153, 155] rfl
set_option maxRecDepth 20000 in
theorem in_wsX60 : ∀ w ∈ wsX60, w ∈ lw_tbl := in_r wsX60 [310, 312, 314, 316, 318] rfl
set_option maxRecDepth 20000 in
theorem in_wsX10 : ∀ w ∈ wsX10, w ∈ lw_tbl := in_r wsX10 [186, 188, 190, 192, 194, 196, 198] rfl
set_option maxRecDepth 20000 in
theorem in_wsX20 : ∀ w ∈ wsX20, w ∈ lw_tbl := in_r wsX20 [213, 215, 217, 219] rfl
set_option maxRecDepth 20000 in
theorem in_wsX00 : ∀ w ∈ wsX00, w ∈ lw_tbl := in_r wsX00 [337, 339, 341, 343] rfl
set_option maxRecDepth 20000 in
theorem in_wsX40 : ∀ w ∈ wsX40, w ∈ lw_tbl := in_r wsX40 [359, 361, 363, 365, 367, 369, 371] rfl
set_option maxRecDepth 20000 in
theorem in_wsX50 : ∀ w ∈ wsX50, w ∈ lw_tbl := in_r wsX50 [385, 387, 389, 391, 393] rfl
set_option maxRecDepth 20000 in
theorem in_wsX90 : ∀ w ∈ wsX90, w ∈ lw_tbl := in_r wsX90 [404, 406] rfl
set_option maxRecDepth 20000 in
theorem in_wsX30 : ∀ w ∈ wsX30, w ∈ lw_tbl := in_r wsX30 [234, 236, 238, 240, 242] rfl
set_option maxRecDepth 20000 in
theorem in_wsX70 : ∀ w ∈ wsX70, w ∈ lw_tbl := in_r wsX70 [275, 277, 279, 281, 283, 285, 287, 289, 291, 293, 295] rfl
theorem wsL_law__in0 : ∀ w ∈ wsL_law_0, w ∈ lw_tbl := (in_a (in_a (in_a (in_a (in_a (in_a (in_a (in_a (in_a (in_a (in_a (in_a (in_a (in_a in_wsL_law_0_r1 (in_a in_wsL_law_0_r2 (in_a in_wsL_law_0_r3 (in_a in_wsL_law_0_r4 (in_a in_wsL_law_0_r5 (in_a in_wsL_law_0_r6 (in_a in_wsL_law_0_r7 (in_a in_wsL_law_0_r8 (in_a in_wsL_law_0_r9 (in_a in_wsL_law_0_r10 (in_a in_wsL_law_0_r11 (in_a in_wsL_law_0_r12 (in_a in_wsL_law_0_r13 (in_a in_wsL_law_0_r14 (in_a in_wsL_law_0_r15 (in_a in_wsL_law_0_r16 (in_a in_wsL_law_0_r17 (in_a in_wsL_law_0_r18 (in_a in_wsL_law_0_r19 (in_a in_wsL_law_0_r20 (in_a in_wsL_law_0_r21 (in_a in_wsL_law_0_r22 (in_a in_wsL_law_0_r23 (in_a in_wsL_law_0_r24 (in_a in_wsL_law_0_r25 (in_a in_wsL_law_0_r26 (in_a in_wsL_law_0_r27 (in_a in_wsL_law_0_r28 (in_a in_wsL_law_0_r29 (in_a in_wsL_law_0_r30 (in_a in_wsL_law_0_r31 (in_a in_wsL_law_0_r32 (in_a in_wsL_law_0_r33 (in_a in_wsL_law_0_r34 (in_a in_wsL_law_0_r35 (in_a in_wsL_law_0_r36 (in_a in_wsL_law_0_r37 (in_a in_wsL_law_0_r38 (in_a in_wsL_law_0_r39 (in_a in_wsL_law_0_r40 (in_a in_wsL_law_0_r41 (in_a in_wsL_law_0_r42 (in_a in_wsL_law_0_r43 (in_a in_wsL_law_0_r44 (in_a in_wsL_law_0_r45 (in_a in_wsL_law_0_r46 (in_a in_wsL_law_0_r47 (in_a in_wsL_law_0_r48 (in_a in_wsL_law_0_r49 (in_a in_wsL_law_0_r50 (in_a in_wsL_law_0_r51 (in_a in_wsL_law_0_r52 (in_a in_wsL_law_0_r53 (in_a in_wsL_law_0_r54 in_wsL_law_0_r55)))))))))))))))))))))))))))))))))))))))))))))))))))))) in_wsX100) in_wsX110) in_wsX80) in_wsX60) in_wsX10) in_wsX20) in_wsX00) in_wsX40) in_wsX50) in_wsX90) in_wsX30) in_wsX70) (fun _ h => nomatch h))
