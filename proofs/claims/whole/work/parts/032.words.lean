/-! the words of the law are the tables' -/
theorem memP {big ws : List Cond} (is : List Nat) (h : is.filterMap (fun k => big[k]?) = ws) : ∀ w ∈ ws, w ∈ big := by
  intro w hw
  rw [← h] at hw
  obtain ⟨i, -, hi⟩ := List.mem_filterMap.mp hw
  exact List.mem_of_getElem? hi
theorem memQ {big L : List Cond} {p1 p2 : Cond → Bool} (os : List (Option Nat)) (h : (L.zip os).all (fun q => match q.2 with | some k => decide (big[k]? = some q.1) | none => !(p1 q.1 && p2 q.1)) = true) (hl : L.length = os.length) : ∀ w ∈ (L.filter p1).filter p2, w ∈ big := by
  intro w hw
  obtain ⟨hw1, hp2⟩ := List.mem_filter.mp hw
  obtain ⟨hw2, hp1⟩ := List.mem_filter.mp hw1
  obtain ⟨i, hi, rfl⟩ := List.mem_iff_getElem.mp hw2
  have hz : (L[i], os[i]'(by omega)) ∈ L.zip os := by
    rw [List.mem_iff_getElem]
    exact ⟨i, by simp; omega, by simp⟩
  have := List.all_eq_true.mp h _ hz
  cases ho : os[i]'(by omega) with
  | some k =>
    rw [ho] at this
    exact List.mem_of_getElem? (of_decide_eq_true this)
  | none =>
    rw [ho] at this
    simp [hp1, hp2] at this
set_option maxRecDepth 100000 in
theorem in_W0_0 : ∀ w ∈ W0_0, w ∈ lw_tbl := memP [130, 131, 104, 1386, 1387, 114, 1912, 1913, 132, 133, 134, 135, 136, 137, 138, 139, 105, 387, 388, 389, 182, 183, 107, 390, 201, 202, 108, 391, 392, 217, 218, 109] (by decide +kernel)
set_option maxRecDepth 100000 in
theorem in_W0_1 : ∀ w ∈ W0_1, w ∈ lw_tbl := memP [393, 233, 234, 110, 394, 260, 261, 111, 395, 300, 301, 112, 396, 334, 335, 113, 397, 398, 140, 141, 142, 143, 144, 145, 106, 161, 166, 170, 146, 147, 148, 149] (by decide +kernel)
set_option maxRecDepth 100000 in
theorem in_W0_2 : ∀ w ∈ W0_2, w ∈ lw_tbl := memP [150, 160, 151, 152, 184, 185, 186, 187, 188, 191, 192, 193, 190, 203, 204, 205, 206, 207, 208, 209, 219, 220, 221, 222, 223, 224, 225, 235, 236, 237, 238, 239] (by decide +kernel)
set_option maxRecDepth 100000 in
theorem in_W0_3 : ∀ w ∈ W0_3, w ∈ lw_tbl := memP [241, 242, 243, 244, 245, 246, 240, 262, 263, 264, 265, 266, 267, 268, 269, 270, 271, 302, 303, 304, 305, 306, 307, 308, 309, 310, 311, 312, 313, 314, 336, 337] (by decide +kernel)
set_option maxRecDepth 100000 in
theorem in_W0_4 : ∀ w ∈ W0_4, w ∈ lw_tbl := memP [338, 339, 386, 340, 341, 342, 343, 1388, 1389, 1390, 1391, 1393, 1394, 1395, 1396, 1399, 1401, 1402, 1403, 1404, 1407, 1408, 1410, 1411, 1537, 1413, 1423, 1424, 1425, 1426, 1429, 1439] (by decide +kernel)
set_option maxRecDepth 100000 in
theorem in_W0_5 : ∀ w ∈ W0_5, w ∈ lw_tbl := memP [744, 745, 103, 746, 747, 748, 749, 750, 751, 752, 754, 118, 827, 119, 753, 652, 653, 654, 655, 656, 826, 475, 476, 477, 428, 429, 430, 431, 450, 445, 120, 446] (by decide +kernel)
set_option maxRecDepth 100000 in
theorem in_W0_6 : ∀ w ∈ W0_6, w ∈ lw_tbl := memP [432, 434, 0, 435, 436, 437, 438, 439, 440, 441, 442, 443, 444, 447, 449, 448, 121, 843, 663, 664, 665, 557, 558, 559, 560, 561, 562, 563, 564, 565, 571, 572] (by decide +kernel)
set_option maxRecDepth 100000 in
theorem in_W0_7 : ∀ w ∈ W0_7, w ∈ lw_tbl := memP [573, 574, 1542, 1543, 1544, 1545, 1392, 1546, 1547, 1548, 1549, 1550, 1551, 1552, 1554, 43, 1555, 1556, 1558, 44, 1559, 1560, 1562, 45, 1563, 1564, 1566, 46, 1567, 1397, 1568, 1570] (by decide +kernel)
set_option maxRecDepth 100000 in
theorem in_W0_8 : ∀ w ∈ W0_8, w ∈ lw_tbl := memP [47, 1571, 1538, 1539, 1540, 1541, 844, 845, 846, 847, 848, 849, 850, 851, 671, 122, 672, 674, 675, 676, 677, 678, 679, 680, 681, 682, 683, 684, 685, 854, 687, 688] (by decide +kernel)
set_option maxRecDepth 100000 in
theorem in_W0_9 : ∀ w ∈ W0_9, w ∈ lw_tbl := memP [689, 690, 691, 692, 693, 512, 513, 1572, 1573, 1574, 1575, 1576, 1577, 1578, 1579, 1580, 1581, 1582, 1583, 1584, 1585, 1586, 1587, 1588, 1589, 1590, 1591, 1592, 1593, 1594, 1596, 48] (by decide +kernel)
set_option maxRecDepth 100000 in
theorem in_W0_10 : ∀ w ∈ W0_10, w ∈ lw_tbl := memP [1597, 855, 856, 857, 858, 882, 883, 884, 885, 886, 912, 126, 887, 889, 20, 890, 896, 123, 891, 893, 21, 894, 895, 699, 700, 701, 909, 703, 704, 705, 570, 488] (by decide +kernel)
set_option maxRecDepth 100000 in
theorem in_W0_11 : ∀ w ∈ W0_11, w ∈ lw_tbl := memP [489, 490, 459, 460, 461, 462, 706, 484, 485, 486, 911, 528, 529, 530, 928, 929, 930, 931, 932, 933, 934, 1598, 1599, 1600, 1601, 1602, 1604, 49, 1605, 1606, 1608, 50] (by decide +kernel)
set_option maxRecDepth 100000 in
theorem in_W0_12 : ∀ w ∈ W0_12, w ∈ lw_tbl := memP [1609, 1610, 1612, 51, 1613, 1614, 1616, 52, 1617, 1618, 1620, 53, 1621, 1622, 1624, 54, 1625, 1626, 1627, 1628, 1629, 1631, 55, 1632, 1633, 1635, 56, 1636, 1637, 1639, 57, 1640] (by decide +kernel)
set_option maxRecDepth 100000 in
theorem in_W0_13 : ∀ w ∈ W0_13, w ∈ lw_tbl := memP [1641, 1643, 58, 1644, 935, 936, 937, 938, 939, 940, 941, 942, 943, 944, 945, 946, 947, 948, 949, 950, 951, 952, 953, 954, 955, 956, 542, 543, 544, 545, 957, 958] (by decide +kernel)
set_option maxRecDepth 100000 in
theorem in_W0_14 : ∀ w ∈ W0_14, w ∈ lw_tbl := memP [959, 960, 961, 962, 963, 964, 966, 22, 967, 968, 969, 970, 714, 715, 972, 974, 23, 975, 976, 978, 24, 979, 980, 982, 25, 983, 985, 986, 1645, 1646, 1647, 1648] (by decide +kernel)
set_option maxRecDepth 100000 in
theorem in_W0_15 : ∀ w ∈ W0_15, w ∈ lw_tbl := memP [1409, 1649, 1651, 59, 1652, 1653, 1655, 60, 1656, 1657, 1659, 61, 1660, 1661, 1663, 62, 1664, 1665, 1667, 63, 1668, 1669, 1670, 1671, 988, 989, 990, 991, 992, 993, 994, 1672] (by decide +kernel)
set_option maxRecDepth 100000 in
theorem in_W0_16 : ∀ w ∈ W0_16, w ∈ lw_tbl := memP [1673, 1674, 1675, 995, 996, 997, 998, 999, 1000, 1001, 1002, 1004, 26, 1005, 455, 456, 457, 458, 463, 464, 127, 465, 466, 467, 468, 1007, 1008, 1009, 1010, 1011, 1013, 27] (by decide +kernel)
set_option maxRecDepth 100000 in
theorem in_W0_17 : ∀ w ∈ W0_17, w ∈ lw_tbl := memP [1014, 566, 500, 501, 502, 567, 504, 505, 506, 1676, 1677, 1678, 1679, 1680, 1682, 64, 1683, 1684, 1685, 1686, 1687, 1689, 65, 1690, 1691, 1693, 66, 1694, 1695, 1697, 67, 1698] (by decide +kernel)
set_option maxRecDepth 100000 in
theorem in_W0_18 : ∀ w ∈ W0_18, w ∈ lw_tbl := memP [1015, 1016, 1017, 1018, 1019, 1020, 1021, 1022, 1023, 1024, 1026, 1699, 1700, 1701, 1702, 1027, 1028, 1029, 1030, 1031, 1032, 1033, 1034, 1036, 28, 1037, 1038, 492, 493, 494, 1039, 1041] (by decide +kernel)
set_option maxRecDepth 100000 in
theorem in_W0_19 : ∀ w ∈ W0_19, w ∈ lw_tbl := memP [29, 1042, 579, 580, 581, 582, 709, 710, 711, 712, 1043, 496, 497, 498, 499, 503, 507, 508, 509, 510, 511, 514, 516, 2, 517, 518, 519, 520, 521, 522, 523, 525] (by decide +kernel)
set_option maxRecDepth 100000 in
theorem in_W0_20 : ∀ w ∈ W0_20, w ∈ lw_tbl := memP [3, 526, 527, 1044, 1045, 1046, 1047, 1048, 1049, 1050, 1051, 1052, 1053, 1054, 1055, 1057, 554, 555, 556, 568, 569, 1703, 1704, 1705, 1706, 1412, 1405, 1707, 1709, 68, 1710, 1711] (by decide +kernel)
set_option maxRecDepth 100000 in
theorem in_W0_21 : ∀ w ∈ W0_21, w ∈ lw_tbl := memP [1713, 69, 1714, 1715, 1717, 70, 1718, 1719, 1721, 71, 1722, 1723, 1725, 72, 1726, 1058, 1059, 1060, 1061, 1062, 1063, 1064, 1065, 1067, 30, 1068, 1070, 1071, 1072, 1073, 1074, 1075] (by decide +kernel)
set_option maxRecDepth 100000 in
theorem in_W0_22 : ∀ w ∈ W0_22, w ∈ lw_tbl := memP [1076, 1077, 1078, 1079, 1082, 452, 453, 454, 451, 1727, 1728, 1729, 1730, 1731, 1733, 73, 1734, 1083, 1084, 1085, 1086, 1087, 1088, 1089, 1090, 1091, 1092, 1093, 1094, 1095, 1096, 1097] (by decide +kernel)
set_option maxRecDepth 100000 in
theorem in_W0_23 : ∀ w ∈ W0_23, w ∈ lw_tbl := memP [1098, 1099, 1100, 1101, 1102, 1103, 1104, 1105, 1106, 1107, 1108, 1109, 1110, 1111, 1112, 1113, 1114, 1115, 1116, 1117, 1118, 539, 540, 541, 546, 547, 548, 1735, 1736, 1737, 1738, 1739] (by decide +kernel)
set_option maxRecDepth 100000 in
theorem in_W0_24 : ∀ w ∈ W0_24, w ∈ lw_tbl := memP [1741, 74, 1742, 1743, 1745, 75, 1746, 1747, 1749, 76, 1750, 1751, 1753, 77, 1754, 1755, 1757, 78, 1758, 1119, 1120, 1121, 1122, 1123, 1124, 1125, 1126, 1127, 1128, 1129, 1134, 128] (by decide +kernel)
set_option maxRecDepth 100000 in
theorem in_W0_25 : ∀ w ∈ W0_25, w ∈ lw_tbl := memP [1130, 1131, 1132, 1133, 1150, 1151, 1152, 1153, 1155, 1156, 1157, 1158, 1759, 1760, 1761, 1762, 1159, 1160, 1161, 1162, 1163, 1164, 1165, 469, 470, 471, 472, 473, 474, 478, 479, 481] (by decide +kernel)
set_option maxRecDepth 100000 in
theorem in_W0_26 : ∀ w ∈ W0_26, w ∈ lw_tbl := memP [1, 482, 483, 487, 491, 495, 531, 532, 533, 534, 535, 536, 537, 538, 549, 550, 551, 552, 553, 1763, 1764, 1765, 1766, 1417, 1414, 1415, 1416, 1767, 1769, 79, 1770, 1771] (by decide +kernel)
set_option maxRecDepth 100000 in
theorem in_W0_27 : ∀ w ∈ W0_27, w ∈ lw_tbl := memP [1773, 80, 1774, 424, 425, 426, 427, 1775, 1776, 1777, 1778, 1779, 1781, 81, 1782, 1166, 1167, 1168, 1169, 1170, 1171, 1172, 1173, 1175, 31, 1176, 1178, 1179, 1180, 1181, 272, 273] (by decide +kernel)
set_option maxRecDepth 100000 in
theorem in_W0_28 : ∀ w ∈ W0_28, w ∈ lw_tbl := memP [274, 275, 276, 1182, 1184, 32, 1185, 1186, 1187, 1188, 1189, 1190, 1191, 1192, 1193, 1194, 1195, 1196, 1197, 1198, 1199, 1200, 1201, 1202, 1203, 1204, 1205, 1206, 1207, 1208, 1209, 1210] (by decide +kernel)
set_option maxRecDepth 100000 in
theorem in_W0_29 : ∀ w ∈ W0_29, w ∈ lw_tbl := memP [1212, 33, 1213, 1214, 1216, 34, 1217, 1783, 1784, 1785, 1786, 1422, 1419, 1418, 1421, 1420, 1787, 1789, 82, 1790, 1791, 1793, 83, 1794, 1795, 1797, 84, 1798, 1799, 1801, 85, 1802] (by decide +kernel)
set_option maxRecDepth 100000 in
theorem in_W0_30 : ∀ w ∈ W0_30, w ∈ lw_tbl := memP [1218, 1219, 1220, 1221, 1222, 1223, 1224, 1225, 1226, 1227, 1228, 1229, 1230, 1231, 1232, 1233, 1803, 1804, 1805, 1806, 1234, 1235, 1236, 1237, 1238, 1239, 1240, 1244, 1245, 1246, 1247, 1248] (by decide +kernel)
set_option maxRecDepth 100000 in
theorem in_W0_31 : ∀ w ∈ W0_31, w ∈ lw_tbl := memP [1250, 35, 1251, 1252, 1253, 1254, 1255, 1257, 1259, 36, 1260, 1262, 1263, 1264, 1266, 37, 1267, 1268, 1270, 38, 1271, 1272, 1273, 1275, 39, 1276, 1277, 1279, 40, 1280, 1281, 1282] (by decide +kernel)
set_option maxRecDepth 100000 in
theorem in_W0_32 : ∀ w ∈ W0_32, w ∈ lw_tbl := memP [1283, 1284, 1285, 1286, 1287, 1288, 1289, 1290, 1291, 1807, 1808, 1809, 1810, 1427, 1428, 1811, 1813, 86, 1814, 1815, 1817, 87, 1818, 1819, 1821, 88, 1822, 1823, 1825, 89, 1826, 1827] (by decide +kernel)
set_option maxRecDepth 100000 in
theorem in_W0_33 : ∀ w ∈ W0_33, w ∈ lw_tbl := memP [1829, 90, 1830, 1831, 1292, 1293, 1294, 1295, 1309, 1310, 1311, 1312, 1313, 129, 1832, 1833, 1834, 1835, 1316, 1317, 1318, 1319, 1320, 1321, 1322, 1323, 1325, 41, 1326, 1327, 1329, 42] (by decide +kernel)
set_option maxRecDepth 100000 in
theorem in_W0_34 : ∀ w ∈ W0_34, w ∈ lw_tbl := memP [1330, 1331, 1332, 1333, 1334, 1335, 1336, 1337, 1338, 1836, 1837, 1838, 1839, 1400, 1339, 1340, 1341, 1342, 1343, 1344, 1345, 1346, 1347, 1348, 1349, 1351, 1352, 1353, 1354, 1840, 1841, 1842] (by decide +kernel)
set_option maxRecDepth 100000 in
theorem in_W0_35 : ∀ w ∈ W0_35, w ∈ lw_tbl := memP [1843, 575, 576, 577, 578, 583, 584, 585, 586, 587, 588, 589, 590, 591, 592, 593, 594, 344, 595, 597, 4, 598, 599, 600, 601, 602, 603, 605, 5, 606, 345, 346] (by decide +kernel)
set_option maxRecDepth 100000 in
theorem in_W0_36 : ∀ w ∈ W0_36, w ∈ lw_tbl := memP [347, 348, 607, 609, 6, 610, 611, 613, 7, 614, 615, 617, 8, 618, 619, 621, 9, 622, 349, 350, 351, 352, 623, 625, 10, 626, 627, 629, 11, 630, 631, 633] (by decide +kernel)
set_option maxRecDepth 100000 in
theorem in_W0_37 : ∀ w ∈ W0_37, w ∈ lw_tbl := memP [12, 634, 635, 637, 13, 638, 639, 640, 641, 642, 643, 644, 645, 646, 647, 649, 14, 650, 657, 659, 15, 660, 353, 354, 661, 662, 666, 668, 16, 669, 670, 686] (by decide +kernel)
set_option maxRecDepth 100000 in
theorem in_W0_38 : ∀ w ∈ W0_38, w ∈ lw_tbl := memP [694, 696, 17, 697, 698, 702, 707, 708, 716, 717, 718, 719, 720, 721, 722, 723, 724, 726, 18, 727, 728, 729, 730, 731, 732, 733, 734, 735, 736, 737, 738, 739] (by decide +kernel)
set_option maxRecDepth 100000 in
theorem in_W0_39 : ∀ w ∈ W0_39, w ∈ lw_tbl := memP [1844, 1845, 1846, 1847, 1406, 1430, 1432, 1431, 1848, 1850, 91, 1851, 1852, 1854, 92, 1855, 1433, 1434, 1435, 1436, 1437, 1438, 1856, 1858, 93, 1859, 1860, 1862, 94, 1863, 1864, 1866] (by decide +kernel)
set_option maxRecDepth 100000 in
theorem in_W0_40 : ∀ w ∈ W0_40, w ∈ lw_tbl := memP [95, 1867, 1868, 1870, 96, 1871, 1872, 1874, 97, 1875, 1876, 1878, 98, 1879, 1880, 1882, 99, 1883, 1884, 1886, 100, 1887, 1888, 1890, 101, 1891, 1892, 1894, 102, 1895, 1355, 1356] (by decide +kernel)
set_option maxRecDepth 100000 in
theorem in_W0_41 : ∀ w ∈ W0_41, w ∈ lw_tbl := memP [1357, 1358, 1359, 1360, 1361, 1896, 1897, 1898, 1899, 1362, 1363, 1364, 1365, 1366, 1367, 1368, 1370, 1371, 1372, 1373, 1900, 1901, 1902, 1903, 740, 741, 742, 743, 1904, 1905, 1906, 1907] (by decide +kernel)
set_option maxRecDepth 100000 in
theorem in_W0_42 : ∀ w ∈ W0_42, w ∈ lw_tbl := memP [1398, 1374, 1375, 1376, 1377, 1378, 1379, 1380, 1382, 1383, 1384, 1385, 1908, 1909, 1910, 1911] (by decide +kernel)
set_option maxRecDepth 100000 in
theorem in_wsX00 : ∀ w ∈ wsX00, w ∈ lw_tbl := memP [210, 212, 214] (by decide +kernel)
set_option maxRecDepth 100000 in
theorem in_wsX10 : ∀ w ∈ wsX10, w ∈ lw_tbl := memP [226, 228, 230] (by decide +kernel)
set_option maxRecDepth 100000 in
theorem in_wsX20 : ∀ w ∈ wsX20, w ∈ lw_tbl := memP [194, 196, 198] (by decide +kernel)
set_option maxRecDepth 100000 in
theorem in_wsX40 : ∀ w ∈ wsX40, w ∈ lw_tbl := memP [277, 279, 281, 283, 285, 287, 289, 291, 293, 295, 297] (by decide +kernel)
set_option maxRecDepth 100000 in
theorem in_wsX50 : ∀ w ∈ wsX50, w ∈ lw_tbl := memP [315, 317, 319, 321, 323, 325, 327, 329, 331] (by decide +kernel)
set_option maxRecDepth 100000 in
theorem in_wsX60 : ∀ w ∈ wsX60, w ∈ lw_tbl := memP [355, 357, 359, 361, 363, 365, 367, 369, 371, 373, 375, 377, 379, 381, 383] (by decide +kernel)
set_option maxRecDepth 100000 in
theorem in_wsX70 : ∀ w ∈ wsX70, w ∈ lw_tbl := memP [247, 249, 251, 253, 255, 257] (by decide +kernel)
set_option maxRecDepth 100000 in
theorem in_wsX80 : ∀ w ∈ wsX80, w ∈ lw_tbl := memP [175, 177, 179] (by decide +kernel)
set_option maxRecDepth 100000 in
theorem in_wsX90 : ∀ w ∈ wsX90, w ∈ lw_tbl := memP [153, 155, 157] (by decide +kernel)
set_option maxRecDepth 100000 in
theorem in_wsX100 : ∀ w ∈ wsX100, w ∈ lw_tbl := memP [399, 401, 403, 405, 407, 409, 411, 413, 415, 417, 419, 421] (by decide +kernel)
set_option maxRecDepth 100000 in
theorem in_wsX110 : ∀ w ∈ wsX110, w ∈ lw_tbl := memP [1440, 1442, 1444, 1446, 1448, 1450, 1452, 1454, 1456, 1458, 1460, 1462, 1464, 1466, 1468, 1470, 1472, 1474, 1476, 1478, 1480, 1482, 1484, 1486, 1488, 1490, 1492, 1494, 1496, 1498, 1500, 1502, 1504, 1506, 1508, 1510, 1512, 1514, 1516, 1518, 1520, 1522, 1524, 1526, 1528, 1530, 1532, 1534] (by decide +kernel)
set_option maxRecDepth 100000 in
theorem in_W0x_0 : ∀ w ∈ W0x_0, w ∈ lw_tbl := memQ (L := vq_all RX10 90 "java/lang/IllegalArgumentException" "java/lang/RuntimeException" ["java/lang/Exception"]) [some 115, some 776, some 785, some 793, some 796, some 798, some 777, some 778, some 136, some 137, some 779, some 784, some 794, some 814, some 766, some 815, some 768, some 816, some 770, some 780, some 781, some 782, some 783, some 772, some 810, some 811, some 813, some 772, some 801, some 802, some 803, some 804, some 758, some 804, some 805, some 806, some 807, some 760, some 807, some 808, some 809, some 810, some 762, some 800, some 755, some 756, some 763, some 764, some 765, some 767, some 769, some 771, none, none, some 775, some 774, some 773] (by decide +kernel) (by decide +kernel)
set_option maxRecDepth 100000 in
theorem in_W0x_1 : ∀ w ∈ W0x_1, w ∈ lw_tbl := memQ (L := vq_all RX10 107 "java/lang/IllegalStateException" "java/lang/RuntimeException" ["java/lang/Exception"]) [some 115, some 776, some 785, some 793, some 796, some 798, some 777, some 778, some 136, some 137, some 779, some 784, some 794, some 814, some 766, some 815, some 768, some 816, some 770, some 780, some 781, some 782, some 783, some 772, some 810, some 811, some 813, some 772, some 838, some 839, some 840, some 804, some 758, some 804, some 805, some 806, some 807, some 760, some 807, some 808, some 809, some 810, some 762, some 837, some 828, some 829, some 830, some 789, some 831, some 832, some 833, some 834, none, none, some 775, some 774, some 835] (by decide +kernel) (by decide +kernel)
set_option maxRecDepth 100000 in
theorem in_W0x_2 : ∀ w ∈ W0x_2, w ∈ lw_tbl := memQ (L := vq_all RX10 144 "java/lang/UnsupportedOperationException" "java/lang/RuntimeException" ["java/lang/Exception"]) [some 115, some 776, some 785, some 793, some 796, some 798, some 777, some 778, some 136, some 137, some 779, some 784, some 794, some 814, some 766, some 815, some 768, some 816, some 770, some 780, some 781, some 782, some 783, some 772, some 810, some 811, some 813, some 772, some 923, some 924, some 925, some 804, some 758, some 804, some 805, some 806, some 807, some 760, some 807, some 808, some 809, some 810, some 762, some 922, some 913, some 914, some 915, some 791, some 916, some 917, some 918, some 919, none, none, some 775, some 774, some 920] (by decide +kernel) (by decide +kernel)
set_option maxRecDepth 100000 in
theorem in_W0x_3 : ∀ w ∈ W0x_3, w ∈ lw_tbl := memQ (L := vq_all RX10 340 "java/lang/IndexOutOfBoundsException" "java/lang/RuntimeException" ["java/lang/Exception"]) [some 115, some 776, some 785, some 793, some 796, some 798, some 777, some 778, some 136, some 137, some 779, some 784, some 794, some 814, some 766, some 815, some 768, some 816, some 770, some 780, some 781, some 782, some 783, some 772, some 810, some 811, some 813, some 772, some 863, some 864, some 865, some 804, some 758, some 804, some 805, some 806, some 807, some 760, some 807, some 808, some 809, some 810, some 762, some 906, some 897, some 898, some 899, some 790, some 900, some 901, some 902, some 903, none, none, some 775, some 774, some 904] (by decide +kernel) (by decide +kernel)
set_option maxRecDepth 100000 in
theorem in_W0x_4 : ∀ w ∈ W0x_4, w ∈ lw_tbl := memQ (L := vq_all RX10 232 "java/util/NoSuchElementException" "java/lang/RuntimeException" ["java/lang/Exception"]) [some 115, some 776, some 785, some 793, some 796, some 798, some 777, some 778, some 136, some 137, some 779, some 784, some 794, some 814, some 766, some 815, some 768, some 816, some 770, some 780, some 781, some 782, some 783, some 772, some 810, some 811, some 813, some 772, some 1145, some 1146, some 1147, some 804, some 758, some 804, some 805, some 806, some 807, some 760, some 807, some 808, some 809, some 810, some 762, some 1144, some 1135, some 1136, some 1137, some 792, some 1138, some 1139, some 1140, some 1141, none, none, some 775, some 774, some 1142] (by decide +kernel) (by decide +kernel)
set_option maxRecDepth 100000 in
theorem in_W0x_5 : ∀ w ∈ W0x_5, w ∈ lw_tbl := memQ (L := vq_all RX10 284 "java/lang/ArithmeticException" "java/lang/RuntimeException" ["java/lang/Exception"]) [some 115, some 776, some 785, some 793, some 796, some 798, some 777, some 778, some 136, some 137, some 779, some 784, some 794, some 814, some 766, some 815, some 768, some 816, some 770, some 780, some 781, some 782, some 783, some 772, some 810, some 811, some 813, some 772, some 1297, some 1298, some 1299, some 804, some 758, some 804, some 805, some 806, some 807, some 760, some 807, some 808, some 809, some 810, some 762, some 1315, some 1296, some 1307, some 1308, some 787, some 1302, some 1303, some 1305, some 1301, none, none, some 775, some 774, some 1300] (by decide +kernel) (by decide +kernel)
theorem W0s_in : ∀ c ∈ W0s, ∀ w ∈ c, w ∈ lw_tbl := by
  intro c hc
  simp only [W0s, List.mem_cons, List.not_mem_nil, or_false] at hc
  rcases hc with rfl | rfl | rfl | rfl | rfl | rfl | rfl | rfl | rfl | rfl | rfl | rfl | rfl | rfl | rfl | rfl | rfl | rfl | rfl | rfl | rfl | rfl | rfl | rfl | rfl | rfl | rfl | rfl | rfl | rfl | rfl | rfl | rfl | rfl | rfl | rfl | rfl | rfl | rfl | rfl | rfl | rfl | rfl | rfl | rfl | rfl | rfl | rfl | rfl | rfl | rfl | rfl | rfl | rfl | rfl | rfl | rfl | rfl | rfl | rfl
  · exact in_W0_0
  · exact in_W0_1
  · exact in_W0_2
  · exact in_W0_3
  · exact in_W0_4
  · exact in_W0_5
  · exact in_W0_6
  · exact in_W0_7
  · exact in_W0_8
  · exact in_W0_9
  · exact in_W0_10
  · exact in_W0_11
  · exact in_W0_12
  · exact in_W0_13
  · exact in_W0_14
  · exact in_W0_15
  · exact in_W0_16
  · exact in_W0_17
  · exact in_W0_18
  · exact in_W0_19
  · exact in_W0_20
  · exact in_W0_21
  · exact in_W0_22
  · exact in_W0_23
  · exact in_W0_24
  · exact in_W0_25
  · exact in_W0_26
  · exact in_W0_27
  · exact in_W0_28
  · exact in_W0_29
  · exact in_W0_30
  · exact in_W0_31
  · exact in_W0_32
  · exact in_W0_33
  · exact in_W0_34
  · exact in_W0_35
  · exact in_W0_36
  · exact in_W0_37
  · exact in_W0_38
  · exact in_W0_39
  · exact in_W0_40
  · exact in_W0_41
  · exact in_W0_42
  · exact in_wsX00
  · exact in_wsX10
  · exact in_wsX20
  · exact in_wsX40
  · exact in_wsX50
  · exact in_wsX60
  · exact in_wsX70
  · exact in_wsX80
  · exact in_wsX90
  · exact in_wsX100
  · exact in_wsX110
  · exact in_W0x_0
  · exact in_W0x_1
  · exact in_W0x_2
  · exact in_W0x_3
  · exact in_W0x_4
  · exact in_W0x_5
