set_option maxRecDepth 20000 in
theorem wlt_1 : GoodIn lw_tbl wsL_law0_r1 := goodIn_r _ [149, 150, 124, 1426, 1427, 137, 2138, 2137, 151, 152, 153, 154, 155, 156, 157, 158, 125, 545, 179, 180, 126, 546, 547, 265] (by decide +kernel) (by decide +kernel)
set_option maxRecDepth 20000 in
theorem wlt_2 : GoodIn lw_tbl wsL_law0_r2 := goodIn_r _ [266, 128, 548, 283, 284, 129, 549, 312, 313, 130, 550, 339, 340, 131, 551, 552, 389, 390, 132, 553, 415, 416, 133, 554] (by decide +kernel) (by decide +kernel)
set_option maxRecDepth 20000 in
theorem wlt_3 : GoodIn lw_tbl wsL_law0_r3 := goodIn_r _ [447, 448, 134, 555, 475, 476, 135, 556, 515, 516, 136, 557, 178, 558, 559, 160, 161, 162, 163, 182, 183, 184, 215, 219] (by decide +kernel) (by decide +kernel)
set_option maxRecDepth 20000 in
theorem wlt_4 : GoodIn lw_tbl wsL_law0_r4 := goodIn_r _ [223, 227, 230, 233, 236, 186, 187, 188, 127, 189, 2156, 190, 191, 192, 193, 194, 2157, 267, 268, 269, 270, 272, 271, 286] (by decide +kernel) (by decide +kernel)
set_option maxRecDepth 20000 in
theorem wlt_5 : GoodIn lw_tbl wsL_law0_r5 := goodIn_r _ [287, 288, 289, 291, 292, 293, 297, 315, 316, 317, 318, 319, 320, 323, 342, 343, 344, 345, 350, 353, 356, 359, 391, 392] (by decide +kernel) (by decide +kernel)
set_option maxRecDepth 20000 in
theorem wlt_6 : GoodIn lw_tbl wsL_law0_r6 := goodIn_r _ [393, 394, 400, 401, 397, 398, 399, 396, 417, 418, 419, 420, 421, 424, 428, 429, 430, 449, 450, 451, 452, 453, 456, 457] (by decide +kernel) (by decide +kernel)
set_option maxRecDepth 20000 in
theorem wlt_7 : GoodIn lw_tbl wsL_law0_r7 := goodIn_r _ [460, 454, 455, 477, 478, 479, 480, 486, 487, 488, 514, 489, 481, 490, 482, 483, 484, 485, 517, 518, 519, 520, 521, 522] (by decide +kernel) (by decide +kernel)
set_option maxRecDepth 20000 in
theorem wlt_8 : GoodIn lw_tbl wsL_law0_r8 := goodIn_r _ [523, 1428, 1429, 1430, 1431, 1433, 1438, 1439, 1440, 1441, 1442, 1443, 1444, 1447, 1448, 1449, 1450, 1451, 1452, 1456, 1457, 1458, 1459, 1463] (by decide +kernel) (by decide +kernel)
set_option maxRecDepth 20000 in
theorem wlt_9 : GoodIn lw_tbl wsL_law0_r9 := goodIn_r _ [1464, 1466, 1467, 1468, 1469, 1470, 1471, 1473, 1476, 1477, 1481, 1482, 1483, 1484, 1485, 1487, 1488, 594, 595, 596, 597, 598, 599, 600] (by decide +kernel) (by decide +kernel)
set_option maxRecDepth 20000 in
theorem wlt_10 : GoodIn lw_tbl wsL_law0_r10 := goodIn_r _ [601, 602, 603, 604, 165, 1611, 1612, 1613, 1614, 1434, 1615, 1616, 1617, 605, 606, 607, 608, 1618, 1619, 1620, 1621, 609, 610, 611] (by decide +kernel) (by decide +kernel)
set_option maxRecDepth 20000 in
theorem wlt_11 : GoodIn lw_tbl wsL_law0_r11 := goodIn_r _ [612, 613, 615, 0, 616, 617, 618, 619, 620, 196, 621, 199, 201, 202, 208, 213, 623, 625, 1, 626, 713, 715, 627, 628] (by decide +kernel) (by decide +kernel)
set_option maxRecDepth 20000 in
theorem wlt_12 : GoodIn lw_tbl wsL_law0_r12 := goodIn_r _ [629, 630, 168, 632, 633, 634, 635, 636, 637, 638, 639, 640, 641, 642, 643, 644, 645, 646, 138, 647, 651, 652, 139, 653] (by decide +kernel) (by decide +kernel)
set_option maxRecDepth 20000 in
theorem wlt_13 : GoodIn lw_tbl wsL_law0_r13 := goodIn_r _ [654, 655, 656, 648, 649, 650, 657, 658, 659, 660, 661, 140, 662, 663, 664, 665, 666, 667, 668, 669, 670, 671, 672, 673] (by decide +kernel) (by decide +kernel)
set_option maxRecDepth 20000 in
theorem wlt_14 : GoodIn lw_tbl wsL_law0_r14 := goodIn_r _ [674, 675, 676, 677, 678, 680, 681, 141, 682, 683, 684, 685, 686, 687, 688, 689, 691, 693, 695, 696, 697, 698, 699, 142] (by decide +kernel) (by decide +kernel)
set_option maxRecDepth 20000 in
theorem wlt_15 : GoodIn lw_tbl wsL_law0_r15 := goodIn_r _ [700, 701, 702, 703, 704, 705, 706, 707, 708, 709, 711, 2, 712, 717, 719, 3, 720, 721, 722, 723, 724, 725, 726, 727] (by decide +kernel) (by decide +kernel)
set_option maxRecDepth 20000 in
theorem wlt_16 : GoodIn lw_tbl wsL_law0_r16 := goodIn_r _ [728, 729, 730, 731, 732, 733, 734, 735, 736, 737, 738, 739, 740, 741, 742, 743, 744, 746, 4, 747, 755, 757, 748, 749] (by decide +kernel) (by decide +kernel)
set_option maxRecDepth 20000 in
theorem wlt_17 : GoodIn lw_tbl wsL_law0_r17 := goodIn_r _ [750, 751, 752, 753, 754, 759, 761, 5, 762, 763, 765, 6, 766, 767, 768, 769, 770, 771, 772, 773, 774, 775, 776, 777] (by decide +kernel) (by decide +kernel)
set_option maxRecDepth 20000 in
theorem wlt_18 : GoodIn lw_tbl wsL_law0_r18 := goodIn_r _ [778, 779, 780, 781, 782, 783, 274, 784, 786, 7, 787, 788, 789, 790, 792, 8, 793, 794, 796, 9, 825, 827, 15, 828] (by decide +kernel) (by decide +kernel)
set_option maxRecDepth 20000 in
theorem wlt_19 : GoodIn lw_tbl wsL_law0_r19 := goodIn_r _ [829, 831, 16, 812, 814, 13, 815, 832, 797, 798, 800, 10, 801, 802, 804, 11, 809, 810, 811, 817, 805, 806, 808, 12] (by decide +kernel) (by decide +kernel)
set_option maxRecDepth 20000 in
theorem wlt_20 : GoodIn lw_tbl wsL_law0_r20 := goodIn_r _ [818, 820, 14, 821, 822, 823, 824, 833, 835, 17, 836, 837, 838, 839, 840, 324, 841, 842, 1622, 1623, 1624, 1625, 1626, 1628] (by decide +kernel) (by decide +kernel)
set_option maxRecDepth 20000 in
theorem wlt_21 : GoodIn lw_tbl wsL_law0_r21 := goodIn_r _ [45, 1629, 1435, 1436, 1453, 1454, 1455, 1630, 1631, 1632, 1633, 1635, 46, 1636, 1637, 1639, 47, 1640, 1641, 1643, 48, 1644, 1645, 1646] (by decide +kernel) (by decide +kernel)
set_option maxRecDepth 20000 in
theorem wlt_22 : GoodIn lw_tbl wsL_law0_r22 := goodIn_r _ [1647, 1648, 1649, 1650, 1651, 1652, 1653, 1654, 1655, 1656, 1657, 1659, 49, 1660, 1661, 1662, 1663, 1664, 1666, 50, 1667, 1668, 1669, 1670] (by decide +kernel) (by decide +kernel)
set_option maxRecDepth 20000 in
theorem wlt_23 : GoodIn lw_tbl wsL_law0_r23 := goodIn_r _ [1671, 1673, 51, 1674, 1675, 1677, 52, 1678, 1679, 1681, 53, 1682, 1446, 1437, 1683, 1685, 54, 1686, 1687, 1689, 55, 1690, 1691, 1693] (by decide +kernel) (by decide +kernel)
set_option maxRecDepth 20000 in
theorem wlt_24 : GoodIn lw_tbl wsL_law0_r24 := goodIn_r _ [56, 1733, 1735, 65, 1737, 1739, 66, 1736, 1699, 1701, 58, 1702, 1740, 1694, 1695, 1697, 57, 1698, 1703, 1705, 59, 1706, 1707, 1709] (by decide +kernel) (by decide +kernel)
set_option maxRecDepth 20000 in
theorem wlt_25 : GoodIn lw_tbl wsL_law0_r25 := goodIn_r _ [60, 1710, 1711, 1713, 61, 1718, 1719, 1721, 63, 1722, 1723, 1724, 1725, 1714, 1715, 1717, 62, 1726, 1728, 64, 1729, 1730, 1731, 1732] (by decide +kernel) (by decide +kernel)
set_option maxRecDepth 20000 in
theorem wlt_26 : GoodIn lw_tbl wsL_law0_r26 := goodIn_r _ [1741, 1743, 67, 1744, 1745, 1747, 68, 1748, 843, 844, 845, 846, 847, 849, 18, 850, 851, 852, 853, 854, 295, 855, 857, 856] (by decide +kernel) (by decide +kernel)
set_option maxRecDepth 20000 in
theorem wlt_27 : GoodIn lw_tbl wsL_law0_r27 := goodIn_r _ [143, 858, 859, 860, 861, 325, 862, 863, 865, 19, 866, 867, 868, 869, 870, 871, 872, 873, 874, 875, 364, 366, 370, 876] (by decide +kernel) (by decide +kernel)
set_option maxRecDepth 20000 in
theorem wlt_28 : GoodIn lw_tbl wsL_law0_r28 := goodIn_r _ [877, 878, 879, 880, 881, 882, 883, 425, 431, 1749, 1750, 1751, 1752, 1445, 1465, 1753, 1755, 69, 1756, 1460, 1461, 1462, 1486, 1474] (by decide +kernel) (by decide +kernel)
set_option maxRecDepth 20000 in
theorem wlt_29 : GoodIn lw_tbl wsL_law0_r29 := goodIn_r _ [1489, 1757, 1759, 70, 1760, 884, 885, 886, 887, 888, 889, 890, 891, 1761, 1762, 1763, 1764, 892, 893, 894, 895, 896, 897, 898] (by decide +kernel) (by decide +kernel)
set_option maxRecDepth 20000 in
theorem wlt_30 : GoodIn lw_tbl wsL_law0_r30 := goodIn_r _ [899, 900, 901, 902, 903, 941, 942, 904, 905, 906, 907, 908, 909, 144, 910, 911, 912, 913, 914, 916, 20, 917, 918, 919] (by decide +kernel) (by decide +kernel)
set_option maxRecDepth 20000 in
theorem wlt_31 : GoodIn lw_tbl wsL_law0_r31 := goodIn_r _ [920, 921, 294, 922, 923, 925, 21, 926, 927, 929, 22, 930, 931, 932, 933, 934, 935, 936, 937, 938, 939, 940, 1765, 1766] (by decide +kernel) (by decide +kernel)
set_option maxRecDepth 20000 in
theorem wlt_32 : GoodIn lw_tbl wsL_law0_r32 := goodIn_r _ [1767, 1768, 1769, 1771, 71, 1772, 1773, 1775, 72, 1776, 1804, 1805, 1777, 1779, 73, 1780, 1781, 1782, 1784, 74, 1785, 1786, 1788, 75] (by decide +kernel) (by decide +kernel)
set_option maxRecDepth 20000 in
theorem wlt_33 : GoodIn lw_tbl wsL_law0_r33 := goodIn_r _ [1789, 1790, 1791, 1792, 1793, 1794, 1795, 1796, 1797, 1798, 1799, 1800, 1801, 1802, 1803, 1806, 1808, 76, 1809, 1357, 1358, 123, 1359, 1360] (by decide +kernel) (by decide +kernel)
set_option maxRecDepth 20000 in
theorem wlt_34 : GoodIn lw_tbl wsL_law0_r34 := goodIn_r _ [1361, 1362, 1363, 1364, 1365, 148, 1030, 1031, 1032, 1033, 1810, 1811, 1812, 1813, 1432, 1814, 1816, 77, 1817, 1607, 1608, 1609, 1610, 943] (by decide +kernel) (by decide +kernel)
set_option maxRecDepth 20000 in
theorem wlt_35 : GoodIn lw_tbl wsL_law0_r35 := goodIn_r _ [944, 945, 946, 947, 1818, 1819, 1820, 1821, 1822, 1824, 78, 1825, 948, 949, 950, 951, 1826, 1827, 1828, 1829, 952, 953, 954, 955] (by decide +kernel) (by decide +kernel)
set_option maxRecDepth 20000 in
theorem wlt_36 : GoodIn lw_tbl wsL_law0_r36 := goodIn_r _ [956, 957, 958, 959, 960, 961, 962, 963, 964, 1830, 1831, 1832, 1833, 1834, 1836, 79, 1837, 965, 966, 967, 968, 969, 971, 23] (by decide +kernel) (by decide +kernel)
set_option maxRecDepth 20000 in
theorem wlt_37 : GoodIn lw_tbl wsL_law0_r37 := goodIn_r _ [972, 973, 974, 975, 976, 427, 982, 977, 978, 979, 980, 981, 983, 985, 24, 986, 987, 988, 989, 990, 991, 992, 994, 25] (by decide +kernel) (by decide +kernel)
set_option maxRecDepth 20000 in
theorem wlt_38 : GoodIn lw_tbl wsL_law0_r38 := goodIn_r _ [995, 996, 997, 998, 999, 1000, 1001, 1002, 1003, 1004, 1005, 1006, 1008, 26, 1009, 1010, 1011, 1012, 1013, 1014, 1015, 1016, 1017, 1018] (by decide +kernel) (by decide +kernel)
set_option maxRecDepth 20000 in
theorem wlt_39 : GoodIn lw_tbl wsL_law0_r39 := goodIn_r _ [1019, 1020, 1021, 1022, 1023, 1024, 139, 1025, 1838, 1839, 1840, 1841, 1842, 1844, 80, 1845, 1846, 1848, 81, 1849, 1850, 1852, 82, 1853] (by decide +kernel) (by decide +kernel)
set_option maxRecDepth 20000 in
theorem wlt_40 : GoodIn lw_tbl wsL_law0_r40 := goodIn_r _ [1854, 1856, 83, 1857, 1472, 1858, 1860, 84, 1861, 1862, 1864, 85, 1865, 1866, 1868, 86, 1869, 1870, 1872, 87, 1873, 1874, 1876, 88] (by decide +kernel) (by decide +kernel)
set_option maxRecDepth 20000 in
theorem wlt_41 : GoodIn lw_tbl wsL_law0_r41 := goodIn_r _ [1877, 1878, 1880, 89, 1881, 1882, 1884, 90, 1885, 1886, 1888, 91, 1889, 1890, 1892, 92, 1893, 1026, 1027, 1028, 1029, 1034, 1035, 1036] (by decide +kernel) (by decide +kernel)
set_option maxRecDepth 20000 in
theorem wlt_42 : GoodIn lw_tbl wsL_law0_r42 := goodIn_r _ [1037, 1894, 1895, 1896, 1897, 1898, 1900, 93, 1901, 1902, 1904, 94, 1905, 1038, 1039, 1040, 1041, 1042, 1906, 1907, 1908, 1909, 1043, 1044] (by decide +kernel) (by decide +kernel)
set_option maxRecDepth 20000 in
theorem wlt_43 : GoodIn lw_tbl wsL_law0_r43 := goodIn_r _ [1045, 1046, 1910, 1911, 1912, 1913, 1047, 1048, 1049, 1050, 1914, 1915, 1916, 1917, 1051, 1052, 1053, 1054, 1918, 1919, 1920, 1921, 1055, 1056] (by decide +kernel) (by decide +kernel)
set_option maxRecDepth 20000 in
theorem wlt_44 : GoodIn lw_tbl wsL_law0_r44 := goodIn_r _ [1057, 1058, 560, 1059, 1061, 27, 1062, 1063, 1065, 28, 1066, 1067, 1068, 1069, 1071, 29, 1072, 1922, 1923, 1924, 1925, 1475, 1926, 1928] (by decide +kernel) (by decide +kernel)
set_option maxRecDepth 20000 in
theorem wlt_45 : GoodIn lw_tbl wsL_law0_r45 := goodIn_r _ [95, 1929, 1930, 1932, 96, 1933, 1934, 1935, 1073, 1074, 1075, 1076, 1936, 1937, 1938, 1939, 1077, 1078, 1079, 1080, 1081, 1082, 1083, 1084] (by decide +kernel) (by decide +kernel)
set_option maxRecDepth 20000 in
theorem wlt_46 : GoodIn lw_tbl wsL_law0_r46 := goodIn_r _ [1940, 1941, 1942, 1943, 1085, 1086, 1087, 1088, 1089, 1090, 1091, 1092, 1093, 1094, 1095, 1944, 1945, 1946, 1947, 1096, 1097, 1098, 1099, 1100] (by decide +kernel) (by decide +kernel)
set_option maxRecDepth 20000 in
theorem wlt_47 : GoodIn lw_tbl wsL_law0_r47 := goodIn_r _ [1101, 1102, 1103, 1104, 461, 1111, 1105, 1106, 1107, 1108, 1109, 1110, 1112, 1114, 30, 1115, 1116, 1117, 1118, 1119, 1948, 1949, 1950, 1951] (by decide +kernel) (by decide +kernel)
set_option maxRecDepth 20000 in
theorem wlt_48 : GoodIn lw_tbl wsL_law0_r48 := goodIn_r _ [1956, 1952, 1954, 97, 1955, 1957, 1959, 98, 1960, 1120, 1121, 1122, 1123, 1124, 1125, 1126, 1127, 1128, 1130, 31, 1131, 1137, 1132, 1134] (by decide +kernel) (by decide +kernel)
set_option maxRecDepth 20000 in
theorem wlt_49 : GoodIn lw_tbl wsL_law0_r49 := goodIn_r _ [32, 1135, 1136, 1138, 1140, 33, 1141, 1961, 1962, 1963, 1964, 1478, 1965, 1966, 1968, 99, 1969, 1480, 1142, 1143, 1144, 1145, 1146, 1970] (by decide +kernel) (by decide +kernel)
set_option maxRecDepth 20000 in
theorem wlt_50 : GoodIn lw_tbl wsL_law0_r50 := goodIn_r _ [1971, 1972, 1973, 1974, 1976, 100, 1977, 1978, 1980, 101, 1981, 1147, 1148, 1149, 1150, 1982, 1983, 1984, 1985, 1151, 1152, 1153, 1154, 1155] (by decide +kernel) (by decide +kernel)
set_option maxRecDepth 20000 in
theorem wlt_51 : GoodIn lw_tbl wsL_law0_r51 := goodIn_r _ [1156, 1157, 1158, 1159, 1160, 1161, 1163, 34, 1164, 1165, 1166, 1167, 1168, 1986, 1987, 1988, 1989, 1990, 1992, 102, 1993, 1994, 1996, 103] (by decide +kernel) (by decide +kernel)
set_option maxRecDepth 20000 in
theorem wlt_52 : GoodIn lw_tbl wsL_law0_r52 := goodIn_r _ [1997, 1998, 2000, 104, 2001, 2002, 2004, 105, 2005, 1169, 1170, 1171, 1172, 1173, 1174, 1175, 1176, 2006, 2007, 2008, 2009, 1177, 1178, 1179] (by decide +kernel) (by decide +kernel)
set_option maxRecDepth 20000 in
theorem wlt_53 : GoodIn lw_tbl wsL_law0_r53 := goodIn_r _ [1180, 1181, 1182, 1183, 1184, 491, 2010, 2011, 2012, 2013, 1185, 1186, 1187, 1188, 1189, 1190, 1191, 1192, 1193, 1194, 1196, 35, 1197, 1198] (by decide +kernel) (by decide +kernel)
set_option maxRecDepth 20000 in
theorem wlt_54 : GoodIn lw_tbl wsL_law0_r54 := goodIn_r _ [1199, 1200, 1201, 1203, 36, 1204, 2014, 2015, 2016, 2017, 2018, 2020, 106, 2021, 2022, 2024, 107, 2025, 2026, 2028, 108, 2029, 1205, 1206] (by decide +kernel) (by decide +kernel)
set_option maxRecDepth 20000 in
theorem wlt_55 : GoodIn lw_tbl wsL_law0_r55 := goodIn_r _ [1207, 1208, 1209, 1210, 1211, 1212, 1213, 1215, 37, 1216, 1217, 2030, 2031, 2032, 2033, 2034, 2036, 109, 2037, 1218, 1219, 1220, 1221, 1222] (by decide +kernel) (by decide +kernel)
set_option maxRecDepth 20000 in
theorem wlt_56 : GoodIn lw_tbl wsL_law0_r56 := goodIn_r _ [1223, 1224, 1225, 1226, 1227, 1228, 1229, 524, 1230, 526, 528, 1231, 1233, 38, 1234, 1235, 2038, 2039, 2040, 2041, 1479, 2042, 2044, 110] (by decide +kernel) (by decide +kernel)
set_option maxRecDepth 20000 in
theorem wlt_57 : GoodIn lw_tbl wsL_law0_r57 := goodIn_r _ [2045, 2046, 2048, 111, 2049, 1236, 1237, 1238, 1239, 1240, 1241, 1242, 1243, 525, 1244, 1246, 39, 1247, 2050, 2051, 2052, 2053, 2054, 2056] (by decide +kernel) (by decide +kernel)
set_option maxRecDepth 20000 in
theorem wlt_58 : GoodIn lw_tbl wsL_law0_r58 := goodIn_r _ [112, 2057, 1248, 1249, 1250, 1251, 1257, 1252, 1253, 1254, 1255, 1256, 1258, 1259, 1260, 1261, 1262, 2058, 2059, 2060, 2061, 2066, 2062, 2064] (by decide +kernel) (by decide +kernel)
set_option maxRecDepth 20000 in
theorem wlt_59 : GoodIn lw_tbl wsL_law0_r59 := goodIn_r _ [113, 2065, 2067, 2069, 114, 2070, 1263, 1264, 1265, 1266, 1267, 1268, 1269, 1270, 1271, 1273, 40, 1274, 1275, 1277, 41, 1278, 1279, 1280] (by decide +kernel) (by decide +kernel)
set_option maxRecDepth 20000 in
theorem wlt_60 : GoodIn lw_tbl wsL_law0_r60 := goodIn_r _ [1281, 1282, 1283, 2071, 2072, 2073, 2074, 2075, 2077, 115, 2078, 1284, 1285, 1286, 1287, 1288, 1289, 1290, 1291, 1292, 1293, 1295, 42, 1296] (by decide +kernel) (by decide +kernel)
set_option maxRecDepth 20000 in
theorem wlt_61 : GoodIn lw_tbl wsL_law0_r61 := goodIn_r _ [1297, 2079, 2080, 2081, 2082, 2083, 2084, 2086, 116, 2087, 2088, 1298, 1299, 1300, 1301, 1302, 1303, 2089, 2090, 2091, 2092, 1304, 1305, 1306] (by decide +kernel) (by decide +kernel)
set_option maxRecDepth 20000 in
theorem wlt_62 : GoodIn lw_tbl wsL_law0_r62 := goodIn_r _ [1307, 2093, 2094, 2095, 2096, 1308, 1309, 1310, 1311, 1312, 1313, 1314, 1315, 1316, 1317, 1318, 1319, 1321, 43, 1322, 1323, 1324, 1325, 1326] (by decide +kernel) (by decide +kernel)
set_option maxRecDepth 20000 in
theorem wlt_63 : GoodIn lw_tbl wsL_law0_r63 := goodIn_r _ [1327, 1328, 1329, 1330, 1331, 1332, 1333, 1334, 1335, 2097, 2098, 2099, 2100, 2101, 2103, 117, 2104, 2105, 2107, 118, 2108, 2109, 2111, 119] (by decide +kernel) (by decide +kernel)
set_option maxRecDepth 20000 in
theorem wlt_64 : GoodIn lw_tbl wsL_law0_r64 := goodIn_r _ [2112, 2113, 2115, 120, 2116, 2117, 2119, 121, 2120, 2121, 2123, 122, 2124, 1336, 1337, 1338, 1339, 1340, 1341, 1342, 1343, 1344, 2125, 2126] (by decide +kernel) (by decide +kernel)
set_option maxRecDepth 20000 in
theorem wlt_65 : GoodIn lw_tbl wsL_law0_r65 := goodIn_r _ [2127, 2128, 1345, 1346, 1347, 1348, 1349, 1350, 1351, 1352, 2129, 2130, 2131, 2132, 1353, 1354, 1355, 1356, 2133, 2134, 2135, 2136] (by decide +kernel) (by decide +kernel)
theorem wlt_wsX110 : GoodIn lw_tbl wsX110 := goodIn_p _ [] (by decide +kernel) (by decide +kernel)
theorem wlt_wsX120 : GoodIn lw_tbl wsX120 := goodIn_p _ [] (by decide +kernel) (by decide +kernel)
theorem wlt_wsX90 : GoodIn lw_tbl wsX90 := goodIn_p _ [] (by decide +kernel) (by decide +kernel)
theorem wlt_wsX00 : GoodIn lw_tbl wsX00 := goodIn_p _ [] (by decide +kernel) (by decide +kernel)
theorem wlt_wsX30 : GoodIn lw_tbl wsX30 := goodIn_p _ [] (by decide +kernel) (by decide +kernel)
theorem wlt_wsX40 : GoodIn lw_tbl wsX40 := goodIn_p _ [] (by decide +kernel) (by decide +kernel)
theorem wlt_wsX100 : GoodIn lw_tbl wsX100 := goodIn_p _ [] (by decide +kernel) (by decide +kernel)
theorem wlt_wsX80 : GoodIn lw_tbl wsX80 := goodIn_p _ [] (by decide +kernel) (by decide +kernel)
theorem wlt_wsX10 : GoodIn lw_tbl wsX10 := goodIn_p _ [] (by decide +kernel) (by decide +kernel)
theorem wlt_wsX60 : GoodIn lw_tbl wsX60 := goodIn_p _ [] (by decide +kernel) (by decide +kernel)
theorem wlt_wsX50 : GoodIn lw_tbl wsX50 := goodIn_p _ [] (by decide +kernel) (by decide +kernel)
theorem wlt_wsX70 : GoodIn lw_tbl wsX70 := goodIn_p _ [] (by decide +kernel) (by decide +kernel)
theorem wlt_wsX20 : GoodIn lw_tbl wsX20 := goodIn_p _ [] (by decide +kernel) (by decide +kernel)
theorem wsL_law0_tbl : GoodIn lw_tbl wsL_law0 := goodIn_app (goodIn_app (goodIn_app (goodIn_app (goodIn_app (goodIn_app (goodIn_app (goodIn_app (goodIn_app (goodIn_app (goodIn_app (goodIn_app (goodIn_app (goodIn_app (goodIn_app wlt_1 (goodIn_app wlt_2 (goodIn_app wlt_3 (goodIn_app wlt_4 (goodIn_app wlt_5 (goodIn_app wlt_6 (goodIn_app wlt_7 (goodIn_app wlt_8 (goodIn_app wlt_9 (goodIn_app wlt_10 (goodIn_app wlt_11 (goodIn_app wlt_12 (goodIn_app wlt_13 (goodIn_app wlt_14 (goodIn_app wlt_15 (goodIn_app wlt_16 (goodIn_app wlt_17 (goodIn_app wlt_18 (goodIn_app wlt_19 (goodIn_app wlt_20 (goodIn_app wlt_21 (goodIn_app wlt_22 (goodIn_app wlt_23 (goodIn_app wlt_24 (goodIn_app wlt_25 (goodIn_app wlt_26 (goodIn_app wlt_27 (goodIn_app wlt_28 (goodIn_app wlt_29 (goodIn_app wlt_30 (goodIn_app wlt_31 (goodIn_app wlt_32 (goodIn_app wlt_33 (goodIn_app wlt_34 (goodIn_app wlt_35 (goodIn_app wlt_36 (goodIn_app wlt_37 (goodIn_app wlt_38 (goodIn_app wlt_39 (goodIn_app wlt_40 (goodIn_app wlt_41 (goodIn_app wlt_42 (goodIn_app wlt_43 (goodIn_app wlt_44 (goodIn_app wlt_45 (goodIn_app wlt_46 (goodIn_app wlt_47 (goodIn_app wlt_48 (goodIn_app wlt_49 (goodIn_app wlt_50 (goodIn_app wlt_51 (goodIn_app wlt_52 (goodIn_app wlt_53 (goodIn_app wlt_54 (goodIn_app wlt_55 (goodIn_app wlt_56 (goodIn_app wlt_57 (goodIn_app wlt_58 (goodIn_app wlt_59 (goodIn_app wlt_60 (goodIn_app wlt_61 (goodIn_app wlt_62 (goodIn_app wlt_63 (goodIn_app wlt_64 (wlt_65))))))))))))))))))))))))))))))))))))))))))))))))))))))))))))))))) wlt_wsX110) wlt_wsX120) wlt_wsX90) wlt_wsX00) wlt_wsX30) wlt_wsX40) wlt_wsX100) wlt_wsX80) wlt_wsX10) wlt_wsX60) wlt_wsX50) wlt_wsX70) wlt_wsX20) (fun _ h => absurd h List.not_mem_nil)
theorem wsL_law_x0 : ∀ w ∈ (vx_at0 RX11 214 "java/util/NoSuchElementException" ["java/lang/RuntimeException", "java/lang/Exception"]).filter goodWord, w ∈ lw_tbl := by decide +kernel
theorem wsL_law_in : ∀ w ∈ wsL_law, w ∈ lw_tbl := fun w h => (List.mem_append.mp h).elim (fun h => (wsL_law0_tbl w h).1) (fun h => wsL_law_x0 w h)
theorem inX0 : ∀ w ∈ wsX00, w ∈ lw_tbl := fun w h => wsL_law_in w (inlX0 w h)
theorem inX1 : ∀ w ∈ wsX10, w ∈ lw_tbl := fun w h => wsL_law_in w (inlX1 w h)
theorem inX2 : ∀ w ∈ wsX20, w ∈ lw_tbl := fun w h => wsL_law_in w (inlX2 w h)
theorem inX3 : ∀ w ∈ wsX30, w ∈ lw_tbl := fun w h => wsL_law_in w (inlX3 w h)
theorem inX4 : ∀ w ∈ wsX40, w ∈ lw_tbl := fun w h => wsL_law_in w (inlX4 w h)
theorem inX5 : ∀ w ∈ wsX50, w ∈ lw_tbl := fun w h => wsL_law_in w (inlX5 w h)
theorem inX6 : ∀ w ∈ wsX60, w ∈ lw_tbl := fun w h => wsL_law_in w (inlX6 w h)
theorem inX7 : ∀ w ∈ wsX70, w ∈ lw_tbl := fun w h => wsL_law_in w (inlX7 w h)
theorem inX8 : ∀ w ∈ wsX80, w ∈ lw_tbl := fun w h => wsL_law_in w (inlX8 w h)
theorem inX9 : ∀ w ∈ wsX90, w ∈ lw_tbl := fun w h => wsL_law_in w (inlX9 w h)
theorem inX10 : ∀ w ∈ wsX100, w ∈ lw_tbl := fun w h => wsL_law_in w (inlX10 w h)
theorem inX11 : ∀ w ∈ wsX110, w ∈ lw_tbl := fun w h => wsL_law_in w (inlX11 w h)
theorem inX12 : ∀ w ∈ wsX120, w ∈ lw_tbl := fun w h => wsL_law_in w (inlX12 w h)
theorem inJx145de : ∀ w ∈ wsJx145de0, w ∈ lw_tbl := by decide +kernel
theorem inJx9f9b0 : ∀ w ∈ wsJx9f9b00, w ∈ lw_tbl := by decide +kernel
theorem inJ11 : ∀ w ∈ wsJ110, w ∈ lw_tbl := by decide +kernel
theorem inJxb160c : ∀ w ∈ wsJxb160c0, w ∈ lw_tbl := by decide +kernel
theorem inJ6 : ∀ w ∈ wsJ60, w ∈ lw_tbl := by decide +kernel
theorem inJ9 : ∀ w ∈ wsJ90, w ∈ lw_tbl := by decide +kernel
theorem inJ0 : ∀ w ∈ wsJ00, w ∈ lw_tbl := by decide +kernel
theorem inJ1 : ∀ w ∈ wsJ10, w ∈ lw_tbl := by decide +kernel
theorem inJ2 : ∀ w ∈ wsJ20, w ∈ lw_tbl := by decide +kernel
theorem inJ10 : ∀ w ∈ wsJ100, w ∈ lw_tbl := by decide +kernel
theorem inJxfd54e : ∀ w ∈ wsJxfd54e0, w ∈ lw_tbl := by decide +kernel
theorem inJx3cf43 : ∀ w ∈ wsJx3cf430, w ∈ lw_tbl := by decide +kernel
theorem inJ3 : ∀ w ∈ wsJ30, w ∈ lw_tbl := by decide +kernel
