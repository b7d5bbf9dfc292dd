/-! The words of the law are the tables' -/
set_option maxRecDepth 100000 in
theorem zin_35 : ∀ w ∈ wsL_law0_r35, w ∈ lw_tbl := zin_q [901, 905, 909, 1802, 1806] [899, 900, 902, 904, 22, 911, 906, 908, 23, 910, 1799, 1800, 1801, 1803, 1805, 81, 1807, 1809, 82] rfl (by decide +kernel)
set_option maxRecDepth 100000 in
theorem zin_36 : ∀ w ∈ wsL_law0_r36, w ∈ lw_tbl := zin_q [1810, 1814, 1818, 1821, 1825, 1829, 915] [1811, 1813, 83, 1815, 1817, 84, 1819, 1820, 1822, 1824, 85, 1826, 1828, 86, 912, 913, 914] rfl (by decide +kernel)
set_option maxRecDepth 100000 in
theorem zin_37 : ∀ w ∈ wsL_law0_r37, w ∈ lw_tbl := zin_q [1833, 920, 923, 927, 931, 935] [916, 1830, 1831, 1832, 917, 918, 919, 921, 922, 924, 925, 926, 928, 930, 24, 932, 933, 934] rfl (by decide +kernel)
set_option maxRecDepth 100000 in
theorem zin_38 : ∀ w ∈ wsL_law0_r38, w ∈ lw_tbl := zin_q [939, 943, 948, 1837, 1841] [936, 937, 938, 940, 941, 942, 260, 944, 945, 947, 25, 1834, 1835, 1836, 1838, 1840, 87, 1842, 1844] rfl (by decide +kernel)
set_option maxRecDepth 100000 in
theorem zin_39 : ∀ w ∈ wsL_law0_r39, w ∈ lw_tbl := zin_q [1845, 1849, 952, 1853, 956, 959] [88, 1846, 1848, 89, 949, 950, 951, 1850, 1851, 1852, 953, 954, 955, 957, 958, 1854, 1855, 1856] rfl (by decide +kernel)
set_option maxRecDepth 100000 in
theorem zin_40 : ∀ w ∈ wsL_law0_r40, w ∈ lw_tbl := zin_q [1857, 963, 1861, 967, 971, 1865] [960, 961, 962, 1858, 1859, 1860, 964, 965, 966, 968, 969, 970, 972, 1862, 1863, 1864, 973, 974] rfl (by decide +kernel)
set_option maxRecDepth 100000 in
theorem zin_41 : ∀ w ∈ wsL_law0_r41, w ∈ lw_tbl := zin_q [976, 980, 984, 988] [975, 449, 451, 453, 455, 977, 979, 26, 981, 982, 983, 293, 989, 283, 291, 985, 986, 987, 990, 992] rfl (by decide +kernel)
set_option maxRecDepth 100000 in
theorem zin_42 : ∀ w ∈ wsL_law0_r42, w ∈ lw_tbl := zin_q [993, 999, 1003, 1007, 1010] [27, 994, 995, 996, 998, 28, 373, 386, 1000, 1001, 1002, 1004, 1005, 1006, 1008, 1009, 132, 1011, 1012] rfl (by decide +kernel)
set_option maxRecDepth 100000 in
theorem zin_43 : ∀ w ∈ wsL_law0_r43, w ∈ lw_tbl := zin_q [1017, 1021, 1025, 1030] [1013, 1014, 1015, 1016, 1018, 1020, 29, 384, 1022, 1023, 1024, 450, 452, 454, 1026, 1027, 1028, 1029, 1031, 1032] rfl (by decide +kernel)
set_option maxRecDepth 100000 in
theorem zin_44 : ∀ w ∈ wsL_law0_r44, w ∈ lw_tbl := zin_q [1034, 1038, 1042, 1046, 1052] [1033, 1035, 1036, 1037, 1039, 1040, 1041, 1043, 1044, 1045, 394, 1047, 1048, 1049, 1051, 30, 1053, 1054, 1055] rfl (by decide +kernel)
set_option maxRecDepth 100000 in
theorem zin_45 : ∀ w ∈ wsL_law0_r45, w ∈ lw_tbl := zin_q [1869, 1873, 1877, 1881, 1885] [1866, 1867, 1868, 1554, 1870, 1872, 90, 1874, 1876, 91, 1878, 1880, 92, 1556, 1882, 1884, 93, 1886, 1888] rfl (by decide +kernel)
set_option maxRecDepth 100000 in
theorem zin_46 : ∀ w ∈ wsL_law0_r46, w ∈ lw_tbl := zin_q [1889, 1893, 1897, 1901, 1904, 1059] [94, 1890, 1892, 95, 1552, 1553, 1894, 1896, 96, 1555, 1898, 1900, 97, 1902, 1903, 1056, 1057, 1058] rfl (by decide +kernel)
set_option maxRecDepth 100000 in
theorem zin_47 : ∀ w ∈ wsL_law0_r47, w ∈ lw_tbl := zin_q [1063, 1067, 1908, 1071, 1912] [285, 1060, 1062, 31, 1064, 1065, 1066, 284, 1905, 1906, 1907, 1068, 1069, 1070, 289, 1072, 1909, 1910, 1911] rfl (by decide +kernel)
set_option maxRecDepth 100000 in
theorem zin_48 : ∀ w ∈ wsL_law0_r48, w ∈ lw_tbl := zin_q [1076, 1080, 1084, 1088, 1094] [1073, 1074, 1075, 1077, 1079, 32, 1081, 1082, 1083, 1085, 1086, 1087, 1089, 1090, 1091, 1092, 1093, 1095, 1096] rfl (by decide +kernel)
set_option maxRecDepth 100000 in
theorem zin_49 : ∀ w ∈ wsL_law0_r49, w ∈ lw_tbl := zin_q [1098, 1916, 1102, 1106, 1110, 1114] [1097, 1913, 1914, 1915, 1099, 1100, 1101, 1103, 1104, 1105, 1107, 1108, 1109, 1111, 1112, 1113, 1917, 1918] rfl (by decide +kernel)
set_option maxRecDepth 100000 in
theorem zin_50 : ∀ w ∈ wsL_law0_r50, w ∈ lw_tbl := zin_q [1920, 1924, 1118, 1928, 1122, 1126] [1919, 1921, 1923, 98, 1115, 1116, 1117, 1925, 1926, 1927, 1119, 1120, 1121, 1123, 1124, 1125, 1929, 1930] rfl (by decide +kernel)
set_option maxRecDepth 100000 in
theorem zin_51 : ∀ w ∈ wsL_law0_r51, w ∈ lw_tbl := zin_q [1932, 1130, 1134, 1138, 1936, 1940] [1931, 1127, 1128, 1129, 1131, 1133, 33, 1135, 1136, 1137, 1139, 1140, 1933, 1934, 1935, 1937, 1939, 99] rfl (by decide +kernel)
set_option maxRecDepth 100000 in
theorem zin_52 : ∀ w ∈ wsL_law0_r52, w ∈ lw_tbl := zin_q [1144, 1944, 1948, 1149, 1153] [1141, 1142, 1143, 1145, 1941, 1942, 1943, 1945, 1947, 100, 1146, 1147, 1148, 1150, 1151, 1152, 1949, 1950, 1951] rfl (by decide +kernel)
set_option maxRecDepth 100000 in
theorem zin_53 : ∀ w ∈ wsL_law0_r53, w ∈ lw_tbl := zin_q [1952, 1956, 1157, 1960, 1161, 1964] [1953, 1955, 101, 1154, 1155, 1156, 1957, 1958, 1959, 1158, 1159, 1160, 1961, 1962, 1963, 1162, 1163, 1164] rfl (by decide +kernel)
set_option maxRecDepth 100000 in
theorem zin_54 : ∀ w ∈ wsL_law0_r54, w ∈ lw_tbl := zin_q [1165, 1169, 1968, 1174, 1972, 1178] [1166, 1167, 1168, 1170, 1965, 1966, 1967, 1171, 1172, 1173, 1969, 1970, 1971, 1175, 1176, 1177, 1179, 1180] rfl (by decide +kernel)
set_option maxRecDepth 100000 in
theorem zin_55 : ∀ w ∈ wsL_law0_r55, w ∈ lw_tbl := zin_q [1182, 1186, 1191, 1197, 1981] [1181, 1183, 1184, 1185, 1187, 1188, 1189, 1190, 1192, 1193, 1194, 1195, 1196, 1978, 1979, 1980, 1982, 1984, 102] rfl (by decide +kernel)
set_option maxRecDepth 100000 in
theorem zin_56 : ∀ w ∈ wsL_law0_r56, w ∈ lw_tbl := zin_q [1985, 1989, 1201, 1993, 1206, 1997] [1986, 1988, 103, 1198, 1199, 1200, 1202, 1990, 1991, 1992, 1203, 1204, 1205, 1994, 1995, 1996, 1207, 1208] rfl (by decide +kernel)
set_option maxRecDepth 100000 in
theorem zin_57 : ∀ w ∈ wsL_law0_r57, w ∈ lw_tbl := zin_q [1210, 1214, 2001, 1218, 2005, 1222] [1209, 1211, 1212, 1213, 1998, 1999, 2000, 1215, 1216, 1217, 2002, 2003, 2004, 1219, 1220, 1221, 1223, 1224] rfl (by decide +kernel)
set_option maxRecDepth 100000 in
theorem zin_58 : ∀ w ∈ wsL_law0_r58, w ∈ lw_tbl := zin_q [1226, 1231, 2009, 1236, 1240] [1225, 1227, 1228, 1229, 1230, 1232, 2006, 2007, 2008, 1233, 1234, 1235, 334, 1237, 1239, 34, 1241, 1242, 1243] rfl (by decide +kernel)
set_option maxRecDepth 100000 in
theorem zin_59 : ∀ w ∈ wsL_law0_r59, w ∈ lw_tbl := zin_q [1244, 1248, 1253, 1258] [342, 343, 282, 287, 1245, 1246, 1247, 1249, 1250, 1252, 35, 391, 1254, 1255, 1257, 36, 372, 404, 1259, 1260] rfl (by decide +kernel)
set_option maxRecDepth 100000 in
theorem zin_60 : ∀ w ∈ wsL_law0_r60, w ∈ lw_tbl := zin_q [1263, 1268, 1274, 1279] [1261, 1262, 1264, 1265, 1267, 37, 1269, 1270, 1271, 1273, 38, 333, 335, 337, 339, 398, 1275, 1276, 1278, 39] rfl (by decide +kernel)
set_option maxRecDepth 100000 in
theorem zin_61 : ∀ w ∈ wsL_law0_r61, w ∈ lw_tbl := zin_q [2021, 2025, 2029, 1283, 2033] [2018, 2019, 2020, 2022, 2024, 104, 2026, 2028, 105, 1280, 1281, 1282, 336, 338, 340, 2030, 2031, 2032, 1284] rfl (by decide +kernel)
set_option maxRecDepth 100000 in
theorem zin_62 : ∀ w ∈ wsL_law0_r62, w ∈ lw_tbl := zin_q [1287, 1291, 2037, 1295, 1299, 2041] [1285, 1286, 1288, 1289, 1290, 2034, 2035, 2036, 1292, 1293, 1294, 1296, 1297, 1298, 2038, 2039, 2040, 1300] rfl (by decide +kernel)
set_option maxRecDepth 100000 in
theorem zin_63 : ∀ w ∈ wsL_law0_r63, w ∈ lw_tbl := zin_q [1303, 1307, 1311, 2013, 1316, 1320] [1301, 1302, 1304, 1305, 1306, 1308, 1309, 1310, 1312, 2010, 2011, 2012, 1313, 1314, 1315, 1317, 1318, 1319] rfl (by decide +kernel)
set_option maxRecDepth 100000 in
theorem zin_64 : ∀ w ∈ wsL_law0_r64, w ∈ lw_tbl := zin_q [2017, 1325, 1329, 1976] [1321, 2014, 2015, 2016, 1322, 1323, 1324, 1330, 1326, 1327, 1328, 1973, 1974, 1975, 1977, 1359, 1360, 110, 1361, 1362] rfl (by decide +kernel)
set_option maxRecDepth 100000 in
theorem zin_65 : ∀ w ∈ wsL_law0_r65, w ∈ lw_tbl := zin_q [1366, 1369, 1437, 1440, 2045, 2048] [1363, 1364, 1365, 1370, 136, 1367, 1368, 1435, 1436, 1438, 1439, 2042, 2043, 2044, 2046, 2047, 1441, 1442] rfl (by decide +kernel)
set_option maxRecDepth 100000 in
theorem zin_66 : ∀ w ∈ wsL_law0_r66, w ∈ lw_tbl := zin_q [1444, 1334, 1343, 2052] [1443, 1331, 1332, 1333, 1336, 1337, 1338, 1339, 1335, 1340, 1341, 1342, 1344, 1345, 2049, 2050, 2051, 1565, 2053, 2055] rfl (by decide +kernel)
set_option maxRecDepth 100000 in
theorem zin_67 : ∀ w ∈ wsL_law0_r67, w ∈ lw_tbl := zin_q [2056, 2060, 2064, 1349, 1353] [106, 2057, 2059, 107, 2061, 2063, 108, 2065, 2066, 2067, 2068, 1346, 1347, 1348, 1350, 1351, 1352, 2069, 2070] rfl (by decide +kernel)
set_option maxRecDepth 100000 in
theorem zin_68 : ∀ w ∈ wsL_law0_r68, w ∈ lw_tbl := zin_q [2072, 1357, 2076, 2080] [2071, 1354, 1355, 1356, 389, 447, 1358, 2073, 2074, 2075, 2077, 2079, 109] rfl (by decide +kernel)
