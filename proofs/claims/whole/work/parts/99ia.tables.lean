/-! The words of the law are the tables' -/
set_option maxRecDepth 100000 in
theorem zin_35 : ∀ w ∈ wsL_law0_r35, w ∈ lw_tbl := zin_q [901, 905, 909, 1801, 1805] [899, 900, 902, 904, 22, 911, 906, 908, 23, 910, 1798, 1799, 1800, 1802, 1804, 81, 1806, 1808, 82] rfl (by decide +kernel)
set_option maxRecDepth 100000 in
theorem zin_36 : ∀ w ∈ wsL_law0_r36, w ∈ lw_tbl := zin_q [1809, 1813, 1817, 1820, 1824, 1828, 915] [1810, 1812, 83, 1814, 1816, 84, 1818, 1819, 1821, 1823, 85, 1825, 1827, 86, 912, 913, 914] rfl (by decide +kernel)
set_option maxRecDepth 100000 in
theorem zin_37 : ∀ w ∈ wsL_law0_r37, w ∈ lw_tbl := zin_q [1832, 920, 923, 927, 931, 935] [916, 1829, 1830, 1831, 917, 918, 919, 921, 922, 924, 925, 926, 928, 930, 24, 932, 933, 934] rfl (by decide +kernel)
set_option maxRecDepth 100000 in
theorem zin_38 : ∀ w ∈ wsL_law0_r38, w ∈ lw_tbl := zin_q [939, 943, 948, 1836, 1840] [936, 937, 938, 940, 941, 942, 260, 944, 945, 947, 25, 1833, 1834, 1835, 1837, 1839, 87, 1841, 1843] rfl (by decide +kernel)
set_option maxRecDepth 100000 in
theorem zin_39 : ∀ w ∈ wsL_law0_r39, w ∈ lw_tbl := zin_q [1844, 1848, 952, 1852, 956, 959] [88, 1845, 1847, 89, 949, 950, 951, 1849, 1850, 1851, 953, 954, 955, 957, 958, 1853, 1854, 1855] rfl (by decide +kernel)
set_option maxRecDepth 100000 in
theorem zin_40 : ∀ w ∈ wsL_law0_r40, w ∈ lw_tbl := zin_q [1856, 963, 1860, 967, 971, 1864] [960, 961, 962, 1857, 1858, 1859, 964, 965, 966, 968, 969, 970, 972, 1861, 1862, 1863, 973, 974] rfl (by decide +kernel)
set_option maxRecDepth 100000 in
theorem zin_41 : ∀ w ∈ wsL_law0_r41, w ∈ lw_tbl := zin_q [976, 980, 984, 988] [975, 449, 451, 453, 455, 977, 979, 26, 981, 982, 983, 293, 989, 283, 291, 985, 986, 987, 990, 992] rfl (by decide +kernel)
set_option maxRecDepth 100000 in
theorem zin_42 : ∀ w ∈ wsL_law0_r42, w ∈ lw_tbl := zin_q [993, 998, 1002, 1006, 1009] [27, 994, 995, 997, 28, 373, 386, 999, 1000, 1001, 1003, 1004, 1005, 1007, 1008, 132, 1010, 1011, 1012] rfl (by decide +kernel)
set_option maxRecDepth 100000 in
theorem zin_43 : ∀ w ∈ wsL_law0_r43, w ∈ lw_tbl := zin_q [1016, 1020, 1024, 1029] [1013, 1014, 1015, 1017, 1019, 29, 384, 1021, 1022, 1023, 450, 452, 454, 1025, 1026, 1027, 1028, 1030, 1031, 1032] rfl (by decide +kernel)
set_option maxRecDepth 100000 in
theorem zin_44 : ∀ w ∈ wsL_law0_r44, w ∈ lw_tbl := zin_q [1033, 1037, 1041, 1045, 1051] [1034, 1035, 1036, 1038, 1039, 1040, 1042, 1043, 1044, 394, 1046, 1047, 1048, 1050, 30, 1052, 1053, 1054, 1865] rfl (by decide +kernel)
set_option maxRecDepth 100000 in
theorem zin_45 : ∀ w ∈ wsL_law0_r45, w ∈ lw_tbl := zin_q [1868, 1872, 1876, 1880, 1884] [1866, 1867, 1553, 1869, 1871, 90, 1873, 1875, 91, 1877, 1879, 92, 1555, 1881, 1883, 93, 1885, 1887, 94] rfl (by decide +kernel)
set_option maxRecDepth 100000 in
theorem zin_46 : ∀ w ∈ wsL_law0_r46, w ∈ lw_tbl := zin_q [1888, 1892, 1896, 1900, 1903, 1058] [1889, 1891, 95, 1551, 1552, 1893, 1895, 96, 1554, 1897, 1899, 97, 1901, 1902, 1055, 1056, 1057, 285] rfl (by decide +kernel)
set_option maxRecDepth 100000 in
theorem zin_47 : ∀ w ∈ wsL_law0_r47, w ∈ lw_tbl := zin_q [1062, 1066, 1907, 1070, 1911] [1059, 1061, 31, 1063, 1064, 1065, 284, 1904, 1905, 1906, 1067, 1068, 1069, 289, 1071, 1908, 1909, 1910, 1072] rfl (by decide +kernel)
set_option maxRecDepth 100000 in
theorem zin_48 : ∀ w ∈ wsL_law0_r48, w ∈ lw_tbl := zin_q [1075, 1079, 1083, 1087, 1093] [1073, 1074, 1076, 1078, 32, 1080, 1081, 1082, 1084, 1085, 1086, 1088, 1089, 1090, 1091, 1092, 1094, 1095, 1096] rfl (by decide +kernel)
set_option maxRecDepth 100000 in
theorem zin_49 : ∀ w ∈ wsL_law0_r49, w ∈ lw_tbl := zin_q [1097, 1915, 1101, 1105, 1109, 1113] [1912, 1913, 1914, 1098, 1099, 1100, 1102, 1103, 1104, 1106, 1107, 1108, 1110, 1111, 1112, 1916, 1917, 1918] rfl (by decide +kernel)
set_option maxRecDepth 100000 in
theorem zin_50 : ∀ w ∈ wsL_law0_r50, w ∈ lw_tbl := zin_q [1919, 1923, 1117, 1927, 1121, 1125] [1920, 1922, 98, 1114, 1115, 1116, 1924, 1925, 1926, 1118, 1119, 1120, 1122, 1123, 1124, 1928, 1929, 1930] rfl (by decide +kernel)
set_option maxRecDepth 100000 in
theorem zin_51 : ∀ w ∈ wsL_law0_r51, w ∈ lw_tbl := zin_q [1931, 1129, 1133, 1137, 1935, 1939] [1126, 1127, 1128, 1130, 1132, 33, 1134, 1135, 1136, 1138, 1139, 1932, 1933, 1934, 1936, 1938, 99, 1140] rfl (by decide +kernel)
set_option maxRecDepth 100000 in
theorem zin_52 : ∀ w ∈ wsL_law0_r52, w ∈ lw_tbl := zin_q [1143, 1943, 1947, 1148, 1152, 1951] [1141, 1142, 1144, 1940, 1941, 1942, 1944, 1946, 100, 1145, 1146, 1147, 1149, 1150, 1151, 1948, 1949, 1950] rfl (by decide +kernel)
set_option maxRecDepth 100000 in
theorem zin_53 : ∀ w ∈ wsL_law0_r53, w ∈ lw_tbl := zin_q [1955, 1156, 1959, 1160, 1963, 1164] [1952, 1954, 101, 1153, 1154, 1155, 1956, 1957, 1958, 1157, 1158, 1159, 1960, 1961, 1962, 1161, 1162, 1163] rfl (by decide +kernel)
set_option maxRecDepth 100000 in
theorem zin_54 : ∀ w ∈ wsL_law0_r54, w ∈ lw_tbl := zin_q [1168, 1967, 1173, 1971, 1177] [1165, 1166, 1167, 1169, 1964, 1965, 1966, 1170, 1171, 1172, 1968, 1969, 1970, 1174, 1175, 1176, 1178, 1179, 1180] rfl (by decide +kernel)
set_option maxRecDepth 100000 in
theorem zin_55 : ∀ w ∈ wsL_law0_r55, w ∈ lw_tbl := zin_q [1181, 1185, 1190, 1196, 1980, 1984] [1182, 1183, 1184, 1186, 1187, 1188, 1189, 1191, 1192, 1193, 1194, 1195, 1977, 1978, 1979, 1981, 1983, 102] rfl (by decide +kernel)
set_option maxRecDepth 100000 in
theorem zin_56 : ∀ w ∈ wsL_law0_r56, w ∈ lw_tbl := zin_q [1988, 1200, 1992, 1205, 1996] [1985, 1987, 103, 1197, 1198, 1199, 1201, 1989, 1990, 1991, 1202, 1203, 1204, 1993, 1994, 1995, 1206, 1207, 1208] rfl (by decide +kernel)
set_option maxRecDepth 100000 in
theorem zin_57 : ∀ w ∈ wsL_law0_r57, w ∈ lw_tbl := zin_q [1209, 1213, 2000, 1217, 2004, 1221] [1210, 1211, 1212, 1997, 1998, 1999, 1214, 1215, 1216, 2001, 2002, 2003, 1218, 1219, 1220, 1222, 1223, 1224] rfl (by decide +kernel)
set_option maxRecDepth 100000 in
theorem zin_58 : ∀ w ∈ wsL_law0_r58, w ∈ lw_tbl := zin_q [1225, 1230, 2008, 1235, 1239, 1243] [1226, 1227, 1228, 1229, 1231, 2005, 2006, 2007, 1232, 1233, 1234, 334, 1236, 1238, 34, 1240, 1241, 1242] rfl (by decide +kernel)
set_option maxRecDepth 100000 in
theorem zin_59 : ∀ w ∈ wsL_law0_r59, w ∈ lw_tbl := zin_q [1247, 1252, 1257] [342, 343, 282, 287, 1244, 1245, 1246, 1248, 1249, 1251, 35, 391, 1253, 1254, 1256, 36, 372, 404, 1258, 1259, 1260] rfl (by decide +kernel)
set_option maxRecDepth 100000 in
theorem zin_60 : ∀ w ∈ wsL_law0_r60, w ∈ lw_tbl := zin_q [1262, 1267, 1273, 1278] [1261, 1263, 1264, 1266, 37, 1268, 1269, 1270, 1272, 38, 333, 335, 337, 339, 398, 1274, 1275, 1277, 39, 2017] rfl (by decide +kernel)
set_option maxRecDepth 100000 in
theorem zin_61 : ∀ w ∈ wsL_law0_r61, w ∈ lw_tbl := zin_q [2020, 2024, 2028, 1282, 2032] [2018, 2019, 2021, 2023, 104, 2025, 2027, 105, 1279, 1280, 1281, 336, 338, 340, 2029, 2030, 2031, 1283, 1284] rfl (by decide +kernel)
set_option maxRecDepth 100000 in
theorem zin_62 : ∀ w ∈ wsL_law0_r62, w ∈ lw_tbl := zin_q [1286, 1290, 2036, 1294, 1298, 2040] [1285, 1287, 1288, 1289, 2033, 2034, 2035, 1291, 1292, 1293, 1295, 1296, 1297, 2037, 2038, 2039, 1299, 1300] rfl (by decide +kernel)
set_option maxRecDepth 100000 in
theorem zin_63 : ∀ w ∈ wsL_law0_r63, w ∈ lw_tbl := zin_q [1302, 1306, 1310, 2012, 1315, 1319] [1301, 1303, 1304, 1305, 1307, 1308, 1309, 1311, 2009, 2010, 2011, 1312, 1313, 1314, 1316, 1317, 1318, 1320] rfl (by decide +kernel)
set_option maxRecDepth 100000 in
theorem zin_64 : ∀ w ∈ wsL_law0_r64, w ∈ lw_tbl := zin_q [2016, 1324, 1328, 1975] [2013, 2014, 2015, 1321, 1322, 1323, 1329, 1325, 1326, 1327, 1972, 1973, 1974, 1976, 1358, 1359, 110, 1360, 1361, 1362] rfl (by decide +kernel)
set_option maxRecDepth 100000 in
theorem zin_65 : ∀ w ∈ wsL_law0_r65, w ∈ lw_tbl := zin_q [1365, 1368, 1436, 1439, 2044, 2047] [1363, 1364, 1369, 136, 1366, 1367, 1434, 1435, 1437, 1438, 2041, 2042, 2043, 2045, 2046, 1440, 1441, 1442] rfl (by decide +kernel)
set_option maxRecDepth 100000 in
theorem zin_66 : ∀ w ∈ wsL_law0_r66, w ∈ lw_tbl := zin_q [1443, 1333, 1342, 2051] [1330, 1331, 1332, 1335, 1336, 1337, 1338, 1334, 1339, 1340, 1341, 1343, 1344, 2048, 2049, 2050, 1564, 2052, 2054, 106] rfl (by decide +kernel)
set_option maxRecDepth 100000 in
theorem zin_67 : ∀ w ∈ wsL_law0_r67, w ∈ lw_tbl := zin_q [2055, 2059, 2063, 1348, 1352] [2056, 2058, 107, 2060, 2062, 108, 2064, 2065, 2066, 2067, 1345, 1346, 1347, 1349, 1350, 1351, 2068, 2069, 2070] rfl (by decide +kernel)
set_option maxRecDepth 100000 in
theorem zin_68 : ∀ w ∈ wsL_law0_r68, w ∈ lw_tbl := zin_q [2071, 1356, 2075, 2079] [1353, 1354, 1355, 389, 447, 1357, 2072, 2073, 2074, 2076, 2078, 109] rfl (by decide +kernel)
