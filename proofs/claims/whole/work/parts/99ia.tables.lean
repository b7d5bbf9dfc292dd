/-! The words of the law are the tables' -/
set_option maxRecDepth 100000 in
theorem zin_35 : ∀ w ∈ wsL_law0_r35, w ∈ lw_tbl := fun w h => (goodIn_p (big := lw_tbl) wsL_law0_r35 [901, 905, 909, 1801, 1805] rfl (by decide +kernel) w h).1
set_option maxRecDepth 100000 in
theorem zin_36 : ∀ w ∈ wsL_law0_r36, w ∈ lw_tbl := fun w h => (goodIn_p (big := lw_tbl) wsL_law0_r36 [1809, 1813, 1817, 1820, 1824, 1828, 915] rfl (by decide +kernel) w h).1
set_option maxRecDepth 100000 in
theorem zin_37 : ∀ w ∈ wsL_law0_r37, w ∈ lw_tbl := fun w h => (goodIn_p (big := lw_tbl) wsL_law0_r37 [1832, 920, 923, 927, 931, 935] rfl (by decide +kernel) w h).1
set_option maxRecDepth 100000 in
theorem zin_38 : ∀ w ∈ wsL_law0_r38, w ∈ lw_tbl := fun w h => (goodIn_p (big := lw_tbl) wsL_law0_r38 [939, 943, 948, 1836, 1840] rfl (by decide +kernel) w h).1
set_option maxRecDepth 100000 in
theorem zin_39 : ∀ w ∈ wsL_law0_r39, w ∈ lw_tbl := fun w h => (goodIn_p (big := lw_tbl) wsL_law0_r39 [1844, 1848, 952, 1852, 956, 959] rfl (by decide +kernel) w h).1
set_option maxRecDepth 100000 in
theorem zin_40 : ∀ w ∈ wsL_law0_r40, w ∈ lw_tbl := fun w h => (goodIn_p (big := lw_tbl) wsL_law0_r40 [1856, 963, 1860, 967, 971, 1864] rfl (by decide +kernel) w h).1
set_option maxRecDepth 100000 in
theorem zin_41 : ∀ w ∈ wsL_law0_r41, w ∈ lw_tbl := fun w h => (goodIn_p (big := lw_tbl) wsL_law0_r41 [976, 980, 984, 988] rfl (by decide +kernel) w h).1
set_option maxRecDepth 100000 in
theorem zin_42 : ∀ w ∈ wsL_law0_r42, w ∈ lw_tbl := fun w h => (goodIn_p (big := lw_tbl) wsL_law0_r42 [993, 998, 1002, 1006, 1009] rfl (by decide +kernel) w h).1
set_option maxRecDepth 100000 in
theorem zin_43 : ∀ w ∈ wsL_law0_r43, w ∈ lw_tbl := fun w h => (goodIn_p (big := lw_tbl) wsL_law0_r43 [1016, 1020, 1024, 1029] rfl (by decide +kernel) w h).1
set_option maxRecDepth 100000 in
theorem zin_44 : ∀ w ∈ wsL_law0_r44, w ∈ lw_tbl := fun w h => (goodIn_p (big := lw_tbl) wsL_law0_r44 [1033, 1037, 1041, 1045, 1051] rfl (by decide +kernel) w h).1
set_option maxRecDepth 100000 in
theorem zin_45 : ∀ w ∈ wsL_law0_r45, w ∈ lw_tbl := fun w h => (goodIn_p (big := lw_tbl) wsL_law0_r45 [1868, 1872, 1876, 1880, 1884] rfl (by decide +kernel) w h).1
set_option maxRecDepth 100000 in
theorem zin_46 : ∀ w ∈ wsL_law0_r46, w ∈ lw_tbl := fun w h => (goodIn_p (big := lw_tbl) wsL_law0_r46 [1888, 1892, 1896, 1900, 1903, 1058] rfl (by decide +kernel) w h).1
set_option maxRecDepth 100000 in
theorem zin_47 : ∀ w ∈ wsL_law0_r47, w ∈ lw_tbl := fun w h => (goodIn_p (big := lw_tbl) wsL_law0_r47 [1062, 1066, 1907, 1070, 1911] rfl (by decide +kernel) w h).1
set_option maxRecDepth 100000 in
theorem zin_48 : ∀ w ∈ wsL_law0_r48, w ∈ lw_tbl := fun w h => (goodIn_p (big := lw_tbl) wsL_law0_r48 [1075, 1079, 1083, 1087, 1093] rfl (by decide +kernel) w h).1
set_option maxRecDepth 100000 in
theorem zin_49 : ∀ w ∈ wsL_law0_r49, w ∈ lw_tbl := fun w h => (goodIn_p (big := lw_tbl) wsL_law0_r49 [1097, 1915, 1101, 1105, 1109, 1113] rfl (by decide +kernel) w h).1
set_option maxRecDepth 100000 in
theorem zin_50 : ∀ w ∈ wsL_law0_r50, w ∈ lw_tbl := fun w h => (goodIn_p (big := lw_tbl) wsL_law0_r50 [1919, 1923, 1117, 1927, 1121, 1125] rfl (by decide +kernel) w h).1
set_option maxRecDepth 100000 in
theorem zin_51 : ∀ w ∈ wsL_law0_r51, w ∈ lw_tbl := fun w h => (goodIn_p (big := lw_tbl) wsL_law0_r51 [1931, 1129, 1133, 1137, 1935, 1939] rfl (by decide +kernel) w h).1
set_option maxRecDepth 100000 in
theorem zin_52 : ∀ w ∈ wsL_law0_r52, w ∈ lw_tbl := fun w h => (goodIn_p (big := lw_tbl) wsL_law0_r52 [1143, 1943, 1947, 1148, 1152, 1951] rfl (by decide +kernel) w h).1
set_option maxRecDepth 100000 in
theorem zin_53 : ∀ w ∈ wsL_law0_r53, w ∈ lw_tbl := fun w h => (goodIn_p (big := lw_tbl) wsL_law0_r53 [1955, 1156, 1959, 1160, 1963, 1164] rfl (by decide +kernel) w h).1
set_option maxRecDepth 100000 in
theorem zin_54 : ∀ w ∈ wsL_law0_r54, w ∈ lw_tbl := fun w h => (goodIn_p (big := lw_tbl) wsL_law0_r54 [1168, 1967, 1173, 1971, 1177] rfl (by decide +kernel) w h).1
set_option maxRecDepth 100000 in
theorem zin_55 : ∀ w ∈ wsL_law0_r55, w ∈ lw_tbl := fun w h => (goodIn_p (big := lw_tbl) wsL_law0_r55 [1181, 1185, 1190, 1196, 1980, 1984] rfl (by decide +kernel) w h).1
set_option maxRecDepth 100000 in
theorem zin_56 : ∀ w ∈ wsL_law0_r56, w ∈ lw_tbl := fun w h => (goodIn_p (big := lw_tbl) wsL_law0_r56 [1988, 1200, 1992, 1205, 1996] rfl (by decide +kernel) w h).1
set_option maxRecDepth 100000 in
theorem zin_57 : ∀ w ∈ wsL_law0_r57, w ∈ lw_tbl := fun w h => (goodIn_p (big := lw_tbl) wsL_law0_r57 [1209, 1213, 2000, 1217, 2004, 1221] rfl (by decide +kernel) w h).1
set_option maxRecDepth 100000 in
theorem zin_58 : ∀ w ∈ wsL_law0_r58, w ∈ lw_tbl := fun w h => (goodIn_p (big := lw_tbl) wsL_law0_r58 [1225, 1230, 2008, 1235, 1239, 1243] rfl (by decide +kernel) w h).1
set_option maxRecDepth 100000 in
theorem zin_59 : ∀ w ∈ wsL_law0_r59, w ∈ lw_tbl := fun w h => (goodIn_p (big := lw_tbl) wsL_law0_r59 [1247, 1252, 1257] rfl (by decide +kernel) w h).1
set_option maxRecDepth 100000 in
theorem zin_60 : ∀ w ∈ wsL_law0_r60, w ∈ lw_tbl := fun w h => (goodIn_p (big := lw_tbl) wsL_law0_r60 [1262, 1267, 1273, 1278] rfl (by decide +kernel) w h).1
set_option maxRecDepth 100000 in
theorem zin_61 : ∀ w ∈ wsL_law0_r61, w ∈ lw_tbl := fun w h => (goodIn_p (big := lw_tbl) wsL_law0_r61 [2020, 2024, 2028, 1282, 2032] rfl (by decide +kernel) w h).1
set_option maxRecDepth 100000 in
theorem zin_62 : ∀ w ∈ wsL_law0_r62, w ∈ lw_tbl := fun w h => (goodIn_p (big := lw_tbl) wsL_law0_r62 [1286, 1290, 2036, 1294, 1298, 2040] rfl (by decide +kernel) w h).1
set_option maxRecDepth 100000 in
theorem zin_63 : ∀ w ∈ wsL_law0_r63, w ∈ lw_tbl := fun w h => (goodIn_p (big := lw_tbl) wsL_law0_r63 [1302, 1306, 1310, 2012, 1315, 1319] rfl (by decide +kernel) w h).1
set_option maxRecDepth 100000 in
theorem zin_64 : ∀ w ∈ wsL_law0_r64, w ∈ lw_tbl := fun w h => (goodIn_p (big := lw_tbl) wsL_law0_r64 [2016, 1324, 1328, 1975] rfl (by decide +kernel) w h).1
set_option maxRecDepth 100000 in
theorem zin_65 : ∀ w ∈ wsL_law0_r65, w ∈ lw_tbl := fun w h => (goodIn_p (big := lw_tbl) wsL_law0_r65 [1365, 1368, 1436, 1439, 2044, 2047] rfl (by decide +kernel) w h).1
set_option maxRecDepth 100000 in
theorem zin_66 : ∀ w ∈ wsL_law0_r66, w ∈ lw_tbl := fun w h => (goodIn_p (big := lw_tbl) wsL_law0_r66 [1443, 1333, 1342, 2051] rfl (by decide +kernel) w h).1
set_option maxRecDepth 100000 in
theorem zin_67 : ∀ w ∈ wsL_law0_r67, w ∈ lw_tbl := fun w h => (goodIn_p (big := lw_tbl) wsL_law0_r67 [2055, 2059, 2063, 1348, 1352] rfl (by decide +kernel) w h).1
set_option maxRecDepth 100000 in
theorem zin_68 : ∀ w ∈ wsL_law0_r68, w ∈ lw_tbl := fun w h => (goodIn_p (big := lw_tbl) wsL_law0_r68 [2071, 1356, 2075, 2079] rfl (by decide +kernel) w h).1
