/-! The words of the law are the tables' -/
theorem zin_1 : ∀ w ∈ wsL_law0_r1, w ∈ lw_tbl := fun w h => (goodIn_p (big := lw_tbl) wsL_law0_r1 [141, 144] (by decide +kernel) (by decide +kernel) w h).1
theorem zin_2 : ∀ w ∈ wsL_law0_r2, w ∈ lw_tbl := fun w h => (goodIn_p (big := lw_tbl) wsL_law0_r2 [] (by decide +kernel) (by decide +kernel) w h).1
theorem zin_3 : ∀ w ∈ wsL_law0_r3, w ∈ lw_tbl := fun w h => (goodIn_p (big := lw_tbl) wsL_law0_r3 [149, 199] (by decide +kernel) (by decide +kernel) w h).1
theorem zin_4 : ∀ w ∈ wsL_law0_r4, w ∈ lw_tbl := fun w h => (goodIn_p (big := lw_tbl) wsL_law0_r4 [205, 244, 248, 258, 276] (by decide +kernel) (by decide +kernel) w h).1
theorem zin_5 : ∀ w ∈ wsL_law0_r5, w ∈ lw_tbl := fun w h => (goodIn_p (big := lw_tbl) wsL_law0_r5 [319, 329, 365] (by decide +kernel) (by decide +kernel) w h).1
theorem zin_6 : ∀ w ∈ wsL_law0_r6, w ∈ lw_tbl := fun w h => (goodIn_p (big := lw_tbl) wsL_law0_r6 [442, 1456] (by decide +kernel) (by decide +kernel) w h).1
theorem zin_7 : ∀ w ∈ wsL_law0_r7, w ∈ lw_tbl := fun w h => (goodIn_p (big := lw_tbl) wsL_law0_r7 [] (by decide +kernel) (by decide +kernel) w h).1
theorem zin_8 : ∀ w ∈ wsL_law0_r8, w ∈ lw_tbl := fun w h => (goodIn_p (big := lw_tbl) wsL_law0_r8 [] (by decide +kernel) (by decide +kernel) w h).1
theorem zin_9 : ∀ w ∈ wsL_law0_r9, w ∈ lw_tbl := fun w h => (goodIn_p (big := lw_tbl) wsL_law0_r9 [1482, 1486, 1490, 1494, 1498, 1502] (by decide +kernel) (by decide +kernel) w h).1
theorem zin_10 : ∀ w ∈ wsL_law0_r10, w ∈ lw_tbl := fun w h => (goodIn_p (big := lw_tbl) wsL_law0_r10 [1506, 1510, 1514, 1517, 1521, 531] (by decide +kernel) (by decide +kernel) w h).1
theorem zin_11 : ∀ w ∈ wsL_law0_r11, w ∈ lw_tbl := fun w h => (goodIn_p (big := lw_tbl) wsL_law0_r11 [535, 1447, 1452, 539] (by decide +kernel) (by decide +kernel) w h).1
theorem zin_12 : ∀ w ∈ wsL_law0_r12, w ∈ lw_tbl := fun w h => (goodIn_p (big := lw_tbl) wsL_law0_r12 [543, 547, 551, 555] (by decide +kernel) (by decide +kernel) w h).1
theorem zin_13 : ∀ w ∈ wsL_law0_r13, w ∈ lw_tbl := fun w h => (goodIn_p (big := lw_tbl) wsL_law0_r13 [559, 563, 566, 571] (by decide +kernel) (by decide +kernel) w h).1
theorem zin_14 : ∀ w ∈ wsL_law0_r14, w ∈ lw_tbl := fun w h => (goodIn_p (big := lw_tbl) wsL_law0_r14 [575, 579, 585, 589, 592] (by decide +kernel) (by decide +kernel) w h).1
theorem zin_15 : ∀ w ∈ wsL_law0_r15, w ∈ lw_tbl := fun w h => (goodIn_p (big := lw_tbl) wsL_law0_r15 [598, 601, 595, 604, 607, 613, 616] (by decide +kernel) (by decide +kernel) w h).1
theorem zin_16 : ∀ w ∈ wsL_law0_r16, w ∈ lw_tbl := fun w h => (goodIn_p (big := lw_tbl) wsL_law0_r16 [619, 622, 627, 630, 633, 642] (by decide +kernel) (by decide +kernel) w h).1
theorem zin_17 : ∀ w ∈ wsL_law0_r17, w ∈ lw_tbl := fun w h => (goodIn_p (big := lw_tbl) wsL_law0_r17 [645, 648, 652, 656, 659, 665] (by decide +kernel) (by decide +kernel) w h).1
theorem zin_18 : ∀ w ∈ wsL_law0_r18, w ∈ lw_tbl := fun w h => (goodIn_p (big := lw_tbl) wsL_law0_r18 [668, 671, 674, 677, 680, 686] (by decide +kernel) (by decide +kernel) w h).1
theorem zin_19 : ∀ w ∈ wsL_law0_r19, w ∈ lw_tbl := fun w h => (goodIn_p (big := lw_tbl) wsL_law0_r19 [690, 695, 699, 703, 707] (by decide +kernel) (by decide +kernel) w h).1
theorem zin_20 : ∀ w ∈ wsL_law0_r20, w ∈ lw_tbl := fun w h => (goodIn_p (big := lw_tbl) wsL_law0_r20 [712, 716, 720, 725, 729] (by decide +kernel) (by decide +kernel) w h).1
theorem zin_21 : ∀ w ∈ wsL_law0_r21, w ∈ lw_tbl := fun w h => (goodIn_p (big := lw_tbl) wsL_law0_r21 [733, 737, 741, 747, 751] (by decide +kernel) (by decide +kernel) w h).1
theorem zin_22 : ∀ w ∈ wsL_law0_r22, w ∈ lw_tbl := fun w h => (goodIn_p (big := lw_tbl) wsL_law0_r22 [755, 759, 786, 782, 775] (by decide +kernel) (by decide +kernel) w h).1
theorem zin_23 : ∀ w ∈ wsL_law0_r23, w ∈ lw_tbl := fun w h => (goodIn_p (big := lw_tbl) wsL_law0_r23 [771, 767, 763, 790, 794] (by decide +kernel) (by decide +kernel) w h).1
theorem zin_24 : ∀ w ∈ wsL_law0_r24, w ∈ lw_tbl := fun w h => (goodIn_p (big := lw_tbl) wsL_law0_r24 [798, 801, 805, 808, 811, 815, 819] (by decide +kernel) (by decide +kernel) w h).1
theorem zin_25 : ∀ w ∈ wsL_law0_r25, w ∈ lw_tbl := fun w h => (goodIn_p (big := lw_tbl) wsL_law0_r25 [1655, 1659, 1662] (by decide +kernel) (by decide +kernel) w h).1
theorem zin_26 : ∀ w ∈ wsL_law0_r26, w ∈ lw_tbl := fun w h => (goodIn_p (big := lw_tbl) wsL_law0_r26 [1666, 1669, 1674, 1678, 1682, 1686, 1690] (by decide +kernel) (by decide +kernel) w h).1
theorem zin_27 : ∀ w ∈ wsL_law0_r27, w ∈ lw_tbl := fun w h => (goodIn_p (big := lw_tbl) wsL_law0_r27 [1694, 1698, 1702, 1706, 1710, 1714] (by decide +kernel) (by decide +kernel) w h).1
theorem zin_28 : ∀ w ∈ wsL_law0_r28, w ∈ lw_tbl := fun w h => (goodIn_p (big := lw_tbl) wsL_law0_r28 [1718, 1722, 1726, 1730, 1734, 1738] (by decide +kernel) (by decide +kernel) w h).1
theorem zin_29 : ∀ w ∈ wsL_law0_r29, w ∈ lw_tbl := fun w h => (goodIn_p (big := lw_tbl) wsL_law0_r29 [1742, 1746, 1750, 1754, 1774, 1766] (by decide +kernel) (by decide +kernel) w h).1
theorem zin_30 : ∀ w ∈ wsL_law0_r30, w ∈ lw_tbl := fun w h => (goodIn_p (big := lw_tbl) wsL_law0_r30 [1778, 1762, 1770, 1758, 827, 831] (by decide +kernel) (by decide +kernel) w h).1
theorem zin_31 : ∀ w ∈ wsL_law0_r31, w ∈ lw_tbl := fun w h => (goodIn_p (big := lw_tbl) wsL_law0_r31 [837, 845] (by decide +kernel) (by decide +kernel) w h).1
theorem zin_32 : ∀ w ∈ wsL_law0_r32, w ∈ lw_tbl := fun w h => (goodIn_p (big := lw_tbl) wsL_law0_r32 [1782, 1786, 850, 854, 858] (by decide +kernel) (by decide +kernel) w h).1
theorem zin_33 : ∀ w ∈ wsL_law0_r33, w ∈ lw_tbl := fun w h => (goodIn_p (big := lw_tbl) wsL_law0_r33 [1790, 1794, 1797, 862, 866, 870] (by decide +kernel) (by decide +kernel) w h).1
theorem zin_34 : ∀ w ∈ wsL_law0_r34, w ∈ lw_tbl := fun w h => (goodIn_p (big := lw_tbl) wsL_law0_r34 [874, 877, 881, 886, 898] (by decide +kernel) (by decide +kernel) w h).1
theorem zin_35 : ∀ w ∈ wsL_law0_r35, w ∈ lw_tbl := fun w h => (goodIn_p (big := lw_tbl) wsL_law0_r35 [901, 905, 909, 1801, 1805] (by decide +kernel) (by decide +kernel) w h).1
theorem zin_36 : ∀ w ∈ wsL_law0_r36, w ∈ lw_tbl := fun w h => (goodIn_p (big := lw_tbl) wsL_law0_r36 [1809, 1813, 1817, 1820, 1824, 1828, 915] (by decide +kernel) (by decide +kernel) w h).1
theorem zin_37 : ∀ w ∈ wsL_law0_r37, w ∈ lw_tbl := fun w h => (goodIn_p (big := lw_tbl) wsL_law0_r37 [1832, 920, 923, 927, 931, 935] (by decide +kernel) (by decide +kernel) w h).1
theorem zin_38 : ∀ w ∈ wsL_law0_r38, w ∈ lw_tbl := fun w h => (goodIn_p (big := lw_tbl) wsL_law0_r38 [939, 943, 948, 1836, 1840] (by decide +kernel) (by decide +kernel) w h).1
theorem zin_39 : ∀ w ∈ wsL_law0_r39, w ∈ lw_tbl := fun w h => (goodIn_p (big := lw_tbl) wsL_law0_r39 [1844, 1848, 952, 1852, 956, 959] (by decide +kernel) (by decide +kernel) w h).1
theorem zin_40 : ∀ w ∈ wsL_law0_r40, w ∈ lw_tbl := fun w h => (goodIn_p (big := lw_tbl) wsL_law0_r40 [1856, 963, 1860, 967, 971, 1864] (by decide +kernel) (by decide +kernel) w h).1
theorem zin_41 : ∀ w ∈ wsL_law0_r41, w ∈ lw_tbl := fun w h => (goodIn_p (big := lw_tbl) wsL_law0_r41 [976, 980, 984, 988] (by decide +kernel) (by decide +kernel) w h).1
theorem zin_42 : ∀ w ∈ wsL_law0_r42, w ∈ lw_tbl := fun w h => (goodIn_p (big := lw_tbl) wsL_law0_r42 [993, 998, 1002, 1006, 1009] (by decide +kernel) (by decide +kernel) w h).1
theorem zin_43 : ∀ w ∈ wsL_law0_r43, w ∈ lw_tbl := fun w h => (goodIn_p (big := lw_tbl) wsL_law0_r43 [1016, 1020, 1024, 1029] (by decide +kernel) (by decide +kernel) w h).1
theorem zin_44 : ∀ w ∈ wsL_law0_r44, w ∈ lw_tbl := fun w h => (goodIn_p (big := lw_tbl) wsL_law0_r44 [1033, 1037, 1041, 1045, 1051] (by decide +kernel) (by decide +kernel) w h).1
theorem zin_45 : ∀ w ∈ wsL_law0_r45, w ∈ lw_tbl := fun w h => (goodIn_p (big := lw_tbl) wsL_law0_r45 [1868, 1872, 1876, 1880, 1884] (by decide +kernel) (by decide +kernel) w h).1
theorem zin_46 : ∀ w ∈ wsL_law0_r46, w ∈ lw_tbl := fun w h => (goodIn_p (big := lw_tbl) wsL_law0_r46 [1888, 1892, 1896, 1900, 1903, 1058] (by decide +kernel) (by decide +kernel) w h).1
theorem zin_47 : ∀ w ∈ wsL_law0_r47, w ∈ lw_tbl := fun w h => (goodIn_p (big := lw_tbl) wsL_law0_r47 [1062, 1066, 1907, 1070, 1911] (by decide +kernel) (by decide +kernel) w h).1
theorem zin_48 : ∀ w ∈ wsL_law0_r48, w ∈ lw_tbl := fun w h => (goodIn_p (big := lw_tbl) wsL_law0_r48 [1075, 1079, 1083, 1087, 1093] (by decide +kernel) (by decide +kernel) w h).1
theorem zin_49 : ∀ w ∈ wsL_law0_r49, w ∈ lw_tbl := fun w h => (goodIn_p (big := lw_tbl) wsL_law0_r49 [1097, 1915, 1101, 1105, 1109, 1113] (by decide +kernel) (by decide +kernel) w h).1
theorem zin_50 : ∀ w ∈ wsL_law0_r50, w ∈ lw_tbl := fun w h => (goodIn_p (big := lw_tbl) wsL_law0_r50 [1919, 1923, 1117, 1927, 1121, 1125] (by decide +kernel) (by decide +kernel) w h).1
theorem zin_51 : ∀ w ∈ wsL_law0_r51, w ∈ lw_tbl := fun w h => (goodIn_p (big := lw_tbl) wsL_law0_r51 [1931, 1129, 1133, 1137, 1935, 1939] (by decide +kernel) (by decide +kernel) w h).1
theorem zin_52 : ∀ w ∈ wsL_law0_r52, w ∈ lw_tbl := fun w h => (goodIn_p (big := lw_tbl) wsL_law0_r52 [1143, 1943, 1947, 1148, 1152, 1951] (by decide +kernel) (by decide +kernel) w h).1
theorem zin_53 : ∀ w ∈ wsL_law0_r53, w ∈ lw_tbl := fun w h => (goodIn_p (big := lw_tbl) wsL_law0_r53 [1955, 1156, 1959, 1160, 1963, 1164] (by decide +kernel) (by decide +kernel) w h).1
theorem zin_54 : ∀ w ∈ wsL_law0_r54, w ∈ lw_tbl := fun w h => (goodIn_p (big := lw_tbl) wsL_law0_r54 [1168, 1967, 1173, 1971, 1177] (by decide +kernel) (by decide +kernel) w h).1
theorem zin_55 : ∀ w ∈ wsL_law0_r55, w ∈ lw_tbl := fun w h => (goodIn_p (big := lw_tbl) wsL_law0_r55 [1181, 1185, 1190, 1196, 1980, 1984] (by decide +kernel) (by decide +kernel) w h).1
theorem zin_56 : ∀ w ∈ wsL_law0_r56, w ∈ lw_tbl := fun w h => (goodIn_p (big := lw_tbl) wsL_law0_r56 [1988, 1200, 1992, 1205, 1996] (by decide +kernel) (by decide +kernel) w h).1
theorem zin_57 : ∀ w ∈ wsL_law0_r57, w ∈ lw_tbl := fun w h => (goodIn_p (big := lw_tbl) wsL_law0_r57 [1209, 1213, 2000, 1217, 2004, 1221] (by decide +kernel) (by decide +kernel) w h).1
theorem zin_58 : ∀ w ∈ wsL_law0_r58, w ∈ lw_tbl := fun w h => (goodIn_p (big := lw_tbl) wsL_law0_r58 [1225, 1230, 2008, 1235, 1239, 1243] (by decide +kernel) (by decide +kernel) w h).1
theorem zin_59 : ∀ w ∈ wsL_law0_r59, w ∈ lw_tbl := fun w h => (goodIn_p (big := lw_tbl) wsL_law0_r59 [1247, 1252, 1257] (by decide +kernel) (by decide +kernel) w h).1
theorem zin_60 : ∀ w ∈ wsL_law0_r60, w ∈ lw_tbl := fun w h => (goodIn_p (big := lw_tbl) wsL_law0_r60 [1262, 1267, 1273, 1278] (by decide +kernel) (by decide +kernel) w h).1
theorem zin_61 : ∀ w ∈ wsL_law0_r61, w ∈ lw_tbl := fun w h => (goodIn_p (big := lw_tbl) wsL_law0_r61 [2020, 2024, 2028, 1282, 2032] (by decide +kernel) (by decide +kernel) w h).1
theorem zin_62 : ∀ w ∈ wsL_law0_r62, w ∈ lw_tbl := fun w h => (goodIn_p (big := lw_tbl) wsL_law0_r62 [1286, 1290, 2036, 1294, 1298, 2040] (by decide +kernel) (by decide +kernel) w h).1
theorem zin_63 : ∀ w ∈ wsL_law0_r63, w ∈ lw_tbl := fun w h => (goodIn_p (big := lw_tbl) wsL_law0_r63 [1302, 1306, 1310, 2012, 1315, 1319] (by decide +kernel) (by decide +kernel) w h).1
theorem zin_64 : ∀ w ∈ wsL_law0_r64, w ∈ lw_tbl := fun w h => (goodIn_p (big := lw_tbl) wsL_law0_r64 [2016, 1324, 1328, 1975] (by decide +kernel) (by decide +kernel) w h).1
theorem zin_65 : ∀ w ∈ wsL_law0_r65, w ∈ lw_tbl := fun w h => (goodIn_p (big := lw_tbl) wsL_law0_r65 [1365, 1368, 1436, 1439, 2044, 2047] (by decide +kernel) (by decide +kernel) w h).1
theorem zin_66 : ∀ w ∈ wsL_law0_r66, w ∈ lw_tbl := fun w h => (goodIn_p (big := lw_tbl) wsL_law0_r66 [1443, 1333, 1342, 2051] (by decide +kernel) (by decide +kernel) w h).1
theorem zin_67 : ∀ w ∈ wsL_law0_r67, w ∈ lw_tbl := fun w h => (goodIn_p (big := lw_tbl) wsL_law0_r67 [2055, 2059, 2063, 1348, 1352] (by decide +kernel) (by decide +kernel) w h).1
theorem zin_68 : ∀ w ∈ wsL_law0_r68, w ∈ lw_tbl := fun w h => (goodIn_p (big := lw_tbl) wsL_law0_r68 [2071, 1356, 2075, 2079] (by decide +kernel) (by decide +kernel) w h).1
theorem zinX11 : ∀ w ∈ wsX110, w ∈ lw_tbl := by decide +kernel
theorem zinX12 : ∀ w ∈ wsX120, w ∈ lw_tbl := by decide +kernel
theorem zinX10 : ∀ w ∈ wsX100, w ∈ lw_tbl := by decide +kernel
theorem zinX1 : ∀ w ∈ wsX10, w ∈ lw_tbl := by decide +kernel
theorem zinX3 : ∀ w ∈ wsX30, w ∈ lw_tbl := by decide +kernel
theorem zinX6 : ∀ w ∈ wsX60, w ∈ lw_tbl := by decide +kernel
theorem zinX8 : ∀ w ∈ wsX80, w ∈ lw_tbl := by decide +kernel
theorem zinX9 : ∀ w ∈ wsX90, w ∈ lw_tbl := by decide +kernel
theorem zinX4 : ∀ w ∈ wsX40, w ∈ lw_tbl := by decide +kernel
theorem zinX0 : ∀ w ∈ wsX00, w ∈ lw_tbl := by decide +kernel
theorem zinX5 : ∀ w ∈ wsX50, w ∈ lw_tbl := by decide +kernel
theorem zinX7 : ∀ w ∈ wsX70, w ∈ lw_tbl := by decide +kernel
theorem zinX2 : ∀ w ∈ wsX20, w ∈ lw_tbl := by decide +kernel
set_option maxRecDepth 20000 in
theorem wsL_law_in0 : ∀ w ∈ wsL_law0, w ∈ lw_tbl := by
  unfold wsL_law0
  exact List.forall_mem_append.mpr ⟨List.forall_mem_append.mpr ⟨List.forall_mem_append.mpr ⟨List.forall_mem_append.mpr ⟨List.forall_mem_append.mpr ⟨List.forall_mem_append.mpr ⟨List.forall_mem_append.mpr ⟨List.forall_mem_append.mpr ⟨List.forall_mem_append.mpr ⟨List.forall_mem_append.mpr ⟨List.forall_mem_append.mpr ⟨List.forall_mem_append.mpr ⟨List.forall_mem_append.mpr ⟨List.forall_mem_append.mpr ⟨List.forall_mem_append.mpr ⟨zin_1, List.forall_mem_append.mpr ⟨zin_2, List.forall_mem_append.mpr ⟨zin_3, List.forall_mem_append.mpr ⟨zin_4, List.forall_mem_append.mpr ⟨zin_5, List.forall_mem_append.mpr ⟨zin_6, List.forall_mem_append.mpr ⟨zin_7, List.forall_mem_append.mpr ⟨zin_8, List.forall_mem_append.mpr ⟨zin_9, List.forall_mem_append.mpr ⟨zin_10, List.forall_mem_append.mpr ⟨zin_11, List.forall_mem_append.mpr ⟨zin_12, List.forall_mem_append.mpr ⟨zin_13, List.forall_mem_append.mpr ⟨zin_14, List.forall_mem_append.mpr ⟨zin_15, List.forall_mem_append.mpr ⟨zin_16, List.forall_mem_append.mpr ⟨zin_17, List.forall_mem_append.mpr ⟨zin_18, List.forall_mem_append.mpr ⟨zin_19, List.forall_mem_append.mpr ⟨zin_20, List.forall_mem_append.mpr ⟨zin_21, List.forall_mem_append.mpr ⟨zin_22, List.forall_mem_append.mpr ⟨zin_23, List.forall_mem_append.mpr ⟨zin_24, List.forall_mem_append.mpr ⟨zin_25, List.forall_mem_append.mpr ⟨zin_26, List.forall_mem_append.mpr ⟨zin_27, List.forall_mem_append.mpr ⟨zin_28, List.forall_mem_append.mpr ⟨zin_29, List.forall_mem_append.mpr ⟨zin_30, List.forall_mem_append.mpr ⟨zin_31, List.forall_mem_append.mpr ⟨zin_32, List.forall_mem_append.mpr ⟨zin_33, List.forall_mem_append.mpr ⟨zin_34, List.forall_mem_append.mpr ⟨zin_35, List.forall_mem_append.mpr ⟨zin_36, List.forall_mem_append.mpr ⟨zin_37, List.forall_mem_append.mpr ⟨zin_38, List.forall_mem_append.mpr ⟨zin_39, List.forall_mem_append.mpr ⟨zin_40, List.forall_mem_append.mpr ⟨zin_41, List.forall_mem_append.mpr ⟨zin_42, List.forall_mem_append.mpr ⟨zin_43, List.forall_mem_append.mpr ⟨zin_44, List.forall_mem_append.mpr ⟨zin_45, List.forall_mem_append.mpr ⟨zin_46, List.forall_mem_append.mpr ⟨zin_47, List.forall_mem_append.mpr ⟨zin_48, List.forall_mem_append.mpr ⟨zin_49, List.forall_mem_append.mpr ⟨zin_50, List.forall_mem_append.mpr ⟨zin_51, List.forall_mem_append.mpr ⟨zin_52, List.forall_mem_append.mpr ⟨zin_53, List.forall_mem_append.mpr ⟨zin_54, List.forall_mem_append.mpr ⟨zin_55, List.forall_mem_append.mpr ⟨zin_56, List.forall_mem_append.mpr ⟨zin_57, List.forall_mem_append.mpr ⟨zin_58, List.forall_mem_append.mpr ⟨zin_59, List.forall_mem_append.mpr ⟨zin_60, List.forall_mem_append.mpr ⟨zin_61, List.forall_mem_append.mpr ⟨zin_62, List.forall_mem_append.mpr ⟨zin_63, List.forall_mem_append.mpr ⟨zin_64, List.forall_mem_append.mpr ⟨zin_65, List.forall_mem_append.mpr ⟨zin_66, List.forall_mem_append.mpr ⟨zin_67, zin_68⟩⟩⟩⟩⟩⟩⟩⟩⟩⟩⟩⟩⟩⟩⟩⟩⟩⟩⟩⟩⟩⟩⟩⟩⟩⟩⟩⟩⟩⟩⟩⟩⟩⟩⟩⟩⟩⟩⟩⟩⟩⟩⟩⟩⟩⟩⟩⟩⟩⟩⟩⟩⟩⟩⟩⟩⟩⟩⟩⟩⟩⟩⟩⟩⟩⟩⟩, zinX11⟩, zinX12⟩, zinX10⟩, zinX1⟩, zinX3⟩, zinX6⟩, zinX8⟩, zinX9⟩, zinX4⟩, zinX0⟩, zinX5⟩, zinX7⟩, zinX2⟩, fun w h => absurd h List.not_mem_nil⟩
