/-! The words of the law are the tables' -/
set_option maxRecDepth 100000 in
theorem zin_1 : ∀ w ∈ wsL_law0_r1, w ∈ lw_tbl := fun w h => (goodIn_p (big := lw_tbl) wsL_law0_r1 [141, 144] rfl (by decide +kernel) w h).1
set_option maxRecDepth 100000 in
theorem zin_2 : ∀ w ∈ wsL_law0_r2, w ∈ lw_tbl := fun w h => (goodIn_p (big := lw_tbl) wsL_law0_r2 [] rfl (by decide +kernel) w h).1
set_option maxRecDepth 100000 in
theorem zin_3 : ∀ w ∈ wsL_law0_r3, w ∈ lw_tbl := fun w h => (goodIn_p (big := lw_tbl) wsL_law0_r3 [149, 199] rfl (by decide +kernel) w h).1
set_option maxRecDepth 100000 in
theorem zin_4 : ∀ w ∈ wsL_law0_r4, w ∈ lw_tbl := fun w h => (goodIn_p (big := lw_tbl) wsL_law0_r4 [205, 244, 248, 258, 276] rfl (by decide +kernel) w h).1
set_option maxRecDepth 100000 in
theorem zin_5 : ∀ w ∈ wsL_law0_r5, w ∈ lw_tbl := fun w h => (goodIn_p (big := lw_tbl) wsL_law0_r5 [319, 329, 365] rfl (by decide +kernel) w h).1
set_option maxRecDepth 100000 in
theorem zin_6 : ∀ w ∈ wsL_law0_r6, w ∈ lw_tbl := fun w h => (goodIn_p (big := lw_tbl) wsL_law0_r6 [442, 1456] rfl (by decide +kernel) w h).1
set_option maxRecDepth 100000 in
theorem zin_7 : ∀ w ∈ wsL_law0_r7, w ∈ lw_tbl := fun w h => (goodIn_p (big := lw_tbl) wsL_law0_r7 [] rfl (by decide +kernel) w h).1
set_option maxRecDepth 100000 in
theorem zin_8 : ∀ w ∈ wsL_law0_r8, w ∈ lw_tbl := fun w h => (goodIn_p (big := lw_tbl) wsL_law0_r8 [] rfl (by decide +kernel) w h).1
set_option maxRecDepth 100000 in
theorem zin_9 : ∀ w ∈ wsL_law0_r9, w ∈ lw_tbl := fun w h => (goodIn_p (big := lw_tbl) wsL_law0_r9 [1482, 1486, 1490, 1494, 1498, 1502] rfl (by decide +kernel) w h).1
set_option maxRecDepth 100000 in
theorem zin_10 : ∀ w ∈ wsL_law0_r10, w ∈ lw_tbl := fun w h => (goodIn_p (big := lw_tbl) wsL_law0_r10 [1506, 1510, 1514, 1517, 1521, 531] rfl (by decide +kernel) w h).1
set_option maxRecDepth 100000 in
theorem zin_11 : ∀ w ∈ wsL_law0_r11, w ∈ lw_tbl := fun w h => (goodIn_p (big := lw_tbl) wsL_law0_r11 [535, 1447, 1452, 539] rfl (by decide +kernel) w h).1
set_option maxRecDepth 100000 in
theorem zin_12 : ∀ w ∈ wsL_law0_r12, w ∈ lw_tbl := fun w h => (goodIn_p (big := lw_tbl) wsL_law0_r12 [543, 547, 551, 555] rfl (by decide +kernel) w h).1
set_option maxRecDepth 100000 in
theorem zin_13 : ∀ w ∈ wsL_law0_r13, w ∈ lw_tbl := fun w h => (goodIn_p (big := lw_tbl) wsL_law0_r13 [559, 563, 566, 571] rfl (by decide +kernel) w h).1
set_option maxRecDepth 100000 in
theorem zin_14 : ∀ w ∈ wsL_law0_r14, w ∈ lw_tbl := fun w h => (goodIn_p (big := lw_tbl) wsL_law0_r14 [575, 579, 585, 589, 592] rfl (by decide +kernel) w h).1
set_option maxRecDepth 100000 in
theorem zin_15 : ∀ w ∈ wsL_law0_r15, w ∈ lw_tbl := fun w h => (goodIn_p (big := lw_tbl) wsL_law0_r15 [598, 601, 595, 604, 607, 613, 616] rfl (by decide +kernel) w h).1
set_option maxRecDepth 100000 in
theorem zin_16 : ∀ w ∈ wsL_law0_r16, w ∈ lw_tbl := fun w h => (goodIn_p (big := lw_tbl) wsL_law0_r16 [619, 622, 627, 630, 633, 642] rfl (by decide +kernel) w h).1
set_option maxRecDepth 100000 in
theorem zin_17 : ∀ w ∈ wsL_law0_r17, w ∈ lw_tbl := fun w h => (goodIn_p (big := lw_tbl) wsL_law0_r17 [645, 648, 652, 656, 659, 665] rfl (by decide +kernel) w h).1
set_option maxRecDepth 100000 in
theorem zin_18 : ∀ w ∈ wsL_law0_r18, w ∈ lw_tbl := fun w h => (goodIn_p (big := lw_tbl) wsL_law0_r18 [668, 671, 674, 677, 680, 686] rfl (by decide +kernel) w h).1
set_option maxRecDepth 100000 in
theorem zin_19 : ∀ w ∈ wsL_law0_r19, w ∈ lw_tbl := fun w h => (goodIn_p (big := lw_tbl) wsL_law0_r19 [690, 695, 699, 703, 707] rfl (by decide +kernel) w h).1
set_option maxRecDepth 100000 in
theorem zin_20 : ∀ w ∈ wsL_law0_r20, w ∈ lw_tbl := fun w h => (goodIn_p (big := lw_tbl) wsL_law0_r20 [712, 716, 720, 725, 729] rfl (by decide +kernel) w h).1
set_option maxRecDepth 100000 in
theorem zin_21 : ∀ w ∈ wsL_law0_r21, w ∈ lw_tbl := fun w h => (goodIn_p (big := lw_tbl) wsL_law0_r21 [733, 737, 741, 747, 751] rfl (by decide +kernel) w h).1
set_option maxRecDepth 100000 in
theorem zin_22 : ∀ w ∈ wsL_law0_r22, w ∈ lw_tbl := fun w h => (goodIn_p (big := lw_tbl) wsL_law0_r22 [755, 759, 786, 782, 775] rfl (by decide +kernel) w h).1
set_option maxRecDepth 100000 in
theorem zin_23 : ∀ w ∈ wsL_law0_r23, w ∈ lw_tbl := fun w h => (goodIn_p (big := lw_tbl) wsL_law0_r23 [771, 767, 763, 790, 794] rfl (by decide +kernel) w h).1
set_option maxRecDepth 100000 in
theorem zin_24 : ∀ w ∈ wsL_law0_r24, w ∈ lw_tbl := fun w h => (goodIn_p (big := lw_tbl) wsL_law0_r24 [798, 801, 805, 808, 811, 815, 819] rfl (by decide +kernel) w h).1
set_option maxRecDepth 100000 in
theorem zin_25 : ∀ w ∈ wsL_law0_r25, w ∈ lw_tbl := fun w h => (goodIn_p (big := lw_tbl) wsL_law0_r25 [1655, 1659, 1662] rfl (by decide +kernel) w h).1
set_option maxRecDepth 100000 in
theorem zin_26 : ∀ w ∈ wsL_law0_r26, w ∈ lw_tbl := fun w h => (goodIn_p (big := lw_tbl) wsL_law0_r26 [1666, 1669, 1674, 1678, 1682, 1686, 1690] rfl (by decide +kernel) w h).1
set_option maxRecDepth 100000 in
theorem zin_27 : ∀ w ∈ wsL_law0_r27, w ∈ lw_tbl := fun w h => (goodIn_p (big := lw_tbl) wsL_law0_r27 [1694, 1698, 1702, 1706, 1710, 1714] rfl (by decide +kernel) w h).1
set_option maxRecDepth 100000 in
theorem zin_28 : ∀ w ∈ wsL_law0_r28, w ∈ lw_tbl := fun w h => (goodIn_p (big := lw_tbl) wsL_law0_r28 [1718, 1722, 1726, 1730, 1734, 1738] rfl (by decide +kernel) w h).1
set_option maxRecDepth 100000 in
theorem zin_29 : ∀ w ∈ wsL_law0_r29, w ∈ lw_tbl := fun w h => (goodIn_p (big := lw_tbl) wsL_law0_r29 [1742, 1746, 1750, 1754, 1774, 1766] rfl (by decide +kernel) w h).1
set_option maxRecDepth 100000 in
theorem zin_30 : ∀ w ∈ wsL_law0_r30, w ∈ lw_tbl := fun w h => (goodIn_p (big := lw_tbl) wsL_law0_r30 [1778, 1762, 1770, 1758, 827, 831] rfl (by decide +kernel) w h).1
set_option maxRecDepth 100000 in
theorem zin_31 : ∀ w ∈ wsL_law0_r31, w ∈ lw_tbl := fun w h => (goodIn_p (big := lw_tbl) wsL_law0_r31 [837, 845] rfl (by decide +kernel) w h).1
set_option maxRecDepth 100000 in
theorem zin_32 : ∀ w ∈ wsL_law0_r32, w ∈ lw_tbl := fun w h => (goodIn_p (big := lw_tbl) wsL_law0_r32 [1782, 1786, 850, 854, 858] rfl (by decide +kernel) w h).1
set_option maxRecDepth 100000 in
theorem zin_33 : ∀ w ∈ wsL_law0_r33, w ∈ lw_tbl := fun w h => (goodIn_p (big := lw_tbl) wsL_law0_r33 [1790, 1794, 1797, 862, 866, 870] rfl (by decide +kernel) w h).1
set_option maxRecDepth 100000 in
theorem zin_34 : ∀ w ∈ wsL_law0_r34, w ∈ lw_tbl := fun w h => (goodIn_p (big := lw_tbl) wsL_law0_r34 [874, 877, 881, 886, 898] rfl (by decide +kernel) w h).1
