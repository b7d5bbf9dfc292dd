/-! The words of the law are the tables': each by its place -/
theorem zin_q {big ws : List Cond} (ps qs : List Nat) (hp : ws.filter k2_isCode = ps.filterMap (fun i => big[i]?)) (hq : ws.filter (fun w => !k2_isCode w) = qs.filterMap (fun i => big[i]?)) : ∀ w ∈ ws, w ∈ big := by
  intro w hw
  have go : ∀ l : List Nat, w ∈ l.filterMap (fun i => big[i]?) → w ∈ big := fun l h => by
    obtain ⟨i, -, hi⟩ := List.mem_filterMap.mp h
    exact List.mem_of_getElem? hi
  by_cases hc : k2_isCode w = true
  · exact go ps (by rw [← hp]; exact List.mem_filter.mpr ⟨hw, hc⟩)
  · exact go qs (by rw [← hq]; exact List.mem_filter.mpr ⟨hw, by simpa using hc⟩)
set_option maxRecDepth 100000 in
theorem zin_1 : ∀ w ∈ wsL_law0_r1, w ∈ lw_tbl := zin_q [141, 144] [137, 138, 111, 1454, 1452, 123, 437, 2081, 139, 140, 142, 143, 145, 146, 112, 485, 195, 196, 113, 486, 240, 241] rfl (by decide +kernel)
set_option maxRecDepth 100000 in
theorem zin_2 : ∀ w ∈ wsL_law0_r2, w ∈ lw_tbl := zin_q [] [115, 487, 488, 271, 489, 254, 255, 117, 490, 272, 273, 118, 491, 315, 316, 119, 492, 325, 326, 120, 493, 361, 362, 121] rfl (by decide +kernel)
set_option maxRecDepth 100000 in
theorem zin_3 : ∀ w ∈ wsL_law0_r3, w ∈ lw_tbl := zin_q [149, 199] [494, 495, 438, 439, 122, 496, 497, 148, 150, 194, 151, 197, 198, 200, 220, 223, 221, 201, 202, 114, 222, 203] rfl (by decide +kernel)
set_option maxRecDepth 100000 in
theorem zin_4 : ∀ w ∈ wsL_law0_r4, w ∈ lw_tbl := zin_q [205, 244, 248, 258, 276] [204, 206, 208, 209, 207, 242, 243, 245, 249, 246, 247, 116, 257, 259, 262, 263, 275, 277, 278] rfl (by decide +kernel)
set_option maxRecDepth 100000 in
theorem zin_5 : ∀ w ∈ wsL_law0_r5, w ∈ lw_tbl := zin_q [319, 329, 365] [280, 286, 288, 290, 292, 318, 320, 321, 328, 330, 331, 341, 363, 364, 366, 375, 377, 380, 382, 367, 385] rfl (by decide +kernel)
set_option maxRecDepth 100000 in
theorem zin_6 : ∀ w ∈ wsL_law0_r6, w ∈ lw_tbl := zin_q [442, 1457] [396, 400, 403, 405, 408, 369, 441, 443, 448, 456, 457, 458, 444, 459, 445, 1455, 1456, 1458, 1524, 1527, 1528, 1529] rfl (by decide +kernel)
set_option maxRecDepth 100000 in
theorem zin_7 : ∀ w ∈ wsL_law0_r7, w ∈ lw_tbl := zin_q [] [1459, 1460, 1461, 1462, 1463, 1464, 1465, 1466, 1467, 1468, 1469, 1470, 1471, 1472, 1473, 1474, 1475, 1476, 1477, 1478, 1479, 1532, 1533, 1534] rfl (by decide +kernel)
set_option maxRecDepth 100000 in
theorem zin_8 : ∀ w ∈ wsL_law0_r8, w ∈ lw_tbl := zin_q [] [1535, 1537, 1538, 1540, 1541, 1542, 1543, 1545, 1546, 1547, 1548, 1549, 1550, 1551, 1557, 1558, 1559, 1560, 1561, 1562, 1563, 1564, 1480, 1482] rfl (by decide +kernel)
set_option maxRecDepth 100000 in
theorem zin_9 : ∀ w ∈ wsL_law0_r9, w ∈ lw_tbl := zin_q [1483, 1487, 1491, 1495, 1499, 1503] [42, 1484, 1486, 43, 1544, 1488, 1490, 44, 1492, 1494, 45, 1496, 1498, 46, 1500, 1502, 47, 1504] rfl (by decide +kernel)
set_option maxRecDepth 100000 in
theorem zin_10 : ∀ w ∈ wsL_law0_r10, w ∈ lw_tbl := zin_q [1507, 1511, 1515, 1518, 1522, 531] [1506, 48, 1508, 1510, 49, 1512, 1514, 50, 1516, 1517, 1519, 1521, 51, 528, 529, 530, 152, 532] rfl (by decide +kernel)
set_option maxRecDepth 100000 in
theorem zin_11 : ∀ w ∈ wsL_law0_r11, w ∈ lw_tbl := zin_q [535, 1448, 1453, 539] [533, 534, 153, 1445, 1446, 1447, 1523, 1525, 1449, 1451, 41, 536, 537, 538, 261, 279, 281, 332, 540, 541] rfl (by decide +kernel)
set_option maxRecDepth 100000 in
theorem zin_12 : ∀ w ∈ wsL_law0_r12, w ∈ lw_tbl := zin_q [543, 547, 551, 555] [542, 224, 225, 154, 162, 169, 544, 545, 546, 370, 387, 390, 548, 549, 550, 210, 552, 554, 0, 556] rfl (by decide +kernel)
set_option maxRecDepth 100000 in
theorem zin_13 : ∀ w ∈ wsL_law0_r13, w ∈ lw_tbl := zin_q [559, 563, 566, 571] [557, 558, 172, 170, 560, 561, 562, 158, 165, 156, 166, 168, 159, 564, 565, 568, 569, 570, 124, 572] rfl (by decide +kernel)
set_option maxRecDepth 100000 in
theorem zin_14 : ∀ w ∈ wsL_law0_r14, w ∈ lw_tbl := zin_q [575, 579, 585, 589, 592] [573, 574, 2100, 576, 577, 578, 580, 2099, 582, 583, 584, 586, 587, 588, 590, 591, 125, 596, 597] rfl (by decide +kernel)
set_option maxRecDepth 100000 in
theorem zin_15 : ∀ w ∈ wsL_law0_r15, w ∈ lw_tbl := zin_q [598, 601, 595, 604, 607, 613, 616] [126, 599, 600, 593, 594, 602, 603, 605, 606, 127, 608, 609, 610, 611, 612, 614, 615] rfl (by decide +kernel)
set_option maxRecDepth 100000 in
theorem zin_16 : ∀ w ∈ wsL_law0_r16, w ∈ lw_tbl := zin_q [619, 622, 627, 630, 633, 642] [617, 618, 620, 621, 623, 625, 626, 128, 628, 629, 631, 632, 634, 636, 638, 640, 641, 643] rfl (by decide +kernel)
set_option maxRecDepth 100000 in
theorem zin_17 : ∀ w ∈ wsL_law0_r17, w ∈ lw_tbl := zin_q [645, 648, 652, 656, 659, 665] [644, 129, 646, 647, 649, 650, 651, 653, 654, 655, 657, 658, 682, 661, 662, 663, 664, 666] rfl (by decide +kernel)
set_option maxRecDepth 100000 in
theorem zin_18 : ∀ w ∈ wsL_law0_r18, w ∈ lw_tbl := zin_q [668, 671, 674, 677, 680, 686] [667, 669, 670, 672, 673, 675, 676, 678, 679, 681, 683, 685, 1, 371, 167, 376, 378, 687] rfl (by decide +kernel)
set_option maxRecDepth 100000 in
theorem zin_19 : ∀ w ∈ wsL_law0_r19, w ∈ lw_tbl := zin_q [690, 695, 699, 703, 707] [688, 689, 691, 692, 693, 694, 696, 697, 698, 700, 701, 702, 704, 705, 706, 708, 709, 711, 2] rfl (by decide +kernel)
set_option maxRecDepth 100000 in
theorem zin_20 : ∀ w ∈ wsL_law0_r20, w ∈ lw_tbl := zin_q [712, 716, 720, 725, 729] [388, 713, 714, 715, 717, 719, 3, 393, 226, 721, 722, 724, 4, 399, 726, 728, 5, 401, 730] rfl (by decide +kernel)
set_option maxRecDepth 100000 in
theorem zin_21 : ∀ w ∈ wsL_law0_r21, w ∈ lw_tbl := zin_q [733, 737, 741, 747, 751] [732, 6, 734, 736, 7, 738, 739, 740, 742, 743, 744, 746, 8, 160, 407, 748, 750, 9, 752] rfl (by decide +kernel)
set_option maxRecDepth 100000 in
theorem zin_22 : ∀ w ∈ wsL_law0_r22, w ∈ lw_tbl := zin_q [755, 759, 786, 782, 775] [753, 754, 756, 758, 10, 164, 760, 762, 11, 778, 776, 777, 772, 774, 14, 157, 161, 779, 781] rfl (by decide +kernel)
set_option maxRecDepth 100000 in
theorem zin_23 : ∀ w ∈ wsL_law0_r23, w ∈ lw_tbl := zin_q [771, 767, 763, 790, 794] [15, 783, 785, 16, 768, 770, 13, 764, 766, 12, 787, 788, 789, 791, 792, 793, 795, 796, 797] rfl (by decide +kernel)
set_option maxRecDepth 100000 in
theorem zin_24 : ∀ w ∈ wsL_law0_r24, w ∈ lw_tbl := zin_q [798, 801, 805, 808, 811, 815, 819] [799, 800, 802, 803, 804, 806, 807, 809, 810, 812, 813, 814, 446, 816, 817, 818, 406] rfl (by decide +kernel)
set_option maxRecDepth 100000 in
theorem zin_25 : ∀ w ∈ wsL_law0_r25, w ∈ lw_tbl := zin_q [1656, 1660, 1663] [820, 822, 821, 130, 1653, 1654, 1655, 1536, 1531, 1530, 1657, 1659, 52, 1526, 1664, 1671, 1672, 1661, 1662, 1665, 1666] rfl (by decide +kernel)
set_option maxRecDepth 100000 in
theorem zin_26 : ∀ w ∈ wsL_law0_r26, w ∈ lw_tbl := zin_q [1667, 1670, 1675, 1679, 1683, 1687, 1691] [1668, 1669, 1673, 1674, 1676, 1678, 53, 1680, 1682, 54, 1684, 1686, 55, 1688, 1690, 56, 1692] rfl (by decide +kernel)
set_option maxRecDepth 100000 in
theorem zin_27 : ∀ w ∈ wsL_law0_r27, w ∈ lw_tbl := zin_q [1695, 1699, 1703, 1707, 1711, 1715] [1694, 57, 1696, 1698, 58, 1700, 1702, 59, 1704, 1706, 60, 1708, 1710, 61, 1539, 1712, 1714, 62] rfl (by decide +kernel)
set_option maxRecDepth 100000 in
theorem zin_28 : ∀ w ∈ wsL_law0_r28, w ∈ lw_tbl := zin_q [1719, 1723, 1727, 1731, 1735, 1739] [1716, 1718, 63, 1720, 1722, 64, 1724, 1726, 65, 1728, 1730, 66, 1732, 1734, 67, 1736, 1738, 68] rfl (by decide +kernel)
set_option maxRecDepth 100000 in
theorem zin_29 : ∀ w ∈ wsL_law0_r29, w ∈ lw_tbl := zin_q [1743, 1747, 1751, 1755, 1775, 1767] [1740, 1742, 69, 1744, 1746, 70, 1748, 1750, 71, 1752, 1754, 72, 1756, 1758, 73, 1772, 1774, 77] rfl (by decide +kernel)
set_option maxRecDepth 100000 in
theorem zin_30 : ∀ w ∈ wsL_law0_r30, w ∈ lw_tbl := zin_q [1779, 1763, 1771, 1759, 827, 831] [1768, 1770, 76, 1776, 1778, 78, 1764, 1766, 75, 1760, 1762, 74, 824, 825, 826, 828, 829, 830] rfl (by decide +kernel)
set_option maxRecDepth 100000 in
theorem zin_31 : ∀ w ∈ wsL_law0_r31, w ∈ lw_tbl := zin_q [837, 845] [461, 460, 155, 171, 832, 833, 834, 836, 17, 163, 392, 838, 839, 840, 841, 842, 844, 18, 846, 1780, 1781, 1782] rfl (by decide +kernel)
set_option maxRecDepth 100000 in
theorem zin_32 : ∀ w ∈ wsL_law0_r32, w ∈ lw_tbl := zin_q [1783, 1787, 850, 854, 858] [1784, 1786, 79, 847, 848, 849, 379, 383, 381, 851, 853, 19, 374, 855, 856, 857, 1788, 1789, 1790] rfl (by decide +kernel)
set_option maxRecDepth 100000 in
theorem zin_33 : ∀ w ∈ wsL_law0_r33, w ∈ lw_tbl := zin_q [1791, 1795, 1798, 862, 866, 870] [1792, 1794, 80, 1796, 1797, 859, 860, 861, 397, 863, 865, 20, 395, 867, 868, 869, 871, 872] rfl (by decide +kernel)
set_option maxRecDepth 100000 in
theorem zin_34 : ∀ w ∈ wsL_law0_r34, w ∈ lw_tbl := zin_q [874, 877, 881, 886, 898] [873, 875, 876, 878, 880, 21, 409, 498, 882, 883, 131, 402, 885, 887, 888, 889, 895, 896, 897] rfl (by decide +kernel)
