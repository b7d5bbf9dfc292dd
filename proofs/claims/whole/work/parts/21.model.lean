theorem dX12_readItems_0 : decode cX12_readItems 0 = .ok (.aload_n 0, 1) := by decide +kernel
theorem dX12_readItems_1 : decode cX12_readItems 1 = .ok (.getfield 248, 3) := by decide +kernel
theorem dX12_readItems_4 : decode cX12_readItems 4 = .ok (.istore_n 2, 1) := by decide +kernel
theorem dX12_readItems_5 : decode cX12_readItems 5 = .ok (.aload_n 0, 1) := by decide +kernel
theorem dX12_readItems_6 : decode cX12_readItems 6 = .ok (.bipush 40, 2) := by decide +kernel
theorem dX12_readItems_8 : decode cX12_readItems 8 = .ok (.invokevirtual 188, 3) := by decide +kernel
theorem dX12_readItems_11 : decode cX12_readItems 11 = .ok (.ifCond .eq 52, 3) := by decide +kernel
theorem dX12_readItems_14 : decode cX12_readItems 14 = .ok (.iload_n 1, 1) := by decide +kernel
theorem dX12_readItems_15 : decode cX12_readItems 15 = .ok (.iconst 3, 1) := by decide +kernel
theorem dX12_readItems_16 : decode cX12_readItems 16 = .ok (.if_icmp .ne 9, 3) := by decide +kernel
theorem dX12_readItems_19 : decode cX12_readItems 19 = .ok (.aload_n 0, 1) := by decide +kernel
theorem dX12_readItems_20 : decode cX12_readItems 20 = .ok (.iconst 5, 1) := by decide +kernel
theorem dX12_readItems_21 : decode cX12_readItems 21 = .ok (.invokevirtual 191, 3) := by decide +kernel
theorem dX12_readItems_24 : decode cX12_readItems 24 = .ok (.return_, 1) := by decide +kernel
theorem dX12_readItems_25 : decode cX12_readItems 25 = .ok (.aload_n 0, 1) := by decide +kernel
theorem dX12_readItems_26 : decode cX12_readItems 26 = .ok (.dup, 1) := by decide +kernel
theorem dX12_readItems_27 : decode cX12_readItems 27 = .ok (.getfield 182, 3) := by decide +kernel
theorem dX12_readItems_30 : decode cX12_readItems 30 = .ok (.iconst 1, 1) := by decide +kernel
theorem dX12_readItems_31 : decode cX12_readItems 31 = .ok (.iadd, 1) := by decide +kernel
theorem dX12_readItems_32 : decode cX12_readItems 32 = .ok (.putfield 182, 3) := by decide +kernel
theorem dX12_readItems_35 : decode cX12_readItems 35 = .ok (.aload_n 0, 1) := by decide +kernel
theorem dX12_readItems_36 : decode cX12_readItems 36 = .ok (.iload_n 1, 1) := by decide +kernel
theorem dX12_readItems_37 : decode cX12_readItems 37 = .ok (.iconst 1, 1) := by decide +kernel
theorem dX12_readItems_38 : decode cX12_readItems 38 = .ok (.iadd, 1) := by decide +kernel
theorem dX12_readItems_39 : decode cX12_readItems 39 = .ok (.invokevirtual 251, 3) := by decide +kernel
theorem dX12_readItems_42 : decode cX12_readItems 42 = .ok (.aload_n 0, 1) := by decide +kernel
theorem dX12_readItems_43 : decode cX12_readItems 43 = .ok (.bipush 41, 2) := by decide +kernel
theorem dX12_readItems_45 : decode cX12_readItems 45 = .ok (.invokevirtual 220, 3) := by decide +kernel
theorem dX12_readItems_48 : decode cX12_readItems 48 = .ok (.aload_n 0, 1) := by decide +kernel
theorem dX12_readItems_49 : decode cX12_readItems 49 = .ok (.iload_n 2, 1) := by decide +kernel
theorem dX12_readItems_50 : decode cX12_readItems 50 = .ok (.aload_n 0, 1) := by decide +kernel
theorem dX12_readItems_51 : decode cX12_readItems 51 = .ok (.iconst 1, 1) := by decide +kernel
theorem dX12_readItems_52 : decode cX12_readItems 52 = .ok (.bipush 20, 2) := by decide +kernel
theorem dX12_readItems_54 : decode cX12_readItems 54 = .ok (.invokevirtual 229, 3) := by decide +kernel
theorem dX12_readItems_57 : decode cX12_readItems 57 = .ok (.invokevirtual 254, 3) := by decide +kernel
theorem dX12_readItems_60 : decode cX12_readItems 60 = .ok (.goto 53, 3) := by decide +kernel
theorem dX12_readItems_63 : decode cX12_readItems 63 = .ok (.aload_n 0, 1) := by decide +kernel
theorem dX12_readItems_64 : decode cX12_readItems 64 = .ok (.iconst 4, 1) := by decide +kernel
theorem dX12_readItems_65 : decode cX12_readItems 65 = .ok (.aload_n 0, 1) := by decide +kernel
theorem dX12_readItems_66 : decode cX12_readItems 66 = .ok (.getfield 79, 3) := by decide +kernel
theorem dX12_readItems_69 : decode cX12_readItems 69 = .ok (.bipush 30, 2) := by decide +kernel
theorem dX12_readItems_71 : decode cX12_readItems 71 = .ok (.iaload, 1) := by decide +kernel
theorem dX12_readItems_72 : decode cX12_readItems 72 = .ok (.invokevirtual 257, 3) := by decide +kernel
theorem dX12_readItems_75 : decode cX12_readItems 75 = .ok (.istore_n 3, 1) := by decide +kernel
theorem dX12_readItems_76 : decode cX12_readItems 76 = .ok (.aload_n 0, 1) := by decide +kernel
theorem dX12_readItems_77 : decode cX12_readItems 77 = .ok (.iload_n 3, 1) := by decide +kernel
theorem dX12_readItems_78 : decode cX12_readItems 78 = .ok (.invokevirtual 260, 3) := by decide +kernel
theorem dX12_readItems_81 : decode cX12_readItems 81 = .ok (.aload_n 0, 1) := by decide +kernel
theorem dX12_readItems_82 : decode cX12_readItems 82 = .ok (.getfield 185, 3) := by decide +kernel
theorem dX12_readItems_85 : decode cX12_readItems 85 = .ok (.ifCond .ne 28, 3) := by decide +kernel
theorem dX12_readItems_88 : decode cX12_readItems 88 = .ok (.aload_n 0, 1) := by decide +kernel
theorem dX12_readItems_89 : decode cX12_readItems 89 = .ok (.getfield 24, 3) := by decide +kernel
theorem dX12_readItems_92 : decode cX12_readItems 92 = .ok (.aload_n 0, 1) := by decide +kernel
theorem dX12_readItems_93 : decode cX12_readItems 93 = .ok (.getfield 182, 3) := by decide +kernel
theorem dX12_readItems_96 : decode cX12_readItems 96 = .ok (.iaload, 1) := by decide +kernel
theorem dX12_readItems_97 : decode cX12_readItems 97 = .ok (.iconst 2, 1) := by decide +kernel
theorem dX12_readItems_98 : decode cX12_readItems 98 = .ok (.if_icmp .ne 15, 3) := by decide +kernel
theorem dX12_readItems_101 : decode cX12_readItems 101 = .ok (.aload_n 0, 1) := by decide +kernel
theorem dX12_readItems_102 : decode cX12_readItems 102 = .ok (.iload_n 2, 1) := by decide +kernel
theorem dX12_readItems_103 : decode cX12_readItems 103 = .ok (.aload_n 0, 1) := by decide +kernel
theorem dX12_readItems_104 : decode cX12_readItems 104 = .ok (.iconst 1, 1) := by decide +kernel
theorem dX12_readItems_105 : decode cX12_readItems 105 = .ok (.bipush 20, 2) := by decide +kernel
theorem dX12_readItems_107 : decode cX12_readItems 107 = .ok (.invokevirtual 229, 3) := by decide +kernel
theorem dX12_readItems_110 : decode cX12_readItems 110 = .ok (.invokevirtual 254, 3) := by decide +kernel
theorem dX12_readItems_113 : decode cX12_readItems 113 = .ok (.aload_n 0, 1) := by decide +kernel
theorem dX12_readItems_114 : decode cX12_readItems 114 = .ok (.getfield 185, 3) := by decide +kernel
theorem dX12_readItems_117 : decode cX12_readItems 117 = .ok (.ifCond .ne 19, 3) := by decide +kernel
theorem dX12_readItems_120 : decode cX12_readItems 120 = .ok (.aload_n 0, 1) := by decide +kernel
theorem dX12_readItems_121 : decode cX12_readItems 121 = .ok (.bipush 40, 2) := by decide +kernel
theorem dX12_readItems_123 : decode cX12_readItems 123 = .ok (.invokevirtual 188, 3) := by decide +kernel
theorem dX12_readItems_126 : decode cX12_readItems 126 = .ok (.ifCond .ne (-126), 3) := by decide +kernel
theorem dX12_readItems_129 : decode cX12_readItems 129 = .ok (.aload_n 0, 1) := by decide +kernel
theorem dX12_readItems_130 : decode cX12_readItems 130 = .ok (.invokevirtual 204, 3) := by decide +kernel
theorem dX12_readItems_133 : decode cX12_readItems 133 = .ok (.ifCond .ne (-133), 3) := by decide +kernel
theorem dX12_readItems_136 : decode cX12_readItems 136 = .ok (.return_, 1) := by decide +kernel
theorem dX12_takePart_0 : decode cX12_takePart 0 = .ok (.aload_n 0, 1) := by decide +kernel
theorem dX12_takePart_1 : decode cX12_takePart 1 = .ok (.getfield 185, 3) := by decide +kernel
theorem dX12_takePart_4 : decode cX12_takePart 4 = .ok (.ifCond .le 4, 3) := by decide +kernel
theorem dX12_takePart_7 : decode cX12_takePart 7 = .ok (.return_, 1) := by decide +kernel
theorem dX12_takePart_8 : decode cX12_takePart 8 = .ok (.aload_n 0, 1) := by decide +kernel
theorem dX12_takePart_9 : decode cX12_takePart 9 = .ok (.getfield 24, 3) := by decide +kernel
theorem dX12_takePart_12 : decode cX12_takePart 12 = .ok (.aload_n 0, 1) := by decide +kernel
theorem dX12_takePart_13 : decode cX12_takePart 13 = .ok (.getfield 182, 3) := by decide +kernel
theorem dX12_takePart_16 : decode cX12_takePart 16 = .ok (.iaload, 1) := by decide +kernel
theorem dX12_takePart_17 : decode cX12_takePart 17 = .ok (.iconst 2, 1) := by decide +kernel
theorem dX12_takePart_18 : decode cX12_takePart 18 = .ok (.if_icmp .ne 7, 3) := by decide +kernel
theorem dX12_takePart_21 : decode cX12_takePart 21 = .ok (.iconst 1, 1) := by decide +kernel
theorem dX12_takePart_22 : decode cX12_takePart 22 = .ok (.goto 4, 3) := by decide +kernel
theorem dX12_takePart_25 : decode cX12_takePart 25 = .ok (.iconst 0, 1) := by decide +kernel
theorem dX12_takePart_26 : decode cX12_takePart 26 = .ok (.istore_n 2, 1) := by decide +kernel
theorem dX12_takePart_27 : decode cX12_takePart 27 = .ok (.aload_n 0, 1) := by decide +kernel
theorem dX12_takePart_28 : decode cX12_takePart 28 = .ok (.bipush 17, 2) := by decide +kernel
theorem dX12_takePart_30 : decode cX12_takePart 30 = .ok (.iconst 4, 1) := by decide +kernel
theorem dX12_takePart_31 : decode cX12_takePart 31 = .ok (.invokevirtual 200, 3) := by decide +kernel
theorem dX12_takePart_34 : decode cX12_takePart 34 = .ok (.istore_n 3, 1) := by decide +kernel
theorem dX12_takePart_35 : decode cX12_takePart 35 = .ok (.iload_n 3, 1) := by decide +kernel
theorem dX12_takePart_36 : decode cX12_takePart 36 = .ok (.ifCond .ge 33, 3) := by decide +kernel
theorem dX12_takePart_39 : decode cX12_takePart 39 = .ok (.iload_n 2, 1) := by decide +kernel
theorem dX12_takePart_40 : decode cX12_takePart 40 = .ok (.ifCond .ne 29, 3) := by decide +kernel
theorem dX12_takePart_43 : decode cX12_takePart 43 = .ok (.aload_n 0, 1) := by decide +kernel
theorem dX12_takePart_44 : decode cX12_takePart 44 = .ok (.bipush 40, 2) := by decide +kernel
theorem dX12_takePart_46 : decode cX12_takePart 46 = .ok (.invokevirtual 188, 3) := by decide +kernel
theorem dX12_takePart_49 : decode cX12_takePart 49 = .ok (.ifCond .ne 20, 3) := by decide +kernel
theorem dX12_takePart_52 : decode cX12_takePart 52 = .ok (.aload_n 0, 1) := by decide +kernel
theorem dX12_takePart_53 : decode cX12_takePart 53 = .ok (.bipush 14, 2) := by decide +kernel
theorem dX12_takePart_55 : decode cX12_takePart 55 = .ok (.invokevirtual 194, 3) := by decide +kernel
theorem dX12_takePart_58 : decode cX12_takePart 58 = .ok (.ifCond .ne 11, 3) := by decide +kernel
theorem dX12_takePart_61 : decode cX12_takePart 61 = .ok (.aload_n 0, 1) := by decide +kernel
theorem dX12_takePart_62 : decode cX12_takePart 62 = .ok (.iconst 1, 1) := by decide +kernel
theorem dX12_takePart_63 : decode cX12_takePart 63 = .ok (.invokevirtual 191, 3) := by decide +kernel
theorem dX12_takePart_66 : decode cX12_takePart 66 = .ok (.goto 13, 3) := by decide +kernel
theorem dX12_takePart_69 : decode cX12_takePart 69 = .ok (.iload_n 1, 1) := by decide +kernel
theorem dX12_takePart_70 : decode cX12_takePart 70 = .ok (.iconst 5, 1) := by decide +kernel
theorem dX12_takePart_71 : decode cX12_takePart 71 = .ok (.if_icmp .ne 8, 3) := by decide +kernel
theorem dX12_takePart_74 : decode cX12_takePart 74 = .ok (.aload_n 0, 1) := by decide +kernel
theorem dX12_takePart_75 : decode cX12_takePart 75 = .ok (.iconst 5, 1) := by decide +kernel
theorem dX12_takePart_76 : decode cX12_takePart 76 = .ok (.invokevirtual 191, 3) := by decide +kernel
theorem dX12_takePart_79 : decode cX12_takePart 79 = .ok (.aload_n 0, 1) := by decide +kernel
theorem dX12_takePart_80 : decode cX12_takePart 80 = .ok (.getfield 185, 3) := by decide +kernel
theorem dX12_takePart_83 : decode cX12_takePart 83 = .ok (.ifCond .le 4, 3) := by decide +kernel
theorem dX12_takePart_86 : decode cX12_takePart 86 = .ok (.return_, 1) := by decide +kernel
theorem dX12_takePart_87 : decode cX12_takePart 87 = .ok (.aload_n 0, 1) := by decide +kernel
theorem dX12_takePart_88 : decode cX12_takePart 88 = .ok (.bipush 14, 2) := by decide +kernel
theorem dX12_takePart_90 : decode cX12_takePart 90 = .ok (.invokevirtual 197, 3) := by decide +kernel
theorem dX12_takePart_93 : decode cX12_takePart 93 = .ok (.ifCond .eq 19, 3) := by decide +kernel
theorem dX12_takePart_96 : decode cX12_takePart 96 = .ok (.aload_n 0, 1) := by decide +kernel
theorem dX12_takePart_97 : decode cX12_takePart 97 = .ok (.iload_n 1, 1) := by decide +kernel
theorem dX12_takePart_98 : decode cX12_takePart 98 = .ok (.iconst 1, 1) := by decide +kernel
theorem dX12_takePart_99 : decode cX12_takePart 99 = .ok (.iadd, 1) := by decide +kernel
theorem dX12_takePart_100 : decode cX12_takePart 100 = .ok (.invokevirtual 285, 3) := by decide +kernel
theorem dX12_takePart_103 : decode cX12_takePart 103 = .ok (.aload_n 0, 1) := by decide +kernel
theorem dX12_takePart_104 : decode cX12_takePart 104 = .ok (.iconst 3, 1) := by decide +kernel
theorem dX12_takePart_105 : decode cX12_takePart 105 = .ok (.iconst 0, 1) := by decide +kernel
theorem dX12_takePart_106 : decode cX12_takePart 106 = .ok (.invokevirtual 241, 3) := by decide +kernel
theorem dX12_takePart_109 : decode cX12_takePart 109 = .ok (.goto 69, 3) := by decide +kernel
theorem dX12_takePart_112 : decode cX12_takePart 112 = .ok (.aload_n 0, 1) := by decide +kernel
theorem dX12_takePart_113 : decode cX12_takePart 113 = .ok (.bipush 40, 2) := by decide +kernel
theorem dX12_takePart_115 : decode cX12_takePart 115 = .ok (.invokevirtual 279, 3) := by decide +kernel
theorem dX12_takePart_118 : decode cX12_takePart 118 = .ok (.ifCond .eq 19, 3) := by decide +kernel
theorem dX12_takePart_121 : decode cX12_takePart 121 = .ok (.aload_n 0, 1) := by decide +kernel
theorem dX12_takePart_122 : decode cX12_takePart 122 = .ok (.iload_n 1, 1) := by decide +kernel
theorem dX12_takePart_123 : decode cX12_takePart 123 = .ok (.iconst 1, 1) := by decide +kernel
theorem dX12_takePart_124 : decode cX12_takePart 124 = .ok (.iadd, 1) := by decide +kernel
theorem dX12_takePart_125 : decode cX12_takePart 125 = .ok (.invokevirtual 238, 3) := by decide +kernel
theorem dX12_takePart_128 : decode cX12_takePart 128 = .ok (.aload_n 0, 1) := by decide +kernel
theorem dX12_takePart_129 : decode cX12_takePart 129 = .ok (.bipush 41, 2) := by decide +kernel
theorem dX12_takePart_131 : decode cX12_takePart 131 = .ok (.invokevirtual 220, 3) := by decide +kernel
theorem dX12_takePart_134 : decode cX12_takePart 134 = .ok (.goto 44, 3) := by decide +kernel
theorem dX12_takePart_137 : decode cX12_takePart 137 = .ok (.aload_n 0, 1) := by decide +kernel
theorem dX12_takePart_138 : decode cX12_takePart 138 = .ok (.iload_n 2, 1) := by decide +kernel
theorem dX12_takePart_139 : decode cX12_takePart 139 = .ok (.ifCond .eq 7, 3) := by decide +kernel
theorem dX12_takePart_142 : decode cX12_takePart 142 = .ok (.iconst 1, 1) := by decide +kernel
theorem dX12_takePart_143 : decode cX12_takePart 143 = .ok (.goto 4, 3) := by decide +kernel
theorem dX12_takePart_146 : decode cX12_takePart 146 = .ok (.iconst 2, 1) := by decide +kernel
theorem dX12_takePart_147 : decode cX12_takePart 147 = .ok (.iload_n 2, 1) := by decide +kernel
theorem dX12_takePart_148 : decode cX12_takePart 148 = .ok (.ifCond .eq 16, 3) := by decide +kernel
theorem dX12_takePart_151 : decode cX12_takePart 151 = .ok (.aload_n 0, 1) := by decide +kernel
theorem dX12_takePart_152 : decode cX12_takePart 152 = .ok (.getfield 30, 3) := by decide +kernel
theorem dX12_takePart_155 : decode cX12_takePart 155 = .ok (.aload_n 0, 1) := by decide +kernel
theorem dX12_takePart_156 : decode cX12_takePart 156 = .ok (.getfield 182, 3) := by decide +kernel
theorem dX12_takePart_159 : decode cX12_takePart 159 = .ok (.laload, 1) := by decide +kernel
theorem dX12_takePart_160 : decode cX12_takePart 160 = .ok (.l2i, 1) := by decide +kernel
theorem dX12_takePart_161 : decode cX12_takePart 161 = .ok (.goto 4, 3) := by decide +kernel
theorem dX12_takePart_164 : decode cX12_takePart 164 = .ok (.iload_n 3, 1) := by decide +kernel
theorem dX12_takePart_165 : decode cX12_takePart 165 = .ok (.invokevirtual 241, 3) := by decide +kernel
theorem dX12_takePart_168 : decode cX12_takePart 168 = .ok (.aload_n 0, 1) := by decide +kernel
theorem dX12_takePart_169 : decode cX12_takePart 169 = .ok (.dup, 1) := by decide +kernel
theorem dX12_takePart_170 : decode cX12_takePart 170 = .ok (.getfield 182, 3) := by decide +kernel
theorem dX12_takePart_173 : decode cX12_takePart 173 = .ok (.iconst 1, 1) := by decide +kernel
theorem dX12_takePart_174 : decode cX12_takePart 174 = .ok (.iadd, 1) := by decide +kernel
theorem dX12_takePart_175 : decode cX12_takePart 175 = .ok (.putfield 182, 3) := by decide +kernel
theorem dX12_takePart_178 : decode cX12_takePart 178 = .ok (.return_, 1) := by decide +kernel
theorem dX12_products_0 : decode cX12_products 0 = .ok (.aload_n 0, 1) := by decide +kernel
theorem dX12_products_1 : decode cX12_products 1 = .ok (.iload_n 1, 1) := by decide +kernel
theorem dX12_products_2 : decode cX12_products 2 = .ok (.invokevirtual 285, 3) := by decide +kernel
theorem dX12_products_5 : decode cX12_products 5 = .ok (.aload_n 0, 1) := by decide +kernel
theorem dX12_products_6 : decode cX12_products 6 = .ok (.bipush 42, 2) := by decide +kernel
theorem dX12_products_8 : decode cX12_products 8 = .ok (.invokevirtual 279, 3) := by decide +kernel
theorem dX12_products_11 : decode cX12_products 11 = .ok (.ifCond .eq 18, 3) := by decide +kernel
theorem dX12_products_14 : decode cX12_products 14 = .ok (.aload_n 0, 1) := by decide +kernel
theorem dX12_products_15 : decode cX12_products 15 = .ok (.iload_n 1, 1) := by decide +kernel
theorem dX12_products_16 : decode cX12_products 16 = .ok (.invokevirtual 285, 3) := by decide +kernel
theorem dX12_products_19 : decode cX12_products 19 = .ok (.aload_n 0, 1) := by decide +kernel
theorem dX12_products_20 : decode cX12_products 20 = .ok (.bipush 6, 2) := by decide +kernel
theorem dX12_products_22 : decode cX12_products 22 = .ok (.iconst 0, 1) := by decide +kernel
theorem dX12_products_23 : decode cX12_products 23 = .ok (.invokevirtual 241, 3) := by decide +kernel
theorem dX12_products_26 : decode cX12_products 26 = .ok (.goto (-21), 3) := by decide +kernel
theorem dX12_products_29 : decode cX12_products 29 = .ok (.return_, 1) := by decide +kernel
theorem dX12_sums_0 : decode cX12_sums 0 = .ok (.aload_n 0, 1) := by decide +kernel
theorem dX12_sums_1 : decode cX12_sums 1 = .ok (.iload_n 1, 1) := by decide +kernel
theorem dX12_sums_2 : decode cX12_sums 2 = .ok (.invokevirtual 282, 3) := by decide +kernel
theorem dX12_sums_5 : decode cX12_sums 5 = .ok (.aload_n 0, 1) := by decide +kernel
theorem dX12_sums_6 : decode cX12_sums 6 = .ok (.bipush 43, 2) := by decide +kernel
theorem dX12_sums_8 : decode cX12_sums 8 = .ok (.invokevirtual 188, 3) := by decide +kernel
theorem dX12_sums_11 : decode cX12_sums 11 = .ok (.ifCond .ne 12, 3) := by decide +kernel
theorem dX12_sums_14 : decode cX12_sums 14 = .ok (.aload_n 0, 1) := by decide +kernel
theorem dX12_sums_15 : decode cX12_sums 15 = .ok (.bipush 45, 2) := by decide +kernel
theorem dX12_sums_17 : decode cX12_sums 17 = .ok (.invokevirtual 188, 3) := by decide +kernel
theorem dX12_sums_20 : decode cX12_sums 20 = .ok (.ifCond .eq 42, 3) := by decide +kernel
theorem dX12_sums_23 : decode cX12_sums 23 = .ok (.aload_n 0, 1) := by decide +kernel
theorem dX12_sums_24 : decode cX12_sums 24 = .ok (.bipush 43, 2) := by decide +kernel
theorem dX12_sums_26 : decode cX12_sums 26 = .ok (.invokevirtual 188, 3) := by decide +kernel
theorem dX12_sums_29 : decode cX12_sums 29 = .ok (.istore_n 2, 1) := by decide +kernel
theorem dX12_sums_30 : decode cX12_sums 30 = .ok (.aload_n 0, 1) := by decide +kernel
theorem dX12_sums_31 : decode cX12_sums 31 = .ok (.dup, 1) := by decide +kernel
theorem dX12_sums_32 : decode cX12_sums 32 = .ok (.getfield 182, 3) := by decide +kernel
theorem dX12_sums_35 : decode cX12_sums 35 = .ok (.iconst 1, 1) := by decide +kernel
theorem dX12_sums_36 : decode cX12_sums 36 = .ok (.iadd, 1) := by decide +kernel
theorem dX12_sums_37 : decode cX12_sums 37 = .ok (.putfield 182, 3) := by decide +kernel
theorem dX12_sums_40 : decode cX12_sums 40 = .ok (.aload_n 0, 1) := by decide +kernel
theorem dX12_sums_41 : decode cX12_sums 41 = .ok (.iload_n 1, 1) := by decide +kernel
theorem dX12_sums_42 : decode cX12_sums 42 = .ok (.invokevirtual 282, 3) := by decide +kernel
theorem dX12_sums_45 : decode cX12_sums 45 = .ok (.aload_n 0, 1) := by decide +kernel
theorem dX12_sums_46 : decode cX12_sums 46 = .ok (.iload_n 2, 1) := by decide +kernel
theorem dX12_sums_47 : decode cX12_sums 47 = .ok (.ifCond .eq 7, 3) := by decide +kernel
theorem dX12_sums_50 : decode cX12_sums 50 = .ok (.iconst 4, 1) := by decide +kernel
theorem dX12_sums_51 : decode cX12_sums 51 = .ok (.goto 4, 3) := by decide +kernel
theorem dX12_sums_54 : decode cX12_sums 54 = .ok (.iconst 5, 1) := by decide +kernel
theorem dX12_sums_55 : decode cX12_sums 55 = .ok (.iconst 0, 1) := by decide +kernel
theorem dX12_sums_56 : decode cX12_sums 56 = .ok (.invokevirtual 241, 3) := by decide +kernel
theorem dX12_sums_59 : decode cX12_sums 59 = .ok (.goto (-54), 3) := by decide +kernel
theorem dX12_sums_62 : decode cX12_sums 62 = .ok (.return_, 1) := by decide +kernel
theorem dX12_test_0 : decode cX12_test 0 = .ok (.aload_n 0, 1) := by decide +kernel
theorem dX12_test_1 : decode cX12_test 1 = .ok (.iload_n 1, 1) := by decide +kernel
theorem dX12_test_2 : decode cX12_test 2 = .ok (.invokevirtual 276, 3) := by decide +kernel
theorem dX12_test_5 : decode cX12_test 5 = .ok (.aload_n 0, 1) := by decide +kernel
theorem dX12_test_6 : decode cX12_test 6 = .ok (.bipush 60, 2) := by decide +kernel
theorem dX12_test_8 : decode cX12_test 8 = .ok (.invokevirtual 188, 3) := by decide +kernel
theorem dX12_test_11 : decode cX12_test 11 = .ok (.istore_n 2, 1) := by decide +kernel
theorem dX12_test_12 : decode cX12_test 12 = .ok (.aload_n 0, 1) := by decide +kernel
theorem dX12_test_13 : decode cX12_test 13 = .ok (.bipush 60, 2) := by decide +kernel
theorem dX12_test_15 : decode cX12_test 15 = .ok (.invokevirtual 279, 3) := by decide +kernel
theorem dX12_test_18 : decode cX12_test 18 = .ok (.ifCond .ne 12, 3) := by decide +kernel
theorem dX12_test_21 : decode cX12_test 21 = .ok (.aload_n 0, 1) := by decide +kernel
theorem dX12_test_22 : decode cX12_test 22 = .ok (.bipush 61, 2) := by decide +kernel
theorem dX12_test_24 : decode cX12_test 24 = .ok (.invokevirtual 279, 3) := by decide +kernel
theorem dX12_test_27 : decode cX12_test 27 = .ok (.ifCond .eq 24, 3) := by decide +kernel
theorem dX12_test_30 : decode cX12_test 30 = .ok (.aload_n 0, 1) := by decide +kernel
theorem dX12_test_31 : decode cX12_test 31 = .ok (.iload_n 1, 1) := by decide +kernel
theorem dX12_test_32 : decode cX12_test 32 = .ok (.invokevirtual 276, 3) := by decide +kernel
theorem dX12_test_35 : decode cX12_test 35 = .ok (.aload_n 0, 1) := by decide +kernel
theorem dX12_test_36 : decode cX12_test 36 = .ok (.iload_n 2, 1) := by decide +kernel
theorem dX12_test_37 : decode cX12_test 37 = .ok (.ifCond .eq 8, 3) := by decide +kernel
theorem dX12_test_40 : decode cX12_test 40 = .ok (.bipush 7, 2) := by decide +kernel
theorem dX12_test_42 : decode cX12_test 42 = .ok (.goto 5, 3) := by decide +kernel
theorem dX12_test_45 : decode cX12_test 45 = .ok (.bipush 8, 2) := by decide +kernel
theorem dX12_test_47 : decode cX12_test 47 = .ok (.iconst 0, 1) := by decide +kernel
theorem dX12_test_48 : decode cX12_test 48 = .ok (.invokevirtual 241, 3) := by decide +kernel
theorem dX12_test_51 : decode cX12_test 51 = .ok (.return_, 1) := by decide +kernel
theorem dX12_whole_0 : decode cX12_whole 0 = .ok (.aload_n 0, 1) := by decide +kernel
theorem dX12_whole_1 : decode cX12_whole 1 = .ok (.iload_n 1, 1) := by decide +kernel
theorem dX12_whole_2 : decode cX12_whole 2 = .ok (.invokevirtual 273, 3) := by decide +kernel
theorem dX12_whole_5 : decode cX12_whole 5 = .ok (.aload_n 0, 1) := by decide +kernel
theorem dX12_whole_6 : decode cX12_whole 6 = .ok (.bipush 15, 2) := by decide +kernel
theorem dX12_whole_8 : decode cX12_whole 8 = .ok (.invokevirtual 194, 3) := by decide +kernel
theorem dX12_whole_11 : decode cX12_whole 11 = .ok (.ifCond .ne 12, 3) := by decide +kernel
theorem dX12_whole_14 : decode cX12_whole 14 = .ok (.aload_n 0, 1) := by decide +kernel
theorem dX12_whole_15 : decode cX12_whole 15 = .ok (.bipush 16, 2) := by decide +kernel
theorem dX12_whole_17 : decode cX12_whole 17 = .ok (.invokevirtual 194, 3) := by decide +kernel
theorem dX12_whole_20 : decode cX12_whole 20 = .ok (.ifCond .eq 44, 3) := by decide +kernel
theorem dX12_whole_23 : decode cX12_whole 23 = .ok (.aload_n 0, 1) := by decide +kernel
theorem dX12_whole_24 : decode cX12_whole 24 = .ok (.bipush 15, 2) := by decide +kernel
theorem dX12_whole_26 : decode cX12_whole 26 = .ok (.invokevirtual 194, 3) := by decide +kernel
theorem dX12_whole_29 : decode cX12_whole 29 = .ok (.istore_n 2, 1) := by decide +kernel
theorem dX12_whole_30 : decode cX12_whole 30 = .ok (.aload_n 0, 1) := by decide +kernel
theorem dX12_whole_31 : decode cX12_whole 31 = .ok (.dup, 1) := by decide +kernel
theorem dX12_whole_32 : decode cX12_whole 32 = .ok (.getfield 182, 3) := by decide +kernel
theorem dX12_whole_35 : decode cX12_whole 35 = .ok (.iconst 1, 1) := by decide +kernel
theorem dX12_whole_36 : decode cX12_whole 36 = .ok (.iadd, 1) := by decide +kernel
theorem dX12_whole_37 : decode cX12_whole 37 = .ok (.putfield 182, 3) := by decide +kernel
theorem dX12_whole_40 : decode cX12_whole 40 = .ok (.aload_n 0, 1) := by decide +kernel
theorem dX12_whole_41 : decode cX12_whole 41 = .ok (.iload_n 1, 1) := by decide +kernel
theorem dX12_whole_42 : decode cX12_whole 42 = .ok (.invokevirtual 273, 3) := by decide +kernel
theorem dX12_whole_45 : decode cX12_whole 45 = .ok (.aload_n 0, 1) := by decide +kernel
theorem dX12_whole_46 : decode cX12_whole 46 = .ok (.iload_n 2, 1) := by decide +kernel
theorem dX12_whole_47 : decode cX12_whole 47 = .ok (.ifCond .eq 8, 3) := by decide +kernel
theorem dX12_whole_50 : decode cX12_whole 50 = .ok (.bipush 9, 2) := by decide +kernel
theorem dX12_whole_52 : decode cX12_whole 52 = .ok (.goto 5, 3) := by decide +kernel
theorem dX12_whole_55 : decode cX12_whole 55 = .ok (.bipush 10, 2) := by decide +kernel
theorem dX12_whole_57 : decode cX12_whole 57 = .ok (.iconst 0, 1) := by decide +kernel
theorem dX12_whole_58 : decode cX12_whole 58 = .ok (.invokevirtual 241, 3) := by decide +kernel
theorem dX12_whole_61 : decode cX12_whole 61 = .ok (.goto (-56), 3) := by decide +kernel
theorem dX12_whole_64 : decode cX12_whole 64 = .ok (.return_, 1) := by decide +kernel
theorem zq_166 : Cond.fieldLink RX12 79 "ForeignKnitModel" "books" "[I" ∈ zG := List.mem_of_getElem? (i := 166) (by decide +kernel)
theorem zq_644 : Cond.methodLink RX12 251 yX12_readItems ∈ zG := List.mem_of_getElem? (i := 644) (by decide +kernel)
theorem zq_652 : Cond.methodLink RX12 220 yX12_takeSign ∈ zG := List.mem_of_getElem? (i := 652) (by decide +kernel)
theorem zq_656 : Cond.methodLink RX12 229 yX12_takeNumber ∈ zG := List.mem_of_getElem? (i := 656) (by decide +kernel)
theorem zq_660 : Cond.methodLink RX12 254 yX12_repeats ∈ zG := List.mem_of_getElem? (i := 660) (by decide +kernel)
theorem zq_668 : Cond.methodLink RX12 257 yX12_takeTold ∈ zG := List.mem_of_getElem? (i := 668) (by decide +kernel)
theorem zq_676 : Cond.methodLink RX12 197 yX12_hasWord ∈ zG := List.mem_of_getElem? (i := 676) (by decide +kernel)
theorem zq_684 : Cond.methodLink RX12 238 yX12_whole ∈ zG := List.mem_of_getElem? (i := 684) (by decide +kernel)
theorem zq_688 : Cond.methodLink RX12 273 yX12_test ∈ zG := List.mem_of_getElem? (i := 688) (by decide +kernel)
theorem zq_691 : Cond.methodLink RX12 241 yX12_emit ∈ zG := List.mem_of_getElem? (i := 691) (by decide +kernel)
theorem zq_696 : Cond.methodLink RX12 285 yX12_takePart ∈ zG := List.mem_of_getElem? (i := 696) (by decide +kernel)
theorem zq_699 : Cond.methodLink RX12 279 yX12_hasSign ∈ zG := List.mem_of_getElem? (i := 699) (by decide +kernel)
theorem zq_704 : Cond.methodLink RX12 282 yX12_products ∈ zG := List.mem_of_getElem? (i := 704) (by decide +kernel)
theorem zq_709 : Cond.methodLink RX12 276 yX12_sums ∈ zG := List.mem_of_getElem? (i := 709) (by decide +kernel)
theorem zfd_X12_79 : zFd RX12 79 12 10 := ⟨_, rfl, by decide, zq_166⟩
theorem zq_694 : Cond.code yX12_emit cX12_emit 3 none ∈ zG := List.mem_of_getElem? (i := 694) (by decide +kernel)
theorem zq_692 : Cond.instanceMethod yX12_emit ∈ zG := List.mem_of_getElem? (i := 692) (by decide +kernel)
theorem zq_693 : Cond.selects RX12 yX12_emit yX12_emit ∈ zG := List.mem_of_getElem? (i := 693) (by decide +kernel)
theorem zy_X12_emit : zyV yX12_emit cX12_emit 3 none 2 := ⟨zq_694, zq_692, zq_693, zq_5, ⟨by decide, by decide⟩, by decide +kernel, by decide⟩
theorem zq_702 : Cond.code yX12_hasSign cX12_hasSign 3 (some .boolean) ∈ zG := List.mem_of_getElem? (i := 702) (by decide +kernel)
theorem zq_700 : Cond.instanceMethod yX12_hasSign ∈ zG := List.mem_of_getElem? (i := 700) (by decide +kernel)
theorem zq_701 : Cond.selects RX12 yX12_hasSign yX12_hasSign ∈ zG := List.mem_of_getElem? (i := 701) (by decide +kernel)
theorem zy_X12_hasSign : zyV yX12_hasSign cX12_hasSign 3 (some .boolean) 1 := ⟨zq_702, zq_700, zq_701, zq_5, ⟨by decide, by decide⟩, by decide +kernel, by decide⟩
theorem zq_679 : Cond.code yX12_hasWord cX12_hasWord 3 (some .boolean) ∈ zG := List.mem_of_getElem? (i := 679) (by decide +kernel)
theorem zq_677 : Cond.instanceMethod yX12_hasWord ∈ zG := List.mem_of_getElem? (i := 677) (by decide +kernel)
theorem zq_678 : Cond.selects RX12 yX12_hasWord yX12_hasWord ∈ zG := List.mem_of_getElem? (i := 678) (by decide +kernel)
theorem zy_X12_hasWord : zyV yX12_hasWord cX12_hasWord 3 (some .boolean) 1 := ⟨zq_679, zq_677, zq_678, zq_5, ⟨by decide, by decide⟩, by decide +kernel, by decide⟩
theorem zq_695 : Cond.code yX12_products cX12_products 2 none ∈ zG := List.mem_of_getElem? (i := 695) (by decide +kernel)
theorem zq_705 : Cond.instanceMethod yX12_products ∈ zG := List.mem_of_getElem? (i := 705) (by decide +kernel)
theorem zq_706 : Cond.selects RX12 yX12_products yX12_products ∈ zG := List.mem_of_getElem? (i := 706) (by decide +kernel)
theorem zy_X12_products : zyV yX12_products cX12_products 2 none 1 := ⟨zq_695, zq_705, zq_706, zq_5, ⟨by decide, by decide⟩, by decide +kernel, by decide⟩
theorem zq_647 : Cond.code yX12_readItems cX12_readItems 4 none ∈ zG := List.mem_of_getElem? (i := 647) (by decide +kernel)
theorem zq_645 : Cond.instanceMethod yX12_readItems ∈ zG := List.mem_of_getElem? (i := 645) (by decide +kernel)
theorem zq_646 : Cond.selects RX12 yX12_readItems yX12_readItems ∈ zG := List.mem_of_getElem? (i := 646) (by decide +kernel)
theorem zy_X12_readItems : zyV yX12_readItems cX12_readItems 4 none 1 := ⟨zq_647, zq_645, zq_646, zq_5, ⟨by decide, by decide⟩, by decide +kernel, by decide⟩
theorem zq_663 : Cond.code yX12_repeats cX12_repeats 6 none ∈ zG := List.mem_of_getElem? (i := 663) (by decide +kernel)
theorem zq_661 : Cond.instanceMethod yX12_repeats ∈ zG := List.mem_of_getElem? (i := 661) (by decide +kernel)
theorem zq_662 : Cond.selects RX12 yX12_repeats yX12_repeats ∈ zG := List.mem_of_getElem? (i := 662) (by decide +kernel)
theorem zy_X12_repeats : zyV yX12_repeats cX12_repeats 6 none 2 := ⟨zq_663, zq_661, zq_662, zq_5, ⟨by decide, by decide⟩, by decide +kernel, by decide⟩
theorem zq_703 : Cond.code yX12_sums cX12_sums 3 none ∈ zG := List.mem_of_getElem? (i := 703) (by decide +kernel)
theorem zq_710 : Cond.instanceMethod yX12_sums ∈ zG := List.mem_of_getElem? (i := 710) (by decide +kernel)
theorem zq_711 : Cond.selects RX12 yX12_sums yX12_sums ∈ zG := List.mem_of_getElem? (i := 711) (by decide +kernel)
theorem zy_X12_sums : zyV yX12_sums cX12_sums 3 none 1 := ⟨zq_703, zq_710, zq_711, zq_5, ⟨by decide, by decide⟩, by decide +kernel, by decide⟩
theorem zq_659 : Cond.code yX12_takeNumber cX12_takeNumber 3 (some .int) ∈ zG := List.mem_of_getElem? (i := 659) (by decide +kernel)
theorem zq_657 : Cond.instanceMethod yX12_takeNumber ∈ zG := List.mem_of_getElem? (i := 657) (by decide +kernel)
theorem zq_658 : Cond.selects RX12 yX12_takeNumber yX12_takeNumber ∈ zG := List.mem_of_getElem? (i := 658) (by decide +kernel)
theorem zy_X12_takeNumber : zyV yX12_takeNumber cX12_takeNumber 3 (some .int) 2 := ⟨zq_659, zq_657, zq_658, zq_5, ⟨by decide, by decide⟩, by decide +kernel, by decide⟩
theorem zq_707 : Cond.code yX12_takePart cX12_takePart 4 none ∈ zG := List.mem_of_getElem? (i := 707) (by decide +kernel)
theorem zq_697 : Cond.instanceMethod yX12_takePart ∈ zG := List.mem_of_getElem? (i := 697) (by decide +kernel)
theorem zq_698 : Cond.selects RX12 yX12_takePart yX12_takePart ∈ zG := List.mem_of_getElem? (i := 698) (by decide +kernel)
theorem zy_X12_takePart : zyV yX12_takePart cX12_takePart 4 none 1 := ⟨zq_707, zq_697, zq_698, zq_5, ⟨by decide, by decide⟩, by decide +kernel, by decide⟩
theorem zq_655 : Cond.code yX12_takeSign cX12_takeSign 2 none ∈ zG := List.mem_of_getElem? (i := 655) (by decide +kernel)
theorem zq_653 : Cond.instanceMethod yX12_takeSign ∈ zG := List.mem_of_getElem? (i := 653) (by decide +kernel)
theorem zq_654 : Cond.selects RX12 yX12_takeSign yX12_takeSign ∈ zG := List.mem_of_getElem? (i := 654) (by decide +kernel)
theorem zy_X12_takeSign : zyV yX12_takeSign cX12_takeSign 2 none 1 := ⟨zq_655, zq_653, zq_654, zq_5, ⟨by decide, by decide⟩, by decide +kernel, by decide⟩
theorem zq_671 : Cond.code yX12_takeTold cX12_takeTold 4 (some .int) ∈ zG := List.mem_of_getElem? (i := 671) (by decide +kernel)
theorem zq_669 : Cond.instanceMethod yX12_takeTold ∈ zG := List.mem_of_getElem? (i := 669) (by decide +kernel)
theorem zq_670 : Cond.selects RX12 yX12_takeTold yX12_takeTold ∈ zG := List.mem_of_getElem? (i := 670) (by decide +kernel)
theorem zy_X12_takeTold : zyV yX12_takeTold cX12_takeTold 4 (some .int) 2 := ⟨zq_671, zq_669, zq_670, zq_5, ⟨by decide, by decide⟩, by decide +kernel, by decide⟩
theorem zq_708 : Cond.code yX12_test cX12_test 3 none ∈ zG := List.mem_of_getElem? (i := 708) (by decide +kernel)
theorem zq_689 : Cond.instanceMethod yX12_test ∈ zG := List.mem_of_getElem? (i := 689) (by decide +kernel)
theorem zq_690 : Cond.selects RX12 yX12_test yX12_test ∈ zG := List.mem_of_getElem? (i := 690) (by decide +kernel)
theorem zy_X12_test : zyV yX12_test cX12_test 3 none 1 := ⟨zq_708, zq_689, zq_690, zq_5, ⟨by decide, by decide⟩, by decide +kernel, by decide⟩
theorem zq_687 : Cond.code yX12_whole cX12_whole 3 none ∈ zG := List.mem_of_getElem? (i := 687) (by decide +kernel)
theorem zq_685 : Cond.instanceMethod yX12_whole ∈ zG := List.mem_of_getElem? (i := 685) (by decide +kernel)
theorem zq_686 : Cond.selects RX12 yX12_whole yX12_whole ∈ zG := List.mem_of_getElem? (i := 686) (by decide +kernel)
theorem zy_X12_whole : zyV yX12_whole cX12_whole 3 none 1 := ⟨zq_687, zq_685, zq_686, zq_5, ⟨by decide, by decide⟩, by decide +kernel, by decide⟩
theorem zf_210 : zfix 210 = true := by decide +kernel
theorem zs_210 : zsh 210 = 20 := by decide +kernel
theorem zl_210 : zln 210 = 60 := by decide +kernel
section ZM
variable {p : Program} {l : Launch} {e : Env} {R : Room} {s : State} {m : MethodId} {args : Array Value} {below : List Frame} {meth : Method} {c : Code} {cells slots : Nat} {Q : State → Prop} {D : va_G} {dA : Nat → ClassId} {ad ad0 : Nat → Nat} {al al0 : Nat → Prop}
/-! X12_readItems -/
def fX12_readItems_J113 (zX12_readItems : Int32 → zW → (zW → Prop) → Prop) (k : zW → Prop) (g0 : Int32 → zW → Prop) (x1 : Int32) (w : zW) : Prop :=
  ((¬ (gI w 200 8) = 0 →
    k w) ∧
   ((gI w 200 8) = 0 →
    fX12_isSign (40 : Int32) w (fun r8 w8 =>
    ((¬ r8 = 0 →
      g0 x1 w8) ∧
     (r8 = 0 →
      fX12_isName  w8 (fun r10 w10 =>
      ((¬ r10 = 0 →
        g0 x1 w10) ∧
       (r10 = 0 →
        k w10))))))))
set_option maxHeartbeats 4000000 in
set_option maxRecDepth 100000 in
theorem mX12_readItems_J113 {k : zW → Prop} {g0 : Int32 → zW → Prop} {zX12_readItems : Int32 → zW → (zW → Prop) → Prop} {qX12_readItems : Nat} {fr : Nat} (X : zCx p s m args meth c cX12_readItems 4 RX12 none) (hr : zRm R fr cells slots) (hQ : zRetV p l e R s m args below meth c cells slots Q D dA true ad0 al0 ad al cX12_readItems k) (hfr : 4 ≤ fr) (hzX12_readItems : ∀ (x1 : Int32) (w : zW) (k : zW → Prop), zX12_readItems x1 w k → zmetV l yX12_readItems cX12_readItems 4 none qX12_readItems [.ref (ad 200), .int x1] D dA true ad al w k) (hqzX12_readItems : qX12_readItems + 1 ≤ fr) (hg0 : ∀ (x1 : Int32) (w : zW) (H : Heap) (locs : List Loc) (ls : Array Slot), g0 x1 w → zSt D dA true ad0 al0 ad al w s H locs → lv_has ls 4 [(0, .ref (ad 200)), (1, .int x1)] → W p l e R s m args below meth c H locs cells slots Q (F0 m 0 ls [])) {x1 : Int32} {w : zW} {H : Heap} {locs : List Loc} {ls : Array Slot} (hf : fX12_readItems_J113 zX12_readItems k g0 x1 w) (hR : zSt D dA true ad0 al0 ad al w s H locs) (hl : lv_has ls 4 [(0, .ref (ad 200)), (1, .int x1)]) : W p l e R s m args below meth c H locs cells slots Q (F0 m 113 ls []) := by
  have hx := X.1
  have hb := X.2.1
  have hml := X.2.2.1
  have hown := X.2.2.2.1
  have hts := X.2.2.2.2.1
  unfold fX12_readItems_J113 at hf
  refine lv_aload_n hx hb dX12_readItems_113 rfl (lv_at hl 0 rfl) ?_
  refine z_getI X hR (zlit hR zf_200) zs_200 (by decide) zfd_X12_185 rfl dX12_readItems_114 ?_
  refine lv_if_ne (tgt := 136) hx hb dX12_readItems_117 (by decide) (fun c7 => ?_) (fun c7 => ?_)
  · replace hf := hf.1 c7
    exact hQ _ _ _ _ _ hf hR dX12_readItems_136
  · replace hf := hf.2 c7
    refine lv_aload_n hx hb dX12_readItems_120 rfl (lv_at hl 0 rfl) ?_
    refine lv_bipush (v := (40 : Int32)) hx hb dX12_readItems_121 (by decide) ?_
    refine z_callVI (fr1 := 0) (b := 200) (As := [.int (40 : Int32)]) (rest := []) X (hr.le (by omega)) hR zy_X12_isSign zq_648 (zlit hR zf_200) (by rw [zs_200]; rfl) rfl (mX12_isSign  hf) rfl hl (Nat.le_of_ble_eq_true rfl) dX12_readItems_123 rfl (fun r8 w8 H locs hf hR => ?_)
    refine lv_if_ne (tgt := 0) hx hb dX12_readItems_126 (by decide) (fun c9 => ?_) (fun c9 => ?_)
    · replace hf := hf.1 c9
      exact hg0 x1 w8 _ _ _ hf hR (lv_sub hl [0, 1] rfl)
    · replace hf := hf.2 c9
      refine lv_aload_n hx hb dX12_readItems_129 rfl (lv_at hl 0 rfl) ?_
      refine z_callVI (fr1 := 2) (b := 200) (As := []) (rest := []) X (hr.le (by omega)) hR zy_X12_isName zq_623 (zlit hR zf_200) (by rw [zs_200]; rfl) rfl (mX12_isName  hf) rfl hl (Nat.le_of_ble_eq_true rfl) dX12_readItems_130 rfl (fun r10 w10 H locs hf hR => ?_)
      refine lv_if_ne (tgt := 0) hx hb dX12_readItems_133 (by decide) (fun c11 => ?_) (fun c11 => ?_)
      · replace hf := hf.1 c11
        exact hg0 x1 w10 _ _ _ hf hR (lv_sub hl [0, 1] rfl)
      · replace hf := hf.2 c11
        exact hQ _ _ _ _ _ hf hR dX12_readItems_136
def fX12_readItems_L0 (zX12_readItems : Int32 → zW → (zW → Prop) → Prop) (k : zW → Prop) : Nat → Int32 → zW → Prop
  | 0 => fun _ _ => False
  | n + 1 => fun x1 w =>
    ∀ v1 : Int32, v1 = gI w 200 16 →
    fX12_isSign (40 : Int32) w (fun r2 w2 =>
    ((r2 = 0 →
      fX12_takeTold (4 : Int32) (gI w2 210 (30 : Int32).toNatClampNeg) w2 (fun r4 w4 =>
      fX12_puts r4 w4 (fun w5 =>
      ((¬ (gI w5 200 8) = 0 →
        fX12_readItems_J113 zX12_readItems k (fX12_readItems_L0 zX12_readItems k n) x1 w5) ∧
       ((gI w5 200 8) = 0 →
        vp_in (gI w5 200 7) 1002 ∧ 
        ((¬ (gI w5 204 (gI w5 200 7).toNatClampNeg) = (2 : Int32) →
          fX12_readItems_J113 zX12_readItems k (fX12_readItems_L0 zX12_readItems k n) x1 w5) ∧
         ((gI w5 204 (gI w5 200 7).toNatClampNeg) = (2 : Int32) →
          fX12_takeNumber (1 : Int32) (20 : Int32) w5 (fun r14 w14 =>
          fX12_repeats v1 r14 w14 (fun w15 =>
          fX12_readItems_J113 zX12_readItems k (fX12_readItems_L0 zX12_readItems k n) x1 w15))))))))) ∧
     (¬ r2 = 0 →
      ((¬ x1 = (3 : Int32) →
        ∀ w17 : zW, w17 = sI w2 200 7 ((gI w2 200 7) + (1 : Int32)) →
        zX12_readItems (x1 + (1 : Int32)) w17 (fun w18 =>
        fX12_takeSign (41 : Int32) w18 (fun w19 =>
        fX12_takeNumber (1 : Int32) (20 : Int32) w19 (fun r20 w20 =>
        fX12_repeats v1 r20 w20 (fun w21 =>
        fX12_readItems_J113 zX12_readItems k (fX12_readItems_L0 zX12_readItems k n) x1 w21))))) ∧
       (x1 = (3 : Int32) →
        fX12_wrong (5 : Int32) w2 (fun w22 =>
        k w22))))))
set_option maxHeartbeats 4000000 in
set_option maxRecDepth 100000 in
theorem mX12_readItems_L0 {k : zW → Prop} {zX12_readItems : Int32 → zW → (zW → Prop) → Prop} {qX12_readItems : Nat} {fr : Nat} (X : zCx p s m args meth c cX12_readItems 4 RX12 none) (hr : zRm R fr cells slots) (hQ : zRetV p l e R s m args below meth c cells slots Q D dA true ad0 al0 ad al cX12_readItems k) (hfr : 4 ≤ fr) (hzX12_readItems : ∀ (x1 : Int32) (w : zW) (k : zW → Prop), zX12_readItems x1 w k → zmetV l yX12_readItems cX12_readItems 4 none qX12_readItems [.ref (ad 200), .int x1] D dA true ad al w k) (hqzX12_readItems : qX12_readItems + 1 ≤ fr)  : ∀ (n : Nat) (x1 : Int32) (w : zW) (H : Heap) (locs : List Loc) (ls : Array Slot), fX12_readItems_L0 zX12_readItems k n x1 w → zSt D dA true ad0 al0 ad al w s H locs → lv_has ls 4 [(0, .ref (ad 200)), (1, .int x1)] → W p l e R s m args below meth c H locs cells slots Q (F0 m 0 ls []) := by
  intro n
  induction n with
  | zero => exact fun _ _ _ _ _ hf => hf.elim
  | succ n ih =>
    intro x1 w H locs ls hf hR hl
    have hx := X.1
    have hb := X.2.1
    have hml := X.2.2.1
    have hown := X.2.2.2.1
    have hts := X.2.2.2.2.1
    rw [fX12_readItems_L0] at hf
    refine lv_aload_n hx hb dX12_readItems_0 rfl (lv_at hl 0 rfl) ?_
    refine z_getI X hR (zlit hR zf_200) zs_200 (by decide) zfd_X12_248 rfl dX12_readItems_1 ?_
    refine lv_topi (fun v1 hv1 => ?_)
    replace hf := hf v1 hv1
    refine lv_istore_n (lv' := [(2, .int v1), (0, .ref (ad 200)), (1, .int x1)]) hx hb dX12_readItems_4 rfl hl (by decide) rfl (fun ls hl => ?_)
    refine lv_aload_n hx hb dX12_readItems_5 rfl (lv_at hl 1 rfl) ?_
    refine lv_bipush (v := (40 : Int32)) hx hb dX12_readItems_6 (by decide) ?_
    refine z_callVI (fr1 := 0) (b := 200) (As := [.int (40 : Int32)]) (rest := []) X (hr.le (by omega)) hR zy_X12_isSign zq_648 (zlit hR zf_200) (by rw [zs_200]; rfl) rfl (mX12_isSign  hf) rfl hl (Nat.le_of_ble_eq_true rfl) dX12_readItems_8 rfl (fun r2 w2 H locs hf hR => ?_)
    refine lv_if_eq (tgt := 63) hx hb dX12_readItems_11 (by decide) (fun c3 => ?_) (fun c3 => ?_)
    · replace hf := hf.1 c3
      refine lv_aload_n hx hb dX12_readItems_63 rfl (lv_at hl 1 rfl) ?_
      refine lv_iconst (v := (4 : Int32)) hx hb dX12_readItems_64 (by decide) ?_
      refine lv_aload_n hx hb dX12_readItems_65 rfl (lv_at hl 1 rfl) ?_
      refine z_getS X hR (zlit hR zf_200) zs_200 (by decide) zfd_X12_79 rfl (r := 210) (by decide +kernel) dX12_readItems_66 ?_
      refine lv_bipush (v := (30 : Int32)) hx hb dX12_readItems_69 (by decide) ?_
      refine z_iald X hR (zlit hR zf_210) zs_210 zl_210 (zin (by decide)) dX12_readItems_71 ?_
      refine z_callVI (fr1 := 3) (b := 200) (As := [.int (4 : Int32), .int (gI w2 210 (30 : Int32).toNatClampNeg)]) (rest := []) X (hr.le (by omega)) hR zy_X12_takeTold zq_668 (zlit hR zf_200) (by rw [zs_200]; rfl) rfl (mX12_takeTold  hf) rfl hl (Nat.le_of_ble_eq_true rfl) dX12_readItems_72 rfl (fun r4 w4 H locs hf hR => ?_)
      refine lv_istore_n (lv' := [(3, .int r4), (2, .int v1), (0, .ref (ad 200)), (1, .int x1)]) hx hb dX12_readItems_75 rfl hl (by decide) rfl (fun ls hl => ?_)
      refine lv_aload_n hx hb dX12_readItems_76 rfl (lv_at hl 2 rfl) ?_
      refine lv_iload_n hx hb dX12_readItems_77 rfl (lv_at hl 0 rfl) ?_
      refine z_callVV (fr1 := 0) (b := 200) (As := [.int r4]) (rest := []) X (hr.le (by omega)) hR zy_X12_puts zq_664 (zlit hR zf_200) (by rw [zs_200]; rfl) rfl (mX12_puts  hf) rfl hl (Nat.le_of_ble_eq_true rfl) dX12_readItems_78 rfl (fun w5 H locs hf hR => ?_)
      refine lv_aload_n hx hb dX12_readItems_81 rfl (lv_at hl 2 rfl) ?_
      refine z_getI X hR (zlit hR zf_200) zs_200 (by decide) zfd_X12_185 rfl dX12_readItems_82 ?_
      refine lv_if_ne (tgt := 113) hx hb dX12_readItems_85 (by decide) (fun c6 => ?_) (fun c6 => ?_)
      · replace hf := hf.1 c6
        exact mX12_readItems_J113 X hr hQ hfr hzX12_readItems hqzX12_readItems ih hf hR (lv_sub hl [2, 3] rfl)
      · replace hf := hf.2 c6
        refine lv_aload_n hx hb dX12_readItems_88 rfl (lv_at hl 2 rfl) ?_
        refine z_getS X hR (zlit hR zf_200) zs_200 (by decide) zfd_X12_24 rfl (r := 204) (by decide +kernel) dX12_readItems_89 ?_
        refine lv_aload_n hx hb dX12_readItems_92 rfl (lv_at hl 2 rfl) ?_
        refine z_getI X hR (zlit hR zf_200) zs_200 (by decide) zfd_X12_182 rfl dX12_readItems_93 ?_
        obtain ⟨hb12, hf⟩ := hf
        refine z_iald X hR (zlit hR zf_204) zs_204 zl_204 hb12 dX12_readItems_96 ?_
        refine lv_iconst (v := (2 : Int32)) hx hb dX12_readItems_97 (by decide) ?_
        refine lv_icmp_ne (tgt := 113) hx hb dX12_readItems_98 (by decide) (fun c13 => ?_) (fun c13 => ?_)
        · replace hf := hf.1 c13
          exact mX12_readItems_J113 X hr hQ hfr hzX12_readItems hqzX12_readItems ih hf hR (lv_sub hl [2, 3] rfl)
        · replace hf := hf.2 c13
          refine lv_aload_n hx hb dX12_readItems_101 rfl (lv_at hl 2 rfl) ?_
          refine lv_iload_n hx hb dX12_readItems_102 rfl (lv_at hl 1 rfl) ?_
          refine lv_aload_n hx hb dX12_readItems_103 rfl (lv_at hl 2 rfl) ?_
          refine lv_iconst (v := (1 : Int32)) hx hb dX12_readItems_104 (by decide) ?_
          refine lv_bipush (v := (20 : Int32)) hx hb dX12_readItems_105 (by decide) ?_
          refine z_callVI (fr1 := 1) (b := 200) (As := [.int (1 : Int32), .int (20 : Int32)]) (rest := [.int v1, .ref (ad 200)]) X (hr.le (by omega)) hR zy_X12_takeNumber zq_656 (zlit hR zf_200) (by rw [zs_200]; rfl) rfl (mX12_takeNumber  hf) rfl hl (Nat.le_of_ble_eq_true rfl) dX12_readItems_107 rfl (fun r14 w14 H locs hf hR => ?_)
          refine z_callVV (fr1 := 1) (b := 200) (As := [.int v1, .int r14]) (rest := []) X (hr.le (by omega)) hR zy_X12_repeats zq_660 (zlit hR zf_200) (by rw [zs_200]; rfl) rfl (mX12_repeats  hf) rfl hl (Nat.le_of_ble_eq_true rfl) dX12_readItems_110 rfl (fun w15 H locs hf hR => ?_)
          exact mX12_readItems_J113 X hr hQ hfr hzX12_readItems hqzX12_readItems ih hf hR (lv_sub hl [2, 3] rfl)
    · replace hf := hf.2 c3
      refine lv_iload_n hx hb dX12_readItems_14 rfl (lv_at hl 2 rfl) ?_
      refine lv_iconst (v := (3 : Int32)) hx hb dX12_readItems_15 (by decide) ?_
      refine lv_icmp_ne (tgt := 25) hx hb dX12_readItems_16 (by decide) (fun c16 => ?_) (fun c16 => ?_)
      · replace hf := hf.1 c16
        refine lv_aload_n hx hb dX12_readItems_25 rfl (lv_at hl 1 rfl) ?_
        refine lv_dup hx hb dX12_readItems_26 rfl ?_
        refine z_getI X hR (zlit hR zf_200) zs_200 (by decide) zfd_X12_182 rfl dX12_readItems_27 ?_
        refine lv_iconst (v := (1 : Int32)) hx hb dX12_readItems_30 (by decide) ?_
        refine lv_iadd hx hb dX12_readItems_31 ?_
        refine z_putI X hR (zlit hR zf_200) zs_200 (by decide) zfp_X12_182 rfl dX12_readItems_32 (fun H locs hR => ?_)
        obtain ⟨w17, hw17⟩ : ∃ z : zW, z = sI w2 200 7 ((gI w2 200 7) + (1 : Int32)) := ⟨_, rfl⟩
        rw [← hw17] at hR
        replace hf := hf w17 hw17
        refine lv_aload_n hx hb dX12_readItems_35 rfl (lv_at hl 1 rfl) ?_
        refine lv_iload_n hx hb dX12_readItems_36 rfl (lv_at hl 2 rfl) ?_
        refine lv_iconst (v := (1 : Int32)) hx hb dX12_readItems_37 (by decide) ?_
        refine lv_iadd hx hb dX12_readItems_38 ?_
        refine z_callVV (fr1 := qX12_readItems) (b := 200) (As := [.int (x1 + (1 : Int32))]) (rest := []) X (hr.le (by omega)) hR zy_X12_readItems zq_644 (zlit hR zf_200) (by rw [zs_200]; rfl) rfl (hzX12_readItems _ _ _ hf) rfl hl (Nat.le_of_ble_eq_true rfl) dX12_readItems_39 rfl (fun w18 H locs hf hR => ?_)
        refine lv_aload_n hx hb dX12_readItems_42 rfl (lv_at hl 1 rfl) ?_
        refine lv_bipush (v := (41 : Int32)) hx hb dX12_readItems_43 (by decide) ?_
        refine z_callVV (fr1 := 1) (b := 200) (As := [.int (41 : Int32)]) (rest := []) X (hr.le (by omega)) hR zy_X12_takeSign zq_652 (zlit hR zf_200) (by rw [zs_200]; rfl) rfl (mX12_takeSign  hf) rfl hl (Nat.le_of_ble_eq_true rfl) dX12_readItems_45 rfl (fun w19 H locs hf hR => ?_)
        refine lv_aload_n hx hb dX12_readItems_48 rfl (lv_at hl 1 rfl) ?_
        refine lv_iload_n hx hb dX12_readItems_49 rfl (lv_at hl 0 rfl) ?_
        refine lv_aload_n hx hb dX12_readItems_50 rfl (lv_at hl 1 rfl) ?_
        refine lv_iconst (v := (1 : Int32)) hx hb dX12_readItems_51 (by decide) ?_
        refine lv_bipush (v := (20 : Int32)) hx hb dX12_readItems_52 (by decide) ?_
        refine z_callVI (fr1 := 1) (b := 200) (As := [.int (1 : Int32), .int (20 : Int32)]) (rest := [.int v1, .ref (ad 200)]) X (hr.le (by omega)) hR zy_X12_takeNumber zq_656 (zlit hR zf_200) (by rw [zs_200]; rfl) rfl (mX12_takeNumber  hf) rfl hl (Nat.le_of_ble_eq_true rfl) dX12_readItems_54 rfl (fun r20 w20 H locs hf hR => ?_)
        refine z_callVV (fr1 := 1) (b := 200) (As := [.int v1, .int r20]) (rest := []) X (hr.le (by omega)) hR zy_X12_repeats zq_660 (zlit hR zf_200) (by rw [zs_200]; rfl) rfl (mX12_repeats  hf) rfl hl (Nat.le_of_ble_eq_true rfl) dX12_readItems_57 rfl (fun w21 H locs hf hR => ?_)
        refine lv_goto (tgt := 113) hx hb dX12_readItems_60 (by decide) ?_
        exact mX12_readItems_J113 X hr hQ hfr hzX12_readItems hqzX12_readItems ih hf hR (lv_sub hl [1, 2] rfl)
      · replace hf := hf.2 c16
        refine lv_aload_n hx hb dX12_readItems_19 rfl (lv_at hl 1 rfl) ?_
        refine lv_iconst (v := (5 : Int32)) hx hb dX12_readItems_20 (by decide) ?_
        refine z_callVV (fr1 := 0) (b := 200) (As := [.int (5 : Int32)]) (rest := []) X (hr.le (by omega)) hR zy_X12_wrong zq_619 (zlit hR zf_200) (by rw [zs_200]; rfl) rfl (mX12_wrong  hf) rfl hl (Nat.le_of_ble_eq_true rfl) dX12_readItems_21 rfl (fun w22 H locs hf hR => ?_)
        exact hQ _ _ _ _ _ hf hR dX12_readItems_24
def fX12_readItems (zX12_readItems : Int32 → zW → (zW → Prop) → Prop) (x1 : Int32) (w : zW) (k : zW → Prop) : Prop :=
  ∃ n9, fX12_readItems_L0 zX12_readItems k n9 x1 w
set_option maxHeartbeats 4000000 in
set_option maxRecDepth 100000 in
theorem mX12_readItems {l : Launch} {D : va_G} {dA : Nat → ClassId} {ad : Nat → Nat} {al : Nat → Prop} {w : zW} {k : zW → Prop} {x1 : Int32} {zX12_readItems : Int32 → zW → (zW → Prop) → Prop} {qX12_readItems : Nat} {fr : Nat}  (hfr : 4 ≤ fr) (hzX12_readItems : ∀ (x1 : Int32) (w : zW) (k : zW → Prop), zX12_readItems x1 w k → zmetV l yX12_readItems cX12_readItems 4 none qX12_readItems [.ref (ad 200), .int x1] D dA true ad al w k) (hqzX12_readItems : qX12_readItems + 1 ≤ fr) (hf : fX12_readItems zX12_readItems x1 w k) : zmetV l yX12_readItems cX12_readItems 4 none fr [.ref (ad 200), .int x1] D dA true ad al w k := by
  refine zmetV_of (by decide) (Nat.le_of_ble_eq_true rfl) ?_
  intro p e R s m below meth c Q H ls args locs cells slots X hr hQ hR hl
  have hx := X.1
  have hb := X.2.1
  have hml := X.2.2.1
  have hown := X.2.2.2.1
  have hts := X.2.2.2.2.1
  unfold fX12_readItems at hf
  have hl : lv_has ls 4 [(0, .ref (ad 200)), (1, .int x1)] := hl
  obtain ⟨n9, hf⟩ := hf
  exact mX12_readItems_L0 X hr hQ hfr hzX12_readItems hqzX12_readItems  n9 x1 w _ _ _ hf hR (lv_sub hl [0, 1] rfl)
/-! X12_takePart -/
def fX12_takePart_J165 (zX12_takePart : Int32 → zW → (zW → Prop) → Prop) (zX12_whole : Int32 → zW → (zW → Prop) → Prop) (k : zW → Prop) (t0 : Int32) (t1 : Int32) (w : zW) : Prop :=
  fX12_emit t1 t0 w (fun w14 =>
  ∀ w15 : zW, w15 = sI w14 200 7 ((gI w14 200 7) + (1 : Int32)) →
  k w15)
set_option maxHeartbeats 4000000 in
set_option maxRecDepth 100000 in
theorem mX12_takePart_J165 {k : zW → Prop} {zX12_takePart : Int32 → zW → (zW → Prop) → Prop} {qX12_takePart : Nat} {zX12_whole : Int32 → zW → (zW → Prop) → Prop} {qX12_whole : Nat} {fr : Nat} (X : zCx p s m args meth c cX12_takePart 4 RX12 none) (hr : zRm R fr cells slots) (hQ : zRetV p l e R s m args below meth c cells slots Q D dA true ad0 al0 ad al cX12_takePart k) (hfr : 2 ≤ fr) (hzX12_takePart : ∀ (x1 : Int32) (w : zW) (k : zW → Prop), zX12_takePart x1 w k → zmetV l yX12_takePart cX12_takePart 4 none qX12_takePart [.ref (ad 200), .int x1] D dA true ad al w k) (hqzX12_takePart : qX12_takePart + 1 ≤ fr) (hzX12_whole : ∀ (x1 : Int32) (w : zW) (k : zW → Prop), zX12_whole x1 w k → zmetV l yX12_whole cX12_whole 3 none qX12_whole [.ref (ad 200), .int x1] D dA true ad al w k) (hqzX12_whole : qX12_whole + 1 ≤ fr)  {t0 : Int32} {t1 : Int32} {w : zW} {H : Heap} {locs : List Loc} {ls : Array Slot} (hf : fX12_takePart_J165 zX12_takePart zX12_whole k t0 t1 w) (hR : zSt D dA true ad0 al0 ad al w s H locs) (hl : lv_has ls 4 [(0, .ref (ad 200))]) : W p l e R s m args below meth c H locs cells slots Q (F0 m 165 ls [.int t0, .int t1, .ref (ad 200)]) := by
  have hx := X.1
  have hb := X.2.1
  have hml := X.2.2.1
  have hown := X.2.2.2.1
  have hts := X.2.2.2.2.1
  unfold fX12_takePart_J165 at hf
  refine z_callVV (fr1 := 0) (b := 200) (As := [.int t1, .int t0]) (rest := []) X (hr.le (by omega)) hR zy_X12_emit zq_691 (zlit hR zf_200) (by rw [zs_200]; rfl) rfl (mX12_emit  hf) rfl hl (Nat.le_of_ble_eq_true rfl) dX12_takePart_165 rfl (fun w14 H locs hf hR => ?_)
  refine lv_aload_n hx hb dX12_takePart_168 rfl (lv_at hl 0 rfl) ?_
  refine lv_dup hx hb dX12_takePart_169 rfl ?_
  refine z_getI X hR (zlit hR zf_200) zs_200 (by decide) zfd_X12_182 rfl dX12_takePart_170 ?_
  refine lv_iconst (v := (1 : Int32)) hx hb dX12_takePart_173 (by decide) ?_
  refine lv_iadd hx hb dX12_takePart_174 ?_
  refine z_putI X hR (zlit hR zf_200) zs_200 (by decide) zfp_X12_182 rfl dX12_takePart_175 (fun H locs hR => ?_)
  obtain ⟨w15, hw15⟩ : ∃ z : zW, z = sI w14 200 7 ((gI w14 200 7) + (1 : Int32)) := ⟨_, rfl⟩
  rw [← hw15] at hR
  replace hf := hf w15 hw15
  exact hQ _ _ _ _ _ hf hR dX12_takePart_178
def fX12_takePart_J147 (zX12_takePart : Int32 → zW → (zW → Prop) → Prop) (zX12_whole : Int32 → zW → (zW → Prop) → Prop) (k : zW → Prop) (x2 : Int32) (x3 : Int32) (t0 : Int32) (w : zW) : Prop :=
  ((x2 = 0 →
    fX12_takePart_J165 zX12_takePart zX12_whole k x3 t0 w) ∧
   (¬ x2 = 0 →
    vp_in (gI w 200 7) 1002 ∧ 
    fX12_takePart_J165 zX12_takePart zX12_whole k ((gL w 206 (gI w 200 7).toNatClampNeg).toInt32) t0 w))
set_option maxHeartbeats 4000000 in
set_option maxRecDepth 100000 in
theorem mX12_takePart_J147 {k : zW → Prop} {zX12_takePart : Int32 → zW → (zW → Prop) → Prop} {qX12_takePart : Nat} {zX12_whole : Int32 → zW → (zW → Prop) → Prop} {qX12_whole : Nat} {fr : Nat} (X : zCx p s m args meth c cX12_takePart 4 RX12 none) (hr : zRm R fr cells slots) (hQ : zRetV p l e R s m args below meth c cells slots Q D dA true ad0 al0 ad al cX12_takePart k) (hfr : 2 ≤ fr) (hzX12_takePart : ∀ (x1 : Int32) (w : zW) (k : zW → Prop), zX12_takePart x1 w k → zmetV l yX12_takePart cX12_takePart 4 none qX12_takePart [.ref (ad 200), .int x1] D dA true ad al w k) (hqzX12_takePart : qX12_takePart + 1 ≤ fr) (hzX12_whole : ∀ (x1 : Int32) (w : zW) (k : zW → Prop), zX12_whole x1 w k → zmetV l yX12_whole cX12_whole 3 none qX12_whole [.ref (ad 200), .int x1] D dA true ad al w k) (hqzX12_whole : qX12_whole + 1 ≤ fr)  {x2 : Int32} {x3 : Int32} {t0 : Int32} {w : zW} {H : Heap} {locs : List Loc} {ls : Array Slot} (hf : fX12_takePart_J147 zX12_takePart zX12_whole k x2 x3 t0 w) (hR : zSt D dA true ad0 al0 ad al w s H locs) (hl : lv_has ls 4 [(0, .ref (ad 200)), (2, .int x2), (3, .int x3)]) : W p l e R s m args below meth c H locs cells slots Q (F0 m 147 ls [.int t0, .ref (ad 200)]) := by
  have hx := X.1
  have hb := X.2.1
  have hml := X.2.2.1
  have hown := X.2.2.2.1
  have hts := X.2.2.2.2.1
  unfold fX12_takePart_J147 at hf
  refine lv_iload_n hx hb dX12_takePart_147 rfl (lv_at hl 1 rfl) ?_
  refine lv_if_eq (tgt := 164) hx hb dX12_takePart_148 (by decide) (fun c13 => ?_) (fun c13 => ?_)
  · replace hf := hf.1 c13
    refine lv_iload_n hx hb dX12_takePart_164 rfl (lv_at hl 2 rfl) ?_
    exact mX12_takePart_J165 X hr hQ hfr hzX12_takePart hqzX12_takePart hzX12_whole hqzX12_whole  hf hR (lv_sub hl [0] rfl)
  · replace hf := hf.2 c13
    refine lv_aload_n hx hb dX12_takePart_151 rfl (lv_at hl 0 rfl) ?_
    refine z_getS X hR (zlit hR zf_200) zs_200 (by decide) zfd_X12_30 rfl (r := 206) (by decide +kernel) dX12_takePart_152 ?_
    refine lv_aload_n hx hb dX12_takePart_155 rfl (lv_at hl 0 rfl) ?_
    refine z_getI X hR (zlit hR zf_200) zs_200 (by decide) zfd_X12_182 rfl dX12_takePart_156 ?_
    obtain ⟨hb16, hf⟩ := hf
    refine z_lald X hR (zlit hR zf_206) zs_206 zl_206 hb16 dX12_takePart_159 ?_
    refine lv_l2i hx hb dX12_takePart_160 rfl ?_
    refine lv_goto (tgt := 165) hx hb dX12_takePart_161 (by decide) ?_
    exact mX12_takePart_J165 X hr hQ hfr hzX12_takePart hqzX12_takePart hzX12_whole hqzX12_whole  hf hR (lv_sub hl [0] rfl)
def fX12_takePart_J79 (zX12_takePart : Int32 → zW → (zW → Prop) → Prop) (zX12_whole : Int32 → zW → (zW → Prop) → Prop) (k : zW → Prop) (x1 : Int32) (x2 : Int32) (x3 : Int32) (w : zW) : Prop :=
  (((gI w 200 8) ≤ 0 →
    fX12_hasWord (14 : Int32) w (fun r8 w8 =>
    ((r8 = 0 →
      fX12_hasSign (40 : Int32) w8 (fun r10 w10 =>
      ((r10 = 0 →
        ∀ v12 : Int32, v12 = (if x2 = 0 then (2 : Int32) else (1 : Int32)) →
        fX12_takePart_J147 zX12_takePart zX12_whole k x2 x3 v12 w10) ∧
       (¬ r10 = 0 →
        zX12_whole (x1 + (1 : Int32)) w10 (fun w17 =>
        fX12_takeSign (41 : Int32) w17 (fun w18 =>
        k w18)))))) ∧
     (¬ r8 = 0 →
      zX12_takePart (x1 + (1 : Int32)) w8 (fun w19 =>
      fX12_emit (3 : Int32) (0 : Int32) w19 (fun w20 =>
      k w20)))))) ∧
   (¬ (gI w 200 8) ≤ 0 →
    k w))
set_option maxHeartbeats 4000000 in
set_option maxRecDepth 100000 in
theorem mX12_takePart_J79 {k : zW → Prop} {zX12_takePart : Int32 → zW → (zW → Prop) → Prop} {qX12_takePart : Nat} {zX12_whole : Int32 → zW → (zW → Prop) → Prop} {qX12_whole : Nat} {fr : Nat} (X : zCx p s m args meth c cX12_takePart 4 RX12 none) (hr : zRm R fr cells slots) (hQ : zRetV p l e R s m args below meth c cells slots Q D dA true ad0 al0 ad al cX12_takePart k) (hfr : 2 ≤ fr) (hzX12_takePart : ∀ (x1 : Int32) (w : zW) (k : zW → Prop), zX12_takePart x1 w k → zmetV l yX12_takePart cX12_takePart 4 none qX12_takePart [.ref (ad 200), .int x1] D dA true ad al w k) (hqzX12_takePart : qX12_takePart + 1 ≤ fr) (hzX12_whole : ∀ (x1 : Int32) (w : zW) (k : zW → Prop), zX12_whole x1 w k → zmetV l yX12_whole cX12_whole 3 none qX12_whole [.ref (ad 200), .int x1] D dA true ad al w k) (hqzX12_whole : qX12_whole + 1 ≤ fr)  {x1 : Int32} {x2 : Int32} {x3 : Int32} {w : zW} {H : Heap} {locs : List Loc} {ls : Array Slot} (hf : fX12_takePart_J79 zX12_takePart zX12_whole k x1 x2 x3 w) (hR : zSt D dA true ad0 al0 ad al w s H locs) (hl : lv_has ls 4 [(0, .ref (ad 200)), (1, .int x1), (2, .int x2), (3, .int x3)]) : W p l e R s m args below meth c H locs cells slots Q (F0 m 79 ls []) := by
  have hx := X.1
  have hb := X.2.1
  have hml := X.2.2.1
  have hown := X.2.2.2.1
  have hts := X.2.2.2.2.1
  unfold fX12_takePart_J79 at hf
  refine lv_aload_n hx hb dX12_takePart_79 rfl (lv_at hl 0 rfl) ?_
  refine z_getI X hR (zlit hR zf_200) zs_200 (by decide) zfd_X12_185 rfl dX12_takePart_80 ?_
  refine lv_if_le (tgt := 87) hx hb dX12_takePart_83 (by decide) (fun c7 => ?_) (fun c7 => ?_)
  · replace hf := hf.1 c7
    refine lv_aload_n hx hb dX12_takePart_87 rfl (lv_at hl 0 rfl) ?_
    refine lv_bipush (v := (14 : Int32)) hx hb dX12_takePart_88 (by decide) ?_
    refine z_callVI (fr1 := 1) (b := 200) (As := [.int (14 : Int32)]) (rest := []) X (hr.le (by omega)) hR zy_X12_hasWord zq_676 (zlit hR zf_200) (by rw [zs_200]; rfl) rfl (mX12_hasWord  hf) rfl hl (Nat.le_of_ble_eq_true rfl) dX12_takePart_90 rfl (fun r8 w8 H locs hf hR => ?_)
    refine lv_if_eq (tgt := 112) hx hb dX12_takePart_93 (by decide) (fun c9 => ?_) (fun c9 => ?_)
    · replace hf := hf.1 c9
      refine lv_aload_n hx hb dX12_takePart_112 rfl (lv_at hl 0 rfl) ?_
      refine lv_bipush (v := (40 : Int32)) hx hb dX12_takePart_113 (by decide) ?_
      refine z_callVI (fr1 := 1) (b := 200) (As := [.int (40 : Int32)]) (rest := []) X (hr.le (by omega)) hR zy_X12_hasSign zq_699 (zlit hR zf_200) (by rw [zs_200]; rfl) rfl (mX12_hasSign  hf) rfl hl (Nat.le_of_ble_eq_true rfl) dX12_takePart_115 rfl (fun r10 w10 H locs hf hR => ?_)
      refine lv_if_eq (tgt := 137) hx hb dX12_takePart_118 (by decide) (fun c11 => ?_) (fun c11 => ?_)
      · replace hf := hf.1 c11
        refine lv_aload_n hx hb dX12_takePart_137 rfl (lv_at hl 0 rfl) ?_
        refine lv_iload_n hx hb dX12_takePart_138 rfl (lv_at hl 2 rfl) ?_
        have kJ12 : ∀ v12 : Int32, v12 = (if x2 = 0 then (2 : Int32) else (1 : Int32)) → W p l e R s m args below meth c H locs cells slots Q (F0 m 147 ls (.int v12 :: .ref (ad 200) :: [])) := by
          intro v12 hv12
          replace hf := hf v12 hv12
          exact mX12_takePart_J147 X hr hQ hfr hzX12_takePart hqzX12_takePart hzX12_whole hqzX12_whole  hf hR (lv_sub hl [0, 2, 3] rfl)
        refine lv_if_eq (tgt := 146) hx hb dX12_takePart_139 (by decide) (fun c12 => ?_) (fun c12 => ?_)
        · refine lv_iconst (v := (2 : Int32)) hx hb dX12_takePart_146 (by decide) ?_
          exact kJ12 _ (if_pos c12).symm
        · refine lv_iconst (v := (1 : Int32)) hx hb dX12_takePart_142 (by decide) ?_
          refine lv_goto (tgt := 147) hx hb dX12_takePart_143 (by decide) ?_
          exact kJ12 _ (if_neg c12).symm
      · replace hf := hf.2 c11
        refine lv_aload_n hx hb dX12_takePart_121 rfl (lv_at hl 0 rfl) ?_
        refine lv_iload_n hx hb dX12_takePart_122 rfl (lv_at hl 1 rfl) ?_
        refine lv_iconst (v := (1 : Int32)) hx hb dX12_takePart_123 (by decide) ?_
        refine lv_iadd hx hb dX12_takePart_124 ?_
        refine z_callVV (fr1 := qX12_whole) (b := 200) (As := [.int (x1 + (1 : Int32))]) (rest := []) X (hr.le (by omega)) hR zy_X12_whole zq_684 (zlit hR zf_200) (by rw [zs_200]; rfl) rfl (hzX12_whole _ _ _ hf) rfl hl (Nat.le_of_ble_eq_true rfl) dX12_takePart_125 rfl (fun w17 H locs hf hR => ?_)
        refine lv_aload_n hx hb dX12_takePart_128 rfl (lv_at hl 0 rfl) ?_
        refine lv_bipush (v := (41 : Int32)) hx hb dX12_takePart_129 (by decide) ?_
        refine z_callVV (fr1 := 1) (b := 200) (As := [.int (41 : Int32)]) (rest := []) X (hr.le (by omega)) hR zy_X12_takeSign zq_652 (zlit hR zf_200) (by rw [zs_200]; rfl) rfl (mX12_takeSign  hf) rfl hl (Nat.le_of_ble_eq_true rfl) dX12_takePart_131 rfl (fun w18 H locs hf hR => ?_)
        refine lv_goto (tgt := 178) hx hb dX12_takePart_134 (by decide) ?_
        exact hQ _ _ _ _ _ hf hR dX12_takePart_178
    · replace hf := hf.2 c9
      refine lv_aload_n hx hb dX12_takePart_96 rfl (lv_at hl 0 rfl) ?_
      refine lv_iload_n hx hb dX12_takePart_97 rfl (lv_at hl 1 rfl) ?_
      refine lv_iconst (v := (1 : Int32)) hx hb dX12_takePart_98 (by decide) ?_
      refine lv_iadd hx hb dX12_takePart_99 ?_
      refine z_callVV (fr1 := qX12_takePart) (b := 200) (As := [.int (x1 + (1 : Int32))]) (rest := []) X (hr.le (by omega)) hR zy_X12_takePart zq_696 (zlit hR zf_200) (by rw [zs_200]; rfl) rfl (hzX12_takePart _ _ _ hf) rfl hl (Nat.le_of_ble_eq_true rfl) dX12_takePart_100 rfl (fun w19 H locs hf hR => ?_)
      refine lv_aload_n hx hb dX12_takePart_103 rfl (lv_at hl 0 rfl) ?_
      refine lv_iconst (v := (3 : Int32)) hx hb dX12_takePart_104 (by decide) ?_
      refine lv_iconst (v := (0 : Int32)) hx hb dX12_takePart_105 (by decide) ?_
      refine z_callVV (fr1 := 0) (b := 200) (As := [.int (3 : Int32), .int (0 : Int32)]) (rest := []) X (hr.le (by omega)) hR zy_X12_emit zq_691 (zlit hR zf_200) (by rw [zs_200]; rfl) rfl (mX12_emit  hf) rfl hl (Nat.le_of_ble_eq_true rfl) dX12_takePart_106 rfl (fun w20 H locs hf hR => ?_)
      refine lv_goto (tgt := 178) hx hb dX12_takePart_109 (by decide) ?_
      exact hQ _ _ _ _ _ hf hR dX12_takePart_178
  · replace hf := hf.2 c7
    exact hQ _ _ _ _ _ hf hR dX12_takePart_86
def fX12_takePart_J69 (zX12_takePart : Int32 → zW → (zW → Prop) → Prop) (zX12_whole : Int32 → zW → (zW → Prop) → Prop) (k : zW → Prop) (x1 : Int32) (x2 : Int32) (x3 : Int32) (w : zW) : Prop :=
  ((¬ x1 = (5 : Int32) →
    fX12_takePart_J79 zX12_takePart zX12_whole k x1 x2 x3 w) ∧
   (x1 = (5 : Int32) →
    fX12_wrong (5 : Int32) w (fun w21 =>
    fX12_takePart_J79 zX12_takePart zX12_whole k x1 x2 x3 w21)))
set_option maxHeartbeats 4000000 in
set_option maxRecDepth 100000 in
theorem mX12_takePart_J69 {k : zW → Prop} {zX12_takePart : Int32 → zW → (zW → Prop) → Prop} {qX12_takePart : Nat} {zX12_whole : Int32 → zW → (zW → Prop) → Prop} {qX12_whole : Nat} {fr : Nat} (X : zCx p s m args meth c cX12_takePart 4 RX12 none) (hr : zRm R fr cells slots) (hQ : zRetV p l e R s m args below meth c cells slots Q D dA true ad0 al0 ad al cX12_takePart k) (hfr : 2 ≤ fr) (hzX12_takePart : ∀ (x1 : Int32) (w : zW) (k : zW → Prop), zX12_takePart x1 w k → zmetV l yX12_takePart cX12_takePart 4 none qX12_takePart [.ref (ad 200), .int x1] D dA true ad al w k) (hqzX12_takePart : qX12_takePart + 1 ≤ fr) (hzX12_whole : ∀ (x1 : Int32) (w : zW) (k : zW → Prop), zX12_whole x1 w k → zmetV l yX12_whole cX12_whole 3 none qX12_whole [.ref (ad 200), .int x1] D dA true ad al w k) (hqzX12_whole : qX12_whole + 1 ≤ fr)  {x1 : Int32} {x2 : Int32} {x3 : Int32} {w : zW} {H : Heap} {locs : List Loc} {ls : Array Slot} (hf : fX12_takePart_J69 zX12_takePart zX12_whole k x1 x2 x3 w) (hR : zSt D dA true ad0 al0 ad al w s H locs) (hl : lv_has ls 4 [(0, .ref (ad 200)), (1, .int x1), (2, .int x2), (3, .int x3)]) : W p l e R s m args below meth c H locs cells slots Q (F0 m 69 ls []) := by
  have hx := X.1
  have hb := X.2.1
  have hml := X.2.2.1
  have hown := X.2.2.2.1
  have hts := X.2.2.2.2.1
  unfold fX12_takePart_J69 at hf
  refine lv_iload_n hx hb dX12_takePart_69 rfl (lv_at hl 1 rfl) ?_
  refine lv_iconst (v := (5 : Int32)) hx hb dX12_takePart_70 (by decide) ?_
  refine lv_icmp_ne (tgt := 79) hx hb dX12_takePart_71 (by decide) (fun c6 => ?_) (fun c6 => ?_)
  · replace hf := hf.1 c6
    exact mX12_takePart_J79 X hr hQ hfr hzX12_takePart hqzX12_takePart hzX12_whole hqzX12_whole  hf hR (lv_sub hl [0, 1, 2, 3] rfl)
  · replace hf := hf.2 c6
    refine lv_aload_n hx hb dX12_takePart_74 rfl (lv_at hl 0 rfl) ?_
    refine lv_iconst (v := (5 : Int32)) hx hb dX12_takePart_75 (by decide) ?_
    refine z_callVV (fr1 := 0) (b := 200) (As := [.int (5 : Int32)]) (rest := []) X (hr.le (by omega)) hR zy_X12_wrong zq_619 (zlit hR zf_200) (by rw [zs_200]; rfl) rfl (mX12_wrong  hf) rfl hl (Nat.le_of_ble_eq_true rfl) dX12_takePart_76 rfl (fun w21 H locs hf hR => ?_)
    exact mX12_takePart_J79 X hr hQ hfr hzX12_takePart hqzX12_takePart hzX12_whole hqzX12_whole  hf hR (lv_sub hl [0, 1, 2, 3] rfl)
def fX12_takePart_J26 (zX12_takePart : Int32 → zW → (zW → Prop) → Prop) (zX12_whole : Int32 → zW → (zW → Prop) → Prop) (k : zW → Prop) (x1 : Int32) (t0 : Int32) (w : zW) : Prop :=
  fX12_wordHere (17 : Int32) (4 : Int32) w (fun r4 w4 =>
  ((0 ≤ r4 →
    fX12_takePart_J69 zX12_takePart zX12_whole k x1 t0 r4 w4) ∧
   (¬ 0 ≤ r4 →
    ((¬ t0 = 0 →
      fX12_takePart_J69 zX12_takePart zX12_whole k x1 t0 r4 w4) ∧
     (t0 = 0 →
      fX12_isSign (40 : Int32) w4 (fun r23 w23 =>
      ((¬ r23 = 0 →
        fX12_takePart_J69 zX12_takePart zX12_whole k x1 t0 r4 w23) ∧
       (r23 = 0 →
        fX12_isWord (14 : Int32) w23 (fun r25 w25 =>
        ((¬ r25 = 0 →
          fX12_takePart_J69 zX12_takePart zX12_whole k x1 t0 r4 w25) ∧
         (r25 = 0 →
          fX12_wrong (1 : Int32) w25 (fun w27 =>
          fX12_takePart_J79 zX12_takePart zX12_whole k x1 t0 r4 w27))))))))))))
set_option maxHeartbeats 4000000 in
set_option maxRecDepth 100000 in
theorem mX12_takePart_J26 {k : zW → Prop} {zX12_takePart : Int32 → zW → (zW → Prop) → Prop} {qX12_takePart : Nat} {zX12_whole : Int32 → zW → (zW → Prop) → Prop} {qX12_whole : Nat} {fr : Nat} (X : zCx p s m args meth c cX12_takePart 4 RX12 none) (hr : zRm R fr cells slots) (hQ : zRetV p l e R s m args below meth c cells slots Q D dA true ad0 al0 ad al cX12_takePart k) (hfr : 2 ≤ fr) (hzX12_takePart : ∀ (x1 : Int32) (w : zW) (k : zW → Prop), zX12_takePart x1 w k → zmetV l yX12_takePart cX12_takePart 4 none qX12_takePart [.ref (ad 200), .int x1] D dA true ad al w k) (hqzX12_takePart : qX12_takePart + 1 ≤ fr) (hzX12_whole : ∀ (x1 : Int32) (w : zW) (k : zW → Prop), zX12_whole x1 w k → zmetV l yX12_whole cX12_whole 3 none qX12_whole [.ref (ad 200), .int x1] D dA true ad al w k) (hqzX12_whole : qX12_whole + 1 ≤ fr)  {x1 : Int32} {t0 : Int32} {w : zW} {H : Heap} {locs : List Loc} {ls : Array Slot} (hf : fX12_takePart_J26 zX12_takePart zX12_whole k x1 t0 w) (hR : zSt D dA true ad0 al0 ad al w s H locs) (hl : lv_has ls 4 [(0, .ref (ad 200)), (1, .int x1)]) : W p l e R s m args below meth c H locs cells slots Q (F0 m 26 ls [.int t0]) := by
  have hx := X.1
  have hb := X.2.1
  have hml := X.2.2.1
  have hown := X.2.2.2.1
  have hts := X.2.2.2.2.1
  unfold fX12_takePart_J26 at hf
  refine lv_istore_n (lv' := [(2, .int t0), (0, .ref (ad 200)), (1, .int x1)]) hx hb dX12_takePart_26 rfl hl (by decide) rfl (fun ls hl => ?_)
  refine lv_aload_n hx hb dX12_takePart_27 rfl (lv_at hl 1 rfl) ?_
  refine lv_bipush (v := (17 : Int32)) hx hb dX12_takePart_28 (by decide) ?_
  refine lv_iconst (v := (4 : Int32)) hx hb dX12_takePart_30 (by decide) ?_
  refine z_callVI (fr1 := 1) (b := 200) (As := [.int (17 : Int32), .int (4 : Int32)]) (rest := []) X (hr.le (by omega)) hR zy_X12_wordHere zq_627 (zlit hR zf_200) (by rw [zs_200]; rfl) rfl (mX12_wordHere  hf) rfl hl (Nat.le_of_ble_eq_true rfl) dX12_takePart_31 rfl (fun r4 w4 H locs hf hR => ?_)
  refine lv_istore_n (lv' := [(3, .int r4), (2, .int t0), (0, .ref (ad 200)), (1, .int x1)]) hx hb dX12_takePart_34 rfl hl (by decide) rfl (fun ls hl => ?_)
  refine lv_iload_n hx hb dX12_takePart_35 rfl (lv_at hl 0 rfl) ?_
  refine lv_if_ge (tgt := 69) hx hb dX12_takePart_36 (by decide) (fun c5 => ?_) (fun c5 => ?_)
  · replace hf := hf.1 c5
    exact mX12_takePart_J69 X hr hQ hfr hzX12_takePart hqzX12_takePart hzX12_whole hqzX12_whole  hf hR (lv_sub hl [2, 3, 1, 0] rfl)
  · replace hf := hf.2 c5
    refine lv_iload_n hx hb dX12_takePart_39 rfl (lv_at hl 1 rfl) ?_
    refine lv_if_ne (tgt := 69) hx hb dX12_takePart_40 (by decide) (fun c22 => ?_) (fun c22 => ?_)
    · replace hf := hf.1 c22
      exact mX12_takePart_J69 X hr hQ hfr hzX12_takePart hqzX12_takePart hzX12_whole hqzX12_whole  hf hR (lv_sub hl [2, 3, 1, 0] rfl)
    · replace hf := hf.2 c22
      refine lv_aload_n hx hb dX12_takePart_43 rfl (lv_at hl 2 rfl) ?_
      refine lv_bipush (v := (40 : Int32)) hx hb dX12_takePart_44 (by decide) ?_
      refine z_callVI (fr1 := 0) (b := 200) (As := [.int (40 : Int32)]) (rest := []) X (hr.le (by omega)) hR zy_X12_isSign zq_648 (zlit hR zf_200) (by rw [zs_200]; rfl) rfl (mX12_isSign  hf) rfl hl (Nat.le_of_ble_eq_true rfl) dX12_takePart_46 rfl (fun r23 w23 H locs hf hR => ?_)
      refine lv_if_ne (tgt := 69) hx hb dX12_takePart_49 (by decide) (fun c24 => ?_) (fun c24 => ?_)
      · replace hf := hf.1 c24
        exact mX12_takePart_J69 X hr hQ hfr hzX12_takePart hqzX12_takePart hzX12_whole hqzX12_whole  hf hR (lv_sub hl [2, 3, 1, 0] rfl)
      · replace hf := hf.2 c24
        refine lv_aload_n hx hb dX12_takePart_52 rfl (lv_at hl 2 rfl) ?_
        refine lv_bipush (v := (14 : Int32)) hx hb dX12_takePart_53 (by decide) ?_
        refine z_callVI (fr1 := 0) (b := 200) (As := [.int (14 : Int32)]) (rest := []) X (hr.le (by omega)) hR zy_X12_isWord zq_611 (zlit hR zf_200) (by rw [zs_200]; rfl) rfl (mX12_isWord  hf) rfl hl (Nat.le_of_ble_eq_true rfl) dX12_takePart_55 rfl (fun r25 w25 H locs hf hR => ?_)
        refine lv_if_ne (tgt := 69) hx hb dX12_takePart_58 (by decide) (fun c26 => ?_) (fun c26 => ?_)
        · replace hf := hf.1 c26
          exact mX12_takePart_J69 X hr hQ hfr hzX12_takePart hqzX12_takePart hzX12_whole hqzX12_whole  hf hR (lv_sub hl [2, 3, 1, 0] rfl)
        · replace hf := hf.2 c26
          refine lv_aload_n hx hb dX12_takePart_61 rfl (lv_at hl 2 rfl) ?_
          refine lv_iconst (v := (1 : Int32)) hx hb dX12_takePart_62 (by decide) ?_
          refine z_callVV (fr1 := 0) (b := 200) (As := [.int (1 : Int32)]) (rest := []) X (hr.le (by omega)) hR zy_X12_wrong zq_619 (zlit hR zf_200) (by rw [zs_200]; rfl) rfl (mX12_wrong  hf) rfl hl (Nat.le_of_ble_eq_true rfl) dX12_takePart_63 rfl (fun w27 H locs hf hR => ?_)
          refine lv_goto (tgt := 79) hx hb dX12_takePart_66 (by decide) ?_
          exact mX12_takePart_J79 X hr hQ hfr hzX12_takePart hqzX12_takePart hzX12_whole hqzX12_whole  hf hR (lv_sub hl [2, 3, 1, 0] rfl)
def fX12_takePart (zX12_takePart : Int32 → zW → (zW → Prop) → Prop) (zX12_whole : Int32 → zW → (zW → Prop) → Prop) (x1 : Int32) (w : zW) (k : zW → Prop) : Prop :=
  (((gI w 200 8) ≤ 0 →
    vp_in (gI w 200 7) 1002 ∧ 
    ∀ v3 : Int32, v3 = (if ¬ (gI w 204 (gI w 200 7).toNatClampNeg) = (2 : Int32) then (0 : Int32) else (1 : Int32)) →
    fX12_takePart_J26 zX12_takePart zX12_whole k x1 v3 w) ∧
   (¬ (gI w 200 8) ≤ 0 →
    k w))
set_option maxHeartbeats 4000000 in
set_option maxRecDepth 100000 in
theorem mX12_takePart {l : Launch} {D : va_G} {dA : Nat → ClassId} {ad : Nat → Nat} {al : Nat → Prop} {w : zW} {k : zW → Prop} {x1 : Int32} {zX12_takePart : Int32 → zW → (zW → Prop) → Prop} {qX12_takePart : Nat} {zX12_whole : Int32 → zW → (zW → Prop) → Prop} {qX12_whole : Nat} {fr : Nat}  (hfr : 2 ≤ fr) (hzX12_takePart : ∀ (x1 : Int32) (w : zW) (k : zW → Prop), zX12_takePart x1 w k → zmetV l yX12_takePart cX12_takePart 4 none qX12_takePart [.ref (ad 200), .int x1] D dA true ad al w k) (hqzX12_takePart : qX12_takePart + 1 ≤ fr) (hzX12_whole : ∀ (x1 : Int32) (w : zW) (k : zW → Prop), zX12_whole x1 w k → zmetV l yX12_whole cX12_whole 3 none qX12_whole [.ref (ad 200), .int x1] D dA true ad al w k) (hqzX12_whole : qX12_whole + 1 ≤ fr) (hf : fX12_takePart zX12_takePart zX12_whole x1 w k) : zmetV l yX12_takePart cX12_takePart 4 none fr [.ref (ad 200), .int x1] D dA true ad al w k := by
  refine zmetV_of (by decide) (Nat.le_of_ble_eq_true rfl) ?_
  intro p e R s m below meth c Q H ls args locs cells slots X hr hQ hR hl
  have hx := X.1
  have hb := X.2.1
  have hml := X.2.2.1
  have hown := X.2.2.2.1
  have hts := X.2.2.2.2.1
  unfold fX12_takePart at hf
  have hl : lv_has ls 4 [(0, .ref (ad 200)), (1, .int x1)] := hl
  refine lv_aload_n hx hb dX12_takePart_0 rfl (lv_at hl 0 rfl) ?_
  refine z_getI X hR (zlit hR zf_200) zs_200 (by decide) zfd_X12_185 rfl dX12_takePart_1 ?_
  refine lv_if_le (tgt := 8) hx hb dX12_takePart_4 (by decide) (fun c1 => ?_) (fun c1 => ?_)
  · replace hf := hf.1 c1
    refine lv_aload_n hx hb dX12_takePart_8 rfl (lv_at hl 0 rfl) ?_
    refine z_getS X hR (zlit hR zf_200) zs_200 (by decide) zfd_X12_24 rfl (r := 204) (by decide +kernel) dX12_takePart_9 ?_
    refine lv_aload_n hx hb dX12_takePart_12 rfl (lv_at hl 0 rfl) ?_
    refine z_getI X hR (zlit hR zf_200) zs_200 (by decide) zfd_X12_182 rfl dX12_takePart_13 ?_
    obtain ⟨hb2, hf⟩ := hf
    refine z_iald X hR (zlit hR zf_204) zs_204 zl_204 hb2 dX12_takePart_16 ?_
    refine lv_iconst (v := (2 : Int32)) hx hb dX12_takePart_17 (by decide) ?_
    have kJ3 : ∀ v3 : Int32, v3 = (if ¬ (gI w 204 (gI w 200 7).toNatClampNeg) = (2 : Int32) then (0 : Int32) else (1 : Int32)) → W p l e R s m args below meth c H locs cells slots Q (F0 m 26 ls (.int v3 :: [])) := by
      intro v3 hv3
      replace hf := hf v3 hv3
      exact mX12_takePart_J26 X hr hQ hfr hzX12_takePart hqzX12_takePart hzX12_whole hqzX12_whole  hf hR (lv_sub hl [0, 1] rfl)
    refine lv_icmp_ne (tgt := 25) hx hb dX12_takePart_18 (by decide) (fun c3 => ?_) (fun c3 => ?_)
    · refine lv_iconst (v := (0 : Int32)) hx hb dX12_takePart_25 (by decide) ?_
      exact kJ3 _ (if_pos c3).symm
    · refine lv_iconst (v := (1 : Int32)) hx hb dX12_takePart_21 (by decide) ?_
      refine lv_goto (tgt := 26) hx hb dX12_takePart_22 (by decide) ?_
      exact kJ3 _ (if_neg (fun h9 => h9 c3)).symm
  · replace hf := hf.2 c1
    exact hQ _ _ _ _ _ hf hR dX12_takePart_7
/-! X12_products -/
def fX12_products_L5 (zX12_takePart : Int32 → zW → (zW → Prop) → Prop) (k : zW → Prop) : Nat → Int32 → zW → Prop
  | 0 => fun _ _ => False
  | n + 1 => fun x1 w =>
    fX12_hasSign (42 : Int32) w (fun r2 w2 =>
    ((r2 = 0 →
      k w2) ∧
     (¬ r2 = 0 →
      zX12_takePart x1 w2 (fun w4 =>
      fX12_emit (6 : Int32) (0 : Int32) w4 (fun w5 =>
      fX12_products_L5 zX12_takePart k n x1 w5)))))
set_option maxHeartbeats 4000000 in
set_option maxRecDepth 100000 in
theorem mX12_products_L5 {k : zW → Prop} {zX12_takePart : Int32 → zW → (zW → Prop) → Prop} {qX12_takePart : Nat} {fr : Nat} (X : zCx p s m args meth c cX12_products 2 RX12 none) (hr : zRm R fr cells slots) (hQ : zRetV p l e R s m args below meth c cells slots Q D dA true ad0 al0 ad al cX12_products k) (hfr : 2 ≤ fr) (hzX12_takePart : ∀ (x1 : Int32) (w : zW) (k : zW → Prop), zX12_takePart x1 w k → zmetV l yX12_takePart cX12_takePart 4 none qX12_takePart [.ref (ad 200), .int x1] D dA true ad al w k) (hqzX12_takePart : qX12_takePart + 1 ≤ fr)  : ∀ (n : Nat) (x1 : Int32) (w : zW) (H : Heap) (locs : List Loc) (ls : Array Slot), fX12_products_L5 zX12_takePart k n x1 w → zSt D dA true ad0 al0 ad al w s H locs → lv_has ls 2 [(0, .ref (ad 200)), (1, .int x1)] → W p l e R s m args below meth c H locs cells slots Q (F0 m 5 ls []) := by
  intro n
  induction n with
  | zero => exact fun _ _ _ _ _ hf => hf.elim
  | succ n ih =>
    intro x1 w H locs ls hf hR hl
    have hx := X.1
    have hb := X.2.1
    have hml := X.2.2.1
    have hown := X.2.2.2.1
    have hts := X.2.2.2.2.1
    rw [fX12_products_L5] at hf
    refine lv_aload_n hx hb dX12_products_5 rfl (lv_at hl 0 rfl) ?_
    refine lv_bipush (v := (42 : Int32)) hx hb dX12_products_6 (by decide) ?_
    refine z_callVI (fr1 := 1) (b := 200) (As := [.int (42 : Int32)]) (rest := []) X (hr.le (by omega)) hR zy_X12_hasSign zq_699 (zlit hR zf_200) (by rw [zs_200]; rfl) rfl (mX12_hasSign  hf) rfl hl (Nat.le_of_ble_eq_true rfl) dX12_products_8 rfl (fun r2 w2 H locs hf hR => ?_)
    refine lv_if_eq (tgt := 29) hx hb dX12_products_11 (by decide) (fun c3 => ?_) (fun c3 => ?_)
    · replace hf := hf.1 c3
      exact hQ _ _ _ _ _ hf hR dX12_products_29
    · replace hf := hf.2 c3
      refine lv_aload_n hx hb dX12_products_14 rfl (lv_at hl 0 rfl) ?_
      refine lv_iload_n hx hb dX12_products_15 rfl (lv_at hl 1 rfl) ?_
      refine z_callVV (fr1 := qX12_takePart) (b := 200) (As := [.int x1]) (rest := []) X (hr.le (by omega)) hR zy_X12_takePart zq_696 (zlit hR zf_200) (by rw [zs_200]; rfl) rfl (hzX12_takePart _ _ _ hf) rfl hl (Nat.le_of_ble_eq_true rfl) dX12_products_16 rfl (fun w4 H locs hf hR => ?_)
      refine lv_aload_n hx hb dX12_products_19 rfl (lv_at hl 0 rfl) ?_
      refine lv_bipush (v := (6 : Int32)) hx hb dX12_products_20 (by decide) ?_
      refine lv_iconst (v := (0 : Int32)) hx hb dX12_products_22 (by decide) ?_
      refine z_callVV (fr1 := 0) (b := 200) (As := [.int (6 : Int32), .int (0 : Int32)]) (rest := []) X (hr.le (by omega)) hR zy_X12_emit zq_691 (zlit hR zf_200) (by rw [zs_200]; rfl) rfl (mX12_emit  hf) rfl hl (Nat.le_of_ble_eq_true rfl) dX12_products_23 rfl (fun w5 H locs hf hR => ?_)
      refine lv_goto (tgt := 5) hx hb dX12_products_26 (by decide) ?_
      exact ih x1 w5 _ _ _ hf hR (lv_sub hl [0, 1] rfl)
def fX12_products (zX12_takePart : Int32 → zW → (zW → Prop) → Prop) (x1 : Int32) (w : zW) (k : zW → Prop) : Prop :=
  zX12_takePart x1 w (fun w1 =>
  ∃ n9, fX12_products_L5 zX12_takePart k n9 x1 w1)
set_option maxHeartbeats 4000000 in
set_option maxRecDepth 100000 in
theorem mX12_products {l : Launch} {D : va_G} {dA : Nat → ClassId} {ad : Nat → Nat} {al : Nat → Prop} {w : zW} {k : zW → Prop} {x1 : Int32} {zX12_takePart : Int32 → zW → (zW → Prop) → Prop} {qX12_takePart : Nat} {fr : Nat}  (hfr : 2 ≤ fr) (hzX12_takePart : ∀ (x1 : Int32) (w : zW) (k : zW → Prop), zX12_takePart x1 w k → zmetV l yX12_takePart cX12_takePart 4 none qX12_takePart [.ref (ad 200), .int x1] D dA true ad al w k) (hqzX12_takePart : qX12_takePart + 1 ≤ fr) (hf : fX12_products zX12_takePart x1 w k) : zmetV l yX12_products cX12_products 2 none fr [.ref (ad 200), .int x1] D dA true ad al w k := by
  refine zmetV_of (by decide) (Nat.le_of_ble_eq_true rfl) ?_
  intro p e R s m below meth c Q H ls args locs cells slots X hr hQ hR hl
  have hx := X.1
  have hb := X.2.1
  have hml := X.2.2.1
  have hown := X.2.2.2.1
  have hts := X.2.2.2.2.1
  unfold fX12_products at hf
  have hl : lv_has ls 2 [(0, .ref (ad 200)), (1, .int x1)] := hl
  refine lv_aload_n hx hb dX12_products_0 rfl (lv_at hl 0 rfl) ?_
  refine lv_iload_n hx hb dX12_products_1 rfl (lv_at hl 1 rfl) ?_
  refine z_callVV (fr1 := qX12_takePart) (b := 200) (As := [.int x1]) (rest := []) X (hr.le (by omega)) hR zy_X12_takePart zq_696 (zlit hR zf_200) (by rw [zs_200]; rfl) rfl (hzX12_takePart _ _ _ hf) rfl hl (Nat.le_of_ble_eq_true rfl) dX12_products_2 rfl (fun w1 H locs hf hR => ?_)
  obtain ⟨n9, hf⟩ := hf
  exact mX12_products_L5 X hr hQ hfr hzX12_takePart hqzX12_takePart  n9 x1 w1 _ _ _ hf hR (lv_sub hl [0, 1] rfl)
/-! X12_sums -/
def fX12_sums_J55 (zX12_products : Int32 → zW → (zW → Prop) → Prop) (k : zW → Prop) (g5 : Int32 → zW → Prop) (x1 : Int32) (t0 : Int32) (w : zW) : Prop :=
  fX12_emit t0 (0 : Int32) w (fun w8 =>
  g5 x1 w8)
set_option maxHeartbeats 4000000 in
set_option maxRecDepth 100000 in
theorem mX12_sums_J55 {k : zW → Prop} {g5 : Int32 → zW → Prop} {zX12_products : Int32 → zW → (zW → Prop) → Prop} {qX12_products : Nat} {fr : Nat} (X : zCx p s m args meth c cX12_sums 3 RX12 none) (hr : zRm R fr cells slots) (hQ : zRetV p l e R s m args below meth c cells slots Q D dA true ad0 al0 ad al cX12_sums k) (hfr : 1 ≤ fr) (hzX12_products : ∀ (x1 : Int32) (w : zW) (k : zW → Prop), zX12_products x1 w k → zmetV l yX12_products cX12_products 2 none qX12_products [.ref (ad 200), .int x1] D dA true ad al w k) (hqzX12_products : qX12_products + 1 ≤ fr) (hg5 : ∀ (x1 : Int32) (w : zW) (H : Heap) (locs : List Loc) (ls : Array Slot), g5 x1 w → zSt D dA true ad0 al0 ad al w s H locs → lv_has ls 3 [(0, .ref (ad 200)), (1, .int x1)] → W p l e R s m args below meth c H locs cells slots Q (F0 m 5 ls [])) {x1 : Int32} {t0 : Int32} {w : zW} {H : Heap} {locs : List Loc} {ls : Array Slot} (hf : fX12_sums_J55 zX12_products k g5 x1 t0 w) (hR : zSt D dA true ad0 al0 ad al w s H locs) (hl : lv_has ls 3 [(0, .ref (ad 200)), (1, .int x1)]) : W p l e R s m args below meth c H locs cells slots Q (F0 m 55 ls [.int t0, .ref (ad 200)]) := by
  have hx := X.1
  have hb := X.2.1
  have hml := X.2.2.1
  have hown := X.2.2.2.1
  have hts := X.2.2.2.2.1
  unfold fX12_sums_J55 at hf
  refine lv_iconst (v := (0 : Int32)) hx hb dX12_sums_55 (by decide) ?_
  refine z_callVV (fr1 := 0) (b := 200) (As := [.int t0, .int (0 : Int32)]) (rest := []) X (hr.le (by omega)) hR zy_X12_emit zq_691 (zlit hR zf_200) (by rw [zs_200]; rfl) rfl (mX12_emit  hf) rfl hl (Nat.le_of_ble_eq_true rfl) dX12_sums_56 rfl (fun w8 H locs hf hR => ?_)
  refine lv_goto (tgt := 5) hx hb dX12_sums_59 (by decide) ?_
  exact hg5 x1 w8 _ _ _ hf hR (lv_sub hl [0, 1] rfl)
def fX12_sums_J23 (zX12_products : Int32 → zW → (zW → Prop) → Prop) (k : zW → Prop) (g5 : Int32 → zW → Prop) (x1 : Int32) (w : zW) : Prop :=
  fX12_isSign (43 : Int32) w (fun r4 w4 =>
  ∀ w5 : zW, w5 = sI w4 200 7 ((gI w4 200 7) + (1 : Int32)) →
  zX12_products x1 w5 (fun w6 =>
  ∀ v7 : Int32, v7 = (if r4 = 0 then (5 : Int32) else (4 : Int32)) →
  fX12_sums_J55 zX12_products k g5 x1 v7 w6))
set_option maxHeartbeats 4000000 in
set_option maxRecDepth 100000 in
theorem mX12_sums_J23 {k : zW → Prop} {g5 : Int32 → zW → Prop} {zX12_products : Int32 → zW → (zW → Prop) → Prop} {qX12_products : Nat} {fr : Nat} (X : zCx p s m args meth c cX12_sums 3 RX12 none) (hr : zRm R fr cells slots) (hQ : zRetV p l e R s m args below meth c cells slots Q D dA true ad0 al0 ad al cX12_sums k) (hfr : 1 ≤ fr) (hzX12_products : ∀ (x1 : Int32) (w : zW) (k : zW → Prop), zX12_products x1 w k → zmetV l yX12_products cX12_products 2 none qX12_products [.ref (ad 200), .int x1] D dA true ad al w k) (hqzX12_products : qX12_products + 1 ≤ fr) (hg5 : ∀ (x1 : Int32) (w : zW) (H : Heap) (locs : List Loc) (ls : Array Slot), g5 x1 w → zSt D dA true ad0 al0 ad al w s H locs → lv_has ls 3 [(0, .ref (ad 200)), (1, .int x1)] → W p l e R s m args below meth c H locs cells slots Q (F0 m 5 ls [])) {x1 : Int32} {w : zW} {H : Heap} {locs : List Loc} {ls : Array Slot} (hf : fX12_sums_J23 zX12_products k g5 x1 w) (hR : zSt D dA true ad0 al0 ad al w s H locs) (hl : lv_has ls 3 [(0, .ref (ad 200)), (1, .int x1)]) : W p l e R s m args below meth c H locs cells slots Q (F0 m 23 ls []) := by
  have hx := X.1
  have hb := X.2.1
  have hml := X.2.2.1
  have hown := X.2.2.2.1
  have hts := X.2.2.2.2.1
  unfold fX12_sums_J23 at hf
  refine lv_aload_n hx hb dX12_sums_23 rfl (lv_at hl 0 rfl) ?_
  refine lv_bipush (v := (43 : Int32)) hx hb dX12_sums_24 (by decide) ?_
  refine z_callVI (fr1 := 0) (b := 200) (As := [.int (43 : Int32)]) (rest := []) X (hr.le (by omega)) hR zy_X12_isSign zq_648 (zlit hR zf_200) (by rw [zs_200]; rfl) rfl (mX12_isSign  hf) rfl hl (Nat.le_of_ble_eq_true rfl) dX12_sums_26 rfl (fun r4 w4 H locs hf hR => ?_)
  refine lv_istore_n (lv' := [(2, .int r4), (0, .ref (ad 200)), (1, .int x1)]) hx hb dX12_sums_29 rfl hl (by decide) rfl (fun ls hl => ?_)
  refine lv_aload_n hx hb dX12_sums_30 rfl (lv_at hl 1 rfl) ?_
  refine lv_dup hx hb dX12_sums_31 rfl ?_
  refine z_getI X hR (zlit hR zf_200) zs_200 (by decide) zfd_X12_182 rfl dX12_sums_32 ?_
  refine lv_iconst (v := (1 : Int32)) hx hb dX12_sums_35 (by decide) ?_
  refine lv_iadd hx hb dX12_sums_36 ?_
  refine z_putI X hR (zlit hR zf_200) zs_200 (by decide) zfp_X12_182 rfl dX12_sums_37 (fun H locs hR => ?_)
  obtain ⟨w5, hw5⟩ : ∃ z : zW, z = sI w4 200 7 ((gI w4 200 7) + (1 : Int32)) := ⟨_, rfl⟩
  rw [← hw5] at hR
  replace hf := hf w5 hw5
  refine lv_aload_n hx hb dX12_sums_40 rfl (lv_at hl 1 rfl) ?_
  refine lv_iload_n hx hb dX12_sums_41 rfl (lv_at hl 2 rfl) ?_
  refine z_callVV (fr1 := qX12_products) (b := 200) (As := [.int x1]) (rest := []) X (hr.le (by omega)) hR zy_X12_products zq_704 (zlit hR zf_200) (by rw [zs_200]; rfl) rfl (hzX12_products _ _ _ hf) rfl hl (Nat.le_of_ble_eq_true rfl) dX12_sums_42 rfl (fun w6 H locs hf hR => ?_)
  refine lv_aload_n hx hb dX12_sums_45 rfl (lv_at hl 1 rfl) ?_
  refine lv_iload_n hx hb dX12_sums_46 rfl (lv_at hl 0 rfl) ?_
  have kJ7 : ∀ v7 : Int32, v7 = (if r4 = 0 then (5 : Int32) else (4 : Int32)) → W p l e R s m args below meth c H locs cells slots Q (F0 m 55 ls (.int v7 :: .ref (ad 200) :: [])) := by
    intro v7 hv7
    replace hf := hf v7 hv7
    exact mX12_sums_J55 X hr hQ hfr hzX12_products hqzX12_products hg5 hf hR (lv_sub hl [1, 2] rfl)
  refine lv_if_eq (tgt := 54) hx hb dX12_sums_47 (by decide) (fun c7 => ?_) (fun c7 => ?_)
  · refine lv_iconst (v := (5 : Int32)) hx hb dX12_sums_54 (by decide) ?_
    exact kJ7 _ (if_pos c7).symm
  · refine lv_iconst (v := (4 : Int32)) hx hb dX12_sums_50 (by decide) ?_
    refine lv_goto (tgt := 55) hx hb dX12_sums_51 (by decide) ?_
    exact kJ7 _ (if_neg c7).symm
def fX12_sums_L5 (zX12_products : Int32 → zW → (zW → Prop) → Prop) (k : zW → Prop) : Nat → Int32 → zW → Prop
  | 0 => fun _ _ => False
  | n + 1 => fun x1 w =>
    fX12_isSign (43 : Int32) w (fun r2 w2 =>
    ((¬ r2 = 0 →
      fX12_sums_J23 zX12_products k (fX12_sums_L5 zX12_products k n) x1 w2) ∧
     (r2 = 0 →
      fX12_isSign (45 : Int32) w2 (fun r9 w9 =>
      ((r9 = 0 →
        k w9) ∧
       (¬ r9 = 0 →
        fX12_sums_J23 zX12_products k (fX12_sums_L5 zX12_products k n) x1 w9))))))
set_option maxHeartbeats 4000000 in
set_option maxRecDepth 100000 in
theorem mX12_sums_L5 {k : zW → Prop} {zX12_products : Int32 → zW → (zW → Prop) → Prop} {qX12_products : Nat} {fr : Nat} (X : zCx p s m args meth c cX12_sums 3 RX12 none) (hr : zRm R fr cells slots) (hQ : zRetV p l e R s m args below meth c cells slots Q D dA true ad0 al0 ad al cX12_sums k) (hfr : 1 ≤ fr) (hzX12_products : ∀ (x1 : Int32) (w : zW) (k : zW → Prop), zX12_products x1 w k → zmetV l yX12_products cX12_products 2 none qX12_products [.ref (ad 200), .int x1] D dA true ad al w k) (hqzX12_products : qX12_products + 1 ≤ fr)  : ∀ (n : Nat) (x1 : Int32) (w : zW) (H : Heap) (locs : List Loc) (ls : Array Slot), fX12_sums_L5 zX12_products k n x1 w → zSt D dA true ad0 al0 ad al w s H locs → lv_has ls 3 [(0, .ref (ad 200)), (1, .int x1)] → W p l e R s m args below meth c H locs cells slots Q (F0 m 5 ls []) := by
  intro n
  induction n with
  | zero => exact fun _ _ _ _ _ hf => hf.elim
  | succ n ih =>
    intro x1 w H locs ls hf hR hl
    have hx := X.1
    have hb := X.2.1
    have hml := X.2.2.1
    have hown := X.2.2.2.1
    have hts := X.2.2.2.2.1
    rw [fX12_sums_L5] at hf
    refine lv_aload_n hx hb dX12_sums_5 rfl (lv_at hl 0 rfl) ?_
    refine lv_bipush (v := (43 : Int32)) hx hb dX12_sums_6 (by decide) ?_
    refine z_callVI (fr1 := 0) (b := 200) (As := [.int (43 : Int32)]) (rest := []) X (hr.le (by omega)) hR zy_X12_isSign zq_648 (zlit hR zf_200) (by rw [zs_200]; rfl) rfl (mX12_isSign  hf) rfl hl (Nat.le_of_ble_eq_true rfl) dX12_sums_8 rfl (fun r2 w2 H locs hf hR => ?_)
    refine lv_if_ne (tgt := 23) hx hb dX12_sums_11 (by decide) (fun c3 => ?_) (fun c3 => ?_)
    · replace hf := hf.1 c3
      exact mX12_sums_J23 X hr hQ hfr hzX12_products hqzX12_products ih hf hR (lv_sub hl [0, 1] rfl)
    · replace hf := hf.2 c3
      refine lv_aload_n hx hb dX12_sums_14 rfl (lv_at hl 0 rfl) ?_
      refine lv_bipush (v := (45 : Int32)) hx hb dX12_sums_15 (by decide) ?_
      refine z_callVI (fr1 := 0) (b := 200) (As := [.int (45 : Int32)]) (rest := []) X (hr.le (by omega)) hR zy_X12_isSign zq_648 (zlit hR zf_200) (by rw [zs_200]; rfl) rfl (mX12_isSign  hf) rfl hl (Nat.le_of_ble_eq_true rfl) dX12_sums_17 rfl (fun r9 w9 H locs hf hR => ?_)
      refine lv_if_eq (tgt := 62) hx hb dX12_sums_20 (by decide) (fun c10 => ?_) (fun c10 => ?_)
      · replace hf := hf.1 c10
        exact hQ _ _ _ _ _ hf hR dX12_sums_62
      · replace hf := hf.2 c10
        exact mX12_sums_J23 X hr hQ hfr hzX12_products hqzX12_products ih hf hR (lv_sub hl [0, 1] rfl)
def fX12_sums (zX12_products : Int32 → zW → (zW → Prop) → Prop) (x1 : Int32) (w : zW) (k : zW → Prop) : Prop :=
  zX12_products x1 w (fun w1 =>
  ∃ n9, fX12_sums_L5 zX12_products k n9 x1 w1)
set_option maxHeartbeats 4000000 in
set_option maxRecDepth 100000 in
theorem mX12_sums {l : Launch} {D : va_G} {dA : Nat → ClassId} {ad : Nat → Nat} {al : Nat → Prop} {w : zW} {k : zW → Prop} {x1 : Int32} {zX12_products : Int32 → zW → (zW → Prop) → Prop} {qX12_products : Nat} {fr : Nat}  (hfr : 1 ≤ fr) (hzX12_products : ∀ (x1 : Int32) (w : zW) (k : zW → Prop), zX12_products x1 w k → zmetV l yX12_products cX12_products 2 none qX12_products [.ref (ad 200), .int x1] D dA true ad al w k) (hqzX12_products : qX12_products + 1 ≤ fr) (hf : fX12_sums zX12_products x1 w k) : zmetV l yX12_sums cX12_sums 3 none fr [.ref (ad 200), .int x1] D dA true ad al w k := by
  refine zmetV_of (by decide) (Nat.le_of_ble_eq_true rfl) ?_
  intro p e R s m below meth c Q H ls args locs cells slots X hr hQ hR hl
  have hx := X.1
  have hb := X.2.1
  have hml := X.2.2.1
  have hown := X.2.2.2.1
  have hts := X.2.2.2.2.1
  unfold fX12_sums at hf
  have hl : lv_has ls 3 [(0, .ref (ad 200)), (1, .int x1)] := hl
  refine lv_aload_n hx hb dX12_sums_0 rfl (lv_at hl 0 rfl) ?_
  refine lv_iload_n hx hb dX12_sums_1 rfl (lv_at hl 1 rfl) ?_
  refine z_callVV (fr1 := qX12_products) (b := 200) (As := [.int x1]) (rest := []) X (hr.le (by omega)) hR zy_X12_products zq_704 (zlit hR zf_200) (by rw [zs_200]; rfl) rfl (hzX12_products _ _ _ hf) rfl hl (Nat.le_of_ble_eq_true rfl) dX12_sums_2 rfl (fun w1 H locs hf hR => ?_)
  obtain ⟨n9, hf⟩ := hf
  exact mX12_sums_L5 X hr hQ hfr hzX12_products hqzX12_products  n9 x1 w1 _ _ _ hf hR (lv_sub hl [0, 1] rfl)
/-! X12_test -/
def fX12_test_J47 (zX12_sums : Int32 → zW → (zW → Prop) → Prop) (k : zW → Prop) (t0 : Int32) (w : zW) : Prop :=
  fX12_emit t0 (0 : Int32) w (fun w7 =>
  k w7)
set_option maxHeartbeats 4000000 in
set_option maxRecDepth 100000 in
theorem mX12_test_J47 {k : zW → Prop} {zX12_sums : Int32 → zW → (zW → Prop) → Prop} {qX12_sums : Nat} {fr : Nat} (X : zCx p s m args meth c cX12_test 3 RX12 none) (hr : zRm R fr cells slots) (hQ : zRetV p l e R s m args below meth c cells slots Q D dA true ad0 al0 ad al cX12_test k) (hfr : 2 ≤ fr) (hzX12_sums : ∀ (x1 : Int32) (w : zW) (k : zW → Prop), zX12_sums x1 w k → zmetV l yX12_sums cX12_sums 3 none qX12_sums [.ref (ad 200), .int x1] D dA true ad al w k) (hqzX12_sums : qX12_sums + 1 ≤ fr)  {t0 : Int32} {w : zW} {H : Heap} {locs : List Loc} {ls : Array Slot} (hf : fX12_test_J47 zX12_sums k t0 w) (hR : zSt D dA true ad0 al0 ad al w s H locs) (hl : lv_has ls 3 []) : W p l e R s m args below meth c H locs cells slots Q (F0 m 47 ls [.int t0, .ref (ad 200)]) := by
  have hx := X.1
  have hb := X.2.1
  have hml := X.2.2.1
  have hown := X.2.2.2.1
  have hts := X.2.2.2.2.1
  unfold fX12_test_J47 at hf
  refine lv_iconst (v := (0 : Int32)) hx hb dX12_test_47 (by decide) ?_
  refine z_callVV (fr1 := 0) (b := 200) (As := [.int t0, .int (0 : Int32)]) (rest := []) X (hr.le (by omega)) hR zy_X12_emit zq_691 (zlit hR zf_200) (by rw [zs_200]; rfl) rfl (mX12_emit  hf) rfl hl (Nat.le_of_ble_eq_true rfl) dX12_test_48 rfl (fun w7 H locs hf hR => ?_)
  exact hQ _ _ _ _ _ hf hR dX12_test_51
def fX12_test_J30 (zX12_sums : Int32 → zW → (zW → Prop) → Prop) (k : zW → Prop) (x1 : Int32) (x2 : Int32) (w : zW) : Prop :=
  zX12_sums x1 w (fun w5 =>
  ∀ v6 : Int32, v6 = (if x2 = 0 then (8 : Int32) else (7 : Int32)) →
  fX12_test_J47 zX12_sums k v6 w5)
set_option maxHeartbeats 4000000 in
set_option maxRecDepth 100000 in
theorem mX12_test_J30 {k : zW → Prop} {zX12_sums : Int32 → zW → (zW → Prop) → Prop} {qX12_sums : Nat} {fr : Nat} (X : zCx p s m args meth c cX12_test 3 RX12 none) (hr : zRm R fr cells slots) (hQ : zRetV p l e R s m args below meth c cells slots Q D dA true ad0 al0 ad al cX12_test k) (hfr : 2 ≤ fr) (hzX12_sums : ∀ (x1 : Int32) (w : zW) (k : zW → Prop), zX12_sums x1 w k → zmetV l yX12_sums cX12_sums 3 none qX12_sums [.ref (ad 200), .int x1] D dA true ad al w k) (hqzX12_sums : qX12_sums + 1 ≤ fr)  {x1 : Int32} {x2 : Int32} {w : zW} {H : Heap} {locs : List Loc} {ls : Array Slot} (hf : fX12_test_J30 zX12_sums k x1 x2 w) (hR : zSt D dA true ad0 al0 ad al w s H locs) (hl : lv_has ls 3 [(0, .ref (ad 200)), (1, .int x1), (2, .int x2)]) : W p l e R s m args below meth c H locs cells slots Q (F0 m 30 ls []) := by
  have hx := X.1
  have hb := X.2.1
  have hml := X.2.2.1
  have hown := X.2.2.2.1
  have hts := X.2.2.2.2.1
  unfold fX12_test_J30 at hf
  refine lv_aload_n hx hb dX12_test_30 rfl (lv_at hl 0 rfl) ?_
  refine lv_iload_n hx hb dX12_test_31 rfl (lv_at hl 1 rfl) ?_
  refine z_callVV (fr1 := qX12_sums) (b := 200) (As := [.int x1]) (rest := []) X (hr.le (by omega)) hR zy_X12_sums zq_709 (zlit hR zf_200) (by rw [zs_200]; rfl) rfl (hzX12_sums _ _ _ hf) rfl hl (Nat.le_of_ble_eq_true rfl) dX12_test_32 rfl (fun w5 H locs hf hR => ?_)
  refine lv_aload_n hx hb dX12_test_35 rfl (lv_at hl 0 rfl) ?_
  refine lv_iload_n hx hb dX12_test_36 rfl (lv_at hl 2 rfl) ?_
  have kJ6 : ∀ v6 : Int32, v6 = (if x2 = 0 then (8 : Int32) else (7 : Int32)) → W p l e R s m args below meth c H locs cells slots Q (F0 m 47 ls (.int v6 :: .ref (ad 200) :: [])) := by
    intro v6 hv6
    replace hf := hf v6 hv6
    exact mX12_test_J47 X hr hQ hfr hzX12_sums hqzX12_sums  hf hR (lv_sub hl [] rfl)
  refine lv_if_eq (tgt := 45) hx hb dX12_test_37 (by decide) (fun c6 => ?_) (fun c6 => ?_)
  · refine lv_bipush (v := (8 : Int32)) hx hb dX12_test_45 (by decide) ?_
    exact kJ6 _ (if_pos c6).symm
  · refine lv_bipush (v := (7 : Int32)) hx hb dX12_test_40 (by decide) ?_
    refine lv_goto (tgt := 47) hx hb dX12_test_42 (by decide) ?_
    exact kJ6 _ (if_neg c6).symm
def fX12_test (zX12_sums : Int32 → zW → (zW → Prop) → Prop) (x1 : Int32) (w : zW) (k : zW → Prop) : Prop :=
  zX12_sums x1 w (fun w1 =>
  fX12_isSign (60 : Int32) w1 (fun r2 w2 =>
  fX12_hasSign (60 : Int32) w2 (fun r3 w3 =>
  ((¬ r3 = 0 →
    fX12_test_J30 zX12_sums k x1 r2 w3) ∧
   (r3 = 0 →
    fX12_hasSign (61 : Int32) w3 (fun r8 w8 =>
    ((r8 = 0 →
      k w8) ∧
     (¬ r8 = 0 →
      fX12_test_J30 zX12_sums k x1 r2 w8))))))))
set_option maxHeartbeats 4000000 in
set_option maxRecDepth 100000 in
theorem mX12_test {l : Launch} {D : va_G} {dA : Nat → ClassId} {ad : Nat → Nat} {al : Nat → Prop} {w : zW} {k : zW → Prop} {x1 : Int32} {zX12_sums : Int32 → zW → (zW → Prop) → Prop} {qX12_sums : Nat} {fr : Nat}  (hfr : 2 ≤ fr) (hzX12_sums : ∀ (x1 : Int32) (w : zW) (k : zW → Prop), zX12_sums x1 w k → zmetV l yX12_sums cX12_sums 3 none qX12_sums [.ref (ad 200), .int x1] D dA true ad al w k) (hqzX12_sums : qX12_sums + 1 ≤ fr) (hf : fX12_test zX12_sums x1 w k) : zmetV l yX12_test cX12_test 3 none fr [.ref (ad 200), .int x1] D dA true ad al w k := by
  refine zmetV_of (by decide) (Nat.le_of_ble_eq_true rfl) ?_
  intro p e R s m below meth c Q H ls args locs cells slots X hr hQ hR hl
  have hx := X.1
  have hb := X.2.1
  have hml := X.2.2.1
  have hown := X.2.2.2.1
  have hts := X.2.2.2.2.1
  unfold fX12_test at hf
  have hl : lv_has ls 3 [(0, .ref (ad 200)), (1, .int x1)] := hl
  refine lv_aload_n hx hb dX12_test_0 rfl (lv_at hl 0 rfl) ?_
  refine lv_iload_n hx hb dX12_test_1 rfl (lv_at hl 1 rfl) ?_
  refine z_callVV (fr1 := qX12_sums) (b := 200) (As := [.int x1]) (rest := []) X (hr.le (by omega)) hR zy_X12_sums zq_709 (zlit hR zf_200) (by rw [zs_200]; rfl) rfl (hzX12_sums _ _ _ hf) rfl hl (Nat.le_of_ble_eq_true rfl) dX12_test_2 rfl (fun w1 H locs hf hR => ?_)
  refine lv_aload_n hx hb dX12_test_5 rfl (lv_at hl 0 rfl) ?_
  refine lv_bipush (v := (60 : Int32)) hx hb dX12_test_6 (by decide) ?_
  refine z_callVI (fr1 := 0) (b := 200) (As := [.int (60 : Int32)]) (rest := []) X (hr.le (by omega)) hR zy_X12_isSign zq_648 (zlit hR zf_200) (by rw [zs_200]; rfl) rfl (mX12_isSign  hf) rfl hl (Nat.le_of_ble_eq_true rfl) dX12_test_8 rfl (fun r2 w2 H locs hf hR => ?_)
  refine lv_istore_n (lv' := [(2, .int r2), (0, .ref (ad 200)), (1, .int x1)]) hx hb dX12_test_11 rfl hl (by decide) rfl (fun ls hl => ?_)
  refine lv_aload_n hx hb dX12_test_12 rfl (lv_at hl 1 rfl) ?_
  refine lv_bipush (v := (60 : Int32)) hx hb dX12_test_13 (by decide) ?_
  refine z_callVI (fr1 := 1) (b := 200) (As := [.int (60 : Int32)]) (rest := []) X (hr.le (by omega)) hR zy_X12_hasSign zq_699 (zlit hR zf_200) (by rw [zs_200]; rfl) rfl (mX12_hasSign  hf) rfl hl (Nat.le_of_ble_eq_true rfl) dX12_test_15 rfl (fun r3 w3 H locs hf hR => ?_)
  refine lv_if_ne (tgt := 30) hx hb dX12_test_18 (by decide) (fun c4 => ?_) (fun c4 => ?_)
  · replace hf := hf.1 c4
    exact mX12_test_J30 X hr hQ hfr hzX12_sums hqzX12_sums  hf hR (lv_sub hl [1, 2, 0] rfl)
  · replace hf := hf.2 c4
    refine lv_aload_n hx hb dX12_test_21 rfl (lv_at hl 1 rfl) ?_
    refine lv_bipush (v := (61 : Int32)) hx hb dX12_test_22 (by decide) ?_
    refine z_callVI (fr1 := 1) (b := 200) (As := [.int (61 : Int32)]) (rest := []) X (hr.le (by omega)) hR zy_X12_hasSign zq_699 (zlit hR zf_200) (by rw [zs_200]; rfl) rfl (mX12_hasSign  hf) rfl hl (Nat.le_of_ble_eq_true rfl) dX12_test_24 rfl (fun r8 w8 H locs hf hR => ?_)
    refine lv_if_eq (tgt := 51) hx hb dX12_test_27 (by decide) (fun c9 => ?_) (fun c9 => ?_)
    · replace hf := hf.1 c9
      exact hQ _ _ _ _ _ hf hR dX12_test_51
    · replace hf := hf.2 c9
      exact mX12_test_J30 X hr hQ hfr hzX12_sums hqzX12_sums  hf hR (lv_sub hl [1, 2, 0] rfl)
/-! X12_whole -/
def fX12_whole_J57 (zX12_test : Int32 → zW → (zW → Prop) → Prop) (k : zW → Prop) (g5 : Int32 → zW → Prop) (x1 : Int32) (t0 : Int32) (w : zW) : Prop :=
  fX12_emit t0 (0 : Int32) w (fun w8 =>
  g5 x1 w8)
set_option maxHeartbeats 4000000 in
set_option maxRecDepth 100000 in
theorem mX12_whole_J57 {k : zW → Prop} {g5 : Int32 → zW → Prop} {zX12_test : Int32 → zW → (zW → Prop) → Prop} {qX12_test : Nat} {fr : Nat} (X : zCx p s m args meth c cX12_whole 3 RX12 none) (hr : zRm R fr cells slots) (hQ : zRetV p l e R s m args below meth c cells slots Q D dA true ad0 al0 ad al cX12_whole k) (hfr : 1 ≤ fr) (hzX12_test : ∀ (x1 : Int32) (w : zW) (k : zW → Prop), zX12_test x1 w k → zmetV l yX12_test cX12_test 3 none qX12_test [.ref (ad 200), .int x1] D dA true ad al w k) (hqzX12_test : qX12_test + 1 ≤ fr) (hg5 : ∀ (x1 : Int32) (w : zW) (H : Heap) (locs : List Loc) (ls : Array Slot), g5 x1 w → zSt D dA true ad0 al0 ad al w s H locs → lv_has ls 3 [(0, .ref (ad 200)), (1, .int x1)] → W p l e R s m args below meth c H locs cells slots Q (F0 m 5 ls [])) {x1 : Int32} {t0 : Int32} {w : zW} {H : Heap} {locs : List Loc} {ls : Array Slot} (hf : fX12_whole_J57 zX12_test k g5 x1 t0 w) (hR : zSt D dA true ad0 al0 ad al w s H locs) (hl : lv_has ls 3 [(0, .ref (ad 200)), (1, .int x1)]) : W p l e R s m args below meth c H locs cells slots Q (F0 m 57 ls [.int t0, .ref (ad 200)]) := by
  have hx := X.1
  have hb := X.2.1
  have hml := X.2.2.1
  have hown := X.2.2.2.1
  have hts := X.2.2.2.2.1
  unfold fX12_whole_J57 at hf
  refine lv_iconst (v := (0 : Int32)) hx hb dX12_whole_57 (by decide) ?_
  refine z_callVV (fr1 := 0) (b := 200) (As := [.int t0, .int (0 : Int32)]) (rest := []) X (hr.le (by omega)) hR zy_X12_emit zq_691 (zlit hR zf_200) (by rw [zs_200]; rfl) rfl (mX12_emit  hf) rfl hl (Nat.le_of_ble_eq_true rfl) dX12_whole_58 rfl (fun w8 H locs hf hR => ?_)
  refine lv_goto (tgt := 5) hx hb dX12_whole_61 (by decide) ?_
  exact hg5 x1 w8 _ _ _ hf hR (lv_sub hl [0, 1] rfl)
def fX12_whole_J23 (zX12_test : Int32 → zW → (zW → Prop) → Prop) (k : zW → Prop) (g5 : Int32 → zW → Prop) (x1 : Int32) (w : zW) : Prop :=
  fX12_isWord (15 : Int32) w (fun r4 w4 =>
  ∀ w5 : zW, w5 = sI w4 200 7 ((gI w4 200 7) + (1 : Int32)) →
  zX12_test x1 w5 (fun w6 =>
  ∀ v7 : Int32, v7 = (if r4 = 0 then (10 : Int32) else (9 : Int32)) →
  fX12_whole_J57 zX12_test k g5 x1 v7 w6))
set_option maxHeartbeats 4000000 in
set_option maxRecDepth 100000 in
theorem mX12_whole_J23 {k : zW → Prop} {g5 : Int32 → zW → Prop} {zX12_test : Int32 → zW → (zW → Prop) → Prop} {qX12_test : Nat} {fr : Nat} (X : zCx p s m args meth c cX12_whole 3 RX12 none) (hr : zRm R fr cells slots) (hQ : zRetV p l e R s m args below meth c cells slots Q D dA true ad0 al0 ad al cX12_whole k) (hfr : 1 ≤ fr) (hzX12_test : ∀ (x1 : Int32) (w : zW) (k : zW → Prop), zX12_test x1 w k → zmetV l yX12_test cX12_test 3 none qX12_test [.ref (ad 200), .int x1] D dA true ad al w k) (hqzX12_test : qX12_test + 1 ≤ fr) (hg5 : ∀ (x1 : Int32) (w : zW) (H : Heap) (locs : List Loc) (ls : Array Slot), g5 x1 w → zSt D dA true ad0 al0 ad al w s H locs → lv_has ls 3 [(0, .ref (ad 200)), (1, .int x1)] → W p l e R s m args below meth c H locs cells slots Q (F0 m 5 ls [])) {x1 : Int32} {w : zW} {H : Heap} {locs : List Loc} {ls : Array Slot} (hf : fX12_whole_J23 zX12_test k g5 x1 w) (hR : zSt D dA true ad0 al0 ad al w s H locs) (hl : lv_has ls 3 [(0, .ref (ad 200)), (1, .int x1)]) : W p l e R s m args below meth c H locs cells slots Q (F0 m 23 ls []) := by
  have hx := X.1
  have hb := X.2.1
  have hml := X.2.2.1
  have hown := X.2.2.2.1
  have hts := X.2.2.2.2.1
  unfold fX12_whole_J23 at hf
  refine lv_aload_n hx hb dX12_whole_23 rfl (lv_at hl 0 rfl) ?_
  refine lv_bipush (v := (15 : Int32)) hx hb dX12_whole_24 (by decide) ?_
  refine z_callVI (fr1 := 0) (b := 200) (As := [.int (15 : Int32)]) (rest := []) X (hr.le (by omega)) hR zy_X12_isWord zq_611 (zlit hR zf_200) (by rw [zs_200]; rfl) rfl (mX12_isWord  hf) rfl hl (Nat.le_of_ble_eq_true rfl) dX12_whole_26 rfl (fun r4 w4 H locs hf hR => ?_)
  refine lv_istore_n (lv' := [(2, .int r4), (0, .ref (ad 200)), (1, .int x1)]) hx hb dX12_whole_29 rfl hl (by decide) rfl (fun ls hl => ?_)
  refine lv_aload_n hx hb dX12_whole_30 rfl (lv_at hl 1 rfl) ?_
  refine lv_dup hx hb dX12_whole_31 rfl ?_
  refine z_getI X hR (zlit hR zf_200) zs_200 (by decide) zfd_X12_182 rfl dX12_whole_32 ?_
  refine lv_iconst (v := (1 : Int32)) hx hb dX12_whole_35 (by decide) ?_
  refine lv_iadd hx hb dX12_whole_36 ?_
  refine z_putI X hR (zlit hR zf_200) zs_200 (by decide) zfp_X12_182 rfl dX12_whole_37 (fun H locs hR => ?_)
  obtain ⟨w5, hw5⟩ : ∃ z : zW, z = sI w4 200 7 ((gI w4 200 7) + (1 : Int32)) := ⟨_, rfl⟩
  rw [← hw5] at hR
  replace hf := hf w5 hw5
  refine lv_aload_n hx hb dX12_whole_40 rfl (lv_at hl 1 rfl) ?_
  refine lv_iload_n hx hb dX12_whole_41 rfl (lv_at hl 2 rfl) ?_
  refine z_callVV (fr1 := qX12_test) (b := 200) (As := [.int x1]) (rest := []) X (hr.le (by omega)) hR zy_X12_test zq_688 (zlit hR zf_200) (by rw [zs_200]; rfl) rfl (hzX12_test _ _ _ hf) rfl hl (Nat.le_of_ble_eq_true rfl) dX12_whole_42 rfl (fun w6 H locs hf hR => ?_)
  refine lv_aload_n hx hb dX12_whole_45 rfl (lv_at hl 1 rfl) ?_
  refine lv_iload_n hx hb dX12_whole_46 rfl (lv_at hl 0 rfl) ?_
  have kJ7 : ∀ v7 : Int32, v7 = (if r4 = 0 then (10 : Int32) else (9 : Int32)) → W p l e R s m args below meth c H locs cells slots Q (F0 m 57 ls (.int v7 :: .ref (ad 200) :: [])) := by
    intro v7 hv7
    replace hf := hf v7 hv7
    exact mX12_whole_J57 X hr hQ hfr hzX12_test hqzX12_test hg5 hf hR (lv_sub hl [1, 2] rfl)
  refine lv_if_eq (tgt := 55) hx hb dX12_whole_47 (by decide) (fun c7 => ?_) (fun c7 => ?_)
  · refine lv_bipush (v := (10 : Int32)) hx hb dX12_whole_55 (by decide) ?_
    exact kJ7 _ (if_pos c7).symm
  · refine lv_bipush (v := (9 : Int32)) hx hb dX12_whole_50 (by decide) ?_
    refine lv_goto (tgt := 57) hx hb dX12_whole_52 (by decide) ?_
    exact kJ7 _ (if_neg c7).symm
def fX12_whole_L5 (zX12_test : Int32 → zW → (zW → Prop) → Prop) (k : zW → Prop) : Nat → Int32 → zW → Prop
  | 0 => fun _ _ => False
  | n + 1 => fun x1 w =>
    fX12_isWord (15 : Int32) w (fun r2 w2 =>
    ((¬ r2 = 0 →
      fX12_whole_J23 zX12_test k (fX12_whole_L5 zX12_test k n) x1 w2) ∧
     (r2 = 0 →
      fX12_isWord (16 : Int32) w2 (fun r9 w9 =>
      ((r9 = 0 →
        k w9) ∧
       (¬ r9 = 0 →
        fX12_whole_J23 zX12_test k (fX12_whole_L5 zX12_test k n) x1 w9))))))
set_option maxHeartbeats 4000000 in
set_option maxRecDepth 100000 in
theorem mX12_whole_L5 {k : zW → Prop} {zX12_test : Int32 → zW → (zW → Prop) → Prop} {qX12_test : Nat} {fr : Nat} (X : zCx p s m args meth c cX12_whole 3 RX12 none) (hr : zRm R fr cells slots) (hQ : zRetV p l e R s m args below meth c cells slots Q D dA true ad0 al0 ad al cX12_whole k) (hfr : 1 ≤ fr) (hzX12_test : ∀ (x1 : Int32) (w : zW) (k : zW → Prop), zX12_test x1 w k → zmetV l yX12_test cX12_test 3 none qX12_test [.ref (ad 200), .int x1] D dA true ad al w k) (hqzX12_test : qX12_test + 1 ≤ fr)  : ∀ (n : Nat) (x1 : Int32) (w : zW) (H : Heap) (locs : List Loc) (ls : Array Slot), fX12_whole_L5 zX12_test k n x1 w → zSt D dA true ad0 al0 ad al w s H locs → lv_has ls 3 [(0, .ref (ad 200)), (1, .int x1)] → W p l e R s m args below meth c H locs cells slots Q (F0 m 5 ls []) := by
  intro n
  induction n with
  | zero => exact fun _ _ _ _ _ hf => hf.elim
  | succ n ih =>
    intro x1 w H locs ls hf hR hl
    have hx := X.1
    have hb := X.2.1
    have hml := X.2.2.1
    have hown := X.2.2.2.1
    have hts := X.2.2.2.2.1
    rw [fX12_whole_L5] at hf
    refine lv_aload_n hx hb dX12_whole_5 rfl (lv_at hl 0 rfl) ?_
    refine lv_bipush (v := (15 : Int32)) hx hb dX12_whole_6 (by decide) ?_
    refine z_callVI (fr1 := 0) (b := 200) (As := [.int (15 : Int32)]) (rest := []) X (hr.le (by omega)) hR zy_X12_isWord zq_611 (zlit hR zf_200) (by rw [zs_200]; rfl) rfl (mX12_isWord  hf) rfl hl (Nat.le_of_ble_eq_true rfl) dX12_whole_8 rfl (fun r2 w2 H locs hf hR => ?_)
    refine lv_if_ne (tgt := 23) hx hb dX12_whole_11 (by decide) (fun c3 => ?_) (fun c3 => ?_)
    · replace hf := hf.1 c3
      exact mX12_whole_J23 X hr hQ hfr hzX12_test hqzX12_test ih hf hR (lv_sub hl [0, 1] rfl)
    · replace hf := hf.2 c3
      refine lv_aload_n hx hb dX12_whole_14 rfl (lv_at hl 0 rfl) ?_
      refine lv_bipush (v := (16 : Int32)) hx hb dX12_whole_15 (by decide) ?_
      refine z_callVI (fr1 := 0) (b := 200) (As := [.int (16 : Int32)]) (rest := []) X (hr.le (by omega)) hR zy_X12_isWord zq_611 (zlit hR zf_200) (by rw [zs_200]; rfl) rfl (mX12_isWord  hf) rfl hl (Nat.le_of_ble_eq_true rfl) dX12_whole_17 rfl (fun r9 w9 H locs hf hR => ?_)
      refine lv_if_eq (tgt := 64) hx hb dX12_whole_20 (by decide) (fun c10 => ?_) (fun c10 => ?_)
      · replace hf := hf.1 c10
        exact hQ _ _ _ _ _ hf hR dX12_whole_64
      · replace hf := hf.2 c10
        exact mX12_whole_J23 X hr hQ hfr hzX12_test hqzX12_test ih hf hR (lv_sub hl [0, 1] rfl)
def fX12_whole (zX12_test : Int32 → zW → (zW → Prop) → Prop) (x1 : Int32) (w : zW) (k : zW → Prop) : Prop :=
  zX12_test x1 w (fun w1 =>
  ∃ n9, fX12_whole_L5 zX12_test k n9 x1 w1)
set_option maxHeartbeats 4000000 in
set_option maxRecDepth 100000 in
theorem mX12_whole {l : Launch} {D : va_G} {dA : Nat → ClassId} {ad : Nat → Nat} {al : Nat → Prop} {w : zW} {k : zW → Prop} {x1 : Int32} {zX12_test : Int32 → zW → (zW → Prop) → Prop} {qX12_test : Nat} {fr : Nat}  (hfr : 1 ≤ fr) (hzX12_test : ∀ (x1 : Int32) (w : zW) (k : zW → Prop), zX12_test x1 w k → zmetV l yX12_test cX12_test 3 none qX12_test [.ref (ad 200), .int x1] D dA true ad al w k) (hqzX12_test : qX12_test + 1 ≤ fr) (hf : fX12_whole zX12_test x1 w k) : zmetV l yX12_whole cX12_whole 3 none fr [.ref (ad 200), .int x1] D dA true ad al w k := by
  refine zmetV_of (by decide) (Nat.le_of_ble_eq_true rfl) ?_
  intro p e R s m below meth c Q H ls args locs cells slots X hr hQ hR hl
  have hx := X.1
  have hb := X.2.1
  have hml := X.2.2.1
  have hown := X.2.2.2.1
  have hts := X.2.2.2.2.1
  unfold fX12_whole at hf
  have hl : lv_has ls 3 [(0, .ref (ad 200)), (1, .int x1)] := hl
  refine lv_aload_n hx hb dX12_whole_0 rfl (lv_at hl 0 rfl) ?_
  refine lv_iload_n hx hb dX12_whole_1 rfl (lv_at hl 1 rfl) ?_
  refine z_callVV (fr1 := qX12_test) (b := 200) (As := [.int x1]) (rest := []) X (hr.le (by omega)) hR zy_X12_test zq_688 (zlit hR zf_200) (by rw [zs_200]; rfl) rfl (hzX12_test _ _ _ hf) rfl hl (Nat.le_of_ble_eq_true rfl) dX12_whole_2 rfl (fun w1 H locs hf hR => ?_)
  obtain ⟨n9, hf⟩ := hf
  exact mX12_whole_L5 X hr hQ hfr hzX12_test hqzX12_test  n9 x1 w1 _ _ _ hf hR (lv_sub hl [0, 1] rfl)
def fX12_readItemsN : Nat → Int32 → zW → (zW → Prop) → Prop
  | 0 => fun _ _ _ => False
  | d + 1 => fun x w k => fX12_readItems (fX12_readItemsN d) x w k
theorem mX12_readItemsN {l : Launch} {D : va_G} {dA : Nat → ClassId} {ad : Nat → Nat} {al : Nat → Prop} : ∀ (d : Nat) (x1 : Int32) (w : zW) (k : zW → Prop), fX12_readItemsN d x1 w k → zmetV l yX12_readItems cX12_readItems 4 none (10 + d) [.ref (ad 200), .int x1] D dA true ad al w k := by
  intro d
  induction d with
  | zero => exact fun _ _ _ h => h.elim
  | succ d ih =>
    intro x1 w k hf
    exact mX12_readItems (by omega) ih (by omega) hf
def fX12_readItemsT (x1 : Int32) (w : zW) (k : zW → Prop) : Prop := fX12_readItemsN 5 x1 w k
theorem mX12_readItemsT {l : Launch} {D : va_G} {dA : Nat → ClassId} {ad : Nat → Nat} {al : Nat → Prop} {x1 : Int32} {w : zW} {k : zW → Prop} (hf : fX12_readItemsT x1 w k) : zmetV l yX12_readItems cX12_readItems 4 none 15 [.ref (ad 200), .int x1] D dA true ad al w k := mX12_readItemsN 5 x1 w k hf
def fX12_takePartN : Nat → Int32 → zW → (zW → Prop) → Prop
  | 0 => fun _ _ _ => False
  | d + 1 => fun x w k => fX12_takePart (fX12_takePartN d) (fX12_whole (fX12_test (fX12_sums (fX12_products (fX12_takePartN d))))) x w k
theorem mX12_takePartN {l : Launch} {D : va_G} {dA : Nat → ClassId} {ad : Nat → Nat} {al : Nat → Prop} : ∀ (d : Nat) (x1 : Int32) (w : zW) (k : zW → Prop), fX12_takePartN d x1 w k → zmetV l yX12_takePart cX12_takePart 4 none (10 + 15 * d) [.ref (ad 200), .int x1] D dA true ad al w k := by
  intro d
  induction d with
  | zero => exact fun _ _ _ h => h.elim
  | succ d ih =>
    intro x1 w k hf
    have h1 := fun x1 w k => mX12_products (l := l) (D := D) (dA := dA) (ad := ad) (al := al) (fr := 11 + 15 * d) (x1 := x1) (w := w) (k := k) (by omega) ih (by omega)
    have h2 := fun x1 w k => mX12_sums (l := l) (D := D) (dA := dA) (ad := ad) (al := al) (fr := 12 + 15 * d) (x1 := x1) (w := w) (k := k) (by omega) h1 (by omega)
    have h3 := fun x1 w k => mX12_test (l := l) (D := D) (dA := dA) (ad := ad) (al := al) (fr := 13 + 15 * d) (x1 := x1) (w := w) (k := k) (by omega) h2 (by omega)
    have h4 := fun x1 w k => mX12_whole (l := l) (D := D) (dA := dA) (ad := ad) (al := al) (fr := 14 + 15 * d) (x1 := x1) (w := w) (k := k) (by omega) h3 (by omega)
    exact mX12_takePart (by omega) ih (by omega) h4 (by omega) hf
def fX12_wholeT (x1 : Int32) (w : zW) (k : zW → Prop) : Prop := fX12_whole (fX12_test (fX12_sums (fX12_products (fX12_takePartN 7)))) x1 w k
theorem mX12_wholeT {l : Launch} {D : va_G} {dA : Nat → ClassId} {ad : Nat → Nat} {al : Nat → Prop} {x1 : Int32} {w : zW} {k : zW → Prop} (hf : fX12_wholeT x1 w k) : zmetV l yX12_whole cX12_whole 3 none 130 [.ref (ad 200), .int x1] D dA true ad al w k := by
  have h1 := fun x1 w k => mX12_products (l := l) (D := D) (dA := dA) (ad := ad) (al := al) (fr := 127) (x1 := x1) (w := w) (k := k) (by omega) (mX12_takePartN 7) (by omega)
  have h2 := fun x1 w k => mX12_sums (l := l) (D := D) (dA := dA) (ad := ad) (al := al) (fr := 128) (x1 := x1) (w := w) (k := k) (by omega) h1 (by omega)
  have h3 := fun x1 w k => mX12_test (l := l) (D := D) (dA := dA) (ad := ad) (al := al) (fr := 129) (x1 := x1) (w := w) (k := k) (by omega) h2 (by omega)
  exact mX12_whole (by omega) h3 (by omega) hf
end ZM
