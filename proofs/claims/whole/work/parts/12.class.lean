theorem dX7_readPart_0 : decode cX7_readPart 0 = .ok (.aload_n 0, 1) := by decide +kernel
theorem dX7_readPart_1 : decode cX7_readPart 1 = .ok (.getfield 18, 3) := by decide +kernel
theorem dX7_readPart_4 : decode cX7_readPart 4 = .ok (.getfield 56, 3) := by decide +kernel
theorem dX7_readPart_7 : decode cX7_readPart 7 = .ok (.iconst 2, 1) := by decide +kernel
theorem dX7_readPart_8 : decode cX7_readPart 8 = .ok (.if_icmp .ne 7, 3) := by decide +kernel
theorem dX7_readPart_11 : decode cX7_readPart 11 = .ok (.iconst 1, 1) := by decide +kernel
theorem dX7_readPart_12 : decode cX7_readPart 12 = .ok (.goto 4, 3) := by decide +kernel
theorem dX7_readPart_15 : decode cX7_readPart 15 = .ok (.iconst 0, 1) := by decide +kernel
theorem dX7_readPart_16 : decode cX7_readPart 16 = .ok (.istore_n 2, 1) := by decide +kernel
theorem dX7_readPart_17 : decode cX7_readPart 17 = .ok (.aload_n 0, 1) := by decide +kernel
theorem dX7_readPart_18 : decode cX7_readPart 18 = .ok (.getfield 18, 3) := by decide +kernel
theorem dX7_readPart_21 : decode cX7_readPart 21 = .ok (.getfield 37, 3) := by decide +kernel
theorem dX7_readPart_24 : decode cX7_readPart 24 = .ok (.bipush 17, 2) := by decide +kernel
theorem dX7_readPart_26 : decode cX7_readPart 26 = .ok (.if_icmp .lt 19, 3) := by decide +kernel
theorem dX7_readPart_29 : decode cX7_readPart 29 = .ok (.aload_n 0, 1) := by decide +kernel
theorem dX7_readPart_30 : decode cX7_readPart 30 = .ok (.getfield 18, 3) := by decide +kernel
theorem dX7_readPart_33 : decode cX7_readPart 33 = .ok (.getfield 37, 3) := by decide +kernel
theorem dX7_readPart_36 : decode cX7_readPart 36 = .ok (.bipush 20, 2) := by decide +kernel
theorem dX7_readPart_38 : decode cX7_readPart 38 = .ok (.if_icmp .gt 7, 3) := by decide +kernel
theorem dX7_readPart_41 : decode cX7_readPart 41 = .ok (.iconst 1, 1) := by decide +kernel
theorem dX7_readPart_42 : decode cX7_readPart 42 = .ok (.goto 4, 3) := by decide +kernel
theorem dX7_readPart_45 : decode cX7_readPart 45 = .ok (.iconst 0, 1) := by decide +kernel
theorem dX7_readPart_46 : decode cX7_readPart 46 = .ok (.istore_n 3, 1) := by decide +kernel
theorem dX7_readPart_47 : decode cX7_readPart 47 = .ok (.aload_n 0, 1) := by decide +kernel
theorem dX7_readPart_48 : decode cX7_readPart 48 = .ok (.getfield 18, 3) := by decide +kernel
theorem dX7_readPart_51 : decode cX7_readPart 51 = .ok (.getfield 37, 3) := by decide +kernel
theorem dX7_readPart_54 : decode cX7_readPart 54 = .ok (.bipush 14, 2) := by decide +kernel
theorem dX7_readPart_56 : decode cX7_readPart 56 = .ok (.if_icmp .ne 7, 3) := by decide +kernel
theorem dX7_readPart_59 : decode cX7_readPart 59 = .ok (.iconst 1, 1) := by decide +kernel
theorem dX7_readPart_60 : decode cX7_readPart 60 = .ok (.goto 4, 3) := by decide +kernel
theorem dX7_readPart_63 : decode cX7_readPart 63 = .ok (.iconst 0, 1) := by decide +kernel
theorem dX7_readPart_64 : decode cX7_readPart 64 = .ok (.istore 4, 2) := by decide +kernel
theorem dX7_readPart_66 : decode cX7_readPart 66 = .ok (.iload_n 2, 1) := by decide +kernel
theorem dX7_readPart_67 : decode cX7_readPart 67 = .ok (.ifCond .ne 33, 3) := by decide +kernel
theorem dX7_readPart_70 : decode cX7_readPart 70 = .ok (.iload_n 3, 1) := by decide +kernel
theorem dX7_readPart_71 : decode cX7_readPart 71 = .ok (.ifCond .ne 29, 3) := by decide +kernel
theorem dX7_readPart_74 : decode cX7_readPart 74 = .ok (.iload 4, 2) := by decide +kernel
theorem dX7_readPart_76 : decode cX7_readPart 76 = .ok (.ifCond .ne 24, 3) := by decide +kernel
theorem dX7_readPart_79 : decode cX7_readPart 79 = .ok (.aload_n 0, 1) := by decide +kernel
theorem dX7_readPart_80 : decode cX7_readPart 80 = .ok (.getfield 18, 3) := by decide +kernel
theorem dX7_readPart_83 : decode cX7_readPart 83 = .ok (.bipush 40, 2) := by decide +kernel
theorem dX7_readPart_85 : decode cX7_readPart 85 = .ok (.invokevirtual 46, 3) := by decide +kernel
theorem dX7_readPart_88 : decode cX7_readPart 88 = .ok (.ifCond .ne 12, 3) := by decide +kernel
theorem dX7_readPart_91 : decode cX7_readPart 91 = .ok (.aload_n 0, 1) := by decide +kernel
theorem dX7_readPart_92 : decode cX7_readPart 92 = .ok (.getfield 18, 3) := by decide +kernel
theorem dX7_readPart_95 : decode cX7_readPart 95 = .ok (.iconst 1, 1) := by decide +kernel
theorem dX7_readPart_96 : decode cX7_readPart 96 = .ok (.invokevirtual 59, 3) := by decide +kernel
theorem dX7_readPart_99 : decode cX7_readPart 99 = .ok (.ireturn, 1) := by decide +kernel
theorem dX7_readPart_100 : decode cX7_readPart 100 = .ok (.iload_n 1, 1) := by decide +kernel
theorem dX7_readPart_101 : decode cX7_readPart 101 = .ok (.iconst 5, 1) := by decide +kernel
theorem dX7_readPart_102 : decode cX7_readPart 102 = .ok (.if_icmp .lt 12, 3) := by decide +kernel
theorem dX7_readPart_105 : decode cX7_readPart 105 = .ok (.aload_n 0, 1) := by decide +kernel
theorem dX7_readPart_106 : decode cX7_readPart 106 = .ok (.getfield 18, 3) := by decide +kernel
theorem dX7_readPart_109 : decode cX7_readPart 109 = .ok (.iconst 5, 1) := by decide +kernel
theorem dX7_readPart_110 : decode cX7_readPart 110 = .ok (.invokevirtual 59, 3) := by decide +kernel
theorem dX7_readPart_113 : decode cX7_readPart 113 = .ok (.ireturn, 1) := by decide +kernel
theorem dX7_readPart_114 : decode cX7_readPart 114 = .ok (.iload_n 2, 1) := by decide +kernel
theorem dX7_readPart_115 : decode cX7_readPart 115 = .ok (.ifCond .ne 7, 3) := by decide +kernel
theorem dX7_readPart_118 : decode cX7_readPart 118 = .ok (.iload_n 3, 1) := by decide +kernel
theorem dX7_readPart_119 : decode cX7_readPart 119 = .ok (.ifCond .eq 40, 3) := by decide +kernel
theorem dX7_readPart_122 : decode cX7_readPart 122 = .ok (.aload_n 0, 1) := by decide +kernel
theorem dX7_readPart_123 : decode cX7_readPart 123 = .ok (.iload_n 2, 1) := by decide +kernel
theorem dX7_readPart_124 : decode cX7_readPart 124 = .ok (.ifCond .eq 13, 3) := by decide +kernel
theorem dX7_readPart_127 : decode cX7_readPart 127 = .ok (.aload_n 0, 1) := by decide +kernel
theorem dX7_readPart_128 : decode cX7_readPart 128 = .ok (.getfield 18, 3) := by decide +kernel
theorem dX7_readPart_131 : decode cX7_readPart 131 = .ok (.getfield 62, 3) := by decide +kernel
theorem dX7_readPart_134 : decode cX7_readPart 134 = .ok (.goto 13, 3) := by decide +kernel
theorem dX7_readPart_137 : decode cX7_readPart 137 = .ok (.bipush 16, 2) := by decide +kernel
theorem dX7_readPart_139 : decode cX7_readPart 139 = .ok (.aload_n 0, 1) := by decide +kernel
theorem dX7_readPart_140 : decode cX7_readPart 140 = .ok (.getfield 18, 3) := by decide +kernel
theorem dX7_readPart_143 : decode cX7_readPart 143 = .ok (.getfield 37, 3) := by decide +kernel
theorem dX7_readPart_146 : decode cX7_readPart 146 = .ok (.isub, 1) := by decide +kernel
theorem dX7_readPart_147 : decode cX7_readPart 147 = .ok (.invokevirtual 26, 3) := by decide +kernel
theorem dX7_readPart_150 : decode cX7_readPart 150 = .ok (.aload_n 0, 1) := by decide +kernel
theorem dX7_readPart_151 : decode cX7_readPart 151 = .ok (.getfield 18, 3) := by decide +kernel
theorem dX7_readPart_154 : decode cX7_readPart 154 = .ok (.invokevirtual 40, 3) := by decide +kernel
theorem dX7_readPart_157 : decode cX7_readPart 157 = .ok (.iconst 1, 1) := by decide +kernel
theorem dX7_readPart_158 : decode cX7_readPart 158 = .ok (.ireturn, 1) := by decide +kernel
theorem dX7_readPart_159 : decode cX7_readPart 159 = .ok (.aload_n 0, 1) := by decide +kernel
theorem dX7_readPart_160 : decode cX7_readPart 160 = .ok (.getfield 18, 3) := by decide +kernel
theorem dX7_readPart_163 : decode cX7_readPart 163 = .ok (.invokevirtual 40, 3) := by decide +kernel
theorem dX7_readPart_166 : decode cX7_readPart 166 = .ok (.iload 4, 2) := by decide +kernel
theorem dX7_readPart_168 : decode cX7_readPart 168 = .ok (.ifCond .eq 13, 3) := by decide +kernel
theorem dX7_readPart_171 : decode cX7_readPart 171 = .ok (.aload_n 0, 1) := by decide +kernel
theorem dX7_readPart_172 : decode cX7_readPart 172 = .ok (.iload_n 1, 1) := by decide +kernel
theorem dX7_readPart_173 : decode cX7_readPart 173 = .ok (.iconst 1, 1) := by decide +kernel
theorem dX7_readPart_174 : decode cX7_readPart 174 = .ok (.iadd, 1) := by decide +kernel
theorem dX7_readPart_175 : decode cX7_readPart 175 = .ok (.invokevirtual 65, 3) := by decide +kernel
theorem dX7_readPart_178 : decode cX7_readPart 178 = .ok (.goto 10, 3) := by decide +kernel
theorem dX7_readPart_181 : decode cX7_readPart 181 = .ok (.aload_n 0, 1) := by decide +kernel
theorem dX7_readPart_182 : decode cX7_readPart 182 = .ok (.iload_n 1, 1) := by decide +kernel
theorem dX7_readPart_183 : decode cX7_readPart 183 = .ok (.iconst 1, 1) := by decide +kernel
theorem dX7_readPart_184 : decode cX7_readPart 184 = .ok (.iadd, 1) := by decide +kernel
theorem dX7_readPart_185 : decode cX7_readPart 185 = .ok (.invokevirtual 68, 3) := by decide +kernel
theorem dX7_readPart_188 : decode cX7_readPart 188 = .ok (.ireturn, 1) := by decide +kernel
theorem dX7_readNegated_0 : decode cX7_readNegated 0 = .ok (.aload_n 0, 1) := by decide +kernel
theorem dX7_readNegated_1 : decode cX7_readNegated 1 = .ok (.iload_n 1, 1) := by decide +kernel
theorem dX7_readNegated_2 : decode cX7_readNegated 2 = .ok (.invokevirtual 53, 3) := by decide +kernel
theorem dX7_readNegated_5 : decode cX7_readNegated 5 = .ok (.ifCond .ne 5, 3) := by decide +kernel
theorem dX7_readNegated_8 : decode cX7_readNegated 8 = .ok (.iconst 0, 1) := by decide +kernel
theorem dX7_readNegated_9 : decode cX7_readNegated 9 = .ok (.ireturn, 1) := by decide +kernel
theorem dX7_readNegated_10 : decode cX7_readNegated 10 = .ok (.aload_n 0, 1) := by decide +kernel
theorem dX7_readNegated_11 : decode cX7_readNegated 11 = .ok (.bipush (-5), 2) := by decide +kernel
theorem dX7_readNegated_13 : decode cX7_readNegated 13 = .ok (.invokevirtual 26, 3) := by decide +kernel
theorem dX7_readNegated_16 : decode cX7_readNegated 16 = .ok (.iconst 1, 1) := by decide +kernel
theorem dX7_readNegated_17 : decode cX7_readNegated 17 = .ok (.ireturn, 1) := by decide +kernel
theorem dX7_readProduct_0 : decode cX7_readProduct 0 = .ok (.aload_n 0, 1) := by decide +kernel
theorem dX7_readProduct_1 : decode cX7_readProduct 1 = .ok (.iload_n 1, 1) := by decide +kernel
theorem dX7_readProduct_2 : decode cX7_readProduct 2 = .ok (.invokevirtual 53, 3) := by decide +kernel
theorem dX7_readProduct_5 : decode cX7_readProduct 5 = .ok (.ifCond .ne 5, 3) := by decide +kernel
theorem dX7_readProduct_8 : decode cX7_readProduct 8 = .ok (.iconst 0, 1) := by decide +kernel
theorem dX7_readProduct_9 : decode cX7_readProduct 9 = .ok (.ireturn, 1) := by decide +kernel
theorem dX7_readProduct_10 : decode cX7_readProduct 10 = .ok (.iconst 0, 1) := by decide +kernel
theorem dX7_readProduct_11 : decode cX7_readProduct 11 = .ok (.istore_n 2, 1) := by decide +kernel
theorem dX7_readProduct_12 : decode cX7_readProduct 12 = .ok (.iload_n 2, 1) := by decide +kernel
theorem dX7_readProduct_13 : decode cX7_readProduct 13 = .ok (.sipush 1000, 3) := by decide +kernel
theorem dX7_readProduct_16 : decode cX7_readProduct 16 = .ok (.if_icmp .ge 44, 3) := by decide +kernel
theorem dX7_readProduct_19 : decode cX7_readProduct 19 = .ok (.aload_n 0, 1) := by decide +kernel
theorem dX7_readProduct_20 : decode cX7_readProduct 20 = .ok (.getfield 18, 3) := by decide +kernel
theorem dX7_readProduct_23 : decode cX7_readProduct 23 = .ok (.bipush 42, 2) := by decide +kernel
theorem dX7_readProduct_25 : decode cX7_readProduct 25 = .ok (.invokevirtual 46, 3) := by decide +kernel
theorem dX7_readProduct_28 : decode cX7_readProduct 28 = .ok (.ifCond .eq 32, 3) := by decide +kernel
theorem dX7_readProduct_31 : decode cX7_readProduct 31 = .ok (.aload_n 0, 1) := by decide +kernel
theorem dX7_readProduct_32 : decode cX7_readProduct 32 = .ok (.getfield 18, 3) := by decide +kernel
theorem dX7_readProduct_35 : decode cX7_readProduct 35 = .ok (.invokevirtual 40, 3) := by decide +kernel
theorem dX7_readProduct_38 : decode cX7_readProduct 38 = .ok (.aload_n 0, 1) := by decide +kernel
theorem dX7_readProduct_39 : decode cX7_readProduct 39 = .ok (.iload_n 1, 1) := by decide +kernel
theorem dX7_readProduct_40 : decode cX7_readProduct 40 = .ok (.invokevirtual 53, 3) := by decide +kernel
theorem dX7_readProduct_43 : decode cX7_readProduct 43 = .ok (.ifCond .ne 5, 3) := by decide +kernel
theorem dX7_readProduct_46 : decode cX7_readProduct 46 = .ok (.iconst 0, 1) := by decide +kernel
theorem dX7_readProduct_47 : decode cX7_readProduct 47 = .ok (.ireturn, 1) := by decide +kernel
theorem dX7_readProduct_48 : decode cX7_readProduct 48 = .ok (.aload_n 0, 1) := by decide +kernel
theorem dX7_readProduct_49 : decode cX7_readProduct 49 = .ok (.bipush (-12), 2) := by decide +kernel
theorem dX7_readProduct_51 : decode cX7_readProduct 51 = .ok (.invokevirtual 26, 3) := by decide +kernel
theorem dX7_readProduct_54 : decode cX7_readProduct 54 = .ok (.iinc 2 1, 3) := by decide +kernel
theorem dX7_readProduct_57 : decode cX7_readProduct 57 = .ok (.goto (-45), 3) := by decide +kernel
theorem dX7_readProduct_60 : decode cX7_readProduct 60 = .ok (.iconst 1, 1) := by decide +kernel
theorem dX7_readProduct_61 : decode cX7_readProduct 61 = .ok (.ireturn, 1) := by decide +kernel
theorem dX7_readSum_0 : decode cX7_readSum 0 = .ok (.aload_n 0, 1) := by decide +kernel
theorem dX7_readSum_1 : decode cX7_readSum 1 = .ok (.iload_n 1, 1) := by decide +kernel
theorem dX7_readSum_2 : decode cX7_readSum 2 = .ok (.invokevirtual 50, 3) := by decide +kernel
theorem dX7_readSum_5 : decode cX7_readSum 5 = .ok (.ifCond .ne 5, 3) := by decide +kernel
theorem dX7_readSum_8 : decode cX7_readSum 8 = .ok (.iconst 0, 1) := by decide +kernel
theorem dX7_readSum_9 : decode cX7_readSum 9 = .ok (.ireturn, 1) := by decide +kernel
theorem dX7_readSum_10 : decode cX7_readSum 10 = .ok (.iconst 0, 1) := by decide +kernel
theorem dX7_readSum_11 : decode cX7_readSum 11 = .ok (.istore_n 2, 1) := by decide +kernel
theorem dX7_readSum_12 : decode cX7_readSum 12 = .ok (.iload_n 2, 1) := by decide +kernel
theorem dX7_readSum_13 : decode cX7_readSum 13 = .ok (.sipush 1000, 3) := by decide +kernel
theorem dX7_readSum_16 : decode cX7_readSum 16 = .ok (.if_icmp .ge 69, 3) := by decide +kernel
theorem dX7_readSum_19 : decode cX7_readSum 19 = .ok (.aload_n 0, 1) := by decide +kernel
theorem dX7_readSum_20 : decode cX7_readSum 20 = .ok (.getfield 18, 3) := by decide +kernel
theorem dX7_readSum_23 : decode cX7_readSum 23 = .ok (.bipush 43, 2) := by decide +kernel
theorem dX7_readSum_25 : decode cX7_readSum 25 = .ok (.invokevirtual 46, 3) := by decide +kernel
theorem dX7_readSum_28 : decode cX7_readSum 28 = .ok (.istore_n 3, 1) := by decide +kernel
theorem dX7_readSum_29 : decode cX7_readSum 29 = .ok (.iload_n 3, 1) := by decide +kernel
theorem dX7_readSum_30 : decode cX7_readSum 30 = .ok (.ifCond .ne 17, 3) := by decide +kernel
theorem dX7_readSum_33 : decode cX7_readSum 33 = .ok (.aload_n 0, 1) := by decide +kernel
theorem dX7_readSum_34 : decode cX7_readSum 34 = .ok (.getfield 18, 3) := by decide +kernel
theorem dX7_readSum_37 : decode cX7_readSum 37 = .ok (.bipush 45, 2) := by decide +kernel
theorem dX7_readSum_39 : decode cX7_readSum 39 = .ok (.invokevirtual 46, 3) := by decide +kernel
theorem dX7_readSum_42 : decode cX7_readSum 42 = .ok (.ifCond .ne 5, 3) := by decide +kernel
theorem dX7_readSum_45 : decode cX7_readSum 45 = .ok (.iconst 1, 1) := by decide +kernel
theorem dX7_readSum_46 : decode cX7_readSum 46 = .ok (.ireturn, 1) := by decide +kernel
theorem dX7_readSum_47 : decode cX7_readSum 47 = .ok (.aload_n 0, 1) := by decide +kernel
theorem dX7_readSum_48 : decode cX7_readSum 48 = .ok (.getfield 18, 3) := by decide +kernel
theorem dX7_readSum_51 : decode cX7_readSum 51 = .ok (.invokevirtual 40, 3) := by decide +kernel
theorem dX7_readSum_54 : decode cX7_readSum 54 = .ok (.aload_n 0, 1) := by decide +kernel
theorem dX7_readSum_55 : decode cX7_readSum 55 = .ok (.iload_n 1, 1) := by decide +kernel
theorem dX7_readSum_56 : decode cX7_readSum 56 = .ok (.invokevirtual 50, 3) := by decide +kernel
theorem dX7_readSum_59 : decode cX7_readSum 59 = .ok (.ifCond .ne 5, 3) := by decide +kernel
theorem dX7_readSum_62 : decode cX7_readSum 62 = .ok (.iconst 0, 1) := by decide +kernel
theorem dX7_readSum_63 : decode cX7_readSum 63 = .ok (.ireturn, 1) := by decide +kernel
theorem dX7_readSum_64 : decode cX7_readSum 64 = .ok (.aload_n 0, 1) := by decide +kernel
theorem dX7_readSum_65 : decode cX7_readSum 65 = .ok (.iload_n 3, 1) := by decide +kernel
theorem dX7_readSum_66 : decode cX7_readSum 66 = .ok (.ifCond .eq 8, 3) := by decide +kernel
theorem dX7_readSum_69 : decode cX7_readSum 69 = .ok (.bipush (-10), 2) := by decide +kernel
theorem dX7_readSum_71 : decode cX7_readSum 71 = .ok (.goto 5, 3) := by decide +kernel
theorem dX7_readSum_74 : decode cX7_readSum 74 = .ok (.bipush (-11), 2) := by decide +kernel
theorem dX7_readSum_76 : decode cX7_readSum 76 = .ok (.invokevirtual 26, 3) := by decide +kernel
theorem dX7_readSum_79 : decode cX7_readSum 79 = .ok (.iinc 2 1, 3) := by decide +kernel
theorem dX7_readSum_82 : decode cX7_readSum 82 = .ok (.goto (-70), 3) := by decide +kernel
theorem dX7_readSum_85 : decode cX7_readSum 85 = .ok (.iconst 1, 1) := by decide +kernel
theorem dX7_readSum_86 : decode cX7_readSum 86 = .ok (.ireturn, 1) := by decide +kernel
theorem dX7_readTest_0 : decode cX7_readTest 0 = .ok (.aload_n 0, 1) := by decide +kernel
theorem dX7_readTest_1 : decode cX7_readTest 1 = .ok (.iload_n 1, 1) := by decide +kernel
theorem dX7_readTest_2 : decode cX7_readTest 2 = .ok (.invokevirtual 43, 3) := by decide +kernel
theorem dX7_readTest_5 : decode cX7_readTest 5 = .ok (.ifCond .ne 5, 3) := by decide +kernel
theorem dX7_readTest_8 : decode cX7_readTest 8 = .ok (.iconst 0, 1) := by decide +kernel
theorem dX7_readTest_9 : decode cX7_readTest 9 = .ok (.ireturn, 1) := by decide +kernel
theorem dX7_readTest_10 : decode cX7_readTest 10 = .ok (.aload_n 0, 1) := by decide +kernel
theorem dX7_readTest_11 : decode cX7_readTest 11 = .ok (.getfield 18, 3) := by decide +kernel
theorem dX7_readTest_14 : decode cX7_readTest 14 = .ok (.bipush 60, 2) := by decide +kernel
theorem dX7_readTest_16 : decode cX7_readTest 16 = .ok (.invokevirtual 46, 3) := by decide +kernel
theorem dX7_readTest_19 : decode cX7_readTest 19 = .ok (.istore_n 2, 1) := by decide +kernel
theorem dX7_readTest_20 : decode cX7_readTest 20 = .ok (.iload_n 2, 1) := by decide +kernel
theorem dX7_readTest_21 : decode cX7_readTest 21 = .ok (.ifCond .ne 17, 3) := by decide +kernel
theorem dX7_readTest_24 : decode cX7_readTest 24 = .ok (.aload_n 0, 1) := by decide +kernel
theorem dX7_readTest_25 : decode cX7_readTest 25 = .ok (.getfield 18, 3) := by decide +kernel
theorem dX7_readTest_28 : decode cX7_readTest 28 = .ok (.bipush 61, 2) := by decide +kernel
theorem dX7_readTest_30 : decode cX7_readTest 30 = .ok (.invokevirtual 46, 3) := by decide +kernel
theorem dX7_readTest_33 : decode cX7_readTest 33 = .ok (.ifCond .ne 5, 3) := by decide +kernel
theorem dX7_readTest_36 : decode cX7_readTest 36 = .ok (.iconst 1, 1) := by decide +kernel
theorem dX7_readTest_37 : decode cX7_readTest 37 = .ok (.ireturn, 1) := by decide +kernel
theorem dX7_readTest_38 : decode cX7_readTest 38 = .ok (.aload_n 0, 1) := by decide +kernel
theorem dX7_readTest_39 : decode cX7_readTest 39 = .ok (.getfield 18, 3) := by decide +kernel
theorem dX7_readTest_42 : decode cX7_readTest 42 = .ok (.invokevirtual 40, 3) := by decide +kernel
theorem dX7_readTest_45 : decode cX7_readTest 45 = .ok (.aload_n 0, 1) := by decide +kernel
theorem dX7_readTest_46 : decode cX7_readTest 46 = .ok (.iload_n 1, 1) := by decide +kernel
theorem dX7_readTest_47 : decode cX7_readTest 47 = .ok (.invokevirtual 43, 3) := by decide +kernel
theorem dX7_readTest_50 : decode cX7_readTest 50 = .ok (.ifCond .ne 5, 3) := by decide +kernel
theorem dX7_readTest_53 : decode cX7_readTest 53 = .ok (.iconst 0, 1) := by decide +kernel
theorem dX7_readTest_54 : decode cX7_readTest 54 = .ok (.ireturn, 1) := by decide +kernel
theorem dX7_readTest_55 : decode cX7_readTest 55 = .ok (.aload_n 0, 1) := by decide +kernel
theorem dX7_readTest_56 : decode cX7_readTest 56 = .ok (.iload_n 2, 1) := by decide +kernel
theorem dX7_readTest_57 : decode cX7_readTest 57 = .ok (.ifCond .eq 8, 3) := by decide +kernel
theorem dX7_readTest_60 : decode cX7_readTest 60 = .ok (.bipush (-8), 2) := by decide +kernel
theorem dX7_readTest_62 : decode cX7_readTest 62 = .ok (.goto 5, 3) := by decide +kernel
theorem dX7_readTest_65 : decode cX7_readTest 65 = .ok (.bipush (-9), 2) := by decide +kernel
theorem dX7_readTest_67 : decode cX7_readTest 67 = .ok (.invokevirtual 26, 3) := by decide +kernel
theorem dX7_readTest_70 : decode cX7_readTest 70 = .ok (.iconst 1, 1) := by decide +kernel
theorem dX7_readTest_71 : decode cX7_readTest 71 = .ok (.ireturn, 1) := by decide +kernel
theorem dX7_readAll_0 : decode cX7_readAll 0 = .ok (.aload_n 0, 1) := by decide +kernel
theorem dX7_readAll_1 : decode cX7_readAll 1 = .ok (.iload_n 1, 1) := by decide +kernel
theorem dX7_readAll_2 : decode cX7_readAll 2 = .ok (.invokevirtual 34, 3) := by decide +kernel
theorem dX7_readAll_5 : decode cX7_readAll 5 = .ok (.ifCond .ne 5, 3) := by decide +kernel
theorem dX7_readAll_8 : decode cX7_readAll 8 = .ok (.iconst 0, 1) := by decide +kernel
theorem dX7_readAll_9 : decode cX7_readAll 9 = .ok (.ireturn, 1) := by decide +kernel
theorem dX7_readAll_10 : decode cX7_readAll 10 = .ok (.iconst 0, 1) := by decide +kernel
theorem dX7_readAll_11 : decode cX7_readAll 11 = .ok (.istore_n 2, 1) := by decide +kernel
theorem dX7_readAll_12 : decode cX7_readAll 12 = .ok (.iload_n 2, 1) := by decide +kernel
theorem dX7_readAll_13 : decode cX7_readAll 13 = .ok (.sipush 1000, 3) := by decide +kernel
theorem dX7_readAll_16 : decode cX7_readAll 16 = .ok (.if_icmp .ge 65, 3) := by decide +kernel
theorem dX7_readAll_19 : decode cX7_readAll 19 = .ok (.aload_n 0, 1) := by decide +kernel
theorem dX7_readAll_20 : decode cX7_readAll 20 = .ok (.getfield 18, 3) := by decide +kernel
theorem dX7_readAll_23 : decode cX7_readAll 23 = .ok (.getfield 37, 3) := by decide +kernel
theorem dX7_readAll_26 : decode cX7_readAll 26 = .ok (.istore_n 3, 1) := by decide +kernel
theorem dX7_readAll_27 : decode cX7_readAll 27 = .ok (.iload_n 3, 1) := by decide +kernel
theorem dX7_readAll_28 : decode cX7_readAll 28 = .ok (.bipush 15, 2) := by decide +kernel
theorem dX7_readAll_30 : decode cX7_readAll 30 = .ok (.if_icmp .eq 11, 3) := by decide +kernel
theorem dX7_readAll_33 : decode cX7_readAll 33 = .ok (.iload_n 3, 1) := by decide +kernel
theorem dX7_readAll_34 : decode cX7_readAll 34 = .ok (.bipush 16, 2) := by decide +kernel
theorem dX7_readAll_36 : decode cX7_readAll 36 = .ok (.if_icmp .eq 5, 3) := by decide +kernel
theorem dX7_readAll_39 : decode cX7_readAll 39 = .ok (.iconst 1, 1) := by decide +kernel
theorem dX7_readAll_40 : decode cX7_readAll 40 = .ok (.ireturn, 1) := by decide +kernel
theorem dX7_readAll_41 : decode cX7_readAll 41 = .ok (.aload_n 0, 1) := by decide +kernel
theorem dX7_readAll_42 : decode cX7_readAll 42 = .ok (.getfield 18, 3) := by decide +kernel
theorem dX7_readAll_45 : decode cX7_readAll 45 = .ok (.invokevirtual 40, 3) := by decide +kernel
theorem dX7_readAll_48 : decode cX7_readAll 48 = .ok (.aload_n 0, 1) := by decide +kernel
theorem dX7_readAll_49 : decode cX7_readAll 49 = .ok (.iload_n 1, 1) := by decide +kernel
theorem dX7_readAll_50 : decode cX7_readAll 50 = .ok (.invokevirtual 34, 3) := by decide +kernel
theorem dX7_readAll_53 : decode cX7_readAll 53 = .ok (.ifCond .ne 5, 3) := by decide +kernel
theorem dX7_readAll_56 : decode cX7_readAll 56 = .ok (.iconst 0, 1) := by decide +kernel
theorem dX7_readAll_57 : decode cX7_readAll 57 = .ok (.ireturn, 1) := by decide +kernel
theorem dX7_readAll_58 : decode cX7_readAll 58 = .ok (.aload_n 0, 1) := by decide +kernel
theorem dX7_readAll_59 : decode cX7_readAll 59 = .ok (.iload_n 3, 1) := by decide +kernel
theorem dX7_readAll_60 : decode cX7_readAll 60 = .ok (.bipush 15, 2) := by decide +kernel
theorem dX7_readAll_62 : decode cX7_readAll 62 = .ok (.if_icmp .ne 8, 3) := by decide +kernel
theorem dX7_readAll_65 : decode cX7_readAll 65 = .ok (.bipush (-6), 2) := by decide +kernel
theorem dX7_readAll_67 : decode cX7_readAll 67 = .ok (.goto 5, 3) := by decide +kernel
theorem dX7_readAll_70 : decode cX7_readAll 70 = .ok (.bipush (-7), 2) := by decide +kernel
theorem dX7_readAll_72 : decode cX7_readAll 72 = .ok (.invokevirtual 26, 3) := by decide +kernel
theorem dX7_readAll_75 : decode cX7_readAll 75 = .ok (.iinc 2 1, 3) := by decide +kernel
theorem dX7_readAll_78 : decode cX7_readAll 78 = .ok (.goto (-66), 3) := by decide +kernel
theorem dX7_readAll_81 : decode cX7_readAll 81 = .ok (.iconst 1, 1) := by decide +kernel
theorem dX7_readAll_82 : decode cX7_readAll 82 = .ok (.ireturn, 1) := by decide +kernel
theorem dX7_readBracketed_0 : decode cX7_readBracketed 0 = .ok (.aload_n 0, 1) := by decide +kernel
theorem dX7_readBracketed_1 : decode cX7_readBracketed 1 = .ok (.iload_n 1, 1) := by decide +kernel
theorem dX7_readBracketed_2 : decode cX7_readBracketed 2 = .ok (.invokevirtual 30, 3) := by decide +kernel
theorem dX7_readBracketed_5 : decode cX7_readBracketed 5 = .ok (.ifCond .ne 5, 3) := by decide +kernel
theorem dX7_readBracketed_8 : decode cX7_readBracketed 8 = .ok (.iconst 0, 1) := by decide +kernel
theorem dX7_readBracketed_9 : decode cX7_readBracketed 9 = .ok (.ireturn, 1) := by decide +kernel
theorem dX7_readBracketed_10 : decode cX7_readBracketed 10 = .ok (.aload_n 0, 1) := by decide +kernel
theorem dX7_readBracketed_11 : decode cX7_readBracketed 11 = .ok (.getfield 18, 3) := by decide +kernel
theorem dX7_readBracketed_14 : decode cX7_readBracketed 14 = .ok (.bipush 41, 2) := by decide +kernel
theorem dX7_readBracketed_16 : decode cX7_readBracketed 16 = .ok (.invokevirtual 46, 3) := by decide +kernel
theorem dX7_readBracketed_19 : decode cX7_readBracketed 19 = .ok (.ifCond .ne 12, 3) := by decide +kernel
theorem dX7_readBracketed_22 : decode cX7_readBracketed 22 = .ok (.aload_n 0, 1) := by decide +kernel
theorem dX7_readBracketed_23 : decode cX7_readBracketed 23 = .ok (.getfield 18, 3) := by decide +kernel
theorem dX7_readBracketed_26 : decode cX7_readBracketed 26 = .ok (.iconst 1, 1) := by decide +kernel
theorem dX7_readBracketed_27 : decode cX7_readBracketed 27 = .ok (.invokevirtual 59, 3) := by decide +kernel
theorem dX7_readBracketed_30 : decode cX7_readBracketed 30 = .ok (.ireturn, 1) := by decide +kernel
theorem dX7_readBracketed_31 : decode cX7_readBracketed 31 = .ok (.aload_n 0, 1) := by decide +kernel
theorem dX7_readBracketed_32 : decode cX7_readBracketed 32 = .ok (.getfield 18, 3) := by decide +kernel
theorem dX7_readBracketed_35 : decode cX7_readBracketed 35 = .ok (.invokevirtual 40, 3) := by decide +kernel
theorem dX7_readBracketed_38 : decode cX7_readBracketed 38 = .ok (.iconst 1, 1) := by decide +kernel
theorem dX7_readBracketed_39 : decode cX7_readBracketed 39 = .ok (.ireturn, 1) := by decide +kernel
theorem zq_283 : Cond.methodLink RX7 26 yX7_addStep ∈ zG := List.mem_of_getElem? (i := 283) (by decide +kernel)
theorem zq_507 : Cond.methodLink RX7 30 yX7_readAll ∈ zG := List.mem_of_getElem? (i := 507) (by decide +kernel)
theorem zq_511 : Cond.fieldLink RX7 37 "ForeignKnit$Tape" "key" "I" ∈ zG := List.mem_of_getElem? (i := 511) (by decide +kernel)
theorem zq_512 : Cond.methodLink RX7 34 yX7_readTest ∈ zG := List.mem_of_getElem? (i := 512) (by decide +kernel)
theorem zq_515 : Cond.methodLink RX7 40 yX10_next ∈ zG := List.mem_of_getElem? (i := 515) (by decide +kernel)
theorem zq_517 : Cond.methodLink RX7 46 yX10_isSign ∈ zG := List.mem_of_getElem? (i := 517) (by decide +kernel)
theorem zq_518 : Cond.methodLink RX7 59 yX10_wrong ∈ zG := List.mem_of_getElem? (i := 518) (by decide +kernel)
theorem zq_520 : Cond.methodLink RX7 53 yX7_readPart ∈ zG := List.mem_of_getElem? (i := 520) (by decide +kernel)
theorem zq_524 : Cond.fieldLink RX7 56 "ForeignKnit$Tape" "kind" "I" ∈ zG := List.mem_of_getElem? (i := 524) (by decide +kernel)
theorem zq_525 : Cond.fieldLink RX7 62 "ForeignKnit$Tape" "number" "I" ∈ zG := List.mem_of_getElem? (i := 525) (by decide +kernel)
theorem zq_526 : Cond.methodLink RX7 65 yX7_readNegated ∈ zG := List.mem_of_getElem? (i := 526) (by decide +kernel)
theorem zq_529 : Cond.methodLink RX7 68 yX7_readBracketed ∈ zG := List.mem_of_getElem? (i := 529) (by decide +kernel)
theorem zq_534 : Cond.methodLink RX7 50 yX7_readProduct ∈ zG := List.mem_of_getElem? (i := 534) (by decide +kernel)
theorem zq_538 : Cond.methodLink RX7 43 yX7_readSum ∈ zG := List.mem_of_getElem? (i := 538) (by decide +kernel)
theorem zfd_X7_18 : zFd RX7 18 7 0 := ⟨_, rfl, by decide, zq_77⟩
theorem zfd_X7_37 : zFd RX7 37 10 5 := ⟨_, rfl, by decide, zq_511⟩
theorem zfd_X7_56 : zFd RX7 56 10 2 := ⟨_, rfl, by decide, zq_524⟩
theorem zfd_X7_62 : zFd RX7 62 10 4 := ⟨_, rfl, by decide, zq_525⟩
theorem zq_451 : Cond.code yX10_isSign cX10_isSign 2 (some .boolean) ∈ zG := List.mem_of_getElem? (i := 451) (by decide +kernel)
theorem zq_449 : Cond.instanceMethod yX10_isSign ∈ zG := List.mem_of_getElem? (i := 449) (by decide +kernel)
theorem zq_450 : Cond.selects RX10 yX10_isSign yX10_isSign ∈ zG := List.mem_of_getElem? (i := 450) (by decide +kernel)
theorem zy_X10_isSign : zyV yX10_isSign cX10_isSign 2 (some .boolean) 1 := ⟨zq_451, zq_449, zq_450, zq_16, ⟨by decide, by decide⟩, by decide +kernel, by decide⟩
theorem zq_296 : Cond.code yX10_next cX10_next 4 none ∈ zG := List.mem_of_getElem? (i := 296) (by decide +kernel)
theorem zq_294 : Cond.instanceMethod yX10_next ∈ zG := List.mem_of_getElem? (i := 294) (by decide +kernel)
theorem zq_295 : Cond.selects RX10 yX10_next yX10_next ∈ zG := List.mem_of_getElem? (i := 295) (by decide +kernel)
theorem zy_X10_next : zyV yX10_next cX10_next 4 none 0 := ⟨zq_296, zq_294, zq_295, zq_16, ⟨by decide, by decide⟩, by decide +kernel, by decide⟩
theorem zq_434 : Cond.code yX10_wrong cX10_wrong 2 (some .boolean) ∈ zG := List.mem_of_getElem? (i := 434) (by decide +kernel)
theorem zq_432 : Cond.instanceMethod yX10_wrong ∈ zG := List.mem_of_getElem? (i := 432) (by decide +kernel)
theorem zq_433 : Cond.selects RX10 yX10_wrong yX10_wrong ∈ zG := List.mem_of_getElem? (i := 433) (by decide +kernel)
theorem zy_X10_wrong : zyV yX10_wrong cX10_wrong 2 (some .boolean) 1 := ⟨zq_434, zq_432, zq_433, zq_16, ⟨by decide, by decide⟩, by decide +kernel, by decide⟩
theorem zq_286 : Cond.code yX7_addStep cX7_addStep 2 none ∈ zG := List.mem_of_getElem? (i := 286) (by decide +kernel)
theorem zq_284 : Cond.instanceMethod yX7_addStep ∈ zG := List.mem_of_getElem? (i := 284) (by decide +kernel)
theorem zq_285 : Cond.selects RX7 yX7_addStep yX7_addStep ∈ zG := List.mem_of_getElem? (i := 285) (by decide +kernel)
theorem zy_X7_addStep : zyV yX7_addStep cX7_addStep 2 none 1 := ⟨zq_286, zq_284, zq_285, zq_69, ⟨by decide, by decide⟩, by decide +kernel, by decide⟩
theorem zq_510 : Cond.code yX7_readAll cX7_readAll 4 (some .boolean) ∈ zG := List.mem_of_getElem? (i := 510) (by decide +kernel)
theorem zq_508 : Cond.instanceMethod yX7_readAll ∈ zG := List.mem_of_getElem? (i := 508) (by decide +kernel)
theorem zq_509 : Cond.selects RX7 yX7_readAll yX7_readAll ∈ zG := List.mem_of_getElem? (i := 509) (by decide +kernel)
theorem zy_X7_readAll : zyV yX7_readAll cX7_readAll 4 (some .boolean) 1 := ⟨zq_510, zq_508, zq_509, zq_69, ⟨by decide, by decide⟩, by decide +kernel, by decide⟩
theorem zq_516 : Cond.code yX7_readBracketed cX7_readBracketed 2 (some .boolean) ∈ zG := List.mem_of_getElem? (i := 516) (by decide +kernel)
theorem zq_530 : Cond.instanceMethod yX7_readBracketed ∈ zG := List.mem_of_getElem? (i := 530) (by decide +kernel)
theorem zq_531 : Cond.selects RX7 yX7_readBracketed yX7_readBracketed ∈ zG := List.mem_of_getElem? (i := 531) (by decide +kernel)
theorem zy_X7_readBracketed : zyV yX7_readBracketed cX7_readBracketed 2 (some .boolean) 1 := ⟨zq_516, zq_530, zq_531, zq_69, ⟨by decide, by decide⟩, by decide +kernel, by decide⟩
theorem zq_519 : Cond.code yX7_readNegated cX7_readNegated 2 (some .boolean) ∈ zG := List.mem_of_getElem? (i := 519) (by decide +kernel)
theorem zq_527 : Cond.instanceMethod yX7_readNegated ∈ zG := List.mem_of_getElem? (i := 527) (by decide +kernel)
theorem zq_528 : Cond.selects RX7 yX7_readNegated yX7_readNegated ∈ zG := List.mem_of_getElem? (i := 528) (by decide +kernel)
theorem zy_X7_readNegated : zyV yX7_readNegated cX7_readNegated 2 (some .boolean) 1 := ⟨zq_519, zq_527, zq_528, zq_69, ⟨by decide, by decide⟩, by decide +kernel, by decide⟩
theorem zq_523 : Cond.code yX7_readPart cX7_readPart 5 (some .boolean) ∈ zG := List.mem_of_getElem? (i := 523) (by decide +kernel)
theorem zq_521 : Cond.instanceMethod yX7_readPart ∈ zG := List.mem_of_getElem? (i := 521) (by decide +kernel)
theorem zq_522 : Cond.selects RX7 yX7_readPart yX7_readPart ∈ zG := List.mem_of_getElem? (i := 522) (by decide +kernel)
theorem zy_X7_readPart : zyV yX7_readPart cX7_readPart 5 (some .boolean) 1 := ⟨zq_523, zq_521, zq_522, zq_69, ⟨by decide, by decide⟩, by decide +kernel, by decide⟩
theorem zq_532 : Cond.code yX7_readProduct cX7_readProduct 3 (some .boolean) ∈ zG := List.mem_of_getElem? (i := 532) (by decide +kernel)
theorem zq_535 : Cond.instanceMethod yX7_readProduct ∈ zG := List.mem_of_getElem? (i := 535) (by decide +kernel)
theorem zq_536 : Cond.selects RX7 yX7_readProduct yX7_readProduct ∈ zG := List.mem_of_getElem? (i := 536) (by decide +kernel)
theorem zy_X7_readProduct : zyV yX7_readProduct cX7_readProduct 3 (some .boolean) 1 := ⟨zq_532, zq_535, zq_536, zq_69, ⟨by decide, by decide⟩, by decide +kernel, by decide⟩
theorem zq_533 : Cond.code yX7_readSum cX7_readSum 4 (some .boolean) ∈ zG := List.mem_of_getElem? (i := 533) (by decide +kernel)
theorem zq_539 : Cond.instanceMethod yX7_readSum ∈ zG := List.mem_of_getElem? (i := 539) (by decide +kernel)
theorem zq_540 : Cond.selects RX7 yX7_readSum yX7_readSum ∈ zG := List.mem_of_getElem? (i := 540) (by decide +kernel)
theorem zy_X7_readSum : zyV yX7_readSum cX7_readSum 4 (some .boolean) 1 := ⟨zq_533, zq_539, zq_540, zq_69, ⟨by decide, by decide⟩, by decide +kernel, by decide⟩
theorem zq_537 : Cond.code yX7_readTest cX7_readTest 3 (some .boolean) ∈ zG := List.mem_of_getElem? (i := 537) (by decide +kernel)
theorem zq_513 : Cond.instanceMethod yX7_readTest ∈ zG := List.mem_of_getElem? (i := 513) (by decide +kernel)
theorem zq_514 : Cond.selects RX7 yX7_readTest yX7_readTest ∈ zG := List.mem_of_getElem? (i := 514) (by decide +kernel)
theorem zy_X7_readTest : zyV yX7_readTest cX7_readTest 3 (some .boolean) 1 := ⟨zq_537, zq_513, zq_514, zq_69, ⟨by decide, by decide⟩, by decide +kernel, by decide⟩
section ZM
variable {p : Program} {l : Launch} {e : Env} {R : Room} {s : State} {m : MethodId} {args : Array Value} {below : List Frame} {meth : Method} {c : Code} {cells slots : Nat} {Q : State → Prop} {D : va_G} {dA : Nat → ClassId} {ad ad0 : Nat → Nat} {al al0 : Nat → Prop}
/-! X7_readPart -/
def fX7_readPart_J147 (zX7_readNegated : Int32 → zW → (Int32 → zW → Prop) → Prop) (zX7_readBracketed : Int32 → zW → (Int32 → zW → Prop) → Prop) (k : Int32 → zW → Prop) (t0 : Int32) (w : zW) : Prop :=
  fX7_addStep t0 w (fun w8 =>
  fX10_next  w8 (fun w9 =>
  k (1 : Int32) w9))
set_option maxHeartbeats 4000000 in
set_option maxRecDepth 100000 in
theorem mX7_readPart_J147 {k : Int32 → zW → Prop} {zX7_readNegated : Int32 → zW → (Int32 → zW → Prop) → Prop} {qX7_readNegated : Nat} {zX7_readBracketed : Int32 → zW → (Int32 → zW → Prop) → Prop} {qX7_readBracketed : Nat} {fr : Nat} (X : zCx p s m args meth c cX7_readPart 5 RX7 (some .boolean)) (hr : zRm R fr cells slots) (hQ : zRetZ p l e R s m args below meth c cells slots Q D dA true ad0 al0 ad al cX7_readPart k) (hfr : 6 ≤ fr) (hzX7_readNegated : ∀ (x1 : Int32) (w : zW) (k : Int32 → zW → Prop), zX7_readNegated x1 w k → zmetI l yX7_readNegated cX7_readNegated 2 (some .boolean) qX7_readNegated [.ref (ad 6), .int x1] D dA true ad al w k) (hqzX7_readNegated : qX7_readNegated + 1 ≤ fr) (hzX7_readBracketed : ∀ (x1 : Int32) (w : zW) (k : Int32 → zW → Prop), zX7_readBracketed x1 w k → zmetI l yX7_readBracketed cX7_readBracketed 2 (some .boolean) qX7_readBracketed [.ref (ad 6), .int x1] D dA true ad al w k) (hqzX7_readBracketed : qX7_readBracketed + 1 ≤ fr)  {t0 : Int32} {w : zW} {H : Heap} {locs : List Loc} {ls : Array Slot} (hf : fX7_readPart_J147 zX7_readNegated zX7_readBracketed k t0 w) (hR : zSt D dA true ad0 al0 ad al w s H locs) (hl : lv_has ls 5 [(0, .ref (ad 6))]) : W p l e R s m args below meth c H locs cells slots Q (F0 m 147 ls [.int t0, .ref (ad 6)]) := by
  have hx := X.1
  have hb := X.2.1
  have hml := X.2.2.1
  have hown := X.2.2.2.1
  have hts := X.2.2.2.2.1
  unfold fX7_readPart_J147 at hf
  refine z_callVV (fr1 := 0) (b := 6) (As := [.int t0]) (rest := []) X (hr.le (by omega)) hR zy_X7_addStep zq_283 (zlit hR zf_6) (by rw [zs_6]; rfl) rfl (mX7_addStep  hf) rfl hl (Nat.le_of_ble_eq_true rfl) dX7_readPart_147 rfl (fun w8 H locs hf hR => ?_)
  refine lv_aload_n hx hb dX7_readPart_150 rfl (lv_at hl 0 rfl) ?_
  refine z_getS X hR (zlit hR zf_6) zs_6 (by decide) zfd_X7_18 rfl (r := 2) (by decide +kernel) dX7_readPart_151 ?_
  refine z_callVV (fr1 := 5) (b := 2) (As := []) (rest := []) X (hr.le (by omega)) hR zy_X10_next zq_515 (zlit hR zf_2) (by rw [zs_2]; rfl) rfl (mX10_next  hf) rfl hl (Nat.le_of_ble_eq_true rfl) dX7_readPart_154 rfl (fun w9 H locs hf hR => ?_)
  refine lv_iconst (v := (1 : Int32)) hx hb dX7_readPart_157 (by decide) ?_
  exact hQ _ _ _ _ _ _ zb01_1 hf hR dX7_readPart_158
def fX7_readPart_J122 (zX7_readNegated : Int32 → zW → (Int32 → zW → Prop) → Prop) (zX7_readBracketed : Int32 → zW → (Int32 → zW → Prop) → Prop) (k : Int32 → zW → Prop) (x2 : Int32) (w : zW) : Prop :=
  ((x2 = 0 →
    fX7_readPart_J147 zX7_readNegated zX7_readBracketed k ((16 : Int32) - (gI w 2 5)) w) ∧
   (¬ x2 = 0 →
    fX7_readPart_J147 zX7_readNegated zX7_readBracketed k (gI w 2 4) w))
set_option maxHeartbeats 4000000 in
set_option maxRecDepth 100000 in
theorem mX7_readPart_J122 {k : Int32 → zW → Prop} {zX7_readNegated : Int32 → zW → (Int32 → zW → Prop) → Prop} {qX7_readNegated : Nat} {zX7_readBracketed : Int32 → zW → (Int32 → zW → Prop) → Prop} {qX7_readBracketed : Nat} {fr : Nat} (X : zCx p s m args meth c cX7_readPart 5 RX7 (some .boolean)) (hr : zRm R fr cells slots) (hQ : zRetZ p l e R s m args below meth c cells slots Q D dA true ad0 al0 ad al cX7_readPart k) (hfr : 6 ≤ fr) (hzX7_readNegated : ∀ (x1 : Int32) (w : zW) (k : Int32 → zW → Prop), zX7_readNegated x1 w k → zmetI l yX7_readNegated cX7_readNegated 2 (some .boolean) qX7_readNegated [.ref (ad 6), .int x1] D dA true ad al w k) (hqzX7_readNegated : qX7_readNegated + 1 ≤ fr) (hzX7_readBracketed : ∀ (x1 : Int32) (w : zW) (k : Int32 → zW → Prop), zX7_readBracketed x1 w k → zmetI l yX7_readBracketed cX7_readBracketed 2 (some .boolean) qX7_readBracketed [.ref (ad 6), .int x1] D dA true ad al w k) (hqzX7_readBracketed : qX7_readBracketed + 1 ≤ fr)  {x2 : Int32} {w : zW} {H : Heap} {locs : List Loc} {ls : Array Slot} (hf : fX7_readPart_J122 zX7_readNegated zX7_readBracketed k x2 w) (hR : zSt D dA true ad0 al0 ad al w s H locs) (hl : lv_has ls 5 [(0, .ref (ad 6)), (2, .int x2)]) : W p l e R s m args below meth c H locs cells slots Q (F0 m 122 ls []) := by
  have hx := X.1
  have hb := X.2.1
  have hml := X.2.2.1
  have hown := X.2.2.2.1
  have hts := X.2.2.2.2.1
  unfold fX7_readPart_J122 at hf
  refine lv_aload_n hx hb dX7_readPart_122 rfl (lv_at hl 0 rfl) ?_
  refine lv_iload_n hx hb dX7_readPart_123 rfl (lv_at hl 1 rfl) ?_
  refine lv_if_eq (tgt := 137) hx hb dX7_readPart_124 (by decide) (fun c7 => ?_) (fun c7 => ?_)
  · replace hf := hf.1 c7
    refine lv_bipush (v := (16 : Int32)) hx hb dX7_readPart_137 (by decide) ?_
    refine lv_aload_n hx hb dX7_readPart_139 rfl (lv_at hl 0 rfl) ?_
    refine z_getS X hR (zlit hR zf_6) zs_6 (by decide) zfd_X7_18 rfl (r := 2) (by decide +kernel) dX7_readPart_140 ?_
    refine z_getI X hR (zlit hR zf_2) zs_2 (by decide) zfd_X7_37 rfl dX7_readPart_143 ?_
    refine lv_isub hx hb dX7_readPart_146 ?_
    exact mX7_readPart_J147 X hr hQ hfr hzX7_readNegated hqzX7_readNegated hzX7_readBracketed hqzX7_readBracketed  hf hR (lv_sub hl [0] rfl)
  · replace hf := hf.2 c7
    refine lv_aload_n hx hb dX7_readPart_127 rfl (lv_at hl 0 rfl) ?_
    refine z_getS X hR (zlit hR zf_6) zs_6 (by decide) zfd_X7_18 rfl (r := 2) (by decide +kernel) dX7_readPart_128 ?_
    refine z_getI X hR (zlit hR zf_2) zs_2 (by decide) zfd_X7_62 rfl dX7_readPart_131 ?_
    refine lv_goto (tgt := 147) hx hb dX7_readPart_134 (by decide) ?_
    exact mX7_readPart_J147 X hr hQ hfr hzX7_readNegated hqzX7_readNegated hzX7_readBracketed hqzX7_readBracketed  hf hR (lv_sub hl [0] rfl)
def fX7_readPart_J100 (zX7_readNegated : Int32 → zW → (Int32 → zW → Prop) → Prop) (zX7_readBracketed : Int32 → zW → (Int32 → zW → Prop) → Prop) (k : Int32 → zW → Prop) (x1 : Int32) (x2 : Int32) (x3 : Int32) (x4 : Int32) (w : zW) : Prop :=
  ((x1 < (5 : Int32) →
    ((¬ x2 = 0 →
      fX7_readPart_J122 zX7_readNegated zX7_readBracketed k x2 w) ∧
     (x2 = 0 →
      ((x3 = 0 →
        fX10_next  w (fun w11 =>
        ((x4 = 0 →
          zX7_readBracketed (x1 + (1 : Int32)) w11 (fun r13 w13 =>
          zb01 r13 ∧ k r13 w13)) ∧
         (¬ x4 = 0 →
          zX7_readNegated (x1 + (1 : Int32)) w11 (fun r14 w14 =>
          zb01 r14 ∧ k r14 w14))))) ∧
       (¬ x3 = 0 →
        fX7_readPart_J122 zX7_readNegated zX7_readBracketed k x2 w))))) ∧
   (¬ x1 < (5 : Int32) →
    fX10_wrong (5 : Int32) w (fun r15 w15 =>
    zb01 r15 ∧ k r15 w15)))
set_option maxHeartbeats 4000000 in
set_option maxRecDepth 100000 in
theorem mX7_readPart_J100 {k : Int32 → zW → Prop} {zX7_readNegated : Int32 → zW → (Int32 → zW → Prop) → Prop} {qX7_readNegated : Nat} {zX7_readBracketed : Int32 → zW → (Int32 → zW → Prop) → Prop} {qX7_readBracketed : Nat} {fr : Nat} (X : zCx p s m args meth c cX7_readPart 5 RX7 (some .boolean)) (hr : zRm R fr cells slots) (hQ : zRetZ p l e R s m args below meth c cells slots Q D dA true ad0 al0 ad al cX7_readPart k) (hfr : 6 ≤ fr) (hzX7_readNegated : ∀ (x1 : Int32) (w : zW) (k : Int32 → zW → Prop), zX7_readNegated x1 w k → zmetI l yX7_readNegated cX7_readNegated 2 (some .boolean) qX7_readNegated [.ref (ad 6), .int x1] D dA true ad al w k) (hqzX7_readNegated : qX7_readNegated + 1 ≤ fr) (hzX7_readBracketed : ∀ (x1 : Int32) (w : zW) (k : Int32 → zW → Prop), zX7_readBracketed x1 w k → zmetI l yX7_readBracketed cX7_readBracketed 2 (some .boolean) qX7_readBracketed [.ref (ad 6), .int x1] D dA true ad al w k) (hqzX7_readBracketed : qX7_readBracketed + 1 ≤ fr)  {x1 : Int32} {x2 : Int32} {x3 : Int32} {x4 : Int32} {w : zW} {H : Heap} {locs : List Loc} {ls : Array Slot} (hf : fX7_readPart_J100 zX7_readNegated zX7_readBracketed k x1 x2 x3 x4 w) (hR : zSt D dA true ad0 al0 ad al w s H locs) (hl : lv_has ls 5 [(0, .ref (ad 6)), (1, .int x1), (2, .int x2), (3, .int x3), (4, .int x4)]) : W p l e R s m args below meth c H locs cells slots Q (F0 m 100 ls []) := by
  have hx := X.1
  have hb := X.2.1
  have hml := X.2.2.1
  have hown := X.2.2.2.1
  have hts := X.2.2.2.2.1
  unfold fX7_readPart_J100 at hf
  refine lv_iload_n hx hb dX7_readPart_100 rfl (lv_at hl 1 rfl) ?_
  refine lv_iconst (v := (5 : Int32)) hx hb dX7_readPart_101 (by decide) ?_
  refine lv_icmp_lt (tgt := 114) hx hb dX7_readPart_102 (by decide) (fun c5 => ?_) (fun c5 => ?_)
  · replace hf := hf.1 c5
    refine lv_iload_n hx hb dX7_readPart_114 rfl (lv_at hl 2 rfl) ?_
    refine lv_if_ne (tgt := 122) hx hb dX7_readPart_115 (by decide) (fun c6 => ?_) (fun c6 => ?_)
    · replace hf := hf.1 c6
      exact mX7_readPart_J122 X hr hQ hfr hzX7_readNegated hqzX7_readNegated hzX7_readBracketed hqzX7_readBracketed  hf hR (lv_sub hl [0, 2] rfl)
    · replace hf := hf.2 c6
      refine lv_iload_n hx hb dX7_readPart_118 rfl (lv_at hl 3 rfl) ?_
      refine lv_if_eq (tgt := 159) hx hb dX7_readPart_119 (by decide) (fun c10 => ?_) (fun c10 => ?_)
      · replace hf := hf.1 c10
        refine lv_aload_n hx hb dX7_readPart_159 rfl (lv_at hl 0 rfl) ?_
        refine z_getS X hR (zlit hR zf_6) zs_6 (by decide) zfd_X7_18 rfl (r := 2) (by decide +kernel) dX7_readPart_160 ?_
        refine z_callVV (fr1 := 5) (b := 2) (As := []) (rest := []) X (hr.le (by omega)) hR zy_X10_next zq_515 (zlit hR zf_2) (by rw [zs_2]; rfl) rfl (mX10_next  hf) rfl hl (Nat.le_of_ble_eq_true rfl) dX7_readPart_163 rfl (fun w11 H locs hf hR => ?_)
        refine lv_iload hx hb dX7_readPart_166 (lv_at hl 4 rfl) ?_
        refine lv_if_eq (tgt := 181) hx hb dX7_readPart_168 (by decide) (fun c12 => ?_) (fun c12 => ?_)
        · replace hf := hf.1 c12
          refine lv_aload_n hx hb dX7_readPart_181 rfl (lv_at hl 0 rfl) ?_
          refine lv_iload_n hx hb dX7_readPart_182 rfl (lv_at hl 1 rfl) ?_
          refine lv_iconst (v := (1 : Int32)) hx hb dX7_readPart_183 (by decide) ?_
          refine lv_iadd hx hb dX7_readPart_184 ?_
          refine z_callVI (fr1 := qX7_readBracketed) (b := 6) (As := [.int (x1 + (1 : Int32))]) (rest := []) X (hr.le (by omega)) hR zy_X7_readBracketed zq_529 (zlit hR zf_6) (by rw [zs_6]; rfl) rfl (hzX7_readBracketed _ _ _ hf) rfl hl (Nat.le_of_ble_eq_true rfl) dX7_readPart_185 rfl (fun r13 w13 H locs hf hR => ?_)
          obtain ⟨h01, hf⟩ := hf
          exact hQ _ _ _ _ _ _ h01 hf hR dX7_readPart_188
        · replace hf := hf.2 c12
          refine lv_aload_n hx hb dX7_readPart_171 rfl (lv_at hl 0 rfl) ?_
          refine lv_iload_n hx hb dX7_readPart_172 rfl (lv_at hl 1 rfl) ?_
          refine lv_iconst (v := (1 : Int32)) hx hb dX7_readPart_173 (by decide) ?_
          refine lv_iadd hx hb dX7_readPart_174 ?_
          refine z_callVI (fr1 := qX7_readNegated) (b := 6) (As := [.int (x1 + (1 : Int32))]) (rest := []) X (hr.le (by omega)) hR zy_X7_readNegated zq_526 (zlit hR zf_6) (by rw [zs_6]; rfl) rfl (hzX7_readNegated _ _ _ hf) rfl hl (Nat.le_of_ble_eq_true rfl) dX7_readPart_175 rfl (fun r14 w14 H locs hf hR => ?_)
          refine lv_goto (tgt := 188) hx hb dX7_readPart_178 (by decide) ?_
          obtain ⟨h01, hf⟩ := hf
          exact hQ _ _ _ _ _ _ h01 hf hR dX7_readPart_188
      · replace hf := hf.2 c10
        exact mX7_readPart_J122 X hr hQ hfr hzX7_readNegated hqzX7_readNegated hzX7_readBracketed hqzX7_readBracketed  hf hR (lv_sub hl [0, 2] rfl)
  · replace hf := hf.2 c5
    refine lv_aload_n hx hb dX7_readPart_105 rfl (lv_at hl 0 rfl) ?_
    refine z_getS X hR (zlit hR zf_6) zs_6 (by decide) zfd_X7_18 rfl (r := 2) (by decide +kernel) dX7_readPart_106 ?_
    refine lv_iconst (v := (5 : Int32)) hx hb dX7_readPart_109 (by decide) ?_
    refine z_callVI (fr1 := 0) (b := 2) (As := [.int (5 : Int32)]) (rest := []) X (hr.le (by omega)) hR zy_X10_wrong zq_518 (zlit hR zf_2) (by rw [zs_2]; rfl) rfl (mX10_wrong  hf) rfl hl (Nat.le_of_ble_eq_true rfl) dX7_readPart_110 rfl (fun r15 w15 H locs hf hR => ?_)
    obtain ⟨h01, hf⟩ := hf
    exact hQ _ _ _ _ _ _ h01 hf hR dX7_readPart_113
def fX7_readPart_J64 (zX7_readNegated : Int32 → zW → (Int32 → zW → Prop) → Prop) (zX7_readBracketed : Int32 → zW → (Int32 → zW → Prop) → Prop) (k : Int32 → zW → Prop) (x1 : Int32) (x2 : Int32) (x3 : Int32) (t0 : Int32) (w : zW) : Prop :=
  ((¬ x2 = 0 →
    fX7_readPart_J100 zX7_readNegated zX7_readBracketed k x1 x2 x3 t0 w) ∧
   (x2 = 0 →
    ((¬ x3 = 0 →
      fX7_readPart_J100 zX7_readNegated zX7_readBracketed k x1 x2 x3 t0 w) ∧
     (x3 = 0 →
      ((¬ t0 = 0 →
        fX7_readPart_J100 zX7_readNegated zX7_readBracketed k x1 x2 x3 t0 w) ∧
       (t0 = 0 →
        fX10_isSign (40 : Int32) w (fun r18 w18 =>
        ((¬ r18 = 0 →
          fX7_readPart_J100 zX7_readNegated zX7_readBracketed k x1 x2 x3 t0 w18) ∧
         (r18 = 0 →
          fX10_wrong (1 : Int32) w18 (fun r20 w20 =>
          zb01 r20 ∧ k r20 w20))))))))))
set_option maxHeartbeats 4000000 in
set_option maxRecDepth 100000 in
theorem mX7_readPart_J64 {k : Int32 → zW → Prop} {zX7_readNegated : Int32 → zW → (Int32 → zW → Prop) → Prop} {qX7_readNegated : Nat} {zX7_readBracketed : Int32 → zW → (Int32 → zW → Prop) → Prop} {qX7_readBracketed : Nat} {fr : Nat} (X : zCx p s m args meth c cX7_readPart 5 RX7 (some .boolean)) (hr : zRm R fr cells slots) (hQ : zRetZ p l e R s m args below meth c cells slots Q D dA true ad0 al0 ad al cX7_readPart k) (hfr : 6 ≤ fr) (hzX7_readNegated : ∀ (x1 : Int32) (w : zW) (k : Int32 → zW → Prop), zX7_readNegated x1 w k → zmetI l yX7_readNegated cX7_readNegated 2 (some .boolean) qX7_readNegated [.ref (ad 6), .int x1] D dA true ad al w k) (hqzX7_readNegated : qX7_readNegated + 1 ≤ fr) (hzX7_readBracketed : ∀ (x1 : Int32) (w : zW) (k : Int32 → zW → Prop), zX7_readBracketed x1 w k → zmetI l yX7_readBracketed cX7_readBracketed 2 (some .boolean) qX7_readBracketed [.ref (ad 6), .int x1] D dA true ad al w k) (hqzX7_readBracketed : qX7_readBracketed + 1 ≤ fr)  {x1 : Int32} {x2 : Int32} {x3 : Int32} {t0 : Int32} {w : zW} {H : Heap} {locs : List Loc} {ls : Array Slot} (hf : fX7_readPart_J64 zX7_readNegated zX7_readBracketed k x1 x2 x3 t0 w) (hR : zSt D dA true ad0 al0 ad al w s H locs) (hl : lv_has ls 5 [(0, .ref (ad 6)), (1, .int x1), (2, .int x2), (3, .int x3)]) : W p l e R s m args below meth c H locs cells slots Q (F0 m 64 ls [.int t0]) := by
  have hx := X.1
  have hb := X.2.1
  have hml := X.2.2.1
  have hown := X.2.2.2.1
  have hts := X.2.2.2.2.1
  unfold fX7_readPart_J64 at hf
  refine lv_istore (lv' := [(4, .int t0), (0, .ref (ad 6)), (1, .int x1), (2, .int x2), (3, .int x3)]) hx hb dX7_readPart_64 hl (by decide) rfl (fun ls hl => ?_)
  refine lv_iload_n hx hb dX7_readPart_66 rfl (lv_at hl 3 rfl) ?_
  refine lv_if_ne (tgt := 100) hx hb dX7_readPart_67 (by decide) (fun c4 => ?_) (fun c4 => ?_)
  · replace hf := hf.1 c4
    exact mX7_readPart_J100 X hr hQ hfr hzX7_readNegated hqzX7_readNegated hzX7_readBracketed hqzX7_readBracketed  hf hR (lv_sub hl [1, 2, 3, 4, 0] rfl)
  · replace hf := hf.2 c4
    refine lv_iload_n hx hb dX7_readPart_70 rfl (lv_at hl 4 rfl) ?_
    refine lv_if_ne (tgt := 100) hx hb dX7_readPart_71 (by decide) (fun c16 => ?_) (fun c16 => ?_)
    · replace hf := hf.1 c16
      exact mX7_readPart_J100 X hr hQ hfr hzX7_readNegated hqzX7_readNegated hzX7_readBracketed hqzX7_readBracketed  hf hR (lv_sub hl [1, 2, 3, 4, 0] rfl)
    · replace hf := hf.2 c16
      refine lv_iload hx hb dX7_readPart_74 (lv_at hl 0 rfl) ?_
      refine lv_if_ne (tgt := 100) hx hb dX7_readPart_76 (by decide) (fun c17 => ?_) (fun c17 => ?_)
      · replace hf := hf.1 c17
        exact mX7_readPart_J100 X hr hQ hfr hzX7_readNegated hqzX7_readNegated hzX7_readBracketed hqzX7_readBracketed  hf hR (lv_sub hl [1, 2, 3, 4, 0] rfl)
      · replace hf := hf.2 c17
        refine lv_aload_n hx hb dX7_readPart_79 rfl (lv_at hl 1 rfl) ?_
        refine z_getS X hR (zlit hR zf_6) zs_6 (by decide) zfd_X7_18 rfl (r := 2) (by decide +kernel) dX7_readPart_80 ?_
        refine lv_bipush (v := (40 : Int32)) hx hb dX7_readPart_83 (by decide) ?_
        refine z_callVI (fr1 := 0) (b := 2) (As := [.int (40 : Int32)]) (rest := []) X (hr.le (by omega)) hR zy_X10_isSign zq_517 (zlit hR zf_2) (by rw [zs_2]; rfl) rfl (mX10_isSign  hf) rfl hl (Nat.le_of_ble_eq_true rfl) dX7_readPart_85 rfl (fun r18 w18 H locs hf hR => ?_)
        refine lv_if_ne (tgt := 100) hx hb dX7_readPart_88 (by decide) (fun c19 => ?_) (fun c19 => ?_)
        · replace hf := hf.1 c19
          exact mX7_readPart_J100 X hr hQ hfr hzX7_readNegated hqzX7_readNegated hzX7_readBracketed hqzX7_readBracketed  hf hR (lv_sub hl [1, 2, 3, 4, 0] rfl)
        · replace hf := hf.2 c19
          refine lv_aload_n hx hb dX7_readPart_91 rfl (lv_at hl 1 rfl) ?_
          refine z_getS X hR (zlit hR zf_6) zs_6 (by decide) zfd_X7_18 rfl (r := 2) (by decide +kernel) dX7_readPart_92 ?_
          refine lv_iconst (v := (1 : Int32)) hx hb dX7_readPart_95 (by decide) ?_
          refine z_callVI (fr1 := 0) (b := 2) (As := [.int (1 : Int32)]) (rest := []) X (hr.le (by omega)) hR zy_X10_wrong zq_518 (zlit hR zf_2) (by rw [zs_2]; rfl) rfl (mX10_wrong  hf) rfl hl (Nat.le_of_ble_eq_true rfl) dX7_readPart_96 rfl (fun r20 w20 H locs hf hR => ?_)
          obtain ⟨h01, hf⟩ := hf
          exact hQ _ _ _ _ _ _ h01 hf hR dX7_readPart_99
def fX7_readPart_J46 (zX7_readNegated : Int32 → zW → (Int32 → zW → Prop) → Prop) (zX7_readBracketed : Int32 → zW → (Int32 → zW → Prop) → Prop) (k : Int32 → zW → Prop) (x1 : Int32) (x2 : Int32) (t0 : Int32) (w : zW) : Prop :=
  ∀ v3 : Int32, v3 = (if ¬ (gI w 2 5) = (14 : Int32) then (0 : Int32) else (1 : Int32)) →
  fX7_readPart_J64 zX7_readNegated zX7_readBracketed k x1 x2 t0 v3 w
set_option maxHeartbeats 4000000 in
set_option maxRecDepth 100000 in
theorem mX7_readPart_J46 {k : Int32 → zW → Prop} {zX7_readNegated : Int32 → zW → (Int32 → zW → Prop) → Prop} {qX7_readNegated : Nat} {zX7_readBracketed : Int32 → zW → (Int32 → zW → Prop) → Prop} {qX7_readBracketed : Nat} {fr : Nat} (X : zCx p s m args meth c cX7_readPart 5 RX7 (some .boolean)) (hr : zRm R fr cells slots) (hQ : zRetZ p l e R s m args below meth c cells slots Q D dA true ad0 al0 ad al cX7_readPart k) (hfr : 6 ≤ fr) (hzX7_readNegated : ∀ (x1 : Int32) (w : zW) (k : Int32 → zW → Prop), zX7_readNegated x1 w k → zmetI l yX7_readNegated cX7_readNegated 2 (some .boolean) qX7_readNegated [.ref (ad 6), .int x1] D dA true ad al w k) (hqzX7_readNegated : qX7_readNegated + 1 ≤ fr) (hzX7_readBracketed : ∀ (x1 : Int32) (w : zW) (k : Int32 → zW → Prop), zX7_readBracketed x1 w k → zmetI l yX7_readBracketed cX7_readBracketed 2 (some .boolean) qX7_readBracketed [.ref (ad 6), .int x1] D dA true ad al w k) (hqzX7_readBracketed : qX7_readBracketed + 1 ≤ fr)  {x1 : Int32} {x2 : Int32} {t0 : Int32} {w : zW} {H : Heap} {locs : List Loc} {ls : Array Slot} (hf : fX7_readPart_J46 zX7_readNegated zX7_readBracketed k x1 x2 t0 w) (hR : zSt D dA true ad0 al0 ad al w s H locs) (hl : lv_has ls 5 [(0, .ref (ad 6)), (1, .int x1), (2, .int x2)]) : W p l e R s m args below meth c H locs cells slots Q (F0 m 46 ls [.int t0]) := by
  have hx := X.1
  have hb := X.2.1
  have hml := X.2.2.1
  have hown := X.2.2.2.1
  have hts := X.2.2.2.2.1
  unfold fX7_readPart_J46 at hf
  refine lv_istore_n (lv' := [(3, .int t0), (0, .ref (ad 6)), (1, .int x1), (2, .int x2)]) hx hb dX7_readPart_46 rfl hl (by decide) rfl (fun ls hl => ?_)
  refine lv_aload_n hx hb dX7_readPart_47 rfl (lv_at hl 1 rfl) ?_
  refine z_getS X hR (zlit hR zf_6) zs_6 (by decide) zfd_X7_18 rfl (r := 2) (by decide +kernel) dX7_readPart_48 ?_
  refine z_getI X hR (zlit hR zf_2) zs_2 (by decide) zfd_X7_37 rfl dX7_readPart_51 ?_
  refine lv_bipush (v := (14 : Int32)) hx hb dX7_readPart_54 (by decide) ?_
  have kJ3 : ∀ v3 : Int32, v3 = (if ¬ (gI w 2 5) = (14 : Int32) then (0 : Int32) else (1 : Int32)) → W p l e R s m args below meth c H locs cells slots Q (F0 m 64 ls (.int v3 :: [])) := by
    intro v3 hv3
    replace hf := hf v3 hv3
    exact mX7_readPart_J64 X hr hQ hfr hzX7_readNegated hqzX7_readNegated hzX7_readBracketed hqzX7_readBracketed  hf hR (lv_sub hl [1, 2, 3, 0] rfl)
  refine lv_icmp_ne (tgt := 63) hx hb dX7_readPart_56 (by decide) (fun c3 => ?_) (fun c3 => ?_)
  · refine lv_iconst (v := (0 : Int32)) hx hb dX7_readPart_63 (by decide) ?_
    exact kJ3 _ (if_pos c3).symm
  · refine lv_iconst (v := (1 : Int32)) hx hb dX7_readPart_59 (by decide) ?_
    refine lv_goto (tgt := 64) hx hb dX7_readPart_60 (by decide) ?_
    exact kJ3 _ (if_neg (fun h9 => h9 c3)).symm
def fX7_readPart_J16 (zX7_readNegated : Int32 → zW → (Int32 → zW → Prop) → Prop) (zX7_readBracketed : Int32 → zW → (Int32 → zW → Prop) → Prop) (k : Int32 → zW → Prop) (x1 : Int32) (t0 : Int32) (w : zW) : Prop :=
  (((gI w 2 5) < (17 : Int32) →
    fX7_readPart_J46 zX7_readNegated zX7_readBracketed k x1 t0 (0 : Int32) w) ∧
   (¬ (gI w 2 5) < (17 : Int32) →
    ∀ v21 : Int32, v21 = (if (20 : Int32) < (gI w 2 5) then (0 : Int32) else (1 : Int32)) →
    fX7_readPart_J46 zX7_readNegated zX7_readBracketed k x1 t0 v21 w))
set_option maxHeartbeats 4000000 in
set_option maxRecDepth 100000 in
theorem mX7_readPart_J16 {k : Int32 → zW → Prop} {zX7_readNegated : Int32 → zW → (Int32 → zW → Prop) → Prop} {qX7_readNegated : Nat} {zX7_readBracketed : Int32 → zW → (Int32 → zW → Prop) → Prop} {qX7_readBracketed : Nat} {fr : Nat} (X : zCx p s m args meth c cX7_readPart 5 RX7 (some .boolean)) (hr : zRm R fr cells slots) (hQ : zRetZ p l e R s m args below meth c cells slots Q D dA true ad0 al0 ad al cX7_readPart k) (hfr : 6 ≤ fr) (hzX7_readNegated : ∀ (x1 : Int32) (w : zW) (k : Int32 → zW → Prop), zX7_readNegated x1 w k → zmetI l yX7_readNegated cX7_readNegated 2 (some .boolean) qX7_readNegated [.ref (ad 6), .int x1] D dA true ad al w k) (hqzX7_readNegated : qX7_readNegated + 1 ≤ fr) (hzX7_readBracketed : ∀ (x1 : Int32) (w : zW) (k : Int32 → zW → Prop), zX7_readBracketed x1 w k → zmetI l yX7_readBracketed cX7_readBracketed 2 (some .boolean) qX7_readBracketed [.ref (ad 6), .int x1] D dA true ad al w k) (hqzX7_readBracketed : qX7_readBracketed + 1 ≤ fr)  {x1 : Int32} {t0 : Int32} {w : zW} {H : Heap} {locs : List Loc} {ls : Array Slot} (hf : fX7_readPart_J16 zX7_readNegated zX7_readBracketed k x1 t0 w) (hR : zSt D dA true ad0 al0 ad al w s H locs) (hl : lv_has ls 5 [(0, .ref (ad 6)), (1, .int x1)]) : W p l e R s m args below meth c H locs cells slots Q (F0 m 16 ls [.int t0]) := by
  have hx := X.1
  have hb := X.2.1
  have hml := X.2.2.1
  have hown := X.2.2.2.1
  have hts := X.2.2.2.2.1
  unfold fX7_readPart_J16 at hf
  refine lv_istore_n (lv' := [(2, .int t0), (0, .ref (ad 6)), (1, .int x1)]) hx hb dX7_readPart_16 rfl hl (by decide) rfl (fun ls hl => ?_)
  refine lv_aload_n hx hb dX7_readPart_17 rfl (lv_at hl 1 rfl) ?_
  refine z_getS X hR (zlit hR zf_6) zs_6 (by decide) zfd_X7_18 rfl (r := 2) (by decide +kernel) dX7_readPart_18 ?_
  refine z_getI X hR (zlit hR zf_2) zs_2 (by decide) zfd_X7_37 rfl dX7_readPart_21 ?_
  refine lv_bipush (v := (17 : Int32)) hx hb dX7_readPart_24 (by decide) ?_
  refine lv_icmp_lt (tgt := 45) hx hb dX7_readPart_26 (by decide) (fun c2 => ?_) (fun c2 => ?_)
  · replace hf := hf.1 c2
    refine lv_iconst (v := (0 : Int32)) hx hb dX7_readPart_45 (by decide) ?_
    exact mX7_readPart_J46 X hr hQ hfr hzX7_readNegated hqzX7_readNegated hzX7_readBracketed hqzX7_readBracketed  hf hR (lv_sub hl [1, 2, 0] rfl)
  · replace hf := hf.2 c2
    refine lv_aload_n hx hb dX7_readPart_29 rfl (lv_at hl 1 rfl) ?_
    refine z_getS X hR (zlit hR zf_6) zs_6 (by decide) zfd_X7_18 rfl (r := 2) (by decide +kernel) dX7_readPart_30 ?_
    refine z_getI X hR (zlit hR zf_2) zs_2 (by decide) zfd_X7_37 rfl dX7_readPart_33 ?_
    refine lv_bipush (v := (20 : Int32)) hx hb dX7_readPart_36 (by decide) ?_
    have kJ21 : ∀ v21 : Int32, v21 = (if (20 : Int32) < (gI w 2 5) then (0 : Int32) else (1 : Int32)) → W p l e R s m args below meth c H locs cells slots Q (F0 m 46 ls (.int v21 :: [])) := by
      intro v21 hv21
      replace hf := hf v21 hv21
      exact mX7_readPart_J46 X hr hQ hfr hzX7_readNegated hqzX7_readNegated hzX7_readBracketed hqzX7_readBracketed  hf hR (lv_sub hl [1, 2, 0] rfl)
    refine lv_icmp_gt (tgt := 45) hx hb dX7_readPart_38 (by decide) (fun c21 => ?_) (fun c21 => ?_)
    · refine lv_iconst (v := (0 : Int32)) hx hb dX7_readPart_45 (by decide) ?_
      exact kJ21 _ (if_pos c21).symm
    · refine lv_iconst (v := (1 : Int32)) hx hb dX7_readPart_41 (by decide) ?_
      refine lv_goto (tgt := 46) hx hb dX7_readPart_42 (by decide) ?_
      exact kJ21 _ (if_neg c21).symm
def fX7_readPart (zX7_readNegated : Int32 → zW → (Int32 → zW → Prop) → Prop) (zX7_readBracketed : Int32 → zW → (Int32 → zW → Prop) → Prop) (x1 : Int32) (w : zW) (k : Int32 → zW → Prop) : Prop :=
  ∀ v1 : Int32, v1 = (if ¬ (gI w 2 2) = (2 : Int32) then (0 : Int32) else (1 : Int32)) →
  fX7_readPart_J16 zX7_readNegated zX7_readBracketed k x1 v1 w
set_option maxHeartbeats 4000000 in
set_option maxRecDepth 100000 in
theorem mX7_readPart {l : Launch} {D : va_G} {dA : Nat → ClassId} {ad : Nat → Nat} {al : Nat → Prop} {w : zW} {k : Int32 → zW → Prop} {x1 : Int32} {zX7_readNegated : Int32 → zW → (Int32 → zW → Prop) → Prop} {qX7_readNegated : Nat} {zX7_readBracketed : Int32 → zW → (Int32 → zW → Prop) → Prop} {qX7_readBracketed : Nat} {fr : Nat}  (hfr : 6 ≤ fr) (hzX7_readNegated : ∀ (x1 : Int32) (w : zW) (k : Int32 → zW → Prop), zX7_readNegated x1 w k → zmetI l yX7_readNegated cX7_readNegated 2 (some .boolean) qX7_readNegated [.ref (ad 6), .int x1] D dA true ad al w k) (hqzX7_readNegated : qX7_readNegated + 1 ≤ fr) (hzX7_readBracketed : ∀ (x1 : Int32) (w : zW) (k : Int32 → zW → Prop), zX7_readBracketed x1 w k → zmetI l yX7_readBracketed cX7_readBracketed 2 (some .boolean) qX7_readBracketed [.ref (ad 6), .int x1] D dA true ad al w k) (hqzX7_readBracketed : qX7_readBracketed + 1 ≤ fr) (hf : fX7_readPart zX7_readNegated zX7_readBracketed x1 w k) : zmetI l yX7_readPart cX7_readPart 5 (some .boolean) fr [.ref (ad 6), .int x1] D dA true ad al w k := by
  refine zmetZ_of (by decide) (Nat.le_of_ble_eq_true rfl) ?_
  intro p e R s m below meth c Q H ls args locs cells slots X hr hQ hR hl
  have hx := X.1
  have hb := X.2.1
  have hml := X.2.2.1
  have hown := X.2.2.2.1
  have hts := X.2.2.2.2.1
  unfold fX7_readPart at hf
  have hl : lv_has ls 5 [(0, .ref (ad 6)), (1, .int x1)] := hl
  refine lv_aload_n hx hb dX7_readPart_0 rfl (lv_at hl 0 rfl) ?_
  refine z_getS X hR (zlit hR zf_6) zs_6 (by decide) zfd_X7_18 rfl (r := 2) (by decide +kernel) dX7_readPart_1 ?_
  refine z_getI X hR (zlit hR zf_2) zs_2 (by decide) zfd_X7_56 rfl dX7_readPart_4 ?_
  refine lv_iconst (v := (2 : Int32)) hx hb dX7_readPart_7 (by decide) ?_
  have kJ1 : ∀ v1 : Int32, v1 = (if ¬ (gI w 2 2) = (2 : Int32) then (0 : Int32) else (1 : Int32)) → W p l e R s m args below meth c H locs cells slots Q (F0 m 16 ls (.int v1 :: [])) := by
    intro v1 hv1
    replace hf := hf v1 hv1
    exact mX7_readPart_J16 X hr hQ hfr hzX7_readNegated hqzX7_readNegated hzX7_readBracketed hqzX7_readBracketed  hf hR (lv_sub hl [0, 1] rfl)
  refine lv_icmp_ne (tgt := 15) hx hb dX7_readPart_8 (by decide) (fun c1 => ?_) (fun c1 => ?_)
  · refine lv_iconst (v := (0 : Int32)) hx hb dX7_readPart_15 (by decide) ?_
    exact kJ1 _ (if_pos c1).symm
  · refine lv_iconst (v := (1 : Int32)) hx hb dX7_readPart_11 (by decide) ?_
    refine lv_goto (tgt := 16) hx hb dX7_readPart_12 (by decide) ?_
    exact kJ1 _ (if_neg (fun h9 => h9 c1)).symm
/-! X7_readNegated -/
def fX7_readNegated (zX7_readPart : Int32 → zW → (Int32 → zW → Prop) → Prop) (x1 : Int32) (w : zW) (k : Int32 → zW → Prop) : Prop :=
  zX7_readPart x1 w (fun r1 w1 =>
  ((¬ r1 = 0 →
    fX7_addStep (-5 : Int32) w1 (fun w3 =>
    k (1 : Int32) w3)) ∧
   (r1 = 0 →
    k (0 : Int32) w1)))
set_option maxHeartbeats 4000000 in
set_option maxRecDepth 100000 in
theorem mX7_readNegated {l : Launch} {D : va_G} {dA : Nat → ClassId} {ad : Nat → Nat} {al : Nat → Prop} {w : zW} {k : Int32 → zW → Prop} {x1 : Int32} {zX7_readPart : Int32 → zW → (Int32 → zW → Prop) → Prop} {qX7_readPart : Nat} {fr : Nat}  (hfr : 1 ≤ fr) (hzX7_readPart : ∀ (x1 : Int32) (w : zW) (k : Int32 → zW → Prop), zX7_readPart x1 w k → zmetI l yX7_readPart cX7_readPart 5 (some .boolean) qX7_readPart [.ref (ad 6), .int x1] D dA true ad al w k) (hqzX7_readPart : qX7_readPart + 1 ≤ fr) (hf : fX7_readNegated zX7_readPart x1 w k) : zmetI l yX7_readNegated cX7_readNegated 2 (some .boolean) fr [.ref (ad 6), .int x1] D dA true ad al w k := by
  refine zmetZ_of (by decide) (Nat.le_of_ble_eq_true rfl) ?_
  intro p e R s m below meth c Q H ls args locs cells slots X hr hQ hR hl
  have hx := X.1
  have hb := X.2.1
  have hml := X.2.2.1
  have hown := X.2.2.2.1
  have hts := X.2.2.2.2.1
  unfold fX7_readNegated at hf
  have hl : lv_has ls 2 [(0, .ref (ad 6)), (1, .int x1)] := hl
  refine lv_aload_n hx hb dX7_readNegated_0 rfl (lv_at hl 0 rfl) ?_
  refine lv_iload_n hx hb dX7_readNegated_1 rfl (lv_at hl 1 rfl) ?_
  refine z_callVI (fr1 := qX7_readPart) (b := 6) (As := [.int x1]) (rest := []) X (hr.le (by omega)) hR zy_X7_readPart zq_520 (zlit hR zf_6) (by rw [zs_6]; rfl) rfl (hzX7_readPart _ _ _ hf) rfl hl (Nat.le_of_ble_eq_true rfl) dX7_readNegated_2 rfl (fun r1 w1 H locs hf hR => ?_)
  refine lv_if_ne (tgt := 10) hx hb dX7_readNegated_5 (by decide) (fun c2 => ?_) (fun c2 => ?_)
  · replace hf := hf.1 c2
    refine lv_aload_n hx hb dX7_readNegated_10 rfl (lv_at hl 0 rfl) ?_
    refine lv_bipush (v := (-5 : Int32)) hx hb dX7_readNegated_11 (by decide) ?_
    refine z_callVV (fr1 := 0) (b := 6) (As := [.int (-5 : Int32)]) (rest := []) X (hr.le (by omega)) hR zy_X7_addStep zq_283 (zlit hR zf_6) (by rw [zs_6]; rfl) rfl (mX7_addStep  hf) rfl hl (Nat.le_of_ble_eq_true rfl) dX7_readNegated_13 rfl (fun w3 H locs hf hR => ?_)
    refine lv_iconst (v := (1 : Int32)) hx hb dX7_readNegated_16 (by decide) ?_
    exact hQ _ _ _ _ _ _ zb01_1 hf hR dX7_readNegated_17
  · replace hf := hf.2 c2
    refine lv_iconst (v := (0 : Int32)) hx hb dX7_readNegated_8 (by decide) ?_
    exact hQ _ _ _ _ _ _ zb01_0 hf hR dX7_readNegated_9
/-! X7_readProduct -/
def fX7_readProduct_L12 (zX7_readPart : Int32 → zW → (Int32 → zW → Prop) → Prop) (k : Int32 → zW → Prop) : Nat → Int32 → Int32 → zW → Prop
  | 0 => fun _ _ _ => False
  | n + 1 => fun x1 x2 w =>
    (((1000 : Int32) ≤ x2 →
      k (1 : Int32) w) ∧
     (¬ (1000 : Int32) ≤ x2 →
      fX10_isSign (42 : Int32) w (fun r4 w4 =>
      ((r4 = 0 →
        k (1 : Int32) w4) ∧
       (¬ r4 = 0 →
        fX10_next  w4 (fun w6 =>
        zX7_readPart x1 w6 (fun r7 w7 =>
        ((¬ r7 = 0 →
          fX7_addStep (-12 : Int32) w7 (fun w9 =>
          fX7_readProduct_L12 zX7_readPart k n x1 (x2 + (1 : Int32)) w9)) ∧
         (r7 = 0 →
          k (0 : Int32) w7)))))))))
set_option maxHeartbeats 4000000 in
set_option maxRecDepth 100000 in
theorem mX7_readProduct_L12 {k : Int32 → zW → Prop} {zX7_readPart : Int32 → zW → (Int32 → zW → Prop) → Prop} {qX7_readPart : Nat} {fr : Nat} (X : zCx p s m args meth c cX7_readProduct 3 RX7 (some .boolean)) (hr : zRm R fr cells slots) (hQ : zRetZ p l e R s m args below meth c cells slots Q D dA true ad0 al0 ad al cX7_readProduct k) (hfr : 6 ≤ fr) (hzX7_readPart : ∀ (x1 : Int32) (w : zW) (k : Int32 → zW → Prop), zX7_readPart x1 w k → zmetI l yX7_readPart cX7_readPart 5 (some .boolean) qX7_readPart [.ref (ad 6), .int x1] D dA true ad al w k) (hqzX7_readPart : qX7_readPart + 1 ≤ fr)  : ∀ (n : Nat) (x1 : Int32) (x2 : Int32) (w : zW) (H : Heap) (locs : List Loc) (ls : Array Slot), fX7_readProduct_L12 zX7_readPart k n x1 x2 w → zSt D dA true ad0 al0 ad al w s H locs → lv_has ls 3 [(0, .ref (ad 6)), (1, .int x1), (2, .int x2)] → W p l e R s m args below meth c H locs cells slots Q (F0 m 12 ls []) := by
  intro n
  induction n with
  | zero => exact fun _ _ _ _ _ _ hf => hf.elim
  | succ n ih =>
    intro x1 x2 w H locs ls hf hR hl
    have hx := X.1
    have hb := X.2.1
    have hml := X.2.2.1
    have hown := X.2.2.2.1
    have hts := X.2.2.2.2.1
    rw [fX7_readProduct_L12] at hf
    refine lv_iload_n hx hb dX7_readProduct_12 rfl (lv_at hl 2 rfl) ?_
    refine lv_sipush (v := (1000 : Int32)) hx hb dX7_readProduct_13 (by decide) ?_
    refine lv_icmp_ge (tgt := 60) hx hb dX7_readProduct_16 (by decide) (fun c3 => ?_) (fun c3 => ?_)
    · replace hf := hf.1 c3
      refine lv_iconst (v := (1 : Int32)) hx hb dX7_readProduct_60 (by decide) ?_
      exact hQ _ _ _ _ _ _ zb01_1 hf hR dX7_readProduct_61
    · replace hf := hf.2 c3
      refine lv_aload_n hx hb dX7_readProduct_19 rfl (lv_at hl 0 rfl) ?_
      refine z_getS X hR (zlit hR zf_6) zs_6 (by decide) zfd_X7_18 rfl (r := 2) (by decide +kernel) dX7_readProduct_20 ?_
      refine lv_bipush (v := (42 : Int32)) hx hb dX7_readProduct_23 (by decide) ?_
      refine z_callVI (fr1 := 0) (b := 2) (As := [.int (42 : Int32)]) (rest := []) X (hr.le (by omega)) hR zy_X10_isSign zq_517 (zlit hR zf_2) (by rw [zs_2]; rfl) rfl (mX10_isSign  hf) rfl hl (Nat.le_of_ble_eq_true rfl) dX7_readProduct_25 rfl (fun r4 w4 H locs hf hR => ?_)
      refine lv_if_eq (tgt := 60) hx hb dX7_readProduct_28 (by decide) (fun c5 => ?_) (fun c5 => ?_)
      · replace hf := hf.1 c5
        refine lv_iconst (v := (1 : Int32)) hx hb dX7_readProduct_60 (by decide) ?_
        exact hQ _ _ _ _ _ _ zb01_1 hf hR dX7_readProduct_61
      · replace hf := hf.2 c5
        refine lv_aload_n hx hb dX7_readProduct_31 rfl (lv_at hl 0 rfl) ?_
        refine z_getS X hR (zlit hR zf_6) zs_6 (by decide) zfd_X7_18 rfl (r := 2) (by decide +kernel) dX7_readProduct_32 ?_
        refine z_callVV (fr1 := 5) (b := 2) (As := []) (rest := []) X (hr.le (by omega)) hR zy_X10_next zq_515 (zlit hR zf_2) (by rw [zs_2]; rfl) rfl (mX10_next  hf) rfl hl (Nat.le_of_ble_eq_true rfl) dX7_readProduct_35 rfl (fun w6 H locs hf hR => ?_)
        refine lv_aload_n hx hb dX7_readProduct_38 rfl (lv_at hl 0 rfl) ?_
        refine lv_iload_n hx hb dX7_readProduct_39 rfl (lv_at hl 1 rfl) ?_
        refine z_callVI (fr1 := qX7_readPart) (b := 6) (As := [.int x1]) (rest := []) X (hr.le (by omega)) hR zy_X7_readPart zq_520 (zlit hR zf_6) (by rw [zs_6]; rfl) rfl (hzX7_readPart _ _ _ hf) rfl hl (Nat.le_of_ble_eq_true rfl) dX7_readProduct_40 rfl (fun r7 w7 H locs hf hR => ?_)
        refine lv_if_ne (tgt := 48) hx hb dX7_readProduct_43 (by decide) (fun c8 => ?_) (fun c8 => ?_)
        · replace hf := hf.1 c8
          refine lv_aload_n hx hb dX7_readProduct_48 rfl (lv_at hl 0 rfl) ?_
          refine lv_bipush (v := (-12 : Int32)) hx hb dX7_readProduct_49 (by decide) ?_
          refine z_callVV (fr1 := 0) (b := 6) (As := [.int (-12 : Int32)]) (rest := []) X (hr.le (by omega)) hR zy_X7_addStep zq_283 (zlit hR zf_6) (by rw [zs_6]; rfl) rfl (mX7_addStep  hf) rfl hl (Nat.le_of_ble_eq_true rfl) dX7_readProduct_51 rfl (fun w9 H locs hf hR => ?_)
          refine lv_iinc (v := x2 + (1 : Int32)) (lv' := [(2, .int (x2 + (1 : Int32))), (0, .ref (ad 6)), (1, .int x1)]) hx hb dX7_readProduct_54 hl (k := 2) rfl rfl (by decide) rfl (fun ls hl => ?_)
          refine lv_goto (tgt := 12) hx hb dX7_readProduct_57 (by decide) ?_
          exact ih x1 (x2 + (1 : Int32)) w9 _ _ _ hf hR (lv_sub hl [1, 2, 0] rfl)
        · replace hf := hf.2 c8
          refine lv_iconst (v := (0 : Int32)) hx hb dX7_readProduct_46 (by decide) ?_
          exact hQ _ _ _ _ _ _ zb01_0 hf hR dX7_readProduct_47
def fX7_readProduct (zX7_readPart : Int32 → zW → (Int32 → zW → Prop) → Prop) (x1 : Int32) (w : zW) (k : Int32 → zW → Prop) : Prop :=
  zX7_readPart x1 w (fun r1 w1 =>
  ((¬ r1 = 0 →
    ∃ n9, fX7_readProduct_L12 zX7_readPart k n9 x1 (0 : Int32) w1) ∧
   (r1 = 0 →
    k (0 : Int32) w1)))
set_option maxHeartbeats 4000000 in
set_option maxRecDepth 100000 in
theorem mX7_readProduct {l : Launch} {D : va_G} {dA : Nat → ClassId} {ad : Nat → Nat} {al : Nat → Prop} {w : zW} {k : Int32 → zW → Prop} {x1 : Int32} {zX7_readPart : Int32 → zW → (Int32 → zW → Prop) → Prop} {qX7_readPart : Nat} {fr : Nat}  (hfr : 6 ≤ fr) (hzX7_readPart : ∀ (x1 : Int32) (w : zW) (k : Int32 → zW → Prop), zX7_readPart x1 w k → zmetI l yX7_readPart cX7_readPart 5 (some .boolean) qX7_readPart [.ref (ad 6), .int x1] D dA true ad al w k) (hqzX7_readPart : qX7_readPart + 1 ≤ fr) (hf : fX7_readProduct zX7_readPart x1 w k) : zmetI l yX7_readProduct cX7_readProduct 3 (some .boolean) fr [.ref (ad 6), .int x1] D dA true ad al w k := by
  refine zmetZ_of (by decide) (Nat.le_of_ble_eq_true rfl) ?_
  intro p e R s m below meth c Q H ls args locs cells slots X hr hQ hR hl
  have hx := X.1
  have hb := X.2.1
  have hml := X.2.2.1
  have hown := X.2.2.2.1
  have hts := X.2.2.2.2.1
  unfold fX7_readProduct at hf
  have hl : lv_has ls 3 [(0, .ref (ad 6)), (1, .int x1)] := hl
  refine lv_aload_n hx hb dX7_readProduct_0 rfl (lv_at hl 0 rfl) ?_
  refine lv_iload_n hx hb dX7_readProduct_1 rfl (lv_at hl 1 rfl) ?_
  refine z_callVI (fr1 := qX7_readPart) (b := 6) (As := [.int x1]) (rest := []) X (hr.le (by omega)) hR zy_X7_readPart zq_520 (zlit hR zf_6) (by rw [zs_6]; rfl) rfl (hzX7_readPart _ _ _ hf) rfl hl (Nat.le_of_ble_eq_true rfl) dX7_readProduct_2 rfl (fun r1 w1 H locs hf hR => ?_)
  refine lv_if_ne (tgt := 10) hx hb dX7_readProduct_5 (by decide) (fun c2 => ?_) (fun c2 => ?_)
  · replace hf := hf.1 c2
    refine lv_iconst (v := (0 : Int32)) hx hb dX7_readProduct_10 (by decide) ?_
    refine lv_istore_n (lv' := [(2, .int (0 : Int32)), (0, .ref (ad 6)), (1, .int x1)]) hx hb dX7_readProduct_11 rfl hl (by decide) rfl (fun ls hl => ?_)
    obtain ⟨n9, hf⟩ := hf
    exact mX7_readProduct_L12 X hr hQ hfr hzX7_readPart hqzX7_readPart  n9 x1 (0 : Int32) w1 _ _ _ hf hR (lv_sub hl [1, 2, 0] rfl)
  · replace hf := hf.2 c2
    refine lv_iconst (v := (0 : Int32)) hx hb dX7_readProduct_8 (by decide) ?_
    exact hQ _ _ _ _ _ _ zb01_0 hf hR dX7_readProduct_9
/-! X7_readSum -/
def fX7_readSum_J76 (zX7_readProduct : Int32 → zW → (Int32 → zW → Prop) → Prop) (k : Int32 → zW → Prop) (g12 : Int32 → Int32 → zW → Prop) (x1 : Int32) (x2 : Int32) (t0 : Int32) (w : zW) : Prop :=
  fX7_addStep t0 w (fun w10 =>
  g12 x1 (x2 + (1 : Int32)) w10)
set_option maxHeartbeats 4000000 in
set_option maxRecDepth 100000 in
theorem mX7_readSum_J76 {k : Int32 → zW → Prop} {g12 : Int32 → Int32 → zW → Prop} {zX7_readProduct : Int32 → zW → (Int32 → zW → Prop) → Prop} {qX7_readProduct : Nat} {fr : Nat} (X : zCx p s m args meth c cX7_readSum 4 RX7 (some .boolean)) (hr : zRm R fr cells slots) (hQ : zRetZ p l e R s m args below meth c cells slots Q D dA true ad0 al0 ad al cX7_readSum k) (hfr : 6 ≤ fr) (hzX7_readProduct : ∀ (x1 : Int32) (w : zW) (k : Int32 → zW → Prop), zX7_readProduct x1 w k → zmetI l yX7_readProduct cX7_readProduct 3 (some .boolean) qX7_readProduct [.ref (ad 6), .int x1] D dA true ad al w k) (hqzX7_readProduct : qX7_readProduct + 1 ≤ fr) (hg12 : ∀ (x1 : Int32) (x2 : Int32) (w : zW) (H : Heap) (locs : List Loc) (ls : Array Slot), g12 x1 x2 w → zSt D dA true ad0 al0 ad al w s H locs → lv_has ls 4 [(0, .ref (ad 6)), (1, .int x1), (2, .int x2)] → W p l e R s m args below meth c H locs cells slots Q (F0 m 12 ls [])) {x1 : Int32} {x2 : Int32} {t0 : Int32} {w : zW} {H : Heap} {locs : List Loc} {ls : Array Slot} (hf : fX7_readSum_J76 zX7_readProduct k g12 x1 x2 t0 w) (hR : zSt D dA true ad0 al0 ad al w s H locs) (hl : lv_has ls 4 [(0, .ref (ad 6)), (1, .int x1), (2, .int x2)]) : W p l e R s m args below meth c H locs cells slots Q (F0 m 76 ls [.int t0, .ref (ad 6)]) := by
  have hx := X.1
  have hb := X.2.1
  have hml := X.2.2.1
  have hown := X.2.2.2.1
  have hts := X.2.2.2.2.1
  unfold fX7_readSum_J76 at hf
  refine z_callVV (fr1 := 0) (b := 6) (As := [.int t0]) (rest := []) X (hr.le (by omega)) hR zy_X7_addStep zq_283 (zlit hR zf_6) (by rw [zs_6]; rfl) rfl (mX7_addStep  hf) rfl hl (Nat.le_of_ble_eq_true rfl) dX7_readSum_76 rfl (fun w10 H locs hf hR => ?_)
  refine lv_iinc (v := x2 + (1 : Int32)) (lv' := [(2, .int (x2 + (1 : Int32))), (0, .ref (ad 6)), (1, .int x1)]) hx hb dX7_readSum_79 hl (k := 2) rfl rfl (by decide) rfl (fun ls hl => ?_)
  refine lv_goto (tgt := 12) hx hb dX7_readSum_82 (by decide) ?_
  exact hg12 x1 (x2 + (1 : Int32)) w10 _ _ _ hf hR (lv_sub hl [1, 2, 0] rfl)
def fX7_readSum_J47 (zX7_readProduct : Int32 → zW → (Int32 → zW → Prop) → Prop) (k : Int32 → zW → Prop) (g12 : Int32 → Int32 → zW → Prop) (x1 : Int32) (x2 : Int32) (x3 : Int32) (w : zW) : Prop :=
  fX10_next  w (fun w6 =>
  zX7_readProduct x1 w6 (fun r7 w7 =>
  ((¬ r7 = 0 →
    ∀ v9 : Int32, v9 = (if x3 = 0 then (-11 : Int32) else (-10 : Int32)) →
    fX7_readSum_J76 zX7_readProduct k g12 x1 x2 v9 w7) ∧
   (r7 = 0 →
    k (0 : Int32) w7))))
set_option maxHeartbeats 4000000 in
set_option maxRecDepth 100000 in
theorem mX7_readSum_J47 {k : Int32 → zW → Prop} {g12 : Int32 → Int32 → zW → Prop} {zX7_readProduct : Int32 → zW → (Int32 → zW → Prop) → Prop} {qX7_readProduct : Nat} {fr : Nat} (X : zCx p s m args meth c cX7_readSum 4 RX7 (some .boolean)) (hr : zRm R fr cells slots) (hQ : zRetZ p l e R s m args below meth c cells slots Q D dA true ad0 al0 ad al cX7_readSum k) (hfr : 6 ≤ fr) (hzX7_readProduct : ∀ (x1 : Int32) (w : zW) (k : Int32 → zW → Prop), zX7_readProduct x1 w k → zmetI l yX7_readProduct cX7_readProduct 3 (some .boolean) qX7_readProduct [.ref (ad 6), .int x1] D dA true ad al w k) (hqzX7_readProduct : qX7_readProduct + 1 ≤ fr) (hg12 : ∀ (x1 : Int32) (x2 : Int32) (w : zW) (H : Heap) (locs : List Loc) (ls : Array Slot), g12 x1 x2 w → zSt D dA true ad0 al0 ad al w s H locs → lv_has ls 4 [(0, .ref (ad 6)), (1, .int x1), (2, .int x2)] → W p l e R s m args below meth c H locs cells slots Q (F0 m 12 ls [])) {x1 : Int32} {x2 : Int32} {x3 : Int32} {w : zW} {H : Heap} {locs : List Loc} {ls : Array Slot} (hf : fX7_readSum_J47 zX7_readProduct k g12 x1 x2 x3 w) (hR : zSt D dA true ad0 al0 ad al w s H locs) (hl : lv_has ls 4 [(0, .ref (ad 6)), (1, .int x1), (2, .int x2), (3, .int x3)]) : W p l e R s m args below meth c H locs cells slots Q (F0 m 47 ls []) := by
  have hx := X.1
  have hb := X.2.1
  have hml := X.2.2.1
  have hown := X.2.2.2.1
  have hts := X.2.2.2.2.1
  unfold fX7_readSum_J47 at hf
  refine lv_aload_n hx hb dX7_readSum_47 rfl (lv_at hl 0 rfl) ?_
  refine z_getS X hR (zlit hR zf_6) zs_6 (by decide) zfd_X7_18 rfl (r := 2) (by decide +kernel) dX7_readSum_48 ?_
  refine z_callVV (fr1 := 5) (b := 2) (As := []) (rest := []) X (hr.le (by omega)) hR zy_X10_next zq_515 (zlit hR zf_2) (by rw [zs_2]; rfl) rfl (mX10_next  hf) rfl hl (Nat.le_of_ble_eq_true rfl) dX7_readSum_51 rfl (fun w6 H locs hf hR => ?_)
  refine lv_aload_n hx hb dX7_readSum_54 rfl (lv_at hl 0 rfl) ?_
  refine lv_iload_n hx hb dX7_readSum_55 rfl (lv_at hl 1 rfl) ?_
  refine z_callVI (fr1 := qX7_readProduct) (b := 6) (As := [.int x1]) (rest := []) X (hr.le (by omega)) hR zy_X7_readProduct zq_534 (zlit hR zf_6) (by rw [zs_6]; rfl) rfl (hzX7_readProduct _ _ _ hf) rfl hl (Nat.le_of_ble_eq_true rfl) dX7_readSum_56 rfl (fun r7 w7 H locs hf hR => ?_)
  refine lv_if_ne (tgt := 64) hx hb dX7_readSum_59 (by decide) (fun c8 => ?_) (fun c8 => ?_)
  · replace hf := hf.1 c8
    refine lv_aload_n hx hb dX7_readSum_64 rfl (lv_at hl 0 rfl) ?_
    refine lv_iload_n hx hb dX7_readSum_65 rfl (lv_at hl 3 rfl) ?_
    have kJ9 : ∀ v9 : Int32, v9 = (if x3 = 0 then (-11 : Int32) else (-10 : Int32)) → W p l e R s m args below meth c H locs cells slots Q (F0 m 76 ls (.int v9 :: .ref (ad 6) :: [])) := by
      intro v9 hv9
      replace hf := hf v9 hv9
      exact mX7_readSum_J76 X hr hQ hfr hzX7_readProduct hqzX7_readProduct hg12 hf hR (lv_sub hl [0, 1, 2] rfl)
    refine lv_if_eq (tgt := 74) hx hb dX7_readSum_66 (by decide) (fun c9 => ?_) (fun c9 => ?_)
    · refine lv_bipush (v := (-11 : Int32)) hx hb dX7_readSum_74 (by decide) ?_
      exact kJ9 _ (if_pos c9).symm
    · refine lv_bipush (v := (-10 : Int32)) hx hb dX7_readSum_69 (by decide) ?_
      refine lv_goto (tgt := 76) hx hb dX7_readSum_71 (by decide) ?_
      exact kJ9 _ (if_neg c9).symm
  · replace hf := hf.2 c8
    refine lv_iconst (v := (0 : Int32)) hx hb dX7_readSum_62 (by decide) ?_
    exact hQ _ _ _ _ _ _ zb01_0 hf hR dX7_readSum_63
def fX7_readSum_L12 (zX7_readProduct : Int32 → zW → (Int32 → zW → Prop) → Prop) (k : Int32 → zW → Prop) : Nat → Int32 → Int32 → zW → Prop
  | 0 => fun _ _ _ => False
  | n + 1 => fun x1 x2 w =>
    (((1000 : Int32) ≤ x2 →
      k (1 : Int32) w) ∧
     (¬ (1000 : Int32) ≤ x2 →
      fX10_isSign (43 : Int32) w (fun r4 w4 =>
      ((¬ r4 = 0 →
        fX7_readSum_J47 zX7_readProduct k (fX7_readSum_L12 zX7_readProduct k n) x1 x2 r4 w4) ∧
       (r4 = 0 →
        fX10_isSign (45 : Int32) w4 (fun r11 w11 =>
        ((¬ r11 = 0 →
          fX7_readSum_J47 zX7_readProduct k (fX7_readSum_L12 zX7_readProduct k n) x1 x2 r4 w11) ∧
         (r11 = 0 →
          k (1 : Int32) w11))))))))
set_option maxHeartbeats 4000000 in
set_option maxRecDepth 100000 in
theorem mX7_readSum_L12 {k : Int32 → zW → Prop} {zX7_readProduct : Int32 → zW → (Int32 → zW → Prop) → Prop} {qX7_readProduct : Nat} {fr : Nat} (X : zCx p s m args meth c cX7_readSum 4 RX7 (some .boolean)) (hr : zRm R fr cells slots) (hQ : zRetZ p l e R s m args below meth c cells slots Q D dA true ad0 al0 ad al cX7_readSum k) (hfr : 6 ≤ fr) (hzX7_readProduct : ∀ (x1 : Int32) (w : zW) (k : Int32 → zW → Prop), zX7_readProduct x1 w k → zmetI l yX7_readProduct cX7_readProduct 3 (some .boolean) qX7_readProduct [.ref (ad 6), .int x1] D dA true ad al w k) (hqzX7_readProduct : qX7_readProduct + 1 ≤ fr)  : ∀ (n : Nat) (x1 : Int32) (x2 : Int32) (w : zW) (H : Heap) (locs : List Loc) (ls : Array Slot), fX7_readSum_L12 zX7_readProduct k n x1 x2 w → zSt D dA true ad0 al0 ad al w s H locs → lv_has ls 4 [(0, .ref (ad 6)), (1, .int x1), (2, .int x2)] → W p l e R s m args below meth c H locs cells slots Q (F0 m 12 ls []) := by
  intro n
  induction n with
  | zero => exact fun _ _ _ _ _ _ hf => hf.elim
  | succ n ih =>
    intro x1 x2 w H locs ls hf hR hl
    have hx := X.1
    have hb := X.2.1
    have hml := X.2.2.1
    have hown := X.2.2.2.1
    have hts := X.2.2.2.2.1
    rw [fX7_readSum_L12] at hf
    refine lv_iload_n hx hb dX7_readSum_12 rfl (lv_at hl 2 rfl) ?_
    refine lv_sipush (v := (1000 : Int32)) hx hb dX7_readSum_13 (by decide) ?_
    refine lv_icmp_ge (tgt := 85) hx hb dX7_readSum_16 (by decide) (fun c3 => ?_) (fun c3 => ?_)
    · replace hf := hf.1 c3
      refine lv_iconst (v := (1 : Int32)) hx hb dX7_readSum_85 (by decide) ?_
      exact hQ _ _ _ _ _ _ zb01_1 hf hR dX7_readSum_86
    · replace hf := hf.2 c3
      refine lv_aload_n hx hb dX7_readSum_19 rfl (lv_at hl 0 rfl) ?_
      refine z_getS X hR (zlit hR zf_6) zs_6 (by decide) zfd_X7_18 rfl (r := 2) (by decide +kernel) dX7_readSum_20 ?_
      refine lv_bipush (v := (43 : Int32)) hx hb dX7_readSum_23 (by decide) ?_
      refine z_callVI (fr1 := 0) (b := 2) (As := [.int (43 : Int32)]) (rest := []) X (hr.le (by omega)) hR zy_X10_isSign zq_517 (zlit hR zf_2) (by rw [zs_2]; rfl) rfl (mX10_isSign  hf) rfl hl (Nat.le_of_ble_eq_true rfl) dX7_readSum_25 rfl (fun r4 w4 H locs hf hR => ?_)
      refine lv_istore_n (lv' := [(3, .int r4), (0, .ref (ad 6)), (1, .int x1), (2, .int x2)]) hx hb dX7_readSum_28 rfl hl (by decide) rfl (fun ls hl => ?_)
      refine lv_iload_n hx hb dX7_readSum_29 rfl (lv_at hl 0 rfl) ?_
      refine lv_if_ne (tgt := 47) hx hb dX7_readSum_30 (by decide) (fun c5 => ?_) (fun c5 => ?_)
      · replace hf := hf.1 c5
        exact mX7_readSum_J47 X hr hQ hfr hzX7_readProduct hqzX7_readProduct ih hf hR (lv_sub hl [1, 2, 3, 0] rfl)
      · replace hf := hf.2 c5
        refine lv_aload_n hx hb dX7_readSum_33 rfl (lv_at hl 1 rfl) ?_
        refine z_getS X hR (zlit hR zf_6) zs_6 (by decide) zfd_X7_18 rfl (r := 2) (by decide +kernel) dX7_readSum_34 ?_
        refine lv_bipush (v := (45 : Int32)) hx hb dX7_readSum_37 (by decide) ?_
        refine z_callVI (fr1 := 0) (b := 2) (As := [.int (45 : Int32)]) (rest := []) X (hr.le (by omega)) hR zy_X10_isSign zq_517 (zlit hR zf_2) (by rw [zs_2]; rfl) rfl (mX10_isSign  hf) rfl hl (Nat.le_of_ble_eq_true rfl) dX7_readSum_39 rfl (fun r11 w11 H locs hf hR => ?_)
        refine lv_if_ne (tgt := 47) hx hb dX7_readSum_42 (by decide) (fun c12 => ?_) (fun c12 => ?_)
        · replace hf := hf.1 c12
          exact mX7_readSum_J47 X hr hQ hfr hzX7_readProduct hqzX7_readProduct ih hf hR (lv_sub hl [1, 2, 3, 0] rfl)
        · replace hf := hf.2 c12
          refine lv_iconst (v := (1 : Int32)) hx hb dX7_readSum_45 (by decide) ?_
          exact hQ _ _ _ _ _ _ zb01_1 hf hR dX7_readSum_46
def fX7_readSum (zX7_readProduct : Int32 → zW → (Int32 → zW → Prop) → Prop) (x1 : Int32) (w : zW) (k : Int32 → zW → Prop) : Prop :=
  zX7_readProduct x1 w (fun r1 w1 =>
  ((¬ r1 = 0 →
    ∃ n9, fX7_readSum_L12 zX7_readProduct k n9 x1 (0 : Int32) w1) ∧
   (r1 = 0 →
    k (0 : Int32) w1)))
set_option maxHeartbeats 4000000 in
set_option maxRecDepth 100000 in
theorem mX7_readSum {l : Launch} {D : va_G} {dA : Nat → ClassId} {ad : Nat → Nat} {al : Nat → Prop} {w : zW} {k : Int32 → zW → Prop} {x1 : Int32} {zX7_readProduct : Int32 → zW → (Int32 → zW → Prop) → Prop} {qX7_readProduct : Nat} {fr : Nat}  (hfr : 6 ≤ fr) (hzX7_readProduct : ∀ (x1 : Int32) (w : zW) (k : Int32 → zW → Prop), zX7_readProduct x1 w k → zmetI l yX7_readProduct cX7_readProduct 3 (some .boolean) qX7_readProduct [.ref (ad 6), .int x1] D dA true ad al w k) (hqzX7_readProduct : qX7_readProduct + 1 ≤ fr) (hf : fX7_readSum zX7_readProduct x1 w k) : zmetI l yX7_readSum cX7_readSum 4 (some .boolean) fr [.ref (ad 6), .int x1] D dA true ad al w k := by
  refine zmetZ_of (by decide) (Nat.le_of_ble_eq_true rfl) ?_
  intro p e R s m below meth c Q H ls args locs cells slots X hr hQ hR hl
  have hx := X.1
  have hb := X.2.1
  have hml := X.2.2.1
  have hown := X.2.2.2.1
  have hts := X.2.2.2.2.1
  unfold fX7_readSum at hf
  have hl : lv_has ls 4 [(0, .ref (ad 6)), (1, .int x1)] := hl
  refine lv_aload_n hx hb dX7_readSum_0 rfl (lv_at hl 0 rfl) ?_
  refine lv_iload_n hx hb dX7_readSum_1 rfl (lv_at hl 1 rfl) ?_
  refine z_callVI (fr1 := qX7_readProduct) (b := 6) (As := [.int x1]) (rest := []) X (hr.le (by omega)) hR zy_X7_readProduct zq_534 (zlit hR zf_6) (by rw [zs_6]; rfl) rfl (hzX7_readProduct _ _ _ hf) rfl hl (Nat.le_of_ble_eq_true rfl) dX7_readSum_2 rfl (fun r1 w1 H locs hf hR => ?_)
  refine lv_if_ne (tgt := 10) hx hb dX7_readSum_5 (by decide) (fun c2 => ?_) (fun c2 => ?_)
  · replace hf := hf.1 c2
    refine lv_iconst (v := (0 : Int32)) hx hb dX7_readSum_10 (by decide) ?_
    refine lv_istore_n (lv' := [(2, .int (0 : Int32)), (0, .ref (ad 6)), (1, .int x1)]) hx hb dX7_readSum_11 rfl hl (by decide) rfl (fun ls hl => ?_)
    obtain ⟨n9, hf⟩ := hf
    exact mX7_readSum_L12 X hr hQ hfr hzX7_readProduct hqzX7_readProduct  n9 x1 (0 : Int32) w1 _ _ _ hf hR (lv_sub hl [1, 2, 0] rfl)
  · replace hf := hf.2 c2
    refine lv_iconst (v := (0 : Int32)) hx hb dX7_readSum_8 (by decide) ?_
    exact hQ _ _ _ _ _ _ zb01_0 hf hR dX7_readSum_9
/-! X7_readTest -/
def fX7_readTest_J67 (zX7_readSum : Int32 → zW → (Int32 → zW → Prop) → Prop) (k : Int32 → zW → Prop) (t0 : Int32) (w : zW) : Prop :=
  fX7_addStep t0 w (fun w9 =>
  k (1 : Int32) w9)
set_option maxHeartbeats 4000000 in
set_option maxRecDepth 100000 in
theorem mX7_readTest_J67 {k : Int32 → zW → Prop} {zX7_readSum : Int32 → zW → (Int32 → zW → Prop) → Prop} {qX7_readSum : Nat} {fr : Nat} (X : zCx p s m args meth c cX7_readTest 3 RX7 (some .boolean)) (hr : zRm R fr cells slots) (hQ : zRetZ p l e R s m args below meth c cells slots Q D dA true ad0 al0 ad al cX7_readTest k) (hfr : 6 ≤ fr) (hzX7_readSum : ∀ (x1 : Int32) (w : zW) (k : Int32 → zW → Prop), zX7_readSum x1 w k → zmetI l yX7_readSum cX7_readSum 4 (some .boolean) qX7_readSum [.ref (ad 6), .int x1] D dA true ad al w k) (hqzX7_readSum : qX7_readSum + 1 ≤ fr)  {t0 : Int32} {w : zW} {H : Heap} {locs : List Loc} {ls : Array Slot} (hf : fX7_readTest_J67 zX7_readSum k t0 w) (hR : zSt D dA true ad0 al0 ad al w s H locs) (hl : lv_has ls 3 []) : W p l e R s m args below meth c H locs cells slots Q (F0 m 67 ls [.int t0, .ref (ad 6)]) := by
  have hx := X.1
  have hb := X.2.1
  have hml := X.2.2.1
  have hown := X.2.2.2.1
  have hts := X.2.2.2.2.1
  unfold fX7_readTest_J67 at hf
  refine z_callVV (fr1 := 0) (b := 6) (As := [.int t0]) (rest := []) X (hr.le (by omega)) hR zy_X7_addStep zq_283 (zlit hR zf_6) (by rw [zs_6]; rfl) rfl (mX7_addStep  hf) rfl hl (Nat.le_of_ble_eq_true rfl) dX7_readTest_67 rfl (fun w9 H locs hf hR => ?_)
  refine lv_iconst (v := (1 : Int32)) hx hb dX7_readTest_70 (by decide) ?_
  exact hQ _ _ _ _ _ _ zb01_1 hf hR dX7_readTest_71
def fX7_readTest_J38 (zX7_readSum : Int32 → zW → (Int32 → zW → Prop) → Prop) (k : Int32 → zW → Prop) (x1 : Int32) (x2 : Int32) (w : zW) : Prop :=
  fX10_next  w (fun w5 =>
  zX7_readSum x1 w5 (fun r6 w6 =>
  ((¬ r6 = 0 →
    ∀ v8 : Int32, v8 = (if x2 = 0 then (-9 : Int32) else (-8 : Int32)) →
    fX7_readTest_J67 zX7_readSum k v8 w6) ∧
   (r6 = 0 →
    k (0 : Int32) w6))))
set_option maxHeartbeats 4000000 in
set_option maxRecDepth 100000 in
theorem mX7_readTest_J38 {k : Int32 → zW → Prop} {zX7_readSum : Int32 → zW → (Int32 → zW → Prop) → Prop} {qX7_readSum : Nat} {fr : Nat} (X : zCx p s m args meth c cX7_readTest 3 RX7 (some .boolean)) (hr : zRm R fr cells slots) (hQ : zRetZ p l e R s m args below meth c cells slots Q D dA true ad0 al0 ad al cX7_readTest k) (hfr : 6 ≤ fr) (hzX7_readSum : ∀ (x1 : Int32) (w : zW) (k : Int32 → zW → Prop), zX7_readSum x1 w k → zmetI l yX7_readSum cX7_readSum 4 (some .boolean) qX7_readSum [.ref (ad 6), .int x1] D dA true ad al w k) (hqzX7_readSum : qX7_readSum + 1 ≤ fr)  {x1 : Int32} {x2 : Int32} {w : zW} {H : Heap} {locs : List Loc} {ls : Array Slot} (hf : fX7_readTest_J38 zX7_readSum k x1 x2 w) (hR : zSt D dA true ad0 al0 ad al w s H locs) (hl : lv_has ls 3 [(0, .ref (ad 6)), (1, .int x1), (2, .int x2)]) : W p l e R s m args below meth c H locs cells slots Q (F0 m 38 ls []) := by
  have hx := X.1
  have hb := X.2.1
  have hml := X.2.2.1
  have hown := X.2.2.2.1
  have hts := X.2.2.2.2.1
  unfold fX7_readTest_J38 at hf
  refine lv_aload_n hx hb dX7_readTest_38 rfl (lv_at hl 0 rfl) ?_
  refine z_getS X hR (zlit hR zf_6) zs_6 (by decide) zfd_X7_18 rfl (r := 2) (by decide +kernel) dX7_readTest_39 ?_
  refine z_callVV (fr1 := 5) (b := 2) (As := []) (rest := []) X (hr.le (by omega)) hR zy_X10_next zq_515 (zlit hR zf_2) (by rw [zs_2]; rfl) rfl (mX10_next  hf) rfl hl (Nat.le_of_ble_eq_true rfl) dX7_readTest_42 rfl (fun w5 H locs hf hR => ?_)
  refine lv_aload_n hx hb dX7_readTest_45 rfl (lv_at hl 0 rfl) ?_
  refine lv_iload_n hx hb dX7_readTest_46 rfl (lv_at hl 1 rfl) ?_
  refine z_callVI (fr1 := qX7_readSum) (b := 6) (As := [.int x1]) (rest := []) X (hr.le (by omega)) hR zy_X7_readSum zq_538 (zlit hR zf_6) (by rw [zs_6]; rfl) rfl (hzX7_readSum _ _ _ hf) rfl hl (Nat.le_of_ble_eq_true rfl) dX7_readTest_47 rfl (fun r6 w6 H locs hf hR => ?_)
  refine lv_if_ne (tgt := 55) hx hb dX7_readTest_50 (by decide) (fun c7 => ?_) (fun c7 => ?_)
  · replace hf := hf.1 c7
    refine lv_aload_n hx hb dX7_readTest_55 rfl (lv_at hl 0 rfl) ?_
    refine lv_iload_n hx hb dX7_readTest_56 rfl (lv_at hl 2 rfl) ?_
    have kJ8 : ∀ v8 : Int32, v8 = (if x2 = 0 then (-9 : Int32) else (-8 : Int32)) → W p l e R s m args below meth c H locs cells slots Q (F0 m 67 ls (.int v8 :: .ref (ad 6) :: [])) := by
      intro v8 hv8
      replace hf := hf v8 hv8
      exact mX7_readTest_J67 X hr hQ hfr hzX7_readSum hqzX7_readSum  hf hR (lv_sub hl [] rfl)
    refine lv_if_eq (tgt := 65) hx hb dX7_readTest_57 (by decide) (fun c8 => ?_) (fun c8 => ?_)
    · refine lv_bipush (v := (-9 : Int32)) hx hb dX7_readTest_65 (by decide) ?_
      exact kJ8 _ (if_pos c8).symm
    · refine lv_bipush (v := (-8 : Int32)) hx hb dX7_readTest_60 (by decide) ?_
      refine lv_goto (tgt := 67) hx hb dX7_readTest_62 (by decide) ?_
      exact kJ8 _ (if_neg c8).symm
  · replace hf := hf.2 c7
    refine lv_iconst (v := (0 : Int32)) hx hb dX7_readTest_53 (by decide) ?_
    exact hQ _ _ _ _ _ _ zb01_0 hf hR dX7_readTest_54
def fX7_readTest (zX7_readSum : Int32 → zW → (Int32 → zW → Prop) → Prop) (x1 : Int32) (w : zW) (k : Int32 → zW → Prop) : Prop :=
  zX7_readSum x1 w (fun r1 w1 =>
  ((¬ r1 = 0 →
    fX10_isSign (60 : Int32) w1 (fun r3 w3 =>
    ((¬ r3 = 0 →
      fX7_readTest_J38 zX7_readSum k x1 r3 w3) ∧
     (r3 = 0 →
      fX10_isSign (61 : Int32) w3 (fun r10 w10 =>
      ((¬ r10 = 0 →
        fX7_readTest_J38 zX7_readSum k x1 r3 w10) ∧
       (r10 = 0 →
        k (1 : Int32) w10))))))) ∧
   (r1 = 0 →
    k (0 : Int32) w1)))
set_option maxHeartbeats 4000000 in
set_option maxRecDepth 100000 in
theorem mX7_readTest {l : Launch} {D : va_G} {dA : Nat → ClassId} {ad : Nat → Nat} {al : Nat → Prop} {w : zW} {k : Int32 → zW → Prop} {x1 : Int32} {zX7_readSum : Int32 → zW → (Int32 → zW → Prop) → Prop} {qX7_readSum : Nat} {fr : Nat}  (hfr : 6 ≤ fr) (hzX7_readSum : ∀ (x1 : Int32) (w : zW) (k : Int32 → zW → Prop), zX7_readSum x1 w k → zmetI l yX7_readSum cX7_readSum 4 (some .boolean) qX7_readSum [.ref (ad 6), .int x1] D dA true ad al w k) (hqzX7_readSum : qX7_readSum + 1 ≤ fr) (hf : fX7_readTest zX7_readSum x1 w k) : zmetI l yX7_readTest cX7_readTest 3 (some .boolean) fr [.ref (ad 6), .int x1] D dA true ad al w k := by
  refine zmetZ_of (by decide) (Nat.le_of_ble_eq_true rfl) ?_
  intro p e R s m below meth c Q H ls args locs cells slots X hr hQ hR hl
  have hx := X.1
  have hb := X.2.1
  have hml := X.2.2.1
  have hown := X.2.2.2.1
  have hts := X.2.2.2.2.1
  unfold fX7_readTest at hf
  have hl : lv_has ls 3 [(0, .ref (ad 6)), (1, .int x1)] := hl
  refine lv_aload_n hx hb dX7_readTest_0 rfl (lv_at hl 0 rfl) ?_
  refine lv_iload_n hx hb dX7_readTest_1 rfl (lv_at hl 1 rfl) ?_
  refine z_callVI (fr1 := qX7_readSum) (b := 6) (As := [.int x1]) (rest := []) X (hr.le (by omega)) hR zy_X7_readSum zq_538 (zlit hR zf_6) (by rw [zs_6]; rfl) rfl (hzX7_readSum _ _ _ hf) rfl hl (Nat.le_of_ble_eq_true rfl) dX7_readTest_2 rfl (fun r1 w1 H locs hf hR => ?_)
  refine lv_if_ne (tgt := 10) hx hb dX7_readTest_5 (by decide) (fun c2 => ?_) (fun c2 => ?_)
  · replace hf := hf.1 c2
    refine lv_aload_n hx hb dX7_readTest_10 rfl (lv_at hl 0 rfl) ?_
    refine z_getS X hR (zlit hR zf_6) zs_6 (by decide) zfd_X7_18 rfl (r := 2) (by decide +kernel) dX7_readTest_11 ?_
    refine lv_bipush (v := (60 : Int32)) hx hb dX7_readTest_14 (by decide) ?_
    refine z_callVI (fr1 := 0) (b := 2) (As := [.int (60 : Int32)]) (rest := []) X (hr.le (by omega)) hR zy_X10_isSign zq_517 (zlit hR zf_2) (by rw [zs_2]; rfl) rfl (mX10_isSign  hf) rfl hl (Nat.le_of_ble_eq_true rfl) dX7_readTest_16 rfl (fun r3 w3 H locs hf hR => ?_)
    refine lv_istore_n (lv' := [(2, .int r3), (0, .ref (ad 6)), (1, .int x1)]) hx hb dX7_readTest_19 rfl hl (by decide) rfl (fun ls hl => ?_)
    refine lv_iload_n hx hb dX7_readTest_20 rfl (lv_at hl 0 rfl) ?_
    refine lv_if_ne (tgt := 38) hx hb dX7_readTest_21 (by decide) (fun c4 => ?_) (fun c4 => ?_)
    · replace hf := hf.1 c4
      exact mX7_readTest_J38 X hr hQ hfr hzX7_readSum hqzX7_readSum  hf hR (lv_sub hl [1, 2, 0] rfl)
    · replace hf := hf.2 c4
      refine lv_aload_n hx hb dX7_readTest_24 rfl (lv_at hl 1 rfl) ?_
      refine z_getS X hR (zlit hR zf_6) zs_6 (by decide) zfd_X7_18 rfl (r := 2) (by decide +kernel) dX7_readTest_25 ?_
      refine lv_bipush (v := (61 : Int32)) hx hb dX7_readTest_28 (by decide) ?_
      refine z_callVI (fr1 := 0) (b := 2) (As := [.int (61 : Int32)]) (rest := []) X (hr.le (by omega)) hR zy_X10_isSign zq_517 (zlit hR zf_2) (by rw [zs_2]; rfl) rfl (mX10_isSign  hf) rfl hl (Nat.le_of_ble_eq_true rfl) dX7_readTest_30 rfl (fun r10 w10 H locs hf hR => ?_)
      refine lv_if_ne (tgt := 38) hx hb dX7_readTest_33 (by decide) (fun c11 => ?_) (fun c11 => ?_)
      · replace hf := hf.1 c11
        exact mX7_readTest_J38 X hr hQ hfr hzX7_readSum hqzX7_readSum  hf hR (lv_sub hl [1, 2, 0] rfl)
      · replace hf := hf.2 c11
        refine lv_iconst (v := (1 : Int32)) hx hb dX7_readTest_36 (by decide) ?_
        exact hQ _ _ _ _ _ _ zb01_1 hf hR dX7_readTest_37
  · replace hf := hf.2 c2
    refine lv_iconst (v := (0 : Int32)) hx hb dX7_readTest_8 (by decide) ?_
    exact hQ _ _ _ _ _ _ zb01_0 hf hR dX7_readTest_9
/-! X7_readAll -/
def fX7_readAll_J72 (zX7_readTest : Int32 → zW → (Int32 → zW → Prop) → Prop) (k : Int32 → zW → Prop) (g12 : Int32 → Int32 → zW → Prop) (x1 : Int32) (x2 : Int32) (t0 : Int32) (w : zW) : Prop :=
  fX7_addStep t0 w (fun w10 =>
  g12 x1 (x2 + (1 : Int32)) w10)
set_option maxHeartbeats 4000000 in
set_option maxRecDepth 100000 in
theorem mX7_readAll_J72 {k : Int32 → zW → Prop} {g12 : Int32 → Int32 → zW → Prop} {zX7_readTest : Int32 → zW → (Int32 → zW → Prop) → Prop} {qX7_readTest : Nat} {fr : Nat} (X : zCx p s m args meth c cX7_readAll 4 RX7 (some .boolean)) (hr : zRm R fr cells slots) (hQ : zRetZ p l e R s m args below meth c cells slots Q D dA true ad0 al0 ad al cX7_readAll k) (hfr : 6 ≤ fr) (hzX7_readTest : ∀ (x1 : Int32) (w : zW) (k : Int32 → zW → Prop), zX7_readTest x1 w k → zmetI l yX7_readTest cX7_readTest 3 (some .boolean) qX7_readTest [.ref (ad 6), .int x1] D dA true ad al w k) (hqzX7_readTest : qX7_readTest + 1 ≤ fr) (hg12 : ∀ (x1 : Int32) (x2 : Int32) (w : zW) (H : Heap) (locs : List Loc) (ls : Array Slot), g12 x1 x2 w → zSt D dA true ad0 al0 ad al w s H locs → lv_has ls 4 [(0, .ref (ad 6)), (1, .int x1), (2, .int x2)] → W p l e R s m args below meth c H locs cells slots Q (F0 m 12 ls [])) {x1 : Int32} {x2 : Int32} {t0 : Int32} {w : zW} {H : Heap} {locs : List Loc} {ls : Array Slot} (hf : fX7_readAll_J72 zX7_readTest k g12 x1 x2 t0 w) (hR : zSt D dA true ad0 al0 ad al w s H locs) (hl : lv_has ls 4 [(0, .ref (ad 6)), (1, .int x1), (2, .int x2)]) : W p l e R s m args below meth c H locs cells slots Q (F0 m 72 ls [.int t0, .ref (ad 6)]) := by
  have hx := X.1
  have hb := X.2.1
  have hml := X.2.2.1
  have hown := X.2.2.2.1
  have hts := X.2.2.2.2.1
  unfold fX7_readAll_J72 at hf
  refine z_callVV (fr1 := 0) (b := 6) (As := [.int t0]) (rest := []) X (hr.le (by omega)) hR zy_X7_addStep zq_283 (zlit hR zf_6) (by rw [zs_6]; rfl) rfl (mX7_addStep  hf) rfl hl (Nat.le_of_ble_eq_true rfl) dX7_readAll_72 rfl (fun w10 H locs hf hR => ?_)
  refine lv_iinc (v := x2 + (1 : Int32)) (lv' := [(2, .int (x2 + (1 : Int32))), (0, .ref (ad 6)), (1, .int x1)]) hx hb dX7_readAll_75 hl (k := 2) rfl rfl (by decide) rfl (fun ls hl => ?_)
  refine lv_goto (tgt := 12) hx hb dX7_readAll_78 (by decide) ?_
  exact hg12 x1 (x2 + (1 : Int32)) w10 _ _ _ hf hR (lv_sub hl [1, 2, 0] rfl)
def fX7_readAll_J41 (zX7_readTest : Int32 → zW → (Int32 → zW → Prop) → Prop) (k : Int32 → zW → Prop) (g12 : Int32 → Int32 → zW → Prop) (x1 : Int32) (x2 : Int32) (x3 : Int32) (w : zW) : Prop :=
  fX10_next  w (fun w6 =>
  zX7_readTest x1 w6 (fun r7 w7 =>
  ((¬ r7 = 0 →
    ∀ v9 : Int32, v9 = (if ¬ x3 = (15 : Int32) then (-7 : Int32) else (-6 : Int32)) →
    fX7_readAll_J72 zX7_readTest k g12 x1 x2 v9 w7) ∧
   (r7 = 0 →
    k (0 : Int32) w7))))
set_option maxHeartbeats 4000000 in
set_option maxRecDepth 100000 in
theorem mX7_readAll_J41 {k : Int32 → zW → Prop} {g12 : Int32 → Int32 → zW → Prop} {zX7_readTest : Int32 → zW → (Int32 → zW → Prop) → Prop} {qX7_readTest : Nat} {fr : Nat} (X : zCx p s m args meth c cX7_readAll 4 RX7 (some .boolean)) (hr : zRm R fr cells slots) (hQ : zRetZ p l e R s m args below meth c cells slots Q D dA true ad0 al0 ad al cX7_readAll k) (hfr : 6 ≤ fr) (hzX7_readTest : ∀ (x1 : Int32) (w : zW) (k : Int32 → zW → Prop), zX7_readTest x1 w k → zmetI l yX7_readTest cX7_readTest 3 (some .boolean) qX7_readTest [.ref (ad 6), .int x1] D dA true ad al w k) (hqzX7_readTest : qX7_readTest + 1 ≤ fr) (hg12 : ∀ (x1 : Int32) (x2 : Int32) (w : zW) (H : Heap) (locs : List Loc) (ls : Array Slot), g12 x1 x2 w → zSt D dA true ad0 al0 ad al w s H locs → lv_has ls 4 [(0, .ref (ad 6)), (1, .int x1), (2, .int x2)] → W p l e R s m args below meth c H locs cells slots Q (F0 m 12 ls [])) {x1 : Int32} {x2 : Int32} {x3 : Int32} {w : zW} {H : Heap} {locs : List Loc} {ls : Array Slot} (hf : fX7_readAll_J41 zX7_readTest k g12 x1 x2 x3 w) (hR : zSt D dA true ad0 al0 ad al w s H locs) (hl : lv_has ls 4 [(0, .ref (ad 6)), (1, .int x1), (2, .int x2), (3, .int x3)]) : W p l e R s m args below meth c H locs cells slots Q (F0 m 41 ls []) := by
  have hx := X.1
  have hb := X.2.1
  have hml := X.2.2.1
  have hown := X.2.2.2.1
  have hts := X.2.2.2.2.1
  unfold fX7_readAll_J41 at hf
  refine lv_aload_n hx hb dX7_readAll_41 rfl (lv_at hl 0 rfl) ?_
  refine z_getS X hR (zlit hR zf_6) zs_6 (by decide) zfd_X7_18 rfl (r := 2) (by decide +kernel) dX7_readAll_42 ?_
  refine z_callVV (fr1 := 5) (b := 2) (As := []) (rest := []) X (hr.le (by omega)) hR zy_X10_next zq_515 (zlit hR zf_2) (by rw [zs_2]; rfl) rfl (mX10_next  hf) rfl hl (Nat.le_of_ble_eq_true rfl) dX7_readAll_45 rfl (fun w6 H locs hf hR => ?_)
  refine lv_aload_n hx hb dX7_readAll_48 rfl (lv_at hl 0 rfl) ?_
  refine lv_iload_n hx hb dX7_readAll_49 rfl (lv_at hl 1 rfl) ?_
  refine z_callVI (fr1 := qX7_readTest) (b := 6) (As := [.int x1]) (rest := []) X (hr.le (by omega)) hR zy_X7_readTest zq_512 (zlit hR zf_6) (by rw [zs_6]; rfl) rfl (hzX7_readTest _ _ _ hf) rfl hl (Nat.le_of_ble_eq_true rfl) dX7_readAll_50 rfl (fun r7 w7 H locs hf hR => ?_)
  refine lv_if_ne (tgt := 58) hx hb dX7_readAll_53 (by decide) (fun c8 => ?_) (fun c8 => ?_)
  · replace hf := hf.1 c8
    refine lv_aload_n hx hb dX7_readAll_58 rfl (lv_at hl 0 rfl) ?_
    refine lv_iload_n hx hb dX7_readAll_59 rfl (lv_at hl 3 rfl) ?_
    refine lv_bipush (v := (15 : Int32)) hx hb dX7_readAll_60 (by decide) ?_
    have kJ9 : ∀ v9 : Int32, v9 = (if ¬ x3 = (15 : Int32) then (-7 : Int32) else (-6 : Int32)) → W p l e R s m args below meth c H locs cells slots Q (F0 m 72 ls (.int v9 :: .ref (ad 6) :: [])) := by
      intro v9 hv9
      replace hf := hf v9 hv9
      exact mX7_readAll_J72 X hr hQ hfr hzX7_readTest hqzX7_readTest hg12 hf hR (lv_sub hl [0, 1, 2] rfl)
    refine lv_icmp_ne (tgt := 70) hx hb dX7_readAll_62 (by decide) (fun c9 => ?_) (fun c9 => ?_)
    · refine lv_bipush (v := (-7 : Int32)) hx hb dX7_readAll_70 (by decide) ?_
      exact kJ9 _ (if_pos c9).symm
    · refine lv_bipush (v := (-6 : Int32)) hx hb dX7_readAll_65 (by decide) ?_
      refine lv_goto (tgt := 72) hx hb dX7_readAll_67 (by decide) ?_
      exact kJ9 _ (if_neg (fun h9 => h9 c9)).symm
  · replace hf := hf.2 c8
    refine lv_iconst (v := (0 : Int32)) hx hb dX7_readAll_56 (by decide) ?_
    exact hQ _ _ _ _ _ _ zb01_0 hf hR dX7_readAll_57
def fX7_readAll_L12 (zX7_readTest : Int32 → zW → (Int32 → zW → Prop) → Prop) (k : Int32 → zW → Prop) : Nat → Int32 → Int32 → zW → Prop
  | 0 => fun _ _ _ => False
  | n + 1 => fun x1 x2 w =>
    (((1000 : Int32) ≤ x2 →
      k (1 : Int32) w) ∧
     (¬ (1000 : Int32) ≤ x2 →
      ∀ v4 : Int32, v4 = gI w 2 5 →
      ((v4 = (15 : Int32) →
        fX7_readAll_J41 zX7_readTest k (fX7_readAll_L12 zX7_readTest k n) x1 x2 v4 w) ∧
       (¬ v4 = (15 : Int32) →
        ((v4 = (16 : Int32) →
          fX7_readAll_J41 zX7_readTest k (fX7_readAll_L12 zX7_readTest k n) x1 x2 v4 w) ∧
         (¬ v4 = (16 : Int32) →
          k (1 : Int32) w))))))
set_option maxHeartbeats 4000000 in
set_option maxRecDepth 100000 in
theorem mX7_readAll_L12 {k : Int32 → zW → Prop} {zX7_readTest : Int32 → zW → (Int32 → zW → Prop) → Prop} {qX7_readTest : Nat} {fr : Nat} (X : zCx p s m args meth c cX7_readAll 4 RX7 (some .boolean)) (hr : zRm R fr cells slots) (hQ : zRetZ p l e R s m args below meth c cells slots Q D dA true ad0 al0 ad al cX7_readAll k) (hfr : 6 ≤ fr) (hzX7_readTest : ∀ (x1 : Int32) (w : zW) (k : Int32 → zW → Prop), zX7_readTest x1 w k → zmetI l yX7_readTest cX7_readTest 3 (some .boolean) qX7_readTest [.ref (ad 6), .int x1] D dA true ad al w k) (hqzX7_readTest : qX7_readTest + 1 ≤ fr)  : ∀ (n : Nat) (x1 : Int32) (x2 : Int32) (w : zW) (H : Heap) (locs : List Loc) (ls : Array Slot), fX7_readAll_L12 zX7_readTest k n x1 x2 w → zSt D dA true ad0 al0 ad al w s H locs → lv_has ls 4 [(0, .ref (ad 6)), (1, .int x1), (2, .int x2)] → W p l e R s m args below meth c H locs cells slots Q (F0 m 12 ls []) := by
  intro n
  induction n with
  | zero => exact fun _ _ _ _ _ _ hf => hf.elim
  | succ n ih =>
    intro x1 x2 w H locs ls hf hR hl
    have hx := X.1
    have hb := X.2.1
    have hml := X.2.2.1
    have hown := X.2.2.2.1
    have hts := X.2.2.2.2.1
    rw [fX7_readAll_L12] at hf
    refine lv_iload_n hx hb dX7_readAll_12 rfl (lv_at hl 2 rfl) ?_
    refine lv_sipush (v := (1000 : Int32)) hx hb dX7_readAll_13 (by decide) ?_
    refine lv_icmp_ge (tgt := 81) hx hb dX7_readAll_16 (by decide) (fun c3 => ?_) (fun c3 => ?_)
    · replace hf := hf.1 c3
      refine lv_iconst (v := (1 : Int32)) hx hb dX7_readAll_81 (by decide) ?_
      exact hQ _ _ _ _ _ _ zb01_1 hf hR dX7_readAll_82
    · replace hf := hf.2 c3
      refine lv_aload_n hx hb dX7_readAll_19 rfl (lv_at hl 0 rfl) ?_
      refine z_getS X hR (zlit hR zf_6) zs_6 (by decide) zfd_X7_18 rfl (r := 2) (by decide +kernel) dX7_readAll_20 ?_
      refine z_getI X hR (zlit hR zf_2) zs_2 (by decide) zfd_X7_37 rfl dX7_readAll_23 ?_
      refine lv_topi (fun v4 hv4 => ?_)
      replace hf := hf v4 hv4
      refine lv_istore_n (lv' := [(3, .int v4), (0, .ref (ad 6)), (1, .int x1), (2, .int x2)]) hx hb dX7_readAll_26 rfl hl (by decide) rfl (fun ls hl => ?_)
      refine lv_iload_n hx hb dX7_readAll_27 rfl (lv_at hl 0 rfl) ?_
      refine lv_bipush (v := (15 : Int32)) hx hb dX7_readAll_28 (by decide) ?_
      refine lv_icmp_eq (tgt := 41) hx hb dX7_readAll_30 (by decide) (fun c5 => ?_) (fun c5 => ?_)
      · replace hf := hf.1 c5
        exact mX7_readAll_J41 X hr hQ hfr hzX7_readTest hqzX7_readTest ih hf hR (lv_sub hl [1, 2, 3, 0] rfl)
      · replace hf := hf.2 c5
        refine lv_iload_n hx hb dX7_readAll_33 rfl (lv_at hl 0 rfl) ?_
        refine lv_bipush (v := (16 : Int32)) hx hb dX7_readAll_34 (by decide) ?_
        refine lv_icmp_eq (tgt := 41) hx hb dX7_readAll_36 (by decide) (fun c11 => ?_) (fun c11 => ?_)
        · replace hf := hf.1 c11
          exact mX7_readAll_J41 X hr hQ hfr hzX7_readTest hqzX7_readTest ih hf hR (lv_sub hl [1, 2, 3, 0] rfl)
        · replace hf := hf.2 c11
          refine lv_iconst (v := (1 : Int32)) hx hb dX7_readAll_39 (by decide) ?_
          exact hQ _ _ _ _ _ _ zb01_1 hf hR dX7_readAll_40
def fX7_readAll (zX7_readTest : Int32 → zW → (Int32 → zW → Prop) → Prop) (x1 : Int32) (w : zW) (k : Int32 → zW → Prop) : Prop :=
  zX7_readTest x1 w (fun r1 w1 =>
  ((¬ r1 = 0 →
    ∃ n9, fX7_readAll_L12 zX7_readTest k n9 x1 (0 : Int32) w1) ∧
   (r1 = 0 →
    k (0 : Int32) w1)))
set_option maxHeartbeats 4000000 in
set_option maxRecDepth 100000 in
theorem mX7_readAll {l : Launch} {D : va_G} {dA : Nat → ClassId} {ad : Nat → Nat} {al : Nat → Prop} {w : zW} {k : Int32 → zW → Prop} {x1 : Int32} {zX7_readTest : Int32 → zW → (Int32 → zW → Prop) → Prop} {qX7_readTest : Nat} {fr : Nat}  (hfr : 6 ≤ fr) (hzX7_readTest : ∀ (x1 : Int32) (w : zW) (k : Int32 → zW → Prop), zX7_readTest x1 w k → zmetI l yX7_readTest cX7_readTest 3 (some .boolean) qX7_readTest [.ref (ad 6), .int x1] D dA true ad al w k) (hqzX7_readTest : qX7_readTest + 1 ≤ fr) (hf : fX7_readAll zX7_readTest x1 w k) : zmetI l yX7_readAll cX7_readAll 4 (some .boolean) fr [.ref (ad 6), .int x1] D dA true ad al w k := by
  refine zmetZ_of (by decide) (Nat.le_of_ble_eq_true rfl) ?_
  intro p e R s m below meth c Q H ls args locs cells slots X hr hQ hR hl
  have hx := X.1
  have hb := X.2.1
  have hml := X.2.2.1
  have hown := X.2.2.2.1
  have hts := X.2.2.2.2.1
  unfold fX7_readAll at hf
  have hl : lv_has ls 4 [(0, .ref (ad 6)), (1, .int x1)] := hl
  refine lv_aload_n hx hb dX7_readAll_0 rfl (lv_at hl 0 rfl) ?_
  refine lv_iload_n hx hb dX7_readAll_1 rfl (lv_at hl 1 rfl) ?_
  refine z_callVI (fr1 := qX7_readTest) (b := 6) (As := [.int x1]) (rest := []) X (hr.le (by omega)) hR zy_X7_readTest zq_512 (zlit hR zf_6) (by rw [zs_6]; rfl) rfl (hzX7_readTest _ _ _ hf) rfl hl (Nat.le_of_ble_eq_true rfl) dX7_readAll_2 rfl (fun r1 w1 H locs hf hR => ?_)
  refine lv_if_ne (tgt := 10) hx hb dX7_readAll_5 (by decide) (fun c2 => ?_) (fun c2 => ?_)
  · replace hf := hf.1 c2
    refine lv_iconst (v := (0 : Int32)) hx hb dX7_readAll_10 (by decide) ?_
    refine lv_istore_n (lv' := [(2, .int (0 : Int32)), (0, .ref (ad 6)), (1, .int x1)]) hx hb dX7_readAll_11 rfl hl (by decide) rfl (fun ls hl => ?_)
    obtain ⟨n9, hf⟩ := hf
    exact mX7_readAll_L12 X hr hQ hfr hzX7_readTest hqzX7_readTest  n9 x1 (0 : Int32) w1 _ _ _ hf hR (lv_sub hl [1, 2, 0] rfl)
  · replace hf := hf.2 c2
    refine lv_iconst (v := (0 : Int32)) hx hb dX7_readAll_8 (by decide) ?_
    exact hQ _ _ _ _ _ _ zb01_0 hf hR dX7_readAll_9
/-! X7_readBracketed -/
def fX7_readBracketed (zX7_readAll : Int32 → zW → (Int32 → zW → Prop) → Prop) (x1 : Int32) (w : zW) (k : Int32 → zW → Prop) : Prop :=
  zX7_readAll x1 w (fun r1 w1 =>
  ((¬ r1 = 0 →
    fX10_isSign (41 : Int32) w1 (fun r3 w3 =>
    ((¬ r3 = 0 →
      fX10_next  w3 (fun w5 =>
      k (1 : Int32) w5)) ∧
     (r3 = 0 →
      fX10_wrong (1 : Int32) w3 (fun r6 w6 =>
      zb01 r6 ∧ k r6 w6))))) ∧
   (r1 = 0 →
    k (0 : Int32) w1)))
set_option maxHeartbeats 4000000 in
set_option maxRecDepth 100000 in
theorem mX7_readBracketed {l : Launch} {D : va_G} {dA : Nat → ClassId} {ad : Nat → Nat} {al : Nat → Prop} {w : zW} {k : Int32 → zW → Prop} {x1 : Int32} {zX7_readAll : Int32 → zW → (Int32 → zW → Prop) → Prop} {qX7_readAll : Nat} {fr : Nat}  (hfr : 6 ≤ fr) (hzX7_readAll : ∀ (x1 : Int32) (w : zW) (k : Int32 → zW → Prop), zX7_readAll x1 w k → zmetI l yX7_readAll cX7_readAll 4 (some .boolean) qX7_readAll [.ref (ad 6), .int x1] D dA true ad al w k) (hqzX7_readAll : qX7_readAll + 1 ≤ fr) (hf : fX7_readBracketed zX7_readAll x1 w k) : zmetI l yX7_readBracketed cX7_readBracketed 2 (some .boolean) fr [.ref (ad 6), .int x1] D dA true ad al w k := by
  refine zmetZ_of (by decide) (Nat.le_of_ble_eq_true rfl) ?_
  intro p e R s m below meth c Q H ls args locs cells slots X hr hQ hR hl
  have hx := X.1
  have hb := X.2.1
  have hml := X.2.2.1
  have hown := X.2.2.2.1
  have hts := X.2.2.2.2.1
  unfold fX7_readBracketed at hf
  have hl : lv_has ls 2 [(0, .ref (ad 6)), (1, .int x1)] := hl
  refine lv_aload_n hx hb dX7_readBracketed_0 rfl (lv_at hl 0 rfl) ?_
  refine lv_iload_n hx hb dX7_readBracketed_1 rfl (lv_at hl 1 rfl) ?_
  refine z_callVI (fr1 := qX7_readAll) (b := 6) (As := [.int x1]) (rest := []) X (hr.le (by omega)) hR zy_X7_readAll zq_507 (zlit hR zf_6) (by rw [zs_6]; rfl) rfl (hzX7_readAll _ _ _ hf) rfl hl (Nat.le_of_ble_eq_true rfl) dX7_readBracketed_2 rfl (fun r1 w1 H locs hf hR => ?_)
  refine lv_if_ne (tgt := 10) hx hb dX7_readBracketed_5 (by decide) (fun c2 => ?_) (fun c2 => ?_)
  · replace hf := hf.1 c2
    refine lv_aload_n hx hb dX7_readBracketed_10 rfl (lv_at hl 0 rfl) ?_
    refine z_getS X hR (zlit hR zf_6) zs_6 (by decide) zfd_X7_18 rfl (r := 2) (by decide +kernel) dX7_readBracketed_11 ?_
    refine lv_bipush (v := (41 : Int32)) hx hb dX7_readBracketed_14 (by decide) ?_
    refine z_callVI (fr1 := 0) (b := 2) (As := [.int (41 : Int32)]) (rest := []) X (hr.le (by omega)) hR zy_X10_isSign zq_517 (zlit hR zf_2) (by rw [zs_2]; rfl) rfl (mX10_isSign  hf) rfl hl (Nat.le_of_ble_eq_true rfl) dX7_readBracketed_16 rfl (fun r3 w3 H locs hf hR => ?_)
    refine lv_if_ne (tgt := 31) hx hb dX7_readBracketed_19 (by decide) (fun c4 => ?_) (fun c4 => ?_)
    · replace hf := hf.1 c4
      refine lv_aload_n hx hb dX7_readBracketed_31 rfl (lv_at hl 0 rfl) ?_
      refine z_getS X hR (zlit hR zf_6) zs_6 (by decide) zfd_X7_18 rfl (r := 2) (by decide +kernel) dX7_readBracketed_32 ?_
      refine z_callVV (fr1 := 5) (b := 2) (As := []) (rest := []) X (hr.le (by omega)) hR zy_X10_next zq_515 (zlit hR zf_2) (by rw [zs_2]; rfl) rfl (mX10_next  hf) rfl hl (Nat.le_of_ble_eq_true rfl) dX7_readBracketed_35 rfl (fun w5 H locs hf hR => ?_)
      refine lv_iconst (v := (1 : Int32)) hx hb dX7_readBracketed_38 (by decide) ?_
      exact hQ _ _ _ _ _ _ zb01_1 hf hR dX7_readBracketed_39
    · replace hf := hf.2 c4
      refine lv_aload_n hx hb dX7_readBracketed_22 rfl (lv_at hl 0 rfl) ?_
      refine z_getS X hR (zlit hR zf_6) zs_6 (by decide) zfd_X7_18 rfl (r := 2) (by decide +kernel) dX7_readBracketed_23 ?_
      refine lv_iconst (v := (1 : Int32)) hx hb dX7_readBracketed_26 (by decide) ?_
      refine z_callVI (fr1 := 0) (b := 2) (As := [.int (1 : Int32)]) (rest := []) X (hr.le (by omega)) hR zy_X10_wrong zq_518 (zlit hR zf_2) (by rw [zs_2]; rfl) rfl (mX10_wrong  hf) rfl hl (Nat.le_of_ble_eq_true rfl) dX7_readBracketed_27 rfl (fun r6 w6 H locs hf hR => ?_)
      obtain ⟨h01, hf⟩ := hf
      exact hQ _ _ _ _ _ _ h01 hf hR dX7_readBracketed_30
  · replace hf := hf.2 c2
    refine lv_iconst (v := (0 : Int32)) hx hb dX7_readBracketed_8 (by decide) ?_
    exact hQ _ _ _ _ _ _ zb01_0 hf hR dX7_readBracketed_9
def fX7_readPartN : Nat → Int32 → zW → (Int32 → zW → Prop) → Prop
  | 0 => fun _ _ _ => False
  | d + 1 => fun x w k => fX7_readPart (fX7_readNegated (fX7_readPartN d)) (fX7_readBracketed (fX7_readAll (fX7_readTest (fX7_readSum (fX7_readProduct (fX7_readPartN d)))))) x w k
theorem mX7_readPartN {l : Launch} {D : va_G} {dA : Nat → ClassId} {ad : Nat → Nat} {al : Nat → Prop} : ∀ (d : Nat) (x1 : Int32) (w : zW) (k : Int32 → zW → Prop), fX7_readPartN d x1 w k → zmetI l yX7_readPart cX7_readPart 5 (some .boolean) (20 + 15 * d) [.ref (ad 6), .int x1] D dA true ad al w k := by
  intro d
  induction d with
  | zero => exact fun _ _ _ h => h.elim
  | succ d ih =>
    intro x1 w k hf
    have h1 := fun x1 w k => mX7_readProduct (l := l) (D := D) (dA := dA) (ad := ad) (al := al) (fr := 21 + 15 * d) (x1 := x1) (w := w) (k := k) (by omega) ih (by omega)
    have h2 := fun x1 w k => mX7_readSum (l := l) (D := D) (dA := dA) (ad := ad) (al := al) (fr := 22 + 15 * d) (x1 := x1) (w := w) (k := k) (by omega) h1 (by omega)
    have h3 := fun x1 w k => mX7_readTest (l := l) (D := D) (dA := dA) (ad := ad) (al := al) (fr := 23 + 15 * d) (x1 := x1) (w := w) (k := k) (by omega) h2 (by omega)
    have h4 := fun x1 w k => mX7_readAll (l := l) (D := D) (dA := dA) (ad := ad) (al := al) (fr := 24 + 15 * d) (x1 := x1) (w := w) (k := k) (by omega) h3 (by omega)
    have h5 := fun x1 w k => mX7_readBracketed (l := l) (D := D) (dA := dA) (ad := ad) (al := al) (fr := 25 + 15 * d) (x1 := x1) (w := w) (k := k) (by omega) h4 (by omega)
    have h6 := fun x1 w k => mX7_readNegated (l := l) (D := D) (dA := dA) (ad := ad) (al := al) (fr := 25 + 15 * d) (x1 := x1) (w := w) (k := k) (by omega) ih (by omega)
    exact mX7_readPart (by omega) h6 (by omega) h5 (by omega) hf
def fX7_readAllT (x1 : Int32) (w : zW) (k : Int32 → zW → Prop) : Prop := fX7_readAll (fX7_readTest (fX7_readSum (fX7_readProduct (fX7_readPartN 7)))) x1 w k
theorem mX7_readAllT {l : Launch} {D : va_G} {dA : Nat → ClassId} {ad : Nat → Nat} {al : Nat → Prop} {x1 : Int32} {w : zW} {k : Int32 → zW → Prop} (hf : fX7_readAllT x1 w k) : zmetI l yX7_readAll cX7_readAll 4 (some .boolean) 140 [.ref (ad 6), .int x1] D dA true ad al w k := by
  have h1 := fun x1 w k => mX7_readProduct (l := l) (D := D) (dA := dA) (ad := ad) (al := al) (fr := 137) (x1 := x1) (w := w) (k := k) (by omega) (mX7_readPartN 7) (by omega)
  have h2 := fun x1 w k => mX7_readSum (l := l) (D := D) (dA := dA) (ad := ad) (al := al) (fr := 138) (x1 := x1) (w := w) (k := k) (by omega) h1 (by omega)
  have h3 := fun x1 w k => mX7_readTest (l := l) (D := D) (dA := dA) (ad := ad) (al := al) (fr := 139) (x1 := x1) (w := w) (k := k) (by omega) h2 (by omega)
  exact mX7_readAll (by omega) h3 (by omega) hf
end ZM
