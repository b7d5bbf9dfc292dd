theorem dX5_readLine_0 : decode cX5_readLine 0 = .ok (.aload_n 0, 1) := by decide +kernel
theorem dX5_readLine_1 : decode cX5_readLine 1 = .ok (.getfield 36, 3) := by decide +kernel
theorem dX5_readLine_4 : decode cX5_readLine 4 = .ok (.getfield 62, 3) := by decide +kernel
theorem dX5_readLine_7 : decode cX5_readLine 7 = .ok (.istore_n 1, 1) := by decide +kernel
theorem dX5_readLine_8 : decode cX5_readLine 8 = .ok (.iload_n 1, 1) := by decide +kernel
theorem dX5_readLine_9 : decode cX5_readLine 9 = .ok (.bipush 6, 2) := by decide +kernel
theorem dX5_readLine_11 : decode cX5_readLine 11 = .ok (.if_icmp .lt 9, 3) := by decide +kernel
theorem dX5_readLine_14 : decode cX5_readLine 14 = .ok (.iload_n 1, 1) := by decide +kernel
theorem dX5_readLine_15 : decode cX5_readLine 15 = .ok (.bipush 9, 2) := by decide +kernel
theorem dX5_readLine_17 : decode cX5_readLine 17 = .ok (.if_icmp .le 12, 3) := by decide +kernel
theorem dX5_readLine_20 : decode cX5_readLine 20 = .ok (.aload_n 0, 1) := by decide +kernel
theorem dX5_readLine_21 : decode cX5_readLine 21 = .ok (.getfield 36, 3) := by decide +kernel
theorem dX5_readLine_24 : decode cX5_readLine 24 = .ok (.iconst 1, 1) := by decide +kernel
theorem dX5_readLine_25 : decode cX5_readLine 25 = .ok (.invokevirtual 65, 3) := by decide +kernel
theorem dX5_readLine_28 : decode cX5_readLine 28 = .ok (.ireturn, 1) := by decide +kernel
theorem dX5_readLine_29 : decode cX5_readLine 29 = .ok (.aload_n 0, 1) := by decide +kernel
theorem dX5_readLine_30 : decode cX5_readLine 30 = .ok (.getfield 32, 3) := by decide +kernel
theorem dX5_readLine_33 : decode cX5_readLine 33 = .ok (.ifCond .lt 12, 3) := by decide +kernel
theorem dX5_readLine_36 : decode cX5_readLine 36 = .ok (.aload_n 0, 1) := by decide +kernel
theorem dX5_readLine_37 : decode cX5_readLine 37 = .ok (.getfield 32, 3) := by decide +kernel
theorem dX5_readLine_40 : decode cX5_readLine 40 = .ok (.bipush 40, 2) := by decide +kernel
theorem dX5_readLine_42 : decode cX5_readLine 42 = .ok (.if_icmp .lt 12, 3) := by decide +kernel
theorem dX5_readLine_45 : decode cX5_readLine 45 = .ok (.aload_n 0, 1) := by decide +kernel
theorem dX5_readLine_46 : decode cX5_readLine 46 = .ok (.getfield 36, 3) := by decide +kernel
theorem dX5_readLine_49 : decode cX5_readLine 49 = .ok (.iconst 5, 1) := by decide +kernel
theorem dX5_readLine_50 : decode cX5_readLine 50 = .ok (.invokevirtual 65, 3) := by decide +kernel
theorem dX5_readLine_53 : decode cX5_readLine 53 = .ok (.ireturn, 1) := by decide +kernel
theorem dX5_readLine_54 : decode cX5_readLine 54 = .ok (.aload_n 0, 1) := by decide +kernel
theorem dX5_readLine_55 : decode cX5_readLine 55 = .ok (.getfield 36, 3) := by decide +kernel
theorem dX5_readLine_58 : decode cX5_readLine 58 = .ok (.invokevirtual 69, 3) := by decide +kernel
theorem dX5_readLine_61 : decode cX5_readLine 61 = .ok (.iload_n 1, 1) := by decide +kernel
theorem dX5_readLine_62 : decode cX5_readLine 62 = .ok (.bipush 6, 2) := by decide +kernel
theorem dX5_readLine_64 : decode cX5_readLine 64 = .ok (.if_icmp .eq 9, 3) := by decide +kernel
theorem dX5_readLine_67 : decode cX5_readLine 67 = .ok (.iload_n 1, 1) := by decide +kernel
theorem dX5_readLine_68 : decode cX5_readLine 68 = .ok (.bipush 7, 2) := by decide +kernel
theorem dX5_readLine_70 : decode cX5_readLine 70 = .ok (.if_icmp .ne 7, 3) := by decide +kernel
theorem dX5_readLine_73 : decode cX5_readLine 73 = .ok (.iconst 1, 1) := by decide +kernel
theorem dX5_readLine_74 : decode cX5_readLine 74 = .ok (.goto 4, 3) := by decide +kernel
theorem dX5_readLine_77 : decode cX5_readLine 77 = .ok (.iconst 0, 1) := by decide +kernel
theorem dX5_readLine_78 : decode cX5_readLine 78 = .ok (.istore_n 2, 1) := by decide +kernel
theorem dX5_readLine_79 : decode cX5_readLine 79 = .ok (.iload_n 2, 1) := by decide +kernel
theorem dX5_readLine_80 : decode cX5_readLine 80 = .ok (.ifCond .eq 17, 3) := by decide +kernel
theorem dX5_readLine_83 : decode cX5_readLine 83 = .ok (.aload_n 0, 1) := by decide +kernel
theorem dX5_readLine_84 : decode cX5_readLine 84 = .ok (.getfield 36, 3) := by decide +kernel
theorem dX5_readLine_87 : decode cX5_readLine 87 = .ok (.aload_n 0, 1) := by decide +kernel
theorem dX5_readLine_88 : decode cX5_readLine 88 = .ok (.getfield 40, 3) := by decide +kernel
theorem dX5_readLine_91 : decode cX5_readLine 91 = .ok (.invokevirtual 72, 3) := by decide +kernel
theorem dX5_readLine_94 : decode cX5_readLine 94 = .ok (.goto 20, 3) := by decide +kernel
theorem dX5_readLine_97 : decode cX5_readLine 97 = .ok (.aload_n 0, 1) := by decide +kernel
theorem dX5_readLine_98 : decode cX5_readLine 98 = .ok (.getfield 36, 3) := by decide +kernel
theorem dX5_readLine_101 : decode cX5_readLine 101 = .ok (.iconst 0, 1) := by decide +kernel
theorem dX5_readLine_102 : decode cX5_readLine 102 = .ok (.aload_n 0, 1) := by decide +kernel
theorem dX5_readLine_103 : decode cX5_readLine 103 = .ok (.getfield 40, 3) := by decide +kernel
theorem dX5_readLine_106 : decode cX5_readLine 106 = .ok (.getfield 76, 3) := by decide +kernel
theorem dX5_readLine_109 : decode cX5_readLine 109 = .ok (.iconst 1, 1) := by decide +kernel
theorem dX5_readLine_110 : decode cX5_readLine 110 = .ok (.isub, 1) := by decide +kernel
theorem dX5_readLine_111 : decode cX5_readLine 111 = .ok (.invokevirtual 81, 3) := by decide +kernel
theorem dX5_readLine_114 : decode cX5_readLine 114 = .ok (.istore_n 3, 1) := by decide +kernel
theorem dX5_readLine_115 : decode cX5_readLine 115 = .ok (.iload_n 3, 1) := by decide +kernel
theorem dX5_readLine_116 : decode cX5_readLine 116 = .ok (.iconst (-1), 1) := by decide +kernel
theorem dX5_readLine_117 : decode cX5_readLine 117 = .ok (.if_icmp .ne 5, 3) := by decide +kernel
theorem dX5_readLine_120 : decode cX5_readLine 120 = .ok (.iconst 0, 1) := by decide +kernel
theorem dX5_readLine_121 : decode cX5_readLine 121 = .ok (.ireturn, 1) := by decide +kernel
theorem dX5_readLine_122 : decode cX5_readLine 122 = .ok (.aload_n 0, 1) := by decide +kernel
theorem dX5_readLine_123 : decode cX5_readLine 123 = .ok (.iload_n 1, 1) := by decide +kernel
theorem dX5_readLine_124 : decode cX5_readLine 124 = .ok (.invokevirtual 85, 3) := by decide +kernel
theorem dX5_readLine_127 : decode cX5_readLine 127 = .ok (.istore 4, 2) := by decide +kernel
theorem dX5_readLine_129 : decode cX5_readLine 129 = .ok (.iload 4, 2) := by decide +kernel
theorem dX5_readLine_131 : decode cX5_readLine 131 = .ok (.bipush (-2), 2) := by decide +kernel
theorem dX5_readLine_133 : decode cX5_readLine 133 = .ok (.if_icmp .ne 5, 3) := by decide +kernel
theorem dX5_readLine_136 : decode cX5_readLine 136 = .ok (.iconst 0, 1) := by decide +kernel
theorem dX5_readLine_137 : decode cX5_readLine 137 = .ok (.ireturn, 1) := by decide +kernel
theorem dX5_readLine_138 : decode cX5_readLine 138 = .ok (.aload_n 0, 1) := by decide +kernel
theorem dX5_readLine_139 : decode cX5_readLine 139 = .ok (.getfield 15, 3) := by decide +kernel
theorem dX5_readLine_142 : decode cX5_readLine 142 = .ok (.aload_n 0, 1) := by decide +kernel
theorem dX5_readLine_143 : decode cX5_readLine 143 = .ok (.getfield 32, 3) := by decide +kernel
theorem dX5_readLine_146 : decode cX5_readLine 146 = .ok (.iload_n 1, 1) := by decide +kernel
theorem dX5_readLine_147 : decode cX5_readLine 147 = .ok (.iastore, 1) := by decide +kernel
theorem dX5_readLine_148 : decode cX5_readLine 148 = .ok (.aload_n 0, 1) := by decide +kernel
theorem dX5_readLine_149 : decode cX5_readLine 149 = .ok (.getfield 19, 3) := by decide +kernel
theorem dX5_readLine_152 : decode cX5_readLine 152 = .ok (.aload_n 0, 1) := by decide +kernel
theorem dX5_readLine_153 : decode cX5_readLine 153 = .ok (.getfield 32, 3) := by decide +kernel
theorem dX5_readLine_156 : decode cX5_readLine 156 = .ok (.iload_n 2, 1) := by decide +kernel
theorem dX5_readLine_157 : decode cX5_readLine 157 = .ok (.ifCond .eq 7, 3) := by decide +kernel
theorem dX5_readLine_160 : decode cX5_readLine 160 = .ok (.iload_n 3, 1) := by decide +kernel
theorem dX5_readLine_161 : decode cX5_readLine 161 = .ok (.goto 6, 3) := by decide +kernel
theorem dX5_readLine_164 : decode cX5_readLine 164 = .ok (.iconst 4, 1) := by decide +kernel
theorem dX5_readLine_165 : decode cX5_readLine 165 = .ok (.iload_n 3, 1) := by decide +kernel
theorem dX5_readLine_166 : decode cX5_readLine 166 = .ok (.iadd, 1) := by decide +kernel
theorem dX5_readLine_167 : decode cX5_readLine 167 = .ok (.iastore, 1) := by decide +kernel
theorem dX5_readLine_168 : decode cX5_readLine 168 = .ok (.aload_n 0, 1) := by decide +kernel
theorem dX5_readLine_169 : decode cX5_readLine 169 = .ok (.getfield 22, 3) := by decide +kernel
theorem dX5_readLine_172 : decode cX5_readLine 172 = .ok (.aload_n 0, 1) := by decide +kernel
theorem dX5_readLine_173 : decode cX5_readLine 173 = .ok (.getfield 32, 3) := by decide +kernel
theorem dX5_readLine_176 : decode cX5_readLine 176 = .ok (.iload 4, 2) := by decide +kernel
theorem dX5_readLine_178 : decode cX5_readLine 178 = .ok (.iastore, 1) := by decide +kernel
theorem dX5_readLine_179 : decode cX5_readLine 179 = .ok (.aload_n 0, 1) := by decide +kernel
theorem dX5_readLine_180 : decode cX5_readLine 180 = .ok (.dup, 1) := by decide +kernel
theorem dX5_readLine_181 : decode cX5_readLine 181 = .ok (.getfield 32, 3) := by decide +kernel
theorem dX5_readLine_184 : decode cX5_readLine 184 = .ok (.iconst 1, 1) := by decide +kernel
theorem dX5_readLine_185 : decode cX5_readLine 185 = .ok (.iadd, 1) := by decide +kernel
theorem dX5_readLine_186 : decode cX5_readLine 186 = .ok (.putfield 32, 3) := by decide +kernel
theorem dX5_readLine_189 : decode cX5_readLine 189 = .ok (.aload_n 0, 1) := by decide +kernel
theorem dX5_readLine_190 : decode cX5_readLine 190 = .ok (.getfield 36, 3) := by decide +kernel
theorem dX5_readLine_193 : decode cX5_readLine 193 = .ok (.invokevirtual 89, 3) := by decide +kernel
theorem dX5_readLine_196 : decode cX5_readLine 196 = .ok (.ireturn, 1) := by decide +kernel
theorem dX5_read_0 : decode cX5_read 0 = .ok (.aload_n 0, 1) := by decide +kernel
theorem dX5_read_1 : decode cX5_read 1 = .ok (.aload_n 1, 1) := by decide +kernel
theorem dX5_read_2 : decode cX5_read 2 = .ok (.putfield 36, 3) := by decide +kernel
theorem dX5_read_5 : decode cX5_read 5 = .ok (.aload_n 0, 1) := by decide +kernel
theorem dX5_read_6 : decode cX5_read 6 = .ok (.aload_n 2, 1) := by decide +kernel
theorem dX5_read_7 : decode cX5_read 7 = .ok (.putfield 40, 3) := by decide +kernel
theorem dX5_read_10 : decode cX5_read 10 = .ok (.aload_n 0, 1) := by decide +kernel
theorem dX5_read_11 : decode cX5_read 11 = .ok (.invokevirtual 44, 3) := by decide +kernel
theorem dX5_read_14 : decode cX5_read 14 = .ok (.aload_n 0, 1) := by decide +kernel
theorem dX5_read_15 : decode cX5_read 15 = .ok (.getfield 36, 3) := by decide +kernel
theorem dX5_read_18 : decode cX5_read 18 = .ok (.invokevirtual 47, 3) := by decide +kernel
theorem dX5_read_21 : decode cX5_read 21 = .ok (.iconst 0, 1) := by decide +kernel
theorem dX5_read_22 : decode cX5_read 22 = .ok (.istore_n 3, 1) := by decide +kernel
theorem dX5_read_23 : decode cX5_read 23 = .ok (.iload_n 3, 1) := by decide +kernel
theorem dX5_read_24 : decode cX5_read 24 = .ok (.sipush 1000, 3) := by decide +kernel
theorem dX5_read_27 : decode cX5_read 27 = .ok (.if_icmp .gt 34, 3) := by decide +kernel
theorem dX5_read_30 : decode cX5_read 30 = .ok (.aload_n 0, 1) := by decide +kernel
theorem dX5_read_31 : decode cX5_read 31 = .ok (.getfield 36, 3) := by decide +kernel
theorem dX5_read_34 : decode cX5_read 34 = .ok (.getfield 52, 3) := by decide +kernel
theorem dX5_read_37 : decode cX5_read 37 = .ok (.ifCond .eq 24, 3) := by decide +kernel
theorem dX5_read_40 : decode cX5_read 40 = .ok (.aload_n 0, 1) := by decide +kernel
theorem dX5_read_41 : decode cX5_read 41 = .ok (.invokevirtual 55, 3) := by decide +kernel
theorem dX5_read_44 : decode cX5_read 44 = .ok (.ifCond .ne 11, 3) := by decide +kernel
theorem dX5_read_47 : decode cX5_read 47 = .ok (.aload_n 0, 1) := by decide +kernel
theorem dX5_read_48 : decode cX5_read 48 = .ok (.getfield 36, 3) := by decide +kernel
theorem dX5_read_51 : decode cX5_read 51 = .ok (.getfield 59, 3) := by decide +kernel
theorem dX5_read_54 : decode cX5_read 54 = .ok (.ireturn, 1) := by decide +kernel
theorem dX5_read_55 : decode cX5_read 55 = .ok (.iinc 3 1, 3) := by decide +kernel
theorem dX5_read_58 : decode cX5_read 58 = .ok (.goto (-35), 3) := by decide +kernel
theorem dX5_read_61 : decode cX5_read 61 = .ok (.iconst 0, 1) := by decide +kernel
theorem dX5_read_62 : decode cX5_read 62 = .ok (.ireturn, 1) := by decide +kernel
theorem dX5_canBe_0 : decode cX5_canBe 0 = .ok (.aload_n 0, 1) := by decide +kernel
theorem dX5_canBe_1 : decode cX5_canBe 1 = .ok (.getfield 15, 3) := by decide +kernel
theorem dX5_canBe_4 : decode cX5_canBe 4 = .ok (.iload_n 1, 1) := by decide +kernel
theorem dX5_canBe_5 : decode cX5_canBe 5 = .ok (.iaload, 1) := by decide +kernel
theorem dX5_canBe_6 : decode cX5_canBe 6 = .ok (.lookupswitch 45 #[(6, 26), (8, 43)], 26) := by decide +kernel
theorem dX5_canBe_32 : decode cX5_canBe 32 = .ok (.aload_n 2, 1) := by decide +kernel
theorem dX5_canBe_33 : decode cX5_canBe 33 = .ok (.aload_n 0, 1) := by decide +kernel
theorem dX5_canBe_34 : decode cX5_canBe 34 = .ok (.getfield 19, 3) := by decide +kernel
theorem dX5_canBe_37 : decode cX5_canBe 37 = .ok (.iload_n 1, 1) := by decide +kernel
theorem dX5_canBe_38 : decode cX5_canBe 38 = .ok (.iaload, 1) := by decide +kernel
theorem dX5_canBe_39 : decode cX5_canBe 39 = .ok (.aload_n 0, 1) := by decide +kernel
theorem dX5_canBe_40 : decode cX5_canBe 40 = .ok (.getfield 22, 3) := by decide +kernel
theorem dX5_canBe_43 : decode cX5_canBe 43 = .ok (.iload_n 1, 1) := by decide +kernel
theorem dX5_canBe_44 : decode cX5_canBe 44 = .ok (.iaload, 1) := by decide +kernel
theorem dX5_canBe_45 : decode cX5_canBe 45 = .ok (.invokevirtual 117, 3) := by decide +kernel
theorem dX5_canBe_48 : decode cX5_canBe 48 = .ok (.ireturn, 1) := by decide +kernel
theorem dX5_canBe_49 : decode cX5_canBe 49 = .ok (.iconst 1, 1) := by decide +kernel
theorem dX5_canBe_50 : decode cX5_canBe 50 = .ok (.ireturn, 1) := by decide +kernel
theorem dX5_canBe_51 : decode cX5_canBe 51 = .ok (.aload_n 0, 1) := by decide +kernel
theorem dX5_canBe_52 : decode cX5_canBe 52 = .ok (.getfield 28, 3) := by decide +kernel
theorem dX5_canBe_55 : decode cX5_canBe 55 = .ok (.aload_n 0, 1) := by decide +kernel
theorem dX5_canBe_56 : decode cX5_canBe 56 = .ok (.getfield 19, 3) := by decide +kernel
theorem dX5_canBe_59 : decode cX5_canBe 59 = .ok (.iload_n 1, 1) := by decide +kernel
theorem dX5_canBe_60 : decode cX5_canBe 60 = .ok (.iaload, 1) := by decide +kernel
theorem dX5_canBe_61 : decode cX5_canBe 61 = .ok (.invokevirtual 121, 3) := by decide +kernel
theorem dX5_canBe_64 : decode cX5_canBe 64 = .ok (.iconst (-1), 1) := by decide +kernel
theorem dX5_canBe_65 : decode cX5_canBe 65 = .ok (.if_icmp .eq 7, 3) := by decide +kernel
theorem dX5_canBe_68 : decode cX5_canBe 68 = .ok (.iconst 1, 1) := by decide +kernel
theorem dX5_canBe_69 : decode cX5_canBe 69 = .ok (.goto 4, 3) := by decide +kernel
theorem dX5_canBe_72 : decode cX5_canBe 72 = .ok (.iconst 0, 1) := by decide +kernel
theorem dX5_canBe_73 : decode cX5_canBe 73 = .ok (.ireturn, 1) := by decide +kernel
theorem dX8_fittingBy_0 : decode cX8_fittingBy 0 = .ok (.iconst 0, 1) := by decide +kernel
theorem dX8_fittingBy_1 : decode cX8_fittingBy 1 = .ok (.istore_n 2, 1) := by decide +kernel
theorem dX8_fittingBy_2 : decode cX8_fittingBy 2 = .ok (.iconst 0, 1) := by decide +kernel
theorem dX8_fittingBy_3 : decode cX8_fittingBy 3 = .ok (.istore_n 3, 1) := by decide +kernel
theorem dX8_fittingBy_4 : decode cX8_fittingBy 4 = .ok (.iload_n 3, 1) := by decide +kernel
theorem dX8_fittingBy_5 : decode cX8_fittingBy 5 = .ok (.aload_n 0, 1) := by decide +kernel
theorem dX8_fittingBy_6 : decode cX8_fittingBy 6 = .ok (.getfield 51, 3) := by decide +kernel
theorem dX8_fittingBy_9 : decode cX8_fittingBy 9 = .ok (.if_icmp .ge 43, 3) := by decide +kernel
theorem dX8_fittingBy_12 : decode cX8_fittingBy 12 = .ok (.iload_n 3, 1) := by decide +kernel
theorem dX8_fittingBy_13 : decode cX8_fittingBy 13 = .ok (.aload_n 0, 1) := by decide +kernel
theorem dX8_fittingBy_14 : decode cX8_fittingBy 14 = .ok (.getfield 25, 3) := by decide +kernel
theorem dX8_fittingBy_17 : decode cX8_fittingBy 17 = .ok (.arraylength, 1) := by decide +kernel
theorem dX8_fittingBy_18 : decode cX8_fittingBy 18 = .ok (.if_icmp .ge 34, 3) := by decide +kernel
theorem dX8_fittingBy_21 : decode cX8_fittingBy 21 = .ok (.iload_n 2, 1) := by decide +kernel
theorem dX8_fittingBy_22 : decode cX8_fittingBy 22 = .ok (.aload_n 1, 1) := by decide +kernel
theorem dX8_fittingBy_23 : decode cX8_fittingBy 23 = .ok (.aload_n 0, 1) := by decide +kernel
theorem dX8_fittingBy_24 : decode cX8_fittingBy 24 = .ok (.getfield 25, 3) := by decide +kernel
theorem dX8_fittingBy_27 : decode cX8_fittingBy 27 = .ok (.iload_n 3, 1) := by decide +kernel
theorem dX8_fittingBy_28 : decode cX8_fittingBy 28 = .ok (.iaload, 1) := by decide +kernel
theorem dX8_fittingBy_29 : decode cX8_fittingBy 29 = .ok (.aload_n 0, 1) := by decide +kernel
theorem dX8_fittingBy_30 : decode cX8_fittingBy 30 = .ok (.getfield 31, 3) := by decide +kernel
theorem dX8_fittingBy_33 : decode cX8_fittingBy 33 = .ok (.invokevirtual 88, 3) := by decide +kernel
theorem dX8_fittingBy_36 : decode cX8_fittingBy 36 = .ok (.ifCond .eq 7, 3) := by decide +kernel
theorem dX8_fittingBy_39 : decode cX8_fittingBy 39 = .ok (.iconst 1, 1) := by decide +kernel
theorem dX8_fittingBy_40 : decode cX8_fittingBy 40 = .ok (.goto 4, 3) := by decide +kernel
theorem dX8_fittingBy_43 : decode cX8_fittingBy 43 = .ok (.iconst 0, 1) := by decide +kernel
theorem dX8_fittingBy_44 : decode cX8_fittingBy 44 = .ok (.iadd, 1) := by decide +kernel
theorem dX8_fittingBy_45 : decode cX8_fittingBy 45 = .ok (.istore_n 2, 1) := by decide +kernel
theorem dX8_fittingBy_46 : decode cX8_fittingBy 46 = .ok (.iinc 3 1, 3) := by decide +kernel
theorem dX8_fittingBy_49 : decode cX8_fittingBy 49 = .ok (.goto (-45), 3) := by decide +kernel
theorem dX8_fittingBy_52 : decode cX8_fittingBy 52 = .ok (.iload_n 2, 1) := by decide +kernel
theorem dX8_fittingBy_53 : decode cX8_fittingBy 53 = .ok (.ireturn, 1) := by decide +kernel
theorem dX5_judge_0 : decode cX5_judge 0 = .ok (.aload_n 0, 1) := by decide +kernel
theorem dX5_judge_1 : decode cX5_judge 1 = .ok (.getfield 28, 3) := by decide +kernel
theorem dX5_judge_4 : decode cX5_judge 4 = .ok (.aload_n 1, 1) := by decide +kernel
theorem dX5_judge_5 : decode cX5_judge 5 = .ok (.invokevirtual 92, 3) := by decide +kernel
theorem dX5_judge_8 : decode cX5_judge 8 = .ok (.aload_n 0, 1) := by decide +kernel
theorem dX5_judge_9 : decode cX5_judge 9 = .ok (.iconst (-1), 1) := by decide +kernel
theorem dX5_judge_10 : decode cX5_judge 10 = .ok (.putfield 95, 3) := by decide +kernel
theorem dX5_judge_13 : decode cX5_judge 13 = .ok (.aload_n 0, 1) := by decide +kernel
theorem dX5_judge_14 : decode cX5_judge 14 = .ok (.iconst (-1), 1) := by decide +kernel
theorem dX5_judge_15 : decode cX5_judge 15 = .ok (.putfield 98, 3) := by decide +kernel
theorem dX5_judge_18 : decode cX5_judge 18 = .ok (.aload_n 0, 1) := by decide +kernel
theorem dX5_judge_19 : decode cX5_judge 19 = .ok (.aload_n 2, 1) := by decide +kernel
theorem dX5_judge_20 : decode cX5_judge 20 = .ok (.aload_n 0, 1) := by decide +kernel
theorem dX5_judge_21 : decode cX5_judge 21 = .ok (.getfield 28, 3) := by decide +kernel
theorem dX5_judge_24 : decode cX5_judge 24 = .ok (.invokevirtual 101, 3) := by decide +kernel
theorem dX5_judge_27 : decode cX5_judge 27 = .ok (.putfield 107, 3) := by decide +kernel
theorem dX5_judge_30 : decode cX5_judge 30 = .ok (.iconst 0, 1) := by decide +kernel
theorem dX5_judge_31 : decode cX5_judge 31 = .ok (.istore_n 3, 1) := by decide +kernel
theorem dX5_judge_32 : decode cX5_judge 32 = .ok (.iload_n 3, 1) := by decide +kernel
theorem dX5_judge_33 : decode cX5_judge 33 = .ok (.aload_n 0, 1) := by decide +kernel
theorem dX5_judge_34 : decode cX5_judge 34 = .ok (.getfield 32, 3) := by decide +kernel
theorem dX5_judge_37 : decode cX5_judge 37 = .ok (.if_icmp .ge 92, 3) := by decide +kernel
theorem dX5_judge_40 : decode cX5_judge 40 = .ok (.iload_n 3, 1) := by decide +kernel
theorem dX5_judge_41 : decode cX5_judge 41 = .ok (.bipush 40, 2) := by decide +kernel
theorem dX5_judge_43 : decode cX5_judge 43 = .ok (.if_icmp .ge 86, 3) := by decide +kernel
theorem dX5_judge_46 : decode cX5_judge 46 = .ok (.aload_n 0, 1) := by decide +kernel
theorem dX5_judge_47 : decode cX5_judge 47 = .ok (.iload_n 3, 1) := by decide +kernel
theorem dX5_judge_48 : decode cX5_judge 48 = .ok (.aload_n 1, 1) := by decide +kernel
theorem dX5_judge_49 : decode cX5_judge 49 = .ok (.invokevirtual 110, 3) := by decide +kernel
theorem dX5_judge_52 : decode cX5_judge 52 = .ok (.ifCond .eq 38, 3) := by decide +kernel
theorem dX5_judge_55 : decode cX5_judge 55 = .ok (.aload_n 0, 1) := by decide +kernel
theorem dX5_judge_56 : decode cX5_judge 56 = .ok (.getfield 28, 3) := by decide +kernel
theorem dX5_judge_59 : decode cX5_judge 59 = .ok (.aload_n 0, 1) := by decide +kernel
theorem dX5_judge_60 : decode cX5_judge 60 = .ok (.getfield 19, 3) := by decide +kernel
theorem dX5_judge_63 : decode cX5_judge 63 = .ok (.iload_n 3, 1) := by decide +kernel
theorem dX5_judge_64 : decode cX5_judge 64 = .ok (.iaload, 1) := by decide +kernel
theorem dX5_judge_65 : decode cX5_judge 65 = .ok (.aload_n 0, 1) := by decide +kernel
theorem dX5_judge_66 : decode cX5_judge 66 = .ok (.getfield 22, 3) := by decide +kernel
theorem dX5_judge_69 : decode cX5_judge 69 = .ok (.iload_n 3, 1) := by decide +kernel
theorem dX5_judge_70 : decode cX5_judge 70 = .ok (.iaload, 1) := by decide +kernel
theorem dX5_judge_71 : decode cX5_judge 71 = .ok (.invokevirtual 114, 3) := by decide +kernel
theorem dX5_judge_74 : decode cX5_judge 74 = .ok (.pop, 1) := by decide +kernel
theorem dX5_judge_75 : decode cX5_judge 75 = .ok (.aload_n 0, 1) := by decide +kernel
theorem dX5_judge_76 : decode cX5_judge 76 = .ok (.aload_n 2, 1) := by decide +kernel
theorem dX5_judge_77 : decode cX5_judge 77 = .ok (.aload_n 0, 1) := by decide +kernel
theorem dX5_judge_78 : decode cX5_judge 78 = .ok (.getfield 28, 3) := by decide +kernel
theorem dX5_judge_81 : decode cX5_judge 81 = .ok (.invokevirtual 101, 3) := by decide +kernel
theorem dX5_judge_84 : decode cX5_judge 84 = .ok (.putfield 107, 3) := by decide +kernel
theorem dX5_judge_87 : decode cX5_judge 87 = .ok (.goto 16, 3) := by decide +kernel
theorem dX5_judge_90 : decode cX5_judge 90 = .ok (.aload_n 0, 1) := by decide +kernel
theorem dX5_judge_91 : decode cX5_judge 91 = .ok (.getfield 95, 3) := by decide +kernel
theorem dX5_judge_94 : decode cX5_judge 94 = .ok (.iconst (-1), 1) := by decide +kernel
theorem dX5_judge_95 : decode cX5_judge 95 = .ok (.if_icmp .ne 8, 3) := by decide +kernel
theorem dX5_judge_98 : decode cX5_judge 98 = .ok (.aload_n 0, 1) := by decide +kernel
theorem dX5_judge_99 : decode cX5_judge 99 = .ok (.iload_n 3, 1) := by decide +kernel
theorem dX5_judge_100 : decode cX5_judge 100 = .ok (.putfield 95, 3) := by decide +kernel
theorem dX5_judge_103 : decode cX5_judge 103 = .ok (.aload_n 0, 1) := by decide +kernel
theorem dX5_judge_104 : decode cX5_judge 104 = .ok (.getfield 107, 3) := by decide +kernel
theorem dX5_judge_107 : decode cX5_judge 107 = .ok (.ifCond .ne 16, 3) := by decide +kernel
theorem dX5_judge_110 : decode cX5_judge 110 = .ok (.aload_n 0, 1) := by decide +kernel
theorem dX5_judge_111 : decode cX5_judge 111 = .ok (.getfield 98, 3) := by decide +kernel
theorem dX5_judge_114 : decode cX5_judge 114 = .ok (.iconst (-1), 1) := by decide +kernel
theorem dX5_judge_115 : decode cX5_judge 115 = .ok (.if_icmp .ne 8, 3) := by decide +kernel
theorem dX5_judge_118 : decode cX5_judge 118 = .ok (.aload_n 0, 1) := by decide +kernel
theorem dX5_judge_119 : decode cX5_judge 119 = .ok (.iload_n 3, 1) := by decide +kernel
theorem dX5_judge_120 : decode cX5_judge 120 = .ok (.putfield 98, 3) := by decide +kernel
theorem dX5_judge_123 : decode cX5_judge 123 = .ok (.iinc 3 1, 3) := by decide +kernel
theorem dX5_judge_126 : decode cX5_judge 126 = .ok (.goto (-94), 3) := by decide +kernel
theorem dX5_judge_129 : decode cX5_judge 129 = .ok (.aload_n 0, 1) := by decide +kernel
theorem dX5_judge_130 : decode cX5_judge 130 = .ok (.iconst 0, 1) := by decide +kernel
theorem dX5_judge_131 : decode cX5_judge 131 = .ok (.putfield 9, 3) := by decide +kernel
theorem dX5_judge_134 : decode cX5_judge 134 = .ok (.return_, 1) := by decide +kernel
theorem dX6_keep_0 : decode cX6_keep 0 = .ok (.aload_n 0, 1) := by decide +kernel
theorem dX6_keep_1 : decode cX6_keep 1 = .ok (.getfield 16, 3) := by decide +kernel
theorem dX6_keep_4 : decode cX6_keep 4 = .ok (.bipush 16, 2) := by decide +kernel
theorem dX6_keep_6 : decode cX6_keep 6 = .ok (.if_icmp .lt 39, 3) := by decide +kernel
theorem dX6_keep_9 : decode cX6_keep 9 = .ok (.aload_n 0, 1) := by decide +kernel
theorem dX6_keep_10 : decode cX6_keep 10 = .ok (.getfield 9, 3) := by decide +kernel
theorem dX6_keep_13 : decode cX6_keep 13 = .ok (.iconst 1, 1) := by decide +kernel
theorem dX6_keep_14 : decode cX6_keep 14 = .ok (.aload_n 0, 1) := by decide +kernel
theorem dX6_keep_15 : decode cX6_keep 15 = .ok (.getfield 9, 3) := by decide +kernel
theorem dX6_keep_18 : decode cX6_keep 18 = .ok (.iconst 0, 1) := by decide +kernel
theorem dX6_keep_19 : decode cX6_keep 19 = .ok (.bipush 15, 2) := by decide +kernel
theorem dX6_keep_21 : decode cX6_keep 21 = .ok (.invokestatic 20, 3) := by decide +kernel
theorem dX6_keep_24 : decode cX6_keep 24 = .ok (.aload_n 0, 1) := by decide +kernel
theorem dX6_keep_25 : decode cX6_keep 25 = .ok (.getfield 13, 3) := by decide +kernel
theorem dX6_keep_28 : decode cX6_keep 28 = .ok (.iconst 1, 1) := by decide +kernel
theorem dX6_keep_29 : decode cX6_keep 29 = .ok (.aload_n 0, 1) := by decide +kernel
theorem dX6_keep_30 : decode cX6_keep 30 = .ok (.getfield 13, 3) := by decide +kernel
theorem dX6_keep_33 : decode cX6_keep 33 = .ok (.iconst 0, 1) := by decide +kernel
theorem dX6_keep_34 : decode cX6_keep 34 = .ok (.bipush 15, 2) := by decide +kernel
theorem dX6_keep_36 : decode cX6_keep 36 = .ok (.invokestatic 20, 3) := by decide +kernel
theorem dX6_keep_39 : decode cX6_keep 39 = .ok (.aload_n 0, 1) := by decide +kernel
theorem dX6_keep_40 : decode cX6_keep 40 = .ok (.bipush 15, 2) := by decide +kernel
theorem dX6_keep_42 : decode cX6_keep 42 = .ok (.putfield 16, 3) := by decide +kernel
theorem dX6_keep_45 : decode cX6_keep 45 = .ok (.aload_n 0, 1) := by decide +kernel
theorem dX6_keep_46 : decode cX6_keep 46 = .ok (.getfield 9, 3) := by decide +kernel
theorem dX6_keep_49 : decode cX6_keep 49 = .ok (.aload_n 0, 1) := by decide +kernel
theorem dX6_keep_50 : decode cX6_keep 50 = .ok (.getfield 16, 3) := by decide +kernel
theorem dX6_keep_53 : decode cX6_keep 53 = .ok (.iload_n 1, 1) := by decide +kernel
theorem dX6_keep_54 : decode cX6_keep 54 = .ok (.iastore, 1) := by decide +kernel
theorem dX6_keep_55 : decode cX6_keep 55 = .ok (.aload_n 0, 1) := by decide +kernel
theorem dX6_keep_56 : decode cX6_keep 56 = .ok (.getfield 13, 3) := by decide +kernel
theorem dX6_keep_59 : decode cX6_keep 59 = .ok (.aload_n 0, 1) := by decide +kernel
theorem dX6_keep_60 : decode cX6_keep 60 = .ok (.getfield 16, 3) := by decide +kernel
theorem dX6_keep_63 : decode cX6_keep 63 = .ok (.iload_n 2, 1) := by decide +kernel
theorem dX6_keep_64 : decode cX6_keep 64 = .ok (.iastore, 1) := by decide +kernel
theorem dX6_keep_65 : decode cX6_keep 65 = .ok (.aload_n 0, 1) := by decide +kernel
theorem dX6_keep_66 : decode cX6_keep 66 = .ok (.dup, 1) := by decide +kernel
theorem dX6_keep_67 : decode cX6_keep 67 = .ok (.getfield 16, 3) := by decide +kernel
theorem dX6_keep_70 : decode cX6_keep 70 = .ok (.iconst 1, 1) := by decide +kernel
theorem dX6_keep_71 : decode cX6_keep 71 = .ok (.iadd, 1) := by decide +kernel
theorem dX6_keep_72 : decode cX6_keep 72 = .ok (.putfield 16, 3) := by decide +kernel
theorem dX6_keep_75 : decode cX6_keep 75 = .ok (.return_, 1) := by decide +kernel
theorem dX6_takeBack_0 : decode cX6_takeBack 0 = .ok (.aload_n 0, 1) := by decide +kernel
theorem dX6_takeBack_1 : decode cX6_takeBack 1 = .ok (.getfield 16, 3) := by decide +kernel
theorem dX6_takeBack_4 : decode cX6_takeBack 4 = .ok (.ifCond .le 12, 3) := by decide +kernel
theorem dX6_takeBack_7 : decode cX6_takeBack 7 = .ok (.aload_n 0, 1) := by decide +kernel
theorem dX6_takeBack_8 : decode cX6_takeBack 8 = .ok (.getfield 16, 3) := by decide +kernel
theorem dX6_takeBack_11 : decode cX6_takeBack 11 = .ok (.bipush 16, 2) := by decide +kernel
theorem dX6_takeBack_13 : decode cX6_takeBack 13 = .ok (.if_icmp .le 5, 3) := by decide +kernel
theorem dX6_takeBack_16 : decode cX6_takeBack 16 = .ok (.iconst 0, 1) := by decide +kernel
theorem dX6_takeBack_17 : decode cX6_takeBack 17 = .ok (.ireturn, 1) := by decide +kernel
theorem dX6_takeBack_18 : decode cX6_takeBack 18 = .ok (.aload_n 0, 1) := by decide +kernel
theorem dX6_takeBack_19 : decode cX6_takeBack 19 = .ok (.dup, 1) := by decide +kernel
theorem dX6_takeBack_20 : decode cX6_takeBack 20 = .ok (.getfield 16, 3) := by decide +kernel
theorem dX6_takeBack_23 : decode cX6_takeBack 23 = .ok (.iconst 1, 1) := by decide +kernel
theorem dX6_takeBack_24 : decode cX6_takeBack 24 = .ok (.isub, 1) := by decide +kernel
theorem dX6_takeBack_25 : decode cX6_takeBack 25 = .ok (.putfield 16, 3) := by decide +kernel
theorem dX6_takeBack_28 : decode cX6_takeBack 28 = .ok (.aload_n 1, 1) := by decide +kernel
theorem dX6_takeBack_29 : decode cX6_takeBack 29 = .ok (.aload_n 0, 1) := by decide +kernel
theorem dX6_takeBack_30 : decode cX6_takeBack 30 = .ok (.getfield 9, 3) := by decide +kernel
theorem dX6_takeBack_33 : decode cX6_takeBack 33 = .ok (.aload_n 0, 1) := by decide +kernel
theorem dX6_takeBack_34 : decode cX6_takeBack 34 = .ok (.getfield 16, 3) := by decide +kernel
theorem dX6_takeBack_37 : decode cX6_takeBack 37 = .ok (.iaload, 1) := by decide +kernel
theorem dX6_takeBack_38 : decode cX6_takeBack 38 = .ok (.aload_n 0, 1) := by decide +kernel
theorem dX6_takeBack_39 : decode cX6_takeBack 39 = .ok (.getfield 13, 3) := by decide +kernel
theorem dX6_takeBack_42 : decode cX6_takeBack 42 = .ok (.aload_n 0, 1) := by decide +kernel
theorem dX6_takeBack_43 : decode cX6_takeBack 43 = .ok (.getfield 16, 3) := by decide +kernel
theorem dX6_takeBack_46 : decode cX6_takeBack 46 = .ok (.iaload, 1) := by decide +kernel
theorem dX6_takeBack_47 : decode cX6_takeBack 47 = .ok (.invokevirtual 26, 3) := by decide +kernel
theorem dX6_takeBack_50 : decode cX6_takeBack 50 = .ok (.pop, 1) := by decide +kernel
theorem dX6_takeBack_51 : decode cX6_takeBack 51 = .ok (.iconst 1, 1) := by decide +kernel
theorem dX6_takeBack_52 : decode cX6_takeBack 52 = .ok (.ireturn, 1) := by decide +kernel
theorem dX8_makeRoom_0 : decode cX8_makeRoom 0 = .ok (.aload_n 0, 1) := by decide +kernel
theorem dX8_makeRoom_1 : decode cX8_makeRoom 1 = .ok (.getfield 47, 3) := by decide +kernel
theorem dX8_makeRoom_4 : decode cX8_makeRoom 4 = .ok (.aload_n 0, 1) := by decide +kernel
theorem dX8_makeRoom_5 : decode cX8_makeRoom 5 = .ok (.getfield 18, 3) := by decide +kernel
theorem dX8_makeRoom_8 : decode cX8_makeRoom 8 = .ok (.arraylength, 1) := by decide +kernel
theorem dX8_makeRoom_9 : decode cX8_makeRoom 9 = .ok (.if_icmp .le 45, 3) := by decide +kernel
theorem dX8_makeRoom_12 : decode cX8_makeRoom 12 = .ok (.aload_n 0, 1) := by decide +kernel
theorem dX8_makeRoom_13 : decode cX8_makeRoom 13 = .ok (.getfield 47, 3) := by decide +kernel
theorem dX8_makeRoom_16 : decode cX8_makeRoom 16 = .ok (.iconst 2, 1) := by decide +kernel
theorem dX8_makeRoom_17 : decode cX8_makeRoom 17 = .ok (.aload_n 0, 1) := by decide +kernel
theorem dX8_makeRoom_18 : decode cX8_makeRoom 18 = .ok (.getfield 18, 3) := by decide +kernel
theorem dX8_makeRoom_21 : decode cX8_makeRoom 21 = .ok (.arraylength, 1) := by decide +kernel
theorem dX8_makeRoom_22 : decode cX8_makeRoom 22 = .ok (.imul, 1) := by decide +kernel
theorem dX8_makeRoom_23 : decode cX8_makeRoom 23 = .ok (.invokestatic 72, 3) := by decide +kernel
theorem dX8_makeRoom_26 : decode cX8_makeRoom 26 = .ok (.sipush 6561, 3) := by decide +kernel
theorem dX8_makeRoom_29 : decode cX8_makeRoom 29 = .ok (.invokestatic 41, 3) := by decide +kernel
theorem dX8_makeRoom_32 : decode cX8_makeRoom 32 = .ok (.istore_n 1, 1) := by decide +kernel
theorem dX8_makeRoom_33 : decode cX8_makeRoom 33 = .ok (.aload_n 0, 1) := by decide +kernel
theorem dX8_makeRoom_34 : decode cX8_makeRoom 34 = .ok (.iload_n 1, 1) := by decide +kernel
theorem dX8_makeRoom_35 : decode cX8_makeRoom 35 = .ok (.newarray .int, 2) := by decide +kernel
theorem dX8_makeRoom_37 : decode cX8_makeRoom 37 = .ok (.putfield 18, 3) := by decide +kernel
theorem dX8_makeRoom_40 : decode cX8_makeRoom 40 = .ok (.aload_n 0, 1) := by decide +kernel
theorem dX8_makeRoom_41 : decode cX8_makeRoom 41 = .ok (.iload_n 1, 1) := by decide +kernel
theorem dX8_makeRoom_42 : decode cX8_makeRoom 42 = .ok (.newarray .int, 2) := by decide +kernel
theorem dX8_makeRoom_44 : decode cX8_makeRoom 44 = .ok (.putfield 22, 3) := by decide +kernel
theorem dX8_makeRoom_47 : decode cX8_makeRoom 47 = .ok (.aload_n 0, 1) := by decide +kernel
theorem dX8_makeRoom_48 : decode cX8_makeRoom 48 = .ok (.iload_n 1, 1) := by decide +kernel
theorem dX8_makeRoom_49 : decode cX8_makeRoom 49 = .ok (.newarray .int, 2) := by decide +kernel
theorem dX8_makeRoom_51 : decode cX8_makeRoom 51 = .ok (.putfield 25, 3) := by decide +kernel
theorem dX8_makeRoom_54 : decode cX8_makeRoom 54 = .ok (.return_, 1) := by decide +kernel
theorem dX8_nextDigits_0 : decode cX8_nextDigits 0 = .ok (.aload_n 0, 1) := by decide +kernel
theorem dX8_nextDigits_1 : decode cX8_nextDigits 1 = .ok (.getfield 31, 3) := by decide +kernel
theorem dX8_nextDigits_4 : decode cX8_nextDigits 4 = .ok (.getfield 75, 3) := by decide +kernel
theorem dX8_nextDigits_7 : decode cX8_nextDigits 7 = .ok (.iconst 4, 1) := by decide +kernel
theorem dX8_nextDigits_8 : decode cX8_nextDigits 8 = .ok (.invokestatic 41, 3) := by decide +kernel
theorem dX8_nextDigits_11 : decode cX8_nextDigits 11 = .ok (.iconst 1, 1) := by decide +kernel
theorem dX8_nextDigits_12 : decode cX8_nextDigits 12 = .ok (.isub, 1) := by decide +kernel
theorem dX8_nextDigits_13 : decode cX8_nextDigits 13 = .ok (.istore_n 1, 1) := by decide +kernel
theorem dX8_nextDigits_14 : decode cX8_nextDigits 14 = .ok (.iload_n 1, 1) := by decide +kernel
theorem dX8_nextDigits_15 : decode cX8_nextDigits 15 = .ok (.ifCond .lt 45, 3) := by decide +kernel
theorem dX8_nextDigits_18 : decode cX8_nextDigits 18 = .ok (.aload_n 0, 1) := by decide +kernel
theorem dX8_nextDigits_19 : decode cX8_nextDigits 19 = .ok (.getfield 28, 3) := by decide +kernel
theorem dX8_nextDigits_22 : decode cX8_nextDigits 22 = .ok (.iload_n 1, 1) := by decide +kernel
theorem dX8_nextDigits_23 : decode cX8_nextDigits 23 = .ok (.dup2, 1) := by decide +kernel
theorem dX8_nextDigits_24 : decode cX8_nextDigits 24 = .ok (.iaload, 1) := by decide +kernel
theorem dX8_nextDigits_25 : decode cX8_nextDigits 25 = .ok (.iconst 1, 1) := by decide +kernel
theorem dX8_nextDigits_26 : decode cX8_nextDigits 26 = .ok (.iadd, 1) := by decide +kernel
theorem dX8_nextDigits_27 : decode cX8_nextDigits 27 = .ok (.iastore, 1) := by decide +kernel
theorem dX8_nextDigits_28 : decode cX8_nextDigits 28 = .ok (.aload_n 0, 1) := by decide +kernel
theorem dX8_nextDigits_29 : decode cX8_nextDigits 29 = .ok (.getfield 28, 3) := by decide +kernel
theorem dX8_nextDigits_32 : decode cX8_nextDigits 32 = .ok (.iload_n 1, 1) := by decide +kernel
theorem dX8_nextDigits_33 : decode cX8_nextDigits 33 = .ok (.iaload, 1) := by decide +kernel
theorem dX8_nextDigits_34 : decode cX8_nextDigits 34 = .ok (.aload_n 0, 1) := by decide +kernel
theorem dX8_nextDigits_35 : decode cX8_nextDigits 35 = .ok (.getfield 31, 3) := by decide +kernel
theorem dX8_nextDigits_38 : decode cX8_nextDigits 38 = .ok (.getfield 82, 3) := by decide +kernel
theorem dX8_nextDigits_41 : decode cX8_nextDigits 41 = .ok (.iload_n 1, 1) := by decide +kernel
theorem dX8_nextDigits_42 : decode cX8_nextDigits 42 = .ok (.iaload, 1) := by decide +kernel
theorem dX8_nextDigits_43 : decode cX8_nextDigits 43 = .ok (.if_icmp .ge 4, 3) := by decide +kernel
theorem dX8_nextDigits_46 : decode cX8_nextDigits 46 = .ok (.return_, 1) := by decide +kernel
theorem dX8_nextDigits_47 : decode cX8_nextDigits 47 = .ok (.aload_n 0, 1) := by decide +kernel
theorem dX8_nextDigits_48 : decode cX8_nextDigits 48 = .ok (.getfield 28, 3) := by decide +kernel
theorem dX8_nextDigits_51 : decode cX8_nextDigits 51 = .ok (.iload_n 1, 1) := by decide +kernel
theorem dX8_nextDigits_52 : decode cX8_nextDigits 52 = .ok (.iconst 0, 1) := by decide +kernel
theorem dX8_nextDigits_53 : decode cX8_nextDigits 53 = .ok (.iastore, 1) := by decide +kernel
theorem dX8_nextDigits_54 : decode cX8_nextDigits 54 = .ok (.iinc 1 (-1), 3) := by decide +kernel
theorem dX8_nextDigits_57 : decode cX8_nextDigits 57 = .ok (.goto (-43), 3) := by decide +kernel
theorem dX8_nextDigits_60 : decode cX8_nextDigits 60 = .ok (.return_, 1) := by decide +kernel
theorem dX8_packDigits_0 : decode cX8_packDigits 0 = .ok (.iconst 0, 1) := by decide +kernel
theorem dX8_packDigits_1 : decode cX8_packDigits 1 = .ok (.istore_n 1, 1) := by decide +kernel
theorem dX8_packDigits_2 : decode cX8_packDigits 2 = .ok (.iconst 0, 1) := by decide +kernel
theorem dX8_packDigits_3 : decode cX8_packDigits 3 = .ok (.istore_n 2, 1) := by decide +kernel
theorem dX8_packDigits_4 : decode cX8_packDigits 4 = .ok (.iload_n 2, 1) := by decide +kernel
theorem dX8_packDigits_5 : decode cX8_packDigits 5 = .ok (.aload_n 0, 1) := by decide +kernel
theorem dX8_packDigits_6 : decode cX8_packDigits 6 = .ok (.getfield 31, 3) := by decide +kernel
theorem dX8_packDigits_9 : decode cX8_packDigits 9 = .ok (.getfield 75, 3) := by decide +kernel
theorem dX8_packDigits_12 : decode cX8_packDigits 12 = .ok (.if_icmp .ge 37, 3) := by decide +kernel
theorem dX8_packDigits_15 : decode cX8_packDigits 15 = .ok (.iload_n 2, 1) := by decide +kernel
theorem dX8_packDigits_16 : decode cX8_packDigits 16 = .ok (.iconst 4, 1) := by decide +kernel
theorem dX8_packDigits_17 : decode cX8_packDigits 17 = .ok (.if_icmp .ge 32, 3) := by decide +kernel
theorem dX8_packDigits_20 : decode cX8_packDigits 20 = .ok (.iload_n 1, 1) := by decide +kernel
theorem dX8_packDigits_21 : decode cX8_packDigits 21 = .ok (.aload_n 0, 1) := by decide +kernel
theorem dX8_packDigits_22 : decode cX8_packDigits 22 = .ok (.getfield 31, 3) := by decide +kernel
theorem dX8_packDigits_25 : decode cX8_packDigits 25 = .ok (.getfield 78, 3) := by decide +kernel
theorem dX8_packDigits_28 : decode cX8_packDigits 28 = .ok (.iload_n 2, 1) := by decide +kernel
theorem dX8_packDigits_29 : decode cX8_packDigits 29 = .ok (.aaload, 1) := by decide +kernel
theorem dX8_packDigits_30 : decode cX8_packDigits 30 = .ok (.aload_n 0, 1) := by decide +kernel
theorem dX8_packDigits_31 : decode cX8_packDigits 31 = .ok (.getfield 28, 3) := by decide +kernel
theorem dX8_packDigits_34 : decode cX8_packDigits 34 = .ok (.iload_n 2, 1) := by decide +kernel
theorem dX8_packDigits_35 : decode cX8_packDigits 35 = .ok (.iaload, 1) := by decide +kernel
theorem dX8_packDigits_36 : decode cX8_packDigits 36 = .ok (.iaload, 1) := by decide +kernel
theorem dX8_packDigits_37 : decode cX8_packDigits 37 = .ok (.iconst 4, 1) := by decide +kernel
theorem dX8_packDigits_38 : decode cX8_packDigits 38 = .ok (.iload_n 2, 1) := by decide +kernel
theorem dX8_packDigits_39 : decode cX8_packDigits 39 = .ok (.imul, 1) := by decide +kernel
theorem dX8_packDigits_40 : decode cX8_packDigits 40 = .ok (.ishl, 1) := by decide +kernel
theorem dX8_packDigits_41 : decode cX8_packDigits 41 = .ok (.ior, 1) := by decide +kernel
theorem dX8_packDigits_42 : decode cX8_packDigits 42 = .ok (.istore_n 1, 1) := by decide +kernel
theorem dX8_packDigits_43 : decode cX8_packDigits 43 = .ok (.iinc 2 1, 3) := by decide +kernel
theorem dX8_packDigits_46 : decode cX8_packDigits 46 = .ok (.goto (-42), 3) := by decide +kernel
theorem dX8_packDigits_49 : decode cX8_packDigits 49 = .ok (.iload_n 1, 1) := by decide +kernel
theorem dX8_packDigits_50 : decode cX8_packDigits 50 = .ok (.ireturn, 1) := by decide +kernel
theorem dX8_lay_0 : decode cX8_lay 0 = .ok (.aload_n 0, 1) := by decide +kernel
theorem dX8_lay_1 : decode cX8_lay 1 = .ok (.aload_n 1, 1) := by decide +kernel
theorem dX8_lay_2 : decode cX8_lay 2 = .ok (.putfield 31, 3) := by decide +kernel
theorem dX8_lay_5 : decode cX8_lay 5 = .ok (.aload_n 0, 1) := by decide +kernel
theorem dX8_lay_6 : decode cX8_lay 6 = .ok (.aload_n 0, 1) := by decide +kernel
theorem dX8_lay_7 : decode cX8_lay 7 = .ok (.getfield 31, 3) := by decide +kernel
theorem dX8_lay_10 : decode cX8_lay 10 = .ok (.invokevirtual 35, 3) := by decide +kernel
theorem dX8_lay_13 : decode cX8_lay 13 = .ok (.sipush 6561, 3) := by decide +kernel
theorem dX8_lay_16 : decode cX8_lay 16 = .ok (.invokestatic 41, 3) := by decide +kernel
theorem dX8_lay_19 : decode cX8_lay 19 = .ok (.putfield 47, 3) := by decide +kernel
theorem dX8_lay_22 : decode cX8_lay 22 = .ok (.aload_n 0, 1) := by decide +kernel
theorem dX8_lay_23 : decode cX8_lay 23 = .ok (.iconst 0, 1) := by decide +kernel
theorem dX8_lay_24 : decode cX8_lay 24 = .ok (.putfield 51, 3) := by decide +kernel
theorem dX8_lay_27 : decode cX8_lay 27 = .ok (.aload_n 0, 1) := by decide +kernel
theorem dX8_lay_28 : decode cX8_lay 28 = .ok (.invokevirtual 54, 3) := by decide +kernel
theorem dX8_lay_31 : decode cX8_lay 31 = .ok (.aload_n 0, 1) := by decide +kernel
theorem dX8_lay_32 : decode cX8_lay 32 = .ok (.getfield 28, 3) := by decide +kernel
theorem dX8_lay_35 : decode cX8_lay 35 = .ok (.iconst 0, 1) := by decide +kernel
theorem dX8_lay_36 : decode cX8_lay 36 = .ok (.invokestatic 57, 3) := by decide +kernel
theorem dX8_lay_39 : decode cX8_lay 39 = .ok (.iconst 0, 1) := by decide +kernel
theorem dX8_lay_40 : decode cX8_lay 40 = .ok (.istore_n 2, 1) := by decide +kernel
theorem dX8_lay_41 : decode cX8_lay 41 = .ok (.iload_n 2, 1) := by decide +kernel
theorem dX8_lay_42 : decode cX8_lay 42 = .ok (.aload_n 0, 1) := by decide +kernel
theorem dX8_lay_43 : decode cX8_lay 43 = .ok (.getfield 47, 3) := by decide +kernel
theorem dX8_lay_46 : decode cX8_lay 46 = .ok (.if_icmp .ge 88, 3) := by decide +kernel
theorem dX8_lay_49 : decode cX8_lay 49 = .ok (.iload_n 2, 1) := by decide +kernel
theorem dX8_lay_50 : decode cX8_lay 50 = .ok (.aload_n 0, 1) := by decide +kernel
theorem dX8_lay_51 : decode cX8_lay 51 = .ok (.getfield 18, 3) := by decide +kernel
theorem dX8_lay_54 : decode cX8_lay 54 = .ok (.arraylength, 1) := by decide +kernel
theorem dX8_lay_55 : decode cX8_lay 55 = .ok (.if_icmp .ge 79, 3) := by decide +kernel
theorem dX8_lay_58 : decode cX8_lay 58 = .ok (.aload_n 0, 1) := by decide +kernel
theorem dX8_lay_59 : decode cX8_lay 59 = .ok (.invokevirtual 63, 3) := by decide +kernel
theorem dX8_lay_62 : decode cX8_lay 62 = .ok (.istore_n 3, 1) := by decide +kernel
theorem dX8_lay_63 : decode cX8_lay 63 = .ok (.aload_n 0, 1) := by decide +kernel
theorem dX8_lay_64 : decode cX8_lay 64 = .ok (.getfield 31, 3) := by decide +kernel
theorem dX8_lay_67 : decode cX8_lay 67 = .ok (.iload_n 3, 1) := by decide +kernel
theorem dX8_lay_68 : decode cX8_lay 68 = .ok (.iconst 2, 1) := by decide +kernel
theorem dX8_lay_69 : decode cX8_lay 69 = .ok (.invokevirtual 66, 3) := by decide +kernel
theorem dX8_lay_72 : decode cX8_lay 72 = .ok (.istore 4, 2) := by decide +kernel
theorem dX8_lay_74 : decode cX8_lay 74 = .ok (.aload_n 0, 1) := by decide +kernel
theorem dX8_lay_75 : decode cX8_lay 75 = .ok (.getfield 18, 3) := by decide +kernel
theorem dX8_lay_78 : decode cX8_lay 78 = .ok (.iload_n 2, 1) := by decide +kernel
theorem dX8_lay_79 : decode cX8_lay 79 = .ok (.iload_n 3, 1) := by decide +kernel
theorem dX8_lay_80 : decode cX8_lay 80 = .ok (.iload 4, 2) := by decide +kernel
theorem dX8_lay_82 : decode cX8_lay 82 = .ok (.bipush 16, 2) := by decide +kernel
theorem dX8_lay_84 : decode cX8_lay 84 = .ok (.ishl, 1) := by decide +kernel
theorem dX8_lay_85 : decode cX8_lay 85 = .ok (.ior, 1) := by decide +kernel
theorem dX8_lay_86 : decode cX8_lay 86 = .ok (.iastore, 1) := by decide +kernel
theorem dX8_lay_87 : decode cX8_lay 87 = .ok (.iload 4, 2) := by decide +kernel
theorem dX8_lay_89 : decode cX8_lay 89 = .ok (.ifCond .ne 35, 3) := by decide +kernel
theorem dX8_lay_92 : decode cX8_lay 92 = .ok (.aload_n 0, 1) := by decide +kernel
theorem dX8_lay_93 : decode cX8_lay 93 = .ok (.getfield 51, 3) := by decide +kernel
theorem dX8_lay_96 : decode cX8_lay 96 = .ok (.aload_n 0, 1) := by decide +kernel
theorem dX8_lay_97 : decode cX8_lay 97 = .ok (.getfield 25, 3) := by decide +kernel
theorem dX8_lay_100 : decode cX8_lay 100 = .ok (.arraylength, 1) := by decide +kernel
theorem dX8_lay_101 : decode cX8_lay 101 = .ok (.if_icmp .ge 23, 3) := by decide +kernel
theorem dX8_lay_104 : decode cX8_lay 104 = .ok (.aload_n 0, 1) := by decide +kernel
theorem dX8_lay_105 : decode cX8_lay 105 = .ok (.getfield 25, 3) := by decide +kernel
theorem dX8_lay_108 : decode cX8_lay 108 = .ok (.aload_n 0, 1) := by decide +kernel
theorem dX8_lay_109 : decode cX8_lay 109 = .ok (.getfield 51, 3) := by decide +kernel
theorem dX8_lay_112 : decode cX8_lay 112 = .ok (.iload_n 3, 1) := by decide +kernel
theorem dX8_lay_113 : decode cX8_lay 113 = .ok (.iastore, 1) := by decide +kernel
theorem dX8_lay_114 : decode cX8_lay 114 = .ok (.aload_n 0, 1) := by decide +kernel
theorem dX8_lay_115 : decode cX8_lay 115 = .ok (.dup, 1) := by decide +kernel
theorem dX8_lay_116 : decode cX8_lay 116 = .ok (.getfield 51, 3) := by decide +kernel
theorem dX8_lay_119 : decode cX8_lay 119 = .ok (.iconst 1, 1) := by decide +kernel
theorem dX8_lay_120 : decode cX8_lay 120 = .ok (.iadd, 1) := by decide +kernel
theorem dX8_lay_121 : decode cX8_lay 121 = .ok (.putfield 51, 3) := by decide +kernel
theorem dX8_lay_124 : decode cX8_lay 124 = .ok (.aload_n 0, 1) := by decide +kernel
theorem dX8_lay_125 : decode cX8_lay 125 = .ok (.invokevirtual 69, 3) := by decide +kernel
theorem dX8_lay_128 : decode cX8_lay 128 = .ok (.iinc 2 1, 3) := by decide +kernel
theorem dX8_lay_131 : decode cX8_lay 131 = .ok (.goto (-90), 3) := by decide +kernel
theorem dX8_lay_134 : decode cX8_lay 134 = .ok (.aload_n 0, 1) := by decide +kernel
theorem dX8_lay_135 : decode cX8_lay 135 = .ok (.iconst 0, 1) := by decide +kernel
theorem dX8_lay_136 : decode cX8_lay 136 = .ok (.putfield 9, 3) := by decide +kernel
theorem dX8_lay_139 : decode cX8_lay 139 = .ok (.return_, 1) := by decide +kernel
theorem dX8_choose_0 : decode cX8_choose 0 = .ok (.aload_n 0, 1) := by decide +kernel
theorem dX8_choose_1 : decode cX8_choose 1 = .ok (.iconst 0, 1) := by decide +kernel
theorem dX8_choose_2 : decode cX8_choose 2 = .ok (.putfield 85, 3) := by decide +kernel
theorem dX8_choose_5 : decode cX8_choose 5 = .ok (.iconst 0, 1) := by decide +kernel
theorem dX8_choose_6 : decode cX8_choose 6 = .ok (.istore_n 2, 1) := by decide +kernel
theorem dX8_choose_7 : decode cX8_choose 7 = .ok (.iload_n 2, 1) := by decide +kernel
theorem dX8_choose_8 : decode cX8_choose 8 = .ok (.aload_n 0, 1) := by decide +kernel
theorem dX8_choose_9 : decode cX8_choose 9 = .ok (.getfield 51, 3) := by decide +kernel
theorem dX8_choose_12 : decode cX8_choose 12 = .ok (.if_icmp .ge 72, 3) := by decide +kernel
theorem dX8_choose_15 : decode cX8_choose 15 = .ok (.iload_n 2, 1) := by decide +kernel
theorem dX8_choose_16 : decode cX8_choose 16 = .ok (.aload_n 0, 1) := by decide +kernel
theorem dX8_choose_17 : decode cX8_choose 17 = .ok (.getfield 25, 3) := by decide +kernel
theorem dX8_choose_20 : decode cX8_choose 20 = .ok (.arraylength, 1) := by decide +kernel
theorem dX8_choose_21 : decode cX8_choose 21 = .ok (.if_icmp .ge 63, 3) := by decide +kernel
theorem dX8_choose_24 : decode cX8_choose 24 = .ok (.aload_n 1, 1) := by decide +kernel
theorem dX8_choose_25 : decode cX8_choose 25 = .ok (.aload_n 0, 1) := by decide +kernel
theorem dX8_choose_26 : decode cX8_choose 26 = .ok (.getfield 25, 3) := by decide +kernel
theorem dX8_choose_29 : decode cX8_choose 29 = .ok (.iload_n 2, 1) := by decide +kernel
theorem dX8_choose_30 : decode cX8_choose 30 = .ok (.iaload, 1) := by decide +kernel
theorem dX8_choose_31 : decode cX8_choose 31 = .ok (.aload_n 0, 1) := by decide +kernel
theorem dX8_choose_32 : decode cX8_choose 32 = .ok (.getfield 31, 3) := by decide +kernel
theorem dX8_choose_35 : decode cX8_choose 35 = .ok (.invokevirtual 88, 3) := by decide +kernel
theorem dX8_choose_38 : decode cX8_choose 38 = .ok (.ifCond .eq 40, 3) := by decide +kernel
theorem dX8_choose_41 : decode cX8_choose 41 = .ok (.aload_n 0, 1) := by decide +kernel
theorem dX8_choose_42 : decode cX8_choose 42 = .ok (.getfield 85, 3) := by decide +kernel
theorem dX8_choose_45 : decode cX8_choose 45 = .ok (.aload_n 0, 1) := by decide +kernel
theorem dX8_choose_46 : decode cX8_choose 46 = .ok (.getfield 22, 3) := by decide +kernel
theorem dX8_choose_49 : decode cX8_choose 49 = .ok (.arraylength, 1) := by decide +kernel
theorem dX8_choose_50 : decode cX8_choose 50 = .ok (.if_icmp .ge 28, 3) := by decide +kernel
theorem dX8_choose_53 : decode cX8_choose 53 = .ok (.aload_n 0, 1) := by decide +kernel
theorem dX8_choose_54 : decode cX8_choose 54 = .ok (.getfield 22, 3) := by decide +kernel
theorem dX8_choose_57 : decode cX8_choose 57 = .ok (.aload_n 0, 1) := by decide +kernel
theorem dX8_choose_58 : decode cX8_choose 58 = .ok (.getfield 85, 3) := by decide +kernel
theorem dX8_choose_61 : decode cX8_choose 61 = .ok (.aload_n 0, 1) := by decide +kernel
theorem dX8_choose_62 : decode cX8_choose 62 = .ok (.getfield 25, 3) := by decide +kernel
theorem dX8_choose_65 : decode cX8_choose 65 = .ok (.iload_n 2, 1) := by decide +kernel
theorem dX8_choose_66 : decode cX8_choose 66 = .ok (.iaload, 1) := by decide +kernel
theorem dX8_choose_67 : decode cX8_choose 67 = .ok (.iastore, 1) := by decide +kernel
theorem dX8_choose_68 : decode cX8_choose 68 = .ok (.aload_n 0, 1) := by decide +kernel
theorem dX8_choose_69 : decode cX8_choose 69 = .ok (.dup, 1) := by decide +kernel
theorem dX8_choose_70 : decode cX8_choose 70 = .ok (.getfield 85, 3) := by decide +kernel
theorem dX8_choose_73 : decode cX8_choose 73 = .ok (.iconst 1, 1) := by decide +kernel
theorem dX8_choose_74 : decode cX8_choose 74 = .ok (.iadd, 1) := by decide +kernel
theorem dX8_choose_75 : decode cX8_choose 75 = .ok (.putfield 85, 3) := by decide +kernel
theorem dX8_choose_78 : decode cX8_choose 78 = .ok (.iinc 2 1, 3) := by decide +kernel
theorem dX8_choose_81 : decode cX8_choose 81 = .ok (.goto (-74), 3) := by decide +kernel
theorem dX8_choose_84 : decode cX8_choose 84 = .ok (.aload_n 0, 1) := by decide +kernel
theorem dX8_choose_85 : decode cX8_choose 85 = .ok (.iconst 0, 1) := by decide +kernel
theorem dX8_choose_86 : decode cX8_choose 86 = .ok (.putfield 15, 3) := by decide +kernel
theorem dX8_choose_89 : decode cX8_choose 89 = .ok (.return_, 1) := by decide +kernel
theorem dX8_isLess_0 : decode cX8_isLess 0 = .ok (.iload_n 0, 1) := by decide +kernel
theorem dX8_isLess_1 : decode cX8_isLess 1 = .ok (.invokestatic 106, 3) := by decide +kernel
theorem dX8_isLess_4 : decode cX8_isLess 4 = .ok (.iload_n 1, 1) := by decide +kernel
theorem dX8_isLess_5 : decode cX8_isLess 5 = .ok (.invokestatic 106, 3) := by decide +kernel
theorem dX8_isLess_8 : decode cX8_isLess 8 = .ok (.isub, 1) := by decide +kernel
theorem dX8_isLess_9 : decode cX8_isLess 9 = .ok (.istore_n 2, 1) := by decide +kernel
theorem dX8_isLess_10 : decode cX8_isLess 10 = .ok (.iload_n 2, 1) := by decide +kernel
theorem dX8_isLess_11 : decode cX8_isLess 11 = .ok (.ifCond .lt 12, 3) := by decide +kernel
theorem dX8_isLess_14 : decode cX8_isLess 14 = .ok (.iload_n 2, 1) := by decide +kernel
theorem dX8_isLess_15 : decode cX8_isLess 15 = .ok (.ifCond .ne 12, 3) := by decide +kernel
theorem dX8_isLess_18 : decode cX8_isLess 18 = .ok (.iload_n 0, 1) := by decide +kernel
theorem dX8_isLess_19 : decode cX8_isLess 19 = .ok (.iload_n 1, 1) := by decide +kernel
theorem dX8_isLess_20 : decode cX8_isLess 20 = .ok (.if_icmp .ge 7, 3) := by decide +kernel
theorem dX8_isLess_23 : decode cX8_isLess 23 = .ok (.iconst 1, 1) := by decide +kernel
theorem dX8_isLess_24 : decode cX8_isLess 24 = .ok (.goto 4, 3) := by decide +kernel
theorem dX8_isLess_27 : decode cX8_isLess 27 = .ok (.iconst 0, 1) := by decide +kernel
theorem dX8_isLess_28 : decode cX8_isLess 28 = .ok (.ireturn, 1) := by decide +kernel
theorem dX8_fewestMissed_0 : decode cX8_fewestMissed 0 = .ok (.iconst (-1), 1) := by decide +kernel
theorem dX8_fewestMissed_1 : decode cX8_fewestMissed 1 = .ok (.istore_n 2, 1) := by decide +kernel
theorem dX8_fewestMissed_2 : decode cX8_fewestMissed 2 = .ok (.iconst 0, 1) := by decide +kernel
theorem dX8_fewestMissed_3 : decode cX8_fewestMissed 3 = .ok (.istore_n 3, 1) := by decide +kernel
theorem dX8_fewestMissed_4 : decode cX8_fewestMissed 4 = .ok (.iload_n 3, 1) := by decide +kernel
theorem dX8_fewestMissed_5 : decode cX8_fewestMissed 5 = .ok (.aload_n 0, 1) := by decide +kernel
theorem dX8_fewestMissed_6 : decode cX8_fewestMissed 6 = .ok (.getfield 51, 3) := by decide +kernel
theorem dX8_fewestMissed_9 : decode cX8_fewestMissed 9 = .ok (.if_icmp .ge 68, 3) := by decide +kernel
theorem dX8_fewestMissed_12 : decode cX8_fewestMissed 12 = .ok (.iload_n 3, 1) := by decide +kernel
theorem dX8_fewestMissed_13 : decode cX8_fewestMissed 13 = .ok (.aload_n 0, 1) := by decide +kernel
theorem dX8_fewestMissed_14 : decode cX8_fewestMissed 14 = .ok (.getfield 25, 3) := by decide +kernel
theorem dX8_fewestMissed_17 : decode cX8_fewestMissed 17 = .ok (.arraylength, 1) := by decide +kernel
theorem dX8_fewestMissed_18 : decode cX8_fewestMissed 18 = .ok (.if_icmp .ge 59, 3) := by decide +kernel
theorem dX8_fewestMissed_21 : decode cX8_fewestMissed 21 = .ok (.aload_n 1, 1) := by decide +kernel
theorem dX8_fewestMissed_22 : decode cX8_fewestMissed 22 = .ok (.aload_n 0, 1) := by decide +kernel
theorem dX8_fewestMissed_23 : decode cX8_fewestMissed 23 = .ok (.getfield 25, 3) := by decide +kernel
theorem dX8_fewestMissed_26 : decode cX8_fewestMissed 26 = .ok (.iload_n 3, 1) := by decide +kernel
theorem dX8_fewestMissed_27 : decode cX8_fewestMissed 27 = .ok (.iaload, 1) := by decide +kernel
theorem dX8_fewestMissed_28 : decode cX8_fewestMissed 28 = .ok (.invokevirtual 94, 3) := by decide +kernel
theorem dX8_fewestMissed_31 : decode cX8_fewestMissed 31 = .ok (.ifCond .eq 40, 3) := by decide +kernel
theorem dX8_fewestMissed_34 : decode cX8_fewestMissed 34 = .ok (.aload_n 1, 1) := by decide +kernel
theorem dX8_fewestMissed_35 : decode cX8_fewestMissed 35 = .ok (.aload_n 0, 1) := by decide +kernel
theorem dX8_fewestMissed_36 : decode cX8_fewestMissed 36 = .ok (.getfield 25, 3) := by decide +kernel
theorem dX8_fewestMissed_39 : decode cX8_fewestMissed 39 = .ok (.iload_n 3, 1) := by decide +kernel
theorem dX8_fewestMissed_40 : decode cX8_fewestMissed 40 = .ok (.iaload, 1) := by decide +kernel
theorem dX8_fewestMissed_41 : decode cX8_fewestMissed 41 = .ok (.aload_n 0, 1) := by decide +kernel
theorem dX8_fewestMissed_42 : decode cX8_fewestMissed 42 = .ok (.getfield 31, 3) := by decide +kernel
theorem dX8_fewestMissed_45 : decode cX8_fewestMissed 45 = .ok (.invokevirtual 98, 3) := by decide +kernel
theorem dX8_fewestMissed_48 : decode cX8_fewestMissed 48 = .ok (.istore 4, 2) := by decide +kernel
theorem dX8_fewestMissed_50 : decode cX8_fewestMissed 50 = .ok (.iload_n 2, 1) := by decide +kernel
theorem dX8_fewestMissed_51 : decode cX8_fewestMissed 51 = .ok (.iconst (-1), 1) := by decide +kernel
theorem dX8_fewestMissed_52 : decode cX8_fewestMissed 52 = .ok (.if_icmp .eq 12, 3) := by decide +kernel
theorem dX8_fewestMissed_55 : decode cX8_fewestMissed 55 = .ok (.iload 4, 2) := by decide +kernel
theorem dX8_fewestMissed_57 : decode cX8_fewestMissed 57 = .ok (.iload_n 2, 1) := by decide +kernel
theorem dX8_fewestMissed_58 : decode cX8_fewestMissed 58 = .ok (.invokestatic 102, 3) := by decide +kernel
theorem dX8_fewestMissed_61 : decode cX8_fewestMissed 61 = .ok (.ifCond .eq 8, 3) := by decide +kernel
theorem dX8_fewestMissed_64 : decode cX8_fewestMissed 64 = .ok (.iload 4, 2) := by decide +kernel
theorem dX8_fewestMissed_66 : decode cX8_fewestMissed 66 = .ok (.goto 4, 3) := by decide +kernel
theorem dX8_fewestMissed_69 : decode cX8_fewestMissed 69 = .ok (.iload_n 2, 1) := by decide +kernel
theorem dX8_fewestMissed_70 : decode cX8_fewestMissed 70 = .ok (.istore_n 2, 1) := by decide +kernel
theorem dX8_fewestMissed_71 : decode cX8_fewestMissed 71 = .ok (.iinc 3 1, 3) := by decide +kernel
theorem dX8_fewestMissed_74 : decode cX8_fewestMissed 74 = .ok (.goto (-70), 3) := by decide +kernel
theorem dX8_fewestMissed_77 : decode cX8_fewestMissed 77 = .ok (.iload_n 2, 1) := by decide +kernel
theorem dX8_fewestMissed_78 : decode cX8_fewestMissed 78 = .ok (.ireturn, 1) := by decide +kernel
theorem dX8_neededCounts_0 : decode cX8_neededCounts 0 = .ok (.iconst 0, 1) := by decide +kernel
theorem dX8_neededCounts_1 : decode cX8_neededCounts 1 = .ok (.istore_n 2, 1) := by decide +kernel
theorem dX8_neededCounts_2 : decode cX8_neededCounts 2 = .ok (.iconst 0, 1) := by decide +kernel
theorem dX8_neededCounts_3 : decode cX8_neededCounts 3 = .ok (.istore_n 3, 1) := by decide +kernel
theorem dX8_neededCounts_4 : decode cX8_neededCounts 4 = .ok (.iload_n 3, 1) := by decide +kernel
theorem dX8_neededCounts_5 : decode cX8_neededCounts 5 = .ok (.aload_n 0, 1) := by decide +kernel
theorem dX8_neededCounts_6 : decode cX8_neededCounts 6 = .ok (.getfield 51, 3) := by decide +kernel
theorem dX8_neededCounts_9 : decode cX8_neededCounts 9 = .ok (.if_icmp .ge 61, 3) := by decide +kernel
theorem dX8_neededCounts_12 : decode cX8_neededCounts 12 = .ok (.iload_n 3, 1) := by decide +kernel
theorem dX8_neededCounts_13 : decode cX8_neededCounts 13 = .ok (.aload_n 0, 1) := by decide +kernel
theorem dX8_neededCounts_14 : decode cX8_neededCounts 14 = .ok (.getfield 25, 3) := by decide +kernel
theorem dX8_neededCounts_17 : decode cX8_neededCounts 17 = .ok (.arraylength, 1) := by decide +kernel
theorem dX8_neededCounts_18 : decode cX8_neededCounts 18 = .ok (.if_icmp .ge 52, 3) := by decide +kernel
theorem dX8_neededCounts_21 : decode cX8_neededCounts 21 = .ok (.aload_n 1, 1) := by decide +kernel
theorem dX8_neededCounts_22 : decode cX8_neededCounts 22 = .ok (.aload_n 0, 1) := by decide +kernel
theorem dX8_neededCounts_23 : decode cX8_neededCounts 23 = .ok (.getfield 25, 3) := by decide +kernel
theorem dX8_neededCounts_26 : decode cX8_neededCounts 26 = .ok (.iload_n 3, 1) := by decide +kernel
theorem dX8_neededCounts_27 : decode cX8_neededCounts 27 = .ok (.iaload, 1) := by decide +kernel
theorem dX8_neededCounts_28 : decode cX8_neededCounts 28 = .ok (.aload_n 0, 1) := by decide +kernel
theorem dX8_neededCounts_29 : decode cX8_neededCounts 29 = .ok (.getfield 31, 3) := by decide +kernel
theorem dX8_neededCounts_32 : decode cX8_neededCounts 32 = .ok (.invokevirtual 98, 3) := by decide +kernel
theorem dX8_neededCounts_35 : decode cX8_neededCounts 35 = .ok (.istore 4, 2) := by decide +kernel
theorem dX8_neededCounts_37 : decode cX8_neededCounts 37 = .ok (.iload 4, 2) := by decide +kernel
theorem dX8_neededCounts_39 : decode cX8_neededCounts 39 = .ok (.invokestatic 106, 3) := by decide +kernel
theorem dX8_neededCounts_42 : decode cX8_neededCounts 42 = .ok (.iconst 1, 1) := by decide +kernel
theorem dX8_neededCounts_43 : decode cX8_neededCounts 43 = .ok (.if_icmp .ne 21, 3) := by decide +kernel
theorem dX8_neededCounts_46 : decode cX8_neededCounts 46 = .ok (.aload_n 1, 1) := by decide +kernel
theorem dX8_neededCounts_47 : decode cX8_neededCounts 47 = .ok (.aload_n 0, 1) := by decide +kernel
theorem dX8_neededCounts_48 : decode cX8_neededCounts 48 = .ok (.getfield 25, 3) := by decide +kernel
theorem dX8_neededCounts_51 : decode cX8_neededCounts 51 = .ok (.iload_n 3, 1) := by decide +kernel
theorem dX8_neededCounts_52 : decode cX8_neededCounts 52 = .ok (.iaload, 1) := by decide +kernel
theorem dX8_neededCounts_53 : decode cX8_neededCounts 53 = .ok (.invokevirtual 94, 3) := by decide +kernel
theorem dX8_neededCounts_56 : decode cX8_neededCounts 56 = .ok (.ifCond .eq 8, 3) := by decide +kernel
theorem dX8_neededCounts_59 : decode cX8_neededCounts 59 = .ok (.iload_n 2, 1) := by decide +kernel
theorem dX8_neededCounts_60 : decode cX8_neededCounts 60 = .ok (.iload 4, 2) := by decide +kernel
theorem dX8_neededCounts_62 : decode cX8_neededCounts 62 = .ok (.ior, 1) := by decide +kernel
theorem dX8_neededCounts_63 : decode cX8_neededCounts 63 = .ok (.istore_n 2, 1) := by decide +kernel
theorem dX8_neededCounts_64 : decode cX8_neededCounts 64 = .ok (.iinc 3 1, 3) := by decide +kernel
theorem dX8_neededCounts_67 : decode cX8_neededCounts 67 = .ok (.goto (-63), 3) := by decide +kernel
theorem dX8_neededCounts_70 : decode cX8_neededCounts 70 = .ok (.iload_n 2, 1) := by decide +kernel
theorem dX8_neededCounts_71 : decode cX8_neededCounts 71 = .ok (.ireturn, 1) := by decide +kernel
theorem dX8_heldBackBy_0 : decode cX8_heldBackBy 0 = .ok (.iconst 0, 1) := by decide +kernel
theorem dX8_heldBackBy_1 : decode cX8_heldBackBy 1 = .ok (.istore_n 3, 1) := by decide +kernel
theorem dX8_heldBackBy_2 : decode cX8_heldBackBy 2 = .ok (.iconst 0, 1) := by decide +kernel
theorem dX8_heldBackBy_3 : decode cX8_heldBackBy 3 = .ok (.istore 4, 2) := by decide +kernel
theorem dX8_heldBackBy_5 : decode cX8_heldBackBy 5 = .ok (.iload 4, 2) := by decide +kernel
theorem dX8_heldBackBy_7 : decode cX8_heldBackBy 7 = .ok (.aload_n 0, 1) := by decide +kernel
theorem dX8_heldBackBy_8 : decode cX8_heldBackBy 8 = .ok (.getfield 47, 3) := by decide +kernel
theorem dX8_heldBackBy_11 : decode cX8_heldBackBy 11 = .ok (.if_icmp .ge 56, 3) := by decide +kernel
theorem dX8_heldBackBy_14 : decode cX8_heldBackBy 14 = .ok (.iload 4, 2) := by decide +kernel
theorem dX8_heldBackBy_16 : decode cX8_heldBackBy 16 = .ok (.aload_n 0, 1) := by decide +kernel
theorem dX8_heldBackBy_17 : decode cX8_heldBackBy 17 = .ok (.getfield 18, 3) := by decide +kernel
theorem dX8_heldBackBy_20 : decode cX8_heldBackBy 20 = .ok (.arraylength, 1) := by decide +kernel
theorem dX8_heldBackBy_21 : decode cX8_heldBackBy 21 = .ok (.if_icmp .ge 46, 3) := by decide +kernel
theorem dX8_heldBackBy_24 : decode cX8_heldBackBy 24 = .ok (.aload_n 0, 1) := by decide +kernel
theorem dX8_heldBackBy_25 : decode cX8_heldBackBy 25 = .ok (.getfield 18, 3) := by decide +kernel
theorem dX8_heldBackBy_28 : decode cX8_heldBackBy 28 = .ok (.iload 4, 2) := by decide +kernel
theorem dX8_heldBackBy_30 : decode cX8_heldBackBy 30 = .ok (.iaload, 1) := by decide +kernel
theorem dX8_heldBackBy_31 : decode cX8_heldBackBy 31 = .ok (.invokestatic 112, 3) := by decide +kernel
theorem dX8_heldBackBy_34 : decode cX8_heldBackBy 34 = .ok (.iconst 1, 1) := by decide +kernel
theorem dX8_heldBackBy_35 : decode cX8_heldBackBy 35 = .ok (.iload_n 1, 1) := by decide +kernel
theorem dX8_heldBackBy_36 : decode cX8_heldBackBy 36 = .ok (.ishl, 1) := by decide +kernel
theorem dX8_heldBackBy_37 : decode cX8_heldBackBy 37 = .ok (.if_icmp .ne 24, 3) := by decide +kernel
theorem dX8_heldBackBy_40 : decode cX8_heldBackBy 40 = .ok (.aload_n 2, 1) := by decide +kernel
theorem dX8_heldBackBy_41 : decode cX8_heldBackBy 41 = .ok (.aload_n 0, 1) := by decide +kernel
theorem dX8_heldBackBy_42 : decode cX8_heldBackBy 42 = .ok (.getfield 18, 3) := by decide +kernel
theorem dX8_heldBackBy_45 : decode cX8_heldBackBy 45 = .ok (.iload 4, 2) := by decide +kernel
theorem dX8_heldBackBy_47 : decode cX8_heldBackBy 47 = .ok (.iaload, 1) := by decide +kernel
theorem dX8_heldBackBy_48 : decode cX8_heldBackBy 48 = .ok (.aload_n 0, 1) := by decide +kernel
theorem dX8_heldBackBy_49 : decode cX8_heldBackBy 49 = .ok (.getfield 31, 3) := by decide +kernel
theorem dX8_heldBackBy_52 : decode cX8_heldBackBy 52 = .ok (.invokevirtual 88, 3) := by decide +kernel
theorem dX8_heldBackBy_55 : decode cX8_heldBackBy 55 = .ok (.ifCond .eq 6, 3) := by decide +kernel
theorem dX8_heldBackBy_58 : decode cX8_heldBackBy 58 = .ok (.iinc 3 1, 3) := by decide +kernel
theorem dX8_heldBackBy_61 : decode cX8_heldBackBy 61 = .ok (.iinc 4 1, 3) := by decide +kernel
theorem dX8_heldBackBy_64 : decode cX8_heldBackBy 64 = .ok (.goto (-59), 3) := by decide +kernel
theorem dX8_heldBackBy_67 : decode cX8_heldBackBy 67 = .ok (.iload_n 3, 1) := by decide +kernel
theorem dX8_heldBackBy_68 : decode cX8_heldBackBy 68 = .ok (.ireturn, 1) := by decide +kernel
theorem dX8_alwaysSame_0 : decode cX8_alwaysSame 0 = .ok (.iconst 0, 1) := by decide +kernel
theorem dX8_alwaysSame_1 : decode cX8_alwaysSame 1 = .ok (.istore_n 3, 1) := by decide +kernel
theorem dX8_alwaysSame_2 : decode cX8_alwaysSame 2 = .ok (.iload_n 3, 1) := by decide +kernel
theorem dX8_alwaysSame_3 : decode cX8_alwaysSame 3 = .ok (.aload_n 0, 1) := by decide +kernel
theorem dX8_alwaysSame_4 : decode cX8_alwaysSame 4 = .ok (.getfield 85, 3) := by decide +kernel
theorem dX8_alwaysSame_7 : decode cX8_alwaysSame 7 = .ok (.if_icmp .ge 43, 3) := by decide +kernel
theorem dX8_alwaysSame_10 : decode cX8_alwaysSame 10 = .ok (.iload_n 3, 1) := by decide +kernel
theorem dX8_alwaysSame_11 : decode cX8_alwaysSame 11 = .ok (.aload_n 0, 1) := by decide +kernel
theorem dX8_alwaysSame_12 : decode cX8_alwaysSame 12 = .ok (.getfield 22, 3) := by decide +kernel
theorem dX8_alwaysSame_15 : decode cX8_alwaysSame 15 = .ok (.arraylength, 1) := by decide +kernel
theorem dX8_alwaysSame_16 : decode cX8_alwaysSame 16 = .ok (.if_icmp .ge 34, 3) := by decide +kernel
theorem dX8_alwaysSame_19 : decode cX8_alwaysSame 19 = .ok (.aload_n 0, 1) := by decide +kernel
theorem dX8_alwaysSame_20 : decode cX8_alwaysSame 20 = .ok (.getfield 22, 3) := by decide +kernel
theorem dX8_alwaysSame_23 : decode cX8_alwaysSame 23 = .ok (.iload_n 3, 1) := by decide +kernel
theorem dX8_alwaysSame_24 : decode cX8_alwaysSame 24 = .ok (.iaload, 1) := by decide +kernel
theorem dX8_alwaysSame_25 : decode cX8_alwaysSame 25 = .ok (.iload_n 1, 1) := by decide +kernel
theorem dX8_alwaysSame_26 : decode cX8_alwaysSame 26 = .ok (.invokestatic 115, 3) := by decide +kernel
theorem dX8_alwaysSame_29 : decode cX8_alwaysSame 29 = .ok (.aload_n 0, 1) := by decide +kernel
theorem dX8_alwaysSame_30 : decode cX8_alwaysSame 30 = .ok (.getfield 22, 3) := by decide +kernel
theorem dX8_alwaysSame_33 : decode cX8_alwaysSame 33 = .ok (.iload_n 3, 1) := by decide +kernel
theorem dX8_alwaysSame_34 : decode cX8_alwaysSame 34 = .ok (.iaload, 1) := by decide +kernel
theorem dX8_alwaysSame_35 : decode cX8_alwaysSame 35 = .ok (.iload_n 2, 1) := by decide +kernel
theorem dX8_alwaysSame_36 : decode cX8_alwaysSame 36 = .ok (.invokestatic 115, 3) := by decide +kernel
theorem dX8_alwaysSame_39 : decode cX8_alwaysSame 39 = .ok (.if_icmp .eq 5, 3) := by decide +kernel
theorem dX8_alwaysSame_42 : decode cX8_alwaysSame 42 = .ok (.iconst 0, 1) := by decide +kernel
theorem dX8_alwaysSame_43 : decode cX8_alwaysSame 43 = .ok (.ireturn, 1) := by decide +kernel
theorem dX8_alwaysSame_44 : decode cX8_alwaysSame 44 = .ok (.iinc 3 1, 3) := by decide +kernel
theorem dX8_alwaysSame_47 : decode cX8_alwaysSame 47 = .ok (.goto (-45), 3) := by decide +kernel
theorem dX8_alwaysSame_50 : decode cX8_alwaysSame 50 = .ok (.iconst 1, 1) := by decide +kernel
theorem dX8_alwaysSame_51 : decode cX8_alwaysSame 51 = .ok (.ireturn, 1) := by decide +kernel
theorem dX9_add_0 : decode cX9_add 0 = .ok (.iload_n 1, 1) := by decide +kernel
theorem dX9_add_1 : decode cX9_add 1 = .ok (.ifCond .lt 22, 3) := by decide +kernel
theorem dX9_add_4 : decode cX9_add 4 = .ok (.iload_n 1, 1) := by decide +kernel
theorem dX9_add_5 : decode cX9_add 5 = .ok (.aload_n 0, 1) := by decide +kernel
theorem dX9_add_6 : decode cX9_add 6 = .ok (.getfield 9, 3) := by decide +kernel
theorem dX9_add_9 : decode cX9_add 9 = .ok (.arraylength, 1) := by decide +kernel
theorem dX9_add_10 : decode cX9_add 10 = .ok (.if_icmp .ge 13, 3) := by decide +kernel
theorem dX9_add_13 : decode cX9_add 13 = .ok (.aload_n 0, 1) := by decide +kernel
theorem dX9_add_14 : decode cX9_add 14 = .ok (.getfield 9, 3) := by decide +kernel
theorem dX9_add_17 : decode cX9_add 17 = .ok (.iload_n 1, 1) := by decide +kernel
theorem dX9_add_18 : decode cX9_add 18 = .ok (.dup2, 1) := by decide +kernel
theorem dX9_add_19 : decode cX9_add 19 = .ok (.iaload, 1) := by decide +kernel
theorem dX9_add_20 : decode cX9_add 20 = .ok (.iconst 1, 1) := by decide +kernel
theorem dX9_add_21 : decode cX9_add 21 = .ok (.iadd, 1) := by decide +kernel
theorem dX9_add_22 : decode cX9_add 22 = .ok (.iastore, 1) := by decide +kernel
theorem dX9_add_23 : decode cX9_add 23 = .ok (.return_, 1) := by decide +kernel
theorem dX9_clear_0 : decode cX9_clear 0 = .ok (.aload_n 0, 1) := by decide +kernel
theorem dX9_clear_1 : decode cX9_clear 1 = .ok (.getfield 9, 3) := by decide +kernel
theorem dX9_clear_4 : decode cX9_clear 4 = .ok (.iconst 0, 1) := by decide +kernel
theorem dX9_clear_5 : decode cX9_clear 5 = .ok (.invokestatic 15, 3) := by decide +kernel
theorem dX9_clear_8 : decode cX9_clear 8 = .ok (.return_, 1) := by decide +kernel
theorem dX8_tallyWord_0 : decode cX8_tallyWord 0 = .ok (.aload_n 2, 1) := by decide +kernel
theorem dX8_tallyWord_1 : decode cX8_tallyWord 1 = .ok (.invokevirtual 118, 3) := by decide +kernel
theorem dX8_tallyWord_4 : decode cX8_tallyWord 4 = .ok (.iconst 0, 1) := by decide +kernel
theorem dX8_tallyWord_5 : decode cX8_tallyWord 5 = .ok (.istore_n 3, 1) := by decide +kernel
theorem dX8_tallyWord_6 : decode cX8_tallyWord 6 = .ok (.iload_n 3, 1) := by decide +kernel
theorem dX8_tallyWord_7 : decode cX8_tallyWord 7 = .ok (.aload_n 0, 1) := by decide +kernel
theorem dX8_tallyWord_8 : decode cX8_tallyWord 8 = .ok (.getfield 85, 3) := by decide +kernel
theorem dX8_tallyWord_11 : decode cX8_tallyWord 11 = .ok (.if_icmp .ge 32, 3) := by decide +kernel
theorem dX8_tallyWord_14 : decode cX8_tallyWord 14 = .ok (.iload_n 3, 1) := by decide +kernel
theorem dX8_tallyWord_15 : decode cX8_tallyWord 15 = .ok (.aload_n 0, 1) := by decide +kernel
theorem dX8_tallyWord_16 : decode cX8_tallyWord 16 = .ok (.getfield 22, 3) := by decide +kernel
theorem dX8_tallyWord_19 : decode cX8_tallyWord 19 = .ok (.arraylength, 1) := by decide +kernel
theorem dX8_tallyWord_20 : decode cX8_tallyWord 20 = .ok (.if_icmp .ge 23, 3) := by decide +kernel
theorem dX8_tallyWord_23 : decode cX8_tallyWord 23 = .ok (.aload_n 2, 1) := by decide +kernel
theorem dX8_tallyWord_24 : decode cX8_tallyWord 24 = .ok (.aload_n 0, 1) := by decide +kernel
theorem dX8_tallyWord_25 : decode cX8_tallyWord 25 = .ok (.getfield 22, 3) := by decide +kernel
theorem dX8_tallyWord_28 : decode cX8_tallyWord 28 = .ok (.iload_n 3, 1) := by decide +kernel
theorem dX8_tallyWord_29 : decode cX8_tallyWord 29 = .ok (.iaload, 1) := by decide +kernel
theorem dX8_tallyWord_30 : decode cX8_tallyWord 30 = .ok (.iload_n 1, 1) := by decide +kernel
theorem dX8_tallyWord_31 : decode cX8_tallyWord 31 = .ok (.invokestatic 115, 3) := by decide +kernel
theorem dX8_tallyWord_34 : decode cX8_tallyWord 34 = .ok (.invokevirtual 123, 3) := by decide +kernel
theorem dX8_tallyWord_37 : decode cX8_tallyWord 37 = .ok (.iinc 3 1, 3) := by decide +kernel
theorem dX8_tallyWord_40 : decode cX8_tallyWord 40 = .ok (.goto (-34), 3) := by decide +kernel
theorem dX8_tallyWord_43 : decode cX8_tallyWord 43 = .ok (.return_, 1) := by decide +kernel
theorem dX8_tallyRow_0 : decode cX8_tallyRow 0 = .ok (.aload_n 2, 1) := by decide +kernel
theorem dX8_tallyRow_1 : decode cX8_tallyRow 1 = .ok (.invokevirtual 118, 3) := by decide +kernel
theorem dX8_tallyRow_4 : decode cX8_tallyRow 4 = .ok (.iconst 0, 1) := by decide +kernel
theorem dX8_tallyRow_5 : decode cX8_tallyRow 5 = .ok (.istore_n 3, 1) := by decide +kernel
theorem dX8_tallyRow_6 : decode cX8_tallyRow 6 = .ok (.iload_n 3, 1) := by decide +kernel
theorem dX8_tallyRow_7 : decode cX8_tallyRow 7 = .ok (.aload_n 0, 1) := by decide +kernel
theorem dX8_tallyRow_8 : decode cX8_tallyRow 8 = .ok (.getfield 85, 3) := by decide +kernel
theorem dX8_tallyRow_11 : decode cX8_tallyRow 11 = .ok (.if_icmp .ge 36, 3) := by decide +kernel
theorem dX8_tallyRow_14 : decode cX8_tallyRow 14 = .ok (.iload_n 3, 1) := by decide +kernel
theorem dX8_tallyRow_15 : decode cX8_tallyRow 15 = .ok (.aload_n 0, 1) := by decide +kernel
theorem dX8_tallyRow_16 : decode cX8_tallyRow 16 = .ok (.getfield 22, 3) := by decide +kernel
theorem dX8_tallyRow_19 : decode cX8_tallyRow 19 = .ok (.arraylength, 1) := by decide +kernel
theorem dX8_tallyRow_20 : decode cX8_tallyRow 20 = .ok (.if_icmp .ge 27, 3) := by decide +kernel
theorem dX8_tallyRow_23 : decode cX8_tallyRow 23 = .ok (.aload_n 2, 1) := by decide +kernel
theorem dX8_tallyRow_24 : decode cX8_tallyRow 24 = .ok (.aload_n 0, 1) := by decide +kernel
theorem dX8_tallyRow_25 : decode cX8_tallyRow 25 = .ok (.getfield 31, 3) := by decide +kernel
theorem dX8_tallyRow_28 : decode cX8_tallyRow 28 = .ok (.iload_n 1, 1) := by decide +kernel
theorem dX8_tallyRow_29 : decode cX8_tallyRow 29 = .ok (.aload_n 0, 1) := by decide +kernel
theorem dX8_tallyRow_30 : decode cX8_tallyRow 30 = .ok (.getfield 22, 3) := by decide +kernel
theorem dX8_tallyRow_33 : decode cX8_tallyRow 33 = .ok (.iload_n 3, 1) := by decide +kernel
theorem dX8_tallyRow_34 : decode cX8_tallyRow 34 = .ok (.iaload, 1) := by decide +kernel
theorem dX8_tallyRow_35 : decode cX8_tallyRow 35 = .ok (.invokevirtual 127, 3) := by decide +kernel
theorem dX8_tallyRow_38 : decode cX8_tallyRow 38 = .ok (.invokevirtual 123, 3) := by decide +kernel
theorem dX8_tallyRow_41 : decode cX8_tallyRow 41 = .ok (.iinc 3 1, 3) := by decide +kernel
theorem dX8_tallyRow_44 : decode cX8_tallyRow 44 = .ok (.goto (-38), 3) := by decide +kernel
theorem dX8_tallyRow_47 : decode cX8_tallyRow 47 = .ok (.return_, 1) := by decide +kernel
theorem dX9_of_0 : decode cX9_of 0 = .ok (.iload_n 1, 1) := by decide +kernel
theorem dX9_of_1 : decode cX9_of 1 = .ok (.ifCond .lt 21, 3) := by decide +kernel
theorem dX9_of_4 : decode cX9_of 4 = .ok (.iload_n 1, 1) := by decide +kernel
theorem dX9_of_5 : decode cX9_of 5 = .ok (.aload_n 0, 1) := by decide +kernel
theorem dX9_of_6 : decode cX9_of 6 = .ok (.getfield 9, 3) := by decide +kernel
theorem dX9_of_9 : decode cX9_of 9 = .ok (.arraylength, 1) := by decide +kernel
theorem dX9_of_10 : decode cX9_of 10 = .ok (.if_icmp .ge 12, 3) := by decide +kernel
theorem dX9_of_13 : decode cX9_of 13 = .ok (.aload_n 0, 1) := by decide +kernel
theorem dX9_of_14 : decode cX9_of 14 = .ok (.getfield 9, 3) := by decide +kernel
theorem dX9_of_17 : decode cX9_of 17 = .ok (.iload_n 1, 1) := by decide +kernel
theorem dX9_of_18 : decode cX9_of 18 = .ok (.iaload, 1) := by decide +kernel
theorem dX9_of_19 : decode cX9_of 19 = .ok (.goto 4, 3) := by decide +kernel
theorem dX9_of_22 : decode cX9_of 22 = .ok (.iconst 0, 1) := by decide +kernel
theorem dX9_of_23 : decode cX9_of 23 = .ok (.ireturn, 1) := by decide +kernel
theorem dX9_from_0 : decode cX9_from 0 = .ok (.iconst 0, 1) := by decide +kernel
theorem dX9_from_1 : decode cX9_from 1 = .ok (.istore_n 2, 1) := by decide +kernel
theorem dX9_from_2 : decode cX9_from 2 = .ok (.iload_n 1, 1) := by decide +kernel
theorem dX9_from_3 : decode cX9_from 3 = .ok (.iconst 0, 1) := by decide +kernel
theorem dX9_from_4 : decode cX9_from 4 = .ok (.invokestatic 21, 3) := by decide +kernel
theorem dX9_from_7 : decode cX9_from 7 = .ok (.istore_n 3, 1) := by decide +kernel
theorem dX9_from_8 : decode cX9_from 8 = .ok (.iload_n 3, 1) := by decide +kernel
theorem dX9_from_9 : decode cX9_from 9 = .ok (.aload_n 0, 1) := by decide +kernel
theorem dX9_from_10 : decode cX9_from 10 = .ok (.getfield 9, 3) := by decide +kernel
theorem dX9_from_13 : decode cX9_from 13 = .ok (.arraylength, 1) := by decide +kernel
theorem dX9_from_14 : decode cX9_from 14 = .ok (.if_icmp .ge 18, 3) := by decide +kernel
theorem dX9_from_17 : decode cX9_from 17 = .ok (.iload_n 2, 1) := by decide +kernel
theorem dX9_from_18 : decode cX9_from 18 = .ok (.aload_n 0, 1) := by decide +kernel
theorem dX9_from_19 : decode cX9_from 19 = .ok (.getfield 9, 3) := by decide +kernel
theorem dX9_from_22 : decode cX9_from 22 = .ok (.iload_n 3, 1) := by decide +kernel
theorem dX9_from_23 : decode cX9_from 23 = .ok (.iaload, 1) := by decide +kernel
theorem dX9_from_24 : decode cX9_from 24 = .ok (.iadd, 1) := by decide +kernel
theorem dX9_from_25 : decode cX9_from 25 = .ok (.istore_n 2, 1) := by decide +kernel
theorem dX9_from_26 : decode cX9_from 26 = .ok (.iinc 3 1, 3) := by decide +kernel
theorem dX9_from_29 : decode cX9_from 29 = .ok (.goto (-21), 3) := by decide +kernel
theorem dX9_from_32 : decode cX9_from 32 = .ok (.iload_n 2, 1) := by decide +kernel
theorem dX9_from_33 : decode cX9_from 33 = .ok (.ireturn, 1) := by decide +kernel
theorem dX9_lowest_0 : decode cX9_lowest 0 = .ok (.iconst 0, 1) := by decide +kernel
theorem dX9_lowest_1 : decode cX9_lowest 1 = .ok (.istore_n 1, 1) := by decide +kernel
theorem dX9_lowest_2 : decode cX9_lowest 2 = .ok (.iload_n 1, 1) := by decide +kernel
theorem dX9_lowest_3 : decode cX9_lowest 3 = .ok (.aload_n 0, 1) := by decide +kernel
theorem dX9_lowest_4 : decode cX9_lowest 4 = .ok (.getfield 9, 3) := by decide +kernel
theorem dX9_lowest_7 : decode cX9_lowest 7 = .ok (.arraylength, 1) := by decide +kernel
theorem dX9_lowest_8 : decode cX9_lowest 8 = .ok (.if_icmp .ge 20, 3) := by decide +kernel
theorem dX9_lowest_11 : decode cX9_lowest 11 = .ok (.aload_n 0, 1) := by decide +kernel
theorem dX9_lowest_12 : decode cX9_lowest 12 = .ok (.getfield 9, 3) := by decide +kernel
theorem dX9_lowest_15 : decode cX9_lowest 15 = .ok (.iload_n 1, 1) := by decide +kernel
theorem dX9_lowest_16 : decode cX9_lowest 16 = .ok (.iaload, 1) := by decide +kernel
theorem dX9_lowest_17 : decode cX9_lowest 17 = .ok (.ifCond .eq 5, 3) := by decide +kernel
theorem dX9_lowest_20 : decode cX9_lowest 20 = .ok (.iload_n 1, 1) := by decide +kernel
theorem dX9_lowest_21 : decode cX9_lowest 21 = .ok (.ireturn, 1) := by decide +kernel
theorem dX9_lowest_22 : decode cX9_lowest 22 = .ok (.iinc 1 1, 3) := by decide +kernel
theorem dX9_lowest_25 : decode cX9_lowest 25 = .ok (.goto (-23), 3) := by decide +kernel
theorem dX9_lowest_28 : decode cX9_lowest 28 = .ok (.iconst (-1), 1) := by decide +kernel
theorem dX9_lowest_29 : decode cX9_lowest 29 = .ok (.ireturn, 1) := by decide +kernel
theorem dX9_highest_0 : decode cX9_highest 0 = .ok (.aload_n 0, 1) := by decide +kernel
theorem dX9_highest_1 : decode cX9_highest 1 = .ok (.getfield 9, 3) := by decide +kernel
theorem dX9_highest_4 : decode cX9_highest 4 = .ok (.arraylength, 1) := by decide +kernel
theorem dX9_highest_5 : decode cX9_highest 5 = .ok (.iconst 1, 1) := by decide +kernel
theorem dX9_highest_6 : decode cX9_highest 6 = .ok (.isub, 1) := by decide +kernel
theorem dX9_highest_7 : decode cX9_highest 7 = .ok (.istore_n 1, 1) := by decide +kernel
theorem dX9_highest_8 : decode cX9_highest 8 = .ok (.iload_n 1, 1) := by decide +kernel
theorem dX9_highest_9 : decode cX9_highest 9 = .ok (.ifCond .lt 20, 3) := by decide +kernel
theorem dX9_highest_12 : decode cX9_highest 12 = .ok (.aload_n 0, 1) := by decide +kernel
theorem dX9_highest_13 : decode cX9_highest 13 = .ok (.getfield 9, 3) := by decide +kernel
theorem dX9_highest_16 : decode cX9_highest 16 = .ok (.iload_n 1, 1) := by decide +kernel
theorem dX9_highest_17 : decode cX9_highest 17 = .ok (.iaload, 1) := by decide +kernel
theorem dX9_highest_18 : decode cX9_highest 18 = .ok (.ifCond .eq 5, 3) := by decide +kernel
theorem dX9_highest_21 : decode cX9_highest 21 = .ok (.iload_n 1, 1) := by decide +kernel
theorem dX9_highest_22 : decode cX9_highest 22 = .ok (.ireturn, 1) := by decide +kernel
theorem dX9_highest_23 : decode cX9_highest 23 = .ok (.iinc 1 (-1), 3) := by decide +kernel
theorem dX9_highest_26 : decode cX9_highest 26 = .ok (.goto (-18), 3) := by decide +kernel
theorem dX9_highest_29 : decode cX9_highest 29 = .ok (.iconst (-1), 1) := by decide +kernel
theorem dX9_highest_30 : decode cX9_highest 30 = .ok (.ireturn, 1) := by decide +kernel
theorem dX9_only_0 : decode cX9_only 0 = .ok (.aload_n 0, 1) := by decide +kernel
theorem dX9_only_1 : decode cX9_only 1 = .ok (.invokevirtual 27, 3) := by decide +kernel
theorem dX9_only_4 : decode cX9_only 4 = .ok (.istore_n 1, 1) := by decide +kernel
theorem dX9_only_5 : decode cX9_only 5 = .ok (.iload_n 1, 1) := by decide +kernel
theorem dX9_only_6 : decode cX9_only 6 = .ok (.aload_n 0, 1) := by decide +kernel
theorem dX9_only_7 : decode cX9_only 7 = .ok (.invokevirtual 31, 3) := by decide +kernel
theorem dX9_only_10 : decode cX9_only 10 = .ok (.if_icmp .ne 7, 3) := by decide +kernel
theorem dX9_only_13 : decode cX9_only 13 = .ok (.iload_n 1, 1) := by decide +kernel
theorem dX9_only_14 : decode cX9_only 14 = .ok (.goto 4, 3) := by decide +kernel
theorem dX9_only_17 : decode cX9_only 17 = .ok (.iconst (-1), 1) := by decide +kernel
theorem dX9_only_18 : decode cX9_only 18 = .ok (.ireturn, 1) := by decide +kernel
theorem dX9_differing_0 : decode cX9_differing 0 = .ok (.iconst 0, 1) := by decide +kernel
theorem dX9_differing_1 : decode cX9_differing 1 = .ok (.istore_n 1, 1) := by decide +kernel
theorem dX9_differing_2 : decode cX9_differing 2 = .ok (.iconst 0, 1) := by decide +kernel
theorem dX9_differing_3 : decode cX9_differing 3 = .ok (.istore_n 2, 1) := by decide +kernel
theorem dX9_differing_4 : decode cX9_differing 4 = .ok (.iload_n 2, 1) := by decide +kernel
theorem dX9_differing_5 : decode cX9_differing 5 = .ok (.aload_n 0, 1) := by decide +kernel
theorem dX9_differing_6 : decode cX9_differing 6 = .ok (.getfield 9, 3) := by decide +kernel
theorem dX9_differing_9 : decode cX9_differing 9 = .ok (.arraylength, 1) := by decide +kernel
theorem dX9_differing_10 : decode cX9_differing 10 = .ok (.if_icmp .ge 26, 3) := by decide +kernel
theorem dX9_differing_13 : decode cX9_differing 13 = .ok (.iload_n 1, 1) := by decide +kernel
theorem dX9_differing_14 : decode cX9_differing 14 = .ok (.aload_n 0, 1) := by decide +kernel
theorem dX9_differing_15 : decode cX9_differing 15 = .ok (.getfield 9, 3) := by decide +kernel
theorem dX9_differing_18 : decode cX9_differing 18 = .ok (.iload_n 2, 1) := by decide +kernel
theorem dX9_differing_19 : decode cX9_differing 19 = .ok (.iaload, 1) := by decide +kernel
theorem dX9_differing_20 : decode cX9_differing 20 = .ok (.ifCond .eq 7, 3) := by decide +kernel
theorem dX9_differing_23 : decode cX9_differing 23 = .ok (.iconst 1, 1) := by decide +kernel
theorem dX9_differing_24 : decode cX9_differing 24 = .ok (.goto 4, 3) := by decide +kernel
theorem dX9_differing_27 : decode cX9_differing 27 = .ok (.iconst 0, 1) := by decide +kernel
theorem dX9_differing_28 : decode cX9_differing 28 = .ok (.iadd, 1) := by decide +kernel
theorem dX9_differing_29 : decode cX9_differing 29 = .ok (.istore_n 1, 1) := by decide +kernel
theorem dX9_differing_30 : decode cX9_differing 30 = .ok (.iinc 2 1, 3) := by decide +kernel
theorem dX9_differing_33 : decode cX9_differing 33 = .ok (.goto (-29), 3) := by decide +kernel
theorem dX9_differing_36 : decode cX9_differing 36 = .ok (.iload_n 1, 1) := by decide +kernel
theorem dX9_differing_37 : decode cX9_differing 37 = .ok (.ireturn, 1) := by decide +kernel
theorem dX9_greatest_0 : decode cX9_greatest 0 = .ok (.iconst 0, 1) := by decide +kernel
theorem dX9_greatest_1 : decode cX9_greatest 1 = .ok (.istore_n 1, 1) := by decide +kernel
theorem dX9_greatest_2 : decode cX9_greatest 2 = .ok (.iconst 0, 1) := by decide +kernel
theorem dX9_greatest_3 : decode cX9_greatest 3 = .ok (.istore_n 2, 1) := by decide +kernel
theorem dX9_greatest_4 : decode cX9_greatest 4 = .ok (.iload_n 2, 1) := by decide +kernel
theorem dX9_greatest_5 : decode cX9_greatest 5 = .ok (.aload_n 0, 1) := by decide +kernel
theorem dX9_greatest_6 : decode cX9_greatest 6 = .ok (.getfield 9, 3) := by decide +kernel
theorem dX9_greatest_9 : decode cX9_greatest 9 = .ok (.arraylength, 1) := by decide +kernel
theorem dX9_greatest_10 : decode cX9_greatest 10 = .ok (.if_icmp .ge 20, 3) := by decide +kernel
theorem dX9_greatest_13 : decode cX9_greatest 13 = .ok (.iload_n 1, 1) := by decide +kernel
theorem dX9_greatest_14 : decode cX9_greatest 14 = .ok (.aload_n 0, 1) := by decide +kernel
theorem dX9_greatest_15 : decode cX9_greatest 15 = .ok (.getfield 9, 3) := by decide +kernel
theorem dX9_greatest_18 : decode cX9_greatest 18 = .ok (.iload_n 2, 1) := by decide +kernel
theorem dX9_greatest_19 : decode cX9_greatest 19 = .ok (.iaload, 1) := by decide +kernel
theorem dX9_greatest_20 : decode cX9_greatest 20 = .ok (.invokestatic 21, 3) := by decide +kernel
theorem dX9_greatest_23 : decode cX9_greatest 23 = .ok (.istore_n 1, 1) := by decide +kernel
theorem dX9_greatest_24 : decode cX9_greatest 24 = .ok (.iinc 2 1, 3) := by decide +kernel
theorem dX9_greatest_27 : decode cX9_greatest 27 = .ok (.goto (-23), 3) := by decide +kernel
theorem dX9_greatest_30 : decode cX9_greatest 30 = .ok (.iload_n 1, 1) := by decide +kernel
theorem dX9_greatest_31 : decode cX9_greatest 31 = .ok (.ireturn, 1) := by decide +kernel
theorem dX9_bits_0 : decode cX9_bits 0 = .ok (.iconst 0, 1) := by decide +kernel
theorem dX9_bits_1 : decode cX9_bits 1 = .ok (.istore_n 1, 1) := by decide +kernel
theorem dX9_bits_2 : decode cX9_bits 2 = .ok (.iconst 0, 1) := by decide +kernel
theorem dX9_bits_3 : decode cX9_bits 3 = .ok (.istore_n 2, 1) := by decide +kernel
theorem dX9_bits_4 : decode cX9_bits 4 = .ok (.iload_n 2, 1) := by decide +kernel
theorem dX9_bits_5 : decode cX9_bits 5 = .ok (.bipush 9, 2) := by decide +kernel
theorem dX9_bits_7 : decode cX9_bits 7 = .ok (.if_icmp .ge 28, 3) := by decide +kernel
theorem dX9_bits_10 : decode cX9_bits 10 = .ok (.iload_n 1, 1) := by decide +kernel
theorem dX9_bits_11 : decode cX9_bits 11 = .ok (.aload_n 0, 1) := by decide +kernel
theorem dX9_bits_12 : decode cX9_bits 12 = .ok (.getfield 9, 3) := by decide +kernel
theorem dX9_bits_15 : decode cX9_bits 15 = .ok (.iload_n 2, 1) := by decide +kernel
theorem dX9_bits_16 : decode cX9_bits 16 = .ok (.iaload, 1) := by decide +kernel
theorem dX9_bits_17 : decode cX9_bits 17 = .ok (.ifCond .eq 9, 3) := by decide +kernel
theorem dX9_bits_20 : decode cX9_bits 20 = .ok (.iconst 1, 1) := by decide +kernel
theorem dX9_bits_21 : decode cX9_bits 21 = .ok (.iload_n 2, 1) := by decide +kernel
theorem dX9_bits_22 : decode cX9_bits 22 = .ok (.ishl, 1) := by decide +kernel
theorem dX9_bits_23 : decode cX9_bits 23 = .ok (.goto 4, 3) := by decide +kernel
theorem dX9_bits_26 : decode cX9_bits 26 = .ok (.iconst 0, 1) := by decide +kernel
theorem dX9_bits_27 : decode cX9_bits 27 = .ok (.ior, 1) := by decide +kernel
theorem dX9_bits_28 : decode cX9_bits 28 = .ok (.istore_n 1, 1) := by decide +kernel
theorem dX9_bits_29 : decode cX9_bits 29 = .ok (.iinc 2 1, 3) := by decide +kernel
theorem dX9_bits_32 : decode cX9_bits 32 = .ok (.goto (-28), 3) := by decide +kernel
theorem dX9_bits_35 : decode cX9_bits 35 = .ok (.iload_n 1, 1) := by decide +kernel
theorem dX9_bits_36 : decode cX9_bits 36 = .ok (.ireturn, 1) := by decide +kernel
theorem dX10_add_0 : decode cX10_add 0 = .ok (.bipush 56, 2) := by decide +kernel
theorem dX10_add_2 : decode cX10_add 2 = .ok (.istore_n 3, 1) := by decide +kernel
theorem dX10_add_3 : decode cX10_add 3 = .ok (.iload_n 3, 1) := by decide +kernel
theorem dX10_add_4 : decode cX10_add 4 = .ok (.ifCond .lt 91, 3) := by decide +kernel
theorem dX10_add_7 : decode cX10_add 7 = .ok (.lload_n 1, 1) := by decide +kernel
theorem dX10_add_8 : decode cX10_add 8 = .ok (.iload_n 3, 1) := by decide +kernel
theorem dX10_add_9 : decode cX10_add 9 = .ok (.lushr, 1) := by decide +kernel
theorem dX10_add_10 : decode cX10_add 10 = .ok (.l2i, 1) := by decide +kernel
theorem dX10_add_11 : decode cX10_add 11 = .ok (.sipush 255, 3) := by decide +kernel
theorem dX10_add_14 : decode cX10_add 14 = .ok (.iand, 1) := by decide +kernel
theorem dX10_add_15 : decode cX10_add 15 = .ok (.istore 4, 2) := by decide +kernel
theorem dX10_add_17 : decode cX10_add 17 = .ok (.iload 4, 2) := by decide +kernel
theorem dX10_add_19 : decode cX10_add 19 = .ok (.bipush 10, 2) := by decide +kernel
theorem dX10_add_21 : decode cX10_add 21 = .ok (.if_icmp .eq 17, 3) := by decide +kernel
theorem dX10_add_24 : decode cX10_add 24 = .ok (.iload 4, 2) := by decide +kernel
theorem dX10_add_26 : decode cX10_add 26 = .ok (.bipush 32, 2) := by decide +kernel
theorem dX10_add_28 : decode cX10_add 28 = .ok (.if_icmp .lt 14, 3) := by decide +kernel
theorem dX10_add_31 : decode cX10_add 31 = .ok (.iload 4, 2) := by decide +kernel
theorem dX10_add_33 : decode cX10_add 33 = .ok (.bipush 126, 2) := by decide +kernel
theorem dX10_add_35 : decode cX10_add 35 = .ok (.if_icmp .gt 7, 3) := by decide +kernel
theorem dX10_add_38 : decode cX10_add 38 = .ok (.iconst 1, 1) := by decide +kernel
theorem dX10_add_39 : decode cX10_add 39 = .ok (.goto 4, 3) := by decide +kernel
theorem dX10_add_42 : decode cX10_add 42 = .ok (.iconst 0, 1) := by decide +kernel
theorem dX10_add_43 : decode cX10_add 43 = .ok (.istore 5, 2) := by decide +kernel
theorem dX10_add_45 : decode cX10_add 45 = .ok (.iload 5, 2) := by decide +kernel
theorem dX10_add_47 : decode cX10_add 47 = .ok (.ifCond .eq 42, 3) := by decide +kernel
theorem dX10_add_50 : decode cX10_add 50 = .ok (.aload_n 0, 1) := by decide +kernel
theorem dX10_add_51 : decode cX10_add 51 = .ok (.getfield 15, 3) := by decide +kernel
theorem dX10_add_54 : decode cX10_add 54 = .ok (.ifCond .lt 35, 3) := by decide +kernel
theorem dX10_add_57 : decode cX10_add 57 = .ok (.aload_n 0, 1) := by decide +kernel
theorem dX10_add_58 : decode cX10_add 58 = .ok (.getfield 15, 3) := by decide +kernel
theorem dX10_add_61 : decode cX10_add 61 = .ok (.sipush 1000, 3) := by decide +kernel
theorem dX10_add_64 : decode cX10_add 64 = .ok (.if_icmp .ge 25, 3) := by decide +kernel
theorem dX10_add_67 : decode cX10_add 67 = .ok (.aload_n 0, 1) := by decide +kernel
theorem dX10_add_68 : decode cX10_add 68 = .ok (.getfield 11, 3) := by decide +kernel
theorem dX10_add_71 : decode cX10_add 71 = .ok (.aload_n 0, 1) := by decide +kernel
theorem dX10_add_72 : decode cX10_add 72 = .ok (.getfield 15, 3) := by decide +kernel
theorem dX10_add_75 : decode cX10_add 75 = .ok (.iload 4, 2) := by decide +kernel
theorem dX10_add_77 : decode cX10_add 77 = .ok (.i2c, 1) := by decide +kernel
theorem dX10_add_78 : decode cX10_add 78 = .ok (.castore, 1) := by decide +kernel
theorem dX10_add_79 : decode cX10_add 79 = .ok (.aload_n 0, 1) := by decide +kernel
theorem dX10_add_80 : decode cX10_add 80 = .ok (.dup, 1) := by decide +kernel
theorem dX10_add_81 : decode cX10_add 81 = .ok (.getfield 15, 3) := by decide +kernel
theorem dX10_add_84 : decode cX10_add 84 = .ok (.iconst 1, 1) := by decide +kernel
theorem dX10_add_85 : decode cX10_add 85 = .ok (.iadd, 1) := by decide +kernel
theorem dX10_add_86 : decode cX10_add 86 = .ok (.putfield 15, 3) := by decide +kernel
theorem dX10_add_89 : decode cX10_add 89 = .ok (.iinc 3 (-8), 3) := by decide +kernel
theorem dX10_add_92 : decode cX10_add 92 = .ok (.goto (-89), 3) := by decide +kernel
theorem dX10_add_95 : decode cX10_add 95 = .ok (.return_, 1) := by decide +kernel
theorem dX11_feed_0 : decode cX11_feed 0 = .ok (.aload_n 0, 1) := by decide +kernel
theorem dX11_feed_1 : decode cX11_feed 1 = .ok (.getfield 10, 3) := by decide +kernel
theorem dX11_feed_4 : decode cX11_feed 4 = .ok (.lload_n 1, 1) := by decide +kernel
theorem dX11_feed_5 : decode cX11_feed 5 = .ok (.invokevirtual 88, 3) := by decide +kernel
theorem dX11_feed_8 : decode cX11_feed 8 = .ok (.aload_n 0, 1) := by decide +kernel
theorem dX11_feed_9 : decode cX11_feed 9 = .ok (.getfield 10, 3) := by decide +kernel
theorem dX11_feed_12 : decode cX11_feed 12 = .ok (.lload_n 3, 1) := by decide +kernel
theorem dX11_feed_13 : decode cX11_feed 13 = .ok (.invokevirtual 88, 3) := by decide +kernel
theorem dX11_feed_16 : decode cX11_feed 16 = .ok (.aload_n 0, 1) := by decide +kernel
theorem dX11_feed_17 : decode cX11_feed 17 = .ok (.getfield 10, 3) := by decide +kernel
theorem dX11_feed_20 : decode cX11_feed 20 = .ok (.lload 5, 2) := by decide +kernel
theorem dX11_feed_22 : decode cX11_feed 22 = .ok (.invokevirtual 88, 3) := by decide +kernel
theorem dX11_feed_25 : decode cX11_feed 25 = .ok (.aload_n 0, 1) := by decide +kernel
theorem dX11_feed_26 : decode cX11_feed 26 = .ok (.getfield 10, 3) := by decide +kernel
theorem dX11_feed_29 : decode cX11_feed 29 = .ok (.getfield 92, 3) := by decide +kernel
theorem dX11_feed_32 : decode cX11_feed 32 = .ok (.ireturn, 1) := by decide +kernel
theorem dX11_book_0 : decode cX11_book 0 = .ok (.aload_n 0, 1) := by decide +kernel
theorem dX11_book_1 : decode cX11_book 1 = .ok (.getfield 21, 3) := by decide +kernel
theorem dX11_book_4 : decode cX11_book 4 = .ok (.aload_n 0, 1) := by decide +kernel
theorem dX11_book_5 : decode cX11_book 5 = .ok (.getfield 75, 3) := by decide +kernel
theorem dX11_book_8 : decode cX11_book 8 = .ok (.invokevirtual 96, 3) := by decide +kernel
theorem dX11_book_11 : decode cX11_book 11 = .ok (.istore_n 1, 1) := by decide +kernel
theorem dX11_book_12 : decode cX11_book 12 = .ok (.aload_n 0, 1) := by decide +kernel
theorem dX11_book_13 : decode cX11_book 13 = .ok (.getfield 10, 3) := by decide +kernel
theorem dX11_book_16 : decode cX11_book 16 = .ok (.iconst 0, 1) := by decide +kernel
theorem dX11_book_17 : decode cX11_book 17 = .ok (.putfield 92, 3) := by decide +kernel
theorem dX11_book_20 : decode cX11_book 20 = .ok (.iload_n 1, 1) := by decide +kernel
theorem dX11_book_21 : decode cX11_book 21 = .ok (.ifCond .eq 5, 3) := by decide +kernel
theorem dX11_book_24 : decode cX11_book 24 = .ok (.iload_n 1, 1) := by decide +kernel
theorem dX11_book_25 : decode cX11_book 25 = .ok (.ireturn, 1) := by decide +kernel
theorem dX11_book_26 : decode cX11_book 26 = .ok (.aload_n 0, 1) := by decide +kernel
theorem dX11_book_27 : decode cX11_book 27 = .ok (.getfield 71, 3) := by decide +kernel
theorem dX11_book_30 : decode cX11_book 30 = .ok (.astore_n 2, 1) := by decide +kernel
theorem dX11_book_31 : decode cX11_book 31 = .ok (.aload_n 0, 1) := by decide +kernel
theorem dX11_book_32 : decode cX11_book 32 = .ok (.aload_n 0, 1) := by decide +kernel
theorem dX11_book_33 : decode cX11_book 33 = .ok (.getfield 75, 3) := by decide +kernel
theorem dX11_book_36 : decode cX11_book 36 = .ok (.putfield 71, 3) := by decide +kernel
theorem dX11_book_39 : decode cX11_book 39 = .ok (.aload_n 0, 1) := by decide +kernel
theorem dX11_book_40 : decode cX11_book 40 = .ok (.aload_n 2, 1) := by decide +kernel
theorem dX11_book_41 : decode cX11_book 41 = .ok (.putfield 75, 3) := by decide +kernel
theorem dX11_book_44 : decode cX11_book 44 = .ok (.aload_n 0, 1) := by decide +kernel
theorem dX11_book_45 : decode cX11_book 45 = .ok (.getfield 81, 3) := by decide +kernel
theorem dX11_book_48 : decode cX11_book 48 = .ok (.invokevirtual 100, 3) := by decide +kernel
theorem dX11_book_51 : decode cX11_book 51 = .ok (.aload_n 0, 1) := by decide +kernel
theorem dX11_book_52 : decode cX11_book 52 = .ok (.getfield 28, 3) := by decide +kernel
theorem dX11_book_55 : decode cX11_book 55 = .ok (.aload_n 0, 1) := by decide +kernel
theorem dX11_book_56 : decode cX11_book 56 = .ok (.getfield 71, 3) := by decide +kernel
theorem dX11_book_59 : decode cX11_book 59 = .ok (.invokevirtual 103, 3) := by decide +kernel
theorem dX11_book_62 : decode cX11_book 62 = .ok (.aload_n 0, 1) := by decide +kernel
theorem dX11_book_63 : decode cX11_book 63 = .ok (.getfield 43, 3) := by decide +kernel
theorem dX11_book_66 : decode cX11_book 66 = .ok (.iconst 0, 1) := by decide +kernel
theorem dX11_book_67 : decode cX11_book 67 = .ok (.putfield 107, 3) := by decide +kernel
theorem dX11_book_70 : decode cX11_book 70 = .ok (.iconst 0, 1) := by decide +kernel
theorem dX11_book_71 : decode cX11_book 71 = .ok (.istore_n 3, 1) := by decide +kernel
theorem dX11_book_72 : decode cX11_book 72 = .ok (.iload_n 3, 1) := by decide +kernel
theorem dX11_book_73 : decode cX11_book 73 = .ok (.iconst 4, 1) := by decide +kernel
theorem dX11_book_74 : decode cX11_book 74 = .ok (.if_icmp .ge 16, 3) := by decide +kernel
theorem dX11_book_77 : decode cX11_book 77 = .ok (.aload_n 0, 1) := by decide +kernel
theorem dX11_book_78 : decode cX11_book 78 = .ok (.getfield 36, 3) := by decide +kernel
theorem dX11_book_81 : decode cX11_book 81 = .ok (.iload_n 3, 1) := by decide +kernel
theorem dX11_book_82 : decode cX11_book 82 = .ok (.iconst 0, 1) := by decide +kernel
theorem dX11_book_83 : decode cX11_book 83 = .ok (.bastore, 1) := by decide +kernel
theorem dX11_book_84 : decode cX11_book 84 = .ok (.iinc 3 1, 3) := by decide +kernel
theorem dX11_book_87 : decode cX11_book 87 = .ok (.goto (-15), 3) := by decide +kernel
theorem dX11_book_90 : decode cX11_book 90 = .ok (.aload_n 0, 1) := by decide +kernel
theorem dX11_book_91 : decode cX11_book 91 = .ok (.getfield 50, 3) := by decide +kernel
theorem dX11_book_94 : decode cX11_book 94 = .ok (.iconst 1, 1) := by decide +kernel
theorem dX11_book_95 : decode cX11_book 95 = .ok (.putfield 110, 3) := by decide +kernel
theorem dX11_book_98 : decode cX11_book 98 = .ok (.aload_n 0, 1) := by decide +kernel
theorem dX11_book_99 : decode cX11_book 99 = .ok (.getfield 50, 3) := by decide +kernel
theorem dX11_book_102 : decode cX11_book 102 = .ok (.iconst 1, 1) := by decide +kernel
theorem dX11_book_103 : decode cX11_book 103 = .ok (.putfield 114, 3) := by decide +kernel
theorem dX11_book_106 : decode cX11_book 106 = .ok (.aload_n 0, 1) := by decide +kernel
theorem dX11_book_107 : decode cX11_book 107 = .ok (.getfield 64, 3) := by decide +kernel
theorem dX11_book_110 : decode cX11_book 110 = .ok (.iconst 1, 1) := by decide +kernel
theorem dX11_book_111 : decode cX11_book 111 = .ok (.putfield 117, 3) := by decide +kernel
theorem dX11_book_114 : decode cX11_book 114 = .ok (.iconst 0, 1) := by decide +kernel
theorem dX11_book_115 : decode cX11_book 115 = .ok (.ireturn, 1) := by decide +kernel
theorem dX11_notes_0 : decode cX11_notes 0 = .ok (.aload_n 0, 1) := by decide +kernel
theorem dX11_notes_1 : decode cX11_notes 1 = .ok (.getfield 85, 3) := by decide +kernel
theorem dX11_notes_4 : decode cX11_notes 4 = .ok (.aload_n 0, 1) := by decide +kernel
theorem dX11_notes_5 : decode cX11_notes 5 = .ok (.getfield 10, 3) := by decide +kernel
theorem dX11_notes_8 : decode cX11_notes 8 = .ok (.aload_n 0, 1) := by decide +kernel
theorem dX11_notes_9 : decode cX11_notes 9 = .ok (.getfield 71, 3) := by decide +kernel
theorem dX11_notes_12 : decode cX11_notes 12 = .ok (.invokevirtual 120, 3) := by decide +kernel
theorem dX11_notes_15 : decode cX11_notes 15 = .ok (.istore_n 1, 1) := by decide +kernel
theorem dX11_notes_16 : decode cX11_notes 16 = .ok (.aload_n 0, 1) := by decide +kernel
theorem dX11_notes_17 : decode cX11_notes 17 = .ok (.getfield 10, 3) := by decide +kernel
theorem dX11_notes_20 : decode cX11_notes 20 = .ok (.iconst 0, 1) := by decide +kernel
theorem dX11_notes_21 : decode cX11_notes 21 = .ok (.putfield 92, 3) := by decide +kernel
theorem dX11_notes_24 : decode cX11_notes 24 = .ok (.iload_n 1, 1) := by decide +kernel
theorem dX11_notes_25 : decode cX11_notes 25 = .ok (.ifCond .eq 5, 3) := by decide +kernel
theorem dX11_notes_28 : decode cX11_notes 28 = .ok (.iload_n 1, 1) := by decide +kernel
theorem dX11_notes_29 : decode cX11_notes 29 = .ok (.ireturn, 1) := by decide +kernel
theorem dX11_notes_30 : decode cX11_notes 30 = .ok (.aload_n 0, 1) := by decide +kernel
theorem dX11_notes_31 : decode cX11_notes 31 = .ok (.getfield 81, 3) := by decide +kernel
theorem dX11_notes_34 : decode cX11_notes 34 = .ok (.astore_n 2, 1) := by decide +kernel
theorem dX11_notes_35 : decode cX11_notes 35 = .ok (.aload_n 0, 1) := by decide +kernel
theorem dX11_notes_36 : decode cX11_notes 36 = .ok (.aload_n 0, 1) := by decide +kernel
theorem dX11_notes_37 : decode cX11_notes 37 = .ok (.getfield 85, 3) := by decide +kernel
theorem dX11_notes_40 : decode cX11_notes 40 = .ok (.putfield 81, 3) := by decide +kernel
theorem dX11_notes_43 : decode cX11_notes 43 = .ok (.aload_n 0, 1) := by decide +kernel
theorem dX11_notes_44 : decode cX11_notes 44 = .ok (.aload_n 2, 1) := by decide +kernel
theorem dX11_notes_45 : decode cX11_notes 45 = .ok (.putfield 85, 3) := by decide +kernel
theorem dX11_notes_48 : decode cX11_notes 48 = .ok (.iconst 0, 1) := by decide +kernel
theorem dX11_notes_49 : decode cX11_notes 49 = .ok (.ireturn, 1) := by decide +kernel
theorem zq_238 : Cond.fieldLink RX11 92 "ForeignKnit$Tape" "length" "I" ∈ zG := List.mem_of_getElem? (i := 238) (by decide +kernel)
theorem zq_239 : Cond.methodLink RX11 88 yX10_add ∈ zG := List.mem_of_getElem? (i := 239) (by decide +kernel)
theorem zq_258 : Cond.fieldLink RX11 107 "ForeignKnit$Past" "steps" "I" ∈ zG := List.mem_of_getElem? (i := 258) (by decide +kernel)
theorem zq_259 : Cond.fieldLink RX11 110 "ForeignKnit$Shelf" "bookStale" "Z" ∈ zG := List.mem_of_getElem? (i := 259) (by decide +kernel)
theorem zq_260 : Cond.fieldLink RX11 114 "ForeignKnit$Shelf" "handStale" "Z" ∈ zG := List.mem_of_getElem? (i := 260) (by decide +kernel)
theorem zq_261 : Cond.fieldLink RX11 117 "ForeignKnit$Misprints" "stale" "Z" ∈ zG := List.mem_of_getElem? (i := 261) (by decide +kernel)
theorem zq_262 : Cond.methodLink RX11 96 yX1_read ∈ zG := List.mem_of_getElem? (i := 262) (by decide +kernel)
theorem zq_566 : Cond.methodLink RX11 100 yX5_clear ∈ zG := List.mem_of_getElem? (i := 566) (by decide +kernel)
theorem zq_571 : Cond.methodLink RX11 103 yX3_begin ∈ zG := List.mem_of_getElem? (i := 571) (by decide +kernel)
theorem zq_716 : Cond.methodLink RX11 120 yX5_read ∈ zG := List.mem_of_getElem? (i := 716) (by decide +kernel)
theorem zq_721 : Cond.fieldLink RX5 40 "ForeignKnit$Notes" "about" "LForeignKnit$Book;" ∈ zG := List.mem_of_getElem? (i := 721) (by decide +kernel)
theorem zq_722 : Cond.fieldLink RX5 52 "ForeignKnit$Tape" "kind" "I" ∈ zG := List.mem_of_getElem? (i := 722) (by decide +kernel)
theorem zq_723 : Cond.fieldLink RX5 59 "ForeignKnit$Tape" "fault" "I" ∈ zG := List.mem_of_getElem? (i := 723) (by decide +kernel)
theorem zq_724 : Cond.methodLink RX5 44 yX5_clear ∈ zG := List.mem_of_getElem? (i := 724) (by decide +kernel)
theorem zq_725 : Cond.methodLink RX5 47 yX10_begin ∈ zG := List.mem_of_getElem? (i := 725) (by decide +kernel)
theorem zq_726 : Cond.methodLink RX5 55 yX5_readLine ∈ zG := List.mem_of_getElem? (i := 726) (by decide +kernel)
theorem zq_730 : Cond.fieldLink RX5 62 "ForeignKnit$Tape" "key" "I" ∈ zG := List.mem_of_getElem? (i := 730) (by decide +kernel)
theorem zq_731 : Cond.fieldLink RX5 76 "ForeignKnit$Book" "rows" "I" ∈ zG := List.mem_of_getElem? (i := 731) (by decide +kernel)
theorem zq_732 : Cond.methodLink RX5 65 yX10_wrong ∈ zG := List.mem_of_getElem? (i := 732) (by decide +kernel)
theorem zq_733 : Cond.methodLink RX5 69 yX10_next ∈ zG := List.mem_of_getElem? (i := 733) (by decide +kernel)
theorem zq_734 : Cond.methodLink RX5 72 yX10_takeName ∈ zG := List.mem_of_getElem? (i := 734) (by decide +kernel)
theorem zq_736 : Cond.methodLink RX5 85 yX5_readValue ∈ zG := List.mem_of_getElem? (i := 736) (by decide +kernel)
theorem zq_740 : Cond.methodLink RX5 89 yX10_takeEnd ∈ zG := List.mem_of_getElem? (i := 740) (by decide +kernel)
theorem zq_896 : Cond.fieldLink RX6 16 "ForeignKnit$Past" "steps" "I" ∈ zG := List.mem_of_getElem? (i := 896) (by decide +kernel)
theorem zq_897 : Cond.methodLink RX6 20 arraycopyName ∈ zG := List.mem_of_getElem? (i := 897) (by decide +kernel)
theorem zq_953 : Cond.methodLink RX6 26 yX3_put ∈ zG := List.mem_of_getElem? (i := 953) (by decide +kernel)
theorem zq_974 : Cond.fieldLink RX8 31 "ForeignKnit$Shelf" "book" "LForeignKnit$Book;" ∈ zG := List.mem_of_getElem? (i := 974) (by decide +kernel)
theorem zq_975 : Cond.methodLink RX8 41 Lib.Math.min.name ∈ zG := List.mem_of_getElem? (i := 975) (by decide +kernel)
theorem zq_976 : Cond.fieldLink RX8 47 "ForeignKnit$Shelf" "many" "I" ∈ zG := List.mem_of_getElem? (i := 976) (by decide +kernel)
theorem zq_977 : Cond.fieldLink RX8 51 "ForeignKnit$Shelf" "standing" "I" ∈ zG := List.mem_of_getElem? (i := 977) (by decide +kernel)
theorem zq_978 : Cond.methodLink RX8 35 yX0_dictionaries ∈ zG := List.mem_of_getElem? (i := 978) (by decide +kernel)
theorem zq_982 : Cond.methodLink RX8 54 yX8_makeRoom ∈ zG := List.mem_of_getElem? (i := 982) (by decide +kernel)
theorem zq_986 : Cond.methodLink RX8 72 Lib.Math.max.name ∈ zG := List.mem_of_getElem? (i := 986) (by decide +kernel)
theorem zq_987 : Cond.methodLink RX8 57 yJ7_fill_53178 ∈ zG := List.mem_of_getElem? (i := 987) (by decide +kernel)
theorem zq_988 : Cond.methodLink RX8 63 yX8_packDigits ∈ zG := List.mem_of_getElem? (i := 988) (by decide +kernel)
theorem zq_992 : Cond.fieldLink RX8 75 "ForeignKnit$Book" "words" "I" ∈ zG := List.mem_of_getElem? (i := 992) (by decide +kernel)
theorem zq_993 : Cond.fieldLink RX8 78 "ForeignKnit$Book" "meanings" "[[I" ∈ zG := List.mem_of_getElem? (i := 993) (by decide +kernel)
theorem zq_994 : Cond.methodLink RX8 66 yX0_rowsDown ∈ zG := List.mem_of_getElem? (i := 994) (by decide +kernel)
theorem zq_1013 : Cond.methodLink RX8 69 yX8_nextDigits ∈ zG := List.mem_of_getElem? (i := 1013) (by decide +kernel)
theorem zq_1017 : Cond.fieldLink RX8 82 "ForeignKnit$Book" "sizes" "[I" ∈ zG := List.mem_of_getElem? (i := 1017) (by decide +kernel)
theorem zq_1022 : Cond.fieldLink RX5 95 "ForeignKnit$Notes" "impossible" "I" ∈ zG := List.mem_of_getElem? (i := 1022) (by decide +kernel)
theorem zq_1023 : Cond.fieldLink RX5 98 "ForeignKnit$Notes" "stuck" "I" ∈ zG := List.mem_of_getElem? (i := 1023) (by decide +kernel)
theorem zq_1024 : Cond.fieldLink RX5 107 "ForeignKnit$Notes" "left" "I" ∈ zG := List.mem_of_getElem? (i := 1024) (by decide +kernel)
theorem zq_1025 : Cond.methodLink RX5 92 yX3_begin ∈ zG := List.mem_of_getElem? (i := 1025) (by decide +kernel)
theorem zq_1026 : Cond.methodLink RX5 101 yX8_fittingBy ∈ zG := List.mem_of_getElem? (i := 1026) (by decide +kernel)
theorem zq_1030 : Cond.methodLink RX8 88 yX3_agrees ∈ zG := List.mem_of_getElem? (i := 1030) (by decide +kernel)
theorem zq_1049 : Cond.methodLink RX5 110 yX5_canBe ∈ zG := List.mem_of_getElem? (i := 1049) (by decide +kernel)
theorem zq_1053 : Cond.methodLink RX5 117 yX0_means ∈ zG := List.mem_of_getElem? (i := 1053) (by decide +kernel)
theorem zq_1054 : Cond.methodLink RX5 121 yX3_at ∈ zG := List.mem_of_getElem? (i := 1054) (by decide +kernel)
theorem zq_1055 : Cond.methodLink RX5 114 yX3_put ∈ zG := List.mem_of_getElem? (i := 1055) (by decide +kernel)
theorem zq_1113 : Cond.fieldLink RX8 85 "ForeignKnit$Shelf" "fitting" "I" ∈ zG := List.mem_of_getElem? (i := 1113) (by decide +kernel)
theorem zq_1140 : Cond.methodLink RX8 118 yX9_clear ∈ zG := List.mem_of_getElem? (i := 1140) (by decide +kernel)
theorem zq_1144 : Cond.methodLink RX9 15 yJ7_fill_53178 ∈ zG := List.mem_of_getElem? (i := 1144) (by decide +kernel)
theorem zq_1145 : Cond.methodLink RX8 115 yX8_meaningIn ∈ zG := List.mem_of_getElem? (i := 1145) (by decide +kernel)
theorem zq_1146 : Cond.methodLink RX8 123 yX9_add ∈ zG := List.mem_of_getElem? (i := 1146) (by decide +kernel)
theorem zq_1166 : Cond.methodLink RX9 27 yX9_lowest ∈ zG := List.mem_of_getElem? (i := 1166) (by decide +kernel)
theorem zq_1170 : Cond.methodLink RX9 31 yX9_highest ∈ zG := List.mem_of_getElem? (i := 1170) (by decide +kernel)
theorem zq_1214 : Cond.methodLink RX8 127 yX0_leavesOf ∈ zG := List.mem_of_getElem? (i := 1214) (by decide +kernel)
theorem zq_1277 : Cond.methodLink RX9 21 Lib.Math.max.name ∈ zG := List.mem_of_getElem? (i := 1277) (by decide +kernel)
theorem zq_1370 : Cond.methodLink RX8 94 yX3_guesses ∈ zG := List.mem_of_getElem? (i := 1370) (by decide +kernel)
theorem zq_1371 : Cond.methodLink RX8 98 yX3_missed ∈ zG := List.mem_of_getElem? (i := 1371) (by decide +kernel)
theorem zq_1372 : Cond.methodLink RX8 102 yX8_isLess ∈ zG := List.mem_of_getElem? (i := 1372) (by decide +kernel)
theorem zq_1375 : Cond.methodLink RX8 106 yJ6_bitCount_0f7a4 ∈ zG := List.mem_of_getElem? (i := 1375) (by decide +kernel)
theorem zq_1512 : Cond.methodLink RX8 112 yX8_downIn ∈ zG := List.mem_of_getElem? (i := 1512) (by decide +kernel)
theorem zfd_X11_21 : zFd RX11 21 11 1 := ⟨_, rfl, by decide, zq_21⟩
theorem zfd_X11_28 : zFd RX11 28 11 2 := ⟨_, rfl, by decide, zq_25⟩
theorem zfd_X11_36 : zFd RX11 36 11 4 := ⟨_, rfl, by decide, zq_28⟩
theorem zfd_X11_43 : zFd RX11 43 11 5 := ⟨_, rfl, by decide, zq_32⟩
theorem zfd_X11_50 : zFd RX11 50 11 6 := ⟨_, rfl, by decide, zq_36⟩
theorem zfd_X11_64 : zFd RX11 64 11 8 := ⟨_, rfl, by decide, zq_44⟩
theorem zfd_X11_71 : zFd RX11 71 11 9 := ⟨_, rfl, by decide, zq_48⟩
theorem zfd_X11_75 : zFd RX11 75 11 10 := ⟨_, rfl, by decide, zq_49⟩
theorem zfd_X11_81 : zFd RX11 81 11 11 := ⟨_, rfl, by decide, zq_53⟩
theorem zfd_X11_85 : zFd RX11 85 11 12 := ⟨_, rfl, by decide, zq_54⟩
theorem zfd_X11_92 : zFd RX11 92 10 1 := ⟨_, rfl, by decide, zq_238⟩
theorem zfd_X5_15 : zFd RX5 15 5 5 := ⟨_, rfl, by decide, zq_130⟩
theorem zfd_X5_19 : zFd RX5 19 5 6 := ⟨_, rfl, by decide, zq_131⟩
theorem zfd_X5_22 : zFd RX5 22 5 7 := ⟨_, rfl, by decide, zq_132⟩
theorem zfd_X5_28 : zFd RX5 28 5 8 := ⟨_, rfl, by decide, zq_134⟩
theorem zfd_X5_32 : zFd RX5 32 5 0 := ⟨_, rfl, by decide, zq_570⟩
theorem zfd_X5_40 : zFd RX5 40 5 9 := ⟨_, rfl, by decide, zq_721⟩
theorem zfd_X5_52 : zFd RX5 52 10 2 := ⟨_, rfl, by decide, zq_722⟩
theorem zfd_X5_59 : zFd RX5 59 10 8 := ⟨_, rfl, by decide, zq_723⟩
theorem zfd_X5_62 : zFd RX5 62 10 5 := ⟨_, rfl, by decide, zq_730⟩
theorem zfd_X5_76 : zFd RX5 76 0 7 := ⟨_, rfl, by decide, zq_731⟩
theorem zfd_X5_95 : zFd RX5 95 5 2 := ⟨_, rfl, by decide, zq_1022⟩
theorem zfd_X5_98 : zFd RX5 98 5 3 := ⟨_, rfl, by decide, zq_1023⟩
theorem zfd_X5_107 : zFd RX5 107 5 4 := ⟨_, rfl, by decide, zq_1024⟩
theorem zfd_X6_9 : zFd RX6 9 6 1 := ⟨_, rfl, by decide, zq_90⟩
theorem zfd_X6_13 : zFd RX6 13 6 2 := ⟨_, rfl, by decide, zq_91⟩
theorem zfd_X6_16 : zFd RX6 16 6 0 := ⟨_, rfl, by decide, zq_896⟩
theorem zfd_X8_18 : zFd RX8 18 8 4 := ⟨_, rfl, by decide, zq_97⟩
theorem zfd_X8_22 : zFd RX8 22 8 5 := ⟨_, rfl, by decide, zq_98⟩
theorem zfd_X8_25 : zFd RX8 25 8 6 := ⟨_, rfl, by decide, zq_99⟩
theorem zfd_X8_28 : zFd RX8 28 8 8 := ⟨_, rfl, by decide, zq_100⟩
theorem zfd_X8_31 : zFd RX8 31 8 9 := ⟨_, rfl, by decide, zq_974⟩
theorem zfd_X8_47 : zFd RX8 47 8 2 := ⟨_, rfl, by decide, zq_976⟩
theorem zfd_X8_51 : zFd RX8 51 8 7 := ⟨_, rfl, by decide, zq_977⟩
theorem zfd_X8_75 : zFd RX8 75 0 0 := ⟨_, rfl, by decide, zq_992⟩
theorem zfd_X8_78 : zFd RX8 78 0 5 := ⟨_, rfl, by decide, zq_993⟩
theorem zfd_X8_82 : zFd RX8 82 0 4 := ⟨_, rfl, by decide, zq_1017⟩
theorem zfd_X8_85 : zFd RX8 85 8 3 := ⟨_, rfl, by decide, zq_1113⟩
theorem zfd_X9_9 : zFd RX9 9 9 0 := ⟨_, rfl, by decide, zq_104⟩
theorem zfp_X10_15 : zFp RX10 15 10 1 .int := ⟨_, rfl, by decide, zq_243, rfl, by decide +kernel⟩
theorem zfp_X11_92 : zFp RX11 92 10 1 .int := ⟨_, rfl, by decide, zq_238, rfl, by decide +kernel⟩
theorem zfp_X11_107 : zFp RX11 107 6 0 .int := ⟨_, rfl, by decide, zq_258, rfl, by decide +kernel⟩
theorem zfp_X11_110 : zFp RX11 110 8 0 .boolean := ⟨_, rfl, by decide, zq_259, rfl, by decide +kernel⟩
theorem zfp_X11_114 : zFp RX11 114 8 1 .boolean := ⟨_, rfl, by decide, zq_260, rfl, by decide +kernel⟩
theorem zfp_X11_117 : zFp RX11 117 4 0 .boolean := ⟨_, rfl, by decide, zq_261, rfl, by decide +kernel⟩
theorem zfp_X5_36 : zFp RX5 36 5 10 (.object "ForeignKnit$Tape") := ⟨_, rfl, by decide, zq_720, rfl, by decide +kernel⟩
theorem zfp_X5_40 : zFp RX5 40 5 9 (.object "ForeignKnit$Book") := ⟨_, rfl, by decide, zq_721, rfl, by decide +kernel⟩
theorem zfp_X5_95 : zFp RX5 95 5 2 .int := ⟨_, rfl, by decide, zq_1022, rfl, by decide +kernel⟩
theorem zfp_X5_98 : zFp RX5 98 5 3 .int := ⟨_, rfl, by decide, zq_1023, rfl, by decide +kernel⟩
theorem zfp_X5_107 : zFp RX5 107 5 4 .int := ⟨_, rfl, by decide, zq_1024, rfl, by decide +kernel⟩
theorem zfp_X6_16 : zFp RX6 16 6 0 .int := ⟨_, rfl, by decide, zq_896, rfl, by decide +kernel⟩
theorem zfp_X8_31 : zFp RX8 31 8 9 (.object "ForeignKnit$Book") := ⟨_, rfl, by decide, zq_974, rfl, by decide +kernel⟩
theorem zfp_X8_47 : zFp RX8 47 8 2 .int := ⟨_, rfl, by decide, zq_976, rfl, by decide +kernel⟩
theorem zfp_X8_51 : zFp RX8 51 8 7 .int := ⟨_, rfl, by decide, zq_977, rfl, by decide +kernel⟩
theorem zfp_X8_85 : zFp RX8 85 8 3 .int := ⟨_, rfl, by decide, zq_1113, rfl, by decide +kernel⟩
theorem zq_981 : Cond.code yX0_dictionaries cX0_dictionaries 3 (some .int) ∈ zG := List.mem_of_getElem? (i := 981) (by decide +kernel)
theorem zq_979 : Cond.instanceMethod yX0_dictionaries ∈ zG := List.mem_of_getElem? (i := 979) (by decide +kernel)
theorem zq_980 : Cond.selects RX0 yX0_dictionaries yX0_dictionaries ∈ zG := List.mem_of_getElem? (i := 980) (by decide +kernel)
theorem zy_X0_dictionaries : zyV yX0_dictionaries cX0_dictionaries 3 (some .int) 0 := ⟨zq_981, zq_979, zq_980, zq_47, ⟨by decide, by decide⟩, by decide +kernel, by decide⟩
theorem zq_879 : Cond.code yX0_means cX0_means 4 (some .boolean) ∈ zG := List.mem_of_getElem? (i := 879) (by decide +kernel)
theorem zq_877 : Cond.instanceMethod yX0_means ∈ zG := List.mem_of_getElem? (i := 877) (by decide +kernel)
theorem zq_878 : Cond.selects RX0 yX0_means yX0_means ∈ zG := List.mem_of_getElem? (i := 878) (by decide +kernel)
theorem zy_X0_means : zyV yX0_means cX0_means 4 (some .boolean) 2 := ⟨zq_879, zq_877, zq_878, zq_47, ⟨by decide, by decide⟩, by decide +kernel, by decide⟩
theorem zq_997 : Cond.code yX0_rowsDown cX0_rowsDown 6 (some .int) ∈ zG := List.mem_of_getElem? (i := 997) (by decide +kernel)
theorem zq_995 : Cond.instanceMethod yX0_rowsDown ∈ zG := List.mem_of_getElem? (i := 995) (by decide +kernel)
theorem zq_996 : Cond.selects RX0 yX0_rowsDown yX0_rowsDown ∈ zG := List.mem_of_getElem? (i := 996) (by decide +kernel)
theorem zy_X0_rowsDown : zyV yX0_rowsDown cX0_rowsDown 6 (some .int) 2 := ⟨zq_997, zq_995, zq_996, zq_47, ⟨by decide, by decide⟩, by decide +kernel, by decide⟩
theorem zq_242 : Cond.code yX10_add cX10_add 6 none ∈ zG := List.mem_of_getElem? (i := 242) (by decide +kernel)
theorem zq_240 : Cond.instanceMethod yX10_add ∈ zG := List.mem_of_getElem? (i := 240) (by decide +kernel)
theorem zq_241 : Cond.selects RX10 yX10_add yX10_add ∈ zG := List.mem_of_getElem? (i := 241) (by decide +kernel)
theorem zy_X10_add : zyV yX10_add cX10_add 6 none 1 := ⟨zq_242, zq_240, zq_241, zq_16, ⟨by decide, by decide⟩, by decide +kernel, by decide⟩
theorem zq_265 : Cond.code yX1_read cX1_read 4 (some .int) ∈ zG := List.mem_of_getElem? (i := 265) (by decide +kernel)
theorem zq_263 : Cond.instanceMethod yX1_read ∈ zG := List.mem_of_getElem? (i := 263) (by decide +kernel)
theorem zq_264 : Cond.selects RX1 yX1_read yX1_read ∈ zG := List.mem_of_getElem? (i := 264) (by decide +kernel)
theorem zy_X1_read : zyV yX1_read cX1_read 4 (some .int) 1 := ⟨zq_265, zq_263, zq_264, zq_20, ⟨by decide, by decide⟩, by decide +kernel, by decide⟩
theorem zq_1033 : Cond.code yX3_agrees cX3_agrees 3 (some .boolean) ∈ zG := List.mem_of_getElem? (i := 1033) (by decide +kernel)
theorem zq_1031 : Cond.instanceMethod yX3_agrees ∈ zG := List.mem_of_getElem? (i := 1031) (by decide +kernel)
theorem zq_1032 : Cond.selects RX3 yX3_agrees yX3_agrees ∈ zG := List.mem_of_getElem? (i := 1032) (by decide +kernel)
theorem zy_X3_agrees : zyV yX3_agrees cX3_agrees 3 (some .boolean) 2 := ⟨zq_1033, zq_1031, zq_1032, zq_24, ⟨by decide, by decide⟩, by decide +kernel, by decide⟩
theorem zq_574 : Cond.code yX3_begin cX3_begin 2 none ∈ zG := List.mem_of_getElem? (i := 574) (by decide +kernel)
theorem zq_572 : Cond.instanceMethod yX3_begin ∈ zG := List.mem_of_getElem? (i := 572) (by decide +kernel)
theorem zq_573 : Cond.selects RX3 yX3_begin yX3_begin ∈ zG := List.mem_of_getElem? (i := 573) (by decide +kernel)
theorem zy_X3_begin : zyV yX3_begin cX3_begin 2 none 1 := ⟨zq_574, zq_572, zq_573, zq_24, ⟨by decide, by decide⟩, by decide +kernel, by decide⟩
theorem zq_887 : Cond.code yX3_put cX3_put 4 (some .int) ∈ zG := List.mem_of_getElem? (i := 887) (by decide +kernel)
theorem zq_885 : Cond.instanceMethod yX3_put ∈ zG := List.mem_of_getElem? (i := 885) (by decide +kernel)
theorem zq_886 : Cond.selects RX3 yX3_put yX3_put ∈ zG := List.mem_of_getElem? (i := 886) (by decide +kernel)
theorem zy_X3_put : zyV yX3_put cX3_put 4 (some .int) 2 := ⟨zq_887, zq_885, zq_886, zq_24, ⟨by decide, by decide⟩, by decide +kernel, by decide⟩
theorem zq_1052 : Cond.code yX5_canBe cX5_canBe 3 (some .boolean) ∈ zG := List.mem_of_getElem? (i := 1052) (by decide +kernel)
theorem zq_1050 : Cond.instanceMethod yX5_canBe ∈ zG := List.mem_of_getElem? (i := 1050) (by decide +kernel)
theorem zq_1051 : Cond.selects RX5 yX5_canBe yX5_canBe ∈ zG := List.mem_of_getElem? (i := 1051) (by decide +kernel)
theorem zy_X5_canBe : zyV yX5_canBe cX5_canBe 3 (some .boolean) 2 := ⟨zq_1052, zq_1050, zq_1051, zq_52, ⟨by decide, by decide⟩, by decide +kernel, by decide⟩
theorem zq_569 : Cond.code yX5_clear cX5_clear 1 none ∈ zG := List.mem_of_getElem? (i := 569) (by decide +kernel)
theorem zq_567 : Cond.instanceMethod yX5_clear ∈ zG := List.mem_of_getElem? (i := 567) (by decide +kernel)
theorem zq_568 : Cond.selects RX5 yX5_clear yX5_clear ∈ zG := List.mem_of_getElem? (i := 568) (by decide +kernel)
theorem zy_X5_clear : zyV yX5_clear cX5_clear 1 none 0 := ⟨zq_569, zq_567, zq_568, zq_52, ⟨by decide, by decide⟩, by decide +kernel, by decide⟩
theorem zq_719 : Cond.code yX5_read cX5_read 4 (some .int) ∈ zG := List.mem_of_getElem? (i := 719) (by decide +kernel)
theorem zq_717 : Cond.instanceMethod yX5_read ∈ zG := List.mem_of_getElem? (i := 717) (by decide +kernel)
theorem zq_718 : Cond.selects RX5 yX5_read yX5_read ∈ zG := List.mem_of_getElem? (i := 718) (by decide +kernel)
theorem zy_X5_read : zyV yX5_read cX5_read 4 (some .int) 2 := ⟨zq_719, zq_717, zq_718, zq_52, ⟨by decide, by decide⟩, by decide +kernel, by decide⟩
theorem zq_729 : Cond.code yX5_readLine cX5_readLine 5 (some .boolean) ∈ zG := List.mem_of_getElem? (i := 729) (by decide +kernel)
theorem zq_727 : Cond.instanceMethod yX5_readLine ∈ zG := List.mem_of_getElem? (i := 727) (by decide +kernel)
theorem zq_728 : Cond.selects RX5 yX5_readLine yX5_readLine ∈ zG := List.mem_of_getElem? (i := 728) (by decide +kernel)
theorem zy_X5_readLine : zyV yX5_readLine cX5_readLine 5 (some .boolean) 0 := ⟨zq_729, zq_727, zq_728, zq_52, ⟨by decide, by decide⟩, by decide +kernel, by decide⟩
theorem zq_739 : Cond.code yX5_readValue cX5_readValue 4 (some .int) ∈ zG := List.mem_of_getElem? (i := 739) (by decide +kernel)
theorem zq_737 : Cond.instanceMethod yX5_readValue ∈ zG := List.mem_of_getElem? (i := 737) (by decide +kernel)
theorem zq_738 : Cond.selects RX5 yX5_readValue yX5_readValue ∈ zG := List.mem_of_getElem? (i := 738) (by decide +kernel)
theorem zy_X5_readValue : zyV yX5_readValue cX5_readValue 4 (some .int) 1 := ⟨zq_739, zq_737, zq_738, zq_52, ⟨by decide, by decide⟩, by decide +kernel, by decide⟩
theorem zq_1029 : Cond.code yX8_fittingBy cX8_fittingBy 4 (some .int) ∈ zG := List.mem_of_getElem? (i := 1029) (by decide +kernel)
theorem zq_1027 : Cond.instanceMethod yX8_fittingBy ∈ zG := List.mem_of_getElem? (i := 1027) (by decide +kernel)
theorem zq_1028 : Cond.selects RX8 yX8_fittingBy yX8_fittingBy ∈ zG := List.mem_of_getElem? (i := 1028) (by decide +kernel)
theorem zy_X8_fittingBy : zyV yX8_fittingBy cX8_fittingBy 4 (some .int) 1 := ⟨zq_1029, zq_1027, zq_1028, zq_35, ⟨by decide, by decide⟩, by decide +kernel, by decide⟩
theorem zq_985 : Cond.code yX8_makeRoom cX8_makeRoom 2 none ∈ zG := List.mem_of_getElem? (i := 985) (by decide +kernel)
theorem zq_983 : Cond.instanceMethod yX8_makeRoom ∈ zG := List.mem_of_getElem? (i := 983) (by decide +kernel)
theorem zq_984 : Cond.selects RX8 yX8_makeRoom yX8_makeRoom ∈ zG := List.mem_of_getElem? (i := 984) (by decide +kernel)
theorem zy_X8_makeRoom : zyV yX8_makeRoom cX8_makeRoom 2 none 0 := ⟨zq_985, zq_983, zq_984, zq_35, ⟨by decide, by decide⟩, by decide +kernel, by decide⟩
theorem zq_1016 : Cond.code yX8_nextDigits cX8_nextDigits 2 none ∈ zG := List.mem_of_getElem? (i := 1016) (by decide +kernel)
theorem zq_1014 : Cond.instanceMethod yX8_nextDigits ∈ zG := List.mem_of_getElem? (i := 1014) (by decide +kernel)
theorem zq_1015 : Cond.selects RX8 yX8_nextDigits yX8_nextDigits ∈ zG := List.mem_of_getElem? (i := 1015) (by decide +kernel)
theorem zy_X8_nextDigits : zyV yX8_nextDigits cX8_nextDigits 2 none 0 := ⟨zq_1016, zq_1014, zq_1015, zq_35, ⟨by decide, by decide⟩, by decide +kernel, by decide⟩
theorem zq_991 : Cond.code yX8_packDigits cX8_packDigits 3 (some .int) ∈ zG := List.mem_of_getElem? (i := 991) (by decide +kernel)
theorem zq_989 : Cond.instanceMethod yX8_packDigits ∈ zG := List.mem_of_getElem? (i := 989) (by decide +kernel)
theorem zq_990 : Cond.selects RX8 yX8_packDigits yX8_packDigits ∈ zG := List.mem_of_getElem? (i := 990) (by decide +kernel)
theorem zy_X8_packDigits : zyV yX8_packDigits cX8_packDigits 3 (some .int) 0 := ⟨zq_991, zq_989, zq_990, zq_35, ⟨by decide, by decide⟩, by decide +kernel, by decide⟩
theorem zq_1149 : Cond.code yX9_add cX9_add 2 none ∈ zG := List.mem_of_getElem? (i := 1149) (by decide +kernel)
theorem zq_1147 : Cond.instanceMethod yX9_add ∈ zG := List.mem_of_getElem? (i := 1147) (by decide +kernel)
theorem zq_1148 : Cond.selects RX9 yX9_add yX9_add ∈ zG := List.mem_of_getElem? (i := 1148) (by decide +kernel)
theorem zy_X9_add : zyV yX9_add cX9_add 2 none 1 := ⟨zq_1149, zq_1147, zq_1148, zq_39, ⟨by decide, by decide⟩, by decide +kernel, by decide⟩
theorem zq_1143 : Cond.code yX9_clear cX9_clear 1 none ∈ zG := List.mem_of_getElem? (i := 1143) (by decide +kernel)
theorem zq_1141 : Cond.instanceMethod yX9_clear ∈ zG := List.mem_of_getElem? (i := 1141) (by decide +kernel)
theorem zq_1142 : Cond.selects RX9 yX9_clear yX9_clear ∈ zG := List.mem_of_getElem? (i := 1142) (by decide +kernel)
theorem zy_X9_clear : zyV yX9_clear cX9_clear 1 none 0 := ⟨zq_1143, zq_1141, zq_1142, zq_39, ⟨by decide, by decide⟩, by decide +kernel, by decide⟩
theorem zq_1173 : Cond.code yX9_highest cX9_highest 2 (some .int) ∈ zG := List.mem_of_getElem? (i := 1173) (by decide +kernel)
theorem zq_1171 : Cond.instanceMethod yX9_highest ∈ zG := List.mem_of_getElem? (i := 1171) (by decide +kernel)
theorem zq_1172 : Cond.selects RX9 yX9_highest yX9_highest ∈ zG := List.mem_of_getElem? (i := 1172) (by decide +kernel)
theorem zy_X9_highest : zyV yX9_highest cX9_highest 2 (some .int) 0 := ⟨zq_1173, zq_1171, zq_1172, zq_39, ⟨by decide, by decide⟩, by decide +kernel, by decide⟩
theorem zq_1169 : Cond.code yX9_lowest cX9_lowest 2 (some .int) ∈ zG := List.mem_of_getElem? (i := 1169) (by decide +kernel)
theorem zq_1167 : Cond.instanceMethod yX9_lowest ∈ zG := List.mem_of_getElem? (i := 1167) (by decide +kernel)
theorem zq_1168 : Cond.selects RX9 yX9_lowest yX9_lowest ∈ zG := List.mem_of_getElem? (i := 1168) (by decide +kernel)
theorem zy_X9_lowest : zyV yX9_lowest cX9_lowest 2 (some .int) 0 := ⟨zq_1169, zq_1167, zq_1168, zq_39, ⟨by decide, by decide⟩, by decide +kernel, by decide⟩
theorem zq_1374 : Cond.code yX8_isLess cX8_isLess 3 (some .boolean) ∈ zG := List.mem_of_getElem? (i := 1374) (by decide +kernel)
theorem zq_1373 : Cond.static yX8_isLess ∈ zG := List.mem_of_getElem? (i := 1373) (by decide +kernel)
theorem zy_X8_isLess : zyS yX8_isLess cX8_isLess 3 (some .boolean) 2 := ⟨zq_1374, zq_1373, zq_35, ⟨by decide, by decide⟩, by decide +kernel, by decide⟩
theorem zf_1 : zfix 1 = true := by decide +kernel
theorem zs_1 : zsh 1 = 11 := by decide +kernel
theorem zl_1 : zln 1 = 0 := by decide +kernel
theorem zo_5_1 : zoffok 5 1 20 40 = true := by decide +kernel
theorem zo_5_2 : zoffok 5 2 20 40 = true := by decide +kernel
theorem zo_5_3 : zoffok 5 3 20 40 = true := by decide +kernel
theorem zo_5_4 : zoffok 5 4 3 0 = true := by decide +kernel
section ZM
variable {p : Program} {l : Launch} {e : Env} {R : Room} {s : State} {m : MethodId} {args : Array Value} {below : List Frame} {meth : Method} {c : Code} {cells slots : Nat} {Q : State → Prop} {D : va_G} {dA : Nat → ClassId} {ad ad0 : Nat → Nat} {al al0 : Nat → Prop}
/-! X5_readLine -/
def fX5_readLine_J20 (a0 : Nat) (k : Int32 → zW → Prop)  (w : zW) : Prop :=
  ¬ gR w a0 10 = 0 ∧
  fX10_wrong (1 : Int32) w (fun r5 w5 =>
  zb01 r5 ∧ k r5 w5)
set_option maxHeartbeats 4000000 in
set_option maxRecDepth 100000 in
theorem mX5_readLine_J20 {k : Int32 → zW → Prop} {a0 : Nat} (X : zCx p s m args meth c cX5_readLine 5 RX5 (some .boolean)) (hr : zRm R 8 cells slots) (hQ : zRetZ p l e R s m args below meth c cells slots Q D dA true ad0 al0 ad al cX5_readLine k) (ha0 : al a0 ∧ zsh a0 = 5)   {w : zW} {H : Heap} {locs : List Loc} {ls : Array Slot} (hf : fX5_readLine_J20 a0 k  w) (hR : zSt D dA true ad0 al0 ad al w s H locs) (hl : lv_has ls 5 [(0, .ref (ad a0))]) : W p l e R s m args below meth c H locs cells slots Q (F0 m 20 ls []) := by
  have hx := X.1
  have hb := X.2.1
  have hml := X.2.2.1
  have hown := X.2.2.2.1
  have hts := X.2.2.2.2.1
  unfold fX5_readLine_J20 at hf
  refine lv_aload_n hx hb dX5_readLine_20 rfl (lv_at hl 0 rfl) ?_
  refine z_getR X hR ha0.1 ha0.2 (by decide) zfd_X5_36 rfl dX5_readLine_21 ?_
  obtain ⟨hn40, hf⟩ := hf
  have hn4 : al (gR w a0 10) ∧ zsh (gR w a0 10) = 10 := zwt_of hR ha0.1 ha0.2 rfl hn40 (zdc_of ha0.2 rfl)
  rw [zrf_pos hn40]
  have hn41 : gR w a0 10 = 2 := zone_10 hn4.2
  rw [hn41]
  refine lv_iconst (v := (1 : Int32)) hx hb dX5_readLine_24 (by decide) ?_
  refine z_callVI (fr1 := 0) (b := 2) (As := [.int (1 : Int32)]) (rest := []) X (hr.le (by decide)) hR zy_X10_wrong zq_732 (zlit hR zf_2) (by rw [zs_2]; rfl) rfl (mX10_wrong  hf) rfl hl (Nat.le_of_ble_eq_true rfl) dX5_readLine_25 rfl (fun r5 w5 H locs hf hR => ?_)
  obtain ⟨h01, hf⟩ := hf
  exact hQ _ _ _ _ _ _ h01 hf hR dX5_readLine_28
def fX5_readLine_J45 (a0 : Nat) (k : Int32 → zW → Prop)  (w : zW) : Prop :=
  ¬ gR w a0 10 = 0 ∧
  fX10_wrong (5 : Int32) w (fun r9 w9 =>
  zb01 r9 ∧ k r9 w9)
set_option maxHeartbeats 4000000 in
set_option maxRecDepth 100000 in
theorem mX5_readLine_J45 {k : Int32 → zW → Prop} {a0 : Nat} (X : zCx p s m args meth c cX5_readLine 5 RX5 (some .boolean)) (hr : zRm R 8 cells slots) (hQ : zRetZ p l e R s m args below meth c cells slots Q D dA true ad0 al0 ad al cX5_readLine k) (ha0 : al a0 ∧ zsh a0 = 5)   {w : zW} {H : Heap} {locs : List Loc} {ls : Array Slot} (hf : fX5_readLine_J45 a0 k  w) (hR : zSt D dA true ad0 al0 ad al w s H locs) (hl : lv_has ls 5 [(0, .ref (ad a0))]) : W p l e R s m args below meth c H locs cells slots Q (F0 m 45 ls []) := by
  have hx := X.1
  have hb := X.2.1
  have hml := X.2.2.1
  have hown := X.2.2.2.1
  have hts := X.2.2.2.2.1
  unfold fX5_readLine_J45 at hf
  refine lv_aload_n hx hb dX5_readLine_45 rfl (lv_at hl 0 rfl) ?_
  refine z_getR X hR ha0.1 ha0.2 (by decide) zfd_X5_36 rfl dX5_readLine_46 ?_
  obtain ⟨hn80, hf⟩ := hf
  have hn8 : al (gR w a0 10) ∧ zsh (gR w a0 10) = 10 := zwt_of hR ha0.1 ha0.2 rfl hn80 (zdc_of ha0.2 rfl)
  rw [zrf_pos hn80]
  have hn81 : gR w a0 10 = 2 := zone_10 hn8.2
  rw [hn81]
  refine lv_iconst (v := (5 : Int32)) hx hb dX5_readLine_49 (by decide) ?_
  refine z_callVI (fr1 := 0) (b := 2) (As := [.int (5 : Int32)]) (rest := []) X (hr.le (by decide)) hR zy_X10_wrong zq_732 (zlit hR zf_2) (by rw [zs_2]; rfl) rfl (mX10_wrong  hf) rfl hl (Nat.le_of_ble_eq_true rfl) dX5_readLine_50 rfl (fun r9 w9 H locs hf hR => ?_)
  obtain ⟨h01, hf⟩ := hf
  exact hQ _ _ _ _ _ _ h01 hf hR dX5_readLine_53
def fX5_readLine_J167 (a0 : Nat) (k : Int32 → zW → Prop) (x4 : Int32) (t0 : Int32) (t1 : Int32) (w : zW) : Prop :=
  vp_in t1 40 ∧ 
  ∀ w24 : zW, w24 = sI w (a0 + 2) t1.toNatClampNeg t0 →
  vp_in (gI w24 a0 0) 40 ∧ 
  ∀ w26 : zW, w26 = sI w24 (a0 + 3) (gI w24 a0 0).toNatClampNeg x4 →
  ∀ w27 : zW, w27 = sI w26 a0 0 ((gI w26 a0 0) + (1 : Int32)) →
  ¬ gR w27 a0 10 = 0 ∧
  fX10_takeEnd  w27 (fun r29 w29 =>
  zb01 r29 ∧ k r29 w29)
set_option maxHeartbeats 4000000 in
set_option maxRecDepth 100000 in
theorem mX5_readLine_J167 {k : Int32 → zW → Prop} {a0 : Nat} (X : zCx p s m args meth c cX5_readLine 5 RX5 (some .boolean)) (hr : zRm R 8 cells slots) (hQ : zRetZ p l e R s m args below meth c cells slots Q D dA true ad0 al0 ad al cX5_readLine k) (ha0 : al a0 ∧ zsh a0 = 5)  {x4 : Int32} {t0 : Int32} {t1 : Int32} {w : zW} {H : Heap} {locs : List Loc} {ls : Array Slot} (hf : fX5_readLine_J167 a0 k x4 t0 t1 w) (hR : zSt D dA true ad0 al0 ad al w s H locs) (hl : lv_has ls 5 [(0, .ref (ad a0)), (4, .int x4)]) : W p l e R s m args below meth c H locs cells slots Q (F0 m 167 ls [.int t0, .int t1, .ref (ad (a0 + 2))]) := by
  have hx := X.1
  have hb := X.2.1
  have hml := X.2.2.1
  have hown := X.2.2.2.1
  have hts := X.2.2.2.2.1
  unfold fX5_readLine_J167 at hf
  obtain ⟨hb23, hf⟩ := hf
  refine z_iast X hR (zoff hR ha0.2 zo_5_2).1 (zoff hR ha0.2 zo_5_2).2.1 (zoff hR ha0.2 zo_5_2).2.2 hb23 dX5_readLine_167 (fun H locs hR => ?_)
  obtain ⟨w24, hw24⟩ : ∃ z : zW, z = sI w (a0 + 2) t1.toNatClampNeg t0 := ⟨_, rfl⟩
  rw [← hw24] at hR
  replace hf := hf w24 hw24
  refine lv_aload_n hx hb dX5_readLine_168 rfl (lv_at hl 0 rfl) ?_
  refine z_getS X hR ha0.1 ha0.2 (by decide) zfd_X5_22 rfl (r := a0 + 3) (zst_5 ha0.2 7 rfl) dX5_readLine_169 ?_
  refine lv_aload_n hx hb dX5_readLine_172 rfl (lv_at hl 0 rfl) ?_
  refine z_getI X hR ha0.1 ha0.2 (by decide) zfd_X5_32 rfl dX5_readLine_173 ?_
  refine lv_iload hx hb dX5_readLine_176 (lv_at hl 1 rfl) ?_
  obtain ⟨hb25, hf⟩ := hf
  refine z_iast X hR (zoff hR ha0.2 zo_5_3).1 (zoff hR ha0.2 zo_5_3).2.1 (zoff hR ha0.2 zo_5_3).2.2 hb25 dX5_readLine_178 (fun H locs hR => ?_)
  obtain ⟨w26, hw26⟩ : ∃ z : zW, z = sI w24 (a0 + 3) (gI w24 a0 0).toNatClampNeg x4 := ⟨_, rfl⟩
  rw [← hw26] at hR
  replace hf := hf w26 hw26
  refine lv_aload_n hx hb dX5_readLine_179 rfl (lv_at hl 0 rfl) ?_
  refine lv_dup hx hb dX5_readLine_180 rfl ?_
  refine z_getI X hR ha0.1 ha0.2 (by decide) zfd_X5_32 rfl dX5_readLine_181 ?_
  refine lv_iconst (v := (1 : Int32)) hx hb dX5_readLine_184 (by decide) ?_
  refine lv_iadd hx hb dX5_readLine_185 ?_
  refine z_putI X hR ha0.1 ha0.2 (by decide) zfp_X5_32 rfl dX5_readLine_186 (fun H locs hR => ?_)
  obtain ⟨w27, hw27⟩ : ∃ z : zW, z = sI w26 a0 0 ((gI w26 a0 0) + (1 : Int32)) := ⟨_, rfl⟩
  rw [← hw27] at hR
  replace hf := hf w27 hw27
  refine lv_aload_n hx hb dX5_readLine_189 rfl (lv_at hl 0 rfl) ?_
  refine z_getR X hR ha0.1 ha0.2 (by decide) zfd_X5_36 rfl dX5_readLine_190 ?_
  obtain ⟨hn280, hf⟩ := hf
  have hn28 : al (gR w27 a0 10) ∧ zsh (gR w27 a0 10) = 10 := zwt_of hR ha0.1 ha0.2 rfl hn280 (zdc_of ha0.2 rfl)
  rw [zrf_pos hn280]
  have hn281 : gR w27 a0 10 = 2 := zone_10 hn28.2
  rw [hn281]
  refine z_callVI (fr1 := 6) (b := 2) (As := []) (rest := []) X (hr.le (by decide)) hR zy_X10_takeEnd zq_740 (zlit hR zf_2) (by rw [zs_2]; rfl) rfl (mX10_takeEnd  hf) rfl hl (Nat.le_of_ble_eq_true rfl) dX5_readLine_193 rfl (fun r29 w29 H locs hf hR => ?_)
  obtain ⟨h01, hf⟩ := hf
  exact hQ _ _ _ _ _ _ h01 hf hR dX5_readLine_196
def fX5_readLine_J114 (a0 : Nat) (k : Int32 → zW → Prop) (x1 : Int32) (x2 : Int32) (t0 : Int32) (w : zW) : Prop :=
  ((¬ t0 = (-1 : Int32) →
    fX5_readValue a0 x1 w (fun r18 w18 =>
    ((¬ r18 = (-2 : Int32) →
      vp_in (gI w18 a0 0) 40 ∧ 
      ∀ w21 : zW, w21 = sI w18 (a0 + 1) (gI w18 a0 0).toNatClampNeg x1 →
      ∀ v22 : Int32, v22 = (if x2 = 0 then ((4 : Int32) + t0) else t0) →
      fX5_readLine_J167 a0 k r18 v22 (gI w21 a0 0) w21) ∧
     (r18 = (-2 : Int32) →
      k (0 : Int32) w18)))) ∧
   (t0 = (-1 : Int32) →
    k (0 : Int32) w))
set_option maxHeartbeats 4000000 in
set_option maxRecDepth 100000 in
theorem mX5_readLine_J114 {k : Int32 → zW → Prop} {a0 : Nat} (X : zCx p s m args meth c cX5_readLine 5 RX5 (some .boolean)) (hr : zRm R 8 cells slots) (hQ : zRetZ p l e R s m args below meth c cells slots Q D dA true ad0 al0 ad al cX5_readLine k) (ha0 : al a0 ∧ zsh a0 = 5)  {x1 : Int32} {x2 : Int32} {t0 : Int32} {w : zW} {H : Heap} {locs : List Loc} {ls : Array Slot} (hf : fX5_readLine_J114 a0 k x1 x2 t0 w) (hR : zSt D dA true ad0 al0 ad al w s H locs) (hl : lv_has ls 5 [(0, .ref (ad a0)), (1, .int x1), (2, .int x2)]) : W p l e R s m args below meth c H locs cells slots Q (F0 m 114 ls [.int t0]) := by
  have hx := X.1
  have hb := X.2.1
  have hml := X.2.2.1
  have hown := X.2.2.2.1
  have hts := X.2.2.2.2.1
  unfold fX5_readLine_J114 at hf
  refine lv_istore_n (lv' := [(3, .int t0), (0, .ref (ad a0)), (1, .int x1), (2, .int x2)]) hx hb dX5_readLine_114 rfl hl (by decide) rfl (fun ls hl => ?_)
  refine lv_iload_n hx hb dX5_readLine_115 rfl (lv_at hl 0 rfl) ?_
  refine lv_iconst (v := (-1 : Int32)) hx hb dX5_readLine_116 (by decide) ?_
  refine lv_icmp_ne (tgt := 122) hx hb dX5_readLine_117 (by decide) (fun c17 => ?_) (fun c17 => ?_)
  · replace hf := hf.1 c17
    refine lv_aload_n hx hb dX5_readLine_122 rfl (lv_at hl 1 rfl) ?_
    refine lv_iload_n hx hb dX5_readLine_123 rfl (lv_at hl 2 rfl) ?_
    refine z_callVI (fr1 := 7) (b := a0) (As := [.int x1]) (rest := []) X (hr.le (by decide)) hR zy_X5_readValue zq_736 ha0.1 (by rw [ha0.2]; rfl) rfl (mX5_readValue ⟨ha0.1, ha0.2⟩ hf) rfl hl (Nat.le_of_ble_eq_true rfl) dX5_readLine_124 rfl (fun r18 w18 H locs hf hR => ?_)
    refine lv_istore (lv' := [(4, .int r18), (3, .int t0), (0, .ref (ad a0)), (1, .int x1), (2, .int x2)]) hx hb dX5_readLine_127 hl (by decide) rfl (fun ls hl => ?_)
    refine lv_iload hx hb dX5_readLine_129 (lv_at hl 0 rfl) ?_
    refine lv_bipush (v := (-2 : Int32)) hx hb dX5_readLine_131 (by decide) ?_
    refine lv_icmp_ne (tgt := 138) hx hb dX5_readLine_133 (by decide) (fun c19 => ?_) (fun c19 => ?_)
    · replace hf := hf.1 c19
      refine lv_aload_n hx hb dX5_readLine_138 rfl (lv_at hl 2 rfl) ?_
      refine z_getS X hR ha0.1 ha0.2 (by decide) zfd_X5_15 rfl (r := a0 + 1) (zst_5 ha0.2 5 rfl) dX5_readLine_139 ?_
      refine lv_aload_n hx hb dX5_readLine_142 rfl (lv_at hl 2 rfl) ?_
      refine z_getI X hR ha0.1 ha0.2 (by decide) zfd_X5_32 rfl dX5_readLine_143 ?_
      refine lv_iload_n hx hb dX5_readLine_146 rfl (lv_at hl 3 rfl) ?_
      obtain ⟨hb20, hf⟩ := hf
      refine z_iast X hR (zoff hR ha0.2 zo_5_1).1 (zoff hR ha0.2 zo_5_1).2.1 (zoff hR ha0.2 zo_5_1).2.2 hb20 dX5_readLine_147 (fun H locs hR => ?_)
      obtain ⟨w21, hw21⟩ : ∃ z : zW, z = sI w18 (a0 + 1) (gI w18 a0 0).toNatClampNeg x1 := ⟨_, rfl⟩
      rw [← hw21] at hR
      replace hf := hf w21 hw21
      refine lv_aload_n hx hb dX5_readLine_148 rfl (lv_at hl 2 rfl) ?_
      refine z_getS X hR ha0.1 ha0.2 (by decide) zfd_X5_19 rfl (r := a0 + 2) (zst_5 ha0.2 6 rfl) dX5_readLine_149 ?_
      refine lv_aload_n hx hb dX5_readLine_152 rfl (lv_at hl 2 rfl) ?_
      refine z_getI X hR ha0.1 ha0.2 (by decide) zfd_X5_32 rfl dX5_readLine_153 ?_
      refine lv_iload_n hx hb dX5_readLine_156 rfl (lv_at hl 4 rfl) ?_
      have kJ22 : ∀ v22 : Int32, v22 = (if x2 = 0 then ((4 : Int32) + t0) else t0) → W p l e R s m args below meth c H locs cells slots Q (F0 m 167 ls (.int v22 :: .int (gI w21 a0 0) :: .ref (ad (a0 + 2)) :: [])) := by
        intro v22 hv22
        replace hf := hf v22 hv22
        exact mX5_readLine_J167 X hr hQ ha0  hf hR (lv_sub hl [2, 0] rfl)
      refine lv_if_eq (tgt := 164) hx hb dX5_readLine_157 (by decide) (fun c22 => ?_) (fun c22 => ?_)
      · refine lv_iconst (v := (4 : Int32)) hx hb dX5_readLine_164 (by decide) ?_
        refine lv_iload_n hx hb dX5_readLine_165 rfl (lv_at hl 1 rfl) ?_
        refine lv_iadd hx hb dX5_readLine_166 ?_
        exact kJ22 _ (if_pos c22).symm
      · refine lv_iload_n hx hb dX5_readLine_160 rfl (lv_at hl 1 rfl) ?_
        refine lv_goto (tgt := 167) hx hb dX5_readLine_161 (by decide) ?_
        exact kJ22 _ (if_neg c22).symm
    · replace hf := hf.2 c19
      refine lv_iconst (v := (0 : Int32)) hx hb dX5_readLine_136 (by decide) ?_
      exact hQ _ _ _ _ _ _ zb01_0 hf hR dX5_readLine_137
  · replace hf := hf.2 c17
    refine lv_iconst (v := (0 : Int32)) hx hb dX5_readLine_120 (by decide) ?_
    exact hQ _ _ _ _ _ _ zb01_0 hf hR dX5_readLine_121
def fX5_readLine_J78 (a0 : Nat) (k : Int32 → zW → Prop) (x1 : Int32) (t0 : Int32) (w : zW) : Prop :=
  ((t0 = 0 →
    ¬ gR w a0 10 = 0 ∧
    ¬ gR w a0 9 = 0 ∧
    fX10_takeNumber (0 : Int32) ((gI w (gR w a0 9) 7) - (1 : Int32)) w (fun r16 w16 =>
    fX5_readLine_J114 a0 k x1 t0 r16 w16)) ∧
   (¬ t0 = 0 →
    ¬ gR w a0 10 = 0 ∧
    ¬ gR w a0 9 = 0 ∧
    fX10_takeName (gR w a0 9) w (fun r32 w32 =>
    fX5_readLine_J114 a0 k x1 t0 r32 w32)))
set_option maxHeartbeats 4000000 in
set_option maxRecDepth 100000 in
theorem mX5_readLine_J78 {k : Int32 → zW → Prop} {a0 : Nat} (X : zCx p s m args meth c cX5_readLine 5 RX5 (some .boolean)) (hr : zRm R 8 cells slots) (hQ : zRetZ p l e R s m args below meth c cells slots Q D dA true ad0 al0 ad al cX5_readLine k) (ha0 : al a0 ∧ zsh a0 = 5)  {x1 : Int32} {t0 : Int32} {w : zW} {H : Heap} {locs : List Loc} {ls : Array Slot} (hf : fX5_readLine_J78 a0 k x1 t0 w) (hR : zSt D dA true ad0 al0 ad al w s H locs) (hl : lv_has ls 5 [(0, .ref (ad a0)), (1, .int x1)]) : W p l e R s m args below meth c H locs cells slots Q (F0 m 78 ls [.int t0]) := by
  have hx := X.1
  have hb := X.2.1
  have hml := X.2.2.1
  have hown := X.2.2.2.1
  have hts := X.2.2.2.2.1
  unfold fX5_readLine_J78 at hf
  refine lv_istore_n (lv' := [(2, .int t0), (0, .ref (ad a0)), (1, .int x1)]) hx hb dX5_readLine_78 rfl hl (by decide) rfl (fun ls hl => ?_)
  refine lv_iload_n hx hb dX5_readLine_79 rfl (lv_at hl 0 rfl) ?_
  refine lv_if_eq (tgt := 97) hx hb dX5_readLine_80 (by decide) (fun c13 => ?_) (fun c13 => ?_)
  · replace hf := hf.1 c13
    refine lv_aload_n hx hb dX5_readLine_97 rfl (lv_at hl 1 rfl) ?_
    refine z_getR X hR ha0.1 ha0.2 (by decide) zfd_X5_36 rfl dX5_readLine_98 ?_
    obtain ⟨hn140, hf⟩ := hf
    have hn14 : al (gR w a0 10) ∧ zsh (gR w a0 10) = 10 := zwt_of hR ha0.1 ha0.2 rfl hn140 (zdc_of ha0.2 rfl)
    rw [zrf_pos hn140]
    have hn141 : gR w a0 10 = 2 := zone_10 hn14.2
    rw [hn141]
    refine lv_iconst (v := (0 : Int32)) hx hb dX5_readLine_101 (by decide) ?_
    refine lv_aload_n hx hb dX5_readLine_102 rfl (lv_at hl 1 rfl) ?_
    refine z_getR X hR ha0.1 ha0.2 (by decide) zfd_X5_40 rfl dX5_readLine_103 ?_
    obtain ⟨hn150, hf⟩ := hf
    have hn15 : al (gR w a0 9) ∧ zsh (gR w a0 9) = 0 := zwt_of hR ha0.1 ha0.2 rfl hn150 (zdc_of ha0.2 rfl)
    rw [zrf_pos hn150]
    refine z_getI X hR hn15.1 hn15.2 (by decide) zfd_X5_76 rfl dX5_readLine_106 ?_
    refine lv_iconst (v := (1 : Int32)) hx hb dX5_readLine_109 (by decide) ?_
    refine lv_isub hx hb dX5_readLine_110 ?_
    refine z_callVI (fr1 := 6) (b := 2) (As := [.int (0 : Int32), .int ((gI w (gR w a0 9) 7) - (1 : Int32))]) (rest := []) X (hr.le (by decide)) hR zy_X10_takeNumber zq_735 (zlit hR zf_2) (by rw [zs_2]; rfl) rfl (mX10_takeNumber  hf) rfl hl (Nat.le_of_ble_eq_true rfl) dX5_readLine_111 rfl (fun r16 w16 H locs hf hR => ?_)
    exact mX5_readLine_J114 X hr hQ ha0  hf hR (lv_sub hl [1, 2, 0] rfl)
  · replace hf := hf.2 c13
    refine lv_aload_n hx hb dX5_readLine_83 rfl (lv_at hl 1 rfl) ?_
    refine z_getR X hR ha0.1 ha0.2 (by decide) zfd_X5_36 rfl dX5_readLine_84 ?_
    obtain ⟨hn300, hf⟩ := hf
    have hn30 : al (gR w a0 10) ∧ zsh (gR w a0 10) = 10 := zwt_of hR ha0.1 ha0.2 rfl hn300 (zdc_of ha0.2 rfl)
    rw [zrf_pos hn300]
    have hn301 : gR w a0 10 = 2 := zone_10 hn30.2
    rw [hn301]
    refine lv_aload_n hx hb dX5_readLine_87 rfl (lv_at hl 1 rfl) ?_
    refine z_getR X hR ha0.1 ha0.2 (by decide) zfd_X5_40 rfl dX5_readLine_88 ?_
    obtain ⟨hn310, hf⟩ := hf
    have hn31 : al (gR w a0 9) ∧ zsh (gR w a0 9) = 0 := zwt_of hR ha0.1 ha0.2 rfl hn310 (zdc_of ha0.2 rfl)
    rw [zrf_pos hn310]
    refine z_callVI (fr1 := 6) (b := 2) (As := [.ref (ad (gR w a0 9))]) (rest := []) X (hr.le (by decide)) hR zy_X10_takeName zq_734 (zlit hR zf_2) (by rw [zs_2]; rfl) rfl (mX10_takeName ⟨hn31.1, hn31.2⟩ hf) rfl hl (Nat.le_of_ble_eq_true rfl) dX5_readLine_91 rfl (fun r32 w32 H locs hf hR => ?_)
    refine lv_goto (tgt := 114) hx hb dX5_readLine_94 (by decide) ?_
    exact mX5_readLine_J114 X hr hQ ha0  hf hR (lv_sub hl [1, 2, 0] rfl)
def fX5_readLine (a0 : Nat) (w : zW) (k : Int32 → zW → Prop) : Prop :=
  ¬ gR w a0 10 = 0 ∧
  ∀ v2 : Int32, v2 = gI w 2 5 →
  ((v2 < (6 : Int32) →
    fX5_readLine_J20 a0 k  w) ∧
   (¬ v2 < (6 : Int32) →
    ((v2 ≤ (9 : Int32) →
      (((gI w a0 0) < 0 →
        fX5_readLine_J45 a0 k  w) ∧
       (¬ (gI w a0 0) < 0 →
        (((gI w a0 0) < (40 : Int32) →
          fX10_next  w (fun w11 =>
          ∀ v12 : Int32, v12 = (if v2 = (6 : Int32) then (1 : Int32) else (if ¬ v2 = (7 : Int32) then (0 : Int32) else (1 : Int32))) →
          fX5_readLine_J78 a0 k v2 v12 w11)) ∧
         (¬ (gI w a0 0) < (40 : Int32) →
          fX5_readLine_J45 a0 k  w))))) ∧
     (¬ v2 ≤ (9 : Int32) →
      fX5_readLine_J20 a0 k  w))))
set_option maxHeartbeats 4000000 in
set_option maxRecDepth 100000 in
theorem mX5_readLine {l : Launch} {D : va_G} {dA : Nat → ClassId} {ad : Nat → Nat} {al : Nat → Prop} {w : zW} {k : Int32 → zW → Prop} {a0 : Nat} (ha0 : al a0 ∧ zsh a0 = 5)  (hf : fX5_readLine a0 w k) : zmetI l yX5_readLine cX5_readLine 5 (some .boolean) 8 [.ref (ad a0)] D dA true ad al w k := by
  refine zmetZ_of (by decide) (Nat.le_of_ble_eq_true rfl) ?_
  intro p e R s m below meth c Q H ls args locs cells slots X hr hQ hR hl
  have hx := X.1
  have hb := X.2.1
  have hml := X.2.2.1
  have hown := X.2.2.2.1
  have hts := X.2.2.2.2.1
  unfold fX5_readLine at hf
  have hl : lv_has ls 5 [(0, .ref (ad a0))] := hl
  refine lv_aload_n hx hb dX5_readLine_0 rfl (lv_at hl 0 rfl) ?_
  refine z_getR X hR ha0.1 ha0.2 (by decide) zfd_X5_36 rfl dX5_readLine_1 ?_
  obtain ⟨hn10, hf⟩ := hf
  have hn1 : al (gR w a0 10) ∧ zsh (gR w a0 10) = 10 := zwt_of hR ha0.1 ha0.2 rfl hn10 (zdc_of ha0.2 rfl)
  rw [zrf_pos hn10]
  have hn11 : gR w a0 10 = 2 := zone_10 hn1.2
  rw [hn11]
  refine z_getI X hR (zlit hR zf_2) zs_2 (by decide) zfd_X5_62 rfl dX5_readLine_4 ?_
  refine lv_topi (fun v2 hv2 => ?_)
  replace hf := hf v2 hv2
  refine lv_istore_n (lv' := [(1, .int v2), (0, .ref (ad a0))]) hx hb dX5_readLine_7 rfl hl (by decide) rfl (fun ls hl => ?_)
  refine lv_iload_n hx hb dX5_readLine_8 rfl (lv_at hl 0 rfl) ?_
  refine lv_bipush (v := (6 : Int32)) hx hb dX5_readLine_9 (by decide) ?_
  refine lv_icmp_lt (tgt := 20) hx hb dX5_readLine_11 (by decide) (fun c3 => ?_) (fun c3 => ?_)
  · replace hf := hf.1 c3
    exact mX5_readLine_J20 X hr hQ ha0  hf hR (lv_sub hl [1] rfl)
  · replace hf := hf.2 c3
    refine lv_iload_n hx hb dX5_readLine_14 rfl (lv_at hl 0 rfl) ?_
    refine lv_bipush (v := (9 : Int32)) hx hb dX5_readLine_15 (by decide) ?_
    refine lv_icmp_le (tgt := 29) hx hb dX5_readLine_17 (by decide) (fun c6 => ?_) (fun c6 => ?_)
    · replace hf := hf.1 c6
      refine lv_aload_n hx hb dX5_readLine_29 rfl (lv_at hl 1 rfl) ?_
      refine z_getI X hR ha0.1 ha0.2 (by decide) zfd_X5_32 rfl dX5_readLine_30 ?_
      refine lv_if_lt (tgt := 45) hx hb dX5_readLine_33 (by decide) (fun c7 => ?_) (fun c7 => ?_)
      · replace hf := hf.1 c7
        exact mX5_readLine_J45 X hr hQ ha0  hf hR (lv_sub hl [1] rfl)
      · replace hf := hf.2 c7
        refine lv_aload_n hx hb dX5_readLine_36 rfl (lv_at hl 1 rfl) ?_
        refine z_getI X hR ha0.1 ha0.2 (by decide) zfd_X5_32 rfl dX5_readLine_37 ?_
        refine lv_bipush (v := (40 : Int32)) hx hb dX5_readLine_40 (by decide) ?_
        refine lv_icmp_lt (tgt := 54) hx hb dX5_readLine_42 (by decide) (fun c10 => ?_) (fun c10 => ?_)
        · replace hf := hf.1 c10
          refine lv_aload_n hx hb dX5_readLine_54 rfl (lv_at hl 1 rfl) ?_
          refine z_getR X hR ha0.1 ha0.2 (by decide) zfd_X5_36 rfl dX5_readLine_55 ?_
          rw [zrf_pos hn10]
          have hn11 : gR w a0 10 = 2 := zone_10 hn1.2
          rw [hn11]
          refine z_callVV (fr1 := 5) (b := 2) (As := []) (rest := []) X (hr.le (by decide)) hR zy_X10_next zq_733 (zlit hR zf_2) (by rw [zs_2]; rfl) rfl (mX10_next  hf) rfl hl (Nat.le_of_ble_eq_true rfl) dX5_readLine_58 rfl (fun w11 H locs hf hR => ?_)
          refine lv_iload_n hx hb dX5_readLine_61 rfl (lv_at hl 0 rfl) ?_
          refine lv_bipush (v := (6 : Int32)) hx hb dX5_readLine_62 (by decide) ?_
          have kJ12 : ∀ v12 : Int32, v12 = (if v2 = (6 : Int32) then (1 : Int32) else (if ¬ v2 = (7 : Int32) then (0 : Int32) else (1 : Int32))) → W p l e R s m args below meth c H locs cells slots Q (F0 m 78 ls (.int v12 :: [])) := by
            intro v12 hv12
            replace hf := hf v12 hv12
            exact mX5_readLine_J78 X hr hQ ha0  hf hR (lv_sub hl [1, 0] rfl)
          refine lv_icmp_eq (tgt := 73) hx hb dX5_readLine_64 (by decide) (fun c12 => ?_) (fun c12 => ?_)
          · refine lv_iconst (v := (1 : Int32)) hx hb dX5_readLine_73 (by decide) ?_
            refine lv_goto (tgt := 78) hx hb dX5_readLine_74 (by decide) ?_
            exact kJ12 _ (if_pos c12).symm
          · refine lv_iload_n hx hb dX5_readLine_67 rfl (lv_at hl 0 rfl) ?_
            refine lv_bipush (v := (7 : Int32)) hx hb dX5_readLine_68 (by decide) ?_
            refine lv_icmp_ne (tgt := 77) hx hb dX5_readLine_70 (by decide) (fun c33 => ?_) (fun c33 => ?_)
            · refine lv_iconst (v := (0 : Int32)) hx hb dX5_readLine_77 (by decide) ?_
              exact kJ12 _ ((if_neg c12).trans (if_pos c33)).symm
            · refine lv_iconst (v := (1 : Int32)) hx hb dX5_readLine_73 (by decide) ?_
              refine lv_goto (tgt := 78) hx hb dX5_readLine_74 (by decide) ?_
              exact kJ12 _ ((if_neg c12).trans (if_neg (fun h9 => h9 c33))).symm
        · replace hf := hf.2 c10
          exact mX5_readLine_J45 X hr hQ ha0  hf hR (lv_sub hl [1] rfl)
    · replace hf := hf.2 c6
      exact mX5_readLine_J20 X hr hQ ha0  hf hR (lv_sub hl [1] rfl)
/-! X5_read -/
def fX5_read_L23 (a0 : Nat) (a2 : Nat) (k : Int32 → zW → Prop) : Nat → Int32 → zW → Prop
  | 0 => fun _ _ => False
  | n + 1 => fun x3 w =>
    (((1000 : Int32) < x3 →
      k (0 : Int32) w) ∧
     (¬ (1000 : Int32) < x3 →
      ¬ gR w a0 10 = 0 ∧
      (((gI w 2 2) = 0 →
        k (0 : Int32) w) ∧
       (¬ (gI w 2 2) = 0 →
        fX5_readLine a0 w (fun r9 w9 =>
        ((¬ r9 = 0 →
          fX5_read_L23 a0 a2 k n (x3 + (1 : Int32)) w9) ∧
         (r9 = 0 →
          ¬ gR w9 a0 10 = 0 ∧
          k (gI w9 2 8) w9)))))))
set_option maxHeartbeats 4000000 in
set_option maxRecDepth 100000 in
theorem mX5_read_L23 {k : Int32 → zW → Prop} {a0 : Nat} {a2 : Nat} (X : zCx p s m args meth c cX5_read 4 RX5 (some .int)) (hr : zRm R 9 cells slots) (hQ : zRetI p l e R s m args below meth c cells slots Q D dA true ad0 al0 ad al cX5_read k) (ha0 : al a0 ∧ zsh a0 = 5) (ha2 : al a2 ∧ zsh a2 = 0)  : ∀ (n : Nat) (x3 : Int32) (w : zW) (H : Heap) (locs : List Loc) (ls : Array Slot), fX5_read_L23 a0 a2 k n x3 w → zSt D dA true ad0 al0 ad al w s H locs → lv_has ls 4 [(0, .ref (ad a0)), (3, .int x3)] → W p l e R s m args below meth c H locs cells slots Q (F0 m 23 ls []) := by
  intro n
  induction n with
  | zero => exact fun _ _ _ _ _ hf => hf.elim
  | succ n ih =>
    intro x3 w H locs ls hf hR hl
    have hx := X.1
    have hb := X.2.1
    have hml := X.2.2.1
    have hown := X.2.2.2.1
    have hts := X.2.2.2.2.1
    rw [fX5_read_L23] at hf
    refine lv_iload_n hx hb dX5_read_23 rfl (lv_at hl 1 rfl) ?_
    refine lv_sipush (v := (1000 : Int32)) hx hb dX5_read_24 (by decide) ?_
    refine lv_icmp_gt (tgt := 61) hx hb dX5_read_27 (by decide) (fun c6 => ?_) (fun c6 => ?_)
    · replace hf := hf.1 c6
      refine lv_iconst (v := (0 : Int32)) hx hb dX5_read_61 (by decide) ?_
      exact hQ _ _ _ _ _ _ hf hR dX5_read_62
    · replace hf := hf.2 c6
      refine lv_aload_n hx hb dX5_read_30 rfl (lv_at hl 0 rfl) ?_
      refine z_getR X hR ha0.1 ha0.2 (by decide) zfd_X5_36 rfl dX5_read_31 ?_
      obtain ⟨hn70, hf⟩ := hf
      have hn7 : al (gR w a0 10) ∧ zsh (gR w a0 10) = 10 := zwt_of hR ha0.1 ha0.2 rfl hn70 (zdc_of ha0.2 rfl)
      rw [zrf_pos hn70]
      have hn71 : gR w a0 10 = 2 := zone_10 hn7.2
      rw [hn71]
      refine z_getI X hR (zlit hR zf_2) zs_2 (by decide) zfd_X5_52 rfl dX5_read_34 ?_
      refine lv_if_eq (tgt := 61) hx hb dX5_read_37 (by decide) (fun c8 => ?_) (fun c8 => ?_)
      · replace hf := hf.1 c8
        refine lv_iconst (v := (0 : Int32)) hx hb dX5_read_61 (by decide) ?_
        exact hQ _ _ _ _ _ _ hf hR dX5_read_62
      · replace hf := hf.2 c8
        refine lv_aload_n hx hb dX5_read_40 rfl (lv_at hl 0 rfl) ?_
        refine z_callVI (fr1 := 8) (b := a0) (As := []) (rest := []) X (hr.le (by decide)) hR zy_X5_readLine zq_726 ha0.1 (by rw [ha0.2]; rfl) rfl (mX5_readLine ⟨ha0.1, ha0.2⟩ hf) rfl hl (Nat.le_of_ble_eq_true rfl) dX5_read_41 rfl (fun r9 w9 H locs hf hR => ?_)
        refine lv_if_ne (tgt := 55) hx hb dX5_read_44 (by decide) (fun c10 => ?_) (fun c10 => ?_)
        · replace hf := hf.1 c10
          refine lv_iinc (v := x3 + (1 : Int32)) (lv' := [(3, .int (x3 + (1 : Int32))), (0, .ref (ad a0))]) hx hb dX5_read_55 hl (k := 1) rfl rfl (by decide) rfl (fun ls hl => ?_)
          refine lv_goto (tgt := 23) hx hb dX5_read_58 (by decide) ?_
          exact ih (x3 + (1 : Int32)) w9 _ _ _ hf hR (lv_sub hl [1, 0] rfl)
        · replace hf := hf.2 c10
          refine lv_aload_n hx hb dX5_read_47 rfl (lv_at hl 0 rfl) ?_
          refine z_getR X hR ha0.1 ha0.2 (by decide) zfd_X5_36 rfl dX5_read_48 ?_
          obtain ⟨hn110, hf⟩ := hf
          have hn11 : al (gR w9 a0 10) ∧ zsh (gR w9 a0 10) = 10 := zwt_of hR ha0.1 ha0.2 rfl hn110 (zdc_of ha0.2 rfl)
          rw [zrf_pos hn110]
          have hn111 : gR w9 a0 10 = 2 := zone_10 hn11.2
          rw [hn111]
          refine z_getI X hR (zlit hR zf_2) zs_2 (by decide) zfd_X5_59 rfl dX5_read_51 ?_
          exact hQ _ _ _ _ _ _ hf hR dX5_read_54
def fX5_read (a0 : Nat) (a2 : Nat) (w : zW) (k : Int32 → zW → Prop) : Prop :=
  ∀ w1 : zW, w1 = sR w a0 10 2 →
  ∀ w2 : zW, w2 = sR w1 a0 9 a2 →
  fX5_clear a0 w2 (fun w3 =>
  ¬ gR w3 a0 10 = 0 ∧
  fX10_begin  w3 (fun w5 =>
  ∃ n9, fX5_read_L23 a0 a2 k n9 (0 : Int32) w5))
set_option maxHeartbeats 4000000 in
set_option maxRecDepth 100000 in
theorem mX5_read {l : Launch} {D : va_G} {dA : Nat → ClassId} {ad : Nat → Nat} {al : Nat → Prop} {w : zW} {k : Int32 → zW → Prop} {a0 : Nat} {a2 : Nat} (ha0 : al a0 ∧ zsh a0 = 5) (ha2 : al a2 ∧ zsh a2 = 0)  (hf : fX5_read a0 a2 w k) : zmetI l yX5_read cX5_read 4 (some .int) 9 [.ref (ad a0), .ref (ad 2), .ref (ad a2)] D dA true ad al w k := by
  refine zmetI_of (by decide) (Nat.le_of_ble_eq_true rfl) ?_
  intro p e R s m below meth c Q H ls args locs cells slots X hr hQ hR hl
  have hx := X.1
  have hb := X.2.1
  have hml := X.2.2.1
  have hown := X.2.2.2.1
  have hts := X.2.2.2.2.1
  unfold fX5_read at hf
  have hl : lv_has ls 4 [(0, .ref (ad a0)), (1, .ref (ad 2)), (2, .ref (ad a2))] := hl
  refine lv_aload_n hx hb dX5_read_0 rfl (lv_at hl 0 rfl) ?_
  refine lv_aload_n hx hb dX5_read_1 rfl (lv_at hl 1 rfl) ?_
  refine z_putR X hR ha0.1 ha0.2 (by decide) zfp_X5_36 rfl rfl (by decide) (zlit hR zf_2) (by rw [zdc_of ha0.2 rfl]; exact zs_2) dX5_read_2 (fun H locs hR => ?_)
  obtain ⟨w1, hw1⟩ : ∃ z : zW, z = sR w a0 10 2 := ⟨_, rfl⟩
  rw [← hw1] at hR
  replace hf := hf w1 hw1
  refine lv_aload_n hx hb dX5_read_5 rfl (lv_at hl 0 rfl) ?_
  refine lv_aload_n hx hb dX5_read_6 rfl (lv_at hl 2 rfl) ?_
  refine z_putR X hR ha0.1 ha0.2 (by decide) zfp_X5_40 rfl rfl (zne0 ha2.2 (by decide)) ha2.1 (by rw [zdc_of ha0.2 rfl]; exact ha2.2) dX5_read_7 (fun H locs hR => ?_)
  obtain ⟨w2, hw2⟩ : ∃ z : zW, z = sR w1 a0 9 a2 := ⟨_, rfl⟩
  rw [← hw2] at hR
  replace hf := hf w2 hw2
  refine lv_aload_n hx hb dX5_read_10 rfl (lv_at hl 0 rfl) ?_
  refine z_callVV (fr1 := 0) (b := a0) (As := []) (rest := []) X (hr.le (by decide)) hR zy_X5_clear zq_724 ha0.1 (by rw [ha0.2]; rfl) rfl (mX5_clear ⟨ha0.1, ha0.2⟩ hf) rfl hl (Nat.le_of_ble_eq_true rfl) dX5_read_11 rfl (fun w3 H locs hf hR => ?_)
  refine lv_aload_n hx hb dX5_read_14 rfl (lv_at hl 0 rfl) ?_
  refine z_getR X hR ha0.1 ha0.2 (by decide) zfd_X5_36 rfl dX5_read_15 ?_
  obtain ⟨hn40, hf⟩ := hf
  have hn4 : al (gR w3 a0 10) ∧ zsh (gR w3 a0 10) = 10 := zwt_of hR ha0.1 ha0.2 rfl hn40 (zdc_of ha0.2 rfl)
  rw [zrf_pos hn40]
  have hn41 : gR w3 a0 10 = 2 := zone_10 hn4.2
  rw [hn41]
  refine z_callVV (fr1 := 6) (b := 2) (As := []) (rest := []) X (hr.le (by decide)) hR zy_X10_begin zq_725 (zlit hR zf_2) (by rw [zs_2]; rfl) rfl (mX10_begin  hf) rfl hl (Nat.le_of_ble_eq_true rfl) dX5_read_18 rfl (fun w5 H locs hf hR => ?_)
  refine lv_iconst (v := (0 : Int32)) hx hb dX5_read_21 (by decide) ?_
  refine lv_istore_n (lv' := [(3, .int (0 : Int32)), (0, .ref (ad a0)), (1, .ref (ad 2)), (2, .ref (ad a2))]) hx hb dX5_read_22 rfl hl (by decide) rfl (fun ls hl => ?_)
  obtain ⟨n9, hf⟩ := hf
  exact mX5_read_L23 X hr hQ ha0 ha2  n9 (0 : Int32) w5 _ _ _ hf hR (lv_sub hl [1, 0] rfl)
/-! X5_canBe -/
def fX5_canBe (a0 : Nat) (a2 : Nat) (x1 : Int32) (w : zW) (k : Int32 → zW → Prop) : Prop :=
  vp_in x1 40 ∧ 
  ∀ sv2 : Int32, sv2 = gI w (a0 + 1) x1.toNatClampNeg →
  ((sv2 = (6 : Int32) →
    fX0_means a2 (gI w (a0 + 2) x1.toNatClampNeg) (gI w (a0 + 3) x1.toNatClampNeg) w (fun r4 w4 =>
    zb01 r4 ∧ k r4 w4)) ∧
  (¬ sv2 = (6 : Int32) →
  ((sv2 = (8 : Int32) →
    k (1 : Int32) w) ∧
  (¬ sv2 = (8 : Int32) →
  
  fX3_at (a0 + 4) (gI w (a0 + 2) x1.toNatClampNeg) w (fun r6 w6 =>
  ∀ v7 : Int32, v7 = (if r6 = (-1 : Int32) then (0 : Int32) else (1 : Int32)) →
  zb01 v7 ∧ k v7 w6)))))
set_option maxHeartbeats 4000000 in
set_option maxRecDepth 100000 in
theorem mX5_canBe {l : Launch} {D : va_G} {dA : Nat → ClassId} {ad : Nat → Nat} {al : Nat → Prop} {w : zW} {k : Int32 → zW → Prop} {a0 : Nat} {a2 : Nat} {x1 : Int32} (ha0 : al a0 ∧ zsh a0 = 5) (ha2 : al a2 ∧ zsh a2 = 0)  (hf : fX5_canBe a0 a2 x1 w k) : zmetI l yX5_canBe cX5_canBe 3 (some .boolean) 1 [.ref (ad a0), .int x1, .ref (ad a2)] D dA true ad al w k := by
  refine zmetZ_of (by decide) (Nat.le_of_ble_eq_true rfl) ?_
  intro p e R s m below meth c Q H ls args locs cells slots X hr hQ hR hl
  have hx := X.1
  have hb := X.2.1
  have hml := X.2.2.1
  have hown := X.2.2.2.1
  have hts := X.2.2.2.2.1
  unfold fX5_canBe at hf
  have hl : lv_has ls 3 [(0, .ref (ad a0)), (1, .int x1), (2, .ref (ad a2))] := hl
  refine lv_aload_n hx hb dX5_canBe_0 rfl (lv_at hl 0 rfl) ?_
  refine z_getS X hR ha0.1 ha0.2 (by decide) zfd_X5_15 rfl (r := a0 + 1) (zst_5 ha0.2 5 rfl) dX5_canBe_1 ?_
  refine lv_iload_n hx hb dX5_canBe_4 rfl (lv_at hl 1 rfl) ?_
  obtain ⟨hb1, hf⟩ := hf
  refine z_iald X hR (zoff hR ha0.2 zo_5_1).1 (zoff hR ha0.2 zo_5_1).2.1 (zoff hR ha0.2 zo_5_1).2.2 hb1 dX5_canBe_5 ?_
  refine lv_topi (fun sv2 hsv2 => ?_)
  replace hf := hf sv2 hsv2
  by_cases c3 : sv2 = (6 : Int32)
  · replace hf := hf.1 c3
    refine lv_lookup (off := 26) (tgt := 32) hx hb dX5_canBe_6 (by decide) (by rw [c3]; decide) (by decide) ?_
    refine lv_aload_n hx hb dX5_canBe_32 rfl (lv_at hl 2 rfl) ?_
    refine lv_aload_n hx hb dX5_canBe_33 rfl (lv_at hl 0 rfl) ?_
    refine z_getS X hR ha0.1 ha0.2 (by decide) zfd_X5_19 rfl (r := a0 + 2) (zst_5 ha0.2 6 rfl) dX5_canBe_34 ?_
    refine lv_iload_n hx hb dX5_canBe_37 rfl (lv_at hl 1 rfl) ?_
    refine z_iald X hR (zoff hR ha0.2 zo_5_2).1 (zoff hR ha0.2 zo_5_2).2.1 (zoff hR ha0.2 zo_5_2).2.2 hb1 dX5_canBe_38 ?_
    refine lv_aload_n hx hb dX5_canBe_39 rfl (lv_at hl 0 rfl) ?_
    refine z_getS X hR ha0.1 ha0.2 (by decide) zfd_X5_22 rfl (r := a0 + 3) (zst_5 ha0.2 7 rfl) dX5_canBe_40 ?_
    refine lv_iload_n hx hb dX5_canBe_43 rfl (lv_at hl 1 rfl) ?_
    refine z_iald X hR (zoff hR ha0.2 zo_5_3).1 (zoff hR ha0.2 zo_5_3).2.1 (zoff hR ha0.2 zo_5_3).2.2 hb1 dX5_canBe_44 ?_
    refine z_callVI (fr1 := 0) (b := a2) (As := [.int (gI w (a0 + 2) x1.toNatClampNeg), .int (gI w (a0 + 3) x1.toNatClampNeg)]) (rest := []) X (hr.le (by decide)) hR zy_X0_means zq_1053 ha2.1 (by rw [ha2.2]; rfl) rfl (mX0_means ⟨ha2.1, ha2.2⟩ hf) rfl hl (Nat.le_of_ble_eq_true rfl) dX5_canBe_45 rfl (fun r4 w4 H locs hf hR => ?_)
    obtain ⟨h01, hf⟩ := hf
    exact hQ _ _ _ _ _ _ h01 hf hR dX5_canBe_48
  replace hf := hf.2 c3
  by_cases c5 : sv2 = (8 : Int32)
  · replace hf := hf.1 c5
    refine lv_lookup (off := 43) (tgt := 49) hx hb dX5_canBe_6 (by decide) (by rw [c5]; decide) (by decide) ?_
    refine lv_iconst (v := (1 : Int32)) hx hb dX5_canBe_49 (by decide) ?_
    exact hQ _ _ _ _ _ _ zb01_1 hf hR dX5_canBe_50
  replace hf := hf.2 c5
  refine lv_lookup (off := 45) (tgt := 51) hx hb dX5_canBe_6 (by decide) (by
    clear hsv2
    have := z_i32ne (k := (6 : Int32)) c3
    have := z_i32ne (k := (8 : Int32)) c5
    simp only [show ((6 : Int32)).toInt = 6 from by decide, show ((8 : Int32)).toInt = 8 from by decide] at *
    simp [Op.lookupswitch.offset, *, Ne.symm]) (by decide) ?_
  refine lv_aload_n hx hb dX5_canBe_51 rfl (lv_at hl 0 rfl) ?_
  refine z_getS X hR ha0.1 ha0.2 (by decide) zfd_X5_28 rfl (r := a0 + 4) (zst_5 ha0.2 8 rfl) dX5_canBe_52 ?_
  refine lv_aload_n hx hb dX5_canBe_55 rfl (lv_at hl 0 rfl) ?_
  refine z_getS X hR ha0.1 ha0.2 (by decide) zfd_X5_19 rfl (r := a0 + 2) (zst_5 ha0.2 6 rfl) dX5_canBe_56 ?_
  refine lv_iload_n hx hb dX5_canBe_59 rfl (lv_at hl 1 rfl) ?_
  refine z_iald X hR (zoff hR ha0.2 zo_5_2).1 (zoff hR ha0.2 zo_5_2).2.1 (zoff hR ha0.2 zo_5_2).2.2 hb1 dX5_canBe_60 ?_
  refine z_callVI (fr1 := 0) (b := (a0 + 4)) (As := [.int (gI w (a0 + 2) x1.toNatClampNeg)]) (rest := []) X (hr.le (by decide)) hR zy_X3_at zq_1054 (zoff hR ha0.2 zo_5_4).1 (by rw [(zoff hR ha0.2 zo_5_4).2.1]; rfl) rfl (mX3_at ⟨(zoff hR ha0.2 zo_5_4).1, (zoff hR ha0.2 zo_5_4).2.1⟩ hf) rfl hl (Nat.le_of_ble_eq_true rfl) dX5_canBe_61 rfl (fun r6 w6 H locs hf hR => ?_)
  refine lv_iconst (v := (-1 : Int32)) hx hb dX5_canBe_64 (by decide) ?_
  have kJ7 : ∀ v7 : Int32, v7 = (if r6 = (-1 : Int32) then (0 : Int32) else (1 : Int32)) → W p l e R s m args below meth c H locs cells slots Q (F0 m 73 ls (.int v7 :: [])) := by
    intro v7 hv7
    replace hf := hf v7 hv7
    obtain ⟨h01, hf⟩ := hf
    exact hQ _ _ _ _ _ _ h01 hf hR dX5_canBe_73
  refine lv_icmp_eq (tgt := 72) hx hb dX5_canBe_65 (by decide) (fun c7 => ?_) (fun c7 => ?_)
  · refine lv_iconst (v := (0 : Int32)) hx hb dX5_canBe_72 (by decide) ?_
    exact kJ7 _ (if_pos c7).symm
  · refine lv_iconst (v := (1 : Int32)) hx hb dX5_canBe_68 (by decide) ?_
    refine lv_goto (tgt := 73) hx hb dX5_canBe_69 (by decide) ?_
    exact kJ7 _ (if_neg c7).symm
/-! X8_fittingBy -/
def fX8_fittingBy_J44 (a1 : Nat) (k : Int32 → zW → Prop) (g4 : Int32 → Int32 → zW → Prop) (x3 : Int32) (t0 : Int32) (t1 : Int32) (w : zW) : Prop :=
  ∀ v8 : Int32, v8 = t1 + t0 →
  g4 v8 (x3 + (1 : Int32)) w
set_option maxHeartbeats 4000000 in
set_option maxRecDepth 100000 in
theorem mX8_fittingBy_J44 {k : Int32 → zW → Prop} {g4 : Int32 → Int32 → zW → Prop} {a1 : Nat} (X : zCx p s m args meth c cX8_fittingBy 4 RX8 (some .int)) (hr : zRm R 3 cells slots) (hQ : zRetI p l e R s m args below meth c cells slots Q D dA true ad0 al0 ad al cX8_fittingBy k) (ha1 : al a1 ∧ zsh a1 = 3) (hg4 : ∀ (x2 : Int32) (x3 : Int32) (w : zW) (H : Heap) (locs : List Loc) (ls : Array Slot), g4 x2 x3 w → zSt D dA true ad0 al0 ad al w s H locs → lv_has ls 4 [(0, .ref (ad 24)), (1, .ref (ad a1)), (2, .int x2), (3, .int x3)] → W p l e R s m args below meth c H locs cells slots Q (F0 m 4 ls [])) {x3 : Int32} {t0 : Int32} {t1 : Int32} {w : zW} {H : Heap} {locs : List Loc} {ls : Array Slot} (hf : fX8_fittingBy_J44 a1 k g4 x3 t0 t1 w) (hR : zSt D dA true ad0 al0 ad al w s H locs) (hl : lv_has ls 4 [(0, .ref (ad 24)), (1, .ref (ad a1)), (3, .int x3)]) : W p l e R s m args below meth c H locs cells slots Q (F0 m 44 ls [.int t0, .int t1]) := by
  have hx := X.1
  have hb := X.2.1
  have hml := X.2.2.1
  have hown := X.2.2.2.1
  have hts := X.2.2.2.2.1
  unfold fX8_fittingBy_J44 at hf
  refine lv_iadd hx hb dX8_fittingBy_44 ?_
  refine lv_topi (fun v8 hv8 => ?_)
  replace hf := hf v8 hv8
  refine lv_istore_n (lv' := [(2, .int v8), (0, .ref (ad 24)), (1, .ref (ad a1)), (3, .int x3)]) hx hb dX8_fittingBy_45 rfl hl (by decide) rfl (fun ls hl => ?_)
  refine lv_iinc (v := x3 + (1 : Int32)) (lv' := [(3, .int (x3 + (1 : Int32))), (2, .int v8), (0, .ref (ad 24)), (1, .ref (ad a1))]) hx hb dX8_fittingBy_46 hl (k := 3) rfl rfl (by decide) rfl (fun ls hl => ?_)
  refine lv_goto (tgt := 4) hx hb dX8_fittingBy_49 (by decide) ?_
  exact hg4 v8 (x3 + (1 : Int32)) w _ _ _ hf hR (lv_sub hl [2, 3, 1, 0] rfl)
def fX8_fittingBy_L4 (a1 : Nat) (k : Int32 → zW → Prop) : Nat → Int32 → Int32 → zW → Prop
  | 0 => fun _ _ _ => False
  | n + 1 => fun x2 x3 w =>
    (((gI w 24 7) ≤ x3 →
      k x2 w) ∧
     (¬ (gI w 24 7) ≤ x3 →
      ¬ gR w 24 6 = 0 ∧
      (((Int32.ofNat (zln (gR w 24 6))) ≤ x3 →
        k x2 w) ∧
       (¬ (Int32.ofNat (zln (gR w 24 6))) ≤ x3 →
        vp_in x3 (zln (gR w 24 6)) ∧ 
        ¬ gR w 24 9 = 0 ∧
        fX3_agrees a1 (gR w 24 9) (gI w (gR w 24 6) x3.toNatClampNeg) w (fun r6 w6 =>
        ∀ v7 : Int32, v7 = (if r6 = 0 then (0 : Int32) else (1 : Int32)) →
        fX8_fittingBy_J44 a1 k (fX8_fittingBy_L4 a1 k n) x3 v7 x2 w6)))))
set_option maxHeartbeats 4000000 in
set_option maxRecDepth 100000 in
theorem mX8_fittingBy_L4 {k : Int32 → zW → Prop} {a1 : Nat} (X : zCx p s m args meth c cX8_fittingBy 4 RX8 (some .int)) (hr : zRm R 3 cells slots) (hQ : zRetI p l e R s m args below meth c cells slots Q D dA true ad0 al0 ad al cX8_fittingBy k) (ha1 : al a1 ∧ zsh a1 = 3)  : ∀ (n : Nat) (x2 : Int32) (x3 : Int32) (w : zW) (H : Heap) (locs : List Loc) (ls : Array Slot), fX8_fittingBy_L4 a1 k n x2 x3 w → zSt D dA true ad0 al0 ad al w s H locs → lv_has ls 4 [(0, .ref (ad 24)), (1, .ref (ad a1)), (2, .int x2), (3, .int x3)] → W p l e R s m args below meth c H locs cells slots Q (F0 m 4 ls []) := by
  intro n
  induction n with
  | zero => exact fun _ _ _ _ _ _ hf => hf.elim
  | succ n ih =>
    intro x2 x3 w H locs ls hf hR hl
    have hx := X.1
    have hb := X.2.1
    have hml := X.2.2.1
    have hown := X.2.2.2.1
    have hts := X.2.2.2.2.1
    rw [fX8_fittingBy_L4] at hf
    refine lv_iload_n hx hb dX8_fittingBy_4 rfl (lv_at hl 3 rfl) ?_
    refine lv_aload_n hx hb dX8_fittingBy_5 rfl (lv_at hl 0 rfl) ?_
    refine z_getI X hR (zlit hR zf_24) zs_24 (by decide) zfd_X8_51 rfl dX8_fittingBy_6 ?_
    refine lv_icmp_ge (tgt := 52) hx hb dX8_fittingBy_9 (by decide) (fun c1 => ?_) (fun c1 => ?_)
    · replace hf := hf.1 c1
      refine lv_iload_n hx hb dX8_fittingBy_52 rfl (lv_at hl 2 rfl) ?_
      exact hQ _ _ _ _ _ _ hf hR dX8_fittingBy_53
    · replace hf := hf.2 c1
      refine lv_iload_n hx hb dX8_fittingBy_12 rfl (lv_at hl 3 rfl) ?_
      refine lv_aload_n hx hb dX8_fittingBy_13 rfl (lv_at hl 0 rfl) ?_
      refine z_getR X hR (zlit hR zf_24) zs_24 (by decide) zfd_X8_25 rfl dX8_fittingBy_14 ?_
      obtain ⟨hn20, hf⟩ := hf
      have hn2 : al (gR w 24 6) ∧ zsh (gR w 24 6) = 20 := zwt_of hR (zlit hR zf_24) zs_24 rfl hn20 (zdc_of zs_24 rfl)
      rw [zrf_pos hn20]
      refine z_alen X hR hn2.1 hn2.2 (by decide) (by decide) rfl (v := Int32.ofNat (zln (gR w 24 6))) rfl dX8_fittingBy_17 ?_
      refine lv_icmp_ge (tgt := 52) hx hb dX8_fittingBy_18 (by decide) (fun c3 => ?_) (fun c3 => ?_)
      · replace hf := hf.1 c3
        refine lv_iload_n hx hb dX8_fittingBy_52 rfl (lv_at hl 2 rfl) ?_
        exact hQ _ _ _ _ _ _ hf hR dX8_fittingBy_53
      · replace hf := hf.2 c3
        refine lv_iload_n hx hb dX8_fittingBy_21 rfl (lv_at hl 2 rfl) ?_
        refine lv_aload_n hx hb dX8_fittingBy_22 rfl (lv_at hl 1 rfl) ?_
        refine lv_aload_n hx hb dX8_fittingBy_23 rfl (lv_at hl 0 rfl) ?_
        refine z_getR X hR (zlit hR zf_24) zs_24 (by decide) zfd_X8_25 rfl dX8_fittingBy_24 ?_
        rw [zrf_pos hn20]
        refine lv_iload_n hx hb dX8_fittingBy_27 rfl (lv_at hl 3 rfl) ?_
        obtain ⟨hb4, hf⟩ := hf
        refine z_iald X hR hn2.1 hn2.2 rfl hb4 dX8_fittingBy_28 ?_
        refine lv_aload_n hx hb dX8_fittingBy_29 rfl (lv_at hl 0 rfl) ?_
        refine z_getR X hR (zlit hR zf_24) zs_24 (by decide) zfd_X8_31 rfl dX8_fittingBy_30 ?_
        obtain ⟨hn50, hf⟩ := hf
        have hn5 : al (gR w 24 9) ∧ zsh (gR w 24 9) = 0 := zwt_of hR (zlit hR zf_24) zs_24 rfl hn50 (zdc_of zs_24 rfl)
        rw [zrf_pos hn50]
        refine z_callVI (fr1 := 2) (b := a1) (As := [.int (gI w (gR w 24 6) x3.toNatClampNeg), .ref (ad (gR w 24 9))]) (rest := [.int x2]) X (hr.le (by decide)) hR zy_X3_agrees zq_1030 ha1.1 (by rw [ha1.2]; rfl) rfl (mX3_agrees ⟨ha1.1, ha1.2⟩ ⟨hn5.1, hn5.2⟩ hf) rfl hl (Nat.le_of_ble_eq_true rfl) dX8_fittingBy_33 rfl (fun r6 w6 H locs hf hR => ?_)
        have kJ7 : ∀ v7 : Int32, v7 = (if r6 = 0 then (0 : Int32) else (1 : Int32)) → W p l e R s m args below meth c H locs cells slots Q (F0 m 44 ls (.int v7 :: .int x2 :: [])) := by
          intro v7 hv7
          replace hf := hf v7 hv7
          exact mX8_fittingBy_J44 X hr hQ ha1 ih hf hR (lv_sub hl [0, 1, 3] rfl)
        refine lv_if_eq (tgt := 43) hx hb dX8_fittingBy_36 (by decide) (fun c7 => ?_) (fun c7 => ?_)
        · refine lv_iconst (v := (0 : Int32)) hx hb dX8_fittingBy_43 (by decide) ?_
          exact kJ7 _ (if_pos c7).symm
        · refine lv_iconst (v := (1 : Int32)) hx hb dX8_fittingBy_39 (by decide) ?_
          refine lv_goto (tgt := 44) hx hb dX8_fittingBy_40 (by decide) ?_
          exact kJ7 _ (if_neg c7).symm
def fX8_fittingBy (a1 : Nat) (w : zW) (k : Int32 → zW → Prop) : Prop :=
  ∃ n9, fX8_fittingBy_L4 a1 k n9 (0 : Int32) (0 : Int32) w
set_option maxHeartbeats 4000000 in
set_option maxRecDepth 100000 in
theorem mX8_fittingBy {l : Launch} {D : va_G} {dA : Nat → ClassId} {ad : Nat → Nat} {al : Nat → Prop} {w : zW} {k : Int32 → zW → Prop} {a1 : Nat} (ha1 : al a1 ∧ zsh a1 = 3)  (hf : fX8_fittingBy a1 w k) : zmetI l yX8_fittingBy cX8_fittingBy 4 (some .int) 3 [.ref (ad 24), .ref (ad a1)] D dA true ad al w k := by
  refine zmetI_of (by decide) (Nat.le_of_ble_eq_true rfl) ?_
  intro p e R s m below meth c Q H ls args locs cells slots X hr hQ hR hl
  have hx := X.1
  have hb := X.2.1
  have hml := X.2.2.1
  have hown := X.2.2.2.1
  have hts := X.2.2.2.2.1
  unfold fX8_fittingBy at hf
  have hl : lv_has ls 4 [(0, .ref (ad 24)), (1, .ref (ad a1))] := hl
  refine lv_iconst (v := (0 : Int32)) hx hb dX8_fittingBy_0 (by decide) ?_
  refine lv_istore_n (lv' := [(2, .int (0 : Int32)), (0, .ref (ad 24)), (1, .ref (ad a1))]) hx hb dX8_fittingBy_1 rfl hl (by decide) rfl (fun ls hl => ?_)
  refine lv_iconst (v := (0 : Int32)) hx hb dX8_fittingBy_2 (by decide) ?_
  refine lv_istore_n (lv' := [(3, .int (0 : Int32)), (2, .int (0 : Int32)), (0, .ref (ad 24)), (1, .ref (ad a1))]) hx hb dX8_fittingBy_3 rfl hl (by decide) rfl (fun ls hl => ?_)
  obtain ⟨n9, hf⟩ := hf
  exact mX8_fittingBy_L4 X hr hQ ha1  n9 (0 : Int32) (0 : Int32) w _ _ _ hf hR (lv_sub hl [2, 3, 1, 0] rfl)
/-! X5_judge -/
def fX5_judge_J129 (a0 : Nat) (a1 : Nat) (k : zW → Prop)  (w : zW) : Prop :=
  ∀ w7 : zW, w7 = sI w a0 1 (0 : Int32) →
  k w7
set_option maxHeartbeats 4000000 in
set_option maxRecDepth 100000 in
theorem mX5_judge_J129 {k : zW → Prop} {a0 : Nat} {a1 : Nat} (X : zCx p s m args meth c cX5_judge 4 RX5 none) (hr : zRm R 4 cells slots) (hQ : zRetV p l e R s m args below meth c cells slots Q D dA true ad0 al0 ad al cX5_judge k) (ha0 : al a0 ∧ zsh a0 = 5) (ha1 : al a1 ∧ zsh a1 = 0)   {w : zW} {H : Heap} {locs : List Loc} {ls : Array Slot} (hf : fX5_judge_J129 a0 a1 k  w) (hR : zSt D dA true ad0 al0 ad al w s H locs) (hl : lv_has ls 4 [(0, .ref (ad a0))]) : W p l e R s m args below meth c H locs cells slots Q (F0 m 129 ls []) := by
  have hx := X.1
  have hb := X.2.1
  have hml := X.2.2.1
  have hown := X.2.2.2.1
  have hts := X.2.2.2.2.1
  unfold fX5_judge_J129 at hf
  refine lv_aload_n hx hb dX5_judge_129 rfl (lv_at hl 0 rfl) ?_
  refine lv_iconst (v := (0 : Int32)) hx hb dX5_judge_130 (by decide) ?_
  refine z_putZ X hR ha0.1 ha0.2 (by decide) zfp_X5_9 rfl zb01_0 dX5_judge_131 (fun H locs hR => ?_)
  obtain ⟨w7, hw7⟩ : ∃ z : zW, z = sI w a0 1 (0 : Int32) := ⟨_, rfl⟩
  rw [← hw7] at hR
  replace hf := hf w7 hw7
  exact hQ _ _ _ _ _ hf hR dX5_judge_134
def fX5_judge_J103 (a0 : Nat) (a1 : Nat) (k : zW → Prop) (g32 : Int32 → zW → Prop) (x3 : Int32) (w : zW) : Prop :=
  ((¬ (gI w a0 4) = 0 →
    g32 (x3 + (1 : Int32)) w) ∧
   ((gI w a0 4) = 0 →
    ((¬ (gI w a0 3) = (-1 : Int32) →
      g32 (x3 + (1 : Int32)) w) ∧
     ((gI w a0 3) = (-1 : Int32) →
      ∀ w14 : zW, w14 = sI w a0 3 x3 →
      g32 (x3 + (1 : Int32)) w14))))
set_option maxHeartbeats 4000000 in
set_option maxRecDepth 100000 in
theorem mX5_judge_J103 {k : zW → Prop} {g32 : Int32 → zW → Prop} {a0 : Nat} {a1 : Nat} (X : zCx p s m args meth c cX5_judge 4 RX5 none) (hr : zRm R 4 cells slots) (hQ : zRetV p l e R s m args below meth c cells slots Q D dA true ad0 al0 ad al cX5_judge k) (ha0 : al a0 ∧ zsh a0 = 5) (ha1 : al a1 ∧ zsh a1 = 0) (hg32 : ∀ (x3 : Int32) (w : zW) (H : Heap) (locs : List Loc) (ls : Array Slot), g32 x3 w → zSt D dA true ad0 al0 ad al w s H locs → lv_has ls 4 [(0, .ref (ad a0)), (1, .ref (ad a1)), (2, .ref (ad 24)), (3, .int x3)] → W p l e R s m args below meth c H locs cells slots Q (F0 m 32 ls [])) {x3 : Int32} {w : zW} {H : Heap} {locs : List Loc} {ls : Array Slot} (hf : fX5_judge_J103 a0 a1 k g32 x3 w) (hR : zSt D dA true ad0 al0 ad al w s H locs) (hl : lv_has ls 4 [(0, .ref (ad a0)), (1, .ref (ad a1)), (2, .ref (ad 24)), (3, .int x3)]) : W p l e R s m args below meth c H locs cells slots Q (F0 m 103 ls []) := by
  have hx := X.1
  have hb := X.2.1
  have hml := X.2.2.1
  have hown := X.2.2.2.1
  have hts := X.2.2.2.2.1
  unfold fX5_judge_J103 at hf
  refine lv_aload_n hx hb dX5_judge_103 rfl (lv_at hl 0 rfl) ?_
  refine z_getI X hR ha0.1 ha0.2 (by decide) zfd_X5_107 rfl dX5_judge_104 ?_
  refine lv_if_ne (tgt := 123) hx hb dX5_judge_107 (by decide) (fun c12 => ?_) (fun c12 => ?_)
  · replace hf := hf.1 c12
    refine lv_iinc (v := x3 + (1 : Int32)) (lv' := [(3, .int (x3 + (1 : Int32))), (0, .ref (ad a0)), (1, .ref (ad a1)), (2, .ref (ad 24))]) hx hb dX5_judge_123 hl (k := 3) rfl rfl (by decide) rfl (fun ls hl => ?_)
    refine lv_goto (tgt := 32) hx hb dX5_judge_126 (by decide) ?_
    exact hg32 (x3 + (1 : Int32)) w _ _ _ hf hR (lv_sub hl [1, 2, 3, 0] rfl)
  · replace hf := hf.2 c12
    refine lv_aload_n hx hb dX5_judge_110 rfl (lv_at hl 0 rfl) ?_
    refine z_getI X hR ha0.1 ha0.2 (by decide) zfd_X5_98 rfl dX5_judge_111 ?_
    refine lv_iconst (v := (-1 : Int32)) hx hb dX5_judge_114 (by decide) ?_
    refine lv_icmp_ne (tgt := 123) hx hb dX5_judge_115 (by decide) (fun c13 => ?_) (fun c13 => ?_)
    · replace hf := hf.1 c13
      refine lv_iinc (v := x3 + (1 : Int32)) (lv' := [(3, .int (x3 + (1 : Int32))), (0, .ref (ad a0)), (1, .ref (ad a1)), (2, .ref (ad 24))]) hx hb dX5_judge_123 hl (k := 3) rfl rfl (by decide) rfl (fun ls hl => ?_)
      refine lv_goto (tgt := 32) hx hb dX5_judge_126 (by decide) ?_
      exact hg32 (x3 + (1 : Int32)) w _ _ _ hf hR (lv_sub hl [1, 2, 3, 0] rfl)
    · replace hf := hf.2 c13
      refine lv_aload_n hx hb dX5_judge_118 rfl (lv_at hl 0 rfl) ?_
      refine lv_iload_n hx hb dX5_judge_119 rfl (lv_at hl 3 rfl) ?_
      refine z_putI X hR ha0.1 ha0.2 (by decide) zfp_X5_98 rfl dX5_judge_120 (fun H locs hR => ?_)
      obtain ⟨w14, hw14⟩ : ∃ z : zW, z = sI w a0 3 x3 := ⟨_, rfl⟩
      rw [← hw14] at hR
      replace hf := hf w14 hw14
      refine lv_iinc (v := x3 + (1 : Int32)) (lv' := [(3, .int (x3 + (1 : Int32))), (0, .ref (ad a0)), (1, .ref (ad a1)), (2, .ref (ad 24))]) hx hb dX5_judge_123 hl (k := 3) rfl rfl (by decide) rfl (fun ls hl => ?_)
      refine lv_goto (tgt := 32) hx hb dX5_judge_126 (by decide) ?_
      exact hg32 (x3 + (1 : Int32)) w14 _ _ _ hf hR (lv_sub hl [1, 2, 3, 0] rfl)
def fX5_judge_L32 (a0 : Nat) (a1 : Nat) (k : zW → Prop) : Nat → Int32 → zW → Prop
  | 0 => fun _ _ => False
  | n + 1 => fun x3 w =>
    (((gI w a0 0) ≤ x3 →
      fX5_judge_J129 a0 a1 k  w) ∧
     (¬ (gI w a0 0) ≤ x3 →
      (((40 : Int32) ≤ x3 →
        fX5_judge_J129 a0 a1 k  w) ∧
       (¬ (40 : Int32) ≤ x3 →
        fX5_canBe a0 a1 x3 w (fun r9 w9 =>
        ((r9 = 0 →
          ((¬ (gI w9 a0 2) = (-1 : Int32) →
            fX5_judge_J103 a0 a1 k (fX5_judge_L32 a0 a1 k n) x3 w9) ∧
           ((gI w9 a0 2) = (-1 : Int32) →
            ∀ w15 : zW, w15 = sI w9 a0 2 x3 →
            fX5_judge_J103 a0 a1 k (fX5_judge_L32 a0 a1 k n) x3 w15))) ∧
         (¬ r9 = 0 →
          vp_in x3 40 ∧ 
          fX3_put (a0 + 4) (gI w9 (a0 + 2) x3.toNatClampNeg) (gI w9 (a0 + 3) x3.toNatClampNeg) w9 (fun r17 w17 =>
          fX8_fittingBy (a0 + 4) w17 (fun r18 w18 =>
          ∀ w19 : zW, w19 = sI w18 a0 4 r18 →
          fX5_judge_J103 a0 a1 k (fX5_judge_L32 a0 a1 k n) x3 w19)))))))))
set_option maxHeartbeats 4000000 in
set_option maxRecDepth 100000 in
theorem mX5_judge_L32 {k : zW → Prop} {a0 : Nat} {a1 : Nat} (X : zCx p s m args meth c cX5_judge 4 RX5 none) (hr : zRm R 4 cells slots) (hQ : zRetV p l e R s m args below meth c cells slots Q D dA true ad0 al0 ad al cX5_judge k) (ha0 : al a0 ∧ zsh a0 = 5) (ha1 : al a1 ∧ zsh a1 = 0)  : ∀ (n : Nat) (x3 : Int32) (w : zW) (H : Heap) (locs : List Loc) (ls : Array Slot), fX5_judge_L32 a0 a1 k n x3 w → zSt D dA true ad0 al0 ad al w s H locs → lv_has ls 4 [(0, .ref (ad a0)), (1, .ref (ad a1)), (2, .ref (ad 24)), (3, .int x3)] → W p l e R s m args below meth c H locs cells slots Q (F0 m 32 ls []) := by
  intro n
  induction n with
  | zero => exact fun _ _ _ _ _ hf => hf.elim
  | succ n ih =>
    intro x3 w H locs ls hf hR hl
    have hx := X.1
    have hb := X.2.1
    have hml := X.2.2.1
    have hown := X.2.2.2.1
    have hts := X.2.2.2.2.1
    rw [fX5_judge_L32] at hf
    refine lv_iload_n hx hb dX5_judge_32 rfl (lv_at hl 3 rfl) ?_
    refine lv_aload_n hx hb dX5_judge_33 rfl (lv_at hl 0 rfl) ?_
    refine z_getI X hR ha0.1 ha0.2 (by decide) zfd_X5_32 rfl dX5_judge_34 ?_
    refine lv_icmp_ge (tgt := 129) hx hb dX5_judge_37 (by decide) (fun c6 => ?_) (fun c6 => ?_)
    · replace hf := hf.1 c6
      exact mX5_judge_J129 X hr hQ ha0 ha1  hf hR (lv_sub hl [0] rfl)
    · replace hf := hf.2 c6
      refine lv_iload_n hx hb dX5_judge_40 rfl (lv_at hl 3 rfl) ?_
      refine lv_bipush (v := (40 : Int32)) hx hb dX5_judge_41 (by decide) ?_
      refine lv_icmp_ge (tgt := 129) hx hb dX5_judge_43 (by decide) (fun c8 => ?_) (fun c8 => ?_)
      · replace hf := hf.1 c8
        exact mX5_judge_J129 X hr hQ ha0 ha1  hf hR (lv_sub hl [0] rfl)
      · replace hf := hf.2 c8
        refine lv_aload_n hx hb dX5_judge_46 rfl (lv_at hl 0 rfl) ?_
        refine lv_iload_n hx hb dX5_judge_47 rfl (lv_at hl 3 rfl) ?_
        refine lv_aload_n hx hb dX5_judge_48 rfl (lv_at hl 1 rfl) ?_
        refine z_callVI (fr1 := 1) (b := a0) (As := [.int x3, .ref (ad a1)]) (rest := []) X (hr.le (by decide)) hR zy_X5_canBe zq_1049 ha0.1 (by rw [ha0.2]; rfl) rfl (mX5_canBe ⟨ha0.1, ha0.2⟩ ⟨ha1.1, ha1.2⟩ hf) rfl hl (Nat.le_of_ble_eq_true rfl) dX5_judge_49 rfl (fun r9 w9 H locs hf hR => ?_)
        refine lv_if_eq (tgt := 90) hx hb dX5_judge_52 (by decide) (fun c10 => ?_) (fun c10 => ?_)
        · replace hf := hf.1 c10
          refine lv_aload_n hx hb dX5_judge_90 rfl (lv_at hl 0 rfl) ?_
          refine z_getI X hR ha0.1 ha0.2 (by decide) zfd_X5_95 rfl dX5_judge_91 ?_
          refine lv_iconst (v := (-1 : Int32)) hx hb dX5_judge_94 (by decide) ?_
          refine lv_icmp_ne (tgt := 103) hx hb dX5_judge_95 (by decide) (fun c11 => ?_) (fun c11 => ?_)
          · replace hf := hf.1 c11
            exact mX5_judge_J103 X hr hQ ha0 ha1 ih hf hR (lv_sub hl [0, 1, 2, 3] rfl)
          · replace hf := hf.2 c11
            refine lv_aload_n hx hb dX5_judge_98 rfl (lv_at hl 0 rfl) ?_
            refine lv_iload_n hx hb dX5_judge_99 rfl (lv_at hl 3 rfl) ?_
            refine z_putI X hR ha0.1 ha0.2 (by decide) zfp_X5_95 rfl dX5_judge_100 (fun H locs hR => ?_)
            obtain ⟨w15, hw15⟩ : ∃ z : zW, z = sI w9 a0 2 x3 := ⟨_, rfl⟩
            rw [← hw15] at hR
            replace hf := hf w15 hw15
            exact mX5_judge_J103 X hr hQ ha0 ha1 ih hf hR (lv_sub hl [0, 1, 2, 3] rfl)
        · replace hf := hf.2 c10
          refine lv_aload_n hx hb dX5_judge_55 rfl (lv_at hl 0 rfl) ?_
          refine z_getS X hR ha0.1 ha0.2 (by decide) zfd_X5_28 rfl (r := a0 + 4) (zst_5 ha0.2 8 rfl) dX5_judge_56 ?_
          refine lv_aload_n hx hb dX5_judge_59 rfl (lv_at hl 0 rfl) ?_
          refine z_getS X hR ha0.1 ha0.2 (by decide) zfd_X5_19 rfl (r := a0 + 2) (zst_5 ha0.2 6 rfl) dX5_judge_60 ?_
          refine lv_iload_n hx hb dX5_judge_63 rfl (lv_at hl 3 rfl) ?_
          obtain ⟨hb16, hf⟩ := hf
          refine z_iald X hR (zoff hR ha0.2 zo_5_2).1 (zoff hR ha0.2 zo_5_2).2.1 (zoff hR ha0.2 zo_5_2).2.2 hb16 dX5_judge_64 ?_
          refine lv_aload_n hx hb dX5_judge_65 rfl (lv_at hl 0 rfl) ?_
          refine z_getS X hR ha0.1 ha0.2 (by decide) zfd_X5_22 rfl (r := a0 + 3) (zst_5 ha0.2 7 rfl) dX5_judge_66 ?_
          refine lv_iload_n hx hb dX5_judge_69 rfl (lv_at hl 3 rfl) ?_
          refine z_iald X hR (zoff hR ha0.2 zo_5_3).1 (zoff hR ha0.2 zo_5_3).2.1 (zoff hR ha0.2 zo_5_3).2.2 hb16 dX5_judge_70 ?_
          refine z_callVI (fr1 := 1) (b := (a0 + 4)) (As := [.int (gI w9 (a0 + 2) x3.toNatClampNeg), .int (gI w9 (a0 + 3) x3.toNatClampNeg)]) (rest := []) X (hr.le (by decide)) hR zy_X3_put zq_1055 (zoff hR ha0.2 zo_5_4).1 (by rw [(zoff hR ha0.2 zo_5_4).2.1]; rfl) rfl (mX3_put ⟨(zoff hR ha0.2 zo_5_4).1, (zoff hR ha0.2 zo_5_4).2.1⟩ hf) rfl hl (Nat.le_of_ble_eq_true rfl) dX5_judge_71 rfl (fun r17 w17 H locs hf hR => ?_)
          refine lv_pop hx hb dX5_judge_74 rfl ?_
          refine lv_aload_n hx hb dX5_judge_75 rfl (lv_at hl 0 rfl) ?_
          refine lv_aload_n hx hb dX5_judge_76 rfl (lv_at hl 2 rfl) ?_
          refine lv_aload_n hx hb dX5_judge_77 rfl (lv_at hl 0 rfl) ?_
          refine z_getS X hR ha0.1 ha0.2 (by decide) zfd_X5_28 rfl (r := a0 + 4) (zst_5 ha0.2 8 rfl) dX5_judge_78 ?_
          refine z_callVI (fr1 := 3) (b := 24) (As := [.ref (ad (a0 + 4))]) (rest := [.ref (ad a0)]) X (hr.le (by decide)) hR zy_X8_fittingBy zq_1026 (zlit hR zf_24) (by rw [zs_24]; rfl) rfl (mX8_fittingBy ⟨(zoff hR ha0.2 zo_5_4).1, (zoff hR ha0.2 zo_5_4).2.1⟩ hf) rfl hl (Nat.le_of_ble_eq_true rfl) dX5_judge_81 rfl (fun r18 w18 H locs hf hR => ?_)
          refine z_putI X hR ha0.1 ha0.2 (by decide) zfp_X5_107 rfl dX5_judge_84 (fun H locs hR => ?_)
          obtain ⟨w19, hw19⟩ : ∃ z : zW, z = sI w18 a0 4 r18 := ⟨_, rfl⟩
          rw [← hw19] at hR
          replace hf := hf w19 hw19
          refine lv_goto (tgt := 103) hx hb dX5_judge_87 (by decide) ?_
          exact mX5_judge_J103 X hr hQ ha0 ha1 ih hf hR (lv_sub hl [0, 1, 2, 3] rfl)
def fX5_judge (a0 : Nat) (a1 : Nat) (w : zW) (k : zW → Prop) : Prop :=
  fX3_begin (a0 + 4) a1 w (fun w1 =>
  ∀ w2 : zW, w2 = sI w1 a0 2 (-1 : Int32) →
  ∀ w3 : zW, w3 = sI w2 a0 3 (-1 : Int32) →
  fX8_fittingBy (a0 + 4) w3 (fun r4 w4 =>
  ∀ w5 : zW, w5 = sI w4 a0 4 r4 →
  ∃ n9, fX5_judge_L32 a0 a1 k n9 (0 : Int32) w5))
set_option maxHeartbeats 4000000 in
set_option maxRecDepth 100000 in
theorem mX5_judge {l : Launch} {D : va_G} {dA : Nat → ClassId} {ad : Nat → Nat} {al : Nat → Prop} {w : zW} {k : zW → Prop} {a0 : Nat} {a1 : Nat} (ha0 : al a0 ∧ zsh a0 = 5) (ha1 : al a1 ∧ zsh a1 = 0)  (hf : fX5_judge a0 a1 w k) : zmetV l yX5_judge cX5_judge 4 none 4 [.ref (ad a0), .ref (ad a1), .ref (ad 24)] D dA true ad al w k := by
  refine zmetV_of (by decide) (Nat.le_of_ble_eq_true rfl) ?_
  intro p e R s m below meth c Q H ls args locs cells slots X hr hQ hR hl
  have hx := X.1
  have hb := X.2.1
  have hml := X.2.2.1
  have hown := X.2.2.2.1
  have hts := X.2.2.2.2.1
  unfold fX5_judge at hf
  have hl : lv_has ls 4 [(0, .ref (ad a0)), (1, .ref (ad a1)), (2, .ref (ad 24))] := hl
  refine lv_aload_n hx hb dX5_judge_0 rfl (lv_at hl 0 rfl) ?_
  refine z_getS X hR ha0.1 ha0.2 (by decide) zfd_X5_28 rfl (r := a0 + 4) (zst_5 ha0.2 8 rfl) dX5_judge_1 ?_
  refine lv_aload_n hx hb dX5_judge_4 rfl (lv_at hl 1 rfl) ?_
  refine z_callVV (fr1 := 2) (b := (a0 + 4)) (As := [.ref (ad a1)]) (rest := []) X (hr.le (by decide)) hR zy_X3_begin zq_1025 (zoff hR ha0.2 zo_5_4).1 (by rw [(zoff hR ha0.2 zo_5_4).2.1]; rfl) rfl (mX3_begin ⟨(zoff hR ha0.2 zo_5_4).1, (zoff hR ha0.2 zo_5_4).2.1⟩ ⟨ha1.1, ha1.2⟩ hf) rfl hl (Nat.le_of_ble_eq_true rfl) dX5_judge_5 rfl (fun w1 H locs hf hR => ?_)
  refine lv_aload_n hx hb dX5_judge_8 rfl (lv_at hl 0 rfl) ?_
  refine lv_iconst (v := (-1 : Int32)) hx hb dX5_judge_9 (by decide) ?_
  refine z_putI X hR ha0.1 ha0.2 (by decide) zfp_X5_95 rfl dX5_judge_10 (fun H locs hR => ?_)
  obtain ⟨w2, hw2⟩ : ∃ z : zW, z = sI w1 a0 2 (-1 : Int32) := ⟨_, rfl⟩
  rw [← hw2] at hR
  replace hf := hf w2 hw2
  refine lv_aload_n hx hb dX5_judge_13 rfl (lv_at hl 0 rfl) ?_
  refine lv_iconst (v := (-1 : Int32)) hx hb dX5_judge_14 (by decide) ?_
  refine z_putI X hR ha0.1 ha0.2 (by decide) zfp_X5_98 rfl dX5_judge_15 (fun H locs hR => ?_)
  obtain ⟨w3, hw3⟩ : ∃ z : zW, z = sI w2 a0 3 (-1 : Int32) := ⟨_, rfl⟩
  rw [← hw3] at hR
  replace hf := hf w3 hw3
  refine lv_aload_n hx hb dX5_judge_18 rfl (lv_at hl 0 rfl) ?_
  refine lv_aload_n hx hb dX5_judge_19 rfl (lv_at hl 2 rfl) ?_
  refine lv_aload_n hx hb dX5_judge_20 rfl (lv_at hl 0 rfl) ?_
  refine z_getS X hR ha0.1 ha0.2 (by decide) zfd_X5_28 rfl (r := a0 + 4) (zst_5 ha0.2 8 rfl) dX5_judge_21 ?_
  refine z_callVI (fr1 := 3) (b := 24) (As := [.ref (ad (a0 + 4))]) (rest := [.ref (ad a0)]) X (hr.le (by decide)) hR zy_X8_fittingBy zq_1026 (zlit hR zf_24) (by rw [zs_24]; rfl) rfl (mX8_fittingBy ⟨(zoff hR ha0.2 zo_5_4).1, (zoff hR ha0.2 zo_5_4).2.1⟩ hf) rfl hl (Nat.le_of_ble_eq_true rfl) dX5_judge_24 rfl (fun r4 w4 H locs hf hR => ?_)
  refine z_putI X hR ha0.1 ha0.2 (by decide) zfp_X5_107 rfl dX5_judge_27 (fun H locs hR => ?_)
  obtain ⟨w5, hw5⟩ : ∃ z : zW, z = sI w4 a0 4 r4 := ⟨_, rfl⟩
  rw [← hw5] at hR
  replace hf := hf w5 hw5
  refine lv_iconst (v := (0 : Int32)) hx hb dX5_judge_30 (by decide) ?_
  refine lv_istore_n (lv' := [(3, .int (0 : Int32)), (0, .ref (ad a0)), (1, .ref (ad a1)), (2, .ref (ad 24))]) hx hb dX5_judge_31 rfl hl (by decide) rfl (fun ls hl => ?_)
  obtain ⟨n9, hf⟩ := hf
  exact mX5_judge_L32 X hr hQ ha0 ha1  n9 (0 : Int32) w5 _ _ _ hf hR (lv_sub hl [1, 2, 3, 0] rfl)
/-! X6_keep -/
def fX6_keep_J45 (k : zW → Prop) (x1 : Int32) (x2 : Int32) (w : zW) : Prop :=
  vp_in (gI w 21 0) 16 ∧ 
  ∀ w3 : zW, w3 = sI w 22 (gI w 21 0).toNatClampNeg x1 →
  vp_in (gI w3 21 0) 16 ∧ 
  ∀ w5 : zW, w5 = sI w3 23 (gI w3 21 0).toNatClampNeg x2 →
  ∀ w6 : zW, w6 = sI w5 21 0 ((gI w5 21 0) + (1 : Int32)) →
  k w6
set_option maxHeartbeats 4000000 in
set_option maxRecDepth 100000 in
theorem mX6_keep_J45 {k : zW → Prop} (X : zCx p s m args meth c cX6_keep 3 RX6 none) (hr : zRm R 2 cells slots) (hQ : zRetV p l e R s m args below meth c cells slots Q D dA true ad0 al0 ad al cX6_keep k)  {x1 : Int32} {x2 : Int32} {w : zW} {H : Heap} {locs : List Loc} {ls : Array Slot} (hf : fX6_keep_J45 k x1 x2 w) (hR : zSt D dA true ad0 al0 ad al w s H locs) (hl : lv_has ls 3 [(0, .ref (ad 21)), (1, .int x1), (2, .int x2)]) : W p l e R s m args below meth c H locs cells slots Q (F0 m 45 ls []) := by
  have hx := X.1
  have hb := X.2.1
  have hml := X.2.2.1
  have hown := X.2.2.2.1
  have hts := X.2.2.2.2.1
  unfold fX6_keep_J45 at hf
  refine lv_aload_n hx hb dX6_keep_45 rfl (lv_at hl 0 rfl) ?_
  refine z_getS X hR (zlit hR zf_21) zs_21 (by decide) zfd_X6_9 rfl (r := 22) (by decide +kernel) dX6_keep_46 ?_
  refine lv_aload_n hx hb dX6_keep_49 rfl (lv_at hl 0 rfl) ?_
  refine z_getI X hR (zlit hR zf_21) zs_21 (by decide) zfd_X6_16 rfl dX6_keep_50 ?_
  refine lv_iload_n hx hb dX6_keep_53 rfl (lv_at hl 1 rfl) ?_
  obtain ⟨hb2, hf⟩ := hf
  refine z_iast X hR (zlit hR zf_22) zs_22 zl_22 hb2 dX6_keep_54 (fun H locs hR => ?_)
  obtain ⟨w3, hw3⟩ : ∃ z : zW, z = sI w 22 (gI w 21 0).toNatClampNeg x1 := ⟨_, rfl⟩
  rw [← hw3] at hR
  replace hf := hf w3 hw3
  refine lv_aload_n hx hb dX6_keep_55 rfl (lv_at hl 0 rfl) ?_
  refine z_getS X hR (zlit hR zf_21) zs_21 (by decide) zfd_X6_13 rfl (r := 23) (by decide +kernel) dX6_keep_56 ?_
  refine lv_aload_n hx hb dX6_keep_59 rfl (lv_at hl 0 rfl) ?_
  refine z_getI X hR (zlit hR zf_21) zs_21 (by decide) zfd_X6_16 rfl dX6_keep_60 ?_
  refine lv_iload_n hx hb dX6_keep_63 rfl (lv_at hl 2 rfl) ?_
  obtain ⟨hb4, hf⟩ := hf
  refine z_iast X hR (zlit hR zf_23) zs_23 zl_23 hb4 dX6_keep_64 (fun H locs hR => ?_)
  obtain ⟨w5, hw5⟩ : ∃ z : zW, z = sI w3 23 (gI w3 21 0).toNatClampNeg x2 := ⟨_, rfl⟩
  rw [← hw5] at hR
  replace hf := hf w5 hw5
  refine lv_aload_n hx hb dX6_keep_65 rfl (lv_at hl 0 rfl) ?_
  refine lv_dup hx hb dX6_keep_66 rfl ?_
  refine z_getI X hR (zlit hR zf_21) zs_21 (by decide) zfd_X6_16 rfl dX6_keep_67 ?_
  refine lv_iconst (v := (1 : Int32)) hx hb dX6_keep_70 (by decide) ?_
  refine lv_iadd hx hb dX6_keep_71 ?_
  refine z_putI X hR (zlit hR zf_21) zs_21 (by decide) zfp_X6_16 rfl dX6_keep_72 (fun H locs hR => ?_)
  obtain ⟨w6, hw6⟩ : ∃ z : zW, z = sI w5 21 0 ((gI w5 21 0) + (1 : Int32)) := ⟨_, rfl⟩
  rw [← hw6] at hR
  replace hf := hf w6 hw6
  exact hQ _ _ _ _ _ hf hR dX6_keep_75
def fX6_keep (x1 : Int32) (x2 : Int32) (w : zW) (k : zW → Prop) : Prop :=
  (((gI w 21 0) < (16 : Int32) →
    fX6_keep_J45 k x1 x2 w) ∧
   (¬ (gI w 21 0) < (16 : Int32) →
    ¬ (1 : Int32) < 0 ∧ ¬ (0 : Int32) < 0 ∧ ¬ (15 : Int32) < 0 ∧ (1 : Int32).toNatClampNeg + (15 : Int32).toNatClampNeg ≤ 16 ∧ (0 : Int32).toNatClampNeg + (15 : Int32).toNatClampNeg ≤ 16 ∧ ∀ w7 : zW, w7 = cI w 22 (1 : Int32).toNatClampNeg 22 (0 : Int32).toNatClampNeg (15 : Int32).toNatClampNeg →
    ¬ (1 : Int32) < 0 ∧ ¬ (0 : Int32) < 0 ∧ ¬ (15 : Int32) < 0 ∧ (1 : Int32).toNatClampNeg + (15 : Int32).toNatClampNeg ≤ 16 ∧ (0 : Int32).toNatClampNeg + (15 : Int32).toNatClampNeg ≤ 16 ∧ ∀ w8 : zW, w8 = cI w7 23 (1 : Int32).toNatClampNeg 23 (0 : Int32).toNatClampNeg (15 : Int32).toNatClampNeg →
    ∀ w9 : zW, w9 = sI w8 21 0 (15 : Int32) →
    fX6_keep_J45 k x1 x2 w9))
set_option maxHeartbeats 4000000 in
set_option maxRecDepth 100000 in
theorem mX6_keep {l : Launch} {D : va_G} {dA : Nat → ClassId} {ad : Nat → Nat} {al : Nat → Prop} {w : zW} {k : zW → Prop} {x1 : Int32} {x2 : Int32}   (hf : fX6_keep x1 x2 w k) : zmetV l yX6_keep cX6_keep 3 none 2 [.ref (ad 21), .int x1, .int x2] D dA true ad al w k := by
  refine zmetV_of (by decide) (Nat.le_of_ble_eq_true rfl) ?_
  intro p e R s m below meth c Q H ls args locs cells slots X hr hQ hR hl
  have hx := X.1
  have hb := X.2.1
  have hml := X.2.2.1
  have hown := X.2.2.2.1
  have hts := X.2.2.2.2.1
  unfold fX6_keep at hf
  have hl : lv_has ls 3 [(0, .ref (ad 21)), (1, .int x1), (2, .int x2)] := hl
  refine lv_aload_n hx hb dX6_keep_0 rfl (lv_at hl 0 rfl) ?_
  refine z_getI X hR (zlit hR zf_21) zs_21 (by decide) zfd_X6_16 rfl dX6_keep_1 ?_
  refine lv_bipush (v := (16 : Int32)) hx hb dX6_keep_4 (by decide) ?_
  refine lv_icmp_lt (tgt := 45) hx hb dX6_keep_6 (by decide) (fun c1 => ?_) (fun c1 => ?_)
  · replace hf := hf.1 c1
    exact mX6_keep_J45 X hr hQ  hf hR (lv_sub hl [0, 1, 2] rfl)
  · replace hf := hf.2 c1
    refine lv_aload_n hx hb dX6_keep_9 rfl (lv_at hl 0 rfl) ?_
    refine z_getS X hR (zlit hR zf_21) zs_21 (by decide) zfd_X6_9 rfl (r := 22) (by decide +kernel) dX6_keep_10 ?_
    refine lv_iconst (v := (1 : Int32)) hx hb dX6_keep_13 (by decide) ?_
    refine lv_aload_n hx hb dX6_keep_14 rfl (lv_at hl 0 rfl) ?_
    refine z_getS X hR (zlit hR zf_21) zs_21 (by decide) zfd_X6_9 rfl (r := 22) (by decide +kernel) dX6_keep_15 ?_
    refine lv_iconst (v := (0 : Int32)) hx hb dX6_keep_18 (by decide) ?_
    refine lv_bipush (v := (15 : Int32)) hx hb dX6_keep_19 (by decide) ?_
    obtain ⟨h1_7, h2_7, h3_7, h4_7, h5_7, hf⟩ := hf
    refine z_copyi (rest := []) X hR (by rw [hml]; exact hl.1.symm) zq_897 zq_577 zq_578 zq_579 (zlit hR zf_22) zs_22 zl_22 (zlit hR zf_22) zs_22 zl_22 h1_7 h2_7 h3_7 h4_7 h5_7 (by have := hr.1; omega) (by have := hr.2.1; exact Nat.le_trans (by decide) this) dX6_keep_21 (fun H locs hR => ?_)
    obtain ⟨w7, hw7⟩ : ∃ z : zW, z = cI w 22 (1 : Int32).toNatClampNeg 22 (0 : Int32).toNatClampNeg (15 : Int32).toNatClampNeg := ⟨_, rfl⟩
    rw [← hw7] at hR
    replace hf := hf w7 hw7
    refine lv_aload_n hx hb dX6_keep_24 rfl (lv_at hl 0 rfl) ?_
    refine z_getS X hR (zlit hR zf_21) zs_21 (by decide) zfd_X6_13 rfl (r := 23) (by decide +kernel) dX6_keep_25 ?_
    refine lv_iconst (v := (1 : Int32)) hx hb dX6_keep_28 (by decide) ?_
    refine lv_aload_n hx hb dX6_keep_29 rfl (lv_at hl 0 rfl) ?_
    refine z_getS X hR (zlit hR zf_21) zs_21 (by decide) zfd_X6_13 rfl (r := 23) (by decide +kernel) dX6_keep_30 ?_
    refine lv_iconst (v := (0 : Int32)) hx hb dX6_keep_33 (by decide) ?_
    refine lv_bipush (v := (15 : Int32)) hx hb dX6_keep_34 (by decide) ?_
    obtain ⟨h1_8, h2_8, h3_8, h4_8, h5_8, hf⟩ := hf
    refine z_copyi (rest := []) X hR (by rw [hml]; exact hl.1.symm) zq_897 zq_577 zq_578 zq_579 (zlit hR zf_23) zs_23 zl_23 (zlit hR zf_23) zs_23 zl_23 h1_8 h2_8 h3_8 h4_8 h5_8 (by have := hr.1; omega) (by have := hr.2.1; exact Nat.le_trans (by decide) this) dX6_keep_36 (fun H locs hR => ?_)
    obtain ⟨w8, hw8⟩ : ∃ z : zW, z = cI w7 23 (1 : Int32).toNatClampNeg 23 (0 : Int32).toNatClampNeg (15 : Int32).toNatClampNeg := ⟨_, rfl⟩
    rw [← hw8] at hR
    replace hf := hf w8 hw8
    refine lv_aload_n hx hb dX6_keep_39 rfl (lv_at hl 0 rfl) ?_
    refine lv_bipush (v := (15 : Int32)) hx hb dX6_keep_40 (by decide) ?_
    refine z_putI X hR (zlit hR zf_21) zs_21 (by decide) zfp_X6_16 rfl dX6_keep_42 (fun H locs hR => ?_)
    obtain ⟨w9, hw9⟩ : ∃ z : zW, z = sI w8 21 0 (15 : Int32) := ⟨_, rfl⟩
    rw [← hw9] at hR
    replace hf := hf w9 hw9
    exact mX6_keep_J45 X hr hQ  hf hR (lv_sub hl [0, 1, 2] rfl)
/-! X6_takeBack -/
def fX6_takeBack (a1 : Nat) (w : zW) (k : Int32 → zW → Prop) : Prop :=
  (((gI w 21 0) ≤ 0 →
    k (0 : Int32) w) ∧
   (¬ (gI w 21 0) ≤ 0 →
    (((gI w 21 0) ≤ (16 : Int32) →
      ∀ w3 : zW, w3 = sI w 21 0 ((gI w 21 0) - (1 : Int32)) →
      vp_in (gI w3 21 0) 16 ∧ 
      fX3_put a1 (gI w3 22 (gI w3 21 0).toNatClampNeg) (gI w3 23 (gI w3 21 0).toNatClampNeg) w3 (fun r5 w5 =>
      k (1 : Int32) w5)) ∧
     (¬ (gI w 21 0) ≤ (16 : Int32) →
      k (0 : Int32) w))))
set_option maxHeartbeats 4000000 in
set_option maxRecDepth 100000 in
theorem mX6_takeBack {l : Launch} {D : va_G} {dA : Nat → ClassId} {ad : Nat → Nat} {al : Nat → Prop} {w : zW} {k : Int32 → zW → Prop} {a1 : Nat} (ha1 : al a1 ∧ zsh a1 = 3)  (hf : fX6_takeBack a1 w k) : zmetI l yX6_takeBack cX6_takeBack 2 (some .boolean) 2 [.ref (ad 21), .ref (ad a1)] D dA true ad al w k := by
  refine zmetZ_of (by decide) (Nat.le_of_ble_eq_true rfl) ?_
  intro p e R s m below meth c Q H ls args locs cells slots X hr hQ hR hl
  have hx := X.1
  have hb := X.2.1
  have hml := X.2.2.1
  have hown := X.2.2.2.1
  have hts := X.2.2.2.2.1
  unfold fX6_takeBack at hf
  have hl : lv_has ls 2 [(0, .ref (ad 21)), (1, .ref (ad a1))] := hl
  refine lv_aload_n hx hb dX6_takeBack_0 rfl (lv_at hl 0 rfl) ?_
  refine z_getI X hR (zlit hR zf_21) zs_21 (by decide) zfd_X6_16 rfl dX6_takeBack_1 ?_
  refine lv_if_le (tgt := 16) hx hb dX6_takeBack_4 (by decide) (fun c1 => ?_) (fun c1 => ?_)
  · replace hf := hf.1 c1
    refine lv_iconst (v := (0 : Int32)) hx hb dX6_takeBack_16 (by decide) ?_
    exact hQ _ _ _ _ _ _ zb01_0 hf hR dX6_takeBack_17
  · replace hf := hf.2 c1
    refine lv_aload_n hx hb dX6_takeBack_7 rfl (lv_at hl 0 rfl) ?_
    refine z_getI X hR (zlit hR zf_21) zs_21 (by decide) zfd_X6_16 rfl dX6_takeBack_8 ?_
    refine lv_bipush (v := (16 : Int32)) hx hb dX6_takeBack_11 (by decide) ?_
    refine lv_icmp_le (tgt := 18) hx hb dX6_takeBack_13 (by decide) (fun c2 => ?_) (fun c2 => ?_)
    · replace hf := hf.1 c2
      refine lv_aload_n hx hb dX6_takeBack_18 rfl (lv_at hl 0 rfl) ?_
      refine lv_dup hx hb dX6_takeBack_19 rfl ?_
      refine z_getI X hR (zlit hR zf_21) zs_21 (by decide) zfd_X6_16 rfl dX6_takeBack_20 ?_
      refine lv_iconst (v := (1 : Int32)) hx hb dX6_takeBack_23 (by decide) ?_
      refine lv_isub hx hb dX6_takeBack_24 ?_
      refine z_putI X hR (zlit hR zf_21) zs_21 (by decide) zfp_X6_16 rfl dX6_takeBack_25 (fun H locs hR => ?_)
      obtain ⟨w3, hw3⟩ : ∃ z : zW, z = sI w 21 0 ((gI w 21 0) - (1 : Int32)) := ⟨_, rfl⟩
      rw [← hw3] at hR
      replace hf := hf w3 hw3
      refine lv_aload_n hx hb dX6_takeBack_28 rfl (lv_at hl 1 rfl) ?_
      refine lv_aload_n hx hb dX6_takeBack_29 rfl (lv_at hl 0 rfl) ?_
      refine z_getS X hR (zlit hR zf_21) zs_21 (by decide) zfd_X6_9 rfl (r := 22) (by decide +kernel) dX6_takeBack_30 ?_
      refine lv_aload_n hx hb dX6_takeBack_33 rfl (lv_at hl 0 rfl) ?_
      refine z_getI X hR (zlit hR zf_21) zs_21 (by decide) zfd_X6_16 rfl dX6_takeBack_34 ?_
      obtain ⟨hb4, hf⟩ := hf
      refine z_iald X hR (zlit hR zf_22) zs_22 zl_22 hb4 dX6_takeBack_37 ?_
      refine lv_aload_n hx hb dX6_takeBack_38 rfl (lv_at hl 0 rfl) ?_
      refine z_getS X hR (zlit hR zf_21) zs_21 (by decide) zfd_X6_13 rfl (r := 23) (by decide +kernel) dX6_takeBack_39 ?_
      refine lv_aload_n hx hb dX6_takeBack_42 rfl (lv_at hl 0 rfl) ?_
      refine z_getI X hR (zlit hR zf_21) zs_21 (by decide) zfd_X6_16 rfl dX6_takeBack_43 ?_
      refine z_iald X hR (zlit hR zf_23) zs_23 zl_23 hb4 dX6_takeBack_46 ?_
      refine z_callVI (fr1 := 1) (b := a1) (As := [.int (gI w3 22 (gI w3 21 0).toNatClampNeg), .int (gI w3 23 (gI w3 21 0).toNatClampNeg)]) (rest := []) X (hr.le (by decide)) hR zy_X3_put zq_953 ha1.1 (by rw [ha1.2]; rfl) rfl (mX3_put ⟨ha1.1, ha1.2⟩ hf) rfl hl (Nat.le_of_ble_eq_true rfl) dX6_takeBack_47 rfl (fun r5 w5 H locs hf hR => ?_)
      refine lv_pop hx hb dX6_takeBack_50 rfl ?_
      refine lv_iconst (v := (1 : Int32)) hx hb dX6_takeBack_51 (by decide) ?_
      exact hQ _ _ _ _ _ _ zb01_1 hf hR dX6_takeBack_52
    · replace hf := hf.2 c2
      refine lv_iconst (v := (0 : Int32)) hx hb dX6_takeBack_16 (by decide) ?_
      exact hQ _ _ _ _ _ _ zb01_0 hf hR dX6_takeBack_17
/-! X8_makeRoom -/
def fX8_makeRoom (mc ms : Nat) (w : zW) (k : zW → Prop) : Prop :=
  ¬ gR w 24 4 = 0 ∧
  (((gI w 24 2) ≤ (Int32.ofNat (zln (gR w 24 4))) →
    k w) ∧
   (¬ (gI w 24 2) ≤ (Int32.ofNat (zln (gR w 24 4))) →
    ∀ v3 : Int32, v3 = (if gI w 24 2 < (2 : Int32) * (Int32.ofNat (zln (gR w 24 4))) then (2 : Int32) * (Int32.ofNat (zln (gR w 24 4))) else gI w 24 2) →
    ∀ v4 : Int32, v4 = (if (6561 : Int32) < v3 then (6561 : Int32) else v3) →
    ¬ v4 < 0 ∧ v4.toNatClampNeg * 4 ≤ 536870912 ∧ ¬ gI w 0 (300 + 3 * v4.toNatClampNeg + 0) = 1 ∧ 1 ≤ mc ∧ v4.toNatClampNeg ≤ ms ∧ ∀ w5 : zW, w5 = nW w (300 + 3 * v4.toNatClampNeg + 0) →
    ∀ w6 : zW, w6 = sR w5 24 4 (300 + 3 * v4.toNatClampNeg + 0) →
    ¬ v4 < 0 ∧ v4.toNatClampNeg * 4 ≤ 536870912 ∧ ¬ gI w6 0 (300 + 3 * v4.toNatClampNeg + 1) = 1 ∧ 1 ≤ mc - 1 ∧ v4.toNatClampNeg ≤ ms - v4.toNatClampNeg ∧ ∀ w7 : zW, w7 = nW w6 (300 + 3 * v4.toNatClampNeg + 1) →
    ∀ w8 : zW, w8 = sR w7 24 5 (300 + 3 * v4.toNatClampNeg + 1) →
    ¬ v4 < 0 ∧ v4.toNatClampNeg * 4 ≤ 536870912 ∧ ¬ gI w8 0 (300 + 3 * v4.toNatClampNeg + 2) = 1 ∧ 1 ≤ (mc - 1) - 1 ∧ v4.toNatClampNeg ≤ (ms - v4.toNatClampNeg) - v4.toNatClampNeg ∧ ∀ w9 : zW, w9 = nW w8 (300 + 3 * v4.toNatClampNeg + 2) →
    ∀ w10 : zW, w10 = sR w9 24 6 (300 + 3 * v4.toNatClampNeg + 2) →
    k w10))
set_option maxHeartbeats 4000000 in
set_option maxRecDepth 100000 in
theorem mX8_makeRoom {l : Launch} {D : va_G} {dA : Nat → ClassId} {ad : Nat → Nat} {al : Nat → Prop} {w : zW} {mc ms : Nat} {k : zW → Prop}  (hf : fX8_makeRoom mc ms w k) : zmetAV l yX8_makeRoom cX8_makeRoom 2 none 1 mc ms [.ref (ad 24)] D dA true ad al w k := by
  refine zmetAV_of (by decide) (Nat.le_of_ble_eq_true rfl) ?_
  intro p e R s m below meth c Q H ls args locs cells slots X hr hQ hR hl
  have hx := X.1
  have hb := X.2.1
  have hml := X.2.2.1
  have hown := X.2.2.2.1
  have hts := X.2.2.2.2.1
  unfold fX8_makeRoom at hf
  have hl : lv_has ls 2 [(0, .ref (ad 24))] := hl
  have hX : zExt ad al ad al := zExt.rf
  refine lv_aload_n hx hb dX8_makeRoom_0 rfl (lv_at hl 0 rfl) ?_
  refine z_getI X hR (zlit hR zf_24) zs_24 (by decide) zfd_X8_47 rfl dX8_makeRoom_1 ?_
  refine lv_aload_n hx hb dX8_makeRoom_4 rfl (lv_at hl 0 rfl) ?_
  refine z_getR X hR (zlit hR zf_24) zs_24 (by decide) zfd_X8_18 rfl dX8_makeRoom_5 ?_
  obtain ⟨hn10, hf⟩ := hf
  have hn1 : al (gR w 24 4) ∧ zsh (gR w 24 4) = 20 := zwt_of hR (zlit hR zf_24) zs_24 rfl hn10 (zdc_of zs_24 rfl)
  rw [zrf_pos hn10]
  refine z_alen X hR hn1.1 hn1.2 (by decide) (by decide) rfl (v := Int32.ofNat (zln (gR w 24 4))) rfl dX8_makeRoom_8 ?_
  refine lv_icmp_le (tgt := 54) hx hb dX8_makeRoom_9 (by decide) (fun c2 => ?_) (fun c2 => ?_)
  · replace hf := hf.1 c2
    exact hQ _ _ _ _ _ _ _ _ _ hX (by have := hr.2.2.1; omega) (by have := hr.2.2.2; omega) hf hR dX8_makeRoom_54
  · replace hf := hf.2 c2
    refine lv_aload_n hx hb dX8_makeRoom_12 rfl (lv_at hl 0 rfl) ?_
    refine z_getI X hR (zlit hR zf_24) zs_24 (by decide) zfd_X8_47 rfl dX8_makeRoom_13 ?_
    refine lv_iconst (v := (2 : Int32)) hx hb dX8_makeRoom_16 (by decide) ?_
    refine lv_aload_n hx hb dX8_makeRoom_17 rfl (lv_at hl 0 rfl) ?_
    refine z_getR X hR (zlit hR zf_24) zs_24 (by decide) zfd_X8_18 rfl dX8_makeRoom_18 ?_
    rw [zrf_pos hn10]
    refine z_alen X hR hn1.1 hn1.2 (by decide) (by decide) rfl (v := Int32.ofNat (zln (gR w 24 4))) rfl dX8_makeRoom_21 ?_
    refine lv_imul hx hb dX8_makeRoom_22 ?_
    refine va_mmax hx hb (by rw [hml]; exact hl.1.symm) hown (hts _ zq_986) (hts _ zq_335) (hts _ zq_336) (hts _ zq_337) (by have := hr.1; omega) (by have := hr.2.1; show (List.sum []) + 13 ≤ R.locals; simp only [List.sum_cons, List.sum_nil, Value.category]; omega) (hr.none (Nat.zero_le _)).2.2.1 (hr.none (Nat.zero_le _)).2.2.2 dX8_makeRoom_23 ?_
    refine lv_topi (fun v3 hv3 => ?_)
    replace hf := hf v3 hv3
    refine lv_sipush (v := (6561 : Int32)) hx hb dX8_makeRoom_26 (by decide) ?_
    refine va_mmin hx hb (by rw [hml]; exact hl.1.symm) hown (hts _ zq_975) (hts _ zq_339) (hts _ zq_336) (hts _ zq_340) (by have := hr.1; omega) (by have := hr.2.1; show (List.sum []) + 13 ≤ R.locals; simp only [List.sum_cons, List.sum_nil, Value.category]; omega) (hr.none (Nat.zero_le _)).2.2.1 (hr.none (Nat.zero_le _)).2.2.2 dX8_makeRoom_29 ?_
    refine lv_topi (fun v4 hv4 => ?_)
    replace hf := hf v4 hv4
    refine lv_istore_n (lv' := [(1, .int v4), (0, .ref (ad 24))]) hx hb dX8_makeRoom_32 rfl hl (by decide) rfl (fun ls hl => ?_)
    refine lv_aload_n hx hb dX8_makeRoom_33 rfl (lv_at hl 1 rfl) ?_
    refine lv_iload_n hx hb dX8_makeRoom_34 rfl (lv_at hl 0 rfl) ?_
    have hw5_1 : al 24 := (zlit hR zf_24)
    have hv5_1 : al 24 := (zlit hR zf_24)
    obtain ⟨hp5, hz5, hg5, hc5, hs5, hf⟩ := hf
    refine z_newaI (N := v4.toNatClampNeg) X (hr.new hc5 hs5) hR (j := 300 + 3 * v4.toNatClampNeg + 0) (fun _ => zbg_dyn _ 0) hg5 (zbg_sh _ 0) (zbg_ln _ (by decide)) hp5 rfl hz5 zq_64 dX8_makeRoom_35 (fun ad5 al5 H hE5 hj5 hR => ?_)
    obtain ⟨w5, hw5⟩ : ∃ z : zW, z = nW w (300 + 3 * v4.toNatClampNeg + 0) := ⟨_, rfl⟩
    rw [← hw5] at hR
    replace hf := hf w5 hw5
    have hX := hX.tr hE5
    have hr := hr.after hc5 hs5
    have hn1 := And.intro (hE5 _ hn1.1).1 hn1.2
    rw [← (hE5 24 hw5_1).2] at hl
    rw [← (hE5 24 hv5_1).2]
    refine z_putR X hR (zlit hR zf_24) zs_24 (by decide) zfp_X8_18 rfl rfl (zne0 (zbg_sh _ 0) (by decide)) hj5 (by rw [zdc_of zs_24 rfl]; exact (zbg_sh _ 0)) dX8_makeRoom_37 (fun H locs hR => ?_)
    obtain ⟨w6, hw6⟩ : ∃ z : zW, z = sR w5 24 4 (300 + 3 * v4.toNatClampNeg + 0) := ⟨_, rfl⟩
    rw [← hw6] at hR
    replace hf := hf w6 hw6
    refine lv_aload_n hx hb dX8_makeRoom_40 rfl (lv_at hl 1 rfl) ?_
    refine lv_iload_n hx hb dX8_makeRoom_41 rfl (lv_at hl 0 rfl) ?_
    have hw7_1 : al5 24 := (zlit hR zf_24)
    have hv7_1 : al5 24 := (zlit hR zf_24)
    obtain ⟨hp7, hz7, hg7, hc7, hs7, hf⟩ := hf
    refine z_newaI (N := v4.toNatClampNeg) X (hr.new hc7 hs7) hR (j := 300 + 3 * v4.toNatClampNeg + 1) (fun _ => zbg_dyn _ 1) hg7 (zbg_sh _ 1) (zbg_ln _ (by decide)) hp7 rfl hz7 zq_64 dX8_makeRoom_42 (fun ad7 al7 H hE7 hj7 hR => ?_)
    obtain ⟨w7, hw7⟩ : ∃ z : zW, z = nW w6 (300 + 3 * v4.toNatClampNeg + 1) := ⟨_, rfl⟩
    rw [← hw7] at hR
    replace hf := hf w7 hw7
    have hX := hX.tr hE7
    have hr := hr.after hc7 hs7
    have hn1 := And.intro (hE7 _ hn1.1).1 hn1.2
    rw [← (hE7 24 hw7_1).2] at hl
    rw [← (hE7 24 hv7_1).2]
    refine z_putR X hR (zlit hR zf_24) zs_24 (by decide) zfp_X8_22 rfl rfl (zne0 (zbg_sh _ 1) (by decide)) hj7 (by rw [zdc_of zs_24 rfl]; exact (zbg_sh _ 1)) dX8_makeRoom_44 (fun H locs hR => ?_)
    obtain ⟨w8, hw8⟩ : ∃ z : zW, z = sR w7 24 5 (300 + 3 * v4.toNatClampNeg + 1) := ⟨_, rfl⟩
    rw [← hw8] at hR
    replace hf := hf w8 hw8
    refine lv_aload_n hx hb dX8_makeRoom_47 rfl (lv_at hl 1 rfl) ?_
    refine lv_iload_n hx hb dX8_makeRoom_48 rfl (lv_at hl 0 rfl) ?_
    have hw9_1 : al7 24 := (zlit hR zf_24)
    have hv9_1 : al7 24 := (zlit hR zf_24)
    obtain ⟨hp9, hz9, hg9, hc9, hs9, hf⟩ := hf
    refine z_newaI (N := v4.toNatClampNeg) X (hr.new hc9 hs9) hR (j := 300 + 3 * v4.toNatClampNeg + 2) (fun _ => zbg_dyn _ 2) hg9 (zbg_sh _ 2) (zbg_ln _ (by decide)) hp9 rfl hz9 zq_64 dX8_makeRoom_49 (fun ad9 al9 H hE9 hj9 hR => ?_)
    obtain ⟨w9, hw9⟩ : ∃ z : zW, z = nW w8 (300 + 3 * v4.toNatClampNeg + 2) := ⟨_, rfl⟩
    rw [← hw9] at hR
    replace hf := hf w9 hw9
    have hX := hX.tr hE9
    have hr := hr.after hc9 hs9
    have hn1 := And.intro (hE9 _ hn1.1).1 hn1.2
    rw [← (hE9 24 hw9_1).2] at hl
    rw [← (hE9 24 hv9_1).2]
    refine z_putR X hR (zlit hR zf_24) zs_24 (by decide) zfp_X8_25 rfl rfl (zne0 (zbg_sh _ 2) (by decide)) hj9 (by rw [zdc_of zs_24 rfl]; exact (zbg_sh _ 2)) dX8_makeRoom_51 (fun H locs hR => ?_)
    obtain ⟨w10, hw10⟩ : ∃ z : zW, z = sR w9 24 6 (300 + 3 * v4.toNatClampNeg + 2) := ⟨_, rfl⟩
    rw [← hw10] at hR
    replace hf := hf w10 hw10
    exact hQ _ _ _ _ _ _ _ _ _ hX (by have := hr.2.2.1; omega) (by have := hr.2.2.2; omega) hf hR dX8_makeRoom_54
/-! X8_nextDigits -/
def fX8_nextDigits_L14 (k : zW → Prop) : Nat → Int32 → zW → Prop
  | 0 => fun _ _ => False
  | n + 1 => fun x1 w =>
    ((x1 < 0 →
      k w) ∧
     (¬ x1 < 0 →
      vp_in x1 4 ∧ 
      ∀ w6 : zW, w6 = sI w 28 x1.toNatClampNeg ((gI w 28 x1.toNatClampNeg) + (1 : Int32)) →
      ¬ gR w6 24 9 = 0 ∧
      (((gI w6 ((gR w6 24 9) + 4) x1.toNatClampNeg) ≤ (gI w6 28 x1.toNatClampNeg) →
        ∀ w9 : zW, w9 = sI w6 28 x1.toNatClampNeg (0 : Int32) →
        fX8_nextDigits_L14 k n (x1 + (-1 : Int32)) w9) ∧
       (¬ (gI w6 ((gR w6 24 9) + 4) x1.toNatClampNeg) ≤ (gI w6 28 x1.toNatClampNeg) →
        k w6))))
set_option maxHeartbeats 4000000 in
set_option maxRecDepth 100000 in
theorem mX8_nextDigits_L14 {k : zW → Prop} (X : zCx p s m args meth c cX8_nextDigits 2 RX8 none) (hr : zRm R 1 cells slots) (hQ : zRetV p l e R s m args below meth c cells slots Q D dA true ad0 al0 ad al cX8_nextDigits k)  : ∀ (n : Nat) (x1 : Int32) (w : zW) (H : Heap) (locs : List Loc) (ls : Array Slot), fX8_nextDigits_L14 k n x1 w → zSt D dA true ad0 al0 ad al w s H locs → lv_has ls 2 [(0, .ref (ad 24)), (1, .int x1)] → W p l e R s m args below meth c H locs cells slots Q (F0 m 14 ls []) := by
  intro n
  induction n with
  | zero => exact fun _ _ _ _ _ hf => hf.elim
  | succ n ih =>
    intro x1 w H locs ls hf hR hl
    have hx := X.1
    have hb := X.2.1
    have hml := X.2.2.1
    have hown := X.2.2.2.1
    have hts := X.2.2.2.2.1
    rw [fX8_nextDigits_L14] at hf
    refine lv_iload_n hx hb dX8_nextDigits_14 rfl (lv_at hl 1 rfl) ?_
    refine lv_if_lt (tgt := 60) hx hb dX8_nextDigits_15 (by decide) (fun c4 => ?_) (fun c4 => ?_)
    · replace hf := hf.1 c4
      exact hQ _ _ _ _ _ hf hR dX8_nextDigits_60
    · replace hf := hf.2 c4
      refine lv_aload_n hx hb dX8_nextDigits_18 rfl (lv_at hl 0 rfl) ?_
      refine z_getS X hR (zlit hR zf_24) zs_24 (by decide) zfd_X8_28 rfl (r := 28) (by decide +kernel) dX8_nextDigits_19 ?_
      refine lv_iload_n hx hb dX8_nextDigits_22 rfl (lv_at hl 1 rfl) ?_
      refine lv_dup2_11 hx hb dX8_nextDigits_23 rfl rfl ?_
      obtain ⟨hb5, hf⟩ := hf
      refine z_iald X hR (zlit hR zf_28) zs_28 zl_28 hb5 dX8_nextDigits_24 ?_
      refine lv_iconst (v := (1 : Int32)) hx hb dX8_nextDigits_25 (by decide) ?_
      refine lv_iadd hx hb dX8_nextDigits_26 ?_
      refine z_iast X hR (zlit hR zf_28) zs_28 zl_28 hb5 dX8_nextDigits_27 (fun H locs hR => ?_)
      obtain ⟨w6, hw6⟩ : ∃ z : zW, z = sI w 28 x1.toNatClampNeg ((gI w 28 x1.toNatClampNeg) + (1 : Int32)) := ⟨_, rfl⟩
      rw [← hw6] at hR
      replace hf := hf w6 hw6
      refine lv_aload_n hx hb dX8_nextDigits_28 rfl (lv_at hl 0 rfl) ?_
      refine z_getS X hR (zlit hR zf_24) zs_24 (by decide) zfd_X8_28 rfl (r := 28) (by decide +kernel) dX8_nextDigits_29 ?_
      refine lv_iload_n hx hb dX8_nextDigits_32 rfl (lv_at hl 1 rfl) ?_
      refine z_iald X hR (zlit hR zf_28) zs_28 zl_28 hb5 dX8_nextDigits_33 ?_
      refine lv_aload_n hx hb dX8_nextDigits_34 rfl (lv_at hl 0 rfl) ?_
      refine z_getR X hR (zlit hR zf_24) zs_24 (by decide) zfd_X8_31 rfl dX8_nextDigits_35 ?_
      obtain ⟨hn70, hf⟩ := hf
      have hn7 : al (gR w6 24 9) ∧ zsh (gR w6 24 9) = 0 := zwt_of hR (zlit hR zf_24) zs_24 rfl hn70 (zdc_of zs_24 rfl)
      rw [zrf_pos hn70]
      refine z_getS X hR hn7.1 hn7.2 (by decide) zfd_X8_82 rfl (r := (gR w6 24 9) + 4) (zst_0 hn7.2 4 rfl) dX8_nextDigits_38 ?_
      refine lv_iload_n hx hb dX8_nextDigits_41 rfl (lv_at hl 1 rfl) ?_
      refine z_iald X hR (zoff hR hn7.2 zo_0_4).1 (zoff hR hn7.2 zo_0_4).2.1 (zoff hR hn7.2 zo_0_4).2.2 hb5 dX8_nextDigits_42 ?_
      refine lv_icmp_ge (tgt := 47) hx hb dX8_nextDigits_43 (by decide) (fun c8 => ?_) (fun c8 => ?_)
      · replace hf := hf.1 c8
        refine lv_aload_n hx hb dX8_nextDigits_47 rfl (lv_at hl 0 rfl) ?_
        refine z_getS X hR (zlit hR zf_24) zs_24 (by decide) zfd_X8_28 rfl (r := 28) (by decide +kernel) dX8_nextDigits_48 ?_
        refine lv_iload_n hx hb dX8_nextDigits_51 rfl (lv_at hl 1 rfl) ?_
        refine lv_iconst (v := (0 : Int32)) hx hb dX8_nextDigits_52 (by decide) ?_
        refine z_iast X hR (zlit hR zf_28) zs_28 zl_28 hb5 dX8_nextDigits_53 (fun H locs hR => ?_)
        obtain ⟨w9, hw9⟩ : ∃ z : zW, z = sI w6 28 x1.toNatClampNeg (0 : Int32) := ⟨_, rfl⟩
        rw [← hw9] at hR
        replace hf := hf w9 hw9
        refine lv_iinc (v := x1 + (-1 : Int32)) (lv' := [(1, .int (x1 + (-1 : Int32))), (0, .ref (ad 24))]) hx hb dX8_nextDigits_54 hl (k := 1) rfl rfl (by decide) rfl (fun ls hl => ?_)
        refine lv_goto (tgt := 14) hx hb dX8_nextDigits_57 (by decide) ?_
        exact ih (x1 + (-1 : Int32)) w9 _ _ _ hf hR (lv_sub hl [1, 0] rfl)
      · replace hf := hf.2 c8
        exact hQ _ _ _ _ _ hf hR dX8_nextDigits_46
def fX8_nextDigits (w : zW) (k : zW → Prop) : Prop :=
  ¬ gR w 24 9 = 0 ∧
  ∀ v2 : Int32, v2 = (if (4 : Int32) < gI w (gR w 24 9) 0 then (4 : Int32) else gI w (gR w 24 9) 0) →
  ∀ v3 : Int32, v3 = v2 - (1 : Int32) →
  ∃ n9, fX8_nextDigits_L14 k n9 v3 w
set_option maxHeartbeats 4000000 in
set_option maxRecDepth 100000 in
theorem mX8_nextDigits {l : Launch} {D : va_G} {dA : Nat → ClassId} {ad : Nat → Nat} {al : Nat → Prop} {w : zW} {k : zW → Prop}   (hf : fX8_nextDigits w k) : zmetV l yX8_nextDigits cX8_nextDigits 2 none 1 [.ref (ad 24)] D dA true ad al w k := by
  refine zmetV_of (by decide) (Nat.le_of_ble_eq_true rfl) ?_
  intro p e R s m below meth c Q H ls args locs cells slots X hr hQ hR hl
  have hx := X.1
  have hb := X.2.1
  have hml := X.2.2.1
  have hown := X.2.2.2.1
  have hts := X.2.2.2.2.1
  unfold fX8_nextDigits at hf
  have hl : lv_has ls 2 [(0, .ref (ad 24))] := hl
  refine lv_aload_n hx hb dX8_nextDigits_0 rfl (lv_at hl 0 rfl) ?_
  refine z_getR X hR (zlit hR zf_24) zs_24 (by decide) zfd_X8_31 rfl dX8_nextDigits_1 ?_
  obtain ⟨hn10, hf⟩ := hf
  have hn1 : al (gR w 24 9) ∧ zsh (gR w 24 9) = 0 := zwt_of hR (zlit hR zf_24) zs_24 rfl hn10 (zdc_of zs_24 rfl)
  rw [zrf_pos hn10]
  refine z_getI X hR hn1.1 hn1.2 (by decide) zfd_X8_75 rfl dX8_nextDigits_4 ?_
  refine lv_iconst (v := (4 : Int32)) hx hb dX8_nextDigits_7 (by decide) ?_
  refine va_mmin hx hb (by rw [hml]; exact hl.1.symm) hown (hts _ zq_975) (hts _ zq_339) (hts _ zq_336) (hts _ zq_340) (by have := hr.1; omega) (by have := hr.2.1; show (List.sum []) + 13 ≤ R.locals; simp only [List.sum_cons, List.sum_nil, Value.category]; omega) hr.2.2.1 hr.2.2.2 dX8_nextDigits_8 ?_
  refine lv_topi (fun v2 hv2 => ?_)
  replace hf := hf v2 hv2
  refine lv_iconst (v := (1 : Int32)) hx hb dX8_nextDigits_11 (by decide) ?_
  refine lv_isub hx hb dX8_nextDigits_12 ?_
  refine lv_topi (fun v3 hv3 => ?_)
  replace hf := hf v3 hv3
  refine lv_istore_n (lv' := [(1, .int v3), (0, .ref (ad 24))]) hx hb dX8_nextDigits_13 rfl hl (by decide) rfl (fun ls hl => ?_)
  obtain ⟨n9, hf⟩ := hf
  exact mX8_nextDigits_L14 X hr hQ  n9 v3 w _ _ _ hf hR (lv_sub hl [1, 0] rfl)
/-! X8_packDigits -/
def fX8_packDigits_L4 (k : Int32 → zW → Prop) : Nat → Int32 → Int32 → zW → Prop
  | 0 => fun _ _ _ => False
  | n + 1 => fun x1 x2 w =>
    ¬ gR w 24 9 = 0 ∧
    (((gI w (gR w 24 9) 0) ≤ x2 →
      k x1 w) ∧
     (¬ (gI w (gR w 24 9) 0) ≤ x2 →
      (((4 : Int32) ≤ x2 →
        k x1 w) ∧
       (¬ (4 : Int32) ≤ x2 →
        vp_in x2 4 ∧ 
        vp_in (gI w 28 x2.toNatClampNeg) 9 ∧ 
        ∀ v6 : Int32, v6 = x1 ||| ((gI w ((gR w 24 9) + 5 + 1 + x2.toNatClampNeg) (gI w 28 x2.toNatClampNeg).toNatClampNeg) <<< (((4 : Int32) * x2) &&& 31)) →
        fX8_packDigits_L4 k n v6 (x2 + (1 : Int32)) w))))
set_option maxHeartbeats 4000000 in
set_option maxRecDepth 100000 in
theorem mX8_packDigits_L4 {k : Int32 → zW → Prop} (X : zCx p s m args meth c cX8_packDigits 3 RX8 (some .int)) (hr : zRm R 0 cells slots) (hQ : zRetI p l e R s m args below meth c cells slots Q D dA true ad0 al0 ad al cX8_packDigits k)  : ∀ (n : Nat) (x1 : Int32) (x2 : Int32) (w : zW) (H : Heap) (locs : List Loc) (ls : Array Slot), fX8_packDigits_L4 k n x1 x2 w → zSt D dA true ad0 al0 ad al w s H locs → lv_has ls 3 [(0, .ref (ad 24)), (1, .int x1), (2, .int x2)] → W p l e R s m args below meth c H locs cells slots Q (F0 m 4 ls []) := by
  intro n
  induction n with
  | zero => exact fun _ _ _ _ _ _ hf => hf.elim
  | succ n ih =>
    intro x1 x2 w H locs ls hf hR hl
    have hx := X.1
    have hb := X.2.1
    have hml := X.2.2.1
    have hown := X.2.2.2.1
    have hts := X.2.2.2.2.1
    rw [fX8_packDigits_L4] at hf
    refine lv_iload_n hx hb dX8_packDigits_4 rfl (lv_at hl 2 rfl) ?_
    refine lv_aload_n hx hb dX8_packDigits_5 rfl (lv_at hl 0 rfl) ?_
    refine z_getR X hR (zlit hR zf_24) zs_24 (by decide) zfd_X8_31 rfl dX8_packDigits_6 ?_
    obtain ⟨hn10, hf⟩ := hf
    have hn1 : al (gR w 24 9) ∧ zsh (gR w 24 9) = 0 := zwt_of hR (zlit hR zf_24) zs_24 rfl hn10 (zdc_of zs_24 rfl)
    rw [zrf_pos hn10]
    refine z_getI X hR hn1.1 hn1.2 (by decide) zfd_X8_75 rfl dX8_packDigits_9 ?_
    refine lv_icmp_ge (tgt := 49) hx hb dX8_packDigits_12 (by decide) (fun c2 => ?_) (fun c2 => ?_)
    · replace hf := hf.1 c2
      refine lv_iload_n hx hb dX8_packDigits_49 rfl (lv_at hl 1 rfl) ?_
      exact hQ _ _ _ _ _ _ hf hR dX8_packDigits_50
    · replace hf := hf.2 c2
      refine lv_iload_n hx hb dX8_packDigits_15 rfl (lv_at hl 2 rfl) ?_
      refine lv_iconst (v := (4 : Int32)) hx hb dX8_packDigits_16 (by decide) ?_
      refine lv_icmp_ge (tgt := 49) hx hb dX8_packDigits_17 (by decide) (fun c3 => ?_) (fun c3 => ?_)
      · replace hf := hf.1 c3
        refine lv_iload_n hx hb dX8_packDigits_49 rfl (lv_at hl 1 rfl) ?_
        exact hQ _ _ _ _ _ _ hf hR dX8_packDigits_50
      · replace hf := hf.2 c3
        refine lv_iload_n hx hb dX8_packDigits_20 rfl (lv_at hl 1 rfl) ?_
        refine lv_aload_n hx hb dX8_packDigits_21 rfl (lv_at hl 0 rfl) ?_
        refine z_getR X hR (zlit hR zf_24) zs_24 (by decide) zfd_X8_31 rfl dX8_packDigits_22 ?_
        rw [zrf_pos hn10]
        refine z_getS X hR hn1.1 hn1.2 (by decide) zfd_X8_78 rfl (r := (gR w 24 9) + 5) (zst_0 hn1.2 5 rfl) dX8_packDigits_25 ?_
        refine lv_iload_n hx hb dX8_packDigits_28 rfl (lv_at hl 2 rfl) ?_
        obtain ⟨hb4, hf⟩ := hf
        refine z_aald X hR (zoff hR hn1.2 zo_0_5).1 (zoff hR hn1.2 zo_0_5).2.1 (zoff hR hn1.2 zo_0_5).2.2 hb4 dX8_packDigits_29 ?_
        refine lv_aload_n hx hb dX8_packDigits_30 rfl (lv_at hl 0 rfl) ?_
        refine z_getS X hR (zlit hR zf_24) zs_24 (by decide) zfd_X8_28 rfl (r := 28) (by decide +kernel) dX8_packDigits_31 ?_
        refine lv_iload_n hx hb dX8_packDigits_34 rfl (lv_at hl 2 rfl) ?_
        refine z_iald X hR (zlit hR zf_28) zs_28 zl_28 hb4 dX8_packDigits_35 ?_
        obtain ⟨hb5, hf⟩ := hf
        refine z_iald X hR (zrow hR hn1.2 zr_0_5 hb4).1 (zrow hR hn1.2 zr_0_5 hb4).2.1 (zrow hR hn1.2 zr_0_5 hb4).2.2 hb5 dX8_packDigits_36 ?_
        refine lv_iconst (v := (4 : Int32)) hx hb dX8_packDigits_37 (by decide) ?_
        refine lv_iload_n hx hb dX8_packDigits_38 rfl (lv_at hl 2 rfl) ?_
        refine lv_imul hx hb dX8_packDigits_39 ?_
        refine lv_ishl hx hb dX8_packDigits_40 ?_
        refine lv_ior hx hb dX8_packDigits_41 ?_
        refine lv_topi (fun v6 hv6 => ?_)
        replace hf := hf v6 hv6
        refine lv_istore_n (lv' := [(1, .int v6), (0, .ref (ad 24)), (2, .int x2)]) hx hb dX8_packDigits_42 rfl hl (by decide) rfl (fun ls hl => ?_)
        refine lv_iinc (v := x2 + (1 : Int32)) (lv' := [(2, .int (x2 + (1 : Int32))), (1, .int v6), (0, .ref (ad 24))]) hx hb dX8_packDigits_43 hl (k := 2) rfl rfl (by decide) rfl (fun ls hl => ?_)
        refine lv_goto (tgt := 4) hx hb dX8_packDigits_46 (by decide) ?_
        exact ih v6 (x2 + (1 : Int32)) w _ _ _ hf hR (lv_sub hl [2, 1, 0] rfl)
def fX8_packDigits (w : zW) (k : Int32 → zW → Prop) : Prop :=
  ∃ n9, fX8_packDigits_L4 k n9 (0 : Int32) (0 : Int32) w
set_option maxHeartbeats 4000000 in
set_option maxRecDepth 100000 in
theorem mX8_packDigits {l : Launch} {D : va_G} {dA : Nat → ClassId} {ad : Nat → Nat} {al : Nat → Prop} {w : zW} {k : Int32 → zW → Prop}   (hf : fX8_packDigits w k) : zmetI l yX8_packDigits cX8_packDigits 3 (some .int) 0 [.ref (ad 24)] D dA true ad al w k := by
  refine zmetI_of (by decide) (Nat.le_of_ble_eq_true rfl) ?_
  intro p e R s m below meth c Q H ls args locs cells slots X hr hQ hR hl
  have hx := X.1
  have hb := X.2.1
  have hml := X.2.2.1
  have hown := X.2.2.2.1
  have hts := X.2.2.2.2.1
  unfold fX8_packDigits at hf
  have hl : lv_has ls 3 [(0, .ref (ad 24))] := hl
  refine lv_iconst (v := (0 : Int32)) hx hb dX8_packDigits_0 (by decide) ?_
  refine lv_istore_n (lv' := [(1, .int (0 : Int32)), (0, .ref (ad 24))]) hx hb dX8_packDigits_1 rfl hl (by decide) rfl (fun ls hl => ?_)
  refine lv_iconst (v := (0 : Int32)) hx hb dX8_packDigits_2 (by decide) ?_
  refine lv_istore_n (lv' := [(2, .int (0 : Int32)), (1, .int (0 : Int32)), (0, .ref (ad 24))]) hx hb dX8_packDigits_3 rfl hl (by decide) rfl (fun ls hl => ?_)
  obtain ⟨n9, hf⟩ := hf
  exact mX8_packDigits_L4 X hr hQ  n9 (0 : Int32) (0 : Int32) w _ _ _ hf hR (lv_sub hl [2, 1, 0] rfl)
/-! X8_lay -/
def fX8_lay_J134 (a1 : Nat) (k : zW → Prop) (mc ms : Nat)  (w : zW) : Prop :=
  ∀ w10 : zW, w10 = sI w 24 0 (0 : Int32) →
  k w10
set_option maxHeartbeats 4000000 in
set_option maxRecDepth 100000 in
theorem mX8_lay_J134 {k : zW → Prop} {a1 : Nat} (X : zCx p s m args meth c cX8_lay 5 RX8 none) (hQ : zRetAV p l e R s m args below meth c Q D dA true ad0 al0 cX8_lay k)  {cells slots mc ms : Nat}  {ad : Nat → Nat} {al : Nat → Prop} {w : zW} {H : Heap} {locs : List Loc} {ls : Array Slot} (ha1 : al a1 ∧ zsh a1 = 0) (hf : fX8_lay_J134 a1 k mc ms  w) (hX : zExt ad0 al0 ad al) (hr : zRm R 2 (cells + mc) (slots + ms)) (hR : zSt D dA true ad0 al0 ad al w s H locs) (hl : lv_has ls 5 [(0, .ref (ad 24))]) : W p l e R s m args below meth c H locs cells slots Q (F0 m 134 ls []) := by
  have hx := X.1
  have hb := X.2.1
  have hml := X.2.2.1
  have hown := X.2.2.2.1
  have hts := X.2.2.2.2.1
  unfold fX8_lay_J134 at hf
  refine lv_aload_n hx hb dX8_lay_134 rfl (lv_at hl 0 rfl) ?_
  refine lv_iconst (v := (0 : Int32)) hx hb dX8_lay_135 (by decide) ?_
  refine z_putZ X hR (zlit hR zf_24) zs_24 (by decide) zfp_X8_9 rfl zb01_0 dX8_lay_136 (fun H locs hR => ?_)
  obtain ⟨w10, hw10⟩ : ∃ z : zW, z = sI w 24 0 (0 : Int32) := ⟨_, rfl⟩
  rw [← hw10] at hR
  replace hf := hf w10 hw10
  exact hQ _ _ _ _ _ _ _ _ _ hX (by have := hr.2.2.1; omega) (by have := hr.2.2.2; omega) hf hR dX8_lay_139
def fX8_lay_J124 (a1 : Nat) (k : zW → Prop) (g41 : Nat → Nat → Int32 → zW → Prop) (mc ms : Nat) (x2 : Int32) (w : zW) : Prop :=
  fX8_nextDigits  w (fun w20 =>
  g41 mc ms (x2 + (1 : Int32)) w20)
set_option maxHeartbeats 4000000 in
set_option maxRecDepth 100000 in
theorem mX8_lay_J124 {k : zW → Prop} {g41 : Nat → Nat → Int32 → zW → Prop} {a1 : Nat} (X : zCx p s m args meth c cX8_lay 5 RX8 none) (hQ : zRetAV p l e R s m args below meth c Q D dA true ad0 al0 cX8_lay k) (hg41 : ∀ (cells slots mc ms : Nat) (x2 : Int32) (ad : Nat → Nat) (al : Nat → Prop) (w : zW) (H : Heap) (locs : List Loc) (ls : Array Slot) (ha1 : al a1 ∧ zsh a1 = 0), g41 mc ms x2 w → zExt ad0 al0 ad al → zRm R 2 (cells + mc) (slots + ms) → zSt D dA true ad0 al0 ad al w s H locs → lv_has ls 5 [(0, .ref (ad 24)), (2, .int x2)] → W p l e R s m args below meth c H locs cells slots Q (F0 m 41 ls [])) {cells slots mc ms : Nat} {x2 : Int32} {ad : Nat → Nat} {al : Nat → Prop} {w : zW} {H : Heap} {locs : List Loc} {ls : Array Slot} (ha1 : al a1 ∧ zsh a1 = 0) (hf : fX8_lay_J124 a1 k g41 mc ms x2 w) (hX : zExt ad0 al0 ad al) (hr : zRm R 2 (cells + mc) (slots + ms)) (hR : zSt D dA true ad0 al0 ad al w s H locs) (hl : lv_has ls 5 [(0, .ref (ad 24)), (2, .int x2)]) : W p l e R s m args below meth c H locs cells slots Q (F0 m 124 ls []) := by
  have hx := X.1
  have hb := X.2.1
  have hml := X.2.2.1
  have hown := X.2.2.2.1
  have hts := X.2.2.2.2.1
  unfold fX8_lay_J124 at hf
  refine lv_aload_n hx hb dX8_lay_124 rfl (lv_at hl 0 rfl) ?_
  refine z_callVV (fr1 := 1) (b := 24) (As := []) (rest := []) X (hr.none (by decide)) hR zy_X8_nextDigits zq_1013 (zlit hR zf_24) (by rw [zs_24]; rfl) rfl (mX8_nextDigits  hf) rfl hl (Nat.le_of_ble_eq_true rfl) dX8_lay_125 rfl (fun w20 H locs hf hR => ?_)
  refine lv_iinc (v := x2 + (1 : Int32)) (lv' := [(2, .int (x2 + (1 : Int32))), (0, .ref (ad 24))]) hx hb dX8_lay_128 hl (k := 1) rfl rfl (by decide) rfl (fun ls hl => ?_)
  refine lv_goto (tgt := 41) hx hb dX8_lay_131 (by decide) ?_
  exact hg41 _ _ _ _ (x2 + (1 : Int32)) _ _ w20 _ _ _ ha1 hf hX hr hR (lv_sub hl [1, 0] rfl)
def fX8_lay_L41 (a1 : Nat) (k : zW → Prop) : Nat → Nat → Nat → Int32 → zW → Prop
  | 0 => fun _ _ _ _ => False
  | n + 1 => fun mc ms x2 w =>
    (((gI w 24 2) ≤ x2 →
      fX8_lay_J134 a1 k mc ms  w) ∧
     (¬ (gI w 24 2) ≤ x2 →
      ¬ gR w 24 4 = 0 ∧
      (((Int32.ofNat (zln (gR w 24 4))) ≤ x2 →
        fX8_lay_J134 a1 k mc ms  w) ∧
       (¬ (Int32.ofNat (zln (gR w 24 4))) ≤ x2 →
        fX8_packDigits  w (fun r13 w13 =>
        ¬ gR w13 24 9 = 0 ∧
        fX0_rowsDown (gR w13 24 9) r13 (2 : Int32) w13 (fun r15 w15 =>
        ¬ gR w15 24 4 = 0 ∧
        vp_in x2 (zln (gR w15 24 4)) ∧ 
        ∀ w18 : zW, w18 = sI w15 (gR w15 24 4) x2.toNatClampNeg (r13 ||| (r15 <<< ((16 : Int32) &&& 31))) →
        ((¬ r15 = 0 →
          fX8_lay_J124 a1 k (fX8_lay_L41 a1 k n) mc ms x2 w18) ∧
         (r15 = 0 →
          ¬ gR w18 24 6 = 0 ∧
          (((Int32.ofNat (zln (gR w18 24 6))) ≤ (gI w18 24 7) →
            fX8_lay_J124 a1 k (fX8_lay_L41 a1 k n) mc ms x2 w18) ∧
           (¬ (Int32.ofNat (zln (gR w18 24 6))) ≤ (gI w18 24 7) →
            vp_in (gI w18 24 7) (zln (gR w18 24 6)) ∧ 
            ∀ w24 : zW, w24 = sI w18 (gR w18 24 6) (gI w18 24 7).toNatClampNeg r13 →
            ∀ w25 : zW, w25 = sI w24 24 7 ((gI w24 24 7) + (1 : Int32)) →
            fX8_lay_J124 a1 k (fX8_lay_L41 a1 k n) mc ms x2 w25))))))))))
set_option maxHeartbeats 4000000 in
set_option maxRecDepth 100000 in
theorem mX8_lay_L41 {k : zW → Prop} {a1 : Nat} (X : zCx p s m args meth c cX8_lay 5 RX8 none) (hQ : zRetAV p l e R s m args below meth c Q D dA true ad0 al0 cX8_lay k)  : ∀ (n cells slots mc ms : Nat) (x2 : Int32) (ad : Nat → Nat) (al : Nat → Prop) (w : zW) (H : Heap) (locs : List Loc) (ls : Array Slot) (ha1 : al a1 ∧ zsh a1 = 0), fX8_lay_L41 a1 k n mc ms x2 w → zExt ad0 al0 ad al → zRm R 2 (cells + mc) (slots + ms) → zSt D dA true ad0 al0 ad al w s H locs → lv_has ls 5 [(0, .ref (ad 24)), (2, .int x2)] → W p l e R s m args below meth c H locs cells slots Q (F0 m 41 ls []) := by
  intro n
  induction n with
  | zero => exact fun _ _ _ _ _ _ _ _ _ _ _ _ hf => hf.elim
  | succ n ih =>
    intro cells slots mc ms x2 ad al w H locs ls ha1 hf hX hr hR hl
    have hx := X.1
    have hb := X.2.1
    have hml := X.2.2.1
    have hown := X.2.2.2.1
    have hts := X.2.2.2.2.1
    rw [fX8_lay_L41] at hf
    refine lv_iload_n hx hb dX8_lay_41 rfl (lv_at hl 1 rfl) ?_
    refine lv_aload_n hx hb dX8_lay_42 rfl (lv_at hl 0 rfl) ?_
    refine z_getI X hR (zlit hR zf_24) zs_24 (by decide) zfd_X8_47 rfl dX8_lay_43 ?_
    refine lv_icmp_ge (tgt := 134) hx hb dX8_lay_46 (by decide) (fun c9 => ?_) (fun c9 => ?_)
    · replace hf := hf.1 c9
      exact mX8_lay_J134 X hQ  ha1 hf hX hr hR (lv_sub hl [0] rfl)
    · replace hf := hf.2 c9
      refine lv_iload_n hx hb dX8_lay_49 rfl (lv_at hl 1 rfl) ?_
      refine lv_aload_n hx hb dX8_lay_50 rfl (lv_at hl 0 rfl) ?_
      refine z_getR X hR (zlit hR zf_24) zs_24 (by decide) zfd_X8_18 rfl dX8_lay_51 ?_
      obtain ⟨hn110, hf⟩ := hf
      have hn11 : al (gR w 24 4) ∧ zsh (gR w 24 4) = 20 := zwt_of hR (zlit hR zf_24) zs_24 rfl hn110 (zdc_of zs_24 rfl)
      rw [zrf_pos hn110]
      refine z_alen X hR hn11.1 hn11.2 (by decide) (by decide) rfl (v := Int32.ofNat (zln (gR w 24 4))) rfl dX8_lay_54 ?_
      refine lv_icmp_ge (tgt := 134) hx hb dX8_lay_55 (by decide) (fun c12 => ?_) (fun c12 => ?_)
      · replace hf := hf.1 c12
        exact mX8_lay_J134 X hQ  ha1 hf hX hr hR (lv_sub hl [0] rfl)
      · replace hf := hf.2 c12
        refine lv_aload_n hx hb dX8_lay_58 rfl (lv_at hl 0 rfl) ?_
        refine z_callVI (fr1 := 0) (b := 24) (As := []) (rest := []) X (hr.none (by decide)) hR zy_X8_packDigits zq_988 (zlit hR zf_24) (by rw [zs_24]; rfl) rfl (mX8_packDigits  hf) rfl hl (Nat.le_of_ble_eq_true rfl) dX8_lay_59 rfl (fun r13 w13 H locs hf hR => ?_)
        refine lv_istore_n (lv' := [(3, .int r13), (0, .ref (ad 24)), (2, .int x2)]) hx hb dX8_lay_62 rfl hl (by decide) rfl (fun ls hl => ?_)
        refine lv_aload_n hx hb dX8_lay_63 rfl (lv_at hl 1 rfl) ?_
        refine z_getR X hR (zlit hR zf_24) zs_24 (by decide) zfd_X8_31 rfl dX8_lay_64 ?_
        obtain ⟨hn140, hf⟩ := hf
        have hn14 : al (gR w13 24 9) ∧ zsh (gR w13 24 9) = 0 := zwt_of hR (zlit hR zf_24) zs_24 rfl hn140 (zdc_of zs_24 rfl)
        rw [zrf_pos hn140]
        refine lv_iload_n hx hb dX8_lay_67 rfl (lv_at hl 0 rfl) ?_
        refine lv_iconst (v := (2 : Int32)) hx hb dX8_lay_68 (by decide) ?_
        refine z_callVI (fr1 := 1) (b := (gR w13 24 9)) (As := [.int r13, .int (2 : Int32)]) (rest := []) X (hr.none (by decide)) hR zy_X0_rowsDown zq_994 hn14.1 (by rw [hn14.2]; rfl) rfl (mX0_rowsDown ⟨hn14.1, hn14.2⟩ hf) rfl hl (Nat.le_of_ble_eq_true rfl) dX8_lay_69 rfl (fun r15 w15 H locs hf hR => ?_)
        refine lv_istore (lv' := [(4, .int r15), (3, .int r13), (0, .ref (ad 24)), (2, .int x2)]) hx hb dX8_lay_72 hl (by decide) rfl (fun ls hl => ?_)
        refine lv_aload_n hx hb dX8_lay_74 rfl (lv_at hl 2 rfl) ?_
        refine z_getR X hR (zlit hR zf_24) zs_24 (by decide) zfd_X8_18 rfl dX8_lay_75 ?_
        obtain ⟨hn160, hf⟩ := hf
        have hn16 : al (gR w15 24 4) ∧ zsh (gR w15 24 4) = 20 := zwt_of hR (zlit hR zf_24) zs_24 rfl hn160 (zdc_of zs_24 rfl)
        rw [zrf_pos hn160]
        refine lv_iload_n hx hb dX8_lay_78 rfl (lv_at hl 3 rfl) ?_
        refine lv_iload_n hx hb dX8_lay_79 rfl (lv_at hl 1 rfl) ?_
        refine lv_iload hx hb dX8_lay_80 (lv_at hl 0 rfl) ?_
        refine lv_bipush (v := (16 : Int32)) hx hb dX8_lay_82 (by decide) ?_
        refine lv_ishl hx hb dX8_lay_84 ?_
        refine lv_ior hx hb dX8_lay_85 ?_
        obtain ⟨hb17, hf⟩ := hf
        refine z_iast X hR hn16.1 hn16.2 rfl hb17 dX8_lay_86 (fun H locs hR => ?_)
        obtain ⟨w18, hw18⟩ : ∃ z : zW, z = sI w15 (gR w15 24 4) x2.toNatClampNeg (r13 ||| (r15 <<< ((16 : Int32) &&& 31))) := ⟨_, rfl⟩
        rw [← hw18] at hR
        replace hf := hf w18 hw18
        refine lv_iload hx hb dX8_lay_87 (lv_at hl 0 rfl) ?_
        refine lv_if_ne (tgt := 124) hx hb dX8_lay_89 (by decide) (fun c19 => ?_) (fun c19 => ?_)
        · replace hf := hf.1 c19
          exact mX8_lay_J124 X hQ ih ha1 hf hX hr hR (lv_sub hl [2, 3] rfl)
        · replace hf := hf.2 c19
          refine lv_aload_n hx hb dX8_lay_92 rfl (lv_at hl 2 rfl) ?_
          refine z_getI X hR (zlit hR zf_24) zs_24 (by decide) zfd_X8_51 rfl dX8_lay_93 ?_
          refine lv_aload_n hx hb dX8_lay_96 rfl (lv_at hl 2 rfl) ?_
          refine z_getR X hR (zlit hR zf_24) zs_24 (by decide) zfd_X8_25 rfl dX8_lay_97 ?_
          obtain ⟨hn210, hf⟩ := hf
          have hn21 : al (gR w18 24 6) ∧ zsh (gR w18 24 6) = 20 := zwt_of hR (zlit hR zf_24) zs_24 rfl hn210 (zdc_of zs_24 rfl)
          rw [zrf_pos hn210]
          refine z_alen X hR hn21.1 hn21.2 (by decide) (by decide) rfl (v := Int32.ofNat (zln (gR w18 24 6))) rfl dX8_lay_100 ?_
          refine lv_icmp_ge (tgt := 124) hx hb dX8_lay_101 (by decide) (fun c22 => ?_) (fun c22 => ?_)
          · replace hf := hf.1 c22
            exact mX8_lay_J124 X hQ ih ha1 hf hX hr hR (lv_sub hl [2, 3] rfl)
          · replace hf := hf.2 c22
            refine lv_aload_n hx hb dX8_lay_104 rfl (lv_at hl 2 rfl) ?_
            refine z_getR X hR (zlit hR zf_24) zs_24 (by decide) zfd_X8_25 rfl dX8_lay_105 ?_
            rw [zrf_pos hn210]
            refine lv_aload_n hx hb dX8_lay_108 rfl (lv_at hl 2 rfl) ?_
            refine z_getI X hR (zlit hR zf_24) zs_24 (by decide) zfd_X8_51 rfl dX8_lay_109 ?_
            refine lv_iload_n hx hb dX8_lay_112 rfl (lv_at hl 1 rfl) ?_
            obtain ⟨hb23, hf⟩ := hf
            refine z_iast X hR hn21.1 hn21.2 rfl hb23 dX8_lay_113 (fun H locs hR => ?_)
            obtain ⟨w24, hw24⟩ : ∃ z : zW, z = sI w18 (gR w18 24 6) (gI w18 24 7).toNatClampNeg r13 := ⟨_, rfl⟩
            rw [← hw24] at hR
            replace hf := hf w24 hw24
            refine lv_aload_n hx hb dX8_lay_114 rfl (lv_at hl 2 rfl) ?_
            refine lv_dup hx hb dX8_lay_115 rfl ?_
            refine z_getI X hR (zlit hR zf_24) zs_24 (by decide) zfd_X8_51 rfl dX8_lay_116 ?_
            refine lv_iconst (v := (1 : Int32)) hx hb dX8_lay_119 (by decide) ?_
            refine lv_iadd hx hb dX8_lay_120 ?_
            refine z_putI X hR (zlit hR zf_24) zs_24 (by decide) zfp_X8_51 rfl dX8_lay_121 (fun H locs hR => ?_)
            obtain ⟨w25, hw25⟩ : ∃ z : zW, z = sI w24 24 7 ((gI w24 24 7) + (1 : Int32)) := ⟨_, rfl⟩
            rw [← hw25] at hR
            replace hf := hf w25 hw25
            exact mX8_lay_J124 X hQ ih ha1 hf hX hr hR (lv_sub hl [2, 3] rfl)
def fX8_lay (mc ms : Nat) (a1 : Nat) (w : zW) (k : zW → Prop) : Prop :=
  ∀ w1 : zW, w1 = sR w 24 9 a1 →
  ¬ gR w1 24 9 = 0 ∧
  fX0_dictionaries (gR w1 24 9) w1 (fun r3 w3 =>
  ∀ v4 : Int32, v4 = (if (6561 : Int32) < r3 then (6561 : Int32) else r3) →
  ∀ w5 : zW, w5 = sI w3 24 2 v4 →
  ∀ w6 : zW, w6 = sI w5 24 7 (0 : Int32) →
  ∃ c7 s7, c7 ≤ mc ∧ s7 ≤ ms ∧ fX8_makeRoom c7 s7  w6 (fun w7 =>
  fJ7_fill_53178 28 (0 : Int32) w7 (fun w8 =>
  ∃ n9, fX8_lay_L41 a1 k n9 (mc - c7) (ms - s7) (0 : Int32) w8)))
set_option maxHeartbeats 4000000 in
set_option maxRecDepth 100000 in
theorem mX8_lay {l : Launch} {D : va_G} {dA : Nat → ClassId} {ad : Nat → Nat} {al : Nat → Prop} {w : zW} {mc ms : Nat} {k : zW → Prop} {a1 : Nat} (ha1 : al a1 ∧ zsh a1 = 0) (hf : fX8_lay mc ms a1 w k) : zmetAV l yX8_lay cX8_lay 5 none 2 mc ms [.ref (ad 24), .ref (ad a1)] D dA true ad al w k := by
  refine zmetAV_of (by decide) (Nat.le_of_ble_eq_true rfl) ?_
  intro p e R s m below meth c Q H ls args locs cells slots X hr hQ hR hl
  have hx := X.1
  have hb := X.2.1
  have hml := X.2.2.1
  have hown := X.2.2.2.1
  have hts := X.2.2.2.2.1
  unfold fX8_lay at hf
  have hl : lv_has ls 5 [(0, .ref (ad 24)), (1, .ref (ad a1))] := hl
  have hX : zExt ad al ad al := zExt.rf
  refine lv_aload_n hx hb dX8_lay_0 rfl (lv_at hl 0 rfl) ?_
  refine lv_aload_n hx hb dX8_lay_1 rfl (lv_at hl 1 rfl) ?_
  refine z_putR X hR (zlit hR zf_24) zs_24 (by decide) zfp_X8_31 rfl rfl (zne0 ha1.2 (by decide)) ha1.1 (by rw [zdc_of zs_24 rfl]; exact ha1.2) dX8_lay_2 (fun H locs hR => ?_)
  obtain ⟨w1, hw1⟩ : ∃ z : zW, z = sR w 24 9 a1 := ⟨_, rfl⟩
  rw [← hw1] at hR
  replace hf := hf w1 hw1
  refine lv_aload_n hx hb dX8_lay_5 rfl (lv_at hl 0 rfl) ?_
  refine lv_aload_n hx hb dX8_lay_6 rfl (lv_at hl 0 rfl) ?_
  refine z_getR X hR (zlit hR zf_24) zs_24 (by decide) zfd_X8_31 rfl dX8_lay_7 ?_
  obtain ⟨hn20, hf⟩ := hf
  have hn2 : al (gR w1 24 9) ∧ zsh (gR w1 24 9) = 0 := zwt_of hR (zlit hR zf_24) zs_24 rfl hn20 (zdc_of zs_24 rfl)
  rw [zrf_pos hn20]
  refine z_callVI (fr1 := 0) (b := (gR w1 24 9)) (As := []) (rest := [.ref (ad 24)]) X (hr.none (by decide)) hR zy_X0_dictionaries zq_978 hn2.1 (by rw [hn2.2]; rfl) rfl (mX0_dictionaries ⟨hn2.1, hn2.2⟩ hf) rfl hl (Nat.le_of_ble_eq_true rfl) dX8_lay_10 rfl (fun r3 w3 H locs hf hR => ?_)
  refine lv_sipush (v := (6561 : Int32)) hx hb dX8_lay_13 (by decide) ?_
  refine va_mmin (rest := [.ref (ad 24)]) hx hb (by rw [hml]; exact hl.1.symm) hown (hts _ zq_975) (hts _ zq_339) (hts _ zq_336) (hts _ zq_340) (by have := hr.1; omega) (by have := hr.2.1; show (List.sum [(.ref (ad 24) : Value).category]) + 13 ≤ R.locals; simp only [List.sum_cons, List.sum_nil, Value.category]; omega) (hr.none (Nat.zero_le _)).2.2.1 (hr.none (Nat.zero_le _)).2.2.2 dX8_lay_16 ?_
  refine lv_topi (fun v4 hv4 => ?_)
  replace hf := hf v4 hv4
  refine z_putI X hR (zlit hR zf_24) zs_24 (by decide) zfp_X8_47 rfl dX8_lay_19 (fun H locs hR => ?_)
  obtain ⟨w5, hw5⟩ : ∃ z : zW, z = sI w3 24 2 v4 := ⟨_, rfl⟩
  rw [← hw5] at hR
  replace hf := hf w5 hw5
  refine lv_aload_n hx hb dX8_lay_22 rfl (lv_at hl 0 rfl) ?_
  refine lv_iconst (v := (0 : Int32)) hx hb dX8_lay_23 (by decide) ?_
  refine z_putI X hR (zlit hR zf_24) zs_24 (by decide) zfp_X8_51 rfl dX8_lay_24 (fun H locs hR => ?_)
  obtain ⟨w6, hw6⟩ : ∃ z : zW, z = sI w5 24 7 (0 : Int32) := ⟨_, rfl⟩
  rw [← hw6] at hR
  replace hf := hf w6 hw6
  refine lv_aload_n hx hb dX8_lay_27 rfl (lv_at hl 0 rfl) ?_
  have hw7_1 : al 24 := (zlit hR zf_24)
  have hw7_2 : al a1 := ha1.1
  have hv7_1 : al 24 := (zlit hR zf_24)
  obtain ⟨c7, s7, hc7, hs7, hf⟩ := hf
  refine z_callAVV (fr1 := 1) (mc := c7) (ms := s7) (b := 24) (As := []) (rest := []) X (hr.call hc7 hs7 (by decide)) hR zy_X8_makeRoom zq_982 (zlit hR zf_24) (by rw [zs_24]; rfl) rfl (mX8_makeRoom  hf) rfl hl (Nat.le_of_ble_eq_true rfl) dX8_lay_28 rfl (fun w7 H locs ad7 al7 hf hE7 hR => ?_)
  have hX := hX.tr hE7
  have hr := hr.after hc7 hs7
  have ha1 : al7 a1 ∧ zsh a1 = 0 := ⟨(hE7 _ ha1.1).1, ha1.2⟩
  have hn2 := And.intro (hE7 _ hn2.1).1 hn2.2
  rw [← (hE7 24 hw7_1).2] at hl
  rw [← (hE7 a1 hw7_2).2] at hl
  refine lv_aload_n hx hb dX8_lay_31 rfl (lv_at hl 0 rfl) ?_
  refine z_getS X hR (zlit hR zf_24) zs_24 (by decide) zfd_X8_28 rfl (r := 28) (by decide +kernel) dX8_lay_32 ?_
  refine lv_iconst (v := (0 : Int32)) hx hb dX8_lay_35 (by decide) ?_
  refine z_callSV (fr1 := 0) (As := [.ref (ad7 28), .int (0 : Int32)]) (rest := []) X (hr.none (by decide)) hR zy_J7_fill_53178 zq_987 (mJ7_fill_53178 ⟨(zlit hR zf_28), zs_28⟩ hf) rfl hl (Nat.le_of_ble_eq_true rfl) dX8_lay_36 rfl (fun w8 H locs hf hR => ?_)
  refine lv_iconst (v := (0 : Int32)) hx hb dX8_lay_39 (by decide) ?_
  refine lv_istore_n (lv' := [(2, .int (0 : Int32)), (0, .ref (ad7 24)), (1, .ref (ad7 a1))]) hx hb dX8_lay_40 rfl hl (by decide) rfl (fun ls hl => ?_)
  obtain ⟨n9, hf⟩ := hf
  exact mX8_lay_L41 X hQ  n9 _ _ _ _ (0 : Int32) _ _ w8 _ _ _ ha1 hf hX hr hR (lv_sub hl [1, 0] rfl)
/-! X8_choose -/
def fX8_choose_J84 (a1 : Nat) (k : zW → Prop)  (w : zW) : Prop :=
  ∀ w3 : zW, w3 = sI w 24 1 (0 : Int32) →
  k w3
set_option maxHeartbeats 4000000 in
set_option maxRecDepth 100000 in
theorem mX8_choose_J84 {k : zW → Prop} {a1 : Nat} (X : zCx p s m args meth c cX8_choose 3 RX8 none) (hr : zRm R 3 cells slots) (hQ : zRetV p l e R s m args below meth c cells slots Q D dA true ad0 al0 ad al cX8_choose k) (ha1 : al a1 ∧ zsh a1 = 3)   {w : zW} {H : Heap} {locs : List Loc} {ls : Array Slot} (hf : fX8_choose_J84 a1 k  w) (hR : zSt D dA true ad0 al0 ad al w s H locs) (hl : lv_has ls 3 [(0, .ref (ad 24))]) : W p l e R s m args below meth c H locs cells slots Q (F0 m 84 ls []) := by
  have hx := X.1
  have hb := X.2.1
  have hml := X.2.2.1
  have hown := X.2.2.2.1
  have hts := X.2.2.2.2.1
  unfold fX8_choose_J84 at hf
  refine lv_aload_n hx hb dX8_choose_84 rfl (lv_at hl 0 rfl) ?_
  refine lv_iconst (v := (0 : Int32)) hx hb dX8_choose_85 (by decide) ?_
  refine z_putZ X hR (zlit hR zf_24) zs_24 (by decide) zfp_X8_15 rfl zb01_0 dX8_choose_86 (fun H locs hR => ?_)
  obtain ⟨w3, hw3⟩ : ∃ z : zW, z = sI w 24 1 (0 : Int32) := ⟨_, rfl⟩
  rw [← hw3] at hR
  replace hf := hf w3 hw3
  exact hQ _ _ _ _ _ hf hR dX8_choose_89
def fX8_choose_L7 (a1 : Nat) (k : zW → Prop) : Nat → Int32 → zW → Prop
  | 0 => fun _ _ => False
  | n + 1 => fun x2 w =>
    (((gI w 24 7) ≤ x2 →
      fX8_choose_J84 a1 k  w) ∧
     (¬ (gI w 24 7) ≤ x2 →
      ¬ gR w 24 6 = 0 ∧
      (((Int32.ofNat (zln (gR w 24 6))) ≤ x2 →
        fX8_choose_J84 a1 k  w) ∧
       (¬ (Int32.ofNat (zln (gR w 24 6))) ≤ x2 →
        vp_in x2 (zln (gR w 24 6)) ∧ 
        ¬ gR w 24 9 = 0 ∧
        fX3_agrees a1 (gR w 24 9) (gI w (gR w 24 6) x2.toNatClampNeg) w (fun r8 w8 =>
        ((r8 = 0 →
          fX8_choose_L7 a1 k n (x2 + (1 : Int32)) w8) ∧
         (¬ r8 = 0 →
          ¬ gR w8 24 5 = 0 ∧
          (((Int32.ofNat (zln (gR w8 24 5))) ≤ (gI w8 24 3) →
            fX8_choose_L7 a1 k n (x2 + (1 : Int32)) w8) ∧
           (¬ (Int32.ofNat (zln (gR w8 24 5))) ≤ (gI w8 24 3) →
            ¬ gR w8 24 6 = 0 ∧
            vp_in x2 (zln (gR w8 24 6)) ∧ 
            vp_in (gI w8 24 3) (zln (gR w8 24 5)) ∧ 
            ∀ w15 : zW, w15 = sI w8 (gR w8 24 5) (gI w8 24 3).toNatClampNeg (gI w8 (gR w8 24 6) x2.toNatClampNeg) →
            ∀ w16 : zW, w16 = sI w15 24 3 ((gI w15 24 3) + (1 : Int32)) →
            fX8_choose_L7 a1 k n (x2 + (1 : Int32)) w16)))))))))
set_option maxHeartbeats 4000000 in
set_option maxRecDepth 100000 in
theorem mX8_choose_L7 {k : zW → Prop} {a1 : Nat} (X : zCx p s m args meth c cX8_choose 3 RX8 none) (hr : zRm R 3 cells slots) (hQ : zRetV p l e R s m args below meth c cells slots Q D dA true ad0 al0 ad al cX8_choose k) (ha1 : al a1 ∧ zsh a1 = 3)  : ∀ (n : Nat) (x2 : Int32) (w : zW) (H : Heap) (locs : List Loc) (ls : Array Slot), fX8_choose_L7 a1 k n x2 w → zSt D dA true ad0 al0 ad al w s H locs → lv_has ls 3 [(0, .ref (ad 24)), (1, .ref (ad a1)), (2, .int x2)] → W p l e R s m args below meth c H locs cells slots Q (F0 m 7 ls []) := by
  intro n
  induction n with
  | zero => exact fun _ _ _ _ _ hf => hf.elim
  | succ n ih =>
    intro x2 w H locs ls hf hR hl
    have hx := X.1
    have hb := X.2.1
    have hml := X.2.2.1
    have hown := X.2.2.2.1
    have hts := X.2.2.2.2.1
    rw [fX8_choose_L7] at hf
    refine lv_iload_n hx hb dX8_choose_7 rfl (lv_at hl 2 rfl) ?_
    refine lv_aload_n hx hb dX8_choose_8 rfl (lv_at hl 0 rfl) ?_
    refine z_getI X hR (zlit hR zf_24) zs_24 (by decide) zfd_X8_51 rfl dX8_choose_9 ?_
    refine lv_icmp_ge (tgt := 84) hx hb dX8_choose_12 (by decide) (fun c2 => ?_) (fun c2 => ?_)
    · replace hf := hf.1 c2
      exact mX8_choose_J84 X hr hQ ha1  hf hR (lv_sub hl [0] rfl)
    · replace hf := hf.2 c2
      refine lv_iload_n hx hb dX8_choose_15 rfl (lv_at hl 2 rfl) ?_
      refine lv_aload_n hx hb dX8_choose_16 rfl (lv_at hl 0 rfl) ?_
      refine z_getR X hR (zlit hR zf_24) zs_24 (by decide) zfd_X8_25 rfl dX8_choose_17 ?_
      obtain ⟨hn40, hf⟩ := hf
      have hn4 : al (gR w 24 6) ∧ zsh (gR w 24 6) = 20 := zwt_of hR (zlit hR zf_24) zs_24 rfl hn40 (zdc_of zs_24 rfl)
      rw [zrf_pos hn40]
      refine z_alen X hR hn4.1 hn4.2 (by decide) (by decide) rfl (v := Int32.ofNat (zln (gR w 24 6))) rfl dX8_choose_20 ?_
      refine lv_icmp_ge (tgt := 84) hx hb dX8_choose_21 (by decide) (fun c5 => ?_) (fun c5 => ?_)
      · replace hf := hf.1 c5
        exact mX8_choose_J84 X hr hQ ha1  hf hR (lv_sub hl [0] rfl)
      · replace hf := hf.2 c5
        refine lv_aload_n hx hb dX8_choose_24 rfl (lv_at hl 1 rfl) ?_
        refine lv_aload_n hx hb dX8_choose_25 rfl (lv_at hl 0 rfl) ?_
        refine z_getR X hR (zlit hR zf_24) zs_24 (by decide) zfd_X8_25 rfl dX8_choose_26 ?_
        rw [zrf_pos hn40]
        refine lv_iload_n hx hb dX8_choose_29 rfl (lv_at hl 2 rfl) ?_
        obtain ⟨hb6, hf⟩ := hf
        refine z_iald X hR hn4.1 hn4.2 rfl hb6 dX8_choose_30 ?_
        refine lv_aload_n hx hb dX8_choose_31 rfl (lv_at hl 0 rfl) ?_
        refine z_getR X hR (zlit hR zf_24) zs_24 (by decide) zfd_X8_31 rfl dX8_choose_32 ?_
        obtain ⟨hn70, hf⟩ := hf
        have hn7 : al (gR w 24 9) ∧ zsh (gR w 24 9) = 0 := zwt_of hR (zlit hR zf_24) zs_24 rfl hn70 (zdc_of zs_24 rfl)
        rw [zrf_pos hn70]
        refine z_callVI (fr1 := 2) (b := a1) (As := [.int (gI w (gR w 24 6) x2.toNatClampNeg), .ref (ad (gR w 24 9))]) (rest := []) X (hr.le (by decide)) hR zy_X3_agrees zq_1030 ha1.1 (by rw [ha1.2]; rfl) rfl (mX3_agrees ⟨ha1.1, ha1.2⟩ ⟨hn7.1, hn7.2⟩ hf) rfl hl (Nat.le_of_ble_eq_true rfl) dX8_choose_35 rfl (fun r8 w8 H locs hf hR => ?_)
        refine lv_if_eq (tgt := 78) hx hb dX8_choose_38 (by decide) (fun c9 => ?_) (fun c9 => ?_)
        · replace hf := hf.1 c9
          refine lv_iinc (v := x2 + (1 : Int32)) (lv' := [(2, .int (x2 + (1 : Int32))), (0, .ref (ad 24)), (1, .ref (ad a1))]) hx hb dX8_choose_78 hl (k := 2) rfl rfl (by decide) rfl (fun ls hl => ?_)
          refine lv_goto (tgt := 7) hx hb dX8_choose_81 (by decide) ?_
          exact ih (x2 + (1 : Int32)) w8 _ _ _ hf hR (lv_sub hl [1, 2, 0] rfl)
        · replace hf := hf.2 c9
          refine lv_aload_n hx hb dX8_choose_41 rfl (lv_at hl 0 rfl) ?_
          refine z_getI X hR (zlit hR zf_24) zs_24 (by decide) zfd_X8_85 rfl dX8_choose_42 ?_
          refine lv_aload_n hx hb dX8_choose_45 rfl (lv_at hl 0 rfl) ?_
          refine z_getR X hR (zlit hR zf_24) zs_24 (by decide) zfd_X8_22 rfl dX8_choose_46 ?_
          obtain ⟨hn100, hf⟩ := hf
          have hn10 : al (gR w8 24 5) ∧ zsh (gR w8 24 5) = 20 := zwt_of hR (zlit hR zf_24) zs_24 rfl hn100 (zdc_of zs_24 rfl)
          rw [zrf_pos hn100]
          refine z_alen X hR hn10.1 hn10.2 (by decide) (by decide) rfl (v := Int32.ofNat (zln (gR w8 24 5))) rfl dX8_choose_49 ?_
          refine lv_icmp_ge (tgt := 78) hx hb dX8_choose_50 (by decide) (fun c11 => ?_) (fun c11 => ?_)
          · replace hf := hf.1 c11
            refine lv_iinc (v := x2 + (1 : Int32)) (lv' := [(2, .int (x2 + (1 : Int32))), (0, .ref (ad 24)), (1, .ref (ad a1))]) hx hb dX8_choose_78 hl (k := 2) rfl rfl (by decide) rfl (fun ls hl => ?_)
            refine lv_goto (tgt := 7) hx hb dX8_choose_81 (by decide) ?_
            exact ih (x2 + (1 : Int32)) w8 _ _ _ hf hR (lv_sub hl [1, 2, 0] rfl)
          · replace hf := hf.2 c11
            refine lv_aload_n hx hb dX8_choose_53 rfl (lv_at hl 0 rfl) ?_
            refine z_getR X hR (zlit hR zf_24) zs_24 (by decide) zfd_X8_22 rfl dX8_choose_54 ?_
            rw [zrf_pos hn100]
            refine lv_aload_n hx hb dX8_choose_57 rfl (lv_at hl 0 rfl) ?_
            refine z_getI X hR (zlit hR zf_24) zs_24 (by decide) zfd_X8_85 rfl dX8_choose_58 ?_
            refine lv_aload_n hx hb dX8_choose_61 rfl (lv_at hl 0 rfl) ?_
            refine z_getR X hR (zlit hR zf_24) zs_24 (by decide) zfd_X8_25 rfl dX8_choose_62 ?_
            obtain ⟨hn120, hf⟩ := hf
            have hn12 : al (gR w8 24 6) ∧ zsh (gR w8 24 6) = 20 := zwt_of hR (zlit hR zf_24) zs_24 rfl hn120 (zdc_of zs_24 rfl)
            rw [zrf_pos hn120]
            refine lv_iload_n hx hb dX8_choose_65 rfl (lv_at hl 2 rfl) ?_
            obtain ⟨hb13, hf⟩ := hf
            refine z_iald X hR hn12.1 hn12.2 rfl hb13 dX8_choose_66 ?_
            obtain ⟨hb14, hf⟩ := hf
            refine z_iast X hR hn10.1 hn10.2 rfl hb14 dX8_choose_67 (fun H locs hR => ?_)
            obtain ⟨w15, hw15⟩ : ∃ z : zW, z = sI w8 (gR w8 24 5) (gI w8 24 3).toNatClampNeg (gI w8 (gR w8 24 6) x2.toNatClampNeg) := ⟨_, rfl⟩
            rw [← hw15] at hR
            replace hf := hf w15 hw15
            refine lv_aload_n hx hb dX8_choose_68 rfl (lv_at hl 0 rfl) ?_
            refine lv_dup hx hb dX8_choose_69 rfl ?_
            refine z_getI X hR (zlit hR zf_24) zs_24 (by decide) zfd_X8_85 rfl dX8_choose_70 ?_
            refine lv_iconst (v := (1 : Int32)) hx hb dX8_choose_73 (by decide) ?_
            refine lv_iadd hx hb dX8_choose_74 ?_
            refine z_putI X hR (zlit hR zf_24) zs_24 (by decide) zfp_X8_85 rfl dX8_choose_75 (fun H locs hR => ?_)
            obtain ⟨w16, hw16⟩ : ∃ z : zW, z = sI w15 24 3 ((gI w15 24 3) + (1 : Int32)) := ⟨_, rfl⟩
            rw [← hw16] at hR
            replace hf := hf w16 hw16
            refine lv_iinc (v := x2 + (1 : Int32)) (lv' := [(2, .int (x2 + (1 : Int32))), (0, .ref (ad 24)), (1, .ref (ad a1))]) hx hb dX8_choose_78 hl (k := 2) rfl rfl (by decide) rfl (fun ls hl => ?_)
            refine lv_goto (tgt := 7) hx hb dX8_choose_81 (by decide) ?_
            exact ih (x2 + (1 : Int32)) w16 _ _ _ hf hR (lv_sub hl [1, 2, 0] rfl)
def fX8_choose (a1 : Nat) (w : zW) (k : zW → Prop) : Prop :=
  ∀ w1 : zW, w1 = sI w 24 3 (0 : Int32) →
  ∃ n9, fX8_choose_L7 a1 k n9 (0 : Int32) w1
set_option maxHeartbeats 4000000 in
set_option maxRecDepth 100000 in
theorem mX8_choose {l : Launch} {D : va_G} {dA : Nat → ClassId} {ad : Nat → Nat} {al : Nat → Prop} {w : zW} {k : zW → Prop} {a1 : Nat} (ha1 : al a1 ∧ zsh a1 = 3)  (hf : fX8_choose a1 w k) : zmetV l yX8_choose cX8_choose 3 none 3 [.ref (ad 24), .ref (ad a1)] D dA true ad al w k := by
  refine zmetV_of (by decide) (Nat.le_of_ble_eq_true rfl) ?_
  intro p e R s m below meth c Q H ls args locs cells slots X hr hQ hR hl
  have hx := X.1
  have hb := X.2.1
  have hml := X.2.2.1
  have hown := X.2.2.2.1
  have hts := X.2.2.2.2.1
  unfold fX8_choose at hf
  have hl : lv_has ls 3 [(0, .ref (ad 24)), (1, .ref (ad a1))] := hl
  refine lv_aload_n hx hb dX8_choose_0 rfl (lv_at hl 0 rfl) ?_
  refine lv_iconst (v := (0 : Int32)) hx hb dX8_choose_1 (by decide) ?_
  refine z_putI X hR (zlit hR zf_24) zs_24 (by decide) zfp_X8_85 rfl dX8_choose_2 (fun H locs hR => ?_)
  obtain ⟨w1, hw1⟩ : ∃ z : zW, z = sI w 24 3 (0 : Int32) := ⟨_, rfl⟩
  rw [← hw1] at hR
  replace hf := hf w1 hw1
  refine lv_iconst (v := (0 : Int32)) hx hb dX8_choose_5 (by decide) ?_
  refine lv_istore_n (lv' := [(2, .int (0 : Int32)), (0, .ref (ad 24)), (1, .ref (ad a1))]) hx hb dX8_choose_6 rfl hl (by decide) rfl (fun ls hl => ?_)
  obtain ⟨n9, hf⟩ := hf
  exact mX8_choose_L7 X hr hQ ha1  n9 (0 : Int32) w1 _ _ _ hf hR (lv_sub hl [1, 2, 0] rfl)
/-! X8_isLess -/
def fX8_isLess (x0 : Int32) (x1 : Int32) (w : zW) (k : Int32 → zW → Prop) : Prop :=
  fJ6_bitCount_0f7a4 x0 w (fun r1 w1 =>
  fJ6_bitCount_0f7a4 x1 w1 (fun r2 w2 =>
  ∀ v3 : Int32, v3 = r1 - r2 →
  ∀ v4 : Int32, v4 = (if v3 < 0 then (1 : Int32) else (if ¬ v3 = 0 then (0 : Int32) else (if x1 ≤ x0 then (0 : Int32) else (1 : Int32)))) →
  zb01 v4 ∧ k v4 w2))
set_option maxHeartbeats 4000000 in
set_option maxRecDepth 100000 in
theorem mX8_isLess {l : Launch} {D : va_G} {dA : Nat → ClassId} {ad : Nat → Nat} {al : Nat → Prop} {w : zW} {k : Int32 → zW → Prop} {x0 : Int32} {x1 : Int32}   (hf : fX8_isLess x0 x1 w k) : zmetI l yX8_isLess cX8_isLess 3 (some .boolean) 1 [.int x0, .int x1] D dA true ad al w k := by
  refine zmetZ_of (by decide) (Nat.le_of_ble_eq_true rfl) ?_
  intro p e R s m below meth c Q H ls args locs cells slots X hr hQ hR hl
  have hx := X.1
  have hb := X.2.1
  have hml := X.2.2.1
  have hown := X.2.2.2.1
  have hts := X.2.2.2.2.1
  unfold fX8_isLess at hf
  have hl : lv_has ls 3 [(0, .int x0), (1, .int x1)] := hl
  refine lv_iload_n hx hb dX8_isLess_0 rfl (lv_at hl 0 rfl) ?_
  refine z_callSI (fr1 := 0) (As := [.int x0]) (rest := []) X (hr.le (by decide)) hR zy_J6_bitCount_0f7a4 zq_1375 (mJ6_bitCount_0f7a4  hf) rfl hl (Nat.le_of_ble_eq_true rfl) dX8_isLess_1 rfl (fun r1 w1 H locs hf hR => ?_)
  refine lv_iload_n hx hb dX8_isLess_4 rfl (lv_at hl 1 rfl) ?_
  refine z_callSI (fr1 := 0) (As := [.int x1]) (rest := [.int r1]) X (hr.le (by decide)) hR zy_J6_bitCount_0f7a4 zq_1375 (mJ6_bitCount_0f7a4  hf) rfl hl (Nat.le_of_ble_eq_true rfl) dX8_isLess_5 rfl (fun r2 w2 H locs hf hR => ?_)
  refine lv_isub hx hb dX8_isLess_8 ?_
  refine lv_topi (fun v3 hv3 => ?_)
  replace hf := hf v3 hv3
  refine lv_istore_n (lv' := [(2, .int v3), (0, .int x0), (1, .int x1)]) hx hb dX8_isLess_9 rfl hl (by decide) rfl (fun ls hl => ?_)
  refine lv_iload_n hx hb dX8_isLess_10 rfl (lv_at hl 0 rfl) ?_
  have kJ4 : ∀ v4 : Int32, v4 = (if v3 < 0 then (1 : Int32) else (if ¬ v3 = 0 then (0 : Int32) else (if x1 ≤ x0 then (0 : Int32) else (1 : Int32)))) → W p l e R s m args below meth c H locs cells slots Q (F0 m 28 ls (.int v4 :: [])) := by
    intro v4 hv4
    replace hf := hf v4 hv4
    obtain ⟨h01, hf⟩ := hf
    exact hQ _ _ _ _ _ _ h01 hf hR dX8_isLess_28
  refine lv_if_lt (tgt := 23) hx hb dX8_isLess_11 (by decide) (fun c4 => ?_) (fun c4 => ?_)
  · refine lv_iconst (v := (1 : Int32)) hx hb dX8_isLess_23 (by decide) ?_
    refine lv_goto (tgt := 28) hx hb dX8_isLess_24 (by decide) ?_
    exact kJ4 _ (if_pos c4).symm
  · refine lv_iload_n hx hb dX8_isLess_14 rfl (lv_at hl 0 rfl) ?_
    refine lv_if_ne (tgt := 27) hx hb dX8_isLess_15 (by decide) (fun c5 => ?_) (fun c5 => ?_)
    · refine lv_iconst (v := (0 : Int32)) hx hb dX8_isLess_27 (by decide) ?_
      exact kJ4 _ ((if_neg c4).trans (if_pos c5)).symm
    · refine lv_iload_n hx hb dX8_isLess_18 rfl (lv_at hl 1 rfl) ?_
      refine lv_iload_n hx hb dX8_isLess_19 rfl (lv_at hl 2 rfl) ?_
      refine lv_icmp_ge (tgt := 27) hx hb dX8_isLess_20 (by decide) (fun c6 => ?_) (fun c6 => ?_)
      · refine lv_iconst (v := (0 : Int32)) hx hb dX8_isLess_27 (by decide) ?_
        exact kJ4 _ ((if_neg c4).trans ((if_neg (fun h9 => h9 c5)).trans (if_pos c6))).symm
      · refine lv_iconst (v := (1 : Int32)) hx hb dX8_isLess_23 (by decide) ?_
        refine lv_goto (tgt := 28) hx hb dX8_isLess_24 (by decide) ?_
        exact kJ4 _ ((if_neg c4).trans ((if_neg (fun h9 => h9 c5)).trans (if_neg c6))).symm
/-! X8_fewestMissed -/
def fX8_fewestMissed_L4 (a1 : Nat) (k : Int32 → zW → Prop) : Nat → Int32 → Int32 → zW → Prop
  | 0 => fun _ _ _ => False
  | n + 1 => fun x2 x3 w =>
    (((gI w 24 7) ≤ x3 →
      k x2 w) ∧
     (¬ (gI w 24 7) ≤ x3 →
      ¬ gR w 24 6 = 0 ∧
      (((Int32.ofNat (zln (gR w 24 6))) ≤ x3 →
        k x2 w) ∧
       (¬ (Int32.ofNat (zln (gR w 24 6))) ≤ x3 →
        vp_in x3 (zln (gR w 24 6)) ∧ 
        fX3_guesses a1 (gI w (gR w 24 6) x3.toNatClampNeg) w (fun r5 w5 =>
        ((r5 = 0 →
          fX8_fewestMissed_L4 a1 k n x2 (x3 + (1 : Int32)) w5) ∧
         (¬ r5 = 0 →
          ¬ gR w5 24 6 = 0 ∧
          vp_in x3 (zln (gR w5 24 6)) ∧ 
          ¬ gR w5 24 9 = 0 ∧
          fX3_missed a1 (gR w5 24 9) (gI w5 (gR w5 24 6) x3.toNatClampNeg) w5 (fun r10 w10 =>
          ((x2 = (-1 : Int32) →
            fX8_fewestMissed_L4 a1 k n r10 (x3 + (1 : Int32)) w10) ∧
           (¬ x2 = (-1 : Int32) →
            fX8_isLess r10 x2 w10 (fun r12 w12 =>
            ∀ v13 : Int32, v13 = (if r12 = 0 then x2 else r10) →
            fX8_fewestMissed_L4 a1 k n v13 (x3 + (1 : Int32)) w12)))))))))))
set_option maxHeartbeats 4000000 in
set_option maxRecDepth 100000 in
theorem mX8_fewestMissed_L4 {k : Int32 → zW → Prop} {a1 : Nat} (X : zCx p s m args meth c cX8_fewestMissed 5 RX8 (some .int)) (hr : zRm R 2 cells slots) (hQ : zRetI p l e R s m args below meth c cells slots Q D dA true ad0 al0 ad al cX8_fewestMissed k) (ha1 : al a1 ∧ zsh a1 = 3)  : ∀ (n : Nat) (x2 : Int32) (x3 : Int32) (w : zW) (H : Heap) (locs : List Loc) (ls : Array Slot), fX8_fewestMissed_L4 a1 k n x2 x3 w → zSt D dA true ad0 al0 ad al w s H locs → lv_has ls 5 [(0, .ref (ad 24)), (1, .ref (ad a1)), (2, .int x2), (3, .int x3)] → W p l e R s m args below meth c H locs cells slots Q (F0 m 4 ls []) := by
  intro n
  induction n with
  | zero => exact fun _ _ _ _ _ _ hf => hf.elim
  | succ n ih =>
    intro x2 x3 w H locs ls hf hR hl
    have hx := X.1
    have hb := X.2.1
    have hml := X.2.2.1
    have hown := X.2.2.2.1
    have hts := X.2.2.2.2.1
    rw [fX8_fewestMissed_L4] at hf
    refine lv_iload_n hx hb dX8_fewestMissed_4 rfl (lv_at hl 3 rfl) ?_
    refine lv_aload_n hx hb dX8_fewestMissed_5 rfl (lv_at hl 0 rfl) ?_
    refine z_getI X hR (zlit hR zf_24) zs_24 (by decide) zfd_X8_51 rfl dX8_fewestMissed_6 ?_
    refine lv_icmp_ge (tgt := 77) hx hb dX8_fewestMissed_9 (by decide) (fun c1 => ?_) (fun c1 => ?_)
    · replace hf := hf.1 c1
      refine lv_iload_n hx hb dX8_fewestMissed_77 rfl (lv_at hl 2 rfl) ?_
      exact hQ _ _ _ _ _ _ hf hR dX8_fewestMissed_78
    · replace hf := hf.2 c1
      refine lv_iload_n hx hb dX8_fewestMissed_12 rfl (lv_at hl 3 rfl) ?_
      refine lv_aload_n hx hb dX8_fewestMissed_13 rfl (lv_at hl 0 rfl) ?_
      refine z_getR X hR (zlit hR zf_24) zs_24 (by decide) zfd_X8_25 rfl dX8_fewestMissed_14 ?_
      obtain ⟨hn20, hf⟩ := hf
      have hn2 : al (gR w 24 6) ∧ zsh (gR w 24 6) = 20 := zwt_of hR (zlit hR zf_24) zs_24 rfl hn20 (zdc_of zs_24 rfl)
      rw [zrf_pos hn20]
      refine z_alen X hR hn2.1 hn2.2 (by decide) (by decide) rfl (v := Int32.ofNat (zln (gR w 24 6))) rfl dX8_fewestMissed_17 ?_
      refine lv_icmp_ge (tgt := 77) hx hb dX8_fewestMissed_18 (by decide) (fun c3 => ?_) (fun c3 => ?_)
      · replace hf := hf.1 c3
        refine lv_iload_n hx hb dX8_fewestMissed_77 rfl (lv_at hl 2 rfl) ?_
        exact hQ _ _ _ _ _ _ hf hR dX8_fewestMissed_78
      · replace hf := hf.2 c3
        refine lv_aload_n hx hb dX8_fewestMissed_21 rfl (lv_at hl 1 rfl) ?_
        refine lv_aload_n hx hb dX8_fewestMissed_22 rfl (lv_at hl 0 rfl) ?_
        refine z_getR X hR (zlit hR zf_24) zs_24 (by decide) zfd_X8_25 rfl dX8_fewestMissed_23 ?_
        rw [zrf_pos hn20]
        refine lv_iload_n hx hb dX8_fewestMissed_26 rfl (lv_at hl 3 rfl) ?_
        obtain ⟨hb4, hf⟩ := hf
        refine z_iald X hR hn2.1 hn2.2 rfl hb4 dX8_fewestMissed_27 ?_
        refine z_callVI (fr1 := 1) (b := a1) (As := [.int (gI w (gR w 24 6) x3.toNatClampNeg)]) (rest := []) X (hr.le (by decide)) hR zy_X3_guesses zq_1370 ha1.1 (by rw [ha1.2]; rfl) rfl (mX3_guesses ⟨ha1.1, ha1.2⟩ hf) rfl hl (Nat.le_of_ble_eq_true rfl) dX8_fewestMissed_28 rfl (fun r5 w5 H locs hf hR => ?_)
        refine lv_if_eq (tgt := 71) hx hb dX8_fewestMissed_31 (by decide) (fun c6 => ?_) (fun c6 => ?_)
        · replace hf := hf.1 c6
          refine lv_iinc (v := x3 + (1 : Int32)) (lv' := [(3, .int (x3 + (1 : Int32))), (0, .ref (ad 24)), (1, .ref (ad a1)), (2, .int x2)]) hx hb dX8_fewestMissed_71 hl (k := 3) rfl rfl (by decide) rfl (fun ls hl => ?_)
          refine lv_goto (tgt := 4) hx hb dX8_fewestMissed_74 (by decide) ?_
          exact ih x2 (x3 + (1 : Int32)) w5 _ _ _ hf hR (lv_sub hl [1, 2, 3, 0] rfl)
        · replace hf := hf.2 c6
          refine lv_aload_n hx hb dX8_fewestMissed_34 rfl (lv_at hl 1 rfl) ?_
          refine lv_aload_n hx hb dX8_fewestMissed_35 rfl (lv_at hl 0 rfl) ?_
          refine z_getR X hR (zlit hR zf_24) zs_24 (by decide) zfd_X8_25 rfl dX8_fewestMissed_36 ?_
          obtain ⟨hn70, hf⟩ := hf
          have hn7 : al (gR w5 24 6) ∧ zsh (gR w5 24 6) = 20 := zwt_of hR (zlit hR zf_24) zs_24 rfl hn70 (zdc_of zs_24 rfl)
          rw [zrf_pos hn70]
          refine lv_iload_n hx hb dX8_fewestMissed_39 rfl (lv_at hl 3 rfl) ?_
          obtain ⟨hb8, hf⟩ := hf
          refine z_iald X hR hn7.1 hn7.2 rfl hb8 dX8_fewestMissed_40 ?_
          refine lv_aload_n hx hb dX8_fewestMissed_41 rfl (lv_at hl 0 rfl) ?_
          refine z_getR X hR (zlit hR zf_24) zs_24 (by decide) zfd_X8_31 rfl dX8_fewestMissed_42 ?_
          obtain ⟨hn90, hf⟩ := hf
          have hn9 : al (gR w5 24 9) ∧ zsh (gR w5 24 9) = 0 := zwt_of hR (zlit hR zf_24) zs_24 rfl hn90 (zdc_of zs_24 rfl)
          rw [zrf_pos hn90]
          refine z_callVI (fr1 := 1) (b := a1) (As := [.int (gI w5 (gR w5 24 6) x3.toNatClampNeg), .ref (ad (gR w5 24 9))]) (rest := []) X (hr.le (by decide)) hR zy_X3_missed zq_1371 ha1.1 (by rw [ha1.2]; rfl) rfl (mX3_missed ⟨ha1.1, ha1.2⟩ ⟨hn9.1, hn9.2⟩ hf) rfl hl (Nat.le_of_ble_eq_true rfl) dX8_fewestMissed_45 rfl (fun r10 w10 H locs hf hR => ?_)
          refine lv_istore (lv' := [(4, .int r10), (0, .ref (ad 24)), (1, .ref (ad a1)), (2, .int x2), (3, .int x3)]) hx hb dX8_fewestMissed_48 hl (by decide) rfl (fun ls hl => ?_)
          refine lv_iload_n hx hb dX8_fewestMissed_50 rfl (lv_at hl 3 rfl) ?_
          refine lv_iconst (v := (-1 : Int32)) hx hb dX8_fewestMissed_51 (by decide) ?_
          refine lv_icmp_eq (tgt := 64) hx hb dX8_fewestMissed_52 (by decide) (fun c11 => ?_) (fun c11 => ?_)
          · replace hf := hf.1 c11
            refine lv_iload hx hb dX8_fewestMissed_64 (lv_at hl 0 rfl) ?_
            refine lv_goto (tgt := 70) hx hb dX8_fewestMissed_66 (by decide) ?_
            refine lv_istore_n (lv' := [(2, .int r10), (4, .int r10), (0, .ref (ad 24)), (1, .ref (ad a1)), (3, .int x3)]) hx hb dX8_fewestMissed_70 rfl hl (by decide) rfl (fun ls hl => ?_)
            refine lv_iinc (v := x3 + (1 : Int32)) (lv' := [(3, .int (x3 + (1 : Int32))), (2, .int r10), (4, .int r10), (0, .ref (ad 24)), (1, .ref (ad a1))]) hx hb dX8_fewestMissed_71 hl (k := 4) rfl rfl (by decide) rfl (fun ls hl => ?_)
            refine lv_goto (tgt := 4) hx hb dX8_fewestMissed_74 (by decide) ?_
            exact ih r10 (x3 + (1 : Int32)) w10 _ _ _ hf hR (lv_sub hl [3, 4, 1, 0] rfl)
          · replace hf := hf.2 c11
            refine lv_iload hx hb dX8_fewestMissed_55 (lv_at hl 0 rfl) ?_
            refine lv_iload_n hx hb dX8_fewestMissed_57 rfl (lv_at hl 3 rfl) ?_
            refine z_callSI (fr1 := 1) (As := [.int r10, .int x2]) (rest := []) X (hr.le (by decide)) hR zy_X8_isLess zq_1372 (mX8_isLess  hf) rfl hl (Nat.le_of_ble_eq_true rfl) dX8_fewestMissed_58 rfl (fun r12 w12 H locs hf hR => ?_)
            have kJ13 : ∀ v13 : Int32, v13 = (if r12 = 0 then x2 else r10) → W p l e R s m args below meth c H locs cells slots Q (F0 m 70 ls (.int v13 :: [])) := by
              intro v13 hv13
              replace hf := hf v13 hv13
              refine lv_istore_n (lv' := [(2, .int v13), (4, .int r10), (0, .ref (ad 24)), (1, .ref (ad a1)), (3, .int x3)]) hx hb dX8_fewestMissed_70 rfl hl (by decide) rfl (fun ls hl => ?_)
              refine lv_iinc (v := x3 + (1 : Int32)) (lv' := [(3, .int (x3 + (1 : Int32))), (2, .int v13), (4, .int r10), (0, .ref (ad 24)), (1, .ref (ad a1))]) hx hb dX8_fewestMissed_71 hl (k := 4) rfl rfl (by decide) rfl (fun ls hl => ?_)
              refine lv_goto (tgt := 4) hx hb dX8_fewestMissed_74 (by decide) ?_
              exact ih v13 (x3 + (1 : Int32)) w12 _ _ _ hf hR (lv_sub hl [3, 4, 1, 0] rfl)
            refine lv_if_eq (tgt := 69) hx hb dX8_fewestMissed_61 (by decide) (fun c13 => ?_) (fun c13 => ?_)
            · refine lv_iload_n hx hb dX8_fewestMissed_69 rfl (lv_at hl 3 rfl) ?_
              exact kJ13 _ (if_pos c13).symm
            · refine lv_iload hx hb dX8_fewestMissed_64 (lv_at hl 0 rfl) ?_
              refine lv_goto (tgt := 70) hx hb dX8_fewestMissed_66 (by decide) ?_
              exact kJ13 _ (if_neg c13).symm
def fX8_fewestMissed (a1 : Nat) (w : zW) (k : Int32 → zW → Prop) : Prop :=
  ∃ n9, fX8_fewestMissed_L4 a1 k n9 (-1 : Int32) (0 : Int32) w
set_option maxHeartbeats 4000000 in
set_option maxRecDepth 100000 in
theorem mX8_fewestMissed {l : Launch} {D : va_G} {dA : Nat → ClassId} {ad : Nat → Nat} {al : Nat → Prop} {w : zW} {k : Int32 → zW → Prop} {a1 : Nat} (ha1 : al a1 ∧ zsh a1 = 3)  (hf : fX8_fewestMissed a1 w k) : zmetI l yX8_fewestMissed cX8_fewestMissed 5 (some .int) 2 [.ref (ad 24), .ref (ad a1)] D dA true ad al w k := by
  refine zmetI_of (by decide) (Nat.le_of_ble_eq_true rfl) ?_
  intro p e R s m below meth c Q H ls args locs cells slots X hr hQ hR hl
  have hx := X.1
  have hb := X.2.1
  have hml := X.2.2.1
  have hown := X.2.2.2.1
  have hts := X.2.2.2.2.1
  unfold fX8_fewestMissed at hf
  have hl : lv_has ls 5 [(0, .ref (ad 24)), (1, .ref (ad a1))] := hl
  refine lv_iconst (v := (-1 : Int32)) hx hb dX8_fewestMissed_0 (by decide) ?_
  refine lv_istore_n (lv' := [(2, .int (-1 : Int32)), (0, .ref (ad 24)), (1, .ref (ad a1))]) hx hb dX8_fewestMissed_1 rfl hl (by decide) rfl (fun ls hl => ?_)
  refine lv_iconst (v := (0 : Int32)) hx hb dX8_fewestMissed_2 (by decide) ?_
  refine lv_istore_n (lv' := [(3, .int (0 : Int32)), (2, .int (-1 : Int32)), (0, .ref (ad 24)), (1, .ref (ad a1))]) hx hb dX8_fewestMissed_3 rfl hl (by decide) rfl (fun ls hl => ?_)
  obtain ⟨n9, hf⟩ := hf
  exact mX8_fewestMissed_L4 X hr hQ ha1  n9 (-1 : Int32) (0 : Int32) w _ _ _ hf hR (lv_sub hl [2, 3, 1, 0] rfl)
/-! X8_neededCounts -/
def fX8_neededCounts_L4 (a1 : Nat) (k : Int32 → zW → Prop) : Nat → Int32 → Int32 → zW → Prop
  | 0 => fun _ _ _ => False
  | n + 1 => fun x2 x3 w =>
    (((gI w 24 7) ≤ x3 →
      k x2 w) ∧
     (¬ (gI w 24 7) ≤ x3 →
      ¬ gR w 24 6 = 0 ∧
      (((Int32.ofNat (zln (gR w 24 6))) ≤ x3 →
        k x2 w) ∧
       (¬ (Int32.ofNat (zln (gR w 24 6))) ≤ x3 →
        vp_in x3 (zln (gR w 24 6)) ∧ 
        ¬ gR w 24 9 = 0 ∧
        fX3_missed a1 (gR w 24 9) (gI w (gR w 24 6) x3.toNatClampNeg) w (fun r6 w6 =>
        fJ6_bitCount_0f7a4 r6 w6 (fun r7 w7 =>
        ((¬ r7 = (1 : Int32) →
          fX8_neededCounts_L4 a1 k n x2 (x3 + (1 : Int32)) w7) ∧
         (r7 = (1 : Int32) →
          ¬ gR w7 24 6 = 0 ∧
          vp_in x3 (zln (gR w7 24 6)) ∧ 
          fX3_guesses a1 (gI w7 (gR w7 24 6) x3.toNatClampNeg) w7 (fun r11 w11 =>
          ((r11 = 0 →
            fX8_neededCounts_L4 a1 k n x2 (x3 + (1 : Int32)) w11) ∧
           (¬ r11 = 0 →
            ∀ v13 : Int32, v13 = x2 ||| r6 →
            fX8_neededCounts_L4 a1 k n v13 (x3 + (1 : Int32)) w11)))))))))))
set_option maxHeartbeats 4000000 in
set_option maxRecDepth 100000 in
theorem mX8_neededCounts_L4 {k : Int32 → zW → Prop} {a1 : Nat} (X : zCx p s m args meth c cX8_neededCounts 5 RX8 (some .int)) (hr : zRm R 2 cells slots) (hQ : zRetI p l e R s m args below meth c cells slots Q D dA true ad0 al0 ad al cX8_neededCounts k) (ha1 : al a1 ∧ zsh a1 = 3)  : ∀ (n : Nat) (x2 : Int32) (x3 : Int32) (w : zW) (H : Heap) (locs : List Loc) (ls : Array Slot), fX8_neededCounts_L4 a1 k n x2 x3 w → zSt D dA true ad0 al0 ad al w s H locs → lv_has ls 5 [(0, .ref (ad 24)), (1, .ref (ad a1)), (2, .int x2), (3, .int x3)] → W p l e R s m args below meth c H locs cells slots Q (F0 m 4 ls []) := by
  intro n
  induction n with
  | zero => exact fun _ _ _ _ _ _ hf => hf.elim
  | succ n ih =>
    intro x2 x3 w H locs ls hf hR hl
    have hx := X.1
    have hb := X.2.1
    have hml := X.2.2.1
    have hown := X.2.2.2.1
    have hts := X.2.2.2.2.1
    rw [fX8_neededCounts_L4] at hf
    refine lv_iload_n hx hb dX8_neededCounts_4 rfl (lv_at hl 3 rfl) ?_
    refine lv_aload_n hx hb dX8_neededCounts_5 rfl (lv_at hl 0 rfl) ?_
    refine z_getI X hR (zlit hR zf_24) zs_24 (by decide) zfd_X8_51 rfl dX8_neededCounts_6 ?_
    refine lv_icmp_ge (tgt := 70) hx hb dX8_neededCounts_9 (by decide) (fun c1 => ?_) (fun c1 => ?_)
    · replace hf := hf.1 c1
      refine lv_iload_n hx hb dX8_neededCounts_70 rfl (lv_at hl 2 rfl) ?_
      exact hQ _ _ _ _ _ _ hf hR dX8_neededCounts_71
    · replace hf := hf.2 c1
      refine lv_iload_n hx hb dX8_neededCounts_12 rfl (lv_at hl 3 rfl) ?_
      refine lv_aload_n hx hb dX8_neededCounts_13 rfl (lv_at hl 0 rfl) ?_
      refine z_getR X hR (zlit hR zf_24) zs_24 (by decide) zfd_X8_25 rfl dX8_neededCounts_14 ?_
      obtain ⟨hn20, hf⟩ := hf
      have hn2 : al (gR w 24 6) ∧ zsh (gR w 24 6) = 20 := zwt_of hR (zlit hR zf_24) zs_24 rfl hn20 (zdc_of zs_24 rfl)
      rw [zrf_pos hn20]
      refine z_alen X hR hn2.1 hn2.2 (by decide) (by decide) rfl (v := Int32.ofNat (zln (gR w 24 6))) rfl dX8_neededCounts_17 ?_
      refine lv_icmp_ge (tgt := 70) hx hb dX8_neededCounts_18 (by decide) (fun c3 => ?_) (fun c3 => ?_)
      · replace hf := hf.1 c3
        refine lv_iload_n hx hb dX8_neededCounts_70 rfl (lv_at hl 2 rfl) ?_
        exact hQ _ _ _ _ _ _ hf hR dX8_neededCounts_71
      · replace hf := hf.2 c3
        refine lv_aload_n hx hb dX8_neededCounts_21 rfl (lv_at hl 1 rfl) ?_
        refine lv_aload_n hx hb dX8_neededCounts_22 rfl (lv_at hl 0 rfl) ?_
        refine z_getR X hR (zlit hR zf_24) zs_24 (by decide) zfd_X8_25 rfl dX8_neededCounts_23 ?_
        rw [zrf_pos hn20]
        refine lv_iload_n hx hb dX8_neededCounts_26 rfl (lv_at hl 3 rfl) ?_
        obtain ⟨hb4, hf⟩ := hf
        refine z_iald X hR hn2.1 hn2.2 rfl hb4 dX8_neededCounts_27 ?_
        refine lv_aload_n hx hb dX8_neededCounts_28 rfl (lv_at hl 0 rfl) ?_
        refine z_getR X hR (zlit hR zf_24) zs_24 (by decide) zfd_X8_31 rfl dX8_neededCounts_29 ?_
        obtain ⟨hn50, hf⟩ := hf
        have hn5 : al (gR w 24 9) ∧ zsh (gR w 24 9) = 0 := zwt_of hR (zlit hR zf_24) zs_24 rfl hn50 (zdc_of zs_24 rfl)
        rw [zrf_pos hn50]
        refine z_callVI (fr1 := 1) (b := a1) (As := [.int (gI w (gR w 24 6) x3.toNatClampNeg), .ref (ad (gR w 24 9))]) (rest := []) X (hr.le (by decide)) hR zy_X3_missed zq_1371 ha1.1 (by rw [ha1.2]; rfl) rfl (mX3_missed ⟨ha1.1, ha1.2⟩ ⟨hn5.1, hn5.2⟩ hf) rfl hl (Nat.le_of_ble_eq_true rfl) dX8_neededCounts_32 rfl (fun r6 w6 H locs hf hR => ?_)
        refine lv_istore (lv' := [(4, .int r6), (0, .ref (ad 24)), (1, .ref (ad a1)), (2, .int x2), (3, .int x3)]) hx hb dX8_neededCounts_35 hl (by decide) rfl (fun ls hl => ?_)
        refine lv_iload hx hb dX8_neededCounts_37 (lv_at hl 0 rfl) ?_
        refine z_callSI (fr1 := 0) (As := [.int r6]) (rest := []) X (hr.le (by decide)) hR zy_J6_bitCount_0f7a4 zq_1375 (mJ6_bitCount_0f7a4  hf) rfl hl (Nat.le_of_ble_eq_true rfl) dX8_neededCounts_39 rfl (fun r7 w7 H locs hf hR => ?_)
        refine lv_iconst (v := (1 : Int32)) hx hb dX8_neededCounts_42 (by decide) ?_
        refine lv_icmp_ne (tgt := 64) hx hb dX8_neededCounts_43 (by decide) (fun c8 => ?_) (fun c8 => ?_)
        · replace hf := hf.1 c8
          refine lv_iinc (v := x3 + (1 : Int32)) (lv' := [(3, .int (x3 + (1 : Int32))), (4, .int r6), (0, .ref (ad 24)), (1, .ref (ad a1)), (2, .int x2)]) hx hb dX8_neededCounts_64 hl (k := 4) rfl rfl (by decide) rfl (fun ls hl => ?_)
          refine lv_goto (tgt := 4) hx hb dX8_neededCounts_67 (by decide) ?_
          exact ih x2 (x3 + (1 : Int32)) w7 _ _ _ hf hR (lv_sub hl [2, 3, 4, 0] rfl)
        · replace hf := hf.2 c8
          refine lv_aload_n hx hb dX8_neededCounts_46 rfl (lv_at hl 2 rfl) ?_
          refine lv_aload_n hx hb dX8_neededCounts_47 rfl (lv_at hl 1 rfl) ?_
          refine z_getR X hR (zlit hR zf_24) zs_24 (by decide) zfd_X8_25 rfl dX8_neededCounts_48 ?_
          obtain ⟨hn90, hf⟩ := hf
          have hn9 : al (gR w7 24 6) ∧ zsh (gR w7 24 6) = 20 := zwt_of hR (zlit hR zf_24) zs_24 rfl hn90 (zdc_of zs_24 rfl)
          rw [zrf_pos hn90]
          refine lv_iload_n hx hb dX8_neededCounts_51 rfl (lv_at hl 4 rfl) ?_
          obtain ⟨hb10, hf⟩ := hf
          refine z_iald X hR hn9.1 hn9.2 rfl hb10 dX8_neededCounts_52 ?_
          refine z_callVI (fr1 := 1) (b := a1) (As := [.int (gI w7 (gR w7 24 6) x3.toNatClampNeg)]) (rest := []) X (hr.le (by decide)) hR zy_X3_guesses zq_1370 ha1.1 (by rw [ha1.2]; rfl) rfl (mX3_guesses ⟨ha1.1, ha1.2⟩ hf) rfl hl (Nat.le_of_ble_eq_true rfl) dX8_neededCounts_53 rfl (fun r11 w11 H locs hf hR => ?_)
          refine lv_if_eq (tgt := 64) hx hb dX8_neededCounts_56 (by decide) (fun c12 => ?_) (fun c12 => ?_)
          · replace hf := hf.1 c12
            refine lv_iinc (v := x3 + (1 : Int32)) (lv' := [(3, .int (x3 + (1 : Int32))), (4, .int r6), (0, .ref (ad 24)), (1, .ref (ad a1)), (2, .int x2)]) hx hb dX8_neededCounts_64 hl (k := 4) rfl rfl (by decide) rfl (fun ls hl => ?_)
            refine lv_goto (tgt := 4) hx hb dX8_neededCounts_67 (by decide) ?_
            exact ih x2 (x3 + (1 : Int32)) w11 _ _ _ hf hR (lv_sub hl [2, 3, 4, 0] rfl)
          · replace hf := hf.2 c12
            refine lv_iload_n hx hb dX8_neededCounts_59 rfl (lv_at hl 3 rfl) ?_
            refine lv_iload hx hb dX8_neededCounts_60 (lv_at hl 0 rfl) ?_
            refine lv_ior hx hb dX8_neededCounts_62 ?_
            refine lv_topi (fun v13 hv13 => ?_)
            replace hf := hf v13 hv13
            refine lv_istore_n (lv' := [(2, .int v13), (4, .int r6), (0, .ref (ad 24)), (1, .ref (ad a1)), (3, .int x3)]) hx hb dX8_neededCounts_63 rfl hl (by decide) rfl (fun ls hl => ?_)
            refine lv_iinc (v := x3 + (1 : Int32)) (lv' := [(3, .int (x3 + (1 : Int32))), (2, .int v13), (4, .int r6), (0, .ref (ad 24)), (1, .ref (ad a1))]) hx hb dX8_neededCounts_64 hl (k := 4) rfl rfl (by decide) rfl (fun ls hl => ?_)
            refine lv_goto (tgt := 4) hx hb dX8_neededCounts_67 (by decide) ?_
            exact ih v13 (x3 + (1 : Int32)) w11 _ _ _ hf hR (lv_sub hl [3, 4, 1, 0] rfl)
def fX8_neededCounts (a1 : Nat) (w : zW) (k : Int32 → zW → Prop) : Prop :=
  ∃ n9, fX8_neededCounts_L4 a1 k n9 (0 : Int32) (0 : Int32) w
set_option maxHeartbeats 4000000 in
set_option maxRecDepth 100000 in
theorem mX8_neededCounts {l : Launch} {D : va_G} {dA : Nat → ClassId} {ad : Nat → Nat} {al : Nat → Prop} {w : zW} {k : Int32 → zW → Prop} {a1 : Nat} (ha1 : al a1 ∧ zsh a1 = 3)  (hf : fX8_neededCounts a1 w k) : zmetI l yX8_neededCounts cX8_neededCounts 5 (some .int) 2 [.ref (ad 24), .ref (ad a1)] D dA true ad al w k := by
  refine zmetI_of (by decide) (Nat.le_of_ble_eq_true rfl) ?_
  intro p e R s m below meth c Q H ls args locs cells slots X hr hQ hR hl
  have hx := X.1
  have hb := X.2.1
  have hml := X.2.2.1
  have hown := X.2.2.2.1
  have hts := X.2.2.2.2.1
  unfold fX8_neededCounts at hf
  have hl : lv_has ls 5 [(0, .ref (ad 24)), (1, .ref (ad a1))] := hl
  refine lv_iconst (v := (0 : Int32)) hx hb dX8_neededCounts_0 (by decide) ?_
  refine lv_istore_n (lv' := [(2, .int (0 : Int32)), (0, .ref (ad 24)), (1, .ref (ad a1))]) hx hb dX8_neededCounts_1 rfl hl (by decide) rfl (fun ls hl => ?_)
  refine lv_iconst (v := (0 : Int32)) hx hb dX8_neededCounts_2 (by decide) ?_
  refine lv_istore_n (lv' := [(3, .int (0 : Int32)), (2, .int (0 : Int32)), (0, .ref (ad 24)), (1, .ref (ad a1))]) hx hb dX8_neededCounts_3 rfl hl (by decide) rfl (fun ls hl => ?_)
  obtain ⟨n9, hf⟩ := hf
  exact mX8_neededCounts_L4 X hr hQ ha1  n9 (0 : Int32) (0 : Int32) w _ _ _ hf hR (lv_sub hl [2, 3, 1, 0] rfl)
/-! X8_heldBackBy -/
def fX8_heldBackBy_L5 (a2 : Nat) (k : Int32 → zW → Prop) : Nat → Int32 → Int32 → Int32 → zW → Prop
  | 0 => fun _ _ _ _ => False
  | n + 1 => fun x1 x3 x4 w =>
    (((gI w 24 2) ≤ x4 →
      k x3 w) ∧
     (¬ (gI w 24 2) ≤ x4 →
      ¬ gR w 24 4 = 0 ∧
      (((Int32.ofNat (zln (gR w 24 4))) ≤ x4 →
        k x3 w) ∧
       (¬ (Int32.ofNat (zln (gR w 24 4))) ≤ x4 →
        vp_in x4 (zln (gR w 24 4)) ∧ 
        fX8_downIn (gI w (gR w 24 4) x4.toNatClampNeg) w (fun r5 w5 =>
        ((¬ r5 = ((1 : Int32) <<< (x1 &&& 31)) →
          fX8_heldBackBy_L5 a2 k n x1 x3 (x4 + (1 : Int32)) w5) ∧
         (r5 = ((1 : Int32) <<< (x1 &&& 31)) →
          ¬ gR w5 24 4 = 0 ∧
          vp_in x4 (zln (gR w5 24 4)) ∧ 
          ¬ gR w5 24 9 = 0 ∧
          fX3_agrees a2 (gR w5 24 9) (gI w5 (gR w5 24 4) x4.toNatClampNeg) w5 (fun r10 w10 =>
          ((r10 = 0 →
            fX8_heldBackBy_L5 a2 k n x1 x3 (x4 + (1 : Int32)) w10) ∧
           (¬ r10 = 0 →
            fX8_heldBackBy_L5 a2 k n x1 (x3 + (1 : Int32)) (x4 + (1 : Int32)) w10))))))))))
set_option maxHeartbeats 4000000 in
set_option maxRecDepth 100000 in
theorem mX8_heldBackBy_L5 {k : Int32 → zW → Prop} {a2 : Nat} (X : zCx p s m args meth c cX8_heldBackBy 5 RX8 (some .int)) (hr : zRm R 3 cells slots) (hQ : zRetI p l e R s m args below meth c cells slots Q D dA true ad0 al0 ad al cX8_heldBackBy k) (ha2 : al a2 ∧ zsh a2 = 3)  : ∀ (n : Nat) (x1 : Int32) (x3 : Int32) (x4 : Int32) (w : zW) (H : Heap) (locs : List Loc) (ls : Array Slot), fX8_heldBackBy_L5 a2 k n x1 x3 x4 w → zSt D dA true ad0 al0 ad al w s H locs → lv_has ls 5 [(0, .ref (ad 24)), (1, .int x1), (2, .ref (ad a2)), (3, .int x3), (4, .int x4)] → W p l e R s m args below meth c H locs cells slots Q (F0 m 5 ls []) := by
  intro n
  induction n with
  | zero => exact fun _ _ _ _ _ _ _ hf => hf.elim
  | succ n ih =>
    intro x1 x3 x4 w H locs ls hf hR hl
    have hx := X.1
    have hb := X.2.1
    have hml := X.2.2.1
    have hown := X.2.2.2.1
    have hts := X.2.2.2.2.1
    rw [fX8_heldBackBy_L5] at hf
    refine lv_iload hx hb dX8_heldBackBy_5 (lv_at hl 4 rfl) ?_
    refine lv_aload_n hx hb dX8_heldBackBy_7 rfl (lv_at hl 0 rfl) ?_
    refine z_getI X hR (zlit hR zf_24) zs_24 (by decide) zfd_X8_47 rfl dX8_heldBackBy_8 ?_
    refine lv_icmp_ge (tgt := 67) hx hb dX8_heldBackBy_11 (by decide) (fun c1 => ?_) (fun c1 => ?_)
    · replace hf := hf.1 c1
      refine lv_iload_n hx hb dX8_heldBackBy_67 rfl (lv_at hl 3 rfl) ?_
      exact hQ _ _ _ _ _ _ hf hR dX8_heldBackBy_68
    · replace hf := hf.2 c1
      refine lv_iload hx hb dX8_heldBackBy_14 (lv_at hl 4 rfl) ?_
      refine lv_aload_n hx hb dX8_heldBackBy_16 rfl (lv_at hl 0 rfl) ?_
      refine z_getR X hR (zlit hR zf_24) zs_24 (by decide) zfd_X8_18 rfl dX8_heldBackBy_17 ?_
      obtain ⟨hn20, hf⟩ := hf
      have hn2 : al (gR w 24 4) ∧ zsh (gR w 24 4) = 20 := zwt_of hR (zlit hR zf_24) zs_24 rfl hn20 (zdc_of zs_24 rfl)
      rw [zrf_pos hn20]
      refine z_alen X hR hn2.1 hn2.2 (by decide) (by decide) rfl (v := Int32.ofNat (zln (gR w 24 4))) rfl dX8_heldBackBy_20 ?_
      refine lv_icmp_ge (tgt := 67) hx hb dX8_heldBackBy_21 (by decide) (fun c3 => ?_) (fun c3 => ?_)
      · replace hf := hf.1 c3
        refine lv_iload_n hx hb dX8_heldBackBy_67 rfl (lv_at hl 3 rfl) ?_
        exact hQ _ _ _ _ _ _ hf hR dX8_heldBackBy_68
      · replace hf := hf.2 c3
        refine lv_aload_n hx hb dX8_heldBackBy_24 rfl (lv_at hl 0 rfl) ?_
        refine z_getR X hR (zlit hR zf_24) zs_24 (by decide) zfd_X8_18 rfl dX8_heldBackBy_25 ?_
        rw [zrf_pos hn20]
        refine lv_iload hx hb dX8_heldBackBy_28 (lv_at hl 4 rfl) ?_
        obtain ⟨hb4, hf⟩ := hf
        refine z_iald X hR hn2.1 hn2.2 rfl hb4 dX8_heldBackBy_30 ?_
        refine z_callSI (fr1 := 0) (As := [.int (gI w (gR w 24 4) x4.toNatClampNeg)]) (rest := []) X (hr.le (by decide)) hR zy_X8_downIn zq_1512 (mX8_downIn  hf) rfl hl (Nat.le_of_ble_eq_true rfl) dX8_heldBackBy_31 rfl (fun r5 w5 H locs hf hR => ?_)
        refine lv_iconst (v := (1 : Int32)) hx hb dX8_heldBackBy_34 (by decide) ?_
        refine lv_iload_n hx hb dX8_heldBackBy_35 rfl (lv_at hl 1 rfl) ?_
        refine lv_ishl hx hb dX8_heldBackBy_36 ?_
        refine lv_icmp_ne (tgt := 61) hx hb dX8_heldBackBy_37 (by decide) (fun c6 => ?_) (fun c6 => ?_)
        · replace hf := hf.1 c6
          refine lv_iinc (v := x4 + (1 : Int32)) (lv' := [(4, .int (x4 + (1 : Int32))), (0, .ref (ad 24)), (1, .int x1), (2, .ref (ad a2)), (3, .int x3)]) hx hb dX8_heldBackBy_61 hl (k := 4) rfl rfl (by decide) rfl (fun ls hl => ?_)
          refine lv_goto (tgt := 5) hx hb dX8_heldBackBy_64 (by decide) ?_
          exact ih x1 x3 (x4 + (1 : Int32)) w5 _ _ _ hf hR (lv_sub hl [1, 2, 3, 4, 0] rfl)
        · replace hf := hf.2 c6
          refine lv_aload_n hx hb dX8_heldBackBy_40 rfl (lv_at hl 2 rfl) ?_
          refine lv_aload_n hx hb dX8_heldBackBy_41 rfl (lv_at hl 0 rfl) ?_
          refine z_getR X hR (zlit hR zf_24) zs_24 (by decide) zfd_X8_18 rfl dX8_heldBackBy_42 ?_
          obtain ⟨hn70, hf⟩ := hf
          have hn7 : al (gR w5 24 4) ∧ zsh (gR w5 24 4) = 20 := zwt_of hR (zlit hR zf_24) zs_24 rfl hn70 (zdc_of zs_24 rfl)
          rw [zrf_pos hn70]
          refine lv_iload hx hb dX8_heldBackBy_45 (lv_at hl 4 rfl) ?_
          obtain ⟨hb8, hf⟩ := hf
          refine z_iald X hR hn7.1 hn7.2 rfl hb8 dX8_heldBackBy_47 ?_
          refine lv_aload_n hx hb dX8_heldBackBy_48 rfl (lv_at hl 0 rfl) ?_
          refine z_getR X hR (zlit hR zf_24) zs_24 (by decide) zfd_X8_31 rfl dX8_heldBackBy_49 ?_
          obtain ⟨hn90, hf⟩ := hf
          have hn9 : al (gR w5 24 9) ∧ zsh (gR w5 24 9) = 0 := zwt_of hR (zlit hR zf_24) zs_24 rfl hn90 (zdc_of zs_24 rfl)
          rw [zrf_pos hn90]
          refine z_callVI (fr1 := 2) (b := a2) (As := [.int (gI w5 (gR w5 24 4) x4.toNatClampNeg), .ref (ad (gR w5 24 9))]) (rest := []) X (hr.le (by decide)) hR zy_X3_agrees zq_1030 ha2.1 (by rw [ha2.2]; rfl) rfl (mX3_agrees ⟨ha2.1, ha2.2⟩ ⟨hn9.1, hn9.2⟩ hf) rfl hl (Nat.le_of_ble_eq_true rfl) dX8_heldBackBy_52 rfl (fun r10 w10 H locs hf hR => ?_)
          refine lv_if_eq (tgt := 61) hx hb dX8_heldBackBy_55 (by decide) (fun c11 => ?_) (fun c11 => ?_)
          · replace hf := hf.1 c11
            refine lv_iinc (v := x4 + (1 : Int32)) (lv' := [(4, .int (x4 + (1 : Int32))), (0, .ref (ad 24)), (1, .int x1), (2, .ref (ad a2)), (3, .int x3)]) hx hb dX8_heldBackBy_61 hl (k := 4) rfl rfl (by decide) rfl (fun ls hl => ?_)
            refine lv_goto (tgt := 5) hx hb dX8_heldBackBy_64 (by decide) ?_
            exact ih x1 x3 (x4 + (1 : Int32)) w10 _ _ _ hf hR (lv_sub hl [1, 2, 3, 4, 0] rfl)
          · replace hf := hf.2 c11
            refine lv_iinc (v := x3 + (1 : Int32)) (lv' := [(3, .int (x3 + (1 : Int32))), (0, .ref (ad 24)), (1, .int x1), (2, .ref (ad a2)), (4, .int x4)]) hx hb dX8_heldBackBy_58 hl (k := 3) rfl rfl (by decide) rfl (fun ls hl => ?_)
            refine lv_iinc (v := x4 + (1 : Int32)) (lv' := [(4, .int (x4 + (1 : Int32))), (3, .int (x3 + (1 : Int32))), (0, .ref (ad 24)), (1, .int x1), (2, .ref (ad a2))]) hx hb dX8_heldBackBy_61 hl (k := 4) rfl rfl (by decide) rfl (fun ls hl => ?_)
            refine lv_goto (tgt := 5) hx hb dX8_heldBackBy_64 (by decide) ?_
            exact ih x1 (x3 + (1 : Int32)) (x4 + (1 : Int32)) w10 _ _ _ hf hR (lv_sub hl [2, 3, 4, 1, 0] rfl)
def fX8_heldBackBy (a2 : Nat) (x1 : Int32) (w : zW) (k : Int32 → zW → Prop) : Prop :=
  ∃ n9, fX8_heldBackBy_L5 a2 k n9 x1 (0 : Int32) (0 : Int32) w
set_option maxHeartbeats 4000000 in
set_option maxRecDepth 100000 in
theorem mX8_heldBackBy {l : Launch} {D : va_G} {dA : Nat → ClassId} {ad : Nat → Nat} {al : Nat → Prop} {w : zW} {k : Int32 → zW → Prop} {a2 : Nat} {x1 : Int32} (ha2 : al a2 ∧ zsh a2 = 3)  (hf : fX8_heldBackBy a2 x1 w k) : zmetI l yX8_heldBackBy cX8_heldBackBy 5 (some .int) 3 [.ref (ad 24), .int x1, .ref (ad a2)] D dA true ad al w k := by
  refine zmetI_of (by decide) (Nat.le_of_ble_eq_true rfl) ?_
  intro p e R s m below meth c Q H ls args locs cells slots X hr hQ hR hl
  have hx := X.1
  have hb := X.2.1
  have hml := X.2.2.1
  have hown := X.2.2.2.1
  have hts := X.2.2.2.2.1
  unfold fX8_heldBackBy at hf
  have hl : lv_has ls 5 [(0, .ref (ad 24)), (1, .int x1), (2, .ref (ad a2))] := hl
  refine lv_iconst (v := (0 : Int32)) hx hb dX8_heldBackBy_0 (by decide) ?_
  refine lv_istore_n (lv' := [(3, .int (0 : Int32)), (0, .ref (ad 24)), (1, .int x1), (2, .ref (ad a2))]) hx hb dX8_heldBackBy_1 rfl hl (by decide) rfl (fun ls hl => ?_)
  refine lv_iconst (v := (0 : Int32)) hx hb dX8_heldBackBy_2 (by decide) ?_
  refine lv_istore (lv' := [(4, .int (0 : Int32)), (3, .int (0 : Int32)), (0, .ref (ad 24)), (1, .int x1), (2, .ref (ad a2))]) hx hb dX8_heldBackBy_3 hl (by decide) rfl (fun ls hl => ?_)
  obtain ⟨n9, hf⟩ := hf
  exact mX8_heldBackBy_L5 X hr hQ ha2  n9 x1 (0 : Int32) (0 : Int32) w _ _ _ hf hR (lv_sub hl [2, 3, 4, 1, 0] rfl)
/-! X8_alwaysSame -/
def fX8_alwaysSame_L2 (k : Int32 → zW → Prop) : Nat → Int32 → Int32 → Int32 → zW → Prop
  | 0 => fun _ _ _ _ => False
  | n + 1 => fun x1 x2 x3 w =>
    (((gI w 24 3) ≤ x3 →
      k (1 : Int32) w) ∧
     (¬ (gI w 24 3) ≤ x3 →
      ¬ gR w 24 5 = 0 ∧
      (((Int32.ofNat (zln (gR w 24 5))) ≤ x3 →
        k (1 : Int32) w) ∧
       (¬ (Int32.ofNat (zln (gR w 24 5))) ≤ x3 →
        vp_in x3 (zln (gR w 24 5)) ∧ 
        fX8_meaningIn (gI w (gR w 24 5) x3.toNatClampNeg) x1 w (fun r5 w5 =>
        ¬ gR w5 24 5 = 0 ∧
        vp_in x3 (zln (gR w5 24 5)) ∧ 
        fX8_meaningIn (gI w5 (gR w5 24 5) x3.toNatClampNeg) x2 w5 (fun r8 w8 =>
        ((r5 = r8 →
          fX8_alwaysSame_L2 k n x1 x2 (x3 + (1 : Int32)) w8) ∧
         (¬ r5 = r8 →
          k (0 : Int32) w8))))))))
set_option maxHeartbeats 4000000 in
set_option maxRecDepth 100000 in
theorem mX8_alwaysSame_L2 {k : Int32 → zW → Prop} (X : zCx p s m args meth c cX8_alwaysSame 4 RX8 (some .boolean)) (hr : zRm R 1 cells slots) (hQ : zRetZ p l e R s m args below meth c cells slots Q D dA true ad0 al0 ad al cX8_alwaysSame k)  : ∀ (n : Nat) (x1 : Int32) (x2 : Int32) (x3 : Int32) (w : zW) (H : Heap) (locs : List Loc) (ls : Array Slot), fX8_alwaysSame_L2 k n x1 x2 x3 w → zSt D dA true ad0 al0 ad al w s H locs → lv_has ls 4 [(0, .ref (ad 24)), (1, .int x1), (2, .int x2), (3, .int x3)] → W p l e R s m args below meth c H locs cells slots Q (F0 m 2 ls []) := by
  intro n
  induction n with
  | zero => exact fun _ _ _ _ _ _ _ hf => hf.elim
  | succ n ih =>
    intro x1 x2 x3 w H locs ls hf hR hl
    have hx := X.1
    have hb := X.2.1
    have hml := X.2.2.1
    have hown := X.2.2.2.1
    have hts := X.2.2.2.2.1
    rw [fX8_alwaysSame_L2] at hf
    refine lv_iload_n hx hb dX8_alwaysSame_2 rfl (lv_at hl 3 rfl) ?_
    refine lv_aload_n hx hb dX8_alwaysSame_3 rfl (lv_at hl 0 rfl) ?_
    refine z_getI X hR (zlit hR zf_24) zs_24 (by decide) zfd_X8_85 rfl dX8_alwaysSame_4 ?_
    refine lv_icmp_ge (tgt := 50) hx hb dX8_alwaysSame_7 (by decide) (fun c1 => ?_) (fun c1 => ?_)
    · replace hf := hf.1 c1
      refine lv_iconst (v := (1 : Int32)) hx hb dX8_alwaysSame_50 (by decide) ?_
      exact hQ _ _ _ _ _ _ zb01_1 hf hR dX8_alwaysSame_51
    · replace hf := hf.2 c1
      refine lv_iload_n hx hb dX8_alwaysSame_10 rfl (lv_at hl 3 rfl) ?_
      refine lv_aload_n hx hb dX8_alwaysSame_11 rfl (lv_at hl 0 rfl) ?_
      refine z_getR X hR (zlit hR zf_24) zs_24 (by decide) zfd_X8_22 rfl dX8_alwaysSame_12 ?_
      obtain ⟨hn20, hf⟩ := hf
      have hn2 : al (gR w 24 5) ∧ zsh (gR w 24 5) = 20 := zwt_of hR (zlit hR zf_24) zs_24 rfl hn20 (zdc_of zs_24 rfl)
      rw [zrf_pos hn20]
      refine z_alen X hR hn2.1 hn2.2 (by decide) (by decide) rfl (v := Int32.ofNat (zln (gR w 24 5))) rfl dX8_alwaysSame_15 ?_
      refine lv_icmp_ge (tgt := 50) hx hb dX8_alwaysSame_16 (by decide) (fun c3 => ?_) (fun c3 => ?_)
      · replace hf := hf.1 c3
        refine lv_iconst (v := (1 : Int32)) hx hb dX8_alwaysSame_50 (by decide) ?_
        exact hQ _ _ _ _ _ _ zb01_1 hf hR dX8_alwaysSame_51
      · replace hf := hf.2 c3
        refine lv_aload_n hx hb dX8_alwaysSame_19 rfl (lv_at hl 0 rfl) ?_
        refine z_getR X hR (zlit hR zf_24) zs_24 (by decide) zfd_X8_22 rfl dX8_alwaysSame_20 ?_
        rw [zrf_pos hn20]
        refine lv_iload_n hx hb dX8_alwaysSame_23 rfl (lv_at hl 3 rfl) ?_
        obtain ⟨hb4, hf⟩ := hf
        refine z_iald X hR hn2.1 hn2.2 rfl hb4 dX8_alwaysSame_24 ?_
        refine lv_iload_n hx hb dX8_alwaysSame_25 rfl (lv_at hl 1 rfl) ?_
        refine z_callSI (fr1 := 0) (As := [.int (gI w (gR w 24 5) x3.toNatClampNeg), .int x1]) (rest := []) X (hr.le (by decide)) hR zy_X8_meaningIn zq_1145 (mX8_meaningIn  hf) rfl hl (Nat.le_of_ble_eq_true rfl) dX8_alwaysSame_26 rfl (fun r5 w5 H locs hf hR => ?_)
        refine lv_aload_n hx hb dX8_alwaysSame_29 rfl (lv_at hl 0 rfl) ?_
        refine z_getR X hR (zlit hR zf_24) zs_24 (by decide) zfd_X8_22 rfl dX8_alwaysSame_30 ?_
        obtain ⟨hn60, hf⟩ := hf
        have hn6 : al (gR w5 24 5) ∧ zsh (gR w5 24 5) = 20 := zwt_of hR (zlit hR zf_24) zs_24 rfl hn60 (zdc_of zs_24 rfl)
        rw [zrf_pos hn60]
        refine lv_iload_n hx hb dX8_alwaysSame_33 rfl (lv_at hl 3 rfl) ?_
        obtain ⟨hb7, hf⟩ := hf
        refine z_iald X hR hn6.1 hn6.2 rfl hb7 dX8_alwaysSame_34 ?_
        refine lv_iload_n hx hb dX8_alwaysSame_35 rfl (lv_at hl 2 rfl) ?_
        refine z_callSI (fr1 := 0) (As := [.int (gI w5 (gR w5 24 5) x3.toNatClampNeg), .int x2]) (rest := [.int r5]) X (hr.le (by decide)) hR zy_X8_meaningIn zq_1145 (mX8_meaningIn  hf) rfl hl (Nat.le_of_ble_eq_true rfl) dX8_alwaysSame_36 rfl (fun r8 w8 H locs hf hR => ?_)
        refine lv_icmp_eq (tgt := 44) hx hb dX8_alwaysSame_39 (by decide) (fun c9 => ?_) (fun c9 => ?_)
        · replace hf := hf.1 c9
          refine lv_iinc (v := x3 + (1 : Int32)) (lv' := [(3, .int (x3 + (1 : Int32))), (0, .ref (ad 24)), (1, .int x1), (2, .int x2)]) hx hb dX8_alwaysSame_44 hl (k := 3) rfl rfl (by decide) rfl (fun ls hl => ?_)
          refine lv_goto (tgt := 2) hx hb dX8_alwaysSame_47 (by decide) ?_
          exact ih x1 x2 (x3 + (1 : Int32)) w8 _ _ _ hf hR (lv_sub hl [1, 2, 3, 0] rfl)
        · replace hf := hf.2 c9
          refine lv_iconst (v := (0 : Int32)) hx hb dX8_alwaysSame_42 (by decide) ?_
          exact hQ _ _ _ _ _ _ zb01_0 hf hR dX8_alwaysSame_43
def fX8_alwaysSame (x1 : Int32) (x2 : Int32) (w : zW) (k : Int32 → zW → Prop) : Prop :=
  ∃ n9, fX8_alwaysSame_L2 k n9 x1 x2 (0 : Int32) w
set_option maxHeartbeats 4000000 in
set_option maxRecDepth 100000 in
theorem mX8_alwaysSame {l : Launch} {D : va_G} {dA : Nat → ClassId} {ad : Nat → Nat} {al : Nat → Prop} {w : zW} {k : Int32 → zW → Prop} {x1 : Int32} {x2 : Int32}   (hf : fX8_alwaysSame x1 x2 w k) : zmetI l yX8_alwaysSame cX8_alwaysSame 4 (some .boolean) 1 [.ref (ad 24), .int x1, .int x2] D dA true ad al w k := by
  refine zmetZ_of (by decide) (Nat.le_of_ble_eq_true rfl) ?_
  intro p e R s m below meth c Q H ls args locs cells slots X hr hQ hR hl
  have hx := X.1
  have hb := X.2.1
  have hml := X.2.2.1
  have hown := X.2.2.2.1
  have hts := X.2.2.2.2.1
  unfold fX8_alwaysSame at hf
  have hl : lv_has ls 4 [(0, .ref (ad 24)), (1, .int x1), (2, .int x2)] := hl
  refine lv_iconst (v := (0 : Int32)) hx hb dX8_alwaysSame_0 (by decide) ?_
  refine lv_istore_n (lv' := [(3, .int (0 : Int32)), (0, .ref (ad 24)), (1, .int x1), (2, .int x2)]) hx hb dX8_alwaysSame_1 rfl hl (by decide) rfl (fun ls hl => ?_)
  obtain ⟨n9, hf⟩ := hf
  exact mX8_alwaysSame_L2 X hr hQ  n9 x1 x2 (0 : Int32) w _ _ _ hf hR (lv_sub hl [1, 2, 3, 0] rfl)
/-! X9_add -/
def fX9_add (x1 : Int32) (w : zW) (k : zW → Prop) : Prop :=
  ((x1 < 0 →
    k w) ∧
   (¬ x1 < 0 →
    (((121 : Int32) ≤ x1 →
      k w) ∧
     (¬ (121 : Int32) ≤ x1 →
      vp_in x1 121 ∧ 
      ∀ w4 : zW, w4 = sI w 30 x1.toNatClampNeg ((gI w 30 x1.toNatClampNeg) + (1 : Int32)) →
      k w4))))
set_option maxHeartbeats 4000000 in
set_option maxRecDepth 100000 in
theorem mX9_add {l : Launch} {D : va_G} {dA : Nat → ClassId} {ad : Nat → Nat} {al : Nat → Prop} {w : zW} {k : zW → Prop} {x1 : Int32}   (hf : fX9_add x1 w k) : zmetV l yX9_add cX9_add 2 none 0 [.ref (ad 29), .int x1] D dA true ad al w k := by
  refine zmetV_of (by decide) (Nat.le_of_ble_eq_true rfl) ?_
  intro p e R s m below meth c Q H ls args locs cells slots X hr hQ hR hl
  have hx := X.1
  have hb := X.2.1
  have hml := X.2.2.1
  have hown := X.2.2.2.1
  have hts := X.2.2.2.2.1
  unfold fX9_add at hf
  have hl : lv_has ls 2 [(0, .ref (ad 29)), (1, .int x1)] := hl
  refine lv_iload_n hx hb dX9_add_0 rfl (lv_at hl 1 rfl) ?_
  refine lv_if_lt (tgt := 23) hx hb dX9_add_1 (by decide) (fun c1 => ?_) (fun c1 => ?_)
  · replace hf := hf.1 c1
    exact hQ _ _ _ _ _ hf hR dX9_add_23
  · replace hf := hf.2 c1
    refine lv_iload_n hx hb dX9_add_4 rfl (lv_at hl 1 rfl) ?_
    refine lv_aload_n hx hb dX9_add_5 rfl (lv_at hl 0 rfl) ?_
    refine z_getS X hR (zlit hR zf_29) zs_29 (by decide) zfd_X9_9 rfl (r := 30) (by decide +kernel) dX9_add_6 ?_
    refine z_alen X hR (zlit hR zf_30) zs_30 (by decide) (by decide) zl_30 (v := (121 : Int32)) rfl dX9_add_9 ?_
    refine lv_icmp_ge (tgt := 23) hx hb dX9_add_10 (by decide) (fun c2 => ?_) (fun c2 => ?_)
    · replace hf := hf.1 c2
      exact hQ _ _ _ _ _ hf hR dX9_add_23
    · replace hf := hf.2 c2
      refine lv_aload_n hx hb dX9_add_13 rfl (lv_at hl 0 rfl) ?_
      refine z_getS X hR (zlit hR zf_29) zs_29 (by decide) zfd_X9_9 rfl (r := 30) (by decide +kernel) dX9_add_14 ?_
      refine lv_iload_n hx hb dX9_add_17 rfl (lv_at hl 1 rfl) ?_
      refine lv_dup2_11 hx hb dX9_add_18 rfl rfl ?_
      obtain ⟨hb3, hf⟩ := hf
      refine z_iald X hR (zlit hR zf_30) zs_30 zl_30 hb3 dX9_add_19 ?_
      refine lv_iconst (v := (1 : Int32)) hx hb dX9_add_20 (by decide) ?_
      refine lv_iadd hx hb dX9_add_21 ?_
      refine z_iast X hR (zlit hR zf_30) zs_30 zl_30 hb3 dX9_add_22 (fun H locs hR => ?_)
      obtain ⟨w4, hw4⟩ : ∃ z : zW, z = sI w 30 x1.toNatClampNeg ((gI w 30 x1.toNatClampNeg) + (1 : Int32)) := ⟨_, rfl⟩
      rw [← hw4] at hR
      replace hf := hf w4 hw4
      exact hQ _ _ _ _ _ hf hR dX9_add_23
/-! X9_clear -/
def fX9_clear (w : zW) (k : zW → Prop) : Prop :=
  fJ7_fill_53178 30 (0 : Int32) w (fun w1 =>
  k w1)
set_option maxHeartbeats 4000000 in
set_option maxRecDepth 100000 in
theorem mX9_clear {l : Launch} {D : va_G} {dA : Nat → ClassId} {ad : Nat → Nat} {al : Nat → Prop} {w : zW} {k : zW → Prop}   (hf : fX9_clear w k) : zmetV l yX9_clear cX9_clear 1 none 1 [.ref (ad 29)] D dA true ad al w k := by
  refine zmetV_of (by decide) (Nat.le_of_ble_eq_true rfl) ?_
  intro p e R s m below meth c Q H ls args locs cells slots X hr hQ hR hl
  have hx := X.1
  have hb := X.2.1
  have hml := X.2.2.1
  have hown := X.2.2.2.1
  have hts := X.2.2.2.2.1
  unfold fX9_clear at hf
  have hl : lv_has ls 1 [(0, .ref (ad 29))] := hl
  refine lv_aload_n hx hb dX9_clear_0 rfl (lv_at hl 0 rfl) ?_
  refine z_getS X hR (zlit hR zf_29) zs_29 (by decide) zfd_X9_9 rfl (r := 30) (by decide +kernel) dX9_clear_1 ?_
  refine lv_iconst (v := (0 : Int32)) hx hb dX9_clear_4 (by decide) ?_
  refine z_callSV (fr1 := 0) (As := [.ref (ad 30), .int (0 : Int32)]) (rest := []) X (hr.le (by decide)) hR zy_J7_fill_53178 zq_1144 (mJ7_fill_53178 ⟨(zlit hR zf_30), zs_30⟩ hf) rfl hl (Nat.le_of_ble_eq_true rfl) dX9_clear_5 rfl (fun w1 H locs hf hR => ?_)
  exact hQ _ _ _ _ _ hf hR dX9_clear_8
/-! X8_tallyWord -/
def fX8_tallyWord_L6 (k : zW → Prop) : Nat → Int32 → Int32 → zW → Prop
  | 0 => fun _ _ _ => False
  | n + 1 => fun x1 x3 w =>
    (((gI w 24 3) ≤ x3 →
      k w) ∧
     (¬ (gI w 24 3) ≤ x3 →
      ¬ gR w 24 5 = 0 ∧
      (((Int32.ofNat (zln (gR w 24 5))) ≤ x3 →
        k w) ∧
       (¬ (Int32.ofNat (zln (gR w 24 5))) ≤ x3 →
        vp_in x3 (zln (gR w 24 5)) ∧ 
        fX8_meaningIn (gI w (gR w 24 5) x3.toNatClampNeg) x1 w (fun r6 w6 =>
        fX9_add r6 w6 (fun w7 =>
        fX8_tallyWord_L6 k n x1 (x3 + (1 : Int32)) w7))))))
set_option maxHeartbeats 4000000 in
set_option maxRecDepth 100000 in
theorem mX8_tallyWord_L6 {k : zW → Prop} (X : zCx p s m args meth c cX8_tallyWord 4 RX8 none) (hr : zRm R 2 cells slots) (hQ : zRetV p l e R s m args below meth c cells slots Q D dA true ad0 al0 ad al cX8_tallyWord k)  : ∀ (n : Nat) (x1 : Int32) (x3 : Int32) (w : zW) (H : Heap) (locs : List Loc) (ls : Array Slot), fX8_tallyWord_L6 k n x1 x3 w → zSt D dA true ad0 al0 ad al w s H locs → lv_has ls 4 [(0, .ref (ad 24)), (1, .int x1), (2, .ref (ad 29)), (3, .int x3)] → W p l e R s m args below meth c H locs cells slots Q (F0 m 6 ls []) := by
  intro n
  induction n with
  | zero => exact fun _ _ _ _ _ _ hf => hf.elim
  | succ n ih =>
    intro x1 x3 w H locs ls hf hR hl
    have hx := X.1
    have hb := X.2.1
    have hml := X.2.2.1
    have hown := X.2.2.2.1
    have hts := X.2.2.2.2.1
    rw [fX8_tallyWord_L6] at hf
    refine lv_iload_n hx hb dX8_tallyWord_6 rfl (lv_at hl 3 rfl) ?_
    refine lv_aload_n hx hb dX8_tallyWord_7 rfl (lv_at hl 0 rfl) ?_
    refine z_getI X hR (zlit hR zf_24) zs_24 (by decide) zfd_X8_85 rfl dX8_tallyWord_8 ?_
    refine lv_icmp_ge (tgt := 43) hx hb dX8_tallyWord_11 (by decide) (fun c2 => ?_) (fun c2 => ?_)
    · replace hf := hf.1 c2
      exact hQ _ _ _ _ _ hf hR dX8_tallyWord_43
    · replace hf := hf.2 c2
      refine lv_iload_n hx hb dX8_tallyWord_14 rfl (lv_at hl 3 rfl) ?_
      refine lv_aload_n hx hb dX8_tallyWord_15 rfl (lv_at hl 0 rfl) ?_
      refine z_getR X hR (zlit hR zf_24) zs_24 (by decide) zfd_X8_22 rfl dX8_tallyWord_16 ?_
      obtain ⟨hn30, hf⟩ := hf
      have hn3 : al (gR w 24 5) ∧ zsh (gR w 24 5) = 20 := zwt_of hR (zlit hR zf_24) zs_24 rfl hn30 (zdc_of zs_24 rfl)
      rw [zrf_pos hn30]
      refine z_alen X hR hn3.1 hn3.2 (by decide) (by decide) rfl (v := Int32.ofNat (zln (gR w 24 5))) rfl dX8_tallyWord_19 ?_
      refine lv_icmp_ge (tgt := 43) hx hb dX8_tallyWord_20 (by decide) (fun c4 => ?_) (fun c4 => ?_)
      · replace hf := hf.1 c4
        exact hQ _ _ _ _ _ hf hR dX8_tallyWord_43
      · replace hf := hf.2 c4
        refine lv_aload_n hx hb dX8_tallyWord_23 rfl (lv_at hl 2 rfl) ?_
        refine lv_aload_n hx hb dX8_tallyWord_24 rfl (lv_at hl 0 rfl) ?_
        refine z_getR X hR (zlit hR zf_24) zs_24 (by decide) zfd_X8_22 rfl dX8_tallyWord_25 ?_
        rw [zrf_pos hn30]
        refine lv_iload_n hx hb dX8_tallyWord_28 rfl (lv_at hl 3 rfl) ?_
        obtain ⟨hb5, hf⟩ := hf
        refine z_iald X hR hn3.1 hn3.2 rfl hb5 dX8_tallyWord_29 ?_
        refine lv_iload_n hx hb dX8_tallyWord_30 rfl (lv_at hl 1 rfl) ?_
        refine z_callSI (fr1 := 0) (As := [.int (gI w (gR w 24 5) x3.toNatClampNeg), .int x1]) (rest := [.ref (ad 29)]) X (hr.le (by decide)) hR zy_X8_meaningIn zq_1145 (mX8_meaningIn  hf) rfl hl (Nat.le_of_ble_eq_true rfl) dX8_tallyWord_31 rfl (fun r6 w6 H locs hf hR => ?_)
        refine z_callVV (fr1 := 0) (b := 29) (As := [.int r6]) (rest := []) X (hr.le (by decide)) hR zy_X9_add zq_1146 (zlit hR zf_29) (by rw [zs_29]; rfl) rfl (mX9_add  hf) rfl hl (Nat.le_of_ble_eq_true rfl) dX8_tallyWord_34 rfl (fun w7 H locs hf hR => ?_)
        refine lv_iinc (v := x3 + (1 : Int32)) (lv' := [(3, .int (x3 + (1 : Int32))), (0, .ref (ad 24)), (1, .int x1), (2, .ref (ad 29))]) hx hb dX8_tallyWord_37 hl (k := 3) rfl rfl (by decide) rfl (fun ls hl => ?_)
        refine lv_goto (tgt := 6) hx hb dX8_tallyWord_40 (by decide) ?_
        exact ih x1 (x3 + (1 : Int32)) w7 _ _ _ hf hR (lv_sub hl [1, 2, 3, 0] rfl)
def fX8_tallyWord (x1 : Int32) (w : zW) (k : zW → Prop) : Prop :=
  fX9_clear  w (fun w1 =>
  ∃ n9, fX8_tallyWord_L6 k n9 x1 (0 : Int32) w1)
set_option maxHeartbeats 4000000 in
set_option maxRecDepth 100000 in
theorem mX8_tallyWord {l : Launch} {D : va_G} {dA : Nat → ClassId} {ad : Nat → Nat} {al : Nat → Prop} {w : zW} {k : zW → Prop} {x1 : Int32}   (hf : fX8_tallyWord x1 w k) : zmetV l yX8_tallyWord cX8_tallyWord 4 none 2 [.ref (ad 24), .int x1, .ref (ad 29)] D dA true ad al w k := by
  refine zmetV_of (by decide) (Nat.le_of_ble_eq_true rfl) ?_
  intro p e R s m below meth c Q H ls args locs cells slots X hr hQ hR hl
  have hx := X.1
  have hb := X.2.1
  have hml := X.2.2.1
  have hown := X.2.2.2.1
  have hts := X.2.2.2.2.1
  unfold fX8_tallyWord at hf
  have hl : lv_has ls 4 [(0, .ref (ad 24)), (1, .int x1), (2, .ref (ad 29))] := hl
  refine lv_aload_n hx hb dX8_tallyWord_0 rfl (lv_at hl 2 rfl) ?_
  refine z_callVV (fr1 := 1) (b := 29) (As := []) (rest := []) X (hr.le (by decide)) hR zy_X9_clear zq_1140 (zlit hR zf_29) (by rw [zs_29]; rfl) rfl (mX9_clear  hf) rfl hl (Nat.le_of_ble_eq_true rfl) dX8_tallyWord_1 rfl (fun w1 H locs hf hR => ?_)
  refine lv_iconst (v := (0 : Int32)) hx hb dX8_tallyWord_4 (by decide) ?_
  refine lv_istore_n (lv' := [(3, .int (0 : Int32)), (0, .ref (ad 24)), (1, .int x1), (2, .ref (ad 29))]) hx hb dX8_tallyWord_5 rfl hl (by decide) rfl (fun ls hl => ?_)
  obtain ⟨n9, hf⟩ := hf
  exact mX8_tallyWord_L6 X hr hQ  n9 x1 (0 : Int32) w1 _ _ _ hf hR (lv_sub hl [1, 2, 3, 0] rfl)
/-! X8_tallyRow -/
def fX8_tallyRow_L6 (k : zW → Prop) : Nat → Int32 → Int32 → zW → Prop
  | 0 => fun _ _ _ => False
  | n + 1 => fun x1 x3 w =>
    (((gI w 24 3) ≤ x3 →
      k w) ∧
     (¬ (gI w 24 3) ≤ x3 →
      ¬ gR w 24 5 = 0 ∧
      (((Int32.ofNat (zln (gR w 24 5))) ≤ x3 →
        k w) ∧
       (¬ (Int32.ofNat (zln (gR w 24 5))) ≤ x3 →
        ¬ gR w 24 9 = 0 ∧
        vp_in x3 (zln (gR w 24 5)) ∧ 
        fX0_leavesOf (gR w 24 9) x1 (gI w (gR w 24 5) x3.toNatClampNeg) w (fun r7 w7 =>
        fX9_add r7 w7 (fun w8 =>
        fX8_tallyRow_L6 k n x1 (x3 + (1 : Int32)) w8))))))
set_option maxHeartbeats 4000000 in
set_option maxRecDepth 100000 in
theorem mX8_tallyRow_L6 {k : zW → Prop} (X : zCx p s m args meth c cX8_tallyRow 4 RX8 none) (hr : zRm R 2 cells slots) (hQ : zRetV p l e R s m args below meth c cells slots Q D dA true ad0 al0 ad al cX8_tallyRow k)  : ∀ (n : Nat) (x1 : Int32) (x3 : Int32) (w : zW) (H : Heap) (locs : List Loc) (ls : Array Slot), fX8_tallyRow_L6 k n x1 x3 w → zSt D dA true ad0 al0 ad al w s H locs → lv_has ls 4 [(0, .ref (ad 24)), (1, .int x1), (2, .ref (ad 29)), (3, .int x3)] → W p l e R s m args below meth c H locs cells slots Q (F0 m 6 ls []) := by
  intro n
  induction n with
  | zero => exact fun _ _ _ _ _ _ hf => hf.elim
  | succ n ih =>
    intro x1 x3 w H locs ls hf hR hl
    have hx := X.1
    have hb := X.2.1
    have hml := X.2.2.1
    have hown := X.2.2.2.1
    have hts := X.2.2.2.2.1
    rw [fX8_tallyRow_L6] at hf
    refine lv_iload_n hx hb dX8_tallyRow_6 rfl (lv_at hl 3 rfl) ?_
    refine lv_aload_n hx hb dX8_tallyRow_7 rfl (lv_at hl 0 rfl) ?_
    refine z_getI X hR (zlit hR zf_24) zs_24 (by decide) zfd_X8_85 rfl dX8_tallyRow_8 ?_
    refine lv_icmp_ge (tgt := 47) hx hb dX8_tallyRow_11 (by decide) (fun c2 => ?_) (fun c2 => ?_)
    · replace hf := hf.1 c2
      exact hQ _ _ _ _ _ hf hR dX8_tallyRow_47
    · replace hf := hf.2 c2
      refine lv_iload_n hx hb dX8_tallyRow_14 rfl (lv_at hl 3 rfl) ?_
      refine lv_aload_n hx hb dX8_tallyRow_15 rfl (lv_at hl 0 rfl) ?_
      refine z_getR X hR (zlit hR zf_24) zs_24 (by decide) zfd_X8_22 rfl dX8_tallyRow_16 ?_
      obtain ⟨hn30, hf⟩ := hf
      have hn3 : al (gR w 24 5) ∧ zsh (gR w 24 5) = 20 := zwt_of hR (zlit hR zf_24) zs_24 rfl hn30 (zdc_of zs_24 rfl)
      rw [zrf_pos hn30]
      refine z_alen X hR hn3.1 hn3.2 (by decide) (by decide) rfl (v := Int32.ofNat (zln (gR w 24 5))) rfl dX8_tallyRow_19 ?_
      refine lv_icmp_ge (tgt := 47) hx hb dX8_tallyRow_20 (by decide) (fun c4 => ?_) (fun c4 => ?_)
      · replace hf := hf.1 c4
        exact hQ _ _ _ _ _ hf hR dX8_tallyRow_47
      · replace hf := hf.2 c4
        refine lv_aload_n hx hb dX8_tallyRow_23 rfl (lv_at hl 2 rfl) ?_
        refine lv_aload_n hx hb dX8_tallyRow_24 rfl (lv_at hl 0 rfl) ?_
        refine z_getR X hR (zlit hR zf_24) zs_24 (by decide) zfd_X8_31 rfl dX8_tallyRow_25 ?_
        obtain ⟨hn50, hf⟩ := hf
        have hn5 : al (gR w 24 9) ∧ zsh (gR w 24 9) = 0 := zwt_of hR (zlit hR zf_24) zs_24 rfl hn50 (zdc_of zs_24 rfl)
        rw [zrf_pos hn50]
        refine lv_iload_n hx hb dX8_tallyRow_28 rfl (lv_at hl 1 rfl) ?_
        refine lv_aload_n hx hb dX8_tallyRow_29 rfl (lv_at hl 0 rfl) ?_
        refine z_getR X hR (zlit hR zf_24) zs_24 (by decide) zfd_X8_22 rfl dX8_tallyRow_30 ?_
        rw [zrf_pos hn30]
        refine lv_iload_n hx hb dX8_tallyRow_33 rfl (lv_at hl 3 rfl) ?_
        obtain ⟨hb6, hf⟩ := hf
        refine z_iald X hR hn3.1 hn3.2 rfl hb6 dX8_tallyRow_34 ?_
        refine z_callVI (fr1 := 0) (b := (gR w 24 9)) (As := [.int x1, .int (gI w (gR w 24 5) x3.toNatClampNeg)]) (rest := [.ref (ad 29)]) X (hr.le (by decide)) hR zy_X0_leavesOf zq_1214 hn5.1 (by rw [hn5.2]; rfl) rfl (mX0_leavesOf ⟨hn5.1, hn5.2⟩ hf) rfl hl (Nat.le_of_ble_eq_true rfl) dX8_tallyRow_35 rfl (fun r7 w7 H locs hf hR => ?_)
        refine z_callVV (fr1 := 0) (b := 29) (As := [.int r7]) (rest := []) X (hr.le (by decide)) hR zy_X9_add zq_1146 (zlit hR zf_29) (by rw [zs_29]; rfl) rfl (mX9_add  hf) rfl hl (Nat.le_of_ble_eq_true rfl) dX8_tallyRow_38 rfl (fun w8 H locs hf hR => ?_)
        refine lv_iinc (v := x3 + (1 : Int32)) (lv' := [(3, .int (x3 + (1 : Int32))), (0, .ref (ad 24)), (1, .int x1), (2, .ref (ad 29))]) hx hb dX8_tallyRow_41 hl (k := 3) rfl rfl (by decide) rfl (fun ls hl => ?_)
        refine lv_goto (tgt := 6) hx hb dX8_tallyRow_44 (by decide) ?_
        exact ih x1 (x3 + (1 : Int32)) w8 _ _ _ hf hR (lv_sub hl [1, 2, 3, 0] rfl)
def fX8_tallyRow (x1 : Int32) (w : zW) (k : zW → Prop) : Prop :=
  fX9_clear  w (fun w1 =>
  ∃ n9, fX8_tallyRow_L6 k n9 x1 (0 : Int32) w1)
set_option maxHeartbeats 4000000 in
set_option maxRecDepth 100000 in
theorem mX8_tallyRow {l : Launch} {D : va_G} {dA : Nat → ClassId} {ad : Nat → Nat} {al : Nat → Prop} {w : zW} {k : zW → Prop} {x1 : Int32}   (hf : fX8_tallyRow x1 w k) : zmetV l yX8_tallyRow cX8_tallyRow 4 none 2 [.ref (ad 24), .int x1, .ref (ad 29)] D dA true ad al w k := by
  refine zmetV_of (by decide) (Nat.le_of_ble_eq_true rfl) ?_
  intro p e R s m below meth c Q H ls args locs cells slots X hr hQ hR hl
  have hx := X.1
  have hb := X.2.1
  have hml := X.2.2.1
  have hown := X.2.2.2.1
  have hts := X.2.2.2.2.1
  unfold fX8_tallyRow at hf
  have hl : lv_has ls 4 [(0, .ref (ad 24)), (1, .int x1), (2, .ref (ad 29))] := hl
  refine lv_aload_n hx hb dX8_tallyRow_0 rfl (lv_at hl 2 rfl) ?_
  refine z_callVV (fr1 := 1) (b := 29) (As := []) (rest := []) X (hr.le (by decide)) hR zy_X9_clear zq_1140 (zlit hR zf_29) (by rw [zs_29]; rfl) rfl (mX9_clear  hf) rfl hl (Nat.le_of_ble_eq_true rfl) dX8_tallyRow_1 rfl (fun w1 H locs hf hR => ?_)
  refine lv_iconst (v := (0 : Int32)) hx hb dX8_tallyRow_4 (by decide) ?_
  refine lv_istore_n (lv' := [(3, .int (0 : Int32)), (0, .ref (ad 24)), (1, .int x1), (2, .ref (ad 29))]) hx hb dX8_tallyRow_5 rfl hl (by decide) rfl (fun ls hl => ?_)
  obtain ⟨n9, hf⟩ := hf
  exact mX8_tallyRow_L6 X hr hQ  n9 x1 (0 : Int32) w1 _ _ _ hf hR (lv_sub hl [1, 2, 3, 0] rfl)
/-! X9_of -/
def fX9_of (x1 : Int32) (w : zW) (k : Int32 → zW → Prop) : Prop :=
  ((x1 < 0 →
    k (0 : Int32) w) ∧
   (¬ x1 < 0 →
    (((121 : Int32) ≤ x1 →
      k (0 : Int32) w) ∧
     (¬ (121 : Int32) ≤ x1 →
      vp_in x1 121 ∧ 
      k (gI w 30 x1.toNatClampNeg) w))))
set_option maxHeartbeats 4000000 in
set_option maxRecDepth 100000 in
theorem mX9_of {l : Launch} {D : va_G} {dA : Nat → ClassId} {ad : Nat → Nat} {al : Nat → Prop} {w : zW} {k : Int32 → zW → Prop} {x1 : Int32}   (hf : fX9_of x1 w k) : zmetI l yX9_of cX9_of 2 (some .int) 0 [.ref (ad 29), .int x1] D dA true ad al w k := by
  refine zmetI_of (by decide) (Nat.le_of_ble_eq_true rfl) ?_
  intro p e R s m below meth c Q H ls args locs cells slots X hr hQ hR hl
  have hx := X.1
  have hb := X.2.1
  have hml := X.2.2.1
  have hown := X.2.2.2.1
  have hts := X.2.2.2.2.1
  unfold fX9_of at hf
  have hl : lv_has ls 2 [(0, .ref (ad 29)), (1, .int x1)] := hl
  refine lv_iload_n hx hb dX9_of_0 rfl (lv_at hl 1 rfl) ?_
  refine lv_if_lt (tgt := 22) hx hb dX9_of_1 (by decide) (fun c1 => ?_) (fun c1 => ?_)
  · replace hf := hf.1 c1
    refine lv_iconst (v := (0 : Int32)) hx hb dX9_of_22 (by decide) ?_
    exact hQ _ _ _ _ _ _ hf hR dX9_of_23
  · replace hf := hf.2 c1
    refine lv_iload_n hx hb dX9_of_4 rfl (lv_at hl 1 rfl) ?_
    refine lv_aload_n hx hb dX9_of_5 rfl (lv_at hl 0 rfl) ?_
    refine z_getS X hR (zlit hR zf_29) zs_29 (by decide) zfd_X9_9 rfl (r := 30) (by decide +kernel) dX9_of_6 ?_
    refine z_alen X hR (zlit hR zf_30) zs_30 (by decide) (by decide) zl_30 (v := (121 : Int32)) rfl dX9_of_9 ?_
    refine lv_icmp_ge (tgt := 22) hx hb dX9_of_10 (by decide) (fun c2 => ?_) (fun c2 => ?_)
    · replace hf := hf.1 c2
      refine lv_iconst (v := (0 : Int32)) hx hb dX9_of_22 (by decide) ?_
      exact hQ _ _ _ _ _ _ hf hR dX9_of_23
    · replace hf := hf.2 c2
      refine lv_aload_n hx hb dX9_of_13 rfl (lv_at hl 0 rfl) ?_
      refine z_getS X hR (zlit hR zf_29) zs_29 (by decide) zfd_X9_9 rfl (r := 30) (by decide +kernel) dX9_of_14 ?_
      refine lv_iload_n hx hb dX9_of_17 rfl (lv_at hl 1 rfl) ?_
      obtain ⟨hb3, hf⟩ := hf
      refine z_iald X hR (zlit hR zf_30) zs_30 zl_30 hb3 dX9_of_18 ?_
      refine lv_goto (tgt := 23) hx hb dX9_of_19 (by decide) ?_
      exact hQ _ _ _ _ _ _ hf hR dX9_of_23
/-! X9_from -/
def fX9_from_L8 (k : Int32 → zW → Prop) : Nat → Int32 → Int32 → zW → Prop
  | 0 => fun _ _ _ => False
  | n + 1 => fun x2 x3 w =>
    (((121 : Int32) ≤ x3 →
      k x2 w) ∧
     (¬ (121 : Int32) ≤ x3 →
      vp_in x3 121 ∧ 
      ∀ v4 : Int32, v4 = x2 + (gI w 30 x3.toNatClampNeg) →
      fX9_from_L8 k n v4 (x3 + (1 : Int32)) w))
set_option maxHeartbeats 4000000 in
set_option maxRecDepth 100000 in
theorem mX9_from_L8 {k : Int32 → zW → Prop} (X : zCx p s m args meth c cX9_from 4 RX9 (some .int)) (hr : zRm R 1 cells slots) (hQ : zRetI p l e R s m args below meth c cells slots Q D dA true ad0 al0 ad al cX9_from k)  : ∀ (n : Nat) (x2 : Int32) (x3 : Int32) (w : zW) (H : Heap) (locs : List Loc) (ls : Array Slot), fX9_from_L8 k n x2 x3 w → zSt D dA true ad0 al0 ad al w s H locs → lv_has ls 4 [(0, .ref (ad 29)), (2, .int x2), (3, .int x3)] → W p l e R s m args below meth c H locs cells slots Q (F0 m 8 ls []) := by
  intro n
  induction n with
  | zero => exact fun _ _ _ _ _ _ hf => hf.elim
  | succ n ih =>
    intro x2 x3 w H locs ls hf hR hl
    have hx := X.1
    have hb := X.2.1
    have hml := X.2.2.1
    have hown := X.2.2.2.1
    have hts := X.2.2.2.2.1
    rw [fX9_from_L8] at hf
    refine lv_iload_n hx hb dX9_from_8 rfl (lv_at hl 2 rfl) ?_
    refine lv_aload_n hx hb dX9_from_9 rfl (lv_at hl 0 rfl) ?_
    refine z_getS X hR (zlit hR zf_29) zs_29 (by decide) zfd_X9_9 rfl (r := 30) (by decide +kernel) dX9_from_10 ?_
    refine z_alen X hR (zlit hR zf_30) zs_30 (by decide) (by decide) zl_30 (v := (121 : Int32)) rfl dX9_from_13 ?_
    refine lv_icmp_ge (tgt := 32) hx hb dX9_from_14 (by decide) (fun c2 => ?_) (fun c2 => ?_)
    · replace hf := hf.1 c2
      refine lv_iload_n hx hb dX9_from_32 rfl (lv_at hl 1 rfl) ?_
      exact hQ _ _ _ _ _ _ hf hR dX9_from_33
    · replace hf := hf.2 c2
      refine lv_iload_n hx hb dX9_from_17 rfl (lv_at hl 1 rfl) ?_
      refine lv_aload_n hx hb dX9_from_18 rfl (lv_at hl 0 rfl) ?_
      refine z_getS X hR (zlit hR zf_29) zs_29 (by decide) zfd_X9_9 rfl (r := 30) (by decide +kernel) dX9_from_19 ?_
      refine lv_iload_n hx hb dX9_from_22 rfl (lv_at hl 2 rfl) ?_
      obtain ⟨hb3, hf⟩ := hf
      refine z_iald X hR (zlit hR zf_30) zs_30 zl_30 hb3 dX9_from_23 ?_
      refine lv_iadd hx hb dX9_from_24 ?_
      refine lv_topi (fun v4 hv4 => ?_)
      replace hf := hf v4 hv4
      refine lv_istore_n (lv' := [(2, .int v4), (0, .ref (ad 29)), (3, .int x3)]) hx hb dX9_from_25 rfl hl (by decide) rfl (fun ls hl => ?_)
      refine lv_iinc (v := x3 + (1 : Int32)) (lv' := [(3, .int (x3 + (1 : Int32))), (2, .int v4), (0, .ref (ad 29))]) hx hb dX9_from_26 hl (k := 2) rfl rfl (by decide) rfl (fun ls hl => ?_)
      refine lv_goto (tgt := 8) hx hb dX9_from_29 (by decide) ?_
      exact ih v4 (x3 + (1 : Int32)) w _ _ _ hf hR (lv_sub hl [2, 1, 0] rfl)
def fX9_from (x1 : Int32) (w : zW) (k : Int32 → zW → Prop) : Prop :=
  ∀ v1 : Int32, v1 = (if x1 < (0 : Int32) then (0 : Int32) else x1) →
  ∃ n9, fX9_from_L8 k n9 (0 : Int32) v1 w
set_option maxHeartbeats 4000000 in
set_option maxRecDepth 100000 in
theorem mX9_from {l : Launch} {D : va_G} {dA : Nat → ClassId} {ad : Nat → Nat} {al : Nat → Prop} {w : zW} {k : Int32 → zW → Prop} {x1 : Int32}   (hf : fX9_from x1 w k) : zmetI l yX9_from cX9_from 4 (some .int) 1 [.ref (ad 29), .int x1] D dA true ad al w k := by
  refine zmetI_of (by decide) (Nat.le_of_ble_eq_true rfl) ?_
  intro p e R s m below meth c Q H ls args locs cells slots X hr hQ hR hl
  have hx := X.1
  have hb := X.2.1
  have hml := X.2.2.1
  have hown := X.2.2.2.1
  have hts := X.2.2.2.2.1
  unfold fX9_from at hf
  have hl : lv_has ls 4 [(0, .ref (ad 29)), (1, .int x1)] := hl
  refine lv_iconst (v := (0 : Int32)) hx hb dX9_from_0 (by decide) ?_
  refine lv_istore_n (lv' := [(2, .int (0 : Int32)), (0, .ref (ad 29)), (1, .int x1)]) hx hb dX9_from_1 rfl hl (by decide) rfl (fun ls hl => ?_)
  refine lv_iload_n hx hb dX9_from_2 rfl (lv_at hl 2 rfl) ?_
  refine lv_iconst (v := (0 : Int32)) hx hb dX9_from_3 (by decide) ?_
  refine va_mmax hx hb (by rw [hml]; exact hl.1.symm) hown (hts _ zq_1277) (hts _ zq_335) (hts _ zq_336) (hts _ zq_337) (by have := hr.1; omega) (by have := hr.2.1; show (List.sum []) + 13 ≤ R.locals; simp only [List.sum_cons, List.sum_nil, Value.category]; omega) hr.2.2.1 hr.2.2.2 dX9_from_4 ?_
  refine lv_topi (fun v1 hv1 => ?_)
  replace hf := hf v1 hv1
  refine lv_istore_n (lv' := [(3, .int v1), (2, .int (0 : Int32)), (0, .ref (ad 29)), (1, .int x1)]) hx hb dX9_from_7 rfl hl (by decide) rfl (fun ls hl => ?_)
  obtain ⟨n9, hf⟩ := hf
  exact mX9_from_L8 X hr hQ  n9 (0 : Int32) v1 w _ _ _ hf hR (lv_sub hl [2, 1, 0] rfl)
/-! X9_lowest -/
def fX9_lowest_L2 (k : Int32 → zW → Prop) : Nat → Int32 → zW → Prop
  | 0 => fun _ _ => False
  | n + 1 => fun x1 w =>
    (((121 : Int32) ≤ x1 →
      k (-1 : Int32) w) ∧
     (¬ (121 : Int32) ≤ x1 →
      vp_in x1 121 ∧ 
      (((gI w 30 x1.toNatClampNeg) = 0 →
        fX9_lowest_L2 k n (x1 + (1 : Int32)) w) ∧
       (¬ (gI w 30 x1.toNatClampNeg) = 0 →
        k x1 w))))
set_option maxHeartbeats 4000000 in
set_option maxRecDepth 100000 in
theorem mX9_lowest_L2 {k : Int32 → zW → Prop} (X : zCx p s m args meth c cX9_lowest 2 RX9 (some .int)) (hr : zRm R 0 cells slots) (hQ : zRetI p l e R s m args below meth c cells slots Q D dA true ad0 al0 ad al cX9_lowest k)  : ∀ (n : Nat) (x1 : Int32) (w : zW) (H : Heap) (locs : List Loc) (ls : Array Slot), fX9_lowest_L2 k n x1 w → zSt D dA true ad0 al0 ad al w s H locs → lv_has ls 2 [(0, .ref (ad 29)), (1, .int x1)] → W p l e R s m args below meth c H locs cells slots Q (F0 m 2 ls []) := by
  intro n
  induction n with
  | zero => exact fun _ _ _ _ _ hf => hf.elim
  | succ n ih =>
    intro x1 w H locs ls hf hR hl
    have hx := X.1
    have hb := X.2.1
    have hml := X.2.2.1
    have hown := X.2.2.2.1
    have hts := X.2.2.2.2.1
    rw [fX9_lowest_L2] at hf
    refine lv_iload_n hx hb dX9_lowest_2 rfl (lv_at hl 1 rfl) ?_
    refine lv_aload_n hx hb dX9_lowest_3 rfl (lv_at hl 0 rfl) ?_
    refine z_getS X hR (zlit hR zf_29) zs_29 (by decide) zfd_X9_9 rfl (r := 30) (by decide +kernel) dX9_lowest_4 ?_
    refine z_alen X hR (zlit hR zf_30) zs_30 (by decide) (by decide) zl_30 (v := (121 : Int32)) rfl dX9_lowest_7 ?_
    refine lv_icmp_ge (tgt := 28) hx hb dX9_lowest_8 (by decide) (fun c1 => ?_) (fun c1 => ?_)
    · replace hf := hf.1 c1
      refine lv_iconst (v := (-1 : Int32)) hx hb dX9_lowest_28 (by decide) ?_
      exact hQ _ _ _ _ _ _ hf hR dX9_lowest_29
    · replace hf := hf.2 c1
      refine lv_aload_n hx hb dX9_lowest_11 rfl (lv_at hl 0 rfl) ?_
      refine z_getS X hR (zlit hR zf_29) zs_29 (by decide) zfd_X9_9 rfl (r := 30) (by decide +kernel) dX9_lowest_12 ?_
      refine lv_iload_n hx hb dX9_lowest_15 rfl (lv_at hl 1 rfl) ?_
      obtain ⟨hb2, hf⟩ := hf
      refine z_iald X hR (zlit hR zf_30) zs_30 zl_30 hb2 dX9_lowest_16 ?_
      refine lv_if_eq (tgt := 22) hx hb dX9_lowest_17 (by decide) (fun c3 => ?_) (fun c3 => ?_)
      · replace hf := hf.1 c3
        refine lv_iinc (v := x1 + (1 : Int32)) (lv' := [(1, .int (x1 + (1 : Int32))), (0, .ref (ad 29))]) hx hb dX9_lowest_22 hl (k := 1) rfl rfl (by decide) rfl (fun ls hl => ?_)
        refine lv_goto (tgt := 2) hx hb dX9_lowest_25 (by decide) ?_
        exact ih (x1 + (1 : Int32)) w _ _ _ hf hR (lv_sub hl [1, 0] rfl)
      · replace hf := hf.2 c3
        refine lv_iload_n hx hb dX9_lowest_20 rfl (lv_at hl 1 rfl) ?_
        exact hQ _ _ _ _ _ _ hf hR dX9_lowest_21
def fX9_lowest (w : zW) (k : Int32 → zW → Prop) : Prop :=
  ∃ n9, fX9_lowest_L2 k n9 (0 : Int32) w
set_option maxHeartbeats 4000000 in
set_option maxRecDepth 100000 in
theorem mX9_lowest {l : Launch} {D : va_G} {dA : Nat → ClassId} {ad : Nat → Nat} {al : Nat → Prop} {w : zW} {k : Int32 → zW → Prop}   (hf : fX9_lowest w k) : zmetI l yX9_lowest cX9_lowest 2 (some .int) 0 [.ref (ad 29)] D dA true ad al w k := by
  refine zmetI_of (by decide) (Nat.le_of_ble_eq_true rfl) ?_
  intro p e R s m below meth c Q H ls args locs cells slots X hr hQ hR hl
  have hx := X.1
  have hb := X.2.1
  have hml := X.2.2.1
  have hown := X.2.2.2.1
  have hts := X.2.2.2.2.1
  unfold fX9_lowest at hf
  have hl : lv_has ls 2 [(0, .ref (ad 29))] := hl
  refine lv_iconst (v := (0 : Int32)) hx hb dX9_lowest_0 (by decide) ?_
  refine lv_istore_n (lv' := [(1, .int (0 : Int32)), (0, .ref (ad 29))]) hx hb dX9_lowest_1 rfl hl (by decide) rfl (fun ls hl => ?_)
  obtain ⟨n9, hf⟩ := hf
  exact mX9_lowest_L2 X hr hQ  n9 (0 : Int32) w _ _ _ hf hR (lv_sub hl [1, 0] rfl)
/-! X9_highest -/
def fX9_highest_L8 (k : Int32 → zW → Prop) : Nat → Int32 → zW → Prop
  | 0 => fun _ _ => False
  | n + 1 => fun x1 w =>
    ((x1 < 0 →
      k (-1 : Int32) w) ∧
     (¬ x1 < 0 →
      vp_in x1 121 ∧ 
      (((gI w 30 x1.toNatClampNeg) = 0 →
        fX9_highest_L8 k n (x1 + (-1 : Int32)) w) ∧
       (¬ (gI w 30 x1.toNatClampNeg) = 0 →
        k x1 w))))
set_option maxHeartbeats 4000000 in
set_option maxRecDepth 100000 in
theorem mX9_highest_L8 {k : Int32 → zW → Prop} (X : zCx p s m args meth c cX9_highest 2 RX9 (some .int)) (hr : zRm R 0 cells slots) (hQ : zRetI p l e R s m args below meth c cells slots Q D dA true ad0 al0 ad al cX9_highest k)  : ∀ (n : Nat) (x1 : Int32) (w : zW) (H : Heap) (locs : List Loc) (ls : Array Slot), fX9_highest_L8 k n x1 w → zSt D dA true ad0 al0 ad al w s H locs → lv_has ls 2 [(0, .ref (ad 29)), (1, .int x1)] → W p l e R s m args below meth c H locs cells slots Q (F0 m 8 ls []) := by
  intro n
  induction n with
  | zero => exact fun _ _ _ _ _ hf => hf.elim
  | succ n ih =>
    intro x1 w H locs ls hf hR hl
    have hx := X.1
    have hb := X.2.1
    have hml := X.2.2.1
    have hown := X.2.2.2.1
    have hts := X.2.2.2.2.1
    rw [fX9_highest_L8] at hf
    refine lv_iload_n hx hb dX9_highest_8 rfl (lv_at hl 1 rfl) ?_
    refine lv_if_lt (tgt := 29) hx hb dX9_highest_9 (by decide) (fun c2 => ?_) (fun c2 => ?_)
    · replace hf := hf.1 c2
      refine lv_iconst (v := (-1 : Int32)) hx hb dX9_highest_29 (by decide) ?_
      exact hQ _ _ _ _ _ _ hf hR dX9_highest_30
    · replace hf := hf.2 c2
      refine lv_aload_n hx hb dX9_highest_12 rfl (lv_at hl 0 rfl) ?_
      refine z_getS X hR (zlit hR zf_29) zs_29 (by decide) zfd_X9_9 rfl (r := 30) (by decide +kernel) dX9_highest_13 ?_
      refine lv_iload_n hx hb dX9_highest_16 rfl (lv_at hl 1 rfl) ?_
      obtain ⟨hb3, hf⟩ := hf
      refine z_iald X hR (zlit hR zf_30) zs_30 zl_30 hb3 dX9_highest_17 ?_
      refine lv_if_eq (tgt := 23) hx hb dX9_highest_18 (by decide) (fun c4 => ?_) (fun c4 => ?_)
      · replace hf := hf.1 c4
        refine lv_iinc (v := x1 + (-1 : Int32)) (lv' := [(1, .int (x1 + (-1 : Int32))), (0, .ref (ad 29))]) hx hb dX9_highest_23 hl (k := 1) rfl rfl (by decide) rfl (fun ls hl => ?_)
        refine lv_goto (tgt := 8) hx hb dX9_highest_26 (by decide) ?_
        exact ih (x1 + (-1 : Int32)) w _ _ _ hf hR (lv_sub hl [1, 0] rfl)
      · replace hf := hf.2 c4
        refine lv_iload_n hx hb dX9_highest_21 rfl (lv_at hl 1 rfl) ?_
        exact hQ _ _ _ _ _ _ hf hR dX9_highest_22
def fX9_highest (w : zW) (k : Int32 → zW → Prop) : Prop :=
  ∀ v1 : Int32, v1 = (121 : Int32) - (1 : Int32) →
  ∃ n9, fX9_highest_L8 k n9 v1 w
set_option maxHeartbeats 4000000 in
set_option maxRecDepth 100000 in
theorem mX9_highest {l : Launch} {D : va_G} {dA : Nat → ClassId} {ad : Nat → Nat} {al : Nat → Prop} {w : zW} {k : Int32 → zW → Prop}   (hf : fX9_highest w k) : zmetI l yX9_highest cX9_highest 2 (some .int) 0 [.ref (ad 29)] D dA true ad al w k := by
  refine zmetI_of (by decide) (Nat.le_of_ble_eq_true rfl) ?_
  intro p e R s m below meth c Q H ls args locs cells slots X hr hQ hR hl
  have hx := X.1
  have hb := X.2.1
  have hml := X.2.2.1
  have hown := X.2.2.2.1
  have hts := X.2.2.2.2.1
  unfold fX9_highest at hf
  have hl : lv_has ls 2 [(0, .ref (ad 29))] := hl
  refine lv_aload_n hx hb dX9_highest_0 rfl (lv_at hl 0 rfl) ?_
  refine z_getS X hR (zlit hR zf_29) zs_29 (by decide) zfd_X9_9 rfl (r := 30) (by decide +kernel) dX9_highest_1 ?_
  refine z_alen X hR (zlit hR zf_30) zs_30 (by decide) (by decide) zl_30 (v := (121 : Int32)) rfl dX9_highest_4 ?_
  refine lv_iconst (v := (1 : Int32)) hx hb dX9_highest_5 (by decide) ?_
  refine lv_isub hx hb dX9_highest_6 ?_
  refine lv_topi (fun v1 hv1 => ?_)
  replace hf := hf v1 hv1
  refine lv_istore_n (lv' := [(1, .int v1), (0, .ref (ad 29))]) hx hb dX9_highest_7 rfl hl (by decide) rfl (fun ls hl => ?_)
  obtain ⟨n9, hf⟩ := hf
  exact mX9_highest_L8 X hr hQ  n9 v1 w _ _ _ hf hR (lv_sub hl [1, 0] rfl)
/-! X9_only -/
def fX9_only (w : zW) (k : Int32 → zW → Prop) : Prop :=
  fX9_lowest  w (fun r1 w1 =>
  fX9_highest  w1 (fun r2 w2 =>
  ∀ v3 : Int32, v3 = (if ¬ r1 = r2 then (-1 : Int32) else r1) →
  k v3 w2))
set_option maxHeartbeats 4000000 in
set_option maxRecDepth 100000 in
theorem mX9_only {l : Launch} {D : va_G} {dA : Nat → ClassId} {ad : Nat → Nat} {al : Nat → Prop} {w : zW} {k : Int32 → zW → Prop}   (hf : fX9_only w k) : zmetI l yX9_only cX9_only 2 (some .int) 1 [.ref (ad 29)] D dA true ad al w k := by
  refine zmetI_of (by decide) (Nat.le_of_ble_eq_true rfl) ?_
  intro p e R s m below meth c Q H ls args locs cells slots X hr hQ hR hl
  have hx := X.1
  have hb := X.2.1
  have hml := X.2.2.1
  have hown := X.2.2.2.1
  have hts := X.2.2.2.2.1
  unfold fX9_only at hf
  have hl : lv_has ls 2 [(0, .ref (ad 29))] := hl
  refine lv_aload_n hx hb dX9_only_0 rfl (lv_at hl 0 rfl) ?_
  refine z_callVI (fr1 := 0) (b := 29) (As := []) (rest := []) X (hr.le (by decide)) hR zy_X9_lowest zq_1166 (zlit hR zf_29) (by rw [zs_29]; rfl) rfl (mX9_lowest  hf) rfl hl (Nat.le_of_ble_eq_true rfl) dX9_only_1 rfl (fun r1 w1 H locs hf hR => ?_)
  refine lv_istore_n (lv' := [(1, .int r1), (0, .ref (ad 29))]) hx hb dX9_only_4 rfl hl (by decide) rfl (fun ls hl => ?_)
  refine lv_iload_n hx hb dX9_only_5 rfl (lv_at hl 0 rfl) ?_
  refine lv_aload_n hx hb dX9_only_6 rfl (lv_at hl 1 rfl) ?_
  refine z_callVI (fr1 := 0) (b := 29) (As := []) (rest := [.int r1]) X (hr.le (by decide)) hR zy_X9_highest zq_1170 (zlit hR zf_29) (by rw [zs_29]; rfl) rfl (mX9_highest  hf) rfl hl (Nat.le_of_ble_eq_true rfl) dX9_only_7 rfl (fun r2 w2 H locs hf hR => ?_)
  have kJ3 : ∀ v3 : Int32, v3 = (if ¬ r1 = r2 then (-1 : Int32) else r1) → W p l e R s m args below meth c H locs cells slots Q (F0 m 18 ls (.int v3 :: [])) := by
    intro v3 hv3
    replace hf := hf v3 hv3
    exact hQ _ _ _ _ _ _ hf hR dX9_only_18
  refine lv_icmp_ne (tgt := 17) hx hb dX9_only_10 (by decide) (fun c3 => ?_) (fun c3 => ?_)
  · refine lv_iconst (v := (-1 : Int32)) hx hb dX9_only_17 (by decide) ?_
    exact kJ3 _ (if_pos c3).symm
  · refine lv_iload_n hx hb dX9_only_13 rfl (lv_at hl 0 rfl) ?_
    refine lv_goto (tgt := 18) hx hb dX9_only_14 (by decide) ?_
    exact kJ3 _ (if_neg (fun h9 => h9 c3)).symm
/-! X9_differing -/
def fX9_differing_J28 (k : Int32 → zW → Prop) (g4 : Int32 → Int32 → zW → Prop) (x2 : Int32) (t0 : Int32) (t1 : Int32) (w : zW) : Prop :=
  ∀ v4 : Int32, v4 = t1 + t0 →
  g4 v4 (x2 + (1 : Int32)) w
set_option maxHeartbeats 4000000 in
set_option maxRecDepth 100000 in
theorem mX9_differing_J28 {k : Int32 → zW → Prop} {g4 : Int32 → Int32 → zW → Prop} (X : zCx p s m args meth c cX9_differing 3 RX9 (some .int)) (hr : zRm R 0 cells slots) (hQ : zRetI p l e R s m args below meth c cells slots Q D dA true ad0 al0 ad al cX9_differing k) (hg4 : ∀ (x1 : Int32) (x2 : Int32) (w : zW) (H : Heap) (locs : List Loc) (ls : Array Slot), g4 x1 x2 w → zSt D dA true ad0 al0 ad al w s H locs → lv_has ls 3 [(0, .ref (ad 29)), (1, .int x1), (2, .int x2)] → W p l e R s m args below meth c H locs cells slots Q (F0 m 4 ls [])) {x2 : Int32} {t0 : Int32} {t1 : Int32} {w : zW} {H : Heap} {locs : List Loc} {ls : Array Slot} (hf : fX9_differing_J28 k g4 x2 t0 t1 w) (hR : zSt D dA true ad0 al0 ad al w s H locs) (hl : lv_has ls 3 [(0, .ref (ad 29)), (2, .int x2)]) : W p l e R s m args below meth c H locs cells slots Q (F0 m 28 ls [.int t0, .int t1]) := by
  have hx := X.1
  have hb := X.2.1
  have hml := X.2.2.1
  have hown := X.2.2.2.1
  have hts := X.2.2.2.2.1
  unfold fX9_differing_J28 at hf
  refine lv_iadd hx hb dX9_differing_28 ?_
  refine lv_topi (fun v4 hv4 => ?_)
  replace hf := hf v4 hv4
  refine lv_istore_n (lv' := [(1, .int v4), (0, .ref (ad 29)), (2, .int x2)]) hx hb dX9_differing_29 rfl hl (by decide) rfl (fun ls hl => ?_)
  refine lv_iinc (v := x2 + (1 : Int32)) (lv' := [(2, .int (x2 + (1 : Int32))), (1, .int v4), (0, .ref (ad 29))]) hx hb dX9_differing_30 hl (k := 2) rfl rfl (by decide) rfl (fun ls hl => ?_)
  refine lv_goto (tgt := 4) hx hb dX9_differing_33 (by decide) ?_
  exact hg4 v4 (x2 + (1 : Int32)) w _ _ _ hf hR (lv_sub hl [2, 1, 0] rfl)
def fX9_differing_L4 (k : Int32 → zW → Prop) : Nat → Int32 → Int32 → zW → Prop
  | 0 => fun _ _ _ => False
  | n + 1 => fun x1 x2 w =>
    (((121 : Int32) ≤ x2 →
      k x1 w) ∧
     (¬ (121 : Int32) ≤ x2 →
      vp_in x2 121 ∧ 
      ∀ v3 : Int32, v3 = (if (gI w 30 x2.toNatClampNeg) = 0 then (0 : Int32) else (1 : Int32)) →
      fX9_differing_J28 k (fX9_differing_L4 k n) x2 v3 x1 w))
set_option maxHeartbeats 4000000 in
set_option maxRecDepth 100000 in
theorem mX9_differing_L4 {k : Int32 → zW → Prop} (X : zCx p s m args meth c cX9_differing 3 RX9 (some .int)) (hr : zRm R 0 cells slots) (hQ : zRetI p l e R s m args below meth c cells slots Q D dA true ad0 al0 ad al cX9_differing k)  : ∀ (n : Nat) (x1 : Int32) (x2 : Int32) (w : zW) (H : Heap) (locs : List Loc) (ls : Array Slot), fX9_differing_L4 k n x1 x2 w → zSt D dA true ad0 al0 ad al w s H locs → lv_has ls 3 [(0, .ref (ad 29)), (1, .int x1), (2, .int x2)] → W p l e R s m args below meth c H locs cells slots Q (F0 m 4 ls []) := by
  intro n
  induction n with
  | zero => exact fun _ _ _ _ _ _ hf => hf.elim
  | succ n ih =>
    intro x1 x2 w H locs ls hf hR hl
    have hx := X.1
    have hb := X.2.1
    have hml := X.2.2.1
    have hown := X.2.2.2.1
    have hts := X.2.2.2.2.1
    rw [fX9_differing_L4] at hf
    refine lv_iload_n hx hb dX9_differing_4 rfl (lv_at hl 2 rfl) ?_
    refine lv_aload_n hx hb dX9_differing_5 rfl (lv_at hl 0 rfl) ?_
    refine z_getS X hR (zlit hR zf_29) zs_29 (by decide) zfd_X9_9 rfl (r := 30) (by decide +kernel) dX9_differing_6 ?_
    refine z_alen X hR (zlit hR zf_30) zs_30 (by decide) (by decide) zl_30 (v := (121 : Int32)) rfl dX9_differing_9 ?_
    refine lv_icmp_ge (tgt := 36) hx hb dX9_differing_10 (by decide) (fun c1 => ?_) (fun c1 => ?_)
    · replace hf := hf.1 c1
      refine lv_iload_n hx hb dX9_differing_36 rfl (lv_at hl 1 rfl) ?_
      exact hQ _ _ _ _ _ _ hf hR dX9_differing_37
    · replace hf := hf.2 c1
      refine lv_iload_n hx hb dX9_differing_13 rfl (lv_at hl 1 rfl) ?_
      refine lv_aload_n hx hb dX9_differing_14 rfl (lv_at hl 0 rfl) ?_
      refine z_getS X hR (zlit hR zf_29) zs_29 (by decide) zfd_X9_9 rfl (r := 30) (by decide +kernel) dX9_differing_15 ?_
      refine lv_iload_n hx hb dX9_differing_18 rfl (lv_at hl 2 rfl) ?_
      obtain ⟨hb2, hf⟩ := hf
      refine z_iald X hR (zlit hR zf_30) zs_30 zl_30 hb2 dX9_differing_19 ?_
      have kJ3 : ∀ v3 : Int32, v3 = (if (gI w 30 x2.toNatClampNeg) = 0 then (0 : Int32) else (1 : Int32)) → W p l e R s m args below meth c H locs cells slots Q (F0 m 28 ls (.int v3 :: .int x1 :: [])) := by
        intro v3 hv3
        replace hf := hf v3 hv3
        exact mX9_differing_J28 X hr hQ ih hf hR (lv_sub hl [0, 2] rfl)
      refine lv_if_eq (tgt := 27) hx hb dX9_differing_20 (by decide) (fun c3 => ?_) (fun c3 => ?_)
      · refine lv_iconst (v := (0 : Int32)) hx hb dX9_differing_27 (by decide) ?_
        exact kJ3 _ (if_pos c3).symm
      · refine lv_iconst (v := (1 : Int32)) hx hb dX9_differing_23 (by decide) ?_
        refine lv_goto (tgt := 28) hx hb dX9_differing_24 (by decide) ?_
        exact kJ3 _ (if_neg c3).symm
def fX9_differing (w : zW) (k : Int32 → zW → Prop) : Prop :=
  ∃ n9, fX9_differing_L4 k n9 (0 : Int32) (0 : Int32) w
set_option maxHeartbeats 4000000 in
set_option maxRecDepth 100000 in
theorem mX9_differing {l : Launch} {D : va_G} {dA : Nat → ClassId} {ad : Nat → Nat} {al : Nat → Prop} {w : zW} {k : Int32 → zW → Prop}   (hf : fX9_differing w k) : zmetI l yX9_differing cX9_differing 3 (some .int) 0 [.ref (ad 29)] D dA true ad al w k := by
  refine zmetI_of (by decide) (Nat.le_of_ble_eq_true rfl) ?_
  intro p e R s m below meth c Q H ls args locs cells slots X hr hQ hR hl
  have hx := X.1
  have hb := X.2.1
  have hml := X.2.2.1
  have hown := X.2.2.2.1
  have hts := X.2.2.2.2.1
  unfold fX9_differing at hf
  have hl : lv_has ls 3 [(0, .ref (ad 29))] := hl
  refine lv_iconst (v := (0 : Int32)) hx hb dX9_differing_0 (by decide) ?_
  refine lv_istore_n (lv' := [(1, .int (0 : Int32)), (0, .ref (ad 29))]) hx hb dX9_differing_1 rfl hl (by decide) rfl (fun ls hl => ?_)
  refine lv_iconst (v := (0 : Int32)) hx hb dX9_differing_2 (by decide) ?_
  refine lv_istore_n (lv' := [(2, .int (0 : Int32)), (1, .int (0 : Int32)), (0, .ref (ad 29))]) hx hb dX9_differing_3 rfl hl (by decide) rfl (fun ls hl => ?_)
  obtain ⟨n9, hf⟩ := hf
  exact mX9_differing_L4 X hr hQ  n9 (0 : Int32) (0 : Int32) w _ _ _ hf hR (lv_sub hl [2, 1, 0] rfl)
/-! X9_greatest -/
def fX9_greatest_L4 (k : Int32 → zW → Prop) : Nat → Int32 → Int32 → zW → Prop
  | 0 => fun _ _ _ => False
  | n + 1 => fun x1 x2 w =>
    (((121 : Int32) ≤ x2 →
      k x1 w) ∧
     (¬ (121 : Int32) ≤ x2 →
      vp_in x2 121 ∧ 
      ∀ v3 : Int32, v3 = (if x1 < gI w 30 x2.toNatClampNeg then gI w 30 x2.toNatClampNeg else x1) →
      fX9_greatest_L4 k n v3 (x2 + (1 : Int32)) w))
set_option maxHeartbeats 4000000 in
set_option maxRecDepth 100000 in
theorem mX9_greatest_L4 {k : Int32 → zW → Prop} (X : zCx p s m args meth c cX9_greatest 3 RX9 (some .int)) (hr : zRm R 1 cells slots) (hQ : zRetI p l e R s m args below meth c cells slots Q D dA true ad0 al0 ad al cX9_greatest k)  : ∀ (n : Nat) (x1 : Int32) (x2 : Int32) (w : zW) (H : Heap) (locs : List Loc) (ls : Array Slot), fX9_greatest_L4 k n x1 x2 w → zSt D dA true ad0 al0 ad al w s H locs → lv_has ls 3 [(0, .ref (ad 29)), (1, .int x1), (2, .int x2)] → W p l e R s m args below meth c H locs cells slots Q (F0 m 4 ls []) := by
  intro n
  induction n with
  | zero => exact fun _ _ _ _ _ _ hf => hf.elim
  | succ n ih =>
    intro x1 x2 w H locs ls hf hR hl
    have hx := X.1
    have hb := X.2.1
    have hml := X.2.2.1
    have hown := X.2.2.2.1
    have hts := X.2.2.2.2.1
    rw [fX9_greatest_L4] at hf
    refine lv_iload_n hx hb dX9_greatest_4 rfl (lv_at hl 2 rfl) ?_
    refine lv_aload_n hx hb dX9_greatest_5 rfl (lv_at hl 0 rfl) ?_
    refine z_getS X hR (zlit hR zf_29) zs_29 (by decide) zfd_X9_9 rfl (r := 30) (by decide +kernel) dX9_greatest_6 ?_
    refine z_alen X hR (zlit hR zf_30) zs_30 (by decide) (by decide) zl_30 (v := (121 : Int32)) rfl dX9_greatest_9 ?_
    refine lv_icmp_ge (tgt := 30) hx hb dX9_greatest_10 (by decide) (fun c1 => ?_) (fun c1 => ?_)
    · replace hf := hf.1 c1
      refine lv_iload_n hx hb dX9_greatest_30 rfl (lv_at hl 1 rfl) ?_
      exact hQ _ _ _ _ _ _ hf hR dX9_greatest_31
    · replace hf := hf.2 c1
      refine lv_iload_n hx hb dX9_greatest_13 rfl (lv_at hl 1 rfl) ?_
      refine lv_aload_n hx hb dX9_greatest_14 rfl (lv_at hl 0 rfl) ?_
      refine z_getS X hR (zlit hR zf_29) zs_29 (by decide) zfd_X9_9 rfl (r := 30) (by decide +kernel) dX9_greatest_15 ?_
      refine lv_iload_n hx hb dX9_greatest_18 rfl (lv_at hl 2 rfl) ?_
      obtain ⟨hb2, hf⟩ := hf
      refine z_iald X hR (zlit hR zf_30) zs_30 zl_30 hb2 dX9_greatest_19 ?_
      refine va_mmax hx hb (by rw [hml]; exact hl.1.symm) hown (hts _ zq_1277) (hts _ zq_335) (hts _ zq_336) (hts _ zq_337) (by have := hr.1; omega) (by have := hr.2.1; show (List.sum []) + 13 ≤ R.locals; simp only [List.sum_cons, List.sum_nil, Value.category]; omega) hr.2.2.1 hr.2.2.2 dX9_greatest_20 ?_
      refine lv_topi (fun v3 hv3 => ?_)
      replace hf := hf v3 hv3
      refine lv_istore_n (lv' := [(1, .int v3), (0, .ref (ad 29)), (2, .int x2)]) hx hb dX9_greatest_23 rfl hl (by decide) rfl (fun ls hl => ?_)
      refine lv_iinc (v := x2 + (1 : Int32)) (lv' := [(2, .int (x2 + (1 : Int32))), (1, .int v3), (0, .ref (ad 29))]) hx hb dX9_greatest_24 hl (k := 2) rfl rfl (by decide) rfl (fun ls hl => ?_)
      refine lv_goto (tgt := 4) hx hb dX9_greatest_27 (by decide) ?_
      exact ih v3 (x2 + (1 : Int32)) w _ _ _ hf hR (lv_sub hl [2, 1, 0] rfl)
def fX9_greatest (w : zW) (k : Int32 → zW → Prop) : Prop :=
  ∃ n9, fX9_greatest_L4 k n9 (0 : Int32) (0 : Int32) w
set_option maxHeartbeats 4000000 in
set_option maxRecDepth 100000 in
theorem mX9_greatest {l : Launch} {D : va_G} {dA : Nat → ClassId} {ad : Nat → Nat} {al : Nat → Prop} {w : zW} {k : Int32 → zW → Prop}   (hf : fX9_greatest w k) : zmetI l yX9_greatest cX9_greatest 3 (some .int) 1 [.ref (ad 29)] D dA true ad al w k := by
  refine zmetI_of (by decide) (Nat.le_of_ble_eq_true rfl) ?_
  intro p e R s m below meth c Q H ls args locs cells slots X hr hQ hR hl
  have hx := X.1
  have hb := X.2.1
  have hml := X.2.2.1
  have hown := X.2.2.2.1
  have hts := X.2.2.2.2.1
  unfold fX9_greatest at hf
  have hl : lv_has ls 3 [(0, .ref (ad 29))] := hl
  refine lv_iconst (v := (0 : Int32)) hx hb dX9_greatest_0 (by decide) ?_
  refine lv_istore_n (lv' := [(1, .int (0 : Int32)), (0, .ref (ad 29))]) hx hb dX9_greatest_1 rfl hl (by decide) rfl (fun ls hl => ?_)
  refine lv_iconst (v := (0 : Int32)) hx hb dX9_greatest_2 (by decide) ?_
  refine lv_istore_n (lv' := [(2, .int (0 : Int32)), (1, .int (0 : Int32)), (0, .ref (ad 29))]) hx hb dX9_greatest_3 rfl hl (by decide) rfl (fun ls hl => ?_)
  obtain ⟨n9, hf⟩ := hf
  exact mX9_greatest_L4 X hr hQ  n9 (0 : Int32) (0 : Int32) w _ _ _ hf hR (lv_sub hl [2, 1, 0] rfl)
/-! X9_bits -/
def fX9_bits_J27 (k : Int32 → zW → Prop) (g4 : Int32 → Int32 → zW → Prop) (x2 : Int32) (t0 : Int32) (t1 : Int32) (w : zW) : Prop :=
  ∀ v4 : Int32, v4 = t1 ||| t0 →
  g4 v4 (x2 + (1 : Int32)) w
set_option maxHeartbeats 4000000 in
set_option maxRecDepth 100000 in
theorem mX9_bits_J27 {k : Int32 → zW → Prop} {g4 : Int32 → Int32 → zW → Prop} (X : zCx p s m args meth c cX9_bits 3 RX9 (some .int)) (hr : zRm R 0 cells slots) (hQ : zRetI p l e R s m args below meth c cells slots Q D dA true ad0 al0 ad al cX9_bits k) (hg4 : ∀ (x1 : Int32) (x2 : Int32) (w : zW) (H : Heap) (locs : List Loc) (ls : Array Slot), g4 x1 x2 w → zSt D dA true ad0 al0 ad al w s H locs → lv_has ls 3 [(0, .ref (ad 29)), (1, .int x1), (2, .int x2)] → W p l e R s m args below meth c H locs cells slots Q (F0 m 4 ls [])) {x2 : Int32} {t0 : Int32} {t1 : Int32} {w : zW} {H : Heap} {locs : List Loc} {ls : Array Slot} (hf : fX9_bits_J27 k g4 x2 t0 t1 w) (hR : zSt D dA true ad0 al0 ad al w s H locs) (hl : lv_has ls 3 [(0, .ref (ad 29)), (2, .int x2)]) : W p l e R s m args below meth c H locs cells slots Q (F0 m 27 ls [.int t0, .int t1]) := by
  have hx := X.1
  have hb := X.2.1
  have hml := X.2.2.1
  have hown := X.2.2.2.1
  have hts := X.2.2.2.2.1
  unfold fX9_bits_J27 at hf
  refine lv_ior hx hb dX9_bits_27 ?_
  refine lv_topi (fun v4 hv4 => ?_)
  replace hf := hf v4 hv4
  refine lv_istore_n (lv' := [(1, .int v4), (0, .ref (ad 29)), (2, .int x2)]) hx hb dX9_bits_28 rfl hl (by decide) rfl (fun ls hl => ?_)
  refine lv_iinc (v := x2 + (1 : Int32)) (lv' := [(2, .int (x2 + (1 : Int32))), (1, .int v4), (0, .ref (ad 29))]) hx hb dX9_bits_29 hl (k := 2) rfl rfl (by decide) rfl (fun ls hl => ?_)
  refine lv_goto (tgt := 4) hx hb dX9_bits_32 (by decide) ?_
  exact hg4 v4 (x2 + (1 : Int32)) w _ _ _ hf hR (lv_sub hl [2, 1, 0] rfl)
def fX9_bits_L4 (k : Int32 → zW → Prop) : Nat → Int32 → Int32 → zW → Prop
  | 0 => fun _ _ _ => False
  | n + 1 => fun x1 x2 w =>
    (((9 : Int32) ≤ x2 →
      k x1 w) ∧
     (¬ (9 : Int32) ≤ x2 →
      vp_in x2 121 ∧ 
      ∀ v3 : Int32, v3 = (if (gI w 30 x2.toNatClampNeg) = 0 then (0 : Int32) else ((1 : Int32) <<< (x2 &&& 31))) →
      fX9_bits_J27 k (fX9_bits_L4 k n) x2 v3 x1 w))
set_option maxHeartbeats 4000000 in
set_option maxRecDepth 100000 in
theorem mX9_bits_L4 {k : Int32 → zW → Prop} (X : zCx p s m args meth c cX9_bits 3 RX9 (some .int)) (hr : zRm R 0 cells slots) (hQ : zRetI p l e R s m args below meth c cells slots Q D dA true ad0 al0 ad al cX9_bits k)  : ∀ (n : Nat) (x1 : Int32) (x2 : Int32) (w : zW) (H : Heap) (locs : List Loc) (ls : Array Slot), fX9_bits_L4 k n x1 x2 w → zSt D dA true ad0 al0 ad al w s H locs → lv_has ls 3 [(0, .ref (ad 29)), (1, .int x1), (2, .int x2)] → W p l e R s m args below meth c H locs cells slots Q (F0 m 4 ls []) := by
  intro n
  induction n with
  | zero => exact fun _ _ _ _ _ _ hf => hf.elim
  | succ n ih =>
    intro x1 x2 w H locs ls hf hR hl
    have hx := X.1
    have hb := X.2.1
    have hml := X.2.2.1
    have hown := X.2.2.2.1
    have hts := X.2.2.2.2.1
    rw [fX9_bits_L4] at hf
    refine lv_iload_n hx hb dX9_bits_4 rfl (lv_at hl 2 rfl) ?_
    refine lv_bipush (v := (9 : Int32)) hx hb dX9_bits_5 (by decide) ?_
    refine lv_icmp_ge (tgt := 35) hx hb dX9_bits_7 (by decide) (fun c1 => ?_) (fun c1 => ?_)
    · replace hf := hf.1 c1
      refine lv_iload_n hx hb dX9_bits_35 rfl (lv_at hl 1 rfl) ?_
      exact hQ _ _ _ _ _ _ hf hR dX9_bits_36
    · replace hf := hf.2 c1
      refine lv_iload_n hx hb dX9_bits_10 rfl (lv_at hl 1 rfl) ?_
      refine lv_aload_n hx hb dX9_bits_11 rfl (lv_at hl 0 rfl) ?_
      refine z_getS X hR (zlit hR zf_29) zs_29 (by decide) zfd_X9_9 rfl (r := 30) (by decide +kernel) dX9_bits_12 ?_
      refine lv_iload_n hx hb dX9_bits_15 rfl (lv_at hl 2 rfl) ?_
      obtain ⟨hb2, hf⟩ := hf
      refine z_iald X hR (zlit hR zf_30) zs_30 zl_30 hb2 dX9_bits_16 ?_
      have kJ3 : ∀ v3 : Int32, v3 = (if (gI w 30 x2.toNatClampNeg) = 0 then (0 : Int32) else ((1 : Int32) <<< (x2 &&& 31))) → W p l e R s m args below meth c H locs cells slots Q (F0 m 27 ls (.int v3 :: .int x1 :: [])) := by
        intro v3 hv3
        replace hf := hf v3 hv3
        exact mX9_bits_J27 X hr hQ ih hf hR (lv_sub hl [0, 2] rfl)
      refine lv_if_eq (tgt := 26) hx hb dX9_bits_17 (by decide) (fun c3 => ?_) (fun c3 => ?_)
      · refine lv_iconst (v := (0 : Int32)) hx hb dX9_bits_26 (by decide) ?_
        exact kJ3 _ (if_pos c3).symm
      · refine lv_iconst (v := (1 : Int32)) hx hb dX9_bits_20 (by decide) ?_
        refine lv_iload_n hx hb dX9_bits_21 rfl (lv_at hl 2 rfl) ?_
        refine lv_ishl hx hb dX9_bits_22 ?_
        refine lv_goto (tgt := 27) hx hb dX9_bits_23 (by decide) ?_
        exact kJ3 _ (if_neg c3).symm
def fX9_bits (w : zW) (k : Int32 → zW → Prop) : Prop :=
  ∃ n9, fX9_bits_L4 k n9 (0 : Int32) (0 : Int32) w
set_option maxHeartbeats 4000000 in
set_option maxRecDepth 100000 in
theorem mX9_bits {l : Launch} {D : va_G} {dA : Nat → ClassId} {ad : Nat → Nat} {al : Nat → Prop} {w : zW} {k : Int32 → zW → Prop}   (hf : fX9_bits w k) : zmetI l yX9_bits cX9_bits 3 (some .int) 0 [.ref (ad 29)] D dA true ad al w k := by
  refine zmetI_of (by decide) (Nat.le_of_ble_eq_true rfl) ?_
  intro p e R s m below meth c Q H ls args locs cells slots X hr hQ hR hl
  have hx := X.1
  have hb := X.2.1
  have hml := X.2.2.1
  have hown := X.2.2.2.1
  have hts := X.2.2.2.2.1
  unfold fX9_bits at hf
  have hl : lv_has ls 3 [(0, .ref (ad 29))] := hl
  refine lv_iconst (v := (0 : Int32)) hx hb dX9_bits_0 (by decide) ?_
  refine lv_istore_n (lv' := [(1, .int (0 : Int32)), (0, .ref (ad 29))]) hx hb dX9_bits_1 rfl hl (by decide) rfl (fun ls hl => ?_)
  refine lv_iconst (v := (0 : Int32)) hx hb dX9_bits_2 (by decide) ?_
  refine lv_istore_n (lv' := [(2, .int (0 : Int32)), (1, .int (0 : Int32)), (0, .ref (ad 29))]) hx hb dX9_bits_3 rfl hl (by decide) rfl (fun ls hl => ?_)
  obtain ⟨n9, hf⟩ := hf
  exact mX9_bits_L4 X hr hQ  n9 (0 : Int32) (0 : Int32) w _ _ _ hf hR (lv_sub hl [2, 1, 0] rfl)
/-! X10_add -/
def fX10_add_J43 (k : zW → Prop) (g3 : Int64 → Int32 → zW → Prop) (x1 : Int64) (x3 : Int32) (x4 : Int32) (t0 : Int32) (w : zW) : Prop :=
  ((t0 = 0 →
    g3 x1 (x3 + (-8 : Int32)) w) ∧
   (¬ t0 = 0 →
    (((gI w 2 1) < 0 →
      g3 x1 (x3 + (-8 : Int32)) w) ∧
     (¬ (gI w 2 1) < 0 →
      (((1000 : Int32) ≤ (gI w 2 1) →
        g3 x1 (x3 + (-8 : Int32)) w) ∧
       (¬ (1000 : Int32) ≤ (gI w 2 1) →
        vp_in (gI w 2 1) 1000 ∧ 
        ∀ w8 : zW, w8 = sI w 3 (gI w 2 1).toNatClampNeg (((x4.toUInt32 % 65536).toInt32).toUInt32.toUInt16.toUInt32.toInt32) →
        ∀ w9 : zW, w9 = sI w8 2 1 ((gI w8 2 1) + (1 : Int32)) →
        g3 x1 (x3 + (-8 : Int32)) w9))))))
set_option maxHeartbeats 4000000 in
set_option maxRecDepth 100000 in
theorem mX10_add_J43 {k : zW → Prop} {g3 : Int64 → Int32 → zW → Prop} (X : zCx p s m args meth c cX10_add 6 RX10 none) (hr : zRm R 0 cells slots) (hQ : zRetV p l e R s m args below meth c cells slots Q D dA true ad0 al0 ad al cX10_add k) (hg3 : ∀ (x1 : Int64) (x3 : Int32) (w : zW) (H : Heap) (locs : List Loc) (ls : Array Slot), g3 x1 x3 w → zSt D dA true ad0 al0 ad al w s H locs → lv_has ls 6 [(0, .ref (ad 2)), (1, .long x1), (3, .int x3)] → W p l e R s m args below meth c H locs cells slots Q (F0 m 3 ls [])) {x1 : Int64} {x3 : Int32} {x4 : Int32} {t0 : Int32} {w : zW} {H : Heap} {locs : List Loc} {ls : Array Slot} (hf : fX10_add_J43 k g3 x1 x3 x4 t0 w) (hR : zSt D dA true ad0 al0 ad al w s H locs) (hl : lv_has ls 6 [(0, .ref (ad 2)), (1, .long x1), (3, .int x3), (4, .int x4)]) : W p l e R s m args below meth c H locs cells slots Q (F0 m 43 ls [.int t0]) := by
  have hx := X.1
  have hb := X.2.1
  have hml := X.2.2.1
  have hown := X.2.2.2.1
  have hts := X.2.2.2.2.1
  unfold fX10_add_J43 at hf
  refine lv_istore (lv' := [(5, .int t0), (0, .ref (ad 2)), (1, .long x1), (3, .int x3), (4, .int x4)]) hx hb dX10_add_43 hl (by decide) rfl (fun ls hl => ?_)
  refine lv_iload hx hb dX10_add_45 (lv_at hl 0 rfl) ?_
  refine lv_if_eq (tgt := 89) hx hb dX10_add_47 (by decide) (fun c4 => ?_) (fun c4 => ?_)
  · replace hf := hf.1 c4
    refine lv_iinc (v := x3 + (-8 : Int32)) (lv' := [(3, .int (x3 + (-8 : Int32))), (5, .int t0), (0, .ref (ad 2)), (1, .long x1), (4, .int x4)]) hx hb dX10_add_89 hl (k := 3) rfl rfl (by decide) rfl (fun ls hl => ?_)
    refine lv_goto (tgt := 3) hx hb dX10_add_92 (by decide) ?_
    exact hg3 x1 (x3 + (-8 : Int32)) w _ _ _ hf hR (lv_sub hl [2, 3, 0] rfl)
  · replace hf := hf.2 c4
    refine lv_aload_n hx hb dX10_add_50 rfl (lv_at hl 1 rfl) ?_
    refine z_getI X hR (zlit hR zf_2) zs_2 (by decide) zfd_X10_15 rfl dX10_add_51 ?_
    refine lv_if_lt (tgt := 89) hx hb dX10_add_54 (by decide) (fun c5 => ?_) (fun c5 => ?_)
    · replace hf := hf.1 c5
      refine lv_iinc (v := x3 + (-8 : Int32)) (lv' := [(3, .int (x3 + (-8 : Int32))), (5, .int t0), (0, .ref (ad 2)), (1, .long x1), (4, .int x4)]) hx hb dX10_add_89 hl (k := 3) rfl rfl (by decide) rfl (fun ls hl => ?_)
      refine lv_goto (tgt := 3) hx hb dX10_add_92 (by decide) ?_
      exact hg3 x1 (x3 + (-8 : Int32)) w _ _ _ hf hR (lv_sub hl [2, 3, 0] rfl)
    · replace hf := hf.2 c5
      refine lv_aload_n hx hb dX10_add_57 rfl (lv_at hl 1 rfl) ?_
      refine z_getI X hR (zlit hR zf_2) zs_2 (by decide) zfd_X10_15 rfl dX10_add_58 ?_
      refine lv_sipush (v := (1000 : Int32)) hx hb dX10_add_61 (by decide) ?_
      refine lv_icmp_ge (tgt := 89) hx hb dX10_add_64 (by decide) (fun c6 => ?_) (fun c6 => ?_)
      · replace hf := hf.1 c6
        refine lv_iinc (v := x3 + (-8 : Int32)) (lv' := [(3, .int (x3 + (-8 : Int32))), (5, .int t0), (0, .ref (ad 2)), (1, .long x1), (4, .int x4)]) hx hb dX10_add_89 hl (k := 3) rfl rfl (by decide) rfl (fun ls hl => ?_)
        refine lv_goto (tgt := 3) hx hb dX10_add_92 (by decide) ?_
        exact hg3 x1 (x3 + (-8 : Int32)) w _ _ _ hf hR (lv_sub hl [2, 3, 0] rfl)
      · replace hf := hf.2 c6
        refine lv_aload_n hx hb dX10_add_67 rfl (lv_at hl 1 rfl) ?_
        refine z_getS X hR (zlit hR zf_2) zs_2 (by decide) zfd_X10_11 rfl (r := 3) (by decide +kernel) dX10_add_68 ?_
        refine lv_aload_n hx hb dX10_add_71 rfl (lv_at hl 1 rfl) ?_
        refine z_getI X hR (zlit hR zf_2) zs_2 (by decide) zfd_X10_15 rfl dX10_add_72 ?_
        refine lv_iload hx hb dX10_add_75 (lv_at hl 4 rfl) ?_
        refine lv_i2c hx hb dX10_add_77 rfl ?_
        obtain ⟨hb7, hf⟩ := hf
        refine z_cast X hR (zlit hR zf_3) zs_3 zl_3 hb7 dX10_add_78 (fun H locs hR => ?_)
        obtain ⟨w8, hw8⟩ : ∃ z : zW, z = sI w 3 (gI w 2 1).toNatClampNeg (((x4.toUInt32 % 65536).toInt32).toUInt32.toUInt16.toUInt32.toInt32) := ⟨_, rfl⟩
        rw [← hw8] at hR
        replace hf := hf w8 hw8
        refine lv_aload_n hx hb dX10_add_79 rfl (lv_at hl 1 rfl) ?_
        refine lv_dup hx hb dX10_add_80 rfl ?_
        refine z_getI X hR (zlit hR zf_2) zs_2 (by decide) zfd_X10_15 rfl dX10_add_81 ?_
        refine lv_iconst (v := (1 : Int32)) hx hb dX10_add_84 (by decide) ?_
        refine lv_iadd hx hb dX10_add_85 ?_
        refine z_putI X hR (zlit hR zf_2) zs_2 (by decide) zfp_X10_15 rfl dX10_add_86 (fun H locs hR => ?_)
        obtain ⟨w9, hw9⟩ : ∃ z : zW, z = sI w8 2 1 ((gI w8 2 1) + (1 : Int32)) := ⟨_, rfl⟩
        rw [← hw9] at hR
        replace hf := hf w9 hw9
        refine lv_iinc (v := x3 + (-8 : Int32)) (lv' := [(3, .int (x3 + (-8 : Int32))), (5, .int t0), (0, .ref (ad 2)), (1, .long x1), (4, .int x4)]) hx hb dX10_add_89 hl (k := 3) rfl rfl (by decide) rfl (fun ls hl => ?_)
        refine lv_goto (tgt := 3) hx hb dX10_add_92 (by decide) ?_
        exact hg3 x1 (x3 + (-8 : Int32)) w9 _ _ _ hf hR (lv_sub hl [2, 3, 0] rfl)
def fX10_add_L3 (k : zW → Prop) : Nat → Int64 → Int32 → zW → Prop
  | 0 => fun _ _ _ => False
  | n + 1 => fun x1 x3 w =>
    ((x3 < 0 →
      k w) ∧
     (¬ x3 < 0 →
      ∀ v2 : Int32, v2 = (((x1.toUInt64 >>> (x3.toInt64.toUInt64 &&& Int64.toUInt64 63)).toInt64).toInt32) &&& (255 : Int32) →
      ∀ v3 : Int32, v3 = (if v2 = (10 : Int32) then (1 : Int32) else (if v2 < (32 : Int32) then (0 : Int32) else (if (126 : Int32) < v2 then (0 : Int32) else (1 : Int32)))) →
      fX10_add_J43 k (fX10_add_L3 k n) x1 x3 v2 v3 w))
set_option maxHeartbeats 4000000 in
set_option maxRecDepth 100000 in
theorem mX10_add_L3 {k : zW → Prop} (X : zCx p s m args meth c cX10_add 6 RX10 none) (hr : zRm R 0 cells slots) (hQ : zRetV p l e R s m args below meth c cells slots Q D dA true ad0 al0 ad al cX10_add k)  : ∀ (n : Nat) (x1 : Int64) (x3 : Int32) (w : zW) (H : Heap) (locs : List Loc) (ls : Array Slot), fX10_add_L3 k n x1 x3 w → zSt D dA true ad0 al0 ad al w s H locs → lv_has ls 6 [(0, .ref (ad 2)), (1, .long x1), (3, .int x3)] → W p l e R s m args below meth c H locs cells slots Q (F0 m 3 ls []) := by
  intro n
  induction n with
  | zero => exact fun _ _ _ _ _ _ hf => hf.elim
  | succ n ih =>
    intro x1 x3 w H locs ls hf hR hl
    have hx := X.1
    have hb := X.2.1
    have hml := X.2.2.1
    have hown := X.2.2.2.1
    have hts := X.2.2.2.2.1
    rw [fX10_add_L3] at hf
    refine lv_iload_n hx hb dX10_add_3 rfl (lv_at hl 2 rfl) ?_
    refine lv_if_lt (tgt := 95) hx hb dX10_add_4 (by decide) (fun c1 => ?_) (fun c1 => ?_)
    · replace hf := hf.1 c1
      exact hQ _ _ _ _ _ hf hR dX10_add_95
    · replace hf := hf.2 c1
      refine lv_lload_n hx hb dX10_add_7 rfl (lv_at hl 1 rfl) ?_
      refine lv_iload_n hx hb dX10_add_8 rfl (lv_at hl 2 rfl) ?_
      refine lv_lushr hx hb dX10_add_9 rfl ?_
      refine lv_l2i hx hb dX10_add_10 rfl ?_
      refine lv_sipush (v := (255 : Int32)) hx hb dX10_add_11 (by decide) ?_
      refine lv_iand hx hb dX10_add_14 ?_
      refine lv_topi (fun v2 hv2 => ?_)
      replace hf := hf v2 hv2
      refine lv_istore (lv' := [(4, .int v2), (0, .ref (ad 2)), (1, .long x1), (3, .int x3)]) hx hb dX10_add_15 hl (by decide) rfl (fun ls hl => ?_)
      refine lv_iload hx hb dX10_add_17 (lv_at hl 0 rfl) ?_
      refine lv_bipush (v := (10 : Int32)) hx hb dX10_add_19 (by decide) ?_
      have kJ3 : ∀ v3 : Int32, v3 = (if v2 = (10 : Int32) then (1 : Int32) else (if v2 < (32 : Int32) then (0 : Int32) else (if (126 : Int32) < v2 then (0 : Int32) else (1 : Int32)))) → W p l e R s m args below meth c H locs cells slots Q (F0 m 43 ls (.int v3 :: [])) := by
        intro v3 hv3
        replace hf := hf v3 hv3
        exact mX10_add_J43 X hr hQ ih hf hR (lv_sub hl [1, 2, 3, 0] rfl)
      refine lv_icmp_eq (tgt := 38) hx hb dX10_add_21 (by decide) (fun c3 => ?_) (fun c3 => ?_)
      · refine lv_iconst (v := (1 : Int32)) hx hb dX10_add_38 (by decide) ?_
        refine lv_goto (tgt := 43) hx hb dX10_add_39 (by decide) ?_
        exact kJ3 _ (if_pos c3).symm
      · refine lv_iload hx hb dX10_add_24 (lv_at hl 0 rfl) ?_
        refine lv_bipush (v := (32 : Int32)) hx hb dX10_add_26 (by decide) ?_
        refine lv_icmp_lt (tgt := 42) hx hb dX10_add_28 (by decide) (fun c10 => ?_) (fun c10 => ?_)
        · refine lv_iconst (v := (0 : Int32)) hx hb dX10_add_42 (by decide) ?_
          exact kJ3 _ ((if_neg c3).trans (if_pos c10)).symm
        · refine lv_iload hx hb dX10_add_31 (lv_at hl 0 rfl) ?_
          refine lv_bipush (v := (126 : Int32)) hx hb dX10_add_33 (by decide) ?_
          refine lv_icmp_gt (tgt := 42) hx hb dX10_add_35 (by decide) (fun c11 => ?_) (fun c11 => ?_)
          · refine lv_iconst (v := (0 : Int32)) hx hb dX10_add_42 (by decide) ?_
            exact kJ3 _ ((if_neg c3).trans ((if_neg c10).trans (if_pos c11))).symm
          · refine lv_iconst (v := (1 : Int32)) hx hb dX10_add_38 (by decide) ?_
            refine lv_goto (tgt := 43) hx hb dX10_add_39 (by decide) ?_
            exact kJ3 _ ((if_neg c3).trans ((if_neg c10).trans (if_neg c11))).symm
def fX10_add (x1 : Int64) (w : zW) (k : zW → Prop) : Prop :=
  ∃ n9, fX10_add_L3 k n9 x1 (56 : Int32) w
set_option maxHeartbeats 4000000 in
set_option maxRecDepth 100000 in
theorem mX10_add {l : Launch} {D : va_G} {dA : Nat → ClassId} {ad : Nat → Nat} {al : Nat → Prop} {w : zW} {k : zW → Prop} {x1 : Int64}   (hf : fX10_add x1 w k) : zmetV l yX10_add cX10_add 6 none 0 [.ref (ad 2), .long x1] D dA true ad al w k := by
  refine zmetV_of (by decide) (Nat.le_of_ble_eq_true rfl) ?_
  intro p e R s m below meth c Q H ls args locs cells slots X hr hQ hR hl
  have hx := X.1
  have hb := X.2.1
  have hml := X.2.2.1
  have hown := X.2.2.2.1
  have hts := X.2.2.2.2.1
  unfold fX10_add at hf
  have hl : lv_has ls 6 [(0, .ref (ad 2)), (1, .long x1)] := hl
  refine lv_bipush (v := (56 : Int32)) hx hb dX10_add_0 (by decide) ?_
  refine lv_istore_n (lv' := [(3, .int (56 : Int32)), (0, .ref (ad 2)), (1, .long x1)]) hx hb dX10_add_2 rfl hl (by decide) rfl (fun ls hl => ?_)
  obtain ⟨n9, hf⟩ := hf
  exact mX10_add_L3 X hr hQ  n9 x1 (56 : Int32) w _ _ _ hf hR (lv_sub hl [1, 2, 0] rfl)
/-! X11_feed -/
def fX11_feed (x1 : Int64) (x3 : Int64) (x5 : Int64) (w : zW) (k : Int32 → zW → Prop) : Prop :=
  fX10_add x1 w (fun w1 =>
  fX10_add x3 w1 (fun w2 =>
  fX10_add x5 w2 (fun w3 =>
  k (gI w3 2 1) w3)))
set_option maxHeartbeats 4000000 in
set_option maxRecDepth 100000 in
theorem mX11_feed {l : Launch} {D : va_G} {dA : Nat → ClassId} {ad : Nat → Nat} {al : Nat → Prop} {w : zW} {k : Int32 → zW → Prop} {x1 : Int64} {x3 : Int64} {x5 : Int64}   (hf : fX11_feed x1 x3 x5 w k) : zmetI l yX11_feed cX11_feed 7 (some .int) 1 [.ref (ad 1), .long x1, .long x3, .long x5] D dA true ad al w k := by
  refine zmetI_of (by decide) (Nat.le_of_ble_eq_true rfl) ?_
  intro p e R s m below meth c Q H ls args locs cells slots X hr hQ hR hl
  have hx := X.1
  have hb := X.2.1
  have hml := X.2.2.1
  have hown := X.2.2.2.1
  have hts := X.2.2.2.2.1
  unfold fX11_feed at hf
  have hl : lv_has ls 7 [(0, .ref (ad 1)), (1, .long x1), (3, .long x3), (5, .long x5)] := hl
  refine lv_aload_n hx hb dX11_feed_0 rfl (lv_at hl 0 rfl) ?_
  refine z_getS X hR (zlit hR zf_1) zs_1 (by decide) zfd_X11_10 rfl (r := 2) (by decide +kernel) dX11_feed_1 ?_
  refine lv_lload_n hx hb dX11_feed_4 rfl (lv_at hl 1 rfl) ?_
  refine z_callVV (fr1 := 0) (b := 2) (As := [.long x1]) (rest := []) X (hr.le (by decide)) hR zy_X10_add zq_239 (zlit hR zf_2) (by rw [zs_2]; rfl) rfl (mX10_add  hf) rfl hl (Nat.le_of_ble_eq_true rfl) dX11_feed_5 rfl (fun w1 H locs hf hR => ?_)
  refine lv_aload_n hx hb dX11_feed_8 rfl (lv_at hl 0 rfl) ?_
  refine z_getS X hR (zlit hR zf_1) zs_1 (by decide) zfd_X11_10 rfl (r := 2) (by decide +kernel) dX11_feed_9 ?_
  refine lv_lload_n hx hb dX11_feed_12 rfl (lv_at hl 2 rfl) ?_
  refine z_callVV (fr1 := 0) (b := 2) (As := [.long x3]) (rest := []) X (hr.le (by decide)) hR zy_X10_add zq_239 (zlit hR zf_2) (by rw [zs_2]; rfl) rfl (mX10_add  hf) rfl hl (Nat.le_of_ble_eq_true rfl) dX11_feed_13 rfl (fun w2 H locs hf hR => ?_)
  refine lv_aload_n hx hb dX11_feed_16 rfl (lv_at hl 0 rfl) ?_
  refine z_getS X hR (zlit hR zf_1) zs_1 (by decide) zfd_X11_10 rfl (r := 2) (by decide +kernel) dX11_feed_17 ?_
  refine lv_lload hx hb dX11_feed_20 (lv_at hl 3 rfl) ?_
  refine z_callVV (fr1 := 0) (b := 2) (As := [.long x5]) (rest := []) X (hr.le (by decide)) hR zy_X10_add zq_239 (zlit hR zf_2) (by rw [zs_2]; rfl) rfl (mX10_add  hf) rfl hl (Nat.le_of_ble_eq_true rfl) dX11_feed_22 rfl (fun w3 H locs hf hR => ?_)
  refine lv_aload_n hx hb dX11_feed_25 rfl (lv_at hl 0 rfl) ?_
  refine z_getS X hR (zlit hR zf_1) zs_1 (by decide) zfd_X11_10 rfl (r := 2) (by decide +kernel) dX11_feed_26 ?_
  refine z_getI X hR (zlit hR zf_2) zs_2 (by decide) zfd_X11_92 rfl dX11_feed_29 ?_
  exact hQ _ _ _ _ _ _ hf hR dX11_feed_32
/-! X11_book -/
def fX11_book_L72 (k : Int32 → zW → Prop) : Nat → Int32 → zW → Prop
  | 0 => fun _ _ => False
  | n + 1 => fun x3 w =>
    (((4 : Int32) ≤ x3 →
      ∀ w15 : zW, w15 = sI w 24 0 (1 : Int32) →
      ∀ w16 : zW, w16 = sI w15 24 1 (1 : Int32) →
      ∀ w17 : zW, w17 = sI w16 31 0 (1 : Int32) →
      k (0 : Int32) w17) ∧
     (¬ (4 : Int32) ≤ x3 →
      vp_in x3 4 ∧ 
      ∀ w19 : zW, w19 = sI w 20 x3.toNatClampNeg ((0 : Int32) &&& 1) →
      fX11_book_L72 k n (x3 + (1 : Int32)) w19))
set_option maxHeartbeats 4000000 in
set_option maxRecDepth 100000 in
theorem mX11_book_L72 {k : Int32 → zW → Prop} (X : zCx p s m args meth c cX11_book 4 RX11 (some .int)) (hr : zRm R 144 cells slots) (hQ : zRetI p l e R s m args below meth c cells slots Q D dA true ad0 al0 ad al cX11_book k)  : ∀ (n : Nat) (x3 : Int32) (w : zW) (H : Heap) (locs : List Loc) (ls : Array Slot), fX11_book_L72 k n x3 w → zSt D dA true ad0 al0 ad al w s H locs → lv_has ls 4 [(0, .ref (ad 1)), (3, .int x3)] → W p l e R s m args below meth c H locs cells slots Q (F0 m 72 ls []) := by
  intro n
  induction n with
  | zero => exact fun _ _ _ _ _ hf => hf.elim
  | succ n ih =>
    intro x3 w H locs ls hf hR hl
    have hx := X.1
    have hb := X.2.1
    have hml := X.2.2.1
    have hown := X.2.2.2.1
    have hts := X.2.2.2.2.1
    rw [fX11_book_L72] at hf
    refine lv_iload_n hx hb dX11_book_72 rfl (lv_at hl 1 rfl) ?_
    refine lv_iconst (v := (4 : Int32)) hx hb dX11_book_73 (by decide) ?_
    refine lv_icmp_ge (tgt := 90) hx hb dX11_book_74 (by decide) (fun c14 => ?_) (fun c14 => ?_)
    · replace hf := hf.1 c14
      refine lv_aload_n hx hb dX11_book_90 rfl (lv_at hl 0 rfl) ?_
      refine z_getS X hR (zlit hR zf_1) zs_1 (by decide) zfd_X11_50 rfl (r := 24) (by decide +kernel) dX11_book_91 ?_
      refine lv_iconst (v := (1 : Int32)) hx hb dX11_book_94 (by decide) ?_
      refine z_putZ X hR (zlit hR zf_24) zs_24 (by decide) zfp_X11_110 rfl zb01_1 dX11_book_95 (fun H locs hR => ?_)
      obtain ⟨w15, hw15⟩ : ∃ z : zW, z = sI w 24 0 (1 : Int32) := ⟨_, rfl⟩
      rw [← hw15] at hR
      replace hf := hf w15 hw15
      refine lv_aload_n hx hb dX11_book_98 rfl (lv_at hl 0 rfl) ?_
      refine z_getS X hR (zlit hR zf_1) zs_1 (by decide) zfd_X11_50 rfl (r := 24) (by decide +kernel) dX11_book_99 ?_
      refine lv_iconst (v := (1 : Int32)) hx hb dX11_book_102 (by decide) ?_
      refine z_putZ X hR (zlit hR zf_24) zs_24 (by decide) zfp_X11_114 rfl zb01_1 dX11_book_103 (fun H locs hR => ?_)
      obtain ⟨w16, hw16⟩ : ∃ z : zW, z = sI w15 24 1 (1 : Int32) := ⟨_, rfl⟩
      rw [← hw16] at hR
      replace hf := hf w16 hw16
      refine lv_aload_n hx hb dX11_book_106 rfl (lv_at hl 0 rfl) ?_
      refine z_getS X hR (zlit hR zf_1) zs_1 (by decide) zfd_X11_64 rfl (r := 31) (by decide +kernel) dX11_book_107 ?_
      refine lv_iconst (v := (1 : Int32)) hx hb dX11_book_110 (by decide) ?_
      refine z_putZ X hR (zlit hR zf_31) zs_31 (by decide) zfp_X11_117 rfl zb01_1 dX11_book_111 (fun H locs hR => ?_)
      obtain ⟨w17, hw17⟩ : ∃ z : zW, z = sI w16 31 0 (1 : Int32) := ⟨_, rfl⟩
      rw [← hw17] at hR
      replace hf := hf w17 hw17
      refine lv_iconst (v := (0 : Int32)) hx hb dX11_book_114 (by decide) ?_
      exact hQ _ _ _ _ _ _ hf hR dX11_book_115
    · replace hf := hf.2 c14
      refine lv_aload_n hx hb dX11_book_77 rfl (lv_at hl 0 rfl) ?_
      refine z_getS X hR (zlit hR zf_1) zs_1 (by decide) zfd_X11_36 rfl (r := 20) (by decide +kernel) dX11_book_78 ?_
      refine lv_iload_n hx hb dX11_book_81 rfl (lv_at hl 1 rfl) ?_
      refine lv_iconst (v := (0 : Int32)) hx hb dX11_book_82 (by decide) ?_
      obtain ⟨hb18, hf⟩ := hf
      refine z_zast X hR (zlit hR zf_20) zs_20 zl_20 hb18 dX11_book_83 (fun H locs hR => ?_)
      obtain ⟨w19, hw19⟩ : ∃ z : zW, z = sI w 20 x3.toNatClampNeg ((0 : Int32) &&& 1) := ⟨_, rfl⟩
      rw [← hw19] at hR
      replace hf := hf w19 hw19
      refine lv_iinc (v := x3 + (1 : Int32)) (lv' := [(3, .int (x3 + (1 : Int32))), (0, .ref (ad 1))]) hx hb dX11_book_84 hl (k := 1) rfl rfl (by decide) rfl (fun ls hl => ?_)
      refine lv_goto (tgt := 72) hx hb dX11_book_87 (by decide) ?_
      exact ih (x3 + (1 : Int32)) w19 _ _ _ hf hR (lv_sub hl [1, 0] rfl)
def fX11_book (w : zW) (k : Int32 → zW → Prop) : Prop :=
  ¬ gR w 1 10 = 0 ∧
  fX1_read (gR w 1 10) w (fun r2 w2 =>
  ∀ w3 : zW, w3 = sI w2 2 1 (0 : Int32) →
  ((r2 = 0 →
    ¬ gR w3 1 9 = 0 ∧
    ¬ gR w3 1 10 = 0 ∧
    ∀ w7 : zW, w7 = sR w3 1 9 (gR w3 1 10) →
    ∀ w8 : zW, w8 = sR w7 1 10 (gR w3 1 9) →
    ¬ gR w8 1 11 = 0 ∧
    fX5_clear (gR w8 1 11) w8 (fun w10 =>
    ¬ gR w10 1 9 = 0 ∧
    fX3_begin 9 (gR w10 1 9) w10 (fun w12 =>
    ∀ w13 : zW, w13 = sI w12 21 0 (0 : Int32) →
    ∃ n9, fX11_book_L72 k n9 (0 : Int32) w13))) ∧
   (¬ r2 = 0 →
    k r2 w3)))
set_option maxHeartbeats 4000000 in
set_option maxRecDepth 100000 in
theorem mX11_book {l : Launch} {D : va_G} {dA : Nat → ClassId} {ad : Nat → Nat} {al : Nat → Prop} {w : zW} {k : Int32 → zW → Prop}   (hf : fX11_book w k) : zmetI l yX11_book cX11_book 4 (some .int) 144 [.ref (ad 1)] D dA true ad al w k := by
  refine zmetI_of (by decide) (Nat.le_of_ble_eq_true rfl) ?_
  intro p e R s m below meth c Q H ls args locs cells slots X hr hQ hR hl
  have hx := X.1
  have hb := X.2.1
  have hml := X.2.2.1
  have hown := X.2.2.2.1
  have hts := X.2.2.2.2.1
  unfold fX11_book at hf
  have hl : lv_has ls 4 [(0, .ref (ad 1))] := hl
  refine lv_aload_n hx hb dX11_book_0 rfl (lv_at hl 0 rfl) ?_
  refine z_getS X hR (zlit hR zf_1) zs_1 (by decide) zfd_X11_21 rfl (r := 4) (by decide +kernel) dX11_book_1 ?_
  refine lv_aload_n hx hb dX11_book_4 rfl (lv_at hl 0 rfl) ?_
  refine z_getR X hR (zlit hR zf_1) zs_1 (by decide) zfd_X11_75 rfl dX11_book_5 ?_
  obtain ⟨hn10, hf⟩ := hf
  have hn1 : al (gR w 1 10) ∧ zsh (gR w 1 10) = 0 := zwt_of hR (zlit hR zf_1) zs_1 rfl hn10 (zdc_of zs_1 rfl)
  rw [zrf_pos hn10]
  refine z_callVI (fr1 := 143) (b := 4) (As := [.ref (ad (gR w 1 10))]) (rest := []) X (hr.le (by decide)) hR zy_X1_read zq_262 (zlit hR zf_4) (by rw [zs_4]; rfl) rfl (mX1_read ⟨hn1.1, hn1.2⟩ hf) rfl hl (Nat.le_of_ble_eq_true rfl) dX11_book_8 rfl (fun r2 w2 H locs hf hR => ?_)
  refine lv_istore_n (lv' := [(1, .int r2), (0, .ref (ad 1))]) hx hb dX11_book_11 rfl hl (by decide) rfl (fun ls hl => ?_)
  refine lv_aload_n hx hb dX11_book_12 rfl (lv_at hl 1 rfl) ?_
  refine z_getS X hR (zlit hR zf_1) zs_1 (by decide) zfd_X11_10 rfl (r := 2) (by decide +kernel) dX11_book_13 ?_
  refine lv_iconst (v := (0 : Int32)) hx hb dX11_book_16 (by decide) ?_
  refine z_putI X hR (zlit hR zf_2) zs_2 (by decide) zfp_X11_92 rfl dX11_book_17 (fun H locs hR => ?_)
  obtain ⟨w3, hw3⟩ : ∃ z : zW, z = sI w2 2 1 (0 : Int32) := ⟨_, rfl⟩
  rw [← hw3] at hR
  replace hf := hf w3 hw3
  refine lv_iload_n hx hb dX11_book_20 rfl (lv_at hl 0 rfl) ?_
  refine lv_if_eq (tgt := 26) hx hb dX11_book_21 (by decide) (fun c4 => ?_) (fun c4 => ?_)
  · replace hf := hf.1 c4
    refine lv_aload_n hx hb dX11_book_26 rfl (lv_at hl 1 rfl) ?_
    refine z_getR X hR (zlit hR zf_1) zs_1 (by decide) zfd_X11_71 rfl dX11_book_27 ?_
    obtain ⟨hn50, hf⟩ := hf
    have hn5 : al (gR w3 1 9) ∧ zsh (gR w3 1 9) = 0 := zwt_of hR (zlit hR zf_1) zs_1 rfl hn50 (zdc_of zs_1 rfl)
    rw [zrf_pos hn50]
    refine lv_astore_n (lv' := [(2, .ref (ad (gR w3 1 9))), (1, .int r2), (0, .ref (ad 1))]) hx hb dX11_book_30 rfl hl (by decide) rfl (fun ls hl => ?_)
    refine lv_aload_n hx hb dX11_book_31 rfl (lv_at hl 2 rfl) ?_
    refine lv_aload_n hx hb dX11_book_32 rfl (lv_at hl 2 rfl) ?_
    refine z_getR X hR (zlit hR zf_1) zs_1 (by decide) zfd_X11_75 rfl dX11_book_33 ?_
    obtain ⟨hn60, hf⟩ := hf
    have hn6 : al (gR w3 1 10) ∧ zsh (gR w3 1 10) = 0 := zwt_of hR (zlit hR zf_1) zs_1 rfl hn60 (zdc_of zs_1 rfl)
    rw [zrf_pos hn60]
    refine z_putR X hR (zlit hR zf_1) zs_1 (by decide) zfp_X11_71 rfl rfl hn60 hn6.1 (by rw [zdc_of zs_1 rfl]; exact hn6.2) dX11_book_36 (fun H locs hR => ?_)
    obtain ⟨w7, hw7⟩ : ∃ z : zW, z = sR w3 1 9 (gR w3 1 10) := ⟨_, rfl⟩
    rw [← hw7] at hR
    replace hf := hf w7 hw7
    refine lv_aload_n hx hb dX11_book_39 rfl (lv_at hl 2 rfl) ?_
    refine lv_aload_n hx hb dX11_book_40 rfl (lv_at hl 0 rfl) ?_
    refine z_putR X hR (zlit hR zf_1) zs_1 (by decide) zfp_X11_75 rfl rfl hn50 hn5.1 (by rw [zdc_of zs_1 rfl]; exact hn5.2) dX11_book_41 (fun H locs hR => ?_)
    obtain ⟨w8, hw8⟩ : ∃ z : zW, z = sR w7 1 10 (gR w3 1 9) := ⟨_, rfl⟩
    rw [← hw8] at hR
    replace hf := hf w8 hw8
    refine lv_aload_n hx hb dX11_book_44 rfl (lv_at hl 2 rfl) ?_
    refine z_getR X hR (zlit hR zf_1) zs_1 (by decide) zfd_X11_81 rfl dX11_book_45 ?_
    obtain ⟨hn90, hf⟩ := hf
    have hn9 : al (gR w8 1 11) ∧ zsh (gR w8 1 11) = 5 := zwt_of hR (zlit hR zf_1) zs_1 rfl hn90 (zdc_of zs_1 rfl)
    rw [zrf_pos hn90]
    refine z_callVV (fr1 := 0) (b := (gR w8 1 11)) (As := []) (rest := []) X (hr.le (by decide)) hR zy_X5_clear zq_566 hn9.1 (by rw [hn9.2]; rfl) rfl (mX5_clear ⟨hn9.1, hn9.2⟩ hf) rfl hl (Nat.le_of_ble_eq_true rfl) dX11_book_48 rfl (fun w10 H locs hf hR => ?_)
    refine lv_aload_n hx hb dX11_book_51 rfl (lv_at hl 2 rfl) ?_
    refine z_getS X hR (zlit hR zf_1) zs_1 (by decide) zfd_X11_28 rfl (r := 9) (by decide +kernel) dX11_book_52 ?_
    refine lv_aload_n hx hb dX11_book_55 rfl (lv_at hl 2 rfl) ?_
    refine z_getR X hR (zlit hR zf_1) zs_1 (by decide) zfd_X11_71 rfl dX11_book_56 ?_
    obtain ⟨hn110, hf⟩ := hf
    have hn11 : al (gR w10 1 9) ∧ zsh (gR w10 1 9) = 0 := zwt_of hR (zlit hR zf_1) zs_1 rfl hn110 (zdc_of zs_1 rfl)
    rw [zrf_pos hn110]
    refine z_callVV (fr1 := 2) (b := 9) (As := [.ref (ad (gR w10 1 9))]) (rest := []) X (hr.le (by decide)) hR zy_X3_begin zq_571 (zlit hR zf_9) (by rw [zs_9]; rfl) rfl (mX3_begin ⟨(zlit hR zf_9), zs_9⟩ ⟨hn11.1, hn11.2⟩ hf) rfl hl (Nat.le_of_ble_eq_true rfl) dX11_book_59 rfl (fun w12 H locs hf hR => ?_)
    refine lv_aload_n hx hb dX11_book_62 rfl (lv_at hl 2 rfl) ?_
    refine z_getS X hR (zlit hR zf_1) zs_1 (by decide) zfd_X11_43 rfl (r := 21) (by decide +kernel) dX11_book_63 ?_
    refine lv_iconst (v := (0 : Int32)) hx hb dX11_book_66 (by decide) ?_
    refine z_putI X hR (zlit hR zf_21) zs_21 (by decide) zfp_X11_107 rfl dX11_book_67 (fun H locs hR => ?_)
    obtain ⟨w13, hw13⟩ : ∃ z : zW, z = sI w12 21 0 (0 : Int32) := ⟨_, rfl⟩
    rw [← hw13] at hR
    replace hf := hf w13 hw13
    refine lv_iconst (v := (0 : Int32)) hx hb dX11_book_70 (by decide) ?_
    refine lv_istore_n (lv' := [(3, .int (0 : Int32)), (2, .ref (ad (gR w3 1 9))), (1, .int r2), (0, .ref (ad 1))]) hx hb dX11_book_71 rfl hl (by decide) rfl (fun ls hl => ?_)
    obtain ⟨n9, hf⟩ := hf
    exact mX11_book_L72 X hr hQ  n9 (0 : Int32) w13 _ _ _ hf hR (lv_sub hl [3, 0] rfl)
  · replace hf := hf.2 c4
    refine lv_iload_n hx hb dX11_book_24 rfl (lv_at hl 0 rfl) ?_
    exact hQ _ _ _ _ _ _ hf hR dX11_book_25
/-! X11_notes -/
def fX11_notes (w : zW) (k : Int32 → zW → Prop) : Prop :=
  ¬ gR w 1 12 = 0 ∧
  ¬ gR w 1 9 = 0 ∧
  fX5_read (gR w 1 12) (gR w 1 9) w (fun r3 w3 =>
  ∀ w4 : zW, w4 = sI w3 2 1 (0 : Int32) →
  ((r3 = 0 →
    ¬ gR w4 1 11 = 0 ∧
    ¬ gR w4 1 12 = 0 ∧
    ∀ w8 : zW, w8 = sR w4 1 11 (gR w4 1 12) →
    ∀ w9 : zW, w9 = sR w8 1 12 (gR w4 1 11) →
    k (0 : Int32) w9) ∧
   (¬ r3 = 0 →
    k r3 w4)))
set_option maxHeartbeats 4000000 in
set_option maxRecDepth 100000 in
theorem mX11_notes {l : Launch} {D : va_G} {dA : Nat → ClassId} {ad : Nat → Nat} {al : Nat → Prop} {w : zW} {k : Int32 → zW → Prop}   (hf : fX11_notes w k) : zmetI l yX11_notes cX11_notes 3 (some .int) 10 [.ref (ad 1)] D dA true ad al w k := by
  refine zmetI_of (by decide) (Nat.le_of_ble_eq_true rfl) ?_
  intro p e R s m below meth c Q H ls args locs cells slots X hr hQ hR hl
  have hx := X.1
  have hb := X.2.1
  have hml := X.2.2.1
  have hown := X.2.2.2.1
  have hts := X.2.2.2.2.1
  unfold fX11_notes at hf
  have hl : lv_has ls 3 [(0, .ref (ad 1))] := hl
  refine lv_aload_n hx hb dX11_notes_0 rfl (lv_at hl 0 rfl) ?_
  refine z_getR X hR (zlit hR zf_1) zs_1 (by decide) zfd_X11_85 rfl dX11_notes_1 ?_
  obtain ⟨hn10, hf⟩ := hf
  have hn1 : al (gR w 1 12) ∧ zsh (gR w 1 12) = 5 := zwt_of hR (zlit hR zf_1) zs_1 rfl hn10 (zdc_of zs_1 rfl)
  rw [zrf_pos hn10]
  refine lv_aload_n hx hb dX11_notes_4 rfl (lv_at hl 0 rfl) ?_
  refine z_getS X hR (zlit hR zf_1) zs_1 (by decide) zfd_X11_10 rfl (r := 2) (by decide +kernel) dX11_notes_5 ?_
  refine lv_aload_n hx hb dX11_notes_8 rfl (lv_at hl 0 rfl) ?_
  refine z_getR X hR (zlit hR zf_1) zs_1 (by decide) zfd_X11_71 rfl dX11_notes_9 ?_
  obtain ⟨hn20, hf⟩ := hf
  have hn2 : al (gR w 1 9) ∧ zsh (gR w 1 9) = 0 := zwt_of hR (zlit hR zf_1) zs_1 rfl hn20 (zdc_of zs_1 rfl)
  rw [zrf_pos hn20]
  refine z_callVI (fr1 := 9) (b := (gR w 1 12)) (As := [.ref (ad 2), .ref (ad (gR w 1 9))]) (rest := []) X (hr.le (by decide)) hR zy_X5_read zq_716 hn1.1 (by rw [hn1.2]; rfl) rfl (mX5_read ⟨hn1.1, hn1.2⟩ ⟨hn2.1, hn2.2⟩ hf) rfl hl (Nat.le_of_ble_eq_true rfl) dX11_notes_12 rfl (fun r3 w3 H locs hf hR => ?_)
  refine lv_istore_n (lv' := [(1, .int r3), (0, .ref (ad 1))]) hx hb dX11_notes_15 rfl hl (by decide) rfl (fun ls hl => ?_)
  refine lv_aload_n hx hb dX11_notes_16 rfl (lv_at hl 1 rfl) ?_
  refine z_getS X hR (zlit hR zf_1) zs_1 (by decide) zfd_X11_10 rfl (r := 2) (by decide +kernel) dX11_notes_17 ?_
  refine lv_iconst (v := (0 : Int32)) hx hb dX11_notes_20 (by decide) ?_
  refine z_putI X hR (zlit hR zf_2) zs_2 (by decide) zfp_X11_92 rfl dX11_notes_21 (fun H locs hR => ?_)
  obtain ⟨w4, hw4⟩ : ∃ z : zW, z = sI w3 2 1 (0 : Int32) := ⟨_, rfl⟩
  rw [← hw4] at hR
  replace hf := hf w4 hw4
  refine lv_iload_n hx hb dX11_notes_24 rfl (lv_at hl 0 rfl) ?_
  refine lv_if_eq (tgt := 30) hx hb dX11_notes_25 (by decide) (fun c5 => ?_) (fun c5 => ?_)
  · replace hf := hf.1 c5
    refine lv_aload_n hx hb dX11_notes_30 rfl (lv_at hl 1 rfl) ?_
    refine z_getR X hR (zlit hR zf_1) zs_1 (by decide) zfd_X11_81 rfl dX11_notes_31 ?_
    obtain ⟨hn60, hf⟩ := hf
    have hn6 : al (gR w4 1 11) ∧ zsh (gR w4 1 11) = 5 := zwt_of hR (zlit hR zf_1) zs_1 rfl hn60 (zdc_of zs_1 rfl)
    rw [zrf_pos hn60]
    refine lv_astore_n (lv' := [(2, .ref (ad (gR w4 1 11))), (1, .int r3), (0, .ref (ad 1))]) hx hb dX11_notes_34 rfl hl (by decide) rfl (fun ls hl => ?_)
    refine lv_aload_n hx hb dX11_notes_35 rfl (lv_at hl 2 rfl) ?_
    refine lv_aload_n hx hb dX11_notes_36 rfl (lv_at hl 2 rfl) ?_
    refine z_getR X hR (zlit hR zf_1) zs_1 (by decide) zfd_X11_85 rfl dX11_notes_37 ?_
    obtain ⟨hn70, hf⟩ := hf
    have hn7 : al (gR w4 1 12) ∧ zsh (gR w4 1 12) = 5 := zwt_of hR (zlit hR zf_1) zs_1 rfl hn70 (zdc_of zs_1 rfl)
    rw [zrf_pos hn70]
    refine z_putR X hR (zlit hR zf_1) zs_1 (by decide) zfp_X11_81 rfl rfl hn70 hn7.1 (by rw [zdc_of zs_1 rfl]; exact hn7.2) dX11_notes_40 (fun H locs hR => ?_)
    obtain ⟨w8, hw8⟩ : ∃ z : zW, z = sR w4 1 11 (gR w4 1 12) := ⟨_, rfl⟩
    rw [← hw8] at hR
    replace hf := hf w8 hw8
    refine lv_aload_n hx hb dX11_notes_43 rfl (lv_at hl 2 rfl) ?_
    refine lv_aload_n hx hb dX11_notes_44 rfl (lv_at hl 0 rfl) ?_
    refine z_putR X hR (zlit hR zf_1) zs_1 (by decide) zfp_X11_85 rfl rfl hn60 hn6.1 (by rw [zdc_of zs_1 rfl]; exact hn6.2) dX11_notes_45 (fun H locs hR => ?_)
    obtain ⟨w9, hw9⟩ : ∃ z : zW, z = sR w8 1 12 (gR w4 1 11) := ⟨_, rfl⟩
    rw [← hw9] at hR
    replace hf := hf w9 hw9
    refine lv_iconst (v := (0 : Int32)) hx hb dX11_notes_48 (by decide) ?_
    exact hQ _ _ _ _ _ _ hf hR dX11_notes_49
  · replace hf := hf.2 c5
    refine lv_iload_n hx hb dX11_notes_28 rfl (lv_at hl 0 rfl) ?_
    exact hQ _ _ _ _ _ _ hf hR dX11_notes_29
end ZM
