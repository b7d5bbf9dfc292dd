theorem dX1_readRow_0 : decode cX1_readRow 0 = .ok (.aload_n 0, 1) := by decide +kernel
theorem dX1_readRow_1 : decode cX1_readRow 1 = .ok (.getfield 28, 3) := by decide +kernel
theorem dX1_readRow_4 : decode cX1_readRow 4 = .ok (.getfield 121, 3) := by decide +kernel
theorem dX1_readRow_7 : decode cX1_readRow 7 = .ok (.bipush 8, 2) := by decide +kernel
theorem dX1_readRow_9 : decode cX1_readRow 9 = .ok (.if_icmp .lt 12, 3) := by decide +kernel
theorem dX1_readRow_12 : decode cX1_readRow 12 = .ok (.aload_n 0, 1) := by decide +kernel
theorem dX1_readRow_13 : decode cX1_readRow 13 = .ok (.getfield 15, 3) := by decide +kernel
theorem dX1_readRow_16 : decode cX1_readRow 16 = .ok (.iconst 5, 1) := by decide +kernel
theorem dX1_readRow_17 : decode cX1_readRow 17 = .ok (.invokevirtual 70, 3) := by decide +kernel
theorem dX1_readRow_20 : decode cX1_readRow 20 = .ok (.ireturn, 1) := by decide +kernel
theorem dX1_readRow_21 : decode cX1_readRow 21 = .ok (.aload_n 0, 1) := by decide +kernel
theorem dX1_readRow_22 : decode cX1_readRow 22 = .ok (.getfield 15, 3) := by decide +kernel
theorem dX1_readRow_25 : decode cX1_readRow 25 = .ok (.invokevirtual 87, 3) := by decide +kernel
theorem dX1_readRow_28 : decode cX1_readRow 28 = .ok (.aload_n 0, 1) := by decide +kernel
theorem dX1_readRow_29 : decode cX1_readRow 29 = .ok (.iconst 0, 1) := by decide +kernel
theorem dX1_readRow_30 : decode cX1_readRow 30 = .ok (.putfield 130, 3) := by decide +kernel
theorem dX1_readRow_33 : decode cX1_readRow 33 = .ok (.iconst 0, 1) := by decide +kernel
theorem dX1_readRow_34 : decode cX1_readRow 34 = .ok (.istore_n 1, 1) := by decide +kernel
theorem dX1_readRow_35 : decode cX1_readRow 35 = .ok (.iconst 0, 1) := by decide +kernel
theorem dX1_readRow_36 : decode cX1_readRow 36 = .ok (.istore_n 2, 1) := by decide +kernel
theorem dX1_readRow_37 : decode cX1_readRow 37 = .ok (.iconst 0, 1) := by decide +kernel
theorem dX1_readRow_38 : decode cX1_readRow 38 = .ok (.istore_n 3, 1) := by decide +kernel
theorem dX1_readRow_39 : decode cX1_readRow 39 = .ok (.iload_n 3, 1) := by decide +kernel
theorem dX1_readRow_40 : decode cX1_readRow 40 = .ok (.sipush 1000, 3) := by decide +kernel
theorem dX1_readRow_43 : decode cX1_readRow 43 = .ok (.if_icmp .gt 138, 3) := by decide +kernel
theorem dX1_readRow_46 : decode cX1_readRow 46 = .ok (.iload_n 2, 1) := by decide +kernel
theorem dX1_readRow_47 : decode cX1_readRow 47 = .ok (.ifCond .eq 24, 3) := by decide +kernel
theorem dX1_readRow_50 : decode cX1_readRow 50 = .ok (.iload_n 1, 1) := by decide +kernel
theorem dX1_readRow_51 : decode cX1_readRow 51 = .ok (.ifCond .ne 20, 3) := by decide +kernel
theorem dX1_readRow_54 : decode cX1_readRow 54 = .ok (.aload_n 0, 1) := by decide +kernel
theorem dX1_readRow_55 : decode cX1_readRow 55 = .ok (.getfield 15, 3) := by decide +kernel
theorem dX1_readRow_58 : decode cX1_readRow 58 = .ok (.bipush 59, 2) := by decide +kernel
theorem dX1_readRow_60 : decode cX1_readRow 60 = .ok (.invokevirtual 133, 3) := by decide +kernel
theorem dX1_readRow_63 : decode cX1_readRow 63 = .ok (.ifCond .eq 8, 3) := by decide +kernel
theorem dX1_readRow_66 : decode cX1_readRow 66 = .ok (.aload_n 0, 1) := by decide +kernel
theorem dX1_readRow_67 : decode cX1_readRow 67 = .ok (.invokevirtual 137, 3) := by decide +kernel
theorem dX1_readRow_70 : decode cX1_readRow 70 = .ok (.ireturn, 1) := by decide +kernel
theorem dX1_readRow_71 : decode cX1_readRow 71 = .ok (.aload_n 0, 1) := by decide +kernel
theorem dX1_readRow_72 : decode cX1_readRow 72 = .ok (.getfield 15, 3) := by decide +kernel
theorem dX1_readRow_75 : decode cX1_readRow 75 = .ok (.bipush 40, 2) := by decide +kernel
theorem dX1_readRow_77 : decode cX1_readRow 77 = .ok (.invokevirtual 133, 3) := by decide +kernel
theorem dX1_readRow_80 : decode cX1_readRow 80 = .ok (.ifCond .eq 46, 3) := by decide +kernel
theorem dX1_readRow_83 : decode cX1_readRow 83 = .ok (.iload_n 1, 1) := by decide +kernel
theorem dX1_readRow_84 : decode cX1_readRow 84 = .ok (.ifCond .lt 8, 3) := by decide +kernel
theorem dX1_readRow_87 : decode cX1_readRow 87 = .ok (.iload_n 1, 1) := by decide +kernel
theorem dX1_readRow_88 : decode cX1_readRow 88 = .ok (.iconst 3, 1) := by decide +kernel
theorem dX1_readRow_89 : decode cX1_readRow 89 = .ok (.if_icmp .lt 12, 3) := by decide +kernel
theorem dX1_readRow_92 : decode cX1_readRow 92 = .ok (.aload_n 0, 1) := by decide +kernel
theorem dX1_readRow_93 : decode cX1_readRow 93 = .ok (.getfield 15, 3) := by decide +kernel
theorem dX1_readRow_96 : decode cX1_readRow 96 = .ok (.iconst 5, 1) := by decide +kernel
theorem dX1_readRow_97 : decode cX1_readRow 97 = .ok (.invokevirtual 70, 3) := by decide +kernel
theorem dX1_readRow_100 : decode cX1_readRow 100 = .ok (.ireturn, 1) := by decide +kernel
theorem dX1_readRow_101 : decode cX1_readRow 101 = .ok (.aload_n 0, 1) := by decide +kernel
theorem dX1_readRow_102 : decode cX1_readRow 102 = .ok (.getfield 11, 3) := by decide +kernel
theorem dX1_readRow_105 : decode cX1_readRow 105 = .ok (.iload_n 1, 1) := by decide +kernel
theorem dX1_readRow_106 : decode cX1_readRow 106 = .ok (.aload_n 0, 1) := by decide +kernel
theorem dX1_readRow_107 : decode cX1_readRow 107 = .ok (.getfield 130, 3) := by decide +kernel
theorem dX1_readRow_110 : decode cX1_readRow 110 = .ok (.iastore, 1) := by decide +kernel
theorem dX1_readRow_111 : decode cX1_readRow 111 = .ok (.iinc 1 1, 3) := by decide +kernel
theorem dX1_readRow_114 : decode cX1_readRow 114 = .ok (.iconst 0, 1) := by decide +kernel
theorem dX1_readRow_115 : decode cX1_readRow 115 = .ok (.istore_n 2, 1) := by decide +kernel
theorem dX1_readRow_116 : decode cX1_readRow 116 = .ok (.aload_n 0, 1) := by decide +kernel
theorem dX1_readRow_117 : decode cX1_readRow 117 = .ok (.getfield 15, 3) := by decide +kernel
theorem dX1_readRow_120 : decode cX1_readRow 120 = .ok (.invokevirtual 87, 3) := by decide +kernel
theorem dX1_readRow_123 : decode cX1_readRow 123 = .ok (.goto 52, 3) := by decide +kernel
theorem dX1_readRow_126 : decode cX1_readRow 126 = .ok (.iload_n 2, 1) := by decide +kernel
theorem dX1_readRow_127 : decode cX1_readRow 127 = .ok (.ifCond .eq 37, 3) := by decide +kernel
theorem dX1_readRow_130 : decode cX1_readRow 130 = .ok (.iload_n 1, 1) := by decide +kernel
theorem dX1_readRow_131 : decode cX1_readRow 131 = .ok (.ifCond .le 33, 3) := by decide +kernel
theorem dX1_readRow_134 : decode cX1_readRow 134 = .ok (.aload_n 0, 1) := by decide +kernel
theorem dX1_readRow_135 : decode cX1_readRow 135 = .ok (.getfield 15, 3) := by decide +kernel
theorem dX1_readRow_138 : decode cX1_readRow 138 = .ok (.bipush 41, 2) := by decide +kernel
theorem dX1_readRow_140 : decode cX1_readRow 140 = .ok (.invokevirtual 133, 3) := by decide +kernel
theorem dX1_readRow_143 : decode cX1_readRow 143 = .ok (.ifCond .eq 21, 3) := by decide +kernel
theorem dX1_readRow_146 : decode cX1_readRow 146 = .ok (.iinc 1 (-1), 3) := by decide +kernel
theorem dX1_readRow_149 : decode cX1_readRow 149 = .ok (.aload_n 0, 1) := by decide +kernel
theorem dX1_readRow_150 : decode cX1_readRow 150 = .ok (.aload_n 0, 1) := by decide +kernel
theorem dX1_readRow_151 : decode cX1_readRow 151 = .ok (.getfield 11, 3) := by decide +kernel
theorem dX1_readRow_154 : decode cX1_readRow 154 = .ok (.iload_n 1, 1) := by decide +kernel
theorem dX1_readRow_155 : decode cX1_readRow 155 = .ok (.iaload, 1) := by decide +kernel
theorem dX1_readRow_156 : decode cX1_readRow 156 = .ok (.invokevirtual 140, 3) := by decide +kernel
theorem dX1_readRow_159 : decode cX1_readRow 159 = .ok (.ifCond .ne 16, 3) := by decide +kernel
theorem dX1_readRow_162 : decode cX1_readRow 162 = .ok (.iconst 0, 1) := by decide +kernel
theorem dX1_readRow_163 : decode cX1_readRow 163 = .ok (.ireturn, 1) := by decide +kernel
theorem dX1_readRow_164 : decode cX1_readRow 164 = .ok (.iconst 1, 1) := by decide +kernel
theorem dX1_readRow_165 : decode cX1_readRow 165 = .ok (.istore_n 2, 1) := by decide +kernel
theorem dX1_readRow_166 : decode cX1_readRow 166 = .ok (.aload_n 0, 1) := by decide +kernel
theorem dX1_readRow_167 : decode cX1_readRow 167 = .ok (.invokevirtual 143, 3) := by decide +kernel
theorem dX1_readRow_170 : decode cX1_readRow 170 = .ok (.ifCond .ne 5, 3) := by decide +kernel
theorem dX1_readRow_173 : decode cX1_readRow 173 = .ok (.iconst 0, 1) := by decide +kernel
theorem dX1_readRow_174 : decode cX1_readRow 174 = .ok (.ireturn, 1) := by decide +kernel
theorem dX1_readRow_175 : decode cX1_readRow 175 = .ok (.iinc 3 1, 3) := by decide +kernel
theorem dX1_readRow_178 : decode cX1_readRow 178 = .ok (.goto (-139), 3) := by decide +kernel
theorem dX1_readRow_181 : decode cX1_readRow 181 = .ok (.aload_n 0, 1) := by decide +kernel
theorem dX1_readRow_182 : decode cX1_readRow 182 = .ok (.getfield 15, 3) := by decide +kernel
theorem dX1_readRow_185 : decode cX1_readRow 185 = .ok (.iconst 1, 1) := by decide +kernel
theorem dX1_readRow_186 : decode cX1_readRow 186 = .ok (.invokevirtual 70, 3) := by decide +kernel
theorem dX1_readRow_189 : decode cX1_readRow 189 = .ok (.ireturn, 1) := by decide +kernel
theorem dX7_read_0 : decode cX7_read 0 = .ok (.aload_n 0, 1) := by decide +kernel
theorem dX7_read_1 : decode cX7_read 1 = .ok (.iconst 0, 1) := by decide +kernel
theorem dX7_read_2 : decode cX7_read 2 = .ok (.putfield 22, 3) := by decide +kernel
theorem dX7_read_5 : decode cX7_read 5 = .ok (.aload_n 0, 1) := by decide +kernel
theorem dX7_read_6 : decode cX7_read 6 = .ok (.iconst 0, 1) := by decide +kernel
theorem dX7_read_7 : decode cX7_read 7 = .ok (.invokevirtual 30, 3) := by decide +kernel
theorem dX7_read_10 : decode cX7_read 10 = .ok (.ireturn, 1) := by decide +kernel
theorem dX1_readRules_0 : decode cX1_readRules 0 = .ok (.aload_n 0, 1) := by decide +kernel
theorem dX1_readRules_1 : decode cX1_readRules 1 = .ok (.getfield 38, 3) := by decide +kernel
theorem dX1_readRules_4 : decode cX1_readRules 4 = .ok (.ifCond .eq 12, 3) := by decide +kernel
theorem dX1_readRules_7 : decode cX1_readRules 7 = .ok (.aload_n 0, 1) := by decide +kernel
theorem dX1_readRules_8 : decode cX1_readRules 8 = .ok (.getfield 15, 3) := by decide +kernel
theorem dX1_readRules_11 : decode cX1_readRules 11 = .ok (.iconst 3, 1) := by decide +kernel
theorem dX1_readRules_12 : decode cX1_readRules 12 = .ok (.invokevirtual 70, 3) := by decide +kernel
theorem dX1_readRules_15 : decode cX1_readRules 15 = .ok (.ireturn, 1) := by decide +kernel
theorem dX1_readRules_16 : decode cX1_readRules 16 = .ok (.aload_n 0, 1) := by decide +kernel
theorem dX1_readRules_17 : decode cX1_readRules 17 = .ok (.iconst 1, 1) := by decide +kernel
theorem dX1_readRules_18 : decode cX1_readRules 18 = .ok (.putfield 38, 3) := by decide +kernel
theorem dX1_readRules_21 : decode cX1_readRules 21 = .ok (.aload_n 0, 1) := by decide +kernel
theorem dX1_readRules_22 : decode cX1_readRules 22 = .ok (.getfield 15, 3) := by decide +kernel
theorem dX1_readRules_25 : decode cX1_readRules 25 = .ok (.invokevirtual 87, 3) := by decide +kernel
theorem dX1_readRules_28 : decode cX1_readRules 28 = .ok (.aload_n 0, 1) := by decide +kernel
theorem dX1_readRules_29 : decode cX1_readRules 29 = .ok (.getfield 24, 3) := by decide +kernel
theorem dX1_readRules_32 : decode cX1_readRules 32 = .ok (.invokevirtual 127, 3) := by decide +kernel
theorem dX1_readRules_35 : decode cX1_readRules 35 = .ok (.ifCond .eq 17, 3) := by decide +kernel
theorem dX1_readRules_38 : decode cX1_readRules 38 = .ok (.aload_n 0, 1) := by decide +kernel
theorem dX1_readRules_39 : decode cX1_readRules 39 = .ok (.getfield 15, 3) := by decide +kernel
theorem dX1_readRules_42 : decode cX1_readRules 42 = .ok (.invokevirtual 108, 3) := by decide +kernel
theorem dX1_readRules_45 : decode cX1_readRules 45 = .ok (.ifCond .eq 7, 3) := by decide +kernel
theorem dX1_readRules_48 : decode cX1_readRules 48 = .ok (.iconst 1, 1) := by decide +kernel
theorem dX1_readRules_49 : decode cX1_readRules 49 = .ok (.goto 4, 3) := by decide +kernel
theorem dX1_readRules_52 : decode cX1_readRules 52 = .ok (.iconst 0, 1) := by decide +kernel
theorem dX1_readRules_53 : decode cX1_readRules 53 = .ok (.ireturn, 1) := by decide +kernel
theorem dX1_readWord_0 : decode cX1_readWord 0 = .ok (.aload_n 0, 1) := by decide +kernel
theorem dX1_readWord_1 : decode cX1_readWord 1 = .ok (.getfield 28, 3) := by decide +kernel
theorem dX1_readWord_4 : decode cX1_readWord 4 = .ok (.getfield 84, 3) := by decide +kernel
theorem dX1_readWord_7 : decode cX1_readWord 7 = .ok (.iconst 4, 1) := by decide +kernel
theorem dX1_readWord_8 : decode cX1_readWord 8 = .ok (.if_icmp .lt 12, 3) := by decide +kernel
theorem dX1_readWord_11 : decode cX1_readWord 11 = .ok (.aload_n 0, 1) := by decide +kernel
theorem dX1_readWord_12 : decode cX1_readWord 12 = .ok (.getfield 15, 3) := by decide +kernel
theorem dX1_readWord_15 : decode cX1_readWord 15 = .ok (.iconst 5, 1) := by decide +kernel
theorem dX1_readWord_16 : decode cX1_readWord 16 = .ok (.invokevirtual 70, 3) := by decide +kernel
theorem dX1_readWord_19 : decode cX1_readWord 19 = .ok (.ireturn, 1) := by decide +kernel
theorem dX1_readWord_20 : decode cX1_readWord 20 = .ok (.aload_n 0, 1) := by decide +kernel
theorem dX1_readWord_21 : decode cX1_readWord 21 = .ok (.getfield 15, 3) := by decide +kernel
theorem dX1_readWord_24 : decode cX1_readWord 24 = .ok (.invokevirtual 87, 3) := by decide +kernel
theorem dX1_readWord_27 : decode cX1_readWord 27 = .ok (.aload_n 0, 1) := by decide +kernel
theorem dX1_readWord_28 : decode cX1_readWord 28 = .ok (.getfield 15, 3) := by decide +kernel
theorem dX1_readWord_31 : decode cX1_readWord 31 = .ok (.invokevirtual 90, 3) := by decide +kernel
theorem dX1_readWord_34 : decode cX1_readWord 34 = .ok (.ifCond .ne 12, 3) := by decide +kernel
theorem dX1_readWord_37 : decode cX1_readWord 37 = .ok (.aload_n 0, 1) := by decide +kernel
theorem dX1_readWord_38 : decode cX1_readWord 38 = .ok (.getfield 15, 3) := by decide +kernel
theorem dX1_readWord_41 : decode cX1_readWord 41 = .ok (.iconst 1, 1) := by decide +kernel
theorem dX1_readWord_42 : decode cX1_readWord 42 = .ok (.invokevirtual 70, 3) := by decide +kernel
theorem dX1_readWord_45 : decode cX1_readWord 45 = .ok (.ireturn, 1) := by decide +kernel
theorem dX1_readWord_46 : decode cX1_readWord 46 = .ok (.aload_n 0, 1) := by decide +kernel
theorem dX1_readWord_47 : decode cX1_readWord 47 = .ok (.getfield 28, 3) := by decide +kernel
theorem dX1_readWord_50 : decode cX1_readWord 50 = .ok (.aload_n 0, 1) := by decide +kernel
theorem dX1_readWord_51 : decode cX1_readWord 51 = .ok (.getfield 15, 3) := by decide +kernel
theorem dX1_readWord_54 : decode cX1_readWord 54 = .ok (.getfield 93, 3) := by decide +kernel
theorem dX1_readWord_57 : decode cX1_readWord 57 = .ok (.invokevirtual 97, 3) := by decide +kernel
theorem dX1_readWord_60 : decode cX1_readWord 60 = .ok (.iconst (-1), 1) := by decide +kernel
theorem dX1_readWord_61 : decode cX1_readWord 61 = .ok (.if_icmp .eq 12, 3) := by decide +kernel
theorem dX1_readWord_64 : decode cX1_readWord 64 = .ok (.aload_n 0, 1) := by decide +kernel
theorem dX1_readWord_65 : decode cX1_readWord 65 = .ok (.getfield 15, 3) := by decide +kernel
theorem dX1_readWord_68 : decode cX1_readWord 68 = .ok (.iconst 3, 1) := by decide +kernel
theorem dX1_readWord_69 : decode cX1_readWord 69 = .ok (.invokevirtual 70, 3) := by decide +kernel
theorem dX1_readWord_72 : decode cX1_readWord 72 = .ok (.ireturn, 1) := by decide +kernel
theorem dX1_readWord_73 : decode cX1_readWord 73 = .ok (.aload_n 0, 1) := by decide +kernel
theorem dX1_readWord_74 : decode cX1_readWord 74 = .ok (.getfield 28, 3) := by decide +kernel
theorem dX1_readWord_77 : decode cX1_readWord 77 = .ok (.getfield 101, 3) := by decide +kernel
theorem dX1_readWord_80 : decode cX1_readWord 80 = .ok (.aload_n 0, 1) := by decide +kernel
theorem dX1_readWord_81 : decode cX1_readWord 81 = .ok (.getfield 28, 3) := by decide +kernel
theorem dX1_readWord_84 : decode cX1_readWord 84 = .ok (.getfield 84, 3) := by decide +kernel
theorem dX1_readWord_87 : decode cX1_readWord 87 = .ok (.aload_n 0, 1) := by decide +kernel
theorem dX1_readWord_88 : decode cX1_readWord 88 = .ok (.getfield 15, 3) := by decide +kernel
theorem dX1_readWord_91 : decode cX1_readWord 91 = .ok (.getfield 93, 3) := by decide +kernel
theorem dX1_readWord_94 : decode cX1_readWord 94 = .ok (.lastore, 1) := by decide +kernel
theorem dX1_readWord_95 : decode cX1_readWord 95 = .ok (.aload_n 0, 1) := by decide +kernel
theorem dX1_readWord_96 : decode cX1_readWord 96 = .ok (.getfield 15, 3) := by decide +kernel
theorem dX1_readWord_99 : decode cX1_readWord 99 = .ok (.invokevirtual 87, 3) := by decide +kernel
theorem dX1_readWord_102 : decode cX1_readWord 102 = .ok (.aload_n 0, 1) := by decide +kernel
theorem dX1_readWord_103 : decode cX1_readWord 103 = .ok (.getfield 15, 3) := by decide +kernel
theorem dX1_readWord_106 : decode cX1_readWord 106 = .ok (.getfield 51, 3) := by decide +kernel
theorem dX1_readWord_109 : decode cX1_readWord 109 = .ok (.bipush 10, 2) := by decide +kernel
theorem dX1_readWord_111 : decode cX1_readWord 111 = .ok (.if_icmp .lt 15, 3) := by decide +kernel
theorem dX1_readWord_114 : decode cX1_readWord 114 = .ok (.aload_n 0, 1) := by decide +kernel
theorem dX1_readWord_115 : decode cX1_readWord 115 = .ok (.getfield 15, 3) := by decide +kernel
theorem dX1_readWord_118 : decode cX1_readWord 118 = .ok (.getfield 51, 3) := by decide +kernel
theorem dX1_readWord_121 : decode cX1_readWord 121 = .ok (.bipush 13, 2) := by decide +kernel
theorem dX1_readWord_123 : decode cX1_readWord 123 = .ok (.if_icmp .le 12, 3) := by decide +kernel
theorem dX1_readWord_126 : decode cX1_readWord 126 = .ok (.aload_n 0, 1) := by decide +kernel
theorem dX1_readWord_127 : decode cX1_readWord 127 = .ok (.getfield 15, 3) := by decide +kernel
theorem dX1_readWord_130 : decode cX1_readWord 130 = .ok (.iconst 1, 1) := by decide +kernel
theorem dX1_readWord_131 : decode cX1_readWord 131 = .ok (.invokevirtual 70, 3) := by decide +kernel
theorem dX1_readWord_134 : decode cX1_readWord 134 = .ok (.ireturn, 1) := by decide +kernel
theorem dX1_readWord_135 : decode cX1_readWord 135 = .ok (.aload_n 0, 1) := by decide +kernel
theorem dX1_readWord_136 : decode cX1_readWord 136 = .ok (.getfield 28, 3) := by decide +kernel
theorem dX1_readWord_139 : decode cX1_readWord 139 = .ok (.getfield 105, 3) := by decide +kernel
theorem dX1_readWord_142 : decode cX1_readWord 142 = .ok (.aload_n 0, 1) := by decide +kernel
theorem dX1_readWord_143 : decode cX1_readWord 143 = .ok (.getfield 28, 3) := by decide +kernel
theorem dX1_readWord_146 : decode cX1_readWord 146 = .ok (.getfield 84, 3) := by decide +kernel
theorem dX1_readWord_149 : decode cX1_readWord 149 = .ok (.aload_n 0, 1) := by decide +kernel
theorem dX1_readWord_150 : decode cX1_readWord 150 = .ok (.getfield 15, 3) := by decide +kernel
theorem dX1_readWord_153 : decode cX1_readWord 153 = .ok (.getfield 51, 3) := by decide +kernel
theorem dX1_readWord_156 : decode cX1_readWord 156 = .ok (.bipush 10, 2) := by decide +kernel
theorem dX1_readWord_158 : decode cX1_readWord 158 = .ok (.isub, 1) := by decide +kernel
theorem dX1_readWord_159 : decode cX1_readWord 159 = .ok (.iastore, 1) := by decide +kernel
theorem dX1_readWord_160 : decode cX1_readWord 160 = .ok (.aload_n 0, 1) := by decide +kernel
theorem dX1_readWord_161 : decode cX1_readWord 161 = .ok (.getfield 28, 3) := by decide +kernel
theorem dX1_readWord_164 : decode cX1_readWord 164 = .ok (.dup, 1) := by decide +kernel
theorem dX1_readWord_165 : decode cX1_readWord 165 = .ok (.getfield 84, 3) := by decide +kernel
theorem dX1_readWord_168 : decode cX1_readWord 168 = .ok (.iconst 1, 1) := by decide +kernel
theorem dX1_readWord_169 : decode cX1_readWord 169 = .ok (.iadd, 1) := by decide +kernel
theorem dX1_readWord_170 : decode cX1_readWord 170 = .ok (.putfield 84, 3) := by decide +kernel
theorem dX1_readWord_173 : decode cX1_readWord 173 = .ok (.aload_n 0, 1) := by decide +kernel
theorem dX1_readWord_174 : decode cX1_readWord 174 = .ok (.getfield 15, 3) := by decide +kernel
theorem dX1_readWord_177 : decode cX1_readWord 177 = .ok (.invokevirtual 87, 3) := by decide +kernel
theorem dX1_readWord_180 : decode cX1_readWord 180 = .ok (.aload_n 0, 1) := by decide +kernel
theorem dX1_readWord_181 : decode cX1_readWord 181 = .ok (.getfield 15, 3) := by decide +kernel
theorem dX1_readWord_184 : decode cX1_readWord 184 = .ok (.invokevirtual 108, 3) := by decide +kernel
theorem dX1_readWord_187 : decode cX1_readWord 187 = .ok (.ireturn, 1) := by decide +kernel
theorem dX7_clear_0 : decode cX7_clear 0 = .ok (.aload_n 0, 1) := by decide +kernel
theorem dX7_clear_1 : decode cX7_clear 1 = .ok (.iconst 0, 1) := by decide +kernel
theorem dX7_clear_2 : decode cX7_clear 2 = .ok (.putfield 22, 3) := by decide +kernel
theorem dX7_clear_5 : decode cX7_clear 5 = .ok (.aload_n 0, 1) := by decide +kernel
theorem dX7_clear_6 : decode cX7_clear 6 = .ok (.iconst 1, 1) := by decide +kernel
theorem dX7_clear_7 : decode cX7_clear 7 = .ok (.invokevirtual 26, 3) := by decide +kernel
theorem dX7_clear_10 : decode cX7_clear 10 = .ok (.return_, 1) := by decide +kernel
theorem dX1_read_0 : decode cX1_read 0 = .ok (.aload_n 0, 1) := by decide +kernel
theorem dX1_read_1 : decode cX1_read 1 = .ok (.aload_n 1, 1) := by decide +kernel
theorem dX1_read_2 : decode cX1_read 2 = .ok (.putfield 28, 3) := by decide +kernel
theorem dX1_read_5 : decode cX1_read 5 = .ok (.aload_n 0, 1) := by decide +kernel
theorem dX1_read_6 : decode cX1_read 6 = .ok (.getfield 28, 3) := by decide +kernel
theorem dX1_read_9 : decode cX1_read 9 = .ok (.invokevirtual 32, 3) := by decide +kernel
theorem dX1_read_12 : decode cX1_read 12 = .ok (.aload_n 0, 1) := by decide +kernel
theorem dX1_read_13 : decode cX1_read 13 = .ok (.getfield 24, 3) := by decide +kernel
theorem dX1_read_16 : decode cX1_read 16 = .ok (.invokevirtual 37, 3) := by decide +kernel
theorem dX1_read_19 : decode cX1_read 19 = .ok (.aload_n 0, 1) := by decide +kernel
theorem dX1_read_20 : decode cX1_read 20 = .ok (.iconst 0, 1) := by decide +kernel
theorem dX1_read_21 : decode cX1_read 21 = .ok (.putfield 38, 3) := by decide +kernel
theorem dX1_read_24 : decode cX1_read 24 = .ok (.aload_n 0, 1) := by decide +kernel
theorem dX1_read_25 : decode cX1_read 25 = .ok (.getfield 15, 3) := by decide +kernel
theorem dX1_read_28 : decode cX1_read 28 = .ok (.invokevirtual 42, 3) := by decide +kernel
theorem dX1_read_31 : decode cX1_read 31 = .ok (.iconst 0, 1) := by decide +kernel
theorem dX1_read_32 : decode cX1_read 32 = .ok (.istore_n 2, 1) := by decide +kernel
theorem dX1_read_33 : decode cX1_read 33 = .ok (.iload_n 2, 1) := by decide +kernel
theorem dX1_read_34 : decode cX1_read 34 = .ok (.sipush 1000, 3) := by decide +kernel
theorem dX1_read_37 : decode cX1_read 37 = .ok (.if_icmp .gt 126, 3) := by decide +kernel
theorem dX1_read_40 : decode cX1_read 40 = .ok (.aload_n 0, 1) := by decide +kernel
theorem dX1_read_41 : decode cX1_read 41 = .ok (.getfield 15, 3) := by decide +kernel
theorem dX1_read_44 : decode cX1_read 44 = .ok (.getfield 47, 3) := by decide +kernel
theorem dX1_read_47 : decode cX1_read 47 = .ok (.ifCond .eq 116, 3) := by decide +kernel
theorem dX1_read_50 : decode cX1_read 50 = .ok (.aload_n 0, 1) := by decide +kernel
theorem dX1_read_51 : decode cX1_read 51 = .ok (.getfield 15, 3) := by decide +kernel
theorem dX1_read_54 : decode cX1_read 54 = .ok (.getfield 51, 3) := by decide +kernel
theorem dX1_read_57 : decode cX1_read 57 = .ok (.tableswitch 79 0 5 #[39, 47, 55, 63, 79, 71], 39) := by decide +kernel
theorem dX1_read_96 : decode cX1_read 96 = .ok (.aload_n 0, 1) := by decide +kernel
theorem dX1_read_97 : decode cX1_read 97 = .ok (.invokevirtual 54, 3) := by decide +kernel
theorem dX1_read_100 : decode cX1_read 100 = .ok (.istore_n 3, 1) := by decide +kernel
theorem dX1_read_101 : decode cX1_read 101 = .ok (.goto 44, 3) := by decide +kernel
theorem dX1_read_104 : decode cX1_read 104 = .ok (.aload_n 0, 1) := by decide +kernel
theorem dX1_read_105 : decode cX1_read 105 = .ok (.invokevirtual 58, 3) := by decide +kernel
theorem dX1_read_108 : decode cX1_read 108 = .ok (.istore_n 3, 1) := by decide +kernel
theorem dX1_read_109 : decode cX1_read 109 = .ok (.goto 36, 3) := by decide +kernel
theorem dX1_read_112 : decode cX1_read 112 = .ok (.aload_n 0, 1) := by decide +kernel
theorem dX1_read_113 : decode cX1_read 113 = .ok (.invokevirtual 61, 3) := by decide +kernel
theorem dX1_read_116 : decode cX1_read 116 = .ok (.istore_n 3, 1) := by decide +kernel
theorem dX1_read_117 : decode cX1_read 117 = .ok (.goto 28, 3) := by decide +kernel
theorem dX1_read_120 : decode cX1_read 120 = .ok (.aload_n 0, 1) := by decide +kernel
theorem dX1_read_121 : decode cX1_read 121 = .ok (.invokevirtual 64, 3) := by decide +kernel
theorem dX1_read_124 : decode cX1_read 124 = .ok (.istore_n 3, 1) := by decide +kernel
theorem dX1_read_125 : decode cX1_read 125 = .ok (.goto 20, 3) := by decide +kernel
theorem dX1_read_128 : decode cX1_read 128 = .ok (.aload_n 0, 1) := by decide +kernel
theorem dX1_read_129 : decode cX1_read 129 = .ok (.invokevirtual 67, 3) := by decide +kernel
theorem dX1_read_132 : decode cX1_read 132 = .ok (.istore_n 3, 1) := by decide +kernel
theorem dX1_read_133 : decode cX1_read 133 = .ok (.goto 12, 3) := by decide +kernel
theorem dX1_read_136 : decode cX1_read 136 = .ok (.aload_n 0, 1) := by decide +kernel
theorem dX1_read_137 : decode cX1_read 137 = .ok (.getfield 15, 3) := by decide +kernel
theorem dX1_read_140 : decode cX1_read 140 = .ok (.iconst 1, 1) := by decide +kernel
theorem dX1_read_141 : decode cX1_read 141 = .ok (.invokevirtual 70, 3) := by decide +kernel
theorem dX1_read_144 : decode cX1_read 144 = .ok (.istore_n 3, 1) := by decide +kernel
theorem dX1_read_145 : decode cX1_read 145 = .ok (.iload_n 3, 1) := by decide +kernel
theorem dX1_read_146 : decode cX1_read 146 = .ok (.ifCond .ne 11, 3) := by decide +kernel
theorem dX1_read_149 : decode cX1_read 149 = .ok (.aload_n 0, 1) := by decide +kernel
theorem dX1_read_150 : decode cX1_read 150 = .ok (.getfield 15, 3) := by decide +kernel
theorem dX1_read_153 : decode cX1_read 153 = .ok (.getfield 74, 3) := by decide +kernel
theorem dX1_read_156 : decode cX1_read 156 = .ok (.ireturn, 1) := by decide +kernel
theorem dX1_read_157 : decode cX1_read 157 = .ok (.iinc 2 1, 3) := by decide +kernel
theorem dX1_read_160 : decode cX1_read 160 = .ok (.goto (-127), 3) := by decide +kernel
theorem dX1_read_163 : decode cX1_read 163 = .ok (.aload_n 0, 1) := by decide +kernel
theorem dX1_read_164 : decode cX1_read 164 = .ok (.getfield 28, 3) := by decide +kernel
theorem dX1_read_167 : decode cX1_read 167 = .ok (.invokevirtual 77, 3) := by decide +kernel
theorem dX1_read_170 : decode cX1_read 170 = .ok (.aload_n 0, 1) := by decide +kernel
theorem dX1_read_171 : decode cX1_read 171 = .ok (.getfield 28, 3) := by decide +kernel
theorem dX1_read_174 : decode cX1_read 174 = .ok (.aload_n 0, 1) := by decide +kernel
theorem dX1_read_175 : decode cX1_read 175 = .ok (.getfield 24, 3) := by decide +kernel
theorem dX1_read_178 : decode cX1_read 178 = .ok (.invokevirtual 80, 3) := by decide +kernel
theorem dX1_read_181 : decode cX1_read 181 = .ok (.iconst 0, 1) := by decide +kernel
theorem dX1_read_182 : decode cX1_read 182 = .ok (.ireturn, 1) := by decide +kernel
theorem dX2_init_0 : decode cX2_init 0 = .ok (.aload_n 0, 1) := by decide +kernel
theorem dX2_init_1 : decode cX2_init 1 = .ok (.invokespecial 3, 3) := by decide +kernel
theorem dX2_init_4 : decode cX2_init 4 = .ok (.aload_n 0, 1) := by decide +kernel
theorem dX2_init_5 : decode cX2_init 5 = .ok (.sipush 3600, 3) := by decide +kernel
theorem dX2_init_8 : decode cX2_init 8 = .ok (.newarray .int, 2) := by decide +kernel
theorem dX2_init_10 : decode cX2_init 10 = .ok (.putfield 9, 3) := by decide +kernel
theorem dX2_init_13 : decode cX2_init 13 = .ok (.aload_n 0, 1) := by decide +kernel
theorem dX2_init_14 : decode cX2_init 14 = .ok (.sipush 3600, 3) := by decide +kernel
theorem dX2_init_17 : decode cX2_init 17 = .ok (.newarray .int, 2) := by decide +kernel
theorem dX2_init_19 : decode cX2_init 19 = .ok (.putfield 15, 3) := by decide +kernel
theorem dX2_init_22 : decode cX2_init 22 = .ok (.return_, 1) := by decide +kernel
theorem dX2_index_0 : decode cX2_index 0 = .ok (.iload_n 0, 1) := by decide +kernel
theorem dX2_index_1 : decode cX2_index 1 = .ok (.bipush 60, 2) := by decide +kernel
theorem dX2_index_3 : decode cX2_index 3 = .ok (.imul, 1) := by decide +kernel
theorem dX2_index_4 : decode cX2_index 4 = .ok (.iload_n 1, 1) := by decide +kernel
theorem dX2_index_5 : decode cX2_index 5 = .ok (.iadd, 1) := by decide +kernel
theorem dX2_index_6 : decode cX2_index 6 = .ok (.iconst 1, 1) := by decide +kernel
theorem dX2_index_7 : decode cX2_index 7 = .ok (.isub, 1) := by decide +kernel
theorem dX2_index_8 : decode cX2_index 8 = .ok (.ireturn, 1) := by decide +kernel
theorem dX2_asOne_0 : decode cX2_asOne 0 = .ok (.iload_n 3, 1) := by decide +kernel
theorem dX2_asOne_1 : decode cX2_asOne 1 = .ok (.iconst 1, 1) := by decide +kernel
theorem dX2_asOne_2 : decode cX2_asOne 2 = .ok (.if_icmp .ne 5, 3) := by decide +kernel
theorem dX2_asOne_5 : decode cX2_asOne 5 = .ok (.iconst 1, 1) := by decide +kernel
theorem dX2_asOne_6 : decode cX2_asOne 6 = .ok (.ireturn, 1) := by decide +kernel
theorem dX2_asOne_7 : decode cX2_asOne 7 = .ok (.iload_n 3, 1) := by decide +kernel
theorem dX2_asOne_8 : decode cX2_asOne 8 = .ok (.bipush 20, 2) := by decide +kernel
theorem dX2_asOne_10 : decode cX2_asOne 10 = .ok (.if_icmp .gt 15, 3) := by decide +kernel
theorem dX2_asOne_13 : decode cX2_asOne 13 = .ok (.aload_n 1, 1) := by decide +kernel
theorem dX2_asOne_14 : decode cX2_asOne 14 = .ok (.iload_n 2, 1) := by decide +kernel
theorem dX2_asOne_15 : decode cX2_asOne 15 = .ok (.iload_n 3, 1) := by decide +kernel
theorem dX2_asOne_16 : decode cX2_asOne 16 = .ok (.iconst 1, 1) := by decide +kernel
theorem dX2_asOne_17 : decode cX2_asOne 17 = .ok (.invokestatic 34, 3) := by decide +kernel
theorem dX2_asOne_20 : decode cX2_asOne 20 = .ok (.ifCond .eq 5, 3) := by decide +kernel
theorem dX2_asOne_23 : decode cX2_asOne 23 = .ok (.iconst 2, 1) := by decide +kernel
theorem dX2_asOne_24 : decode cX2_asOne 24 = .ok (.ireturn, 1) := by decide +kernel
theorem dX2_asOne_25 : decode cX2_asOne 25 = .ok (.sipush 240, 3) := by decide +kernel
theorem dX2_asOne_28 : decode cX2_asOne 28 = .ok (.istore 5, 2) := by decide +kernel
theorem dX2_asOne_30 : decode cX2_asOne 30 = .ok (.iconst 1, 1) := by decide +kernel
theorem dX2_asOne_31 : decode cX2_asOne 31 = .ok (.istore 6, 2) := by decide +kernel
theorem dX2_asOne_33 : decode cX2_asOne 33 = .ok (.iload 4, 2) := by decide +kernel
theorem dX2_asOne_35 : decode cX2_asOne 35 = .ok (.ifCond .le 76, 3) := by decide +kernel
theorem dX2_asOne_38 : decode cX2_asOne 38 = .ok (.iload 6, 2) := by decide +kernel
theorem dX2_asOne_40 : decode cX2_asOne 40 = .ok (.iload_n 3, 1) := by decide +kernel
theorem dX2_asOne_41 : decode cX2_asOne 41 = .ok (.iconst 2, 1) := by decide +kernel
theorem dX2_asOne_42 : decode cX2_asOne 42 = .ok (.idiv, 1) := by decide +kernel
theorem dX2_asOne_43 : decode cX2_asOne 43 = .ok (.if_icmp .gt 68, 3) := by decide +kernel
theorem dX2_asOne_46 : decode cX2_asOne 46 = .ok (.iload_n 3, 1) := by decide +kernel
theorem dX2_asOne_47 : decode cX2_asOne 47 = .ok (.iload 6, 2) := by decide +kernel
theorem dX2_asOne_49 : decode cX2_asOne 49 = .ok (.irem, 1) := by decide +kernel
theorem dX2_asOne_50 : decode cX2_asOne 50 = .ok (.ifCond .ne 16, 3) := by decide +kernel
theorem dX2_asOne_53 : decode cX2_asOne 53 = .ok (.iload_n 3, 1) := by decide +kernel
theorem dX2_asOne_54 : decode cX2_asOne 54 = .ok (.iload 6, 2) := by decide +kernel
theorem dX2_asOne_56 : decode cX2_asOne 56 = .ok (.idiv, 1) := by decide +kernel
theorem dX2_asOne_57 : decode cX2_asOne 57 = .ok (.bipush 20, 2) := by decide +kernel
theorem dX2_asOne_59 : decode cX2_asOne 59 = .ok (.if_icmp .gt 7, 3) := by decide +kernel
theorem dX2_asOne_62 : decode cX2_asOne 62 = .ok (.iconst 1, 1) := by decide +kernel
theorem dX2_asOne_63 : decode cX2_asOne 63 = .ok (.goto 4, 3) := by decide +kernel
theorem dX2_asOne_66 : decode cX2_asOne 66 = .ok (.iconst 0, 1) := by decide +kernel
theorem dX2_asOne_67 : decode cX2_asOne 67 = .ok (.istore 7, 2) := by decide +kernel
theorem dX2_asOne_69 : decode cX2_asOne 69 = .ok (.iload 7, 2) := by decide +kernel
theorem dX2_asOne_71 : decode cX2_asOne 71 = .ok (.ifCond .eq 34, 3) := by decide +kernel
theorem dX2_asOne_74 : decode cX2_asOne 74 = .ok (.aload_n 1, 1) := by decide +kernel
theorem dX2_asOne_75 : decode cX2_asOne 75 = .ok (.iload_n 2, 1) := by decide +kernel
theorem dX2_asOne_76 : decode cX2_asOne 76 = .ok (.iload_n 3, 1) := by decide +kernel
theorem dX2_asOne_77 : decode cX2_asOne 77 = .ok (.iload 6, 2) := by decide +kernel
theorem dX2_asOne_79 : decode cX2_asOne 79 = .ok (.invokestatic 34, 3) := by decide +kernel
theorem dX2_asOne_82 : decode cX2_asOne 82 = .ok (.ifCond .eq 23, 3) := by decide +kernel
theorem dX2_asOne_85 : decode cX2_asOne 85 = .ok (.iload 5, 2) := by decide +kernel
theorem dX2_asOne_87 : decode cX2_asOne 87 = .ok (.aload_n 0, 1) := by decide +kernel
theorem dX2_asOne_88 : decode cX2_asOne 88 = .ok (.getfield 9, 3) := by decide +kernel
theorem dX2_asOne_91 : decode cX2_asOne 91 = .ok (.iload_n 2, 1) := by decide +kernel
theorem dX2_asOne_92 : decode cX2_asOne 92 = .ok (.iload 6, 2) := by decide +kernel
theorem dX2_asOne_94 : decode cX2_asOne 94 = .ok (.invokestatic 18, 3) := by decide +kernel
theorem dX2_asOne_97 : decode cX2_asOne 97 = .ok (.iaload, 1) := by decide +kernel
theorem dX2_asOne_98 : decode cX2_asOne 98 = .ok (.iconst 3, 1) := by decide +kernel
theorem dX2_asOne_99 : decode cX2_asOne 99 = .ok (.iadd, 1) := by decide +kernel
theorem dX2_asOne_100 : decode cX2_asOne 100 = .ok (.invokestatic 29, 3) := by decide +kernel
theorem dX2_asOne_103 : decode cX2_asOne 103 = .ok (.istore 5, 2) := by decide +kernel
theorem dX2_asOne_105 : decode cX2_asOne 105 = .ok (.iinc 6 1, 3) := by decide +kernel
theorem dX2_asOne_108 : decode cX2_asOne 108 = .ok (.goto (-75), 3) := by decide +kernel
theorem dX2_asOne_111 : decode cX2_asOne 111 = .ok (.iload 5, 2) := by decide +kernel
theorem dX2_asOne_113 : decode cX2_asOne 113 = .ok (.ireturn, 1) := by decide +kernel
theorem dX2_best_0 : decode cX2_best 0 = .ok (.aload_n 0, 1) := by decide +kernel
theorem dX2_best_1 : decode cX2_best 1 = .ok (.aload_n 1, 1) := by decide +kernel
theorem dX2_best_2 : decode cX2_best 2 = .ok (.iload_n 2, 1) := by decide +kernel
theorem dX2_best_3 : decode cX2_best 3 = .ok (.iload_n 3, 1) := by decide +kernel
theorem dX2_best_4 : decode cX2_best 4 = .ok (.iload 4, 2) := by decide +kernel
theorem dX2_best_6 : decode cX2_best 6 = .ok (.invokevirtual 26, 3) := by decide +kernel
theorem dX2_best_9 : decode cX2_best 9 = .ok (.istore 5, 2) := by decide +kernel
theorem dX2_best_11 : decode cX2_best 11 = .ok (.iconst 1, 1) := by decide +kernel
theorem dX2_best_12 : decode cX2_best 12 = .ok (.istore 6, 2) := by decide +kernel
theorem dX2_best_14 : decode cX2_best 14 = .ok (.iload 6, 2) := by decide +kernel
theorem dX2_best_16 : decode cX2_best 16 = .ok (.iload_n 3, 1) := by decide +kernel
theorem dX2_best_17 : decode cX2_best 17 = .ok (.if_icmp .ge 48, 3) := by decide +kernel
theorem dX2_best_20 : decode cX2_best 20 = .ok (.aload_n 0, 1) := by decide +kernel
theorem dX2_best_21 : decode cX2_best 21 = .ok (.getfield 15, 3) := by decide +kernel
theorem dX2_best_24 : decode cX2_best 24 = .ok (.iload_n 2, 1) := by decide +kernel
theorem dX2_best_25 : decode cX2_best 25 = .ok (.iload 6, 2) := by decide +kernel
theorem dX2_best_27 : decode cX2_best 27 = .ok (.invokestatic 18, 3) := by decide +kernel
theorem dX2_best_30 : decode cX2_best 30 = .ok (.iaload, 1) := by decide +kernel
theorem dX2_best_31 : decode cX2_best 31 = .ok (.aload_n 0, 1) := by decide +kernel
theorem dX2_best_32 : decode cX2_best 32 = .ok (.getfield 15, 3) := by decide +kernel
theorem dX2_best_35 : decode cX2_best 35 = .ok (.iload_n 2, 1) := by decide +kernel
theorem dX2_best_36 : decode cX2_best 36 = .ok (.iload 6, 2) := by decide +kernel
theorem dX2_best_38 : decode cX2_best 38 = .ok (.iadd, 1) := by decide +kernel
theorem dX2_best_39 : decode cX2_best 39 = .ok (.iload_n 3, 1) := by decide +kernel
theorem dX2_best_40 : decode cX2_best 40 = .ok (.iload 6, 2) := by decide +kernel
theorem dX2_best_42 : decode cX2_best 42 = .ok (.isub, 1) := by decide +kernel
theorem dX2_best_43 : decode cX2_best 43 = .ok (.invokestatic 18, 3) := by decide +kernel
theorem dX2_best_46 : decode cX2_best 46 = .ok (.iaload, 1) := by decide +kernel
theorem dX2_best_47 : decode cX2_best 47 = .ok (.iadd, 1) := by decide +kernel
theorem dX2_best_48 : decode cX2_best 48 = .ok (.istore 7, 2) := by decide +kernel
theorem dX2_best_50 : decode cX2_best 50 = .ok (.iload 5, 2) := by decide +kernel
theorem dX2_best_52 : decode cX2_best 52 = .ok (.iload 7, 2) := by decide +kernel
theorem dX2_best_54 : decode cX2_best 54 = .ok (.invokestatic 29, 3) := by decide +kernel
theorem dX2_best_57 : decode cX2_best 57 = .ok (.istore 5, 2) := by decide +kernel
theorem dX2_best_59 : decode cX2_best 59 = .ok (.iinc 6 1, 3) := by decide +kernel
theorem dX2_best_62 : decode cX2_best 62 = .ok (.goto (-48), 3) := by decide +kernel
theorem dX2_best_65 : decode cX2_best 65 = .ok (.iload 5, 2) := by decide +kernel
theorem dX2_best_67 : decode cX2_best 67 = .ok (.ireturn, 1) := by decide +kernel
theorem dX2_fewest_0 : decode cX2_fewest 0 = .ok (.iload_n 2, 1) := by decide +kernel
theorem dX2_fewest_1 : decode cX2_fewest 1 = .ok (.iconst 1, 1) := by decide +kernel
theorem dX2_fewest_2 : decode cX2_fewest 2 = .ok (.if_icmp .lt 15, 3) := by decide +kernel
theorem dX2_fewest_5 : decode cX2_fewest 5 = .ok (.iload_n 2, 1) := by decide +kernel
theorem dX2_fewest_6 : decode cX2_fewest 6 = .ok (.bipush 60, 2) := by decide +kernel
theorem dX2_fewest_8 : decode cX2_fewest 8 = .ok (.if_icmp .gt 9, 3) := by decide +kernel
theorem dX2_fewest_11 : decode cX2_fewest 11 = .ok (.iload_n 2, 1) := by decide +kernel
theorem dX2_fewest_12 : decode cX2_fewest 12 = .ok (.aload_n 1, 1) := by decide +kernel
theorem dX2_fewest_13 : decode cX2_fewest 13 = .ok (.arraylength, 1) := by decide +kernel
theorem dX2_fewest_14 : decode cX2_fewest 14 = .ok (.if_icmp .le 5, 3) := by decide +kernel
theorem dX2_fewest_17 : decode cX2_fewest 17 = .ok (.iconst 0, 1) := by decide +kernel
theorem dX2_fewest_18 : decode cX2_fewest 18 = .ok (.ireturn, 1) := by decide +kernel
theorem dX2_fewest_19 : decode cX2_fewest 19 = .ok (.iconst 0, 1) := by decide +kernel
theorem dX2_fewest_20 : decode cX2_fewest 20 = .ok (.istore_n 3, 1) := by decide +kernel
theorem dX2_fewest_21 : decode cX2_fewest 21 = .ok (.iload_n 3, 1) := by decide +kernel
theorem dX2_fewest_22 : decode cX2_fewest 22 = .ok (.iconst 3, 1) := by decide +kernel
theorem dX2_fewest_23 : decode cX2_fewest 23 = .ok (.if_icmp .gt 84, 3) := by decide +kernel
theorem dX2_fewest_26 : decode cX2_fewest 26 = .ok (.aload_n 0, 1) := by decide +kernel
theorem dX2_fewest_27 : decode cX2_fewest 27 = .ok (.getfield 9, 3) := by decide +kernel
theorem dX2_fewest_30 : decode cX2_fewest 30 = .ok (.astore 4, 2) := by decide +kernel
theorem dX2_fewest_32 : decode cX2_fewest 32 = .ok (.aload_n 0, 1) := by decide +kernel
theorem dX2_fewest_33 : decode cX2_fewest 33 = .ok (.aload_n 0, 1) := by decide +kernel
theorem dX2_fewest_34 : decode cX2_fewest 34 = .ok (.getfield 15, 3) := by decide +kernel
theorem dX2_fewest_37 : decode cX2_fewest 37 = .ok (.putfield 9, 3) := by decide +kernel
theorem dX2_fewest_40 : decode cX2_fewest 40 = .ok (.aload_n 0, 1) := by decide +kernel
theorem dX2_fewest_41 : decode cX2_fewest 41 = .ok (.aload 4, 2) := by decide +kernel
theorem dX2_fewest_43 : decode cX2_fewest 43 = .ok (.putfield 15, 3) := by decide +kernel
theorem dX2_fewest_46 : decode cX2_fewest 46 = .ok (.iconst 1, 1) := by decide +kernel
theorem dX2_fewest_47 : decode cX2_fewest 47 = .ok (.istore 5, 2) := by decide +kernel
theorem dX2_fewest_49 : decode cX2_fewest 49 = .ok (.iload 5, 2) := by decide +kernel
theorem dX2_fewest_51 : decode cX2_fewest 51 = .ok (.iload_n 2, 1) := by decide +kernel
theorem dX2_fewest_52 : decode cX2_fewest 52 = .ok (.if_icmp .gt 49, 3) := by decide +kernel
theorem dX2_fewest_55 : decode cX2_fewest 55 = .ok (.iconst 0, 1) := by decide +kernel
theorem dX2_fewest_56 : decode cX2_fewest 56 = .ok (.istore 6, 2) := by decide +kernel
theorem dX2_fewest_58 : decode cX2_fewest 58 = .ok (.iload 6, 2) := by decide +kernel
theorem dX2_fewest_60 : decode cX2_fewest 60 = .ok (.iload 5, 2) := by decide +kernel
theorem dX2_fewest_62 : decode cX2_fewest 62 = .ok (.iadd, 1) := by decide +kernel
theorem dX2_fewest_63 : decode cX2_fewest 63 = .ok (.iload_n 2, 1) := by decide +kernel
theorem dX2_fewest_64 : decode cX2_fewest 64 = .ok (.if_icmp .gt 31, 3) := by decide +kernel
theorem dX2_fewest_67 : decode cX2_fewest 67 = .ok (.aload_n 0, 1) := by decide +kernel
theorem dX2_fewest_68 : decode cX2_fewest 68 = .ok (.getfield 15, 3) := by decide +kernel
theorem dX2_fewest_71 : decode cX2_fewest 71 = .ok (.iload 6, 2) := by decide +kernel
theorem dX2_fewest_73 : decode cX2_fewest 73 = .ok (.iload 5, 2) := by decide +kernel
theorem dX2_fewest_75 : decode cX2_fewest 75 = .ok (.invokestatic 18, 3) := by decide +kernel
theorem dX2_fewest_78 : decode cX2_fewest 78 = .ok (.aload_n 0, 1) := by decide +kernel
theorem dX2_fewest_79 : decode cX2_fewest 79 = .ok (.aload_n 1, 1) := by decide +kernel
theorem dX2_fewest_80 : decode cX2_fewest 80 = .ok (.iload 6, 2) := by decide +kernel
theorem dX2_fewest_82 : decode cX2_fewest 82 = .ok (.iload 5, 2) := by decide +kernel
theorem dX2_fewest_84 : decode cX2_fewest 84 = .ok (.iload_n 3, 1) := by decide +kernel
theorem dX2_fewest_85 : decode cX2_fewest 85 = .ok (.invokevirtual 22, 3) := by decide +kernel
theorem dX2_fewest_88 : decode cX2_fewest 88 = .ok (.iastore, 1) := by decide +kernel
theorem dX2_fewest_89 : decode cX2_fewest 89 = .ok (.iinc 6 1, 3) := by decide +kernel
theorem dX2_fewest_92 : decode cX2_fewest 92 = .ok (.goto (-34), 3) := by decide +kernel
theorem dX2_fewest_95 : decode cX2_fewest 95 = .ok (.iinc 5 1, 3) := by decide +kernel
theorem dX2_fewest_98 : decode cX2_fewest 98 = .ok (.goto (-49), 3) := by decide +kernel
theorem dX2_fewest_101 : decode cX2_fewest 101 = .ok (.iinc 3 1, 3) := by decide +kernel
theorem dX2_fewest_104 : decode cX2_fewest 104 = .ok (.goto (-83), 3) := by decide +kernel
theorem dX2_fewest_107 : decode cX2_fewest 107 = .ok (.aload_n 0, 1) := by decide +kernel
theorem dX2_fewest_108 : decode cX2_fewest 108 = .ok (.getfield 15, 3) := by decide +kernel
theorem dX2_fewest_111 : decode cX2_fewest 111 = .ok (.iconst 0, 1) := by decide +kernel
theorem dX2_fewest_112 : decode cX2_fewest 112 = .ok (.iload_n 2, 1) := by decide +kernel
theorem dX2_fewest_113 : decode cX2_fewest 113 = .ok (.invokestatic 18, 3) := by decide +kernel
theorem dX2_fewest_116 : decode cX2_fewest 116 = .ok (.iaload, 1) := by decide +kernel
theorem dX2_fewest_117 : decode cX2_fewest 117 = .ok (.ireturn, 1) := by decide +kernel
theorem dX3_begin_0 : decode cX3_begin 0 = .ok (.aload_n 0, 1) := by decide +kernel
theorem dX3_begin_1 : decode cX3_begin 1 = .ok (.getfield 9, 3) := by decide +kernel
theorem dX3_begin_4 : decode cX3_begin 4 = .ok (.iconst (-1), 1) := by decide +kernel
theorem dX3_begin_5 : decode cX3_begin 5 = .ok (.invokestatic 15, 3) := by decide +kernel
theorem dX3_begin_8 : decode cX3_begin 8 = .ok (.aload_n 1, 1) := by decide +kernel
theorem dX3_begin_9 : decode cX3_begin 9 = .ok (.getfield 21, 3) := by decide +kernel
theorem dX3_begin_12 : decode cX3_begin 12 = .ok (.iconst 0, 1) := by decide +kernel
theorem dX3_begin_13 : decode cX3_begin 13 = .ok (.aload_n 0, 1) := by decide +kernel
theorem dX3_begin_14 : decode cX3_begin 14 = .ok (.getfield 9, 3) := by decide +kernel
theorem dX3_begin_17 : decode cX3_begin 17 = .ok (.iconst 4, 1) := by decide +kernel
theorem dX3_begin_18 : decode cX3_begin 18 = .ok (.bipush 8, 2) := by decide +kernel
theorem dX3_begin_20 : decode cX3_begin 20 = .ok (.invokestatic 26, 3) := by decide +kernel
theorem dX3_begin_23 : decode cX3_begin 23 = .ok (.return_, 1) := by decide +kernel
theorem dX3_copy_0 : decode cX3_copy 0 = .ok (.aload_n 1, 1) := by decide +kernel
theorem dX3_copy_1 : decode cX3_copy 1 = .ok (.getfield 9, 3) := by decide +kernel
theorem dX3_copy_4 : decode cX3_copy 4 = .ok (.iconst 0, 1) := by decide +kernel
theorem dX3_copy_5 : decode cX3_copy 5 = .ok (.aload_n 0, 1) := by decide +kernel
theorem dX3_copy_6 : decode cX3_copy 6 = .ok (.getfield 9, 3) := by decide +kernel
theorem dX3_copy_9 : decode cX3_copy 9 = .ok (.iconst 0, 1) := by decide +kernel
theorem dX3_copy_10 : decode cX3_copy 10 = .ok (.aload_n 0, 1) := by decide +kernel
theorem dX3_copy_11 : decode cX3_copy 11 = .ok (.getfield 9, 3) := by decide +kernel
theorem dX3_copy_14 : decode cX3_copy 14 = .ok (.arraylength, 1) := by decide +kernel
theorem dX3_copy_15 : decode cX3_copy 15 = .ok (.invokestatic 26, 3) := by decide +kernel
theorem dX3_copy_18 : decode cX3_copy 18 = .ok (.return_, 1) := by decide +kernel
theorem dX3_at_0 : decode cX3_at 0 = .ok (.iload_n 1, 1) := by decide +kernel
theorem dX3_at_1 : decode cX3_at 1 = .ok (.ifCond .lt 21, 3) := by decide +kernel
theorem dX3_at_4 : decode cX3_at 4 = .ok (.iload_n 1, 1) := by decide +kernel
theorem dX3_at_5 : decode cX3_at 5 = .ok (.aload_n 0, 1) := by decide +kernel
theorem dX3_at_6 : decode cX3_at 6 = .ok (.getfield 9, 3) := by decide +kernel
theorem dX3_at_9 : decode cX3_at 9 = .ok (.arraylength, 1) := by decide +kernel
theorem dX3_at_10 : decode cX3_at 10 = .ok (.if_icmp .ge 12, 3) := by decide +kernel
theorem dX3_at_13 : decode cX3_at 13 = .ok (.aload_n 0, 1) := by decide +kernel
theorem dX3_at_14 : decode cX3_at 14 = .ok (.getfield 9, 3) := by decide +kernel
theorem dX3_at_17 : decode cX3_at 17 = .ok (.iload_n 1, 1) := by decide +kernel
theorem dX3_at_18 : decode cX3_at 18 = .ok (.iaload, 1) := by decide +kernel
theorem dX3_at_19 : decode cX3_at 19 = .ok (.goto 4, 3) := by decide +kernel
theorem dX3_at_22 : decode cX3_at 22 = .ok (.iconst (-1), 1) := by decide +kernel
theorem dX3_at_23 : decode cX3_at 23 = .ok (.ireturn, 1) := by decide +kernel
theorem dX3_put_0 : decode cX3_put 0 = .ok (.aload_n 0, 1) := by decide +kernel
theorem dX3_put_1 : decode cX3_put 1 = .ok (.iload_n 1, 1) := by decide +kernel
theorem dX3_put_2 : decode cX3_put 2 = .ok (.invokevirtual 32, 3) := by decide +kernel
theorem dX3_put_5 : decode cX3_put 5 = .ok (.istore_n 3, 1) := by decide +kernel
theorem dX3_put_6 : decode cX3_put 6 = .ok (.iload_n 1, 1) := by decide +kernel
theorem dX3_put_7 : decode cX3_put 7 = .ok (.ifCond .lt 19, 3) := by decide +kernel
theorem dX3_put_10 : decode cX3_put 10 = .ok (.iload_n 1, 1) := by decide +kernel
theorem dX3_put_11 : decode cX3_put 11 = .ok (.aload_n 0, 1) := by decide +kernel
theorem dX3_put_12 : decode cX3_put 12 = .ok (.getfield 9, 3) := by decide +kernel
theorem dX3_put_15 : decode cX3_put 15 = .ok (.arraylength, 1) := by decide +kernel
theorem dX3_put_16 : decode cX3_put 16 = .ok (.if_icmp .ge 10, 3) := by decide +kernel
theorem dX3_put_19 : decode cX3_put 19 = .ok (.aload_n 0, 1) := by decide +kernel
theorem dX3_put_20 : decode cX3_put 20 = .ok (.getfield 9, 3) := by decide +kernel
theorem dX3_put_23 : decode cX3_put 23 = .ok (.iload_n 1, 1) := by decide +kernel
theorem dX3_put_24 : decode cX3_put 24 = .ok (.iload_n 2, 1) := by decide +kernel
theorem dX3_put_25 : decode cX3_put 25 = .ok (.iastore, 1) := by decide +kernel
theorem dX3_put_26 : decode cX3_put 26 = .ok (.iload_n 3, 1) := by decide +kernel
theorem dX3_put_27 : decode cX3_put 27 = .ok (.ireturn, 1) := by decide +kernel
theorem dX3_guessOf_0 : decode cX3_guessOf 0 = .ok (.iload_n 1, 1) := by decide +kernel
theorem dX3_guessOf_1 : decode cX3_guessOf 1 = .ok (.ifCond .lt 17, 3) := by decide +kernel
theorem dX3_guessOf_4 : decode cX3_guessOf 4 = .ok (.iload_n 1, 1) := by decide +kernel
theorem dX3_guessOf_5 : decode cX3_guessOf 5 = .ok (.iconst 4, 1) := by decide +kernel
theorem dX3_guessOf_6 : decode cX3_guessOf 6 = .ok (.if_icmp .ge 12, 3) := by decide +kernel
theorem dX3_guessOf_9 : decode cX3_guessOf 9 = .ok (.aload_n 0, 1) := by decide +kernel
theorem dX3_guessOf_10 : decode cX3_guessOf 10 = .ok (.getfield 9, 3) := by decide +kernel
theorem dX3_guessOf_13 : decode cX3_guessOf 13 = .ok (.iload_n 1, 1) := by decide +kernel
theorem dX3_guessOf_14 : decode cX3_guessOf 14 = .ok (.iaload, 1) := by decide +kernel
theorem dX3_guessOf_15 : decode cX3_guessOf 15 = .ok (.goto 4, 3) := by decide +kernel
theorem dX3_guessOf_18 : decode cX3_guessOf 18 = .ok (.iconst (-1), 1) := by decide +kernel
theorem dX3_guessOf_19 : decode cX3_guessOf 19 = .ok (.ireturn, 1) := by decide +kernel
theorem dX3_countOf_0 : decode cX3_countOf 0 = .ok (.iload_n 1, 1) := by decide +kernel
theorem dX3_countOf_1 : decode cX3_countOf 1 = .ok (.ifCond .lt 20, 3) := by decide +kernel
theorem dX3_countOf_4 : decode cX3_countOf 4 = .ok (.iload_n 1, 1) := by decide +kernel
theorem dX3_countOf_5 : decode cX3_countOf 5 = .ok (.bipush 8, 2) := by decide +kernel
theorem dX3_countOf_7 : decode cX3_countOf 7 = .ok (.if_icmp .ge 14, 3) := by decide +kernel
theorem dX3_countOf_10 : decode cX3_countOf 10 = .ok (.aload_n 0, 1) := by decide +kernel
theorem dX3_countOf_11 : decode cX3_countOf 11 = .ok (.getfield 9, 3) := by decide +kernel
theorem dX3_countOf_14 : decode cX3_countOf 14 = .ok (.iconst 4, 1) := by decide +kernel
theorem dX3_countOf_15 : decode cX3_countOf 15 = .ok (.iload_n 1, 1) := by decide +kernel
theorem dX3_countOf_16 : decode cX3_countOf 16 = .ok (.iadd, 1) := by decide +kernel
theorem dX3_countOf_17 : decode cX3_countOf 17 = .ok (.iaload, 1) := by decide +kernel
theorem dX3_countOf_18 : decode cX3_countOf 18 = .ok (.goto 4, 3) := by decide +kernel
theorem dX3_countOf_21 : decode cX3_countOf 21 = .ok (.iconst (-1), 1) := by decide +kernel
theorem dX3_countOf_22 : decode cX3_countOf 22 = .ok (.ireturn, 1) := by decide +kernel
theorem dX3_guessBits_0 : decode cX3_guessBits 0 = .ok (.iconst 0, 1) := by decide +kernel
theorem dX3_guessBits_1 : decode cX3_guessBits 1 = .ok (.istore_n 1, 1) := by decide +kernel
theorem dX3_guessBits_2 : decode cX3_guessBits 2 = .ok (.iconst 0, 1) := by decide +kernel
theorem dX3_guessBits_3 : decode cX3_guessBits 3 = .ok (.istore_n 2, 1) := by decide +kernel
theorem dX3_guessBits_4 : decode cX3_guessBits 4 = .ok (.iload_n 2, 1) := by decide +kernel
theorem dX3_guessBits_5 : decode cX3_guessBits 5 = .ok (.iconst 4, 1) := by decide +kernel
theorem dX3_guessBits_6 : decode cX3_guessBits 6 = .ok (.if_icmp .ge 28, 3) := by decide +kernel
theorem dX3_guessBits_9 : decode cX3_guessBits 9 = .ok (.iload_n 1, 1) := by decide +kernel
theorem dX3_guessBits_10 : decode cX3_guessBits 10 = .ok (.aload_n 0, 1) := by decide +kernel
theorem dX3_guessBits_11 : decode cX3_guessBits 11 = .ok (.iload_n 2, 1) := by decide +kernel
theorem dX3_guessBits_12 : decode cX3_guessBits 12 = .ok (.invokevirtual 36, 3) := by decide +kernel
theorem dX3_guessBits_15 : decode cX3_guessBits 15 = .ok (.iconst (-1), 1) := by decide +kernel
theorem dX3_guessBits_16 : decode cX3_guessBits 16 = .ok (.if_icmp .eq 9, 3) := by decide +kernel
theorem dX3_guessBits_19 : decode cX3_guessBits 19 = .ok (.iconst 1, 1) := by decide +kernel
theorem dX3_guessBits_20 : decode cX3_guessBits 20 = .ok (.iload_n 2, 1) := by decide +kernel
theorem dX3_guessBits_21 : decode cX3_guessBits 21 = .ok (.ishl, 1) := by decide +kernel
theorem dX3_guessBits_22 : decode cX3_guessBits 22 = .ok (.goto 4, 3) := by decide +kernel
theorem dX3_guessBits_25 : decode cX3_guessBits 25 = .ok (.iconst 0, 1) := by decide +kernel
theorem dX3_guessBits_26 : decode cX3_guessBits 26 = .ok (.ior, 1) := by decide +kernel
theorem dX3_guessBits_27 : decode cX3_guessBits 27 = .ok (.istore_n 1, 1) := by decide +kernel
theorem dX3_guessBits_28 : decode cX3_guessBits 28 = .ok (.iinc 2 1, 3) := by decide +kernel
theorem dX3_guessBits_31 : decode cX3_guessBits 31 = .ok (.goto (-27), 3) := by decide +kernel
theorem dX3_guessBits_34 : decode cX3_guessBits 34 = .ok (.iload_n 1, 1) := by decide +kernel
theorem dX3_guessBits_35 : decode cX3_guessBits 35 = .ok (.ireturn, 1) := by decide +kernel
theorem dX3_countBits_0 : decode cX3_countBits 0 = .ok (.iconst 0, 1) := by decide +kernel
theorem dX3_countBits_1 : decode cX3_countBits 1 = .ok (.istore_n 1, 1) := by decide +kernel
theorem dX3_countBits_2 : decode cX3_countBits 2 = .ok (.iconst 0, 1) := by decide +kernel
theorem dX3_countBits_3 : decode cX3_countBits 3 = .ok (.istore_n 2, 1) := by decide +kernel
theorem dX3_countBits_4 : decode cX3_countBits 4 = .ok (.iload_n 2, 1) := by decide +kernel
theorem dX3_countBits_5 : decode cX3_countBits 5 = .ok (.bipush 8, 2) := by decide +kernel
theorem dX3_countBits_7 : decode cX3_countBits 7 = .ok (.if_icmp .ge 28, 3) := by decide +kernel
theorem dX3_countBits_10 : decode cX3_countBits 10 = .ok (.iload_n 1, 1) := by decide +kernel
theorem dX3_countBits_11 : decode cX3_countBits 11 = .ok (.aload_n 0, 1) := by decide +kernel
theorem dX3_countBits_12 : decode cX3_countBits 12 = .ok (.iload_n 2, 1) := by decide +kernel
theorem dX3_countBits_13 : decode cX3_countBits 13 = .ok (.invokevirtual 39, 3) := by decide +kernel
theorem dX3_countBits_16 : decode cX3_countBits 16 = .ok (.iconst (-1), 1) := by decide +kernel
theorem dX3_countBits_17 : decode cX3_countBits 17 = .ok (.if_icmp .eq 9, 3) := by decide +kernel
theorem dX3_countBits_20 : decode cX3_countBits 20 = .ok (.iconst 1, 1) := by decide +kernel
theorem dX3_countBits_21 : decode cX3_countBits 21 = .ok (.iload_n 2, 1) := by decide +kernel
theorem dX3_countBits_22 : decode cX3_countBits 22 = .ok (.ishl, 1) := by decide +kernel
theorem dX3_countBits_23 : decode cX3_countBits 23 = .ok (.goto 4, 3) := by decide +kernel
theorem dX3_countBits_26 : decode cX3_countBits 26 = .ok (.iconst 0, 1) := by decide +kernel
theorem dX3_countBits_27 : decode cX3_countBits 27 = .ok (.ior, 1) := by decide +kernel
theorem dX3_countBits_28 : decode cX3_countBits 28 = .ok (.istore_n 1, 1) := by decide +kernel
theorem dX3_countBits_29 : decode cX3_countBits 29 = .ok (.iinc 2 1, 3) := by decide +kernel
theorem dX3_countBits_32 : decode cX3_countBits 32 = .ok (.goto (-28), 3) := by decide +kernel
theorem dX3_countBits_35 : decode cX3_countBits 35 = .ok (.iload_n 1, 1) := by decide +kernel
theorem dX3_countBits_36 : decode cX3_countBits 36 = .ok (.ireturn, 1) := by decide +kernel
theorem dX3_allGuessed_0 : decode cX3_allGuessed 0 = .ok (.aload_n 0, 1) := by decide +kernel
theorem dX3_allGuessed_1 : decode cX3_allGuessed 1 = .ok (.invokevirtual 42, 3) := by decide +kernel
theorem dX3_allGuessed_4 : decode cX3_allGuessed 4 = .ok (.invokestatic 46, 3) := by decide +kernel
theorem dX3_allGuessed_7 : decode cX3_allGuessed 7 = .ok (.iload_n 1, 1) := by decide +kernel
theorem dX3_allGuessed_8 : decode cX3_allGuessed 8 = .ok (.if_icmp .ne 7, 3) := by decide +kernel
theorem dX3_allGuessed_11 : decode cX3_allGuessed 11 = .ok (.iconst 1, 1) := by decide +kernel
theorem dX3_allGuessed_12 : decode cX3_allGuessed 12 = .ok (.goto 4, 3) := by decide +kernel
theorem dX3_allGuessed_15 : decode cX3_allGuessed 15 = .ok (.iconst 0, 1) := by decide +kernel
theorem dX3_allGuessed_16 : decode cX3_allGuessed 16 = .ok (.ireturn, 1) := by decide +kernel
theorem dX3_packed_0 : decode cX3_packed 0 = .ok (.iconst 0, 1) := by decide +kernel
theorem dX3_packed_1 : decode cX3_packed 1 = .ok (.istore_n 1, 1) := by decide +kernel
theorem dX3_packed_2 : decode cX3_packed 2 = .ok (.iconst 0, 1) := by decide +kernel
theorem dX3_packed_3 : decode cX3_packed 3 = .ok (.istore_n 2, 1) := by decide +kernel
theorem dX3_packed_4 : decode cX3_packed 4 = .ok (.iload_n 2, 1) := by decide +kernel
theorem dX3_packed_5 : decode cX3_packed 5 = .ok (.iconst 4, 1) := by decide +kernel
theorem dX3_packed_6 : decode cX3_packed 6 = .ok (.if_icmp .ge 25, 3) := by decide +kernel
theorem dX3_packed_9 : decode cX3_packed 9 = .ok (.iload_n 1, 1) := by decide +kernel
theorem dX3_packed_10 : decode cX3_packed 10 = .ok (.aload_n 0, 1) := by decide +kernel
theorem dX3_packed_11 : decode cX3_packed 11 = .ok (.iload_n 2, 1) := by decide +kernel
theorem dX3_packed_12 : decode cX3_packed 12 = .ok (.invokevirtual 36, 3) := by decide +kernel
theorem dX3_packed_15 : decode cX3_packed 15 = .ok (.iconst 0, 1) := by decide +kernel
theorem dX3_packed_16 : decode cX3_packed 16 = .ok (.invokestatic 51, 3) := by decide +kernel
theorem dX3_packed_19 : decode cX3_packed 19 = .ok (.iconst 4, 1) := by decide +kernel
theorem dX3_packed_20 : decode cX3_packed 20 = .ok (.iload_n 2, 1) := by decide +kernel
theorem dX3_packed_21 : decode cX3_packed 21 = .ok (.imul, 1) := by decide +kernel
theorem dX3_packed_22 : decode cX3_packed 22 = .ok (.ishl, 1) := by decide +kernel
theorem dX3_packed_23 : decode cX3_packed 23 = .ok (.ior, 1) := by decide +kernel
theorem dX3_packed_24 : decode cX3_packed 24 = .ok (.istore_n 1, 1) := by decide +kernel
theorem dX3_packed_25 : decode cX3_packed 25 = .ok (.iinc 2 1, 3) := by decide +kernel
theorem dX3_packed_28 : decode cX3_packed 28 = .ok (.goto (-24), 3) := by decide +kernel
theorem dX3_packed_31 : decode cX3_packed 31 = .ok (.iload_n 1, 1) := by decide +kernel
theorem dX3_packed_32 : decode cX3_packed 32 = .ok (.ireturn, 1) := by decide +kernel
theorem dX8_meaningIn_0 : decode cX8_meaningIn 0 = .ok (.iload_n 0, 1) := by decide +kernel
theorem dX8_meaningIn_1 : decode cX8_meaningIn 1 = .ok (.iconst 4, 1) := by decide +kernel
theorem dX8_meaningIn_2 : decode cX8_meaningIn 2 = .ok (.iload_n 1, 1) := by decide +kernel
theorem dX8_meaningIn_3 : decode cX8_meaningIn 3 = .ok (.imul, 1) := by decide +kernel
theorem dX8_meaningIn_4 : decode cX8_meaningIn 4 = .ok (.ishr, 1) := by decide +kernel
theorem dX8_meaningIn_5 : decode cX8_meaningIn 5 = .ok (.bipush 15, 2) := by decide +kernel
theorem dX8_meaningIn_7 : decode cX8_meaningIn 7 = .ok (.iand, 1) := by decide +kernel
theorem dX8_meaningIn_8 : decode cX8_meaningIn 8 = .ok (.ireturn, 1) := by decide +kernel
theorem dX3_guesses_0 : decode cX3_guesses 0 = .ok (.iconst 0, 1) := by decide +kernel
theorem dX3_guesses_1 : decode cX3_guesses 1 = .ok (.istore_n 2, 1) := by decide +kernel
theorem dX3_guesses_2 : decode cX3_guesses 2 = .ok (.iload_n 2, 1) := by decide +kernel
theorem dX3_guesses_3 : decode cX3_guesses 3 = .ok (.iconst 4, 1) := by decide +kernel
theorem dX3_guesses_4 : decode cX3_guesses 4 = .ok (.if_icmp .ge 31, 3) := by decide +kernel
theorem dX3_guesses_7 : decode cX3_guesses 7 = .ok (.aload_n 0, 1) := by decide +kernel
theorem dX3_guesses_8 : decode cX3_guesses 8 = .ok (.iload_n 2, 1) := by decide +kernel
theorem dX3_guesses_9 : decode cX3_guesses 9 = .ok (.invokevirtual 36, 3) := by decide +kernel
theorem dX3_guesses_12 : decode cX3_guesses 12 = .ok (.istore_n 3, 1) := by decide +kernel
theorem dX3_guesses_13 : decode cX3_guesses 13 = .ok (.iload_n 3, 1) := by decide +kernel
theorem dX3_guesses_14 : decode cX3_guesses 14 = .ok (.iconst (-1), 1) := by decide +kernel
theorem dX3_guesses_15 : decode cX3_guesses 15 = .ok (.if_icmp .eq 14, 3) := by decide +kernel
theorem dX3_guesses_18 : decode cX3_guesses 18 = .ok (.iload_n 3, 1) := by decide +kernel
theorem dX3_guesses_19 : decode cX3_guesses 19 = .ok (.iload_n 1, 1) := by decide +kernel
theorem dX3_guesses_20 : decode cX3_guesses 20 = .ok (.iload_n 2, 1) := by decide +kernel
theorem dX3_guesses_21 : decode cX3_guesses 21 = .ok (.invokestatic 57, 3) := by decide +kernel
theorem dX3_guesses_24 : decode cX3_guesses 24 = .ok (.if_icmp .eq 5, 3) := by decide +kernel
theorem dX3_guesses_27 : decode cX3_guesses 27 = .ok (.iconst 0, 1) := by decide +kernel
theorem dX3_guesses_28 : decode cX3_guesses 28 = .ok (.ireturn, 1) := by decide +kernel
theorem dX3_guesses_29 : decode cX3_guesses 29 = .ok (.iinc 2 1, 3) := by decide +kernel
theorem dX3_guesses_32 : decode cX3_guesses 32 = .ok (.goto (-30), 3) := by decide +kernel
theorem dX3_guesses_35 : decode cX3_guesses 35 = .ok (.iconst 1, 1) := by decide +kernel
theorem dX3_guesses_36 : decode cX3_guesses 36 = .ok (.ireturn, 1) := by decide +kernel
theorem dX3_missed_0 : decode cX3_missed 0 = .ok (.iconst 0, 1) := by decide +kernel
theorem dX3_missed_1 : decode cX3_missed 1 = .ok (.istore_n 3, 1) := by decide +kernel
theorem dX3_missed_2 : decode cX3_missed 2 = .ok (.iconst 0, 1) := by decide +kernel
theorem dX3_missed_3 : decode cX3_missed 3 = .ok (.istore 4, 2) := by decide +kernel
theorem dX3_missed_5 : decode cX3_missed 5 = .ok (.iload 4, 2) := by decide +kernel
theorem dX3_missed_7 : decode cX3_missed 7 = .ok (.aload_n 2, 1) := by decide +kernel
theorem dX3_missed_8 : decode cX3_missed 8 = .ok (.getfield 62, 3) := by decide +kernel
theorem dX3_missed_11 : decode cX3_missed 11 = .ok (.if_icmp .ge 42, 3) := by decide +kernel
theorem dX3_missed_14 : decode cX3_missed 14 = .ok (.aload_n 0, 1) := by decide +kernel
theorem dX3_missed_15 : decode cX3_missed 15 = .ok (.iload 4, 2) := by decide +kernel
theorem dX3_missed_17 : decode cX3_missed 17 = .ok (.invokevirtual 39, 3) := by decide +kernel
theorem dX3_missed_20 : decode cX3_missed 20 = .ok (.istore 5, 2) := by decide +kernel
theorem dX3_missed_22 : decode cX3_missed 22 = .ok (.iload 5, 2) := by decide +kernel
theorem dX3_missed_24 : decode cX3_missed 24 = .ok (.iconst (-1), 1) := by decide +kernel
theorem dX3_missed_25 : decode cX3_missed 25 = .ok (.if_icmp .eq 22, 3) := by decide +kernel
theorem dX3_missed_28 : decode cX3_missed 28 = .ok (.iload 5, 2) := by decide +kernel
theorem dX3_missed_30 : decode cX3_missed 30 = .ok (.aload_n 2, 1) := by decide +kernel
theorem dX3_missed_31 : decode cX3_missed 31 = .ok (.iload 4, 2) := by decide +kernel
theorem dX3_missed_33 : decode cX3_missed 33 = .ok (.iload_n 1, 1) := by decide +kernel
theorem dX3_missed_34 : decode cX3_missed 34 = .ok (.invokevirtual 66, 3) := by decide +kernel
theorem dX3_missed_37 : decode cX3_missed 37 = .ok (.if_icmp .eq 10, 3) := by decide +kernel
theorem dX3_missed_40 : decode cX3_missed 40 = .ok (.iload_n 3, 1) := by decide +kernel
theorem dX3_missed_41 : decode cX3_missed 41 = .ok (.iconst 1, 1) := by decide +kernel
theorem dX3_missed_42 : decode cX3_missed 42 = .ok (.iload 4, 2) := by decide +kernel
theorem dX3_missed_44 : decode cX3_missed 44 = .ok (.ishl, 1) := by decide +kernel
theorem dX3_missed_45 : decode cX3_missed 45 = .ok (.ior, 1) := by decide +kernel
theorem dX3_missed_46 : decode cX3_missed 46 = .ok (.istore_n 3, 1) := by decide +kernel
theorem dX3_missed_47 : decode cX3_missed 47 = .ok (.iinc 4 1, 3) := by decide +kernel
theorem dX3_missed_50 : decode cX3_missed 50 = .ok (.goto (-45), 3) := by decide +kernel
theorem dX3_missed_53 : decode cX3_missed 53 = .ok (.iload_n 3, 1) := by decide +kernel
theorem dX3_missed_54 : decode cX3_missed 54 = .ok (.ireturn, 1) := by decide +kernel
theorem dX3_agrees_0 : decode cX3_agrees 0 = .ok (.aload_n 0, 1) := by decide +kernel
theorem dX3_agrees_1 : decode cX3_agrees 1 = .ok (.iload_n 1, 1) := by decide +kernel
theorem dX3_agrees_2 : decode cX3_agrees 2 = .ok (.invokevirtual 69, 3) := by decide +kernel
theorem dX3_agrees_5 : decode cX3_agrees 5 = .ok (.ifCond .eq 16, 3) := by decide +kernel
theorem dX3_agrees_8 : decode cX3_agrees 8 = .ok (.aload_n 0, 1) := by decide +kernel
theorem dX3_agrees_9 : decode cX3_agrees 9 = .ok (.iload_n 1, 1) := by decide +kernel
theorem dX3_agrees_10 : decode cX3_agrees 10 = .ok (.aload_n 2, 1) := by decide +kernel
theorem dX3_agrees_11 : decode cX3_agrees 11 = .ok (.invokevirtual 73, 3) := by decide +kernel
theorem dX3_agrees_14 : decode cX3_agrees 14 = .ok (.ifCond .ne 7, 3) := by decide +kernel
theorem dX3_agrees_17 : decode cX3_agrees 17 = .ok (.iconst 1, 1) := by decide +kernel
theorem dX3_agrees_18 : decode cX3_agrees 18 = .ok (.goto 4, 3) := by decide +kernel
theorem dX3_agrees_21 : decode cX3_agrees 21 = .ok (.iconst 0, 1) := by decide +kernel
theorem dX3_agrees_22 : decode cX3_agrees 22 = .ok (.ireturn, 1) := by decide +kernel
theorem dX4_bit_0 : decode cX4_bit 0 = .ok (.iconst 1, 1) := by decide +kernel
theorem dX4_bit_1 : decode cX4_bit 1 = .ok (.iload_n 0, 1) := by decide +kernel
theorem dX4_bit_2 : decode cX4_bit 2 = .ok (.iconst 4, 1) := by decide +kernel
theorem dX4_bit_3 : decode cX4_bit 3 = .ok (.imul, 1) := by decide +kernel
theorem dX4_bit_4 : decode cX4_bit 4 = .ok (.iload_n 1, 1) := by decide +kernel
theorem dX4_bit_5 : decode cX4_bit 5 = .ok (.iadd, 1) := by decide +kernel
theorem dX4_bit_6 : decode cX4_bit 6 = .ok (.ishl, 1) := by decide +kernel
theorem dX4_bit_7 : decode cX4_bit 7 = .ok (.ireturn, 1) := by decide +kernel
theorem dX4_isRight_0 : decode cX4_isRight 0 = .ok (.aload_n 0, 1) := by decide +kernel
theorem dX4_isRight_1 : decode cX4_isRight 1 = .ok (.getfield 23, 3) := by decide +kernel
theorem dX4_isRight_4 : decode cX4_isRight 4 = .ok (.iload_n 1, 1) := by decide +kernel
theorem dX4_isRight_5 : decode cX4_isRight 5 = .ok (.invokevirtual 96, 3) := by decide +kernel
theorem dX4_isRight_8 : decode cX4_isRight 8 = .ok (.istore 4, 2) := by decide +kernel
theorem dX4_isRight_10 : decode cX4_isRight 10 = .ok (.iload_n 1, 1) := by decide +kernel
theorem dX4_isRight_11 : decode cX4_isRight 11 = .ok (.iconst 1, 1) := by decide +kernel
theorem dX4_isRight_12 : decode cX4_isRight 12 = .ok (.iadd, 1) := by decide +kernel
theorem dX4_isRight_13 : decode cX4_isRight 13 = .ok (.aload_n 0, 1) := by decide +kernel
theorem dX4_isRight_14 : decode cX4_isRight 14 = .ok (.getfield 19, 3) := by decide +kernel
theorem dX4_isRight_17 : decode cX4_isRight 17 = .ok (.getfield 65, 3) := by decide +kernel
theorem dX4_isRight_20 : decode cX4_isRight 20 = .ok (.if_icmp .ge 11, 3) := by decide +kernel
theorem dX4_isRight_23 : decode cX4_isRight 23 = .ok (.iload_n 1, 1) := by decide +kernel
theorem dX4_isRight_24 : decode cX4_isRight 24 = .ok (.iconst 1, 1) := by decide +kernel
theorem dX4_isRight_25 : decode cX4_isRight 25 = .ok (.iadd, 1) := by decide +kernel
theorem dX4_isRight_26 : decode cX4_isRight 26 = .ok (.bipush 8, 2) := by decide +kernel
theorem dX4_isRight_28 : decode cX4_isRight 28 = .ok (.if_icmp .lt 7, 3) := by decide +kernel
theorem dX4_isRight_31 : decode cX4_isRight 31 = .ok (.iconst 1, 1) := by decide +kernel
theorem dX4_isRight_32 : decode cX4_isRight 32 = .ok (.goto 4, 3) := by decide +kernel
theorem dX4_isRight_35 : decode cX4_isRight 35 = .ok (.iconst 0, 1) := by decide +kernel
theorem dX4_isRight_36 : decode cX4_isRight 36 = .ok (.istore 5, 2) := by decide +kernel
theorem dX4_isRight_38 : decode cX4_isRight 38 = .ok (.iload 4, 2) := by decide +kernel
theorem dX4_isRight_40 : decode cX4_isRight 40 = .ok (.iconst (-1), 1) := by decide +kernel
theorem dX4_isRight_41 : decode cX4_isRight 41 = .ok (.if_icmp .eq 9, 3) := by decide +kernel
theorem dX4_isRight_44 : decode cX4_isRight 44 = .ok (.iload 4, 2) := by decide +kernel
theorem dX4_isRight_46 : decode cX4_isRight 46 = .ok (.iload_n 2, 1) := by decide +kernel
theorem dX4_isRight_47 : decode cX4_isRight 47 = .ok (.if_icmp .ne 27, 3) := by decide +kernel
theorem dX4_isRight_50 : decode cX4_isRight 50 = .ok (.iload 5, 2) := by decide +kernel
theorem dX4_isRight_52 : decode cX4_isRight 52 = .ok (.ifCond .ne 18, 3) := by decide +kernel
theorem dX4_isRight_55 : decode cX4_isRight 55 = .ok (.aload_n 0, 1) := by decide +kernel
theorem dX4_isRight_56 : decode cX4_isRight 56 = .ok (.getfield 19, 3) := by decide +kernel
theorem dX4_isRight_59 : decode cX4_isRight 59 = .ok (.iload_n 1, 1) := by decide +kernel
theorem dX4_isRight_60 : decode cX4_isRight 60 = .ok (.iconst 1, 1) := by decide +kernel
theorem dX4_isRight_61 : decode cX4_isRight 61 = .ok (.iadd, 1) := by decide +kernel
theorem dX4_isRight_62 : decode cX4_isRight 62 = .ok (.iload_n 3, 1) := by decide +kernel
theorem dX4_isRight_63 : decode cX4_isRight 63 = .ok (.invokevirtual 99, 3) := by decide +kernel
theorem dX4_isRight_66 : decode cX4_isRight 66 = .ok (.iload_n 2, 1) := by decide +kernel
theorem dX4_isRight_67 : decode cX4_isRight 67 = .ok (.if_icmp .ne 7, 3) := by decide +kernel
theorem dX4_isRight_70 : decode cX4_isRight 70 = .ok (.iconst 1, 1) := by decide +kernel
theorem dX4_isRight_71 : decode cX4_isRight 71 = .ok (.goto 4, 3) := by decide +kernel
theorem dX4_isRight_74 : decode cX4_isRight 74 = .ok (.iconst 0, 1) := by decide +kernel
theorem dX4_isRight_75 : decode cX4_isRight 75 = .ok (.ireturn, 1) := by decide +kernel
theorem dX4_mendRow_0 : decode cX4_mendRow 0 = .ok (.aload_n 0, 1) := by decide +kernel
theorem dX4_mendRow_1 : decode cX4_mendRow 1 = .ok (.getfield 19, 3) := by decide +kernel
theorem dX4_mendRow_4 : decode cX4_mendRow 4 = .ok (.iload_n 1, 1) := by decide +kernel
theorem dX4_mendRow_5 : decode cX4_mendRow 5 = .ok (.iload_n 2, 1) := by decide +kernel
theorem dX4_mendRow_6 : decode cX4_mendRow 6 = .ok (.invokevirtual 72, 3) := by decide +kernel
theorem dX4_mendRow_9 : decode cX4_mendRow 9 = .ok (.istore_n 3, 1) := by decide +kernel
theorem dX4_mendRow_10 : decode cX4_mendRow 10 = .ok (.aload_n 0, 1) := by decide +kernel
theorem dX4_mendRow_11 : decode cX4_mendRow 11 = .ok (.getfield 19, 3) := by decide +kernel
theorem dX4_mendRow_14 : decode cX4_mendRow 14 = .ok (.iload_n 1, 1) := by decide +kernel
theorem dX4_mendRow_15 : decode cX4_mendRow 15 = .ok (.iload_n 2, 1) := by decide +kernel
theorem dX4_mendRow_16 : decode cX4_mendRow 16 = .ok (.invokevirtual 76, 3) := by decide +kernel
theorem dX4_mendRow_19 : decode cX4_mendRow 19 = .ok (.istore 4, 2) := by decide +kernel
theorem dX4_mendRow_21 : decode cX4_mendRow 21 = .ok (.iconst 0, 1) := by decide +kernel
theorem dX4_mendRow_22 : decode cX4_mendRow 22 = .ok (.istore 5, 2) := by decide +kernel
theorem dX4_mendRow_24 : decode cX4_mendRow 24 = .ok (.iload 5, 2) := by decide +kernel
theorem dX4_mendRow_26 : decode cX4_mendRow 26 = .ok (.aload_n 0, 1) := by decide +kernel
theorem dX4_mendRow_27 : decode cX4_mendRow 27 = .ok (.getfield 19, 3) := by decide +kernel
theorem dX4_mendRow_30 : decode cX4_mendRow 30 = .ok (.getfield 79, 3) := by decide +kernel
theorem dX4_mendRow_33 : decode cX4_mendRow 33 = .ok (.if_icmp .ge 167, 3) := by decide +kernel
theorem dX4_mendRow_36 : decode cX4_mendRow 36 = .ok (.iload 5, 2) := by decide +kernel
theorem dX4_mendRow_38 : decode cX4_mendRow 38 = .ok (.iconst 4, 1) := by decide +kernel
theorem dX4_mendRow_39 : decode cX4_mendRow 39 = .ok (.if_icmp .ge 161, 3) := by decide +kernel
theorem dX4_mendRow_42 : decode cX4_mendRow 42 = .ok (.iconst 0, 1) := by decide +kernel
theorem dX4_mendRow_43 : decode cX4_mendRow 43 = .ok (.istore 6, 2) := by decide +kernel
theorem dX4_mendRow_45 : decode cX4_mendRow 45 = .ok (.iload 6, 2) := by decide +kernel
theorem dX4_mendRow_47 : decode cX4_mendRow 47 = .ok (.aload_n 0, 1) := by decide +kernel
theorem dX4_mendRow_48 : decode cX4_mendRow 48 = .ok (.getfield 19, 3) := by decide +kernel
theorem dX4_mendRow_51 : decode cX4_mendRow 51 = .ok (.getfield 79, 3) := by decide +kernel
theorem dX4_mendRow_54 : decode cX4_mendRow 54 = .ok (.if_icmp .ge 140, 3) := by decide +kernel
theorem dX4_mendRow_57 : decode cX4_mendRow 57 = .ok (.iload 6, 2) := by decide +kernel
theorem dX4_mendRow_59 : decode cX4_mendRow 59 = .ok (.iconst 4, 1) := by decide +kernel
theorem dX4_mendRow_60 : decode cX4_mendRow 60 = .ok (.if_icmp .ge 134, 3) := by decide +kernel
theorem dX4_mendRow_63 : decode cX4_mendRow 63 = .ok (.iload 5, 2) := by decide +kernel
theorem dX4_mendRow_65 : decode cX4_mendRow 65 = .ok (.iload 6, 2) := by decide +kernel
theorem dX4_mendRow_67 : decode cX4_mendRow 67 = .ok (.if_icmp .eq 121, 3) := by decide +kernel
theorem dX4_mendRow_70 : decode cX4_mendRow 70 = .ok (.aload_n 0, 1) := by decide +kernel
theorem dX4_mendRow_71 : decode cX4_mendRow 71 = .ok (.getfield 19, 3) := by decide +kernel
theorem dX4_mendRow_74 : decode cX4_mendRow 74 = .ok (.getfield 82, 3) := by decide +kernel
theorem dX4_mendRow_77 : decode cX4_mendRow 77 = .ok (.iload_n 1, 1) := by decide +kernel
theorem dX4_mendRow_78 : decode cX4_mendRow 78 = .ok (.aaload, 1) := by decide +kernel
theorem dX4_mendRow_79 : decode cX4_mendRow 79 = .ok (.iload 5, 2) := by decide +kernel
theorem dX4_mendRow_81 : decode cX4_mendRow 81 = .ok (.iaload, 1) := by decide +kernel
theorem dX4_mendRow_82 : decode cX4_mendRow 82 = .ok (.ifCond .eq 106, 3) := by decide +kernel
theorem dX4_mendRow_85 : decode cX4_mendRow 85 = .ok (.aload_n 0, 1) := by decide +kernel
theorem dX4_mendRow_86 : decode cX4_mendRow 86 = .ok (.getfield 15, 3) := by decide +kernel
theorem dX4_mendRow_89 : decode cX4_mendRow 89 = .ok (.iload_n 1, 1) := by decide +kernel
theorem dX4_mendRow_90 : decode cX4_mendRow 90 = .ok (.iaload, 1) := by decide +kernel
theorem dX4_mendRow_91 : decode cX4_mendRow 91 = .ok (.iload 5, 2) := by decide +kernel
theorem dX4_mendRow_93 : decode cX4_mendRow 93 = .ok (.iload 6, 2) := by decide +kernel
theorem dX4_mendRow_95 : decode cX4_mendRow 95 = .ok (.invokestatic 86, 3) := by decide +kernel
theorem dX4_mendRow_98 : decode cX4_mendRow 98 = .ok (.iand, 1) := by decide +kernel
theorem dX4_mendRow_99 : decode cX4_mendRow 99 = .ok (.ifCond .eq 6, 3) := by decide +kernel
theorem dX4_mendRow_102 : decode cX4_mendRow 102 = .ok (.goto 86, 3) := by decide +kernel
theorem dX4_mendRow_105 : decode cX4_mendRow 105 = .ok (.iload_n 2, 1) := by decide +kernel
theorem dX4_mendRow_106 : decode cX4_mendRow 106 = .ok (.iload 5, 2) := by decide +kernel
theorem dX4_mendRow_108 : decode cX4_mendRow 108 = .ok (.invokestatic 89, 3) := by decide +kernel
theorem dX4_mendRow_111 : decode cX4_mendRow 111 = .ok (.istore 7, 2) := by decide +kernel
theorem dX4_mendRow_113 : decode cX4_mendRow 113 = .ok (.iload_n 2, 1) := by decide +kernel
theorem dX4_mendRow_114 : decode cX4_mendRow 114 = .ok (.iload 6, 2) := by decide +kernel
theorem dX4_mendRow_116 : decode cX4_mendRow 116 = .ok (.invokestatic 89, 3) := by decide +kernel
theorem dX4_mendRow_119 : decode cX4_mendRow 119 = .ok (.istore 8, 2) := by decide +kernel
theorem dX4_mendRow_121 : decode cX4_mendRow 121 = .ok (.iload 4, 2) := by decide +kernel
theorem dX4_mendRow_123 : decode cX4_mendRow 123 = .ok (.iload 8, 2) := by decide +kernel
theorem dX4_mendRow_125 : decode cX4_mendRow 125 = .ok (.iconst 3, 1) := by decide +kernel
theorem dX4_mendRow_126 : decode cX4_mendRow 126 = .ok (.irem, 1) := by decide +kernel
theorem dX4_mendRow_127 : decode cX4_mendRow 127 = .ok (.iadd, 1) := by decide +kernel
theorem dX4_mendRow_128 : decode cX4_mendRow 128 = .ok (.iload 7, 2) := by decide +kernel
theorem dX4_mendRow_130 : decode cX4_mendRow 130 = .ok (.iconst 3, 1) := by decide +kernel
theorem dX4_mendRow_131 : decode cX4_mendRow 131 = .ok (.irem, 1) := by decide +kernel
theorem dX4_mendRow_132 : decode cX4_mendRow 132 = .ok (.isub, 1) := by decide +kernel
theorem dX4_mendRow_133 : decode cX4_mendRow 133 = .ok (.istore 9, 2) := by decide +kernel
theorem dX4_mendRow_135 : decode cX4_mendRow 135 = .ok (.iload_n 3, 1) := by decide +kernel
theorem dX4_mendRow_136 : decode cX4_mendRow 136 = .ok (.iload 8, 2) := by decide +kernel
theorem dX4_mendRow_138 : decode cX4_mendRow 138 = .ok (.iconst 3, 1) := by decide +kernel
theorem dX4_mendRow_139 : decode cX4_mendRow 139 = .ok (.idiv, 1) := by decide +kernel
theorem dX4_mendRow_140 : decode cX4_mendRow 140 = .ok (.iadd, 1) := by decide +kernel
theorem dX4_mendRow_141 : decode cX4_mendRow 141 = .ok (.iload 7, 2) := by decide +kernel
theorem dX4_mendRow_143 : decode cX4_mendRow 143 = .ok (.iconst 3, 1) := by decide +kernel
theorem dX4_mendRow_144 : decode cX4_mendRow 144 = .ok (.idiv, 1) := by decide +kernel
theorem dX4_mendRow_145 : decode cX4_mendRow 145 = .ok (.isub, 1) := by decide +kernel
theorem dX4_mendRow_146 : decode cX4_mendRow 146 = .ok (.ifCond .ne 7, 3) := by decide +kernel
theorem dX4_mendRow_149 : decode cX4_mendRow 149 = .ok (.iconst 1, 1) := by decide +kernel
theorem dX4_mendRow_150 : decode cX4_mendRow 150 = .ok (.goto 4, 3) := by decide +kernel
theorem dX4_mendRow_153 : decode cX4_mendRow 153 = .ok (.iconst 0, 1) := by decide +kernel
theorem dX4_mendRow_154 : decode cX4_mendRow 154 = .ok (.istore 10, 2) := by decide +kernel
theorem dX4_mendRow_156 : decode cX4_mendRow 156 = .ok (.iload 10, 2) := by decide +kernel
theorem dX4_mendRow_158 : decode cX4_mendRow 158 = .ok (.ifCond .eq 30, 3) := by decide +kernel
theorem dX4_mendRow_161 : decode cX4_mendRow 161 = .ok (.aload_n 0, 1) := by decide +kernel
theorem dX4_mendRow_162 : decode cX4_mendRow 162 = .ok (.iload_n 1, 1) := by decide +kernel
theorem dX4_mendRow_163 : decode cX4_mendRow 163 = .ok (.iload 9, 2) := by decide +kernel
theorem dX4_mendRow_165 : decode cX4_mendRow 165 = .ok (.iload_n 2, 1) := by decide +kernel
theorem dX4_mendRow_166 : decode cX4_mendRow 166 = .ok (.invokevirtual 92, 3) := by decide +kernel
theorem dX4_mendRow_169 : decode cX4_mendRow 169 = .ok (.ifCond .eq 19, 3) := by decide +kernel
theorem dX4_mendRow_172 : decode cX4_mendRow 172 = .ok (.aload_n 0, 1) := by decide +kernel
theorem dX4_mendRow_173 : decode cX4_mendRow 173 = .ok (.getfield 15, 3) := by decide +kernel
theorem dX4_mendRow_176 : decode cX4_mendRow 176 = .ok (.iload_n 1, 1) := by decide +kernel
theorem dX4_mendRow_177 : decode cX4_mendRow 177 = .ok (.dup2, 1) := by decide +kernel
theorem dX4_mendRow_178 : decode cX4_mendRow 178 = .ok (.iaload, 1) := by decide +kernel
theorem dX4_mendRow_179 : decode cX4_mendRow 179 = .ok (.iload 5, 2) := by decide +kernel
theorem dX4_mendRow_181 : decode cX4_mendRow 181 = .ok (.iload 6, 2) := by decide +kernel
theorem dX4_mendRow_183 : decode cX4_mendRow 183 = .ok (.invokestatic 86, 3) := by decide +kernel
theorem dX4_mendRow_186 : decode cX4_mendRow 186 = .ok (.ior, 1) := by decide +kernel
theorem dX4_mendRow_187 : decode cX4_mendRow 187 = .ok (.iastore, 1) := by decide +kernel
theorem dX4_mendRow_188 : decode cX4_mendRow 188 = .ok (.iinc 6 1, 3) := by decide +kernel
theorem dX4_mendRow_191 : decode cX4_mendRow 191 = .ok (.goto (-146), 3) := by decide +kernel
theorem dX4_mendRow_194 : decode cX4_mendRow 194 = .ok (.iinc 5 1, 3) := by decide +kernel
theorem dX4_mendRow_197 : decode cX4_mendRow 197 = .ok (.goto (-173), 3) := by decide +kernel
theorem dX4_mendRow_200 : decode cX4_mendRow 200 = .ok (.return_, 1) := by decide +kernel
theorem dX8_downIn_0 : decode cX8_downIn 0 = .ok (.iload_n 0, 1) := by decide +kernel
theorem dX8_downIn_1 : decode cX8_downIn 1 = .ok (.bipush 16, 2) := by decide +kernel
theorem dX8_downIn_3 : decode cX8_downIn 3 = .ok (.ishr, 1) := by decide +kernel
theorem dX8_downIn_4 : decode cX8_downIn 4 = .ok (.sipush 255, 3) := by decide +kernel
theorem dX8_downIn_7 : decode cX8_downIn 7 = .ok (.iand, 1) := by decide +kernel
theorem dX8_downIn_8 : decode cX8_downIn 8 = .ok (.ireturn, 1) := by decide +kernel
theorem dX4_mendBy_0 : decode cX4_mendBy 0 = .ok (.iload_n 1, 1) := by decide +kernel
theorem dX4_mendBy_1 : decode cX4_mendBy 1 = .ok (.invokestatic 42, 3) := by decide +kernel
theorem dX4_mendBy_4 : decode cX4_mendBy 4 = .ok (.istore_n 2, 1) := by decide +kernel
theorem dX4_mendBy_5 : decode cX4_mendBy 5 = .ok (.aload_n 0, 1) := by decide +kernel
theorem dX4_mendBy_6 : decode cX4_mendBy 6 = .ok (.getfield 23, 3) := by decide +kernel
theorem dX4_mendBy_9 : decode cX4_mendBy 9 = .ok (.iload_n 1, 1) := by decide +kernel
theorem dX4_mendBy_10 : decode cX4_mendBy 10 = .ok (.aload_n 0, 1) := by decide +kernel
theorem dX4_mendBy_11 : decode cX4_mendBy 11 = .ok (.getfield 19, 3) := by decide +kernel
theorem dX4_mendBy_14 : decode cX4_mendBy 14 = .ok (.invokevirtual 61, 3) := by decide +kernel
theorem dX4_mendBy_17 : decode cX4_mendBy 17 = .ok (.istore_n 3, 1) := by decide +kernel
theorem dX4_mendBy_18 : decode cX4_mendBy 18 = .ok (.iconst 0, 1) := by decide +kernel
theorem dX4_mendBy_19 : decode cX4_mendBy 19 = .ok (.istore 4, 2) := by decide +kernel
theorem dX4_mendBy_21 : decode cX4_mendBy 21 = .ok (.iload 4, 2) := by decide +kernel
theorem dX4_mendBy_23 : decode cX4_mendBy 23 = .ok (.aload_n 0, 1) := by decide +kernel
theorem dX4_mendBy_24 : decode cX4_mendBy 24 = .ok (.getfield 19, 3) := by decide +kernel
theorem dX4_mendBy_27 : decode cX4_mendBy 27 = .ok (.getfield 65, 3) := by decide +kernel
theorem dX4_mendBy_30 : decode cX4_mendBy 30 = .ok (.if_icmp .ge 45, 3) := by decide +kernel
theorem dX4_mendBy_33 : decode cX4_mendBy 33 = .ok (.iload 4, 2) := by decide +kernel
theorem dX4_mendBy_35 : decode cX4_mendBy 35 = .ok (.bipush 8, 2) := by decide +kernel
theorem dX4_mendBy_37 : decode cX4_mendBy 37 = .ok (.if_icmp .ge 38, 3) := by decide +kernel
theorem dX4_mendBy_40 : decode cX4_mendBy 40 = .ok (.iload_n 2, 1) := by decide +kernel
theorem dX4_mendBy_41 : decode cX4_mendBy 41 = .ok (.iconst 3, 1) := by decide +kernel
theorem dX4_mendBy_42 : decode cX4_mendBy 42 = .ok (.iload 4, 2) := by decide +kernel
theorem dX4_mendBy_44 : decode cX4_mendBy 44 = .ok (.ishl, 1) := by decide +kernel
theorem dX4_mendBy_45 : decode cX4_mendBy 45 = .ok (.iconst (-1), 1) := by decide +kernel
theorem dX4_mendBy_46 : decode cX4_mendBy 46 = .ok (.ixor, 1) := by decide +kernel
theorem dX4_mendBy_47 : decode cX4_mendBy 47 = .ok (.iand, 1) := by decide +kernel
theorem dX4_mendBy_48 : decode cX4_mendBy 48 = .ok (.ifCond .ne 21, 3) := by decide +kernel
theorem dX4_mendBy_51 : decode cX4_mendBy 51 = .ok (.iload_n 3, 1) := by decide +kernel
theorem dX4_mendBy_52 : decode cX4_mendBy 52 = .ok (.iconst 1, 1) := by decide +kernel
theorem dX4_mendBy_53 : decode cX4_mendBy 53 = .ok (.iload 4, 2) := by decide +kernel
theorem dX4_mendBy_55 : decode cX4_mendBy 55 = .ok (.ishl, 1) := by decide +kernel
theorem dX4_mendBy_56 : decode cX4_mendBy 56 = .ok (.iconst (-1), 1) := by decide +kernel
theorem dX4_mendBy_57 : decode cX4_mendBy 57 = .ok (.ixor, 1) := by decide +kernel
theorem dX4_mendBy_58 : decode cX4_mendBy 58 = .ok (.iand, 1) := by decide +kernel
theorem dX4_mendBy_59 : decode cX4_mendBy 59 = .ok (.ifCond .ne 10, 3) := by decide +kernel
theorem dX4_mendBy_62 : decode cX4_mendBy 62 = .ok (.aload_n 0, 1) := by decide +kernel
theorem dX4_mendBy_63 : decode cX4_mendBy 63 = .ok (.iload 4, 2) := by decide +kernel
theorem dX4_mendBy_65 : decode cX4_mendBy 65 = .ok (.iload_n 1, 1) := by decide +kernel
theorem dX4_mendBy_66 : decode cX4_mendBy 66 = .ok (.invokevirtual 68, 3) := by decide +kernel
theorem dX4_mendBy_69 : decode cX4_mendBy 69 = .ok (.iinc 4 1, 3) := by decide +kernel
theorem dX4_mendBy_72 : decode cX4_mendBy 72 = .ok (.goto (-51), 3) := by decide +kernel
theorem dX4_mendBy_75 : decode cX4_mendBy 75 = .ok (.return_, 1) := by decide +kernel
theorem dX4_addWay_0 : decode cX4_addWay 0 = .ok (.aload_n 0, 1) := by decide +kernel
theorem dX4_addWay_1 : decode cX4_addWay 1 = .ok (.getfield 102, 3) := by decide +kernel
theorem dX4_addWay_4 : decode cX4_addWay 4 = .ok (.ifCond .ne 18, 3) := by decide +kernel
theorem dX4_addWay_7 : decode cX4_addWay 7 = .ok (.aload_n 0, 1) := by decide +kernel
theorem dX4_addWay_8 : decode cX4_addWay 8 = .ok (.iload_n 1, 1) := by decide +kernel
theorem dX4_addWay_9 : decode cX4_addWay 9 = .ok (.putfield 105, 3) := by decide +kernel
theorem dX4_addWay_12 : decode cX4_addWay 12 = .ok (.aload_n 0, 1) := by decide +kernel
theorem dX4_addWay_13 : decode cX4_addWay 13 = .ok (.iload_n 2, 1) := by decide +kernel
theorem dX4_addWay_14 : decode cX4_addWay 14 = .ok (.putfield 108, 3) := by decide +kernel
theorem dX4_addWay_17 : decode cX4_addWay 17 = .ok (.aload_n 0, 1) := by decide +kernel
theorem dX4_addWay_18 : decode cX4_addWay 18 = .ok (.iload_n 3, 1) := by decide +kernel
theorem dX4_addWay_19 : decode cX4_addWay 19 = .ok (.putfield 111, 3) := by decide +kernel
theorem dX4_addWay_22 : decode cX4_addWay 22 = .ok (.aload_n 0, 1) := by decide +kernel
theorem dX4_addWay_23 : decode cX4_addWay 23 = .ok (.dup, 1) := by decide +kernel
theorem dX4_addWay_24 : decode cX4_addWay 24 = .ok (.getfield 102, 3) := by decide +kernel
theorem dX4_addWay_27 : decode cX4_addWay 27 = .ok (.iconst 1, 1) := by decide +kernel
theorem dX4_addWay_28 : decode cX4_addWay 28 = .ok (.iadd, 1) := by decide +kernel
theorem dX4_addWay_29 : decode cX4_addWay 29 = .ok (.putfield 102, 3) := by decide +kernel
theorem dX4_addWay_32 : decode cX4_addWay 32 = .ok (.return_, 1) := by decide +kernel
theorem dX4_sumUp_0 : decode cX4_sumUp 0 = .ok (.aload_n 0, 1) := by decide +kernel
theorem dX4_sumUp_1 : decode cX4_sumUp 1 = .ok (.iconst 0, 1) := by decide +kernel
theorem dX4_sumUp_2 : decode cX4_sumUp 2 = .ok (.putfield 102, 3) := by decide +kernel
theorem dX4_sumUp_5 : decode cX4_sumUp 5 = .ok (.aload_n 0, 1) := by decide +kernel
theorem dX4_sumUp_6 : decode cX4_sumUp 6 = .ok (.iconst (-1), 1) := by decide +kernel
theorem dX4_sumUp_7 : decode cX4_sumUp 7 = .ok (.putfield 105, 3) := by decide +kernel
theorem dX4_sumUp_10 : decode cX4_sumUp 10 = .ok (.aload_n 0, 1) := by decide +kernel
theorem dX4_sumUp_11 : decode cX4_sumUp 11 = .ok (.iconst (-1), 1) := by decide +kernel
theorem dX4_sumUp_12 : decode cX4_sumUp 12 = .ok (.putfield 108, 3) := by decide +kernel
theorem dX4_sumUp_15 : decode cX4_sumUp 15 = .ok (.aload_n 0, 1) := by decide +kernel
theorem dX4_sumUp_16 : decode cX4_sumUp 16 = .ok (.iconst (-1), 1) := by decide +kernel
theorem dX4_sumUp_17 : decode cX4_sumUp 17 = .ok (.putfield 111, 3) := by decide +kernel
theorem dX4_sumUp_20 : decode cX4_sumUp 20 = .ok (.iconst 0, 1) := by decide +kernel
theorem dX4_sumUp_21 : decode cX4_sumUp 21 = .ok (.istore_n 1, 1) := by decide +kernel
theorem dX4_sumUp_22 : decode cX4_sumUp 22 = .ok (.iload_n 1, 1) := by decide +kernel
theorem dX4_sumUp_23 : decode cX4_sumUp 23 = .ok (.aload_n 0, 1) := by decide +kernel
theorem dX4_sumUp_24 : decode cX4_sumUp 24 = .ok (.getfield 19, 3) := by decide +kernel
theorem dX4_sumUp_27 : decode cX4_sumUp 27 = .ok (.getfield 65, 3) := by decide +kernel
theorem dX4_sumUp_30 : decode cX4_sumUp 30 = .ok (.if_icmp .ge 90, 3) := by decide +kernel
theorem dX4_sumUp_33 : decode cX4_sumUp 33 = .ok (.iload_n 1, 1) := by decide +kernel
theorem dX4_sumUp_34 : decode cX4_sumUp 34 = .ok (.bipush 8, 2) := by decide +kernel
theorem dX4_sumUp_36 : decode cX4_sumUp 36 = .ok (.if_icmp .ge 84, 3) := by decide +kernel
theorem dX4_sumUp_39 : decode cX4_sumUp 39 = .ok (.iconst 0, 1) := by decide +kernel
theorem dX4_sumUp_40 : decode cX4_sumUp 40 = .ok (.istore_n 2, 1) := by decide +kernel
theorem dX4_sumUp_41 : decode cX4_sumUp 41 = .ok (.iload_n 2, 1) := by decide +kernel
theorem dX4_sumUp_42 : decode cX4_sumUp 42 = .ok (.aload_n 0, 1) := by decide +kernel
theorem dX4_sumUp_43 : decode cX4_sumUp 43 = .ok (.getfield 19, 3) := by decide +kernel
theorem dX4_sumUp_46 : decode cX4_sumUp 46 = .ok (.getfield 114, 3) := by decide +kernel
theorem dX4_sumUp_49 : decode cX4_sumUp 49 = .ok (.iload_n 1, 1) := by decide +kernel
theorem dX4_sumUp_50 : decode cX4_sumUp 50 = .ok (.iaload, 1) := by decide +kernel
theorem dX4_sumUp_51 : decode cX4_sumUp 51 = .ok (.if_icmp .ge 63, 3) := by decide +kernel
theorem dX4_sumUp_54 : decode cX4_sumUp 54 = .ok (.iconst 0, 1) := by decide +kernel
theorem dX4_sumUp_55 : decode cX4_sumUp 55 = .ok (.istore_n 3, 1) := by decide +kernel
theorem dX4_sumUp_56 : decode cX4_sumUp 56 = .ok (.iload_n 3, 1) := by decide +kernel
theorem dX4_sumUp_57 : decode cX4_sumUp 57 = .ok (.aload_n 0, 1) := by decide +kernel
theorem dX4_sumUp_58 : decode cX4_sumUp 58 = .ok (.getfield 19, 3) := by decide +kernel
theorem dX4_sumUp_61 : decode cX4_sumUp 61 = .ok (.getfield 79, 3) := by decide +kernel
theorem dX4_sumUp_64 : decode cX4_sumUp 64 = .ok (.if_icmp .ge 44, 3) := by decide +kernel
theorem dX4_sumUp_67 : decode cX4_sumUp 67 = .ok (.iload_n 3, 1) := by decide +kernel
theorem dX4_sumUp_68 : decode cX4_sumUp 68 = .ok (.iconst 4, 1) := by decide +kernel
theorem dX4_sumUp_69 : decode cX4_sumUp 69 = .ok (.if_icmp .ge 39, 3) := by decide +kernel
theorem dX4_sumUp_72 : decode cX4_sumUp 72 = .ok (.aload_n 0, 1) := by decide +kernel
theorem dX4_sumUp_73 : decode cX4_sumUp 73 = .ok (.getfield 15, 3) := by decide +kernel
theorem dX4_sumUp_76 : decode cX4_sumUp 76 = .ok (.iload_n 1, 1) := by decide +kernel
theorem dX4_sumUp_77 : decode cX4_sumUp 77 = .ok (.iaload, 1) := by decide +kernel
theorem dX4_sumUp_78 : decode cX4_sumUp 78 = .ok (.aload_n 0, 1) := by decide +kernel
theorem dX4_sumUp_79 : decode cX4_sumUp 79 = .ok (.getfield 19, 3) := by decide +kernel
theorem dX4_sumUp_82 : decode cX4_sumUp 82 = .ok (.iload_n 1, 1) := by decide +kernel
theorem dX4_sumUp_83 : decode cX4_sumUp 83 = .ok (.iload_n 2, 1) := by decide +kernel
theorem dX4_sumUp_84 : decode cX4_sumUp 84 = .ok (.invokevirtual 117, 3) := by decide +kernel
theorem dX4_sumUp_87 : decode cX4_sumUp 87 = .ok (.iload_n 3, 1) := by decide +kernel
theorem dX4_sumUp_88 : decode cX4_sumUp 88 = .ok (.invokestatic 86, 3) := by decide +kernel
theorem dX4_sumUp_91 : decode cX4_sumUp 91 = .ok (.iand, 1) := by decide +kernel
theorem dX4_sumUp_92 : decode cX4_sumUp 92 = .ok (.ifCond .eq 10, 3) := by decide +kernel
theorem dX4_sumUp_95 : decode cX4_sumUp 95 = .ok (.aload_n 0, 1) := by decide +kernel
theorem dX4_sumUp_96 : decode cX4_sumUp 96 = .ok (.iload_n 1, 1) := by decide +kernel
theorem dX4_sumUp_97 : decode cX4_sumUp 97 = .ok (.iload_n 2, 1) := by decide +kernel
theorem dX4_sumUp_98 : decode cX4_sumUp 98 = .ok (.iload_n 3, 1) := by decide +kernel
theorem dX4_sumUp_99 : decode cX4_sumUp 99 = .ok (.invokevirtual 120, 3) := by decide +kernel
theorem dX4_sumUp_102 : decode cX4_sumUp 102 = .ok (.iinc 3 1, 3) := by decide +kernel
theorem dX4_sumUp_105 : decode cX4_sumUp 105 = .ok (.goto (-49), 3) := by decide +kernel
theorem dX4_sumUp_108 : decode cX4_sumUp 108 = .ok (.iinc 2 1, 3) := by decide +kernel
theorem dX4_sumUp_111 : decode cX4_sumUp 111 = .ok (.goto (-70), 3) := by decide +kernel
theorem dX4_sumUp_114 : decode cX4_sumUp 114 = .ok (.iinc 1 1, 3) := by decide +kernel
theorem dX4_sumUp_117 : decode cX4_sumUp 117 = .ok (.goto (-95), 3) := by decide +kernel
theorem dX4_sumUp_120 : decode cX4_sumUp 120 = .ok (.return_, 1) := by decide +kernel
theorem dX4_find_0 : decode cX4_find 0 = .ok (.aload_n 0, 1) := by decide +kernel
theorem dX4_find_1 : decode cX4_find 1 = .ok (.aload_n 1, 1) := by decide +kernel
theorem dX4_find_2 : decode cX4_find 2 = .ok (.putfield 19, 3) := by decide +kernel
theorem dX4_find_5 : decode cX4_find 5 = .ok (.aload_n 0, 1) := by decide +kernel
theorem dX4_find_6 : decode cX4_find 6 = .ok (.aload_n 3, 1) := by decide +kernel
theorem dX4_find_7 : decode cX4_find 7 = .ok (.putfield 23, 3) := by decide +kernel
theorem dX4_find_10 : decode cX4_find 10 = .ok (.aload_n 0, 1) := by decide +kernel
theorem dX4_find_11 : decode cX4_find 11 = .ok (.getfield 15, 3) := by decide +kernel
theorem dX4_find_14 : decode cX4_find 14 = .ok (.iconst 0, 1) := by decide +kernel
theorem dX4_find_15 : decode cX4_find 15 = .ok (.invokestatic 27, 3) := by decide +kernel
theorem dX4_find_18 : decode cX4_find 18 = .ok (.iconst 0, 1) := by decide +kernel
theorem dX4_find_19 : decode cX4_find 19 = .ok (.istore 4, 2) := by decide +kernel
theorem dX4_find_21 : decode cX4_find 21 = .ok (.iload 4, 2) := by decide +kernel
theorem dX4_find_23 : decode cX4_find 23 = .ok (.aload_n 2, 1) := by decide +kernel
theorem dX4_find_24 : decode cX4_find 24 = .ok (.getfield 33, 3) := by decide +kernel
theorem dX4_find_27 : decode cX4_find 27 = .ok (.if_icmp .ge 57, 3) := by decide +kernel
theorem dX4_find_30 : decode cX4_find 30 = .ok (.iload 4, 2) := by decide +kernel
theorem dX4_find_32 : decode cX4_find 32 = .ok (.aload_n 2, 1) := by decide +kernel
theorem dX4_find_33 : decode cX4_find 33 = .ok (.getfield 39, 3) := by decide +kernel
theorem dX4_find_36 : decode cX4_find 36 = .ok (.arraylength, 1) := by decide +kernel
theorem dX4_find_37 : decode cX4_find 37 = .ok (.if_icmp .ge 47, 3) := by decide +kernel
theorem dX4_find_40 : decode cX4_find 40 = .ok (.aload_n 2, 1) := by decide +kernel
theorem dX4_find_41 : decode cX4_find 41 = .ok (.getfield 39, 3) := by decide +kernel
theorem dX4_find_44 : decode cX4_find 44 = .ok (.iload 4, 2) := by decide +kernel
theorem dX4_find_46 : decode cX4_find 46 = .ok (.iaload, 1) := by decide +kernel
theorem dX4_find_47 : decode cX4_find 47 = .ok (.istore 5, 2) := by decide +kernel
theorem dX4_find_49 : decode cX4_find 49 = .ok (.iload 5, 2) := by decide +kernel
theorem dX4_find_51 : decode cX4_find 51 = .ok (.invokestatic 42, 3) := by decide +kernel
theorem dX4_find_54 : decode cX4_find 54 = .ok (.sipush 255, 3) := by decide +kernel
theorem dX4_find_57 : decode cX4_find 57 = .ok (.if_icmp .eq 21, 3) := by decide +kernel
theorem dX4_find_60 : decode cX4_find 60 = .ok (.aload_n 0, 1) := by decide +kernel
theorem dX4_find_61 : decode cX4_find 61 = .ok (.getfield 23, 3) := by decide +kernel
theorem dX4_find_64 : decode cX4_find 64 = .ok (.iload 5, 2) := by decide +kernel
theorem dX4_find_66 : decode cX4_find 66 = .ok (.invokevirtual 48, 3) := by decide +kernel
theorem dX4_find_69 : decode cX4_find 69 = .ok (.ifCond .eq 9, 3) := by decide +kernel
theorem dX4_find_72 : decode cX4_find 72 = .ok (.aload_n 0, 1) := by decide +kernel
theorem dX4_find_73 : decode cX4_find 73 = .ok (.iload 5, 2) := by decide +kernel
theorem dX4_find_75 : decode cX4_find 75 = .ok (.invokevirtual 54, 3) := by decide +kernel
theorem dX4_find_78 : decode cX4_find 78 = .ok (.iinc 4 1, 3) := by decide +kernel
theorem dX4_find_81 : decode cX4_find 81 = .ok (.goto (-60), 3) := by decide +kernel
theorem dX4_find_84 : decode cX4_find 84 = .ok (.aload_n 0, 1) := by decide +kernel
theorem dX4_find_85 : decode cX4_find 85 = .ok (.invokevirtual 58, 3) := by decide +kernel
theorem dX4_find_88 : decode cX4_find 88 = .ok (.aload_n 0, 1) := by decide +kernel
theorem dX4_find_89 : decode cX4_find 89 = .ok (.iconst 0, 1) := by decide +kernel
theorem dX4_find_90 : decode cX4_find 90 = .ok (.putfield 9, 3) := by decide +kernel
theorem dX4_find_93 : decode cX4_find 93 = .ok (.return_, 1) := by decide +kernel
theorem dX5_clear_0 : decode cX5_clear 0 = .ok (.aload_n 0, 1) := by decide +kernel
theorem dX5_clear_1 : decode cX5_clear 1 = .ok (.iconst 0, 1) := by decide +kernel
theorem dX5_clear_2 : decode cX5_clear 2 = .ok (.putfield 32, 3) := by decide +kernel
theorem dX5_clear_5 : decode cX5_clear 5 = .ok (.aload_n 0, 1) := by decide +kernel
theorem dX5_clear_6 : decode cX5_clear 6 = .ok (.iconst 1, 1) := by decide +kernel
theorem dX5_clear_7 : decode cX5_clear 7 = .ok (.putfield 9, 3) := by decide +kernel
theorem dX5_clear_10 : decode cX5_clear 10 = .ok (.return_, 1) := by decide +kernel
theorem dX5_readValue_0 : decode cX5_readValue 0 = .ok (.iload_n 1, 1) := by decide +kernel
theorem dX5_readValue_1 : decode cX5_readValue 1 = .ok (.bipush 8, 2) := by decide +kernel
theorem dX5_readValue_3 : decode cX5_readValue 3 = .ok (.if_icmp .ne 26, 3) := by decide +kernel
theorem dX5_readValue_6 : decode cX5_readValue 6 = .ok (.aload_n 0, 1) := by decide +kernel
theorem dX5_readValue_7 : decode cX5_readValue 7 = .ok (.getfield 36, 3) := by decide +kernel
theorem dX5_readValue_10 : decode cX5_readValue 10 = .ok (.iconst 0, 1) := by decide +kernel
theorem dX5_readValue_11 : decode cX5_readValue 11 = .ok (.bipush 99, 2) := by decide +kernel
theorem dX5_readValue_13 : decode cX5_readValue 13 = .ok (.invokevirtual 81, 3) := by decide +kernel
theorem dX5_readValue_16 : decode cX5_readValue 16 = .ok (.istore_n 2, 1) := by decide +kernel
theorem dX5_readValue_17 : decode cX5_readValue 17 = .ok (.iload_n 2, 1) := by decide +kernel
theorem dX5_readValue_18 : decode cX5_readValue 18 = .ok (.iconst (-1), 1) := by decide +kernel
theorem dX5_readValue_19 : decode cX5_readValue 19 = .ok (.if_icmp .ne 8, 3) := by decide +kernel
theorem dX5_readValue_22 : decode cX5_readValue 22 = .ok (.bipush (-2), 2) := by decide +kernel
theorem dX5_readValue_24 : decode cX5_readValue 24 = .ok (.goto 4, 3) := by decide +kernel
theorem dX5_readValue_27 : decode cX5_readValue 27 = .ok (.iload_n 2, 1) := by decide +kernel
theorem dX5_readValue_28 : decode cX5_readValue 28 = .ok (.ireturn, 1) := by decide +kernel
theorem dX5_readValue_29 : decode cX5_readValue 29 = .ok (.iload_n 1, 1) := by decide +kernel
theorem dX5_readValue_30 : decode cX5_readValue 30 = .ok (.bipush 6, 2) := by decide +kernel
theorem dX5_readValue_32 : decode cX5_readValue 32 = .ok (.if_icmp .eq 5, 3) := by decide +kernel
theorem dX5_readValue_35 : decode cX5_readValue 35 = .ok (.iconst (-1), 1) := by decide +kernel
theorem dX5_readValue_36 : decode cX5_readValue 36 = .ok (.ireturn, 1) := by decide +kernel
theorem dX5_readValue_37 : decode cX5_readValue 37 = .ok (.aload_n 0, 1) := by decide +kernel
theorem dX5_readValue_38 : decode cX5_readValue 38 = .ok (.getfield 36, 3) := by decide +kernel
theorem dX5_readValue_41 : decode cX5_readValue 41 = .ok (.iconst 0, 1) := by decide +kernel
theorem dX5_readValue_42 : decode cX5_readValue 42 = .ok (.iconst 2, 1) := by decide +kernel
theorem dX5_readValue_43 : decode cX5_readValue 43 = .ok (.invokevirtual 81, 3) := by decide +kernel
theorem dX5_readValue_46 : decode cX5_readValue 46 = .ok (.istore_n 2, 1) := by decide +kernel
theorem dX5_readValue_47 : decode cX5_readValue 47 = .ok (.iload_n 2, 1) := by decide +kernel
theorem dX5_readValue_48 : decode cX5_readValue 48 = .ok (.iconst (-1), 1) := by decide +kernel
theorem dX5_readValue_49 : decode cX5_readValue 49 = .ok (.if_icmp .ne 7, 3) := by decide +kernel
theorem dX5_readValue_52 : decode cX5_readValue 52 = .ok (.iconst (-1), 1) := by decide +kernel
theorem dX5_readValue_53 : decode cX5_readValue 53 = .ok (.goto 12, 3) := by decide +kernel
theorem dX5_readValue_56 : decode cX5_readValue 56 = .ok (.aload_n 0, 1) := by decide +kernel
theorem dX5_readValue_57 : decode cX5_readValue 57 = .ok (.getfield 36, 3) := by decide +kernel
theorem dX5_readValue_60 : decode cX5_readValue 60 = .ok (.iconst 0, 1) := by decide +kernel
theorem dX5_readValue_61 : decode cX5_readValue 61 = .ok (.iconst 2, 1) := by decide +kernel
theorem dX5_readValue_62 : decode cX5_readValue 62 = .ok (.invokevirtual 81, 3) := by decide +kernel
theorem dX5_readValue_65 : decode cX5_readValue 65 = .ok (.istore_n 3, 1) := by decide +kernel
theorem dX5_readValue_66 : decode cX5_readValue 66 = .ok (.iload_n 3, 1) := by decide +kernel
theorem dX5_readValue_67 : decode cX5_readValue 67 = .ok (.iconst (-1), 1) := by decide +kernel
theorem dX5_readValue_68 : decode cX5_readValue 68 = .ok (.if_icmp .ne 8, 3) := by decide +kernel
theorem dX5_readValue_71 : decode cX5_readValue 71 = .ok (.bipush (-2), 2) := by decide +kernel
theorem dX5_readValue_73 : decode cX5_readValue 73 = .ok (.goto 8, 3) := by decide +kernel
theorem dX5_readValue_76 : decode cX5_readValue 76 = .ok (.iconst 3, 1) := by decide +kernel
theorem dX5_readValue_77 : decode cX5_readValue 77 = .ok (.iload_n 2, 1) := by decide +kernel
theorem dX5_readValue_78 : decode cX5_readValue 78 = .ok (.imul, 1) := by decide +kernel
theorem dX5_readValue_79 : decode cX5_readValue 79 = .ok (.iload_n 3, 1) := by decide +kernel
theorem dX5_readValue_80 : decode cX5_readValue 80 = .ok (.iadd, 1) := by decide +kernel
theorem dX5_readValue_81 : decode cX5_readValue 81 = .ok (.ireturn, 1) := by decide +kernel
theorem zq_267 : Cond.fieldLink RX1 38 "ForeignKnit$BookReader" "rulesTold" "Z" ∈ zG := List.mem_of_getElem? (i := 267) (by decide +kernel)
theorem zq_270 : Cond.fieldLink RX1 74 "ForeignKnit$Tape" "fault" "I" ∈ zG := List.mem_of_getElem? (i := 270) (by decide +kernel)
theorem zq_271 : Cond.methodLink RX1 32 yX0_clear ∈ zG := List.mem_of_getElem? (i := 271) (by decide +kernel)
theorem zq_278 : Cond.methodLink RX1 37 yX7_clear ∈ zG := List.mem_of_getElem? (i := 278) (by decide +kernel)
theorem zq_287 : Cond.methodLink RX1 42 yX10_begin ∈ zG := List.mem_of_getElem? (i := 287) (by decide +kernel)
theorem zq_423 : Cond.methodLink RX1 54 yX1_readWord ∈ zG := List.mem_of_getElem? (i := 423) (by decide +kernel)
theorem zq_427 : Cond.fieldLink RX1 84 "ForeignKnit$Book" "words" "I" ∈ zG := List.mem_of_getElem? (i := 427) (by decide +kernel)
theorem zq_428 : Cond.fieldLink RX1 93 "ForeignKnit$Tape" "name" "J" ∈ zG := List.mem_of_getElem? (i := 428) (by decide +kernel)
theorem zq_429 : Cond.fieldLink RX1 101 "ForeignKnit$Book" "names" "[J" ∈ zG := List.mem_of_getElem? (i := 429) (by decide +kernel)
theorem zq_430 : Cond.fieldLink RX1 105 "ForeignKnit$Book" "kinds" "[I" ∈ zG := List.mem_of_getElem? (i := 430) (by decide +kernel)
theorem zq_436 : Cond.methodLink RX1 90 yX10_isName ∈ zG := List.mem_of_getElem? (i := 436) (by decide +kernel)
theorem zq_440 : Cond.methodLink RX1 97 yX0_wordNamed ∈ zG := List.mem_of_getElem? (i := 440) (by decide +kernel)
theorem zq_453 : Cond.methodLink RX1 58 yX1_readCasts ∈ zG := List.mem_of_getElem? (i := 453) (by decide +kernel)
theorem zq_462 : Cond.methodLink RX1 61 yX1_readRow ∈ zG := List.mem_of_getElem? (i := 462) (by decide +kernel)
theorem zq_468 : Cond.methodLink RX1 133 yX10_isSign ∈ zG := List.mem_of_getElem? (i := 468) (by decide +kernel)
theorem zq_469 : Cond.methodLink RX1 137 yX1_endRow ∈ zG := List.mem_of_getElem? (i := 469) (by decide +kernel)
theorem zq_474 : Cond.methodLink RX1 140 yX1_readTimes ∈ zG := List.mem_of_getElem? (i := 474) (by decide +kernel)
theorem zq_483 : Cond.methodLink RX1 143 yX1_readNamed ∈ zG := List.mem_of_getElem? (i := 483) (by decide +kernel)
theorem zq_493 : Cond.methodLink RX1 64 yX1_readAfter ∈ zG := List.mem_of_getElem? (i := 493) (by decide +kernel)
theorem zq_499 : Cond.methodLink RX1 67 yX1_readRules ∈ zG := List.mem_of_getElem? (i := 499) (by decide +kernel)
theorem zq_503 : Cond.methodLink RX1 127 yX7_read ∈ zG := List.mem_of_getElem? (i := 503) (by decide +kernel)
theorem zq_541 : Cond.methodLink RX1 77 yX0_countUses ∈ zG := List.mem_of_getElem? (i := 541) (by decide +kernel)
theorem zq_549 : Cond.methodLink RX1 80 yX0_findMeanings ∈ zG := List.mem_of_getElem? (i := 549) (by decide +kernel)
theorem zq_570 : Cond.fieldLink RX5 32 "ForeignKnit$Notes" "lines" "I" ∈ zG := List.mem_of_getElem? (i := 570) (by decide +kernel)
theorem zq_575 : Cond.fieldLink RX3 21 "ForeignKnit$Book" "counts" "[I" ∈ zG := List.mem_of_getElem? (i := 575) (by decide +kernel)
theorem zq_576 : Cond.methodLink RX3 26 arraycopyName ∈ zG := List.mem_of_getElem? (i := 576) (by decide +kernel)
theorem zq_577 : Cond.native arraycopyName ∈ zG := List.mem_of_getElem? (i := 577) (by decide +kernel)
theorem zq_578 : Cond.static arraycopyName ∈ zG := List.mem_of_getElem? (i := 578) (by decide +kernel)
theorem zq_579 : Cond.initialized "java/lang/System" ∈ zG := List.mem_of_getElem? (i := 579) (by decide +kernel)
theorem zq_720 : Cond.fieldLink RX5 36 "ForeignKnit$Notes" "tape" "LForeignKnit$Tape;" ∈ zG := List.mem_of_getElem? (i := 720) (by decide +kernel)
theorem zq_735 : Cond.methodLink RX5 81 yX10_takeNumber ∈ zG := List.mem_of_getElem? (i := 735) (by decide +kernel)
theorem zq_809 : Cond.methodLink RX2 3 objectInit ∈ zG := List.mem_of_getElem? (i := 809) (by decide +kernel)
theorem zq_810 : Cond.fieldLink RX2 9 "ForeignKnit$Brief" "inner" "[I" ∈ zG := List.mem_of_getElem? (i := 810) (by decide +kernel)
theorem zq_811 : Cond.fieldLink RX2 15 "ForeignKnit$Brief" "outer" "[I" ∈ zG := List.mem_of_getElem? (i := 811) (by decide +kernel)
theorem zq_816 : Cond.methodLink RX2 18 yX2_index ∈ zG := List.mem_of_getElem? (i := 816) (by decide +kernel)
theorem zq_819 : Cond.methodLink RX2 22 yX2_best ∈ zG := List.mem_of_getElem? (i := 819) (by decide +kernel)
theorem zq_823 : Cond.methodLink RX2 29 Lib.Math.min.name ∈ zG := List.mem_of_getElem? (i := 823) (by decide +kernel)
theorem zq_824 : Cond.methodLink RX2 26 yX2_asOne ∈ zG := List.mem_of_getElem? (i := 824) (by decide +kernel)
theorem zq_828 : Cond.methodLink RX2 34 yX0_repeats ∈ zG := List.mem_of_getElem? (i := 828) (by decide +kernel)
theorem zq_888 : Cond.methodLink RX3 32 yX3_at ∈ zG := List.mem_of_getElem? (i := 888) (by decide +kernel)
theorem zq_1034 : Cond.methodLink RX3 69 yX3_guesses ∈ zG := List.mem_of_getElem? (i := 1034) (by decide +kernel)
theorem zq_1038 : Cond.methodLink RX3 36 yX3_guessOf ∈ zG := List.mem_of_getElem? (i := 1038) (by decide +kernel)
theorem zq_1039 : Cond.methodLink RX3 57 yX8_meaningIn ∈ zG := List.mem_of_getElem? (i := 1039) (by decide +kernel)
theorem zq_1042 : Cond.methodLink RX3 73 yX3_missed ∈ zG := List.mem_of_getElem? (i := 1042) (by decide +kernel)
theorem zq_1046 : Cond.fieldLink RX3 62 "ForeignKnit$Book" "rows" "I" ∈ zG := List.mem_of_getElem? (i := 1046) (by decide +kernel)
theorem zq_1047 : Cond.methodLink RX3 39 yX3_countOf ∈ zG := List.mem_of_getElem? (i := 1047) (by decide +kernel)
theorem zq_1048 : Cond.methodLink RX3 66 yX0_leavesOf ∈ zG := List.mem_of_getElem? (i := 1048) (by decide +kernel)
theorem zq_1298 : Cond.methodLink RX3 42 yX3_guessBits ∈ zG := List.mem_of_getElem? (i := 1298) (by decide +kernel)
theorem zq_1302 : Cond.methodLink RX3 46 yJ6_bitCount_0f7a4 ∈ zG := List.mem_of_getElem? (i := 1302) (by decide +kernel)
theorem zq_1307 : Cond.methodLink RX3 51 Lib.Math.max.name ∈ zG := List.mem_of_getElem? (i := 1307) (by decide +kernel)
theorem zq_1393 : Cond.fieldLink RX4 19 "ForeignKnit$Misprints" "book" "LForeignKnit$Book;" ∈ zG := List.mem_of_getElem? (i := 1393) (by decide +kernel)
theorem zq_1394 : Cond.fieldLink RX4 23 "ForeignKnit$Misprints" "hand" "LForeignKnit$Hand;" ∈ zG := List.mem_of_getElem? (i := 1394) (by decide +kernel)
theorem zq_1395 : Cond.fieldLink RX4 33 "ForeignKnit$Shelf" "many" "I" ∈ zG := List.mem_of_getElem? (i := 1395) (by decide +kernel)
theorem zq_1396 : Cond.fieldLink RX4 39 "ForeignKnit$Shelf" "all" "[I" ∈ zG := List.mem_of_getElem? (i := 1396) (by decide +kernel)
theorem zq_1397 : Cond.methodLink RX4 27 yJ7_fill_53178 ∈ zG := List.mem_of_getElem? (i := 1397) (by decide +kernel)
theorem zq_1398 : Cond.methodLink RX4 42 yX8_downIn ∈ zG := List.mem_of_getElem? (i := 1398) (by decide +kernel)
theorem zq_1401 : Cond.methodLink RX4 48 yX3_guesses ∈ zG := List.mem_of_getElem? (i := 1401) (by decide +kernel)
theorem zq_1402 : Cond.methodLink RX4 54 yX4_mendBy ∈ zG := List.mem_of_getElem? (i := 1402) (by decide +kernel)
theorem zq_1406 : Cond.fieldLink RX4 65 "ForeignKnit$Book" "rows" "I" ∈ zG := List.mem_of_getElem? (i := 1406) (by decide +kernel)
theorem zq_1407 : Cond.methodLink RX4 61 yX3_missed ∈ zG := List.mem_of_getElem? (i := 1407) (by decide +kernel)
theorem zq_1408 : Cond.methodLink RX4 68 yX4_mendRow ∈ zG := List.mem_of_getElem? (i := 1408) (by decide +kernel)
theorem zq_1412 : Cond.fieldLink RX4 79 "ForeignKnit$Book" "words" "I" ∈ zG := List.mem_of_getElem? (i := 1412) (by decide +kernel)
theorem zq_1413 : Cond.fieldLink RX4 82 "ForeignKnit$Book" "inRow" "[[I" ∈ zG := List.mem_of_getElem? (i := 1413) (by decide +kernel)
theorem zq_1414 : Cond.methodLink RX4 72 yX0_excess ∈ zG := List.mem_of_getElem? (i := 1414) (by decide +kernel)
theorem zq_1415 : Cond.methodLink RX4 76 yX0_leavesOf ∈ zG := List.mem_of_getElem? (i := 1415) (by decide +kernel)
theorem zq_1416 : Cond.methodLink RX4 86 yX4_bit ∈ zG := List.mem_of_getElem? (i := 1416) (by decide +kernel)
theorem zq_1419 : Cond.methodLink RX4 89 yX8_meaningIn ∈ zG := List.mem_of_getElem? (i := 1419) (by decide +kernel)
theorem zq_1420 : Cond.methodLink RX4 92 yX4_isRight ∈ zG := List.mem_of_getElem? (i := 1420) (by decide +kernel)
theorem zq_1424 : Cond.methodLink RX4 96 yX3_countOf ∈ zG := List.mem_of_getElem? (i := 1424) (by decide +kernel)
theorem zq_1425 : Cond.methodLink RX4 99 yX0_takesOf ∈ zG := List.mem_of_getElem? (i := 1425) (by decide +kernel)
theorem zq_1426 : Cond.methodLink RX4 58 yX4_sumUp ∈ zG := List.mem_of_getElem? (i := 1426) (by decide +kernel)
theorem zq_1430 : Cond.fieldLink RX4 102 "ForeignKnit$Misprints" "ways" "I" ∈ zG := List.mem_of_getElem? (i := 1430) (by decide +kernel)
theorem zq_1431 : Cond.fieldLink RX4 105 "ForeignKnit$Misprints" "row" "I" ∈ zG := List.mem_of_getElem? (i := 1431) (by decide +kernel)
theorem zq_1432 : Cond.fieldLink RX4 108 "ForeignKnit$Misprints" "place" "I" ∈ zG := List.mem_of_getElem? (i := 1432) (by decide +kernel)
theorem zq_1433 : Cond.fieldLink RX4 111 "ForeignKnit$Misprints" "word" "I" ∈ zG := List.mem_of_getElem? (i := 1433) (by decide +kernel)
theorem zq_1434 : Cond.fieldLink RX4 114 "ForeignKnit$Book" "lengths" "[I" ∈ zG := List.mem_of_getElem? (i := 1434) (by decide +kernel)
theorem zq_1435 : Cond.methodLink RX4 117 yX0_wordAt ∈ zG := List.mem_of_getElem? (i := 1435) (by decide +kernel)
theorem zq_1436 : Cond.methodLink RX4 120 yX4_addWay ∈ zG := List.mem_of_getElem? (i := 1436) (by decide +kernel)
theorem zone {n ci a : Nat} (h : zsh n = ci) (hc : ci ≠ 99) (hd : ((List.range 260).all fun b => zsh b != ci || b == a) = true) (h20 : ci ≠ 20 := by decide) : n = a := by
  have h1 := List.all_eq_true.mp hd n (List.mem_range.mpr (zsh_lt h hc h20))
  simp only [h, bne_self_eq_false, Bool.false_or, beq_iff_eq] at h1
  exact h1
theorem zone_10 {n : Nat} (h : zsh n = 10) : n = 2 := zone h (by decide) (by decide +kernel)
theorem zfd_X1_11 : zFd RX1 11 1 2 := ⟨_, rfl, by decide, zq_65⟩
theorem zfd_X1_24 : zFd RX1 24 1 1 := ⟨_, rfl, by decide, zq_70⟩
theorem zfd_X1_38 : zFd RX1 38 1 4 := ⟨_, rfl, by decide, zq_267⟩
theorem zfd_X1_74 : zFd RX1 74 10 8 := ⟨_, rfl, by decide, zq_270⟩
theorem zfd_X1_84 : zFd RX1 84 0 0 := ⟨_, rfl, by decide, zq_427⟩
theorem zfd_X1_93 : zFd RX1 93 10 7 := ⟨_, rfl, by decide, zq_428⟩
theorem zfd_X1_101 : zFd RX1 101 0 1 := ⟨_, rfl, by decide, zq_429⟩
theorem zfd_X1_105 : zFd RX1 105 0 2 := ⟨_, rfl, by decide, zq_430⟩
theorem zfd_X2_9 : zFd RX2 9 2 0 := ⟨_, rfl, by decide, zq_810⟩
theorem zfd_X2_15 : zFd RX2 15 2 1 := ⟨_, rfl, by decide, zq_811⟩
theorem zfd_X3_21 : zFd RX3 21 0 11 := ⟨_, rfl, by decide, zq_575⟩
theorem zfd_X3_62 : zFd RX3 62 0 7 := ⟨_, rfl, by decide, zq_1046⟩
theorem zfd_X4_15 : zFd RX4 15 4 5 := ⟨_, rfl, by decide, zq_109⟩
theorem zfd_X4_19 : zFd RX4 19 4 6 := ⟨_, rfl, by decide, zq_1393⟩
theorem zfd_X4_23 : zFd RX4 23 4 7 := ⟨_, rfl, by decide, zq_1394⟩
theorem zfd_X4_33 : zFd RX4 33 8 2 := ⟨_, rfl, by decide, zq_1395⟩
theorem zfd_X4_39 : zFd RX4 39 8 4 := ⟨_, rfl, by decide, zq_1396⟩
theorem zfd_X4_65 : zFd RX4 65 0 7 := ⟨_, rfl, by decide, zq_1406⟩
theorem zfd_X4_79 : zFd RX4 79 0 0 := ⟨_, rfl, by decide, zq_1412⟩
theorem zfd_X4_82 : zFd RX4 82 0 10 := ⟨_, rfl, by decide, zq_1413⟩
theorem zfd_X4_102 : zFd RX4 102 4 1 := ⟨_, rfl, by decide, zq_1430⟩
theorem zfd_X4_114 : zFd RX4 114 0 8 := ⟨_, rfl, by decide, zq_1434⟩
theorem zfd_X5_36 : zFd RX5 36 5 10 := ⟨_, rfl, by decide, zq_720⟩
theorem zfp_X1_28 : zFp RX1 28 1 3 (.object "ForeignKnit$Book") := ⟨_, rfl, by decide, zq_266, rfl, by decide +kernel⟩
theorem zfp_X1_38 : zFp RX1 38 1 4 .boolean := ⟨_, rfl, by decide, zq_267, rfl, by decide +kernel⟩
theorem zfp_X1_84 : zFp RX1 84 0 0 .int := ⟨_, rfl, by decide, zq_427, rfl, by decide +kernel⟩
theorem zfp_X2_9 : zFp RX2 9 2 0 (.array .int) := ⟨_, rfl, by decide, zq_810, rfl, by decide +kernel⟩
theorem zfp_X2_15 : zFp RX2 15 2 1 (.array .int) := ⟨_, rfl, by decide, zq_811, rfl, by decide +kernel⟩
theorem zfp_X4_19 : zFp RX4 19 4 6 (.object "ForeignKnit$Book") := ⟨_, rfl, by decide, zq_1393, rfl, by decide +kernel⟩
theorem zfp_X4_23 : zFp RX4 23 4 7 (.object "ForeignKnit$Hand") := ⟨_, rfl, by decide, zq_1394, rfl, by decide +kernel⟩
theorem zfp_X4_102 : zFp RX4 102 4 1 .int := ⟨_, rfl, by decide, zq_1430, rfl, by decide +kernel⟩
theorem zfp_X4_105 : zFp RX4 105 4 2 .int := ⟨_, rfl, by decide, zq_1431, rfl, by decide +kernel⟩
theorem zfp_X4_108 : zFp RX4 108 4 3 .int := ⟨_, rfl, by decide, zq_1432, rfl, by decide +kernel⟩
theorem zfp_X4_111 : zFp RX4 111 4 4 .int := ⟨_, rfl, by decide, zq_1433, rfl, by decide +kernel⟩
theorem zfp_X5_32 : zFp RX5 32 5 0 .int := ⟨_, rfl, by decide, zq_570, rfl, by decide +kernel⟩
theorem zq_274 : Cond.code yX0_clear cX0_clear 1 none ∈ zG := List.mem_of_getElem? (i := 274) (by decide +kernel)
theorem zq_272 : Cond.instanceMethod yX0_clear ∈ zG := List.mem_of_getElem? (i := 272) (by decide +kernel)
theorem zq_273 : Cond.selects RX0 yX0_clear yX0_clear ∈ zG := List.mem_of_getElem? (i := 273) (by decide +kernel)
theorem zy_X0_clear : zyV yX0_clear cX0_clear 1 none 0 := ⟨zq_274, zq_272, zq_273, zq_47, ⟨by decide, by decide⟩, by decide +kernel, by decide⟩
theorem zq_544 : Cond.code yX0_countUses cX0_countUses 4 none ∈ zG := List.mem_of_getElem? (i := 544) (by decide +kernel)
theorem zq_542 : Cond.instanceMethod yX0_countUses ∈ zG := List.mem_of_getElem? (i := 542) (by decide +kernel)
theorem zq_543 : Cond.selects RX0 yX0_countUses yX0_countUses ∈ zG := List.mem_of_getElem? (i := 543) (by decide +kernel)
theorem zy_X0_countUses : zyV yX0_countUses cX0_countUses 4 none 0 := ⟨zq_544, zq_542, zq_543, zq_47, ⟨by decide, by decide⟩, by decide +kernel, by decide⟩
theorem zq_1312 : Cond.code yX0_excess cX0_excess 4 (some .int) ∈ zG := List.mem_of_getElem? (i := 1312) (by decide +kernel)
theorem zq_1310 : Cond.instanceMethod yX0_excess ∈ zG := List.mem_of_getElem? (i := 1310) (by decide +kernel)
theorem zq_1311 : Cond.selects RX0 yX0_excess yX0_excess ∈ zG := List.mem_of_getElem? (i := 1311) (by decide +kernel)
theorem zy_X0_excess : zyV yX0_excess cX0_excess 4 (some .int) 2 := ⟨zq_1312, zq_1310, zq_1311, zq_47, ⟨by decide, by decide⟩, by decide +kernel, by decide⟩
theorem zq_552 : Cond.code yX0_findMeanings cX0_findMeanings 8 none ∈ zG := List.mem_of_getElem? (i := 552) (by decide +kernel)
theorem zq_550 : Cond.instanceMethod yX0_findMeanings ∈ zG := List.mem_of_getElem? (i := 550) (by decide +kernel)
theorem zq_551 : Cond.selects RX0 yX0_findMeanings yX0_findMeanings ∈ zG := List.mem_of_getElem? (i := 551) (by decide +kernel)
theorem zy_X0_findMeanings : zyV yX0_findMeanings cX0_findMeanings 8 none 1 := ⟨zq_552, zq_550, zq_551, zq_47, ⟨by decide, by decide⟩, by decide +kernel, by decide⟩
theorem zq_290 : Cond.code yX10_begin cX10_begin 1 none ∈ zG := List.mem_of_getElem? (i := 290) (by decide +kernel)
theorem zq_288 : Cond.instanceMethod yX10_begin ∈ zG := List.mem_of_getElem? (i := 288) (by decide +kernel)
theorem zq_289 : Cond.selects RX10 yX10_begin yX10_begin ∈ zG := List.mem_of_getElem? (i := 289) (by decide +kernel)
theorem zy_X10_begin : zyV yX10_begin cX10_begin 1 none 0 := ⟨zq_290, zq_288, zq_289, zq_16, ⟨by decide, by decide⟩, by decide +kernel, by decide⟩
theorem zq_472 : Cond.code yX1_endRow cX1_endRow 1 (some .boolean) ∈ zG := List.mem_of_getElem? (i := 472) (by decide +kernel)
theorem zq_470 : Cond.instanceMethod yX1_endRow ∈ zG := List.mem_of_getElem? (i := 470) (by decide +kernel)
theorem zq_471 : Cond.selects RX1 yX1_endRow yX1_endRow ∈ zG := List.mem_of_getElem? (i := 471) (by decide +kernel)
theorem zy_X1_endRow : zyV yX1_endRow cX1_endRow 1 (some .boolean) 0 := ⟨zq_472, zq_470, zq_471, zq_20, ⟨by decide, by decide⟩, by decide +kernel, by decide⟩
theorem zq_496 : Cond.code yX1_readAfter cX1_readAfter 3 (some .boolean) ∈ zG := List.mem_of_getElem? (i := 496) (by decide +kernel)
theorem zq_494 : Cond.instanceMethod yX1_readAfter ∈ zG := List.mem_of_getElem? (i := 494) (by decide +kernel)
theorem zq_495 : Cond.selects RX1 yX1_readAfter yX1_readAfter ∈ zG := List.mem_of_getElem? (i := 495) (by decide +kernel)
theorem zy_X1_readAfter : zyV yX1_readAfter cX1_readAfter 3 (some .boolean) 0 := ⟨zq_496, zq_494, zq_495, zq_20, ⟨by decide, by decide⟩, by decide +kernel, by decide⟩
theorem zq_456 : Cond.code yX1_readCasts cX1_readCasts 2 (some .boolean) ∈ zG := List.mem_of_getElem? (i := 456) (by decide +kernel)
theorem zq_454 : Cond.instanceMethod yX1_readCasts ∈ zG := List.mem_of_getElem? (i := 454) (by decide +kernel)
theorem zq_455 : Cond.selects RX1 yX1_readCasts yX1_readCasts ∈ zG := List.mem_of_getElem? (i := 455) (by decide +kernel)
theorem zy_X1_readCasts : zyV yX1_readCasts cX1_readCasts 2 (some .boolean) 0 := ⟨zq_456, zq_454, zq_455, zq_20, ⟨by decide, by decide⟩, by decide +kernel, by decide⟩
theorem zq_486 : Cond.code yX1_readNamed cX1_readNamed 4 (some .boolean) ∈ zG := List.mem_of_getElem? (i := 486) (by decide +kernel)
theorem zq_484 : Cond.instanceMethod yX1_readNamed ∈ zG := List.mem_of_getElem? (i := 484) (by decide +kernel)
theorem zq_485 : Cond.selects RX1 yX1_readNamed yX1_readNamed ∈ zG := List.mem_of_getElem? (i := 485) (by decide +kernel)
theorem zy_X1_readNamed : zyV yX1_readNamed cX1_readNamed 4 (some .boolean) 0 := ⟨zq_486, zq_484, zq_485, zq_20, ⟨by decide, by decide⟩, by decide +kernel, by decide⟩
theorem zq_465 : Cond.code yX1_readRow cX1_readRow 4 (some .boolean) ∈ zG := List.mem_of_getElem? (i := 465) (by decide +kernel)
theorem zq_463 : Cond.instanceMethod yX1_readRow ∈ zG := List.mem_of_getElem? (i := 463) (by decide +kernel)
theorem zq_464 : Cond.selects RX1 yX1_readRow yX1_readRow ∈ zG := List.mem_of_getElem? (i := 464) (by decide +kernel)
theorem zy_X1_readRow : zyV yX1_readRow cX1_readRow 4 (some .boolean) 0 := ⟨zq_465, zq_463, zq_464, zq_20, ⟨by decide, by decide⟩, by decide +kernel, by decide⟩
theorem zq_502 : Cond.code yX1_readRules cX1_readRules 1 (some .boolean) ∈ zG := List.mem_of_getElem? (i := 502) (by decide +kernel)
theorem zq_500 : Cond.instanceMethod yX1_readRules ∈ zG := List.mem_of_getElem? (i := 500) (by decide +kernel)
theorem zq_501 : Cond.selects RX1 yX1_readRules yX1_readRules ∈ zG := List.mem_of_getElem? (i := 501) (by decide +kernel)
theorem zy_X1_readRules : zyV yX1_readRules cX1_readRules 1 (some .boolean) 0 := ⟨zq_502, zq_500, zq_501, zq_20, ⟨by decide, by decide⟩, by decide +kernel, by decide⟩
theorem zq_477 : Cond.code yX1_readTimes cX1_readTimes 5 (some .boolean) ∈ zG := List.mem_of_getElem? (i := 477) (by decide +kernel)
theorem zq_475 : Cond.instanceMethod yX1_readTimes ∈ zG := List.mem_of_getElem? (i := 475) (by decide +kernel)
theorem zq_476 : Cond.selects RX1 yX1_readTimes yX1_readTimes ∈ zG := List.mem_of_getElem? (i := 476) (by decide +kernel)
theorem zy_X1_readTimes : zyV yX1_readTimes cX1_readTimes 5 (some .boolean) 1 := ⟨zq_477, zq_475, zq_476, zq_20, ⟨by decide, by decide⟩, by decide +kernel, by decide⟩
theorem zq_426 : Cond.code yX1_readWord cX1_readWord 1 (some .boolean) ∈ zG := List.mem_of_getElem? (i := 426) (by decide +kernel)
theorem zq_424 : Cond.instanceMethod yX1_readWord ∈ zG := List.mem_of_getElem? (i := 424) (by decide +kernel)
theorem zq_425 : Cond.selects RX1 yX1_readWord yX1_readWord ∈ zG := List.mem_of_getElem? (i := 425) (by decide +kernel)
theorem zy_X1_readWord : zyV yX1_readWord cX1_readWord 1 (some .boolean) 0 := ⟨zq_426, zq_424, zq_425, zq_20, ⟨by decide, by decide⟩, by decide +kernel, by decide⟩
theorem zq_827 : Cond.code yX2_asOne cX2_asOne 8 (some .int) ∈ zG := List.mem_of_getElem? (i := 827) (by decide +kernel)
theorem zq_825 : Cond.instanceMethod yX2_asOne ∈ zG := List.mem_of_getElem? (i := 825) (by decide +kernel)
theorem zq_826 : Cond.selects RX2 yX2_asOne yX2_asOne ∈ zG := List.mem_of_getElem? (i := 826) (by decide +kernel)
theorem zq_805 : Cond.initialized RX2 ∈ zG := List.mem_of_getElem? (i := 805) (by decide +kernel)
theorem zy_X2_asOne : zyV yX2_asOne cX2_asOne 8 (some .int) 4 := ⟨zq_827, zq_825, zq_826, zq_805, ⟨by decide, by decide⟩, by decide +kernel, by decide⟩
theorem zq_822 : Cond.code yX2_best cX2_best 8 (some .int) ∈ zG := List.mem_of_getElem? (i := 822) (by decide +kernel)
theorem zq_820 : Cond.instanceMethod yX2_best ∈ zG := List.mem_of_getElem? (i := 820) (by decide +kernel)
theorem zq_821 : Cond.selects RX2 yX2_best yX2_best ∈ zG := List.mem_of_getElem? (i := 821) (by decide +kernel)
theorem zy_X2_best : zyV yX2_best cX2_best 8 (some .int) 4 := ⟨zq_822, zq_820, zq_821, zq_805, ⟨by decide, by decide⟩, by decide +kernel, by decide⟩
theorem zq_891 : Cond.code yX3_at cX3_at 2 (some .int) ∈ zG := List.mem_of_getElem? (i := 891) (by decide +kernel)
theorem zq_889 : Cond.instanceMethod yX3_at ∈ zG := List.mem_of_getElem? (i := 889) (by decide +kernel)
theorem zq_890 : Cond.selects RX3 yX3_at yX3_at ∈ zG := List.mem_of_getElem? (i := 890) (by decide +kernel)
theorem zy_X3_at : zyV yX3_at cX3_at 2 (some .int) 1 := ⟨zq_891, zq_889, zq_890, zq_24, ⟨by decide, by decide⟩, by decide +kernel, by decide⟩
theorem zq_789 : Cond.code yX3_countOf cX3_countOf 2 (some .int) ∈ zG := List.mem_of_getElem? (i := 789) (by decide +kernel)
theorem zq_787 : Cond.instanceMethod yX3_countOf ∈ zG := List.mem_of_getElem? (i := 787) (by decide +kernel)
theorem zq_788 : Cond.selects RX3 yX3_countOf yX3_countOf ∈ zG := List.mem_of_getElem? (i := 788) (by decide +kernel)
theorem zy_X3_countOf : zyV yX3_countOf cX3_countOf 2 (some .int) 1 := ⟨zq_789, zq_787, zq_788, zq_24, ⟨by decide, by decide⟩, by decide +kernel, by decide⟩
theorem zq_1301 : Cond.code yX3_guessBits cX3_guessBits 3 (some .int) ∈ zG := List.mem_of_getElem? (i := 1301) (by decide +kernel)
theorem zq_1299 : Cond.instanceMethod yX3_guessBits ∈ zG := List.mem_of_getElem? (i := 1299) (by decide +kernel)
theorem zq_1300 : Cond.selects RX3 yX3_guessBits yX3_guessBits ∈ zG := List.mem_of_getElem? (i := 1300) (by decide +kernel)
theorem zy_X3_guessBits : zyV yX3_guessBits cX3_guessBits 3 (some .int) 0 := ⟨zq_1301, zq_1299, zq_1300, zq_24, ⟨by decide, by decide⟩, by decide +kernel, by decide⟩
theorem zq_764 : Cond.code yX3_guessOf cX3_guessOf 2 (some .int) ∈ zG := List.mem_of_getElem? (i := 764) (by decide +kernel)
theorem zq_762 : Cond.instanceMethod yX3_guessOf ∈ zG := List.mem_of_getElem? (i := 762) (by decide +kernel)
theorem zq_763 : Cond.selects RX3 yX3_guessOf yX3_guessOf ∈ zG := List.mem_of_getElem? (i := 763) (by decide +kernel)
theorem zy_X3_guessOf : zyV yX3_guessOf cX3_guessOf 2 (some .int) 1 := ⟨zq_764, zq_762, zq_763, zq_24, ⟨by decide, by decide⟩, by decide +kernel, by decide⟩
theorem zq_1037 : Cond.code yX3_guesses cX3_guesses 4 (some .boolean) ∈ zG := List.mem_of_getElem? (i := 1037) (by decide +kernel)
theorem zq_1035 : Cond.instanceMethod yX3_guesses ∈ zG := List.mem_of_getElem? (i := 1035) (by decide +kernel)
theorem zq_1036 : Cond.selects RX3 yX3_guesses yX3_guesses ∈ zG := List.mem_of_getElem? (i := 1036) (by decide +kernel)
theorem zy_X3_guesses : zyV yX3_guesses cX3_guesses 4 (some .boolean) 1 := ⟨zq_1037, zq_1035, zq_1036, zq_24, ⟨by decide, by decide⟩, by decide +kernel, by decide⟩
theorem zq_1045 : Cond.code yX3_missed cX3_missed 6 (some .int) ∈ zG := List.mem_of_getElem? (i := 1045) (by decide +kernel)
theorem zq_1043 : Cond.instanceMethod yX3_missed ∈ zG := List.mem_of_getElem? (i := 1043) (by decide +kernel)
theorem zq_1044 : Cond.selects RX3 yX3_missed yX3_missed ∈ zG := List.mem_of_getElem? (i := 1044) (by decide +kernel)
theorem zy_X3_missed : zyV yX3_missed cX3_missed 6 (some .int) 2 := ⟨zq_1045, zq_1043, zq_1044, zq_24, ⟨by decide, by decide⟩, by decide +kernel, by decide⟩
theorem zq_1439 : Cond.code yX4_addWay cX4_addWay 4 none ∈ zG := List.mem_of_getElem? (i := 1439) (by decide +kernel)
theorem zq_1437 : Cond.instanceMethod yX4_addWay ∈ zG := List.mem_of_getElem? (i := 1437) (by decide +kernel)
theorem zq_1438 : Cond.selects RX4 yX4_addWay yX4_addWay ∈ zG := List.mem_of_getElem? (i := 1438) (by decide +kernel)
theorem zy_X4_addWay : zyV yX4_addWay cX4_addWay 4 none 3 := ⟨zq_1439, zq_1437, zq_1438, zq_43, ⟨by decide, by decide⟩, by decide +kernel, by decide⟩
theorem zq_1423 : Cond.code yX4_isRight cX4_isRight 6 (some .boolean) ∈ zG := List.mem_of_getElem? (i := 1423) (by decide +kernel)
theorem zq_1421 : Cond.instanceMethod yX4_isRight ∈ zG := List.mem_of_getElem? (i := 1421) (by decide +kernel)
theorem zq_1422 : Cond.selects RX4 yX4_isRight yX4_isRight ∈ zG := List.mem_of_getElem? (i := 1422) (by decide +kernel)
theorem zy_X4_isRight : zyV yX4_isRight cX4_isRight 6 (some .boolean) 3 := ⟨zq_1423, zq_1421, zq_1422, zq_43, ⟨by decide, by decide⟩, by decide +kernel, by decide⟩
theorem zq_1405 : Cond.code yX4_mendBy cX4_mendBy 5 none ∈ zG := List.mem_of_getElem? (i := 1405) (by decide +kernel)
theorem zq_1403 : Cond.instanceMethod yX4_mendBy ∈ zG := List.mem_of_getElem? (i := 1403) (by decide +kernel)
theorem zq_1404 : Cond.selects RX4 yX4_mendBy yX4_mendBy ∈ zG := List.mem_of_getElem? (i := 1404) (by decide +kernel)
theorem zy_X4_mendBy : zyV yX4_mendBy cX4_mendBy 5 none 1 := ⟨zq_1405, zq_1403, zq_1404, zq_43, ⟨by decide, by decide⟩, by decide +kernel, by decide⟩
theorem zq_1411 : Cond.code yX4_mendRow cX4_mendRow 11 none ∈ zG := List.mem_of_getElem? (i := 1411) (by decide +kernel)
theorem zq_1409 : Cond.instanceMethod yX4_mendRow ∈ zG := List.mem_of_getElem? (i := 1409) (by decide +kernel)
theorem zq_1410 : Cond.selects RX4 yX4_mendRow yX4_mendRow ∈ zG := List.mem_of_getElem? (i := 1410) (by decide +kernel)
theorem zy_X4_mendRow : zyV yX4_mendRow cX4_mendRow 11 none 2 := ⟨zq_1411, zq_1409, zq_1410, zq_43, ⟨by decide, by decide⟩, by decide +kernel, by decide⟩
theorem zq_1429 : Cond.code yX4_sumUp cX4_sumUp 4 none ∈ zG := List.mem_of_getElem? (i := 1429) (by decide +kernel)
theorem zq_1427 : Cond.instanceMethod yX4_sumUp ∈ zG := List.mem_of_getElem? (i := 1427) (by decide +kernel)
theorem zq_1428 : Cond.selects RX4 yX4_sumUp yX4_sumUp ∈ zG := List.mem_of_getElem? (i := 1428) (by decide +kernel)
theorem zy_X4_sumUp : zyV yX4_sumUp cX4_sumUp 4 none 0 := ⟨zq_1429, zq_1427, zq_1428, zq_43, ⟨by decide, by decide⟩, by decide +kernel, by decide⟩
theorem zq_281 : Cond.code yX7_clear cX7_clear 1 none ∈ zG := List.mem_of_getElem? (i := 281) (by decide +kernel)
theorem zq_279 : Cond.instanceMethod yX7_clear ∈ zG := List.mem_of_getElem? (i := 279) (by decide +kernel)
theorem zq_280 : Cond.selects RX7 yX7_clear yX7_clear ∈ zG := List.mem_of_getElem? (i := 280) (by decide +kernel)
theorem zy_X7_clear : zyV yX7_clear cX7_clear 1 none 0 := ⟨zq_281, zq_279, zq_280, zq_69, ⟨by decide, by decide⟩, by decide +kernel, by decide⟩
theorem zq_506 : Cond.code yX7_read cX7_read 1 (some .boolean) ∈ zG := List.mem_of_getElem? (i := 506) (by decide +kernel)
theorem zq_504 : Cond.instanceMethod yX7_read ∈ zG := List.mem_of_getElem? (i := 504) (by decide +kernel)
theorem zq_505 : Cond.selects RX7 yX7_read yX7_read ∈ zG := List.mem_of_getElem? (i := 505) (by decide +kernel)
theorem zy_X7_read : zyV yX7_read cX7_read 1 (some .boolean) 0 := ⟨zq_506, zq_504, zq_505, zq_69, ⟨by decide, by decide⟩, by decide +kernel, by decide⟩
theorem zq_818 : Cond.code yX2_index cX2_index 2 (some .int) ∈ zG := List.mem_of_getElem? (i := 818) (by decide +kernel)
theorem zq_817 : Cond.static yX2_index ∈ zG := List.mem_of_getElem? (i := 817) (by decide +kernel)
theorem zy_X2_index : zyS yX2_index cX2_index 2 (some .int) 2 := ⟨zq_818, zq_817, zq_805, ⟨by decide, by decide⟩, by decide +kernel, by decide⟩
theorem zq_1418 : Cond.code yX4_bit cX4_bit 2 (some .int) ∈ zG := List.mem_of_getElem? (i := 1418) (by decide +kernel)
theorem zq_1417 : Cond.static yX4_bit ∈ zG := List.mem_of_getElem? (i := 1417) (by decide +kernel)
theorem zy_X4_bit : zyS yX4_bit cX4_bit 2 (some .int) 2 := ⟨zq_1418, zq_1417, zq_43, ⟨by decide, by decide⟩, by decide +kernel, by decide⟩
theorem zq_1400 : Cond.code yX8_downIn cX8_downIn 1 (some .int) ∈ zG := List.mem_of_getElem? (i := 1400) (by decide +kernel)
theorem zq_1399 : Cond.static yX8_downIn ∈ zG := List.mem_of_getElem? (i := 1399) (by decide +kernel)
theorem zy_X8_downIn : zyS yX8_downIn cX8_downIn 1 (some .int) 1 := ⟨zq_1400, zq_1399, zq_35, ⟨by decide, by decide⟩, by decide +kernel, by decide⟩
theorem zq_1041 : Cond.code yX8_meaningIn cX8_meaningIn 2 (some .int) ∈ zG := List.mem_of_getElem? (i := 1041) (by decide +kernel)
theorem zq_1040 : Cond.static yX8_meaningIn ∈ zG := List.mem_of_getElem? (i := 1040) (by decide +kernel)
theorem zy_X8_meaningIn : zyS yX8_meaningIn cX8_meaningIn 2 (some .int) 2 := ⟨zq_1041, zq_1040, zq_35, ⟨by decide, by decide⟩, by decide +kernel, by decide⟩
theorem zs_141 : zsh 141 = 20 := by decide +kernel
theorem zl_141 : zln 141 = 3600 := by decide +kernel
theorem zs_142 : zsh 142 = 20 := by decide +kernel
theorem zl_142 : zln 142 = 3600 := by decide +kernel
theorem zo_3_1 : zoffok 3 1 20 12 = true := by decide +kernel
section ZM
variable {p : Program} {l : Launch} {e : Env} {R : Room} {s : State} {m : MethodId} {args : Array Value} {below : List Frame} {meth : Method} {c : Code} {cells slots : Nat} {Q : State → Prop} {D : va_G} {dA : Nat → ClassId} {ad ad0 : Nat → Nat} {al al0 : Nat → Prop}
/-! X1_readRow -/
def fX1_readRow_J164 (k : Int32 → zW → Prop) (g39 : Int32 → Int32 → Int32 → zW → Prop) (x1 : Int32) (x3 : Int32) (w : zW) : Prop :=
  fX1_readNamed  w (fun r11 w11 =>
  ((¬ r11 = 0 →
    g39 x1 (1 : Int32) (x3 + (1 : Int32)) w11) ∧
   (r11 = 0 →
    k (0 : Int32) w11)))
set_option maxHeartbeats 4000000 in
set_option maxRecDepth 100000 in
theorem mX1_readRow_J164 {k : Int32 → zW → Prop} {g39 : Int32 → Int32 → Int32 → zW → Prop} (X : zCx p s m args meth c cX1_readRow 4 RX1 (some .boolean)) (hr : zRm R 8 cells slots) (hQ : zRetZ p l e R s m args below meth c cells slots Q D dA true ad0 al0 ad al cX1_readRow k) (hg39 : ∀ (x1 : Int32) (x2 : Int32) (x3 : Int32) (w : zW) (H : Heap) (locs : List Loc) (ls : Array Slot), g39 x1 x2 x3 w → zSt D dA true ad0 al0 ad al w s H locs → lv_has ls 4 [(0, .ref (ad 4)), (1, .int x1), (2, .int x2), (3, .int x3)] → W p l e R s m args below meth c H locs cells slots Q (F0 m 39 ls [])) {x1 : Int32} {x3 : Int32} {w : zW} {H : Heap} {locs : List Loc} {ls : Array Slot} (hf : fX1_readRow_J164 k g39 x1 x3 w) (hR : zSt D dA true ad0 al0 ad al w s H locs) (hl : lv_has ls 4 [(0, .ref (ad 4)), (1, .int x1), (3, .int x3)]) : W p l e R s m args below meth c H locs cells slots Q (F0 m 164 ls []) := by
  have hx := X.1
  have hb := X.2.1
  have hml := X.2.2.1
  have hown := X.2.2.2.1
  have hts := X.2.2.2.2.1
  unfold fX1_readRow_J164 at hf
  refine lv_iconst (v := (1 : Int32)) hx hb dX1_readRow_164 (by decide) ?_
  refine lv_istore_n (lv' := [(2, .int (1 : Int32)), (0, .ref (ad 4)), (1, .int x1), (3, .int x3)]) hx hb dX1_readRow_165 rfl hl (by decide) rfl (fun ls hl => ?_)
  refine lv_aload_n hx hb dX1_readRow_166 rfl (lv_at hl 1 rfl) ?_
  refine z_callVI (fr1 := 7) (b := 4) (As := []) (rest := []) X (hr.le (by decide)) hR zy_X1_readNamed zq_483 (zlit hR zf_4) (by rw [zs_4]; rfl) rfl (mX1_readNamed  hf) rfl hl (Nat.le_of_ble_eq_true rfl) dX1_readRow_167 rfl (fun r11 w11 H locs hf hR => ?_)
  refine lv_if_ne (tgt := 175) hx hb dX1_readRow_170 (by decide) (fun c12 => ?_) (fun c12 => ?_)
  · replace hf := hf.1 c12
    refine lv_iinc (v := x3 + (1 : Int32)) (lv' := [(3, .int (x3 + (1 : Int32))), (2, .int (1 : Int32)), (0, .ref (ad 4)), (1, .int x1)]) hx hb dX1_readRow_175 hl (k := 3) rfl rfl (by decide) rfl (fun ls hl => ?_)
    refine lv_goto (tgt := 39) hx hb dX1_readRow_178 (by decide) ?_
    exact hg39 x1 (1 : Int32) (x3 + (1 : Int32)) w11 _ _ _ hf hR (lv_sub hl [2, 3, 1, 0] rfl)
  · replace hf := hf.2 c12
    refine lv_iconst (v := (0 : Int32)) hx hb dX1_readRow_173 (by decide) ?_
    exact hQ _ _ _ _ _ _ zb01_0 hf hR dX1_readRow_174
def fX1_readRow_J92 (k : Int32 → zW → Prop)  (w : zW) : Prop :=
  fX10_wrong (5 : Int32) w (fun r20 w20 =>
  zb01 r20 ∧ k r20 w20)
set_option maxHeartbeats 4000000 in
set_option maxRecDepth 100000 in
theorem mX1_readRow_J92 {k : Int32 → zW → Prop} (X : zCx p s m args meth c cX1_readRow 4 RX1 (some .boolean)) (hr : zRm R 8 cells slots) (hQ : zRetZ p l e R s m args below meth c cells slots Q D dA true ad0 al0 ad al cX1_readRow k)   {w : zW} {H : Heap} {locs : List Loc} {ls : Array Slot} (hf : fX1_readRow_J92 k  w) (hR : zSt D dA true ad0 al0 ad al w s H locs) (hl : lv_has ls 4 [(0, .ref (ad 4))]) : W p l e R s m args below meth c H locs cells slots Q (F0 m 92 ls []) := by
  have hx := X.1
  have hb := X.2.1
  have hml := X.2.2.1
  have hown := X.2.2.2.1
  have hts := X.2.2.2.2.1
  unfold fX1_readRow_J92 at hf
  refine lv_aload_n hx hb dX1_readRow_92 rfl (lv_at hl 0 rfl) ?_
  refine z_getS X hR (zlit hR zf_4) zs_4 (by decide) zfd_X1_15 rfl (r := 2) (by decide +kernel) dX1_readRow_93 ?_
  refine lv_iconst (v := (5 : Int32)) hx hb dX1_readRow_96 (by decide) ?_
  refine z_callVI (fr1 := 0) (b := 2) (As := [.int (5 : Int32)]) (rest := []) X (hr.le (by decide)) hR zy_X10_wrong zq_431 (zlit hR zf_2) (by rw [zs_2]; rfl) rfl (mX10_wrong  hf) rfl hl (Nat.le_of_ble_eq_true rfl) dX1_readRow_97 rfl (fun r20 w20 H locs hf hR => ?_)
  obtain ⟨h01, hf⟩ := hf
  exact hQ _ _ _ _ _ _ h01 hf hR dX1_readRow_100
def fX1_readRow_J71 (k : Int32 → zW → Prop) (g39 : Int32 → Int32 → Int32 → zW → Prop) (x1 : Int32) (x2 : Int32) (x3 : Int32) (w : zW) : Prop :=
  fX10_isSign (40 : Int32) w (fun r8 w8 =>
  ((r8 = 0 →
    ((x2 = 0 →
      fX1_readRow_J164 k g39 x1 x3 w8) ∧
     (¬ x2 = 0 →
      ((x1 ≤ 0 →
        fX1_readRow_J164 k g39 x1 x3 w8) ∧
       (¬ x1 ≤ 0 →
        fX10_isSign (41 : Int32) w8 (fun r14 w14 =>
        ((r14 = 0 →
          fX1_readRow_J164 k g39 x1 x3 w14) ∧
         (¬ r14 = 0 →
          vp_in (x1 + (-1 : Int32)) 3 ∧ 
          fX1_readTimes (gI w14 5 (x1 + (-1 : Int32)).toNatClampNeg) w14 (fun r17 w17 =>
          ((¬ r17 = 0 →
            g39 (x1 + (-1 : Int32)) x2 (x3 + (1 : Int32)) w17) ∧
           (r17 = 0 →
            k (0 : Int32) w17))))))))))) ∧
   (¬ r8 = 0 →
    ((x1 < 0 →
      fX1_readRow_J92 k  w8) ∧
     (¬ x1 < 0 →
      ((x1 < (3 : Int32) →
        vp_in x1 3 ∧ 
        ∀ w23 : zW, w23 = sI w8 5 x1.toNatClampNeg (gI w8 4 5) →
        fX10_next  w23 (fun w24 =>
        g39 (x1 + (1 : Int32)) (0 : Int32) (x3 + (1 : Int32)) w24)) ∧
       (¬ x1 < (3 : Int32) →
        fX1_readRow_J92 k  w8)))))))
set_option maxHeartbeats 4000000 in
set_option maxRecDepth 100000 in
theorem mX1_readRow_J71 {k : Int32 → zW → Prop} {g39 : Int32 → Int32 → Int32 → zW → Prop} (X : zCx p s m args meth c cX1_readRow 4 RX1 (some .boolean)) (hr : zRm R 8 cells slots) (hQ : zRetZ p l e R s m args below meth c cells slots Q D dA true ad0 al0 ad al cX1_readRow k) (hg39 : ∀ (x1 : Int32) (x2 : Int32) (x3 : Int32) (w : zW) (H : Heap) (locs : List Loc) (ls : Array Slot), g39 x1 x2 x3 w → zSt D dA true ad0 al0 ad al w s H locs → lv_has ls 4 [(0, .ref (ad 4)), (1, .int x1), (2, .int x2), (3, .int x3)] → W p l e R s m args below meth c H locs cells slots Q (F0 m 39 ls [])) {x1 : Int32} {x2 : Int32} {x3 : Int32} {w : zW} {H : Heap} {locs : List Loc} {ls : Array Slot} (hf : fX1_readRow_J71 k g39 x1 x2 x3 w) (hR : zSt D dA true ad0 al0 ad al w s H locs) (hl : lv_has ls 4 [(0, .ref (ad 4)), (1, .int x1), (2, .int x2), (3, .int x3)]) : W p l e R s m args below meth c H locs cells slots Q (F0 m 71 ls []) := by
  have hx := X.1
  have hb := X.2.1
  have hml := X.2.2.1
  have hown := X.2.2.2.1
  have hts := X.2.2.2.2.1
  unfold fX1_readRow_J71 at hf
  refine lv_aload_n hx hb dX1_readRow_71 rfl (lv_at hl 0 rfl) ?_
  refine z_getS X hR (zlit hR zf_4) zs_4 (by decide) zfd_X1_15 rfl (r := 2) (by decide +kernel) dX1_readRow_72 ?_
  refine lv_bipush (v := (40 : Int32)) hx hb dX1_readRow_75 (by decide) ?_
  refine z_callVI (fr1 := 0) (b := 2) (As := [.int (40 : Int32)]) (rest := []) X (hr.le (by decide)) hR zy_X10_isSign zq_468 (zlit hR zf_2) (by rw [zs_2]; rfl) rfl (mX10_isSign  hf) rfl hl (Nat.le_of_ble_eq_true rfl) dX1_readRow_77 rfl (fun r8 w8 H locs hf hR => ?_)
  refine lv_if_eq (tgt := 126) hx hb dX1_readRow_80 (by decide) (fun c9 => ?_) (fun c9 => ?_)
  · replace hf := hf.1 c9
    refine lv_iload_n hx hb dX1_readRow_126 rfl (lv_at hl 2 rfl) ?_
    refine lv_if_eq (tgt := 164) hx hb dX1_readRow_127 (by decide) (fun c10 => ?_) (fun c10 => ?_)
    · replace hf := hf.1 c10
      exact mX1_readRow_J164 X hr hQ hg39 hf hR (lv_sub hl [0, 1, 3] rfl)
    · replace hf := hf.2 c10
      refine lv_iload_n hx hb dX1_readRow_130 rfl (lv_at hl 1 rfl) ?_
      refine lv_if_le (tgt := 164) hx hb dX1_readRow_131 (by decide) (fun c13 => ?_) (fun c13 => ?_)
      · replace hf := hf.1 c13
        exact mX1_readRow_J164 X hr hQ hg39 hf hR (lv_sub hl [0, 1, 3] rfl)
      · replace hf := hf.2 c13
        refine lv_aload_n hx hb dX1_readRow_134 rfl (lv_at hl 0 rfl) ?_
        refine z_getS X hR (zlit hR zf_4) zs_4 (by decide) zfd_X1_15 rfl (r := 2) (by decide +kernel) dX1_readRow_135 ?_
        refine lv_bipush (v := (41 : Int32)) hx hb dX1_readRow_138 (by decide) ?_
        refine z_callVI (fr1 := 0) (b := 2) (As := [.int (41 : Int32)]) (rest := []) X (hr.le (by decide)) hR zy_X10_isSign zq_468 (zlit hR zf_2) (by rw [zs_2]; rfl) rfl (mX10_isSign  hf) rfl hl (Nat.le_of_ble_eq_true rfl) dX1_readRow_140 rfl (fun r14 w14 H locs hf hR => ?_)
        refine lv_if_eq (tgt := 164) hx hb dX1_readRow_143 (by decide) (fun c15 => ?_) (fun c15 => ?_)
        · replace hf := hf.1 c15
          exact mX1_readRow_J164 X hr hQ hg39 hf hR (lv_sub hl [0, 1, 3] rfl)
        · replace hf := hf.2 c15
          refine lv_iinc (v := x1 + (-1 : Int32)) (lv' := [(1, .int (x1 + (-1 : Int32))), (0, .ref (ad 4)), (2, .int x2), (3, .int x3)]) hx hb dX1_readRow_146 hl (k := 1) rfl rfl (by decide) rfl (fun ls hl => ?_)
          refine lv_aload_n hx hb dX1_readRow_149 rfl (lv_at hl 1 rfl) ?_
          refine lv_aload_n hx hb dX1_readRow_150 rfl (lv_at hl 1 rfl) ?_
          refine z_getS X hR (zlit hR zf_4) zs_4 (by decide) zfd_X1_11 rfl (r := 5) (by decide +kernel) dX1_readRow_151 ?_
          refine lv_iload_n hx hb dX1_readRow_154 rfl (lv_at hl 0 rfl) ?_
          obtain ⟨hb16, hf⟩ := hf
          refine z_iald X hR (zlit hR zf_5) zs_5 zl_5 hb16 dX1_readRow_155 ?_
          refine z_callVI (fr1 := 7) (b := 4) (As := [.int (gI w14 5 (x1 + (-1 : Int32)).toNatClampNeg)]) (rest := []) X (hr.le (by decide)) hR zy_X1_readTimes zq_474 (zlit hR zf_4) (by rw [zs_4]; rfl) rfl (mX1_readTimes  hf) rfl hl (Nat.le_of_ble_eq_true rfl) dX1_readRow_156 rfl (fun r17 w17 H locs hf hR => ?_)
          refine lv_if_ne (tgt := 175) hx hb dX1_readRow_159 (by decide) (fun c18 => ?_) (fun c18 => ?_)
          · replace hf := hf.1 c18
            refine lv_iinc (v := x3 + (1 : Int32)) (lv' := [(3, .int (x3 + (1 : Int32))), (1, .int (x1 + (-1 : Int32))), (0, .ref (ad 4)), (2, .int x2)]) hx hb dX1_readRow_175 hl (k := 3) rfl rfl (by decide) rfl (fun ls hl => ?_)
            refine lv_goto (tgt := 39) hx hb dX1_readRow_178 (by decide) ?_
            exact hg39 (x1 + (-1 : Int32)) x2 (x3 + (1 : Int32)) w17 _ _ _ hf hR (lv_sub hl [2, 1, 3, 0] rfl)
          · replace hf := hf.2 c18
            refine lv_iconst (v := (0 : Int32)) hx hb dX1_readRow_162 (by decide) ?_
            exact hQ _ _ _ _ _ _ zb01_0 hf hR dX1_readRow_163
  · replace hf := hf.2 c9
    refine lv_iload_n hx hb dX1_readRow_83 rfl (lv_at hl 1 rfl) ?_
    refine lv_if_lt (tgt := 92) hx hb dX1_readRow_84 (by decide) (fun c19 => ?_) (fun c19 => ?_)
    · replace hf := hf.1 c19
      exact mX1_readRow_J92 X hr hQ  hf hR (lv_sub hl [0] rfl)
    · replace hf := hf.2 c19
      refine lv_iload_n hx hb dX1_readRow_87 rfl (lv_at hl 1 rfl) ?_
      refine lv_iconst (v := (3 : Int32)) hx hb dX1_readRow_88 (by decide) ?_
      refine lv_icmp_lt (tgt := 101) hx hb dX1_readRow_89 (by decide) (fun c21 => ?_) (fun c21 => ?_)
      · replace hf := hf.1 c21
        refine lv_aload_n hx hb dX1_readRow_101 rfl (lv_at hl 0 rfl) ?_
        refine z_getS X hR (zlit hR zf_4) zs_4 (by decide) zfd_X1_11 rfl (r := 5) (by decide +kernel) dX1_readRow_102 ?_
        refine lv_iload_n hx hb dX1_readRow_105 rfl (lv_at hl 1 rfl) ?_
        refine lv_aload_n hx hb dX1_readRow_106 rfl (lv_at hl 0 rfl) ?_
        refine z_getI X hR (zlit hR zf_4) zs_4 (by decide) zfd_X1_130 rfl dX1_readRow_107 ?_
        obtain ⟨hb22, hf⟩ := hf
        refine z_iast X hR (zlit hR zf_5) zs_5 zl_5 hb22 dX1_readRow_110 (fun H locs hR => ?_)
        obtain ⟨w23, hw23⟩ : ∃ z : zW, z = sI w8 5 x1.toNatClampNeg (gI w8 4 5) := ⟨_, rfl⟩
        rw [← hw23] at hR
        replace hf := hf w23 hw23
        refine lv_iinc (v := x1 + (1 : Int32)) (lv' := [(1, .int (x1 + (1 : Int32))), (0, .ref (ad 4)), (2, .int x2), (3, .int x3)]) hx hb dX1_readRow_111 hl (k := 1) rfl rfl (by decide) rfl (fun ls hl => ?_)
        refine lv_iconst (v := (0 : Int32)) hx hb dX1_readRow_114 (by decide) ?_
        refine lv_istore_n (lv' := [(2, .int (0 : Int32)), (1, .int (x1 + (1 : Int32))), (0, .ref (ad 4)), (3, .int x3)]) hx hb dX1_readRow_115 rfl hl (by decide) rfl (fun ls hl => ?_)
        refine lv_aload_n hx hb dX1_readRow_116 rfl (lv_at hl 2 rfl) ?_
        refine z_getS X hR (zlit hR zf_4) zs_4 (by decide) zfd_X1_15 rfl (r := 2) (by decide +kernel) dX1_readRow_117 ?_
        refine z_callVV (fr1 := 5) (b := 2) (As := []) (rest := []) X (hr.le (by decide)) hR zy_X10_next zq_435 (zlit hR zf_2) (by rw [zs_2]; rfl) rfl (mX10_next  hf) rfl hl (Nat.le_of_ble_eq_true rfl) dX1_readRow_120 rfl (fun w24 H locs hf hR => ?_)
        refine lv_goto (tgt := 175) hx hb dX1_readRow_123 (by decide) ?_
        refine lv_iinc (v := x3 + (1 : Int32)) (lv' := [(3, .int (x3 + (1 : Int32))), (2, .int (0 : Int32)), (1, .int (x1 + (1 : Int32))), (0, .ref (ad 4))]) hx hb dX1_readRow_175 hl (k := 3) rfl rfl (by decide) rfl (fun ls hl => ?_)
        refine lv_goto (tgt := 39) hx hb dX1_readRow_178 (by decide) ?_
        exact hg39 (x1 + (1 : Int32)) (0 : Int32) (x3 + (1 : Int32)) w24 _ _ _ hf hR (lv_sub hl [3, 2, 1, 0] rfl)
      · replace hf := hf.2 c21
        exact mX1_readRow_J92 X hr hQ  hf hR (lv_sub hl [0] rfl)
def fX1_readRow_L39 (k : Int32 → zW → Prop) : Nat → Int32 → Int32 → Int32 → zW → Prop
  | 0 => fun _ _ _ _ => False
  | n + 1 => fun x1 x2 x3 w =>
    (((1000 : Int32) < x3 →
      fX10_wrong (1 : Int32) w (fun r6 w6 =>
      zb01 r6 ∧ k r6 w6)) ∧
     (¬ (1000 : Int32) < x3 →
      ((x2 = 0 →
        fX1_readRow_J71 k (fX1_readRow_L39 k n) x1 x2 x3 w) ∧
       (¬ x2 = 0 →
        ((¬ x1 = 0 →
          fX1_readRow_J71 k (fX1_readRow_L39 k n) x1 x2 x3 w) ∧
         (x1 = 0 →
          fX10_isSign (59 : Int32) w (fun r26 w26 =>
          ((r26 = 0 →
            fX1_readRow_J71 k (fX1_readRow_L39 k n) x1 x2 x3 w26) ∧
           (¬ r26 = 0 →
            fX1_endRow  w26 (fun r28 w28 =>
            zb01 r28 ∧ k r28 w28))))))))))
set_option maxHeartbeats 4000000 in
set_option maxRecDepth 100000 in
theorem mX1_readRow_L39 {k : Int32 → zW → Prop} (X : zCx p s m args meth c cX1_readRow 4 RX1 (some .boolean)) (hr : zRm R 8 cells slots) (hQ : zRetZ p l e R s m args below meth c cells slots Q D dA true ad0 al0 ad al cX1_readRow k)  : ∀ (n : Nat) (x1 : Int32) (x2 : Int32) (x3 : Int32) (w : zW) (H : Heap) (locs : List Loc) (ls : Array Slot), fX1_readRow_L39 k n x1 x2 x3 w → zSt D dA true ad0 al0 ad al w s H locs → lv_has ls 4 [(0, .ref (ad 4)), (1, .int x1), (2, .int x2), (3, .int x3)] → W p l e R s m args below meth c H locs cells slots Q (F0 m 39 ls []) := by
  intro n
  induction n with
  | zero => exact fun _ _ _ _ _ _ _ hf => hf.elim
  | succ n ih =>
    intro x1 x2 x3 w H locs ls hf hR hl
    have hx := X.1
    have hb := X.2.1
    have hml := X.2.2.1
    have hown := X.2.2.2.1
    have hts := X.2.2.2.2.1
    rw [fX1_readRow_L39] at hf
    refine lv_iload_n hx hb dX1_readRow_39 rfl (lv_at hl 3 rfl) ?_
    refine lv_sipush (v := (1000 : Int32)) hx hb dX1_readRow_40 (by decide) ?_
    refine lv_icmp_gt (tgt := 181) hx hb dX1_readRow_43 (by decide) (fun c5 => ?_) (fun c5 => ?_)
    · replace hf := hf.1 c5
      refine lv_aload_n hx hb dX1_readRow_181 rfl (lv_at hl 0 rfl) ?_
      refine z_getS X hR (zlit hR zf_4) zs_4 (by decide) zfd_X1_15 rfl (r := 2) (by decide +kernel) dX1_readRow_182 ?_
      refine lv_iconst (v := (1 : Int32)) hx hb dX1_readRow_185 (by decide) ?_
      refine z_callVI (fr1 := 0) (b := 2) (As := [.int (1 : Int32)]) (rest := []) X (hr.le (by decide)) hR zy_X10_wrong zq_431 (zlit hR zf_2) (by rw [zs_2]; rfl) rfl (mX10_wrong  hf) rfl hl (Nat.le_of_ble_eq_true rfl) dX1_readRow_186 rfl (fun r6 w6 H locs hf hR => ?_)
      obtain ⟨h01, hf⟩ := hf
      exact hQ _ _ _ _ _ _ h01 hf hR dX1_readRow_189
    · replace hf := hf.2 c5
      refine lv_iload_n hx hb dX1_readRow_46 rfl (lv_at hl 2 rfl) ?_
      refine lv_if_eq (tgt := 71) hx hb dX1_readRow_47 (by decide) (fun c7 => ?_) (fun c7 => ?_)
      · replace hf := hf.1 c7
        exact mX1_readRow_J71 X hr hQ ih hf hR (lv_sub hl [0, 1, 2, 3] rfl)
      · replace hf := hf.2 c7
        refine lv_iload_n hx hb dX1_readRow_50 rfl (lv_at hl 1 rfl) ?_
        refine lv_if_ne (tgt := 71) hx hb dX1_readRow_51 (by decide) (fun c25 => ?_) (fun c25 => ?_)
        · replace hf := hf.1 c25
          exact mX1_readRow_J71 X hr hQ ih hf hR (lv_sub hl [0, 1, 2, 3] rfl)
        · replace hf := hf.2 c25
          refine lv_aload_n hx hb dX1_readRow_54 rfl (lv_at hl 0 rfl) ?_
          refine z_getS X hR (zlit hR zf_4) zs_4 (by decide) zfd_X1_15 rfl (r := 2) (by decide +kernel) dX1_readRow_55 ?_
          refine lv_bipush (v := (59 : Int32)) hx hb dX1_readRow_58 (by decide) ?_
          refine z_callVI (fr1 := 0) (b := 2) (As := [.int (59 : Int32)]) (rest := []) X (hr.le (by decide)) hR zy_X10_isSign zq_468 (zlit hR zf_2) (by rw [zs_2]; rfl) rfl (mX10_isSign  hf) rfl hl (Nat.le_of_ble_eq_true rfl) dX1_readRow_60 rfl (fun r26 w26 H locs hf hR => ?_)
          refine lv_if_eq (tgt := 71) hx hb dX1_readRow_63 (by decide) (fun c27 => ?_) (fun c27 => ?_)
          · replace hf := hf.1 c27
            exact mX1_readRow_J71 X hr hQ ih hf hR (lv_sub hl [0, 1, 2, 3] rfl)
          · replace hf := hf.2 c27
            refine lv_aload_n hx hb dX1_readRow_66 rfl (lv_at hl 0 rfl) ?_
            refine z_callVI (fr1 := 6) (b := 4) (As := []) (rest := []) X (hr.le (by decide)) hR zy_X1_endRow zq_469 (zlit hR zf_4) (by rw [zs_4]; rfl) rfl (mX1_endRow  hf) rfl hl (Nat.le_of_ble_eq_true rfl) dX1_readRow_67 rfl (fun r28 w28 H locs hf hR => ?_)
            obtain ⟨h01, hf⟩ := hf
            exact hQ _ _ _ _ _ _ h01 hf hR dX1_readRow_70
def fX1_readRow (w : zW) (k : Int32 → zW → Prop) : Prop :=
  ¬ gR w 4 3 = 0 ∧
  (((gI w (gR w 4 3) 7) < (8 : Int32) →
    fX10_next  w (fun w3 =>
    ∀ w4 : zW, w4 = sI w3 4 5 (0 : Int32) →
    ∃ n9, fX1_readRow_L39 k n9 (0 : Int32) (0 : Int32) (0 : Int32) w4)) ∧
   (¬ (gI w (gR w 4 3) 7) < (8 : Int32) →
    fX10_wrong (5 : Int32) w (fun r29 w29 =>
    zb01 r29 ∧ k r29 w29)))
set_option maxHeartbeats 4000000 in
set_option maxRecDepth 100000 in
theorem mX1_readRow {l : Launch} {D : va_G} {dA : Nat → ClassId} {ad : Nat → Nat} {al : Nat → Prop} {w : zW} {k : Int32 → zW → Prop}   (hf : fX1_readRow w k) : zmetI l yX1_readRow cX1_readRow 4 (some .boolean) 8 [.ref (ad 4)] D dA true ad al w k := by
  refine zmetZ_of (by decide) (Nat.le_of_ble_eq_true rfl) ?_
  intro p e R s m below meth c Q H ls args locs cells slots X hr hQ hR hl
  have hx := X.1
  have hb := X.2.1
  have hml := X.2.2.1
  have hown := X.2.2.2.1
  have hts := X.2.2.2.2.1
  unfold fX1_readRow at hf
  have hl : lv_has ls 4 [(0, .ref (ad 4))] := hl
  refine lv_aload_n hx hb dX1_readRow_0 rfl (lv_at hl 0 rfl) ?_
  refine z_getR X hR (zlit hR zf_4) zs_4 (by decide) zfd_X1_28 rfl dX1_readRow_1 ?_
  obtain ⟨hn10, hf⟩ := hf
  have hn1 : al (gR w 4 3) ∧ zsh (gR w 4 3) = 0 := zwt_of hR (zlit hR zf_4) zs_4 rfl hn10 (zdc_of zs_4 rfl)
  rw [zrf_pos hn10]
  refine z_getI X hR hn1.1 hn1.2 (by decide) zfd_X1_121 rfl dX1_readRow_4 ?_
  refine lv_bipush (v := (8 : Int32)) hx hb dX1_readRow_7 (by decide) ?_
  refine lv_icmp_lt (tgt := 21) hx hb dX1_readRow_9 (by decide) (fun c2 => ?_) (fun c2 => ?_)
  · replace hf := hf.1 c2
    refine lv_aload_n hx hb dX1_readRow_21 rfl (lv_at hl 0 rfl) ?_
    refine z_getS X hR (zlit hR zf_4) zs_4 (by decide) zfd_X1_15 rfl (r := 2) (by decide +kernel) dX1_readRow_22 ?_
    refine z_callVV (fr1 := 5) (b := 2) (As := []) (rest := []) X (hr.le (by decide)) hR zy_X10_next zq_435 (zlit hR zf_2) (by rw [zs_2]; rfl) rfl (mX10_next  hf) rfl hl (Nat.le_of_ble_eq_true rfl) dX1_readRow_25 rfl (fun w3 H locs hf hR => ?_)
    refine lv_aload_n hx hb dX1_readRow_28 rfl (lv_at hl 0 rfl) ?_
    refine lv_iconst (v := (0 : Int32)) hx hb dX1_readRow_29 (by decide) ?_
    refine z_putI X hR (zlit hR zf_4) zs_4 (by decide) zfp_X1_130 rfl dX1_readRow_30 (fun H locs hR => ?_)
    obtain ⟨w4, hw4⟩ : ∃ z : zW, z = sI w3 4 5 (0 : Int32) := ⟨_, rfl⟩
    rw [← hw4] at hR
    replace hf := hf w4 hw4
    refine lv_iconst (v := (0 : Int32)) hx hb dX1_readRow_33 (by decide) ?_
    refine lv_istore_n (lv' := [(1, .int (0 : Int32)), (0, .ref (ad 4))]) hx hb dX1_readRow_34 rfl hl (by decide) rfl (fun ls hl => ?_)
    refine lv_iconst (v := (0 : Int32)) hx hb dX1_readRow_35 (by decide) ?_
    refine lv_istore_n (lv' := [(2, .int (0 : Int32)), (1, .int (0 : Int32)), (0, .ref (ad 4))]) hx hb dX1_readRow_36 rfl hl (by decide) rfl (fun ls hl => ?_)
    refine lv_iconst (v := (0 : Int32)) hx hb dX1_readRow_37 (by decide) ?_
    refine lv_istore_n (lv' := [(3, .int (0 : Int32)), (2, .int (0 : Int32)), (1, .int (0 : Int32)), (0, .ref (ad 4))]) hx hb dX1_readRow_38 rfl hl (by decide) rfl (fun ls hl => ?_)
    obtain ⟨n9, hf⟩ := hf
    exact mX1_readRow_L39 X hr hQ  n9 (0 : Int32) (0 : Int32) (0 : Int32) w4 _ _ _ hf hR (lv_sub hl [3, 2, 1, 0] rfl)
  · replace hf := hf.2 c2
    refine lv_aload_n hx hb dX1_readRow_12 rfl (lv_at hl 0 rfl) ?_
    refine z_getS X hR (zlit hR zf_4) zs_4 (by decide) zfd_X1_15 rfl (r := 2) (by decide +kernel) dX1_readRow_13 ?_
    refine lv_iconst (v := (5 : Int32)) hx hb dX1_readRow_16 (by decide) ?_
    refine z_callVI (fr1 := 0) (b := 2) (As := [.int (5 : Int32)]) (rest := []) X (hr.le (by decide)) hR zy_X10_wrong zq_431 (zlit hR zf_2) (by rw [zs_2]; rfl) rfl (mX10_wrong  hf) rfl hl (Nat.le_of_ble_eq_true rfl) dX1_readRow_17 rfl (fun r29 w29 H locs hf hR => ?_)
    obtain ⟨h01, hf⟩ := hf
    exact hQ _ _ _ _ _ _ h01 hf hR dX1_readRow_20
/-! X7_read -/
def fX7_read (w : zW) (k : Int32 → zW → Prop) : Prop :=
  ∀ w1 : zW, w1 = sI w 6 3 (0 : Int32) →
  fX7_readAllT (0 : Int32) w1 (fun r2 w2 =>
  zb01 r2 ∧ k r2 w2)
set_option maxHeartbeats 4000000 in
set_option maxRecDepth 100000 in
theorem mX7_read {l : Launch} {D : va_G} {dA : Nat → ClassId} {ad : Nat → Nat} {al : Nat → Prop} {w : zW} {k : Int32 → zW → Prop}   (hf : fX7_read w k) : zmetI l yX7_read cX7_read 1 (some .boolean) 141 [.ref (ad 6)] D dA true ad al w k := by
  refine zmetZ_of (by decide) (Nat.le_of_ble_eq_true rfl) ?_
  intro p e R s m below meth c Q H ls args locs cells slots X hr hQ hR hl
  have hx := X.1
  have hb := X.2.1
  have hml := X.2.2.1
  have hown := X.2.2.2.1
  have hts := X.2.2.2.2.1
  unfold fX7_read at hf
  have hl : lv_has ls 1 [(0, .ref (ad 6))] := hl
  refine lv_aload_n hx hb dX7_read_0 rfl (lv_at hl 0 rfl) ?_
  refine lv_iconst (v := (0 : Int32)) hx hb dX7_read_1 (by decide) ?_
  refine z_putI X hR (zlit hR zf_6) zs_6 (by decide) zfp_X7_22 rfl dX7_read_2 (fun H locs hR => ?_)
  obtain ⟨w1, hw1⟩ : ∃ z : zW, z = sI w 6 3 (0 : Int32) := ⟨_, rfl⟩
  rw [← hw1] at hR
  replace hf := hf w1 hw1
  refine lv_aload_n hx hb dX7_read_5 rfl (lv_at hl 0 rfl) ?_
  refine lv_iconst (v := (0 : Int32)) hx hb dX7_read_6 (by decide) ?_
  refine z_callVI (fr1 := 140) (b := 6) (As := [.int (0 : Int32)]) (rest := []) X (hr.le (by decide)) hR zy_X7_readAll zq_507 (zlit hR zf_6) (by rw [zs_6]; rfl) rfl (mX7_readAllT  hf) rfl hl (Nat.le_of_ble_eq_true rfl) dX7_read_7 rfl (fun r2 w2 H locs hf hR => ?_)
  obtain ⟨h01, hf⟩ := hf
  exact hQ _ _ _ _ _ _ h01 hf hR dX7_read_10
/-! X1_readRules -/
def fX1_readRules (w : zW) (k : Int32 → zW → Prop) : Prop :=
  (((gI w 4 4) = 0 →
    ∀ w2 : zW, w2 = sI w 4 4 (1 : Int32) →
    fX10_next  w2 (fun w3 =>
    fX7_read  w3 (fun r4 w4 =>
    ((r4 = 0 →
      k (0 : Int32) w4) ∧
     (¬ r4 = 0 →
      fX10_takeEnd  w4 (fun r6 w6 =>
      ∀ v7 : Int32, v7 = (if r6 = 0 then (0 : Int32) else (1 : Int32)) →
      zb01 v7 ∧ k v7 w6)))))) ∧
   (¬ (gI w 4 4) = 0 →
    fX10_wrong (3 : Int32) w (fun r8 w8 =>
    zb01 r8 ∧ k r8 w8)))
set_option maxHeartbeats 4000000 in
set_option maxRecDepth 100000 in
theorem mX1_readRules {l : Launch} {D : va_G} {dA : Nat → ClassId} {ad : Nat → Nat} {al : Nat → Prop} {w : zW} {k : Int32 → zW → Prop}   (hf : fX1_readRules w k) : zmetI l yX1_readRules cX1_readRules 1 (some .boolean) 142 [.ref (ad 4)] D dA true ad al w k := by
  refine zmetZ_of (by decide) (Nat.le_of_ble_eq_true rfl) ?_
  intro p e R s m below meth c Q H ls args locs cells slots X hr hQ hR hl
  have hx := X.1
  have hb := X.2.1
  have hml := X.2.2.1
  have hown := X.2.2.2.1
  have hts := X.2.2.2.2.1
  unfold fX1_readRules at hf
  have hl : lv_has ls 1 [(0, .ref (ad 4))] := hl
  refine lv_aload_n hx hb dX1_readRules_0 rfl (lv_at hl 0 rfl) ?_
  refine z_getI X hR (zlit hR zf_4) zs_4 (by decide) zfd_X1_38 rfl dX1_readRules_1 ?_
  refine lv_if_eq (tgt := 16) hx hb dX1_readRules_4 (by decide) (fun c1 => ?_) (fun c1 => ?_)
  · replace hf := hf.1 c1
    refine lv_aload_n hx hb dX1_readRules_16 rfl (lv_at hl 0 rfl) ?_
    refine lv_iconst (v := (1 : Int32)) hx hb dX1_readRules_17 (by decide) ?_
    refine z_putZ X hR (zlit hR zf_4) zs_4 (by decide) zfp_X1_38 rfl zb01_1 dX1_readRules_18 (fun H locs hR => ?_)
    obtain ⟨w2, hw2⟩ : ∃ z : zW, z = sI w 4 4 (1 : Int32) := ⟨_, rfl⟩
    rw [← hw2] at hR
    replace hf := hf w2 hw2
    refine lv_aload_n hx hb dX1_readRules_21 rfl (lv_at hl 0 rfl) ?_
    refine z_getS X hR (zlit hR zf_4) zs_4 (by decide) zfd_X1_15 rfl (r := 2) (by decide +kernel) dX1_readRules_22 ?_
    refine z_callVV (fr1 := 5) (b := 2) (As := []) (rest := []) X (hr.le (by decide)) hR zy_X10_next zq_435 (zlit hR zf_2) (by rw [zs_2]; rfl) rfl (mX10_next  hf) rfl hl (Nat.le_of_ble_eq_true rfl) dX1_readRules_25 rfl (fun w3 H locs hf hR => ?_)
    refine lv_aload_n hx hb dX1_readRules_28 rfl (lv_at hl 0 rfl) ?_
    refine z_getS X hR (zlit hR zf_4) zs_4 (by decide) zfd_X1_24 rfl (r := 6) (by decide +kernel) dX1_readRules_29 ?_
    refine z_callVI (fr1 := 141) (b := 6) (As := []) (rest := []) X (hr.le (by decide)) hR zy_X7_read zq_503 (zlit hR zf_6) (by rw [zs_6]; rfl) rfl (mX7_read  hf) rfl hl (Nat.le_of_ble_eq_true rfl) dX1_readRules_32 rfl (fun r4 w4 H locs hf hR => ?_)
    refine lv_if_eq (tgt := 52) hx hb dX1_readRules_35 (by decide) (fun c5 => ?_) (fun c5 => ?_)
    · replace hf := hf.1 c5
      refine lv_iconst (v := (0 : Int32)) hx hb dX1_readRules_52 (by decide) ?_
      exact hQ _ _ _ _ _ _ zb01_0 hf hR dX1_readRules_53
    · replace hf := hf.2 c5
      refine lv_aload_n hx hb dX1_readRules_38 rfl (lv_at hl 0 rfl) ?_
      refine z_getS X hR (zlit hR zf_4) zs_4 (by decide) zfd_X1_15 rfl (r := 2) (by decide +kernel) dX1_readRules_39 ?_
      refine z_callVI (fr1 := 6) (b := 2) (As := []) (rest := []) X (hr.le (by decide)) hR zy_X10_takeEnd zq_444 (zlit hR zf_2) (by rw [zs_2]; rfl) rfl (mX10_takeEnd  hf) rfl hl (Nat.le_of_ble_eq_true rfl) dX1_readRules_42 rfl (fun r6 w6 H locs hf hR => ?_)
      have kJ7 : ∀ v7 : Int32, v7 = (if r6 = 0 then (0 : Int32) else (1 : Int32)) → W p l e R s m args below meth c H locs cells slots Q (F0 m 53 ls (.int v7 :: [])) := by
        intro v7 hv7
        replace hf := hf v7 hv7
        obtain ⟨h01, hf⟩ := hf
        exact hQ _ _ _ _ _ _ h01 hf hR dX1_readRules_53
      refine lv_if_eq (tgt := 52) hx hb dX1_readRules_45 (by decide) (fun c7 => ?_) (fun c7 => ?_)
      · refine lv_iconst (v := (0 : Int32)) hx hb dX1_readRules_52 (by decide) ?_
        exact kJ7 _ (if_pos c7).symm
      · refine lv_iconst (v := (1 : Int32)) hx hb dX1_readRules_48 (by decide) ?_
        refine lv_goto (tgt := 53) hx hb dX1_readRules_49 (by decide) ?_
        exact kJ7 _ (if_neg c7).symm
  · replace hf := hf.2 c1
    refine lv_aload_n hx hb dX1_readRules_7 rfl (lv_at hl 0 rfl) ?_
    refine z_getS X hR (zlit hR zf_4) zs_4 (by decide) zfd_X1_15 rfl (r := 2) (by decide +kernel) dX1_readRules_8 ?_
    refine lv_iconst (v := (3 : Int32)) hx hb dX1_readRules_11 (by decide) ?_
    refine z_callVI (fr1 := 0) (b := 2) (As := [.int (3 : Int32)]) (rest := []) X (hr.le (by decide)) hR zy_X10_wrong zq_431 (zlit hR zf_2) (by rw [zs_2]; rfl) rfl (mX10_wrong  hf) rfl hl (Nat.le_of_ble_eq_true rfl) dX1_readRules_12 rfl (fun r8 w8 H locs hf hR => ?_)
    obtain ⟨h01, hf⟩ := hf
    exact hQ _ _ _ _ _ _ h01 hf hR dX1_readRules_15
/-! X1_readWord -/
def fX1_readWord_J126 (k : Int32 → zW → Prop)  (w : zW) : Prop :=
  fX10_wrong (1 : Int32) w (fun r14 w14 =>
  zb01 r14 ∧ k r14 w14)
set_option maxHeartbeats 4000000 in
set_option maxRecDepth 100000 in
theorem mX1_readWord_J126 {k : Int32 → zW → Prop} (X : zCx p s m args meth c cX1_readWord 1 RX1 (some .boolean)) (hr : zRm R 7 cells slots) (hQ : zRetZ p l e R s m args below meth c cells slots Q D dA true ad0 al0 ad al cX1_readWord k)   {w : zW} {H : Heap} {locs : List Loc} {ls : Array Slot} (hf : fX1_readWord_J126 k  w) (hR : zSt D dA true ad0 al0 ad al w s H locs) (hl : lv_has ls 1 [(0, .ref (ad 4))]) : W p l e R s m args below meth c H locs cells slots Q (F0 m 126 ls []) := by
  have hx := X.1
  have hb := X.2.1
  have hml := X.2.2.1
  have hown := X.2.2.2.1
  have hts := X.2.2.2.2.1
  unfold fX1_readWord_J126 at hf
  refine lv_aload_n hx hb dX1_readWord_126 rfl (lv_at hl 0 rfl) ?_
  refine z_getS X hR (zlit hR zf_4) zs_4 (by decide) zfd_X1_15 rfl (r := 2) (by decide +kernel) dX1_readWord_127 ?_
  refine lv_iconst (v := (1 : Int32)) hx hb dX1_readWord_130 (by decide) ?_
  refine z_callVI (fr1 := 0) (b := 2) (As := [.int (1 : Int32)]) (rest := []) X (hr.le (by decide)) hR zy_X10_wrong zq_431 (zlit hR zf_2) (by rw [zs_2]; rfl) rfl (mX10_wrong  hf) rfl hl (Nat.le_of_ble_eq_true rfl) dX1_readWord_131 rfl (fun r14 w14 H locs hf hR => ?_)
  obtain ⟨h01, hf⟩ := hf
  exact hQ _ _ _ _ _ _ h01 hf hR dX1_readWord_134
def fX1_readWord (w : zW) (k : Int32 → zW → Prop) : Prop :=
  ¬ gR w 4 3 = 0 ∧
  (((gI w (gR w 4 3) 0) < (4 : Int32) →
    fX10_next  w (fun w3 =>
    fX10_isName  w3 (fun r4 w4 =>
    ((¬ r4 = 0 →
      ¬ gR w4 4 3 = 0 ∧
      fX0_wordNamed (gR w4 4 3) (gL w4 2 7) w4 (fun r7 w7 =>
      ((r7 = (-1 : Int32) →
        ¬ gR w7 4 3 = 0 ∧
        vp_in (gI w7 (gR w7 4 3) 0) 4 ∧ 
        ∀ w11 : zW, w11 = sL w7 ((gR w7 4 3) + 1) (gI w7 (gR w7 4 3) 0).toNatClampNeg (gL w7 2 7) →
        fX10_next  w11 (fun w12 =>
        (((gI w12 2 5) < (10 : Int32) →
          fX1_readWord_J126 k  w12) ∧
         (¬ (gI w12 2 5) < (10 : Int32) →
          (((gI w12 2 5) ≤ (13 : Int32) →
            ¬ gR w12 4 3 = 0 ∧
            vp_in (gI w12 (gR w12 4 3) 0) 4 ∧ 
            ∀ w18 : zW, w18 = sI w12 ((gR w12 4 3) + 2) (gI w12 (gR w12 4 3) 0).toNatClampNeg ((gI w12 2 5) - (10 : Int32)) →
            ¬ gR w18 4 3 = 0 ∧
            ∀ w20 : zW, w20 = sI w18 (gR w18 4 3) 0 ((gI w18 (gR w18 4 3) 0) + (1 : Int32)) →
            fX10_next  w20 (fun w21 =>
            fX10_takeEnd  w21 (fun r22 w22 =>
            zb01 r22 ∧ k r22 w22))) ∧
           (¬ (gI w12 2 5) ≤ (13 : Int32) →
            fX1_readWord_J126 k  w12)))))) ∧
       (¬ r7 = (-1 : Int32) →
        fX10_wrong (3 : Int32) w7 (fun r23 w23 =>
        zb01 r23 ∧ k r23 w23))))) ∧
     (r4 = 0 →
      fX10_wrong (1 : Int32) w4 (fun r24 w24 =>
      zb01 r24 ∧ k r24 w24)))))) ∧
   (¬ (gI w (gR w 4 3) 0) < (4 : Int32) →
    fX10_wrong (5 : Int32) w (fun r25 w25 =>
    zb01 r25 ∧ k r25 w25)))
set_option maxHeartbeats 4000000 in
set_option maxRecDepth 100000 in
theorem mX1_readWord {l : Launch} {D : va_G} {dA : Nat → ClassId} {ad : Nat → Nat} {al : Nat → Prop} {w : zW} {k : Int32 → zW → Prop}   (hf : fX1_readWord w k) : zmetI l yX1_readWord cX1_readWord 1 (some .boolean) 7 [.ref (ad 4)] D dA true ad al w k := by
  refine zmetZ_of (by decide) (Nat.le_of_ble_eq_true rfl) ?_
  intro p e R s m below meth c Q H ls args locs cells slots X hr hQ hR hl
  have hx := X.1
  have hb := X.2.1
  have hml := X.2.2.1
  have hown := X.2.2.2.1
  have hts := X.2.2.2.2.1
  unfold fX1_readWord at hf
  have hl : lv_has ls 1 [(0, .ref (ad 4))] := hl
  refine lv_aload_n hx hb dX1_readWord_0 rfl (lv_at hl 0 rfl) ?_
  refine z_getR X hR (zlit hR zf_4) zs_4 (by decide) zfd_X1_28 rfl dX1_readWord_1 ?_
  obtain ⟨hn10, hf⟩ := hf
  have hn1 : al (gR w 4 3) ∧ zsh (gR w 4 3) = 0 := zwt_of hR (zlit hR zf_4) zs_4 rfl hn10 (zdc_of zs_4 rfl)
  rw [zrf_pos hn10]
  refine z_getI X hR hn1.1 hn1.2 (by decide) zfd_X1_84 rfl dX1_readWord_4 ?_
  refine lv_iconst (v := (4 : Int32)) hx hb dX1_readWord_7 (by decide) ?_
  refine lv_icmp_lt (tgt := 20) hx hb dX1_readWord_8 (by decide) (fun c2 => ?_) (fun c2 => ?_)
  · replace hf := hf.1 c2
    refine lv_aload_n hx hb dX1_readWord_20 rfl (lv_at hl 0 rfl) ?_
    refine z_getS X hR (zlit hR zf_4) zs_4 (by decide) zfd_X1_15 rfl (r := 2) (by decide +kernel) dX1_readWord_21 ?_
    refine z_callVV (fr1 := 5) (b := 2) (As := []) (rest := []) X (hr.le (by decide)) hR zy_X10_next zq_435 (zlit hR zf_2) (by rw [zs_2]; rfl) rfl (mX10_next  hf) rfl hl (Nat.le_of_ble_eq_true rfl) dX1_readWord_24 rfl (fun w3 H locs hf hR => ?_)
    refine lv_aload_n hx hb dX1_readWord_27 rfl (lv_at hl 0 rfl) ?_
    refine z_getS X hR (zlit hR zf_4) zs_4 (by decide) zfd_X1_15 rfl (r := 2) (by decide +kernel) dX1_readWord_28 ?_
    refine z_callVI (fr1 := 0) (b := 2) (As := []) (rest := []) X (hr.le (by decide)) hR zy_X10_isName zq_436 (zlit hR zf_2) (by rw [zs_2]; rfl) rfl (mX10_isName  hf) rfl hl (Nat.le_of_ble_eq_true rfl) dX1_readWord_31 rfl (fun r4 w4 H locs hf hR => ?_)
    refine lv_if_ne (tgt := 46) hx hb dX1_readWord_34 (by decide) (fun c5 => ?_) (fun c5 => ?_)
    · replace hf := hf.1 c5
      refine lv_aload_n hx hb dX1_readWord_46 rfl (lv_at hl 0 rfl) ?_
      refine z_getR X hR (zlit hR zf_4) zs_4 (by decide) zfd_X1_28 rfl dX1_readWord_47 ?_
      obtain ⟨hn60, hf⟩ := hf
      have hn6 : al (gR w4 4 3) ∧ zsh (gR w4 4 3) = 0 := zwt_of hR (zlit hR zf_4) zs_4 rfl hn60 (zdc_of zs_4 rfl)
      rw [zrf_pos hn60]
      refine lv_aload_n hx hb dX1_readWord_50 rfl (lv_at hl 0 rfl) ?_
      refine z_getS X hR (zlit hR zf_4) zs_4 (by decide) zfd_X1_15 rfl (r := 2) (by decide +kernel) dX1_readWord_51 ?_
      refine z_getL X hR (zlit hR zf_2) zs_2 (by decide) zfd_X1_93 rfl dX1_readWord_54 ?_
      refine z_callVI (fr1 := 0) (b := (gR w4 4 3)) (As := [.long (gL w4 2 7)]) (rest := []) X (hr.le (by decide)) hR zy_X0_wordNamed zq_440 hn6.1 (by rw [hn6.2]; rfl) rfl (mX0_wordNamed ⟨hn6.1, hn6.2⟩ hf) rfl hl (Nat.le_of_ble_eq_true rfl) dX1_readWord_57 rfl (fun r7 w7 H locs hf hR => ?_)
      refine lv_iconst (v := (-1 : Int32)) hx hb dX1_readWord_60 (by decide) ?_
      refine lv_icmp_eq (tgt := 73) hx hb dX1_readWord_61 (by decide) (fun c8 => ?_) (fun c8 => ?_)
      · replace hf := hf.1 c8
        refine lv_aload_n hx hb dX1_readWord_73 rfl (lv_at hl 0 rfl) ?_
        refine z_getR X hR (zlit hR zf_4) zs_4 (by decide) zfd_X1_28 rfl dX1_readWord_74 ?_
        obtain ⟨hn90, hf⟩ := hf
        have hn9 : al (gR w7 4 3) ∧ zsh (gR w7 4 3) = 0 := zwt_of hR (zlit hR zf_4) zs_4 rfl hn90 (zdc_of zs_4 rfl)
        rw [zrf_pos hn90]
        refine z_getS X hR hn9.1 hn9.2 (by decide) zfd_X1_101 rfl (r := (gR w7 4 3) + 1) (zst_0 hn9.2 1 rfl) dX1_readWord_77 ?_
        refine lv_aload_n hx hb dX1_readWord_80 rfl (lv_at hl 0 rfl) ?_
        refine z_getR X hR (zlit hR zf_4) zs_4 (by decide) zfd_X1_28 rfl dX1_readWord_81 ?_
        rw [zrf_pos hn90]
        refine z_getI X hR hn9.1 hn9.2 (by decide) zfd_X1_84 rfl dX1_readWord_84 ?_
        refine lv_aload_n hx hb dX1_readWord_87 rfl (lv_at hl 0 rfl) ?_
        refine z_getS X hR (zlit hR zf_4) zs_4 (by decide) zfd_X1_15 rfl (r := 2) (by decide +kernel) dX1_readWord_88 ?_
        refine z_getL X hR (zlit hR zf_2) zs_2 (by decide) zfd_X1_93 rfl dX1_readWord_91 ?_
        obtain ⟨hb10, hf⟩ := hf
        refine z_last X hR (zoff hR hn9.2 zo_0_1).1 (zoff hR hn9.2 zo_0_1).2.1 (zoff hR hn9.2 zo_0_1).2.2 hb10 dX1_readWord_94 (fun H locs hR => ?_)
        obtain ⟨w11, hw11⟩ : ∃ z : zW, z = sL w7 ((gR w7 4 3) + 1) (gI w7 (gR w7 4 3) 0).toNatClampNeg (gL w7 2 7) := ⟨_, rfl⟩
        rw [← hw11] at hR
        replace hf := hf w11 hw11
        refine lv_aload_n hx hb dX1_readWord_95 rfl (lv_at hl 0 rfl) ?_
        refine z_getS X hR (zlit hR zf_4) zs_4 (by decide) zfd_X1_15 rfl (r := 2) (by decide +kernel) dX1_readWord_96 ?_
        refine z_callVV (fr1 := 5) (b := 2) (As := []) (rest := []) X (hr.le (by decide)) hR zy_X10_next zq_435 (zlit hR zf_2) (by rw [zs_2]; rfl) rfl (mX10_next  hf) rfl hl (Nat.le_of_ble_eq_true rfl) dX1_readWord_99 rfl (fun w12 H locs hf hR => ?_)
        refine lv_aload_n hx hb dX1_readWord_102 rfl (lv_at hl 0 rfl) ?_
        refine z_getS X hR (zlit hR zf_4) zs_4 (by decide) zfd_X1_15 rfl (r := 2) (by decide +kernel) dX1_readWord_103 ?_
        refine z_getI X hR (zlit hR zf_2) zs_2 (by decide) zfd_X1_51 rfl dX1_readWord_106 ?_
        refine lv_bipush (v := (10 : Int32)) hx hb dX1_readWord_109 (by decide) ?_
        refine lv_icmp_lt (tgt := 126) hx hb dX1_readWord_111 (by decide) (fun c13 => ?_) (fun c13 => ?_)
        · replace hf := hf.1 c13
          exact mX1_readWord_J126 X hr hQ  hf hR (lv_sub hl [0] rfl)
        · replace hf := hf.2 c13
          refine lv_aload_n hx hb dX1_readWord_114 rfl (lv_at hl 0 rfl) ?_
          refine z_getS X hR (zlit hR zf_4) zs_4 (by decide) zfd_X1_15 rfl (r := 2) (by decide +kernel) dX1_readWord_115 ?_
          refine z_getI X hR (zlit hR zf_2) zs_2 (by decide) zfd_X1_51 rfl dX1_readWord_118 ?_
          refine lv_bipush (v := (13 : Int32)) hx hb dX1_readWord_121 (by decide) ?_
          refine lv_icmp_le (tgt := 135) hx hb dX1_readWord_123 (by decide) (fun c15 => ?_) (fun c15 => ?_)
          · replace hf := hf.1 c15
            refine lv_aload_n hx hb dX1_readWord_135 rfl (lv_at hl 0 rfl) ?_
            refine z_getR X hR (zlit hR zf_4) zs_4 (by decide) zfd_X1_28 rfl dX1_readWord_136 ?_
            obtain ⟨hn160, hf⟩ := hf
            have hn16 : al (gR w12 4 3) ∧ zsh (gR w12 4 3) = 0 := zwt_of hR (zlit hR zf_4) zs_4 rfl hn160 (zdc_of zs_4 rfl)
            rw [zrf_pos hn160]
            refine z_getS X hR hn16.1 hn16.2 (by decide) zfd_X1_105 rfl (r := (gR w12 4 3) + 2) (zst_0 hn16.2 2 rfl) dX1_readWord_139 ?_
            refine lv_aload_n hx hb dX1_readWord_142 rfl (lv_at hl 0 rfl) ?_
            refine z_getR X hR (zlit hR zf_4) zs_4 (by decide) zfd_X1_28 rfl dX1_readWord_143 ?_
            rw [zrf_pos hn160]
            refine z_getI X hR hn16.1 hn16.2 (by decide) zfd_X1_84 rfl dX1_readWord_146 ?_
            refine lv_aload_n hx hb dX1_readWord_149 rfl (lv_at hl 0 rfl) ?_
            refine z_getS X hR (zlit hR zf_4) zs_4 (by decide) zfd_X1_15 rfl (r := 2) (by decide +kernel) dX1_readWord_150 ?_
            refine z_getI X hR (zlit hR zf_2) zs_2 (by decide) zfd_X1_51 rfl dX1_readWord_153 ?_
            refine lv_bipush (v := (10 : Int32)) hx hb dX1_readWord_156 (by decide) ?_
            refine lv_isub hx hb dX1_readWord_158 ?_
            obtain ⟨hb17, hf⟩ := hf
            refine z_iast X hR (zoff hR hn16.2 zo_0_2).1 (zoff hR hn16.2 zo_0_2).2.1 (zoff hR hn16.2 zo_0_2).2.2 hb17 dX1_readWord_159 (fun H locs hR => ?_)
            obtain ⟨w18, hw18⟩ : ∃ z : zW, z = sI w12 ((gR w12 4 3) + 2) (gI w12 (gR w12 4 3) 0).toNatClampNeg ((gI w12 2 5) - (10 : Int32)) := ⟨_, rfl⟩
            rw [← hw18] at hR
            replace hf := hf w18 hw18
            refine lv_aload_n hx hb dX1_readWord_160 rfl (lv_at hl 0 rfl) ?_
            refine z_getR X hR (zlit hR zf_4) zs_4 (by decide) zfd_X1_28 rfl dX1_readWord_161 ?_
            obtain ⟨hn190, hf⟩ := hf
            have hn19 : al (gR w18 4 3) ∧ zsh (gR w18 4 3) = 0 := zwt_of hR (zlit hR zf_4) zs_4 rfl hn190 (zdc_of zs_4 rfl)
            rw [zrf_pos hn190]
            refine lv_dup hx hb dX1_readWord_164 rfl ?_
            refine z_getI X hR hn19.1 hn19.2 (by decide) zfd_X1_84 rfl dX1_readWord_165 ?_
            refine lv_iconst (v := (1 : Int32)) hx hb dX1_readWord_168 (by decide) ?_
            refine lv_iadd hx hb dX1_readWord_169 ?_
            refine z_putI X hR hn19.1 hn19.2 (by decide) zfp_X1_84 rfl dX1_readWord_170 (fun H locs hR => ?_)
            obtain ⟨w20, hw20⟩ : ∃ z : zW, z = sI w18 (gR w18 4 3) 0 ((gI w18 (gR w18 4 3) 0) + (1 : Int32)) := ⟨_, rfl⟩
            rw [← hw20] at hR
            replace hf := hf w20 hw20
            refine lv_aload_n hx hb dX1_readWord_173 rfl (lv_at hl 0 rfl) ?_
            refine z_getS X hR (zlit hR zf_4) zs_4 (by decide) zfd_X1_15 rfl (r := 2) (by decide +kernel) dX1_readWord_174 ?_
            refine z_callVV (fr1 := 5) (b := 2) (As := []) (rest := []) X (hr.le (by decide)) hR zy_X10_next zq_435 (zlit hR zf_2) (by rw [zs_2]; rfl) rfl (mX10_next  hf) rfl hl (Nat.le_of_ble_eq_true rfl) dX1_readWord_177 rfl (fun w21 H locs hf hR => ?_)
            refine lv_aload_n hx hb dX1_readWord_180 rfl (lv_at hl 0 rfl) ?_
            refine z_getS X hR (zlit hR zf_4) zs_4 (by decide) zfd_X1_15 rfl (r := 2) (by decide +kernel) dX1_readWord_181 ?_
            refine z_callVI (fr1 := 6) (b := 2) (As := []) (rest := []) X (hr.le (by decide)) hR zy_X10_takeEnd zq_444 (zlit hR zf_2) (by rw [zs_2]; rfl) rfl (mX10_takeEnd  hf) rfl hl (Nat.le_of_ble_eq_true rfl) dX1_readWord_184 rfl (fun r22 w22 H locs hf hR => ?_)
            obtain ⟨h01, hf⟩ := hf
            exact hQ _ _ _ _ _ _ h01 hf hR dX1_readWord_187
          · replace hf := hf.2 c15
            exact mX1_readWord_J126 X hr hQ  hf hR (lv_sub hl [0] rfl)
      · replace hf := hf.2 c8
        refine lv_aload_n hx hb dX1_readWord_64 rfl (lv_at hl 0 rfl) ?_
        refine z_getS X hR (zlit hR zf_4) zs_4 (by decide) zfd_X1_15 rfl (r := 2) (by decide +kernel) dX1_readWord_65 ?_
        refine lv_iconst (v := (3 : Int32)) hx hb dX1_readWord_68 (by decide) ?_
        refine z_callVI (fr1 := 0) (b := 2) (As := [.int (3 : Int32)]) (rest := []) X (hr.le (by decide)) hR zy_X10_wrong zq_431 (zlit hR zf_2) (by rw [zs_2]; rfl) rfl (mX10_wrong  hf) rfl hl (Nat.le_of_ble_eq_true rfl) dX1_readWord_69 rfl (fun r23 w23 H locs hf hR => ?_)
        obtain ⟨h01, hf⟩ := hf
        exact hQ _ _ _ _ _ _ h01 hf hR dX1_readWord_72
    · replace hf := hf.2 c5
      refine lv_aload_n hx hb dX1_readWord_37 rfl (lv_at hl 0 rfl) ?_
      refine z_getS X hR (zlit hR zf_4) zs_4 (by decide) zfd_X1_15 rfl (r := 2) (by decide +kernel) dX1_readWord_38 ?_
      refine lv_iconst (v := (1 : Int32)) hx hb dX1_readWord_41 (by decide) ?_
      refine z_callVI (fr1 := 0) (b := 2) (As := [.int (1 : Int32)]) (rest := []) X (hr.le (by decide)) hR zy_X10_wrong zq_431 (zlit hR zf_2) (by rw [zs_2]; rfl) rfl (mX10_wrong  hf) rfl hl (Nat.le_of_ble_eq_true rfl) dX1_readWord_42 rfl (fun r24 w24 H locs hf hR => ?_)
      obtain ⟨h01, hf⟩ := hf
      exact hQ _ _ _ _ _ _ h01 hf hR dX1_readWord_45
  · replace hf := hf.2 c2
    refine lv_aload_n hx hb dX1_readWord_11 rfl (lv_at hl 0 rfl) ?_
    refine z_getS X hR (zlit hR zf_4) zs_4 (by decide) zfd_X1_15 rfl (r := 2) (by decide +kernel) dX1_readWord_12 ?_
    refine lv_iconst (v := (5 : Int32)) hx hb dX1_readWord_15 (by decide) ?_
    refine z_callVI (fr1 := 0) (b := 2) (As := [.int (5 : Int32)]) (rest := []) X (hr.le (by decide)) hR zy_X10_wrong zq_431 (zlit hR zf_2) (by rw [zs_2]; rfl) rfl (mX10_wrong  hf) rfl hl (Nat.le_of_ble_eq_true rfl) dX1_readWord_16 rfl (fun r25 w25 H locs hf hR => ?_)
    obtain ⟨h01, hf⟩ := hf
    exact hQ _ _ _ _ _ _ h01 hf hR dX1_readWord_19
/-! X7_clear -/
def fX7_clear (w : zW) (k : zW → Prop) : Prop :=
  ∀ w1 : zW, w1 = sI w 6 3 (0 : Int32) →
  fX7_addStep (1 : Int32) w1 (fun w2 =>
  k w2)
set_option maxHeartbeats 4000000 in
set_option maxRecDepth 100000 in
theorem mX7_clear {l : Launch} {D : va_G} {dA : Nat → ClassId} {ad : Nat → Nat} {al : Nat → Prop} {w : zW} {k : zW → Prop}   (hf : fX7_clear w k) : zmetV l yX7_clear cX7_clear 1 none 1 [.ref (ad 6)] D dA true ad al w k := by
  refine zmetV_of (by decide) (Nat.le_of_ble_eq_true rfl) ?_
  intro p e R s m below meth c Q H ls args locs cells slots X hr hQ hR hl
  have hx := X.1
  have hb := X.2.1
  have hml := X.2.2.1
  have hown := X.2.2.2.1
  have hts := X.2.2.2.2.1
  unfold fX7_clear at hf
  have hl : lv_has ls 1 [(0, .ref (ad 6))] := hl
  refine lv_aload_n hx hb dX7_clear_0 rfl (lv_at hl 0 rfl) ?_
  refine lv_iconst (v := (0 : Int32)) hx hb dX7_clear_1 (by decide) ?_
  refine z_putI X hR (zlit hR zf_6) zs_6 (by decide) zfp_X7_22 rfl dX7_clear_2 (fun H locs hR => ?_)
  obtain ⟨w1, hw1⟩ : ∃ z : zW, z = sI w 6 3 (0 : Int32) := ⟨_, rfl⟩
  rw [← hw1] at hR
  replace hf := hf w1 hw1
  refine lv_aload_n hx hb dX7_clear_5 rfl (lv_at hl 0 rfl) ?_
  refine lv_iconst (v := (1 : Int32)) hx hb dX7_clear_6 (by decide) ?_
  refine z_callVV (fr1 := 0) (b := 6) (As := [.int (1 : Int32)]) (rest := []) X (hr.le (by decide)) hR zy_X7_addStep zq_283 (zlit hR zf_6) (by rw [zs_6]; rfl) rfl (mX7_addStep  hf) rfl hl (Nat.le_of_ble_eq_true rfl) dX7_clear_7 rfl (fun w2 H locs hf hR => ?_)
  exact hQ _ _ _ _ _ hf hR dX7_clear_10
/-! X1_read -/
def fX1_read_J163 (a1 : Nat) (k : Int32 → zW → Prop)  (w : zW) : Prop :=
  ¬ gR w 4 3 = 0 ∧
  fX0_countUses (gR w 4 3) w (fun w9 =>
  ¬ gR w9 4 3 = 0 ∧
  fX0_findMeanings (gR w9 4 3) w9 (fun w11 =>
  k (0 : Int32) w11))
set_option maxHeartbeats 4000000 in
set_option maxRecDepth 100000 in
theorem mX1_read_J163 {k : Int32 → zW → Prop} {a1 : Nat} (X : zCx p s m args meth c cX1_read 4 RX1 (some .int)) (hr : zRm R 143 cells slots) (hQ : zRetI p l e R s m args below meth c cells slots Q D dA true ad0 al0 ad al cX1_read k) (ha1 : al a1 ∧ zsh a1 = 0)   {w : zW} {H : Heap} {locs : List Loc} {ls : Array Slot} (hf : fX1_read_J163 a1 k  w) (hR : zSt D dA true ad0 al0 ad al w s H locs) (hl : lv_has ls 4 [(0, .ref (ad 4))]) : W p l e R s m args below meth c H locs cells slots Q (F0 m 163 ls []) := by
  have hx := X.1
  have hb := X.2.1
  have hml := X.2.2.1
  have hown := X.2.2.2.1
  have hts := X.2.2.2.2.1
  unfold fX1_read_J163 at hf
  refine lv_aload_n hx hb dX1_read_163 rfl (lv_at hl 0 rfl) ?_
  refine z_getR X hR (zlit hR zf_4) zs_4 (by decide) zfd_X1_28 rfl dX1_read_164 ?_
  obtain ⟨hn80, hf⟩ := hf
  have hn8 : al (gR w 4 3) ∧ zsh (gR w 4 3) = 0 := zwt_of hR (zlit hR zf_4) zs_4 rfl hn80 (zdc_of zs_4 rfl)
  rw [zrf_pos hn80]
  refine z_callVV (fr1 := 1) (b := (gR w 4 3)) (As := []) (rest := []) X (hr.le (by decide)) hR zy_X0_countUses zq_541 hn8.1 (by rw [hn8.2]; rfl) rfl (mX0_countUses ⟨hn8.1, hn8.2⟩ hf) rfl hl (Nat.le_of_ble_eq_true rfl) dX1_read_167 rfl (fun w9 H locs hf hR => ?_)
  refine lv_aload_n hx hb dX1_read_170 rfl (lv_at hl 0 rfl) ?_
  refine z_getR X hR (zlit hR zf_4) zs_4 (by decide) zfd_X1_28 rfl dX1_read_171 ?_
  obtain ⟨hn100, hf⟩ := hf
  have hn10 : al (gR w9 4 3) ∧ zsh (gR w9 4 3) = 0 := zwt_of hR (zlit hR zf_4) zs_4 rfl hn100 (zdc_of zs_4 rfl)
  rw [zrf_pos hn100]
  refine lv_aload_n hx hb dX1_read_174 rfl (lv_at hl 0 rfl) ?_
  refine z_getS X hR (zlit hR zf_4) zs_4 (by decide) zfd_X1_24 rfl (r := 6) (by decide +kernel) dX1_read_175 ?_
  refine z_callVV (fr1 := 2) (b := (gR w9 4 3)) (As := [.ref (ad 6)]) (rest := []) X (hr.le (by decide)) hR zy_X0_findMeanings zq_549 hn10.1 (by rw [hn10.2]; rfl) rfl (mX0_findMeanings ⟨hn10.1, hn10.2⟩ hf) rfl hl (Nat.le_of_ble_eq_true rfl) dX1_read_178 rfl (fun w11 H locs hf hR => ?_)
  refine lv_iconst (v := (0 : Int32)) hx hb dX1_read_181 (by decide) ?_
  exact hQ _ _ _ _ _ _ hf hR dX1_read_182
def fX1_read_J145 (a1 : Nat) (k : Int32 → zW → Prop) (g33 : Int32 → zW → Prop) (x2 : Int32) (x3 : Int32) (w : zW) : Prop :=
  ((¬ x3 = 0 →
    g33 (x2 + (1 : Int32)) w) ∧
   (x3 = 0 →
    k (gI w 2 8) w))
set_option maxHeartbeats 4000000 in
set_option maxRecDepth 100000 in
theorem mX1_read_J145 {k : Int32 → zW → Prop} {g33 : Int32 → zW → Prop} {a1 : Nat} (X : zCx p s m args meth c cX1_read 4 RX1 (some .int)) (hr : zRm R 143 cells slots) (hQ : zRetI p l e R s m args below meth c cells slots Q D dA true ad0 al0 ad al cX1_read k) (ha1 : al a1 ∧ zsh a1 = 0) (hg33 : ∀ (x2 : Int32) (w : zW) (H : Heap) (locs : List Loc) (ls : Array Slot), g33 x2 w → zSt D dA true ad0 al0 ad al w s H locs → lv_has ls 4 [(0, .ref (ad 4)), (2, .int x2)] → W p l e R s m args below meth c H locs cells slots Q (F0 m 33 ls [])) {x2 : Int32} {x3 : Int32} {w : zW} {H : Heap} {locs : List Loc} {ls : Array Slot} (hf : fX1_read_J145 a1 k g33 x2 x3 w) (hR : zSt D dA true ad0 al0 ad al w s H locs) (hl : lv_has ls 4 [(0, .ref (ad 4)), (2, .int x2), (3, .int x3)]) : W p l e R s m args below meth c H locs cells slots Q (F0 m 145 ls []) := by
  have hx := X.1
  have hb := X.2.1
  have hml := X.2.2.1
  have hown := X.2.2.2.1
  have hts := X.2.2.2.2.1
  unfold fX1_read_J145 at hf
  refine lv_iload_n hx hb dX1_read_145 rfl (lv_at hl 2 rfl) ?_
  refine lv_if_ne (tgt := 157) hx hb dX1_read_146 (by decide) (fun c16 => ?_) (fun c16 => ?_)
  · replace hf := hf.1 c16
    refine lv_iinc (v := x2 + (1 : Int32)) (lv' := [(2, .int (x2 + (1 : Int32))), (0, .ref (ad 4)), (3, .int x3)]) hx hb dX1_read_157 hl (k := 1) rfl rfl (by decide) rfl (fun ls hl => ?_)
    refine lv_goto (tgt := 33) hx hb dX1_read_160 (by decide) ?_
    exact hg33 (x2 + (1 : Int32)) w _ _ _ hf hR (lv_sub hl [1, 0] rfl)
  · replace hf := hf.2 c16
    refine lv_aload_n hx hb dX1_read_149 rfl (lv_at hl 0 rfl) ?_
    refine z_getS X hR (zlit hR zf_4) zs_4 (by decide) zfd_X1_15 rfl (r := 2) (by decide +kernel) dX1_read_150 ?_
    refine z_getI X hR (zlit hR zf_2) zs_2 (by decide) zfd_X1_74 rfl dX1_read_153 ?_
    exact hQ _ _ _ _ _ _ hf hR dX1_read_156
def fX1_read_L33 (a1 : Nat) (k : Int32 → zW → Prop) : Nat → Int32 → zW → Prop
  | 0 => fun _ _ => False
  | n + 1 => fun x2 w =>
    (((1000 : Int32) < x2 →
      fX1_read_J163 a1 k  w) ∧
     (¬ (1000 : Int32) < x2 →
      (((gI w 2 2) = 0 →
        fX1_read_J163 a1 k  w) ∧
       (¬ (gI w 2 2) = 0 →
        ∀ sv13 : Int32, sv13 = gI w 2 5 →
        ((sv13 = (0 : Int32) →
          fX1_readWord  w (fun r15 w15 =>
          fX1_read_J145 a1 k (fX1_read_L33 a1 k n) x2 r15 w15)) ∧
        (¬ sv13 = (0 : Int32) →
        ((sv13 = (1 : Int32) →
          fX1_readCasts  w (fun r18 w18 =>
          fX1_read_J145 a1 k (fX1_read_L33 a1 k n) x2 r18 w18)) ∧
        (¬ sv13 = (1 : Int32) →
        ((sv13 = (2 : Int32) →
          fX1_readRow  w (fun r20 w20 =>
          fX1_read_J145 a1 k (fX1_read_L33 a1 k n) x2 r20 w20)) ∧
        (¬ sv13 = (2 : Int32) →
        ((sv13 = (3 : Int32) →
          fX1_readAfter  w (fun r22 w22 =>
          fX1_read_J145 a1 k (fX1_read_L33 a1 k n) x2 r22 w22)) ∧
        (¬ sv13 = (3 : Int32) →
        ((sv13 = (4 : Int32) →
          fX10_wrong (1 : Int32) w (fun r24 w24 =>
          fX1_read_J145 a1 k (fX1_read_L33 a1 k n) x2 r24 w24)) ∧
        (¬ sv13 = (4 : Int32) →
        ((sv13 = (5 : Int32) →
          fX1_readRules  w (fun r26 w26 =>
          fX1_read_J145 a1 k (fX1_read_L33 a1 k n) x2 r26 w26)) ∧
        (¬ sv13 = (5 : Int32) →
        
        fX10_wrong (1 : Int32) w (fun r27 w27 =>
        fX1_read_J145 a1 k (fX1_read_L33 a1 k n) x2 r27 w27)))))))))))))))))
set_option maxHeartbeats 4000000 in
set_option maxRecDepth 100000 in
theorem mX1_read_L33 {k : Int32 → zW → Prop} {a1 : Nat} (X : zCx p s m args meth c cX1_read 4 RX1 (some .int)) (hr : zRm R 143 cells slots) (hQ : zRetI p l e R s m args below meth c cells slots Q D dA true ad0 al0 ad al cX1_read k) (ha1 : al a1 ∧ zsh a1 = 0)  : ∀ (n : Nat) (x2 : Int32) (w : zW) (H : Heap) (locs : List Loc) (ls : Array Slot), fX1_read_L33 a1 k n x2 w → zSt D dA true ad0 al0 ad al w s H locs → lv_has ls 4 [(0, .ref (ad 4)), (2, .int x2)] → W p l e R s m args below meth c H locs cells slots Q (F0 m 33 ls []) := by
  intro n
  induction n with
  | zero => exact fun _ _ _ _ _ hf => hf.elim
  | succ n ih =>
    intro x2 w H locs ls hf hR hl
    have hx := X.1
    have hb := X.2.1
    have hml := X.2.2.1
    have hown := X.2.2.2.1
    have hts := X.2.2.2.2.1
    rw [fX1_read_L33] at hf
    refine lv_iload_n hx hb dX1_read_33 rfl (lv_at hl 1 rfl) ?_
    refine lv_sipush (v := (1000 : Int32)) hx hb dX1_read_34 (by decide) ?_
    refine lv_icmp_gt (tgt := 163) hx hb dX1_read_37 (by decide) (fun c7 => ?_) (fun c7 => ?_)
    · replace hf := hf.1 c7
      exact mX1_read_J163 X hr hQ ha1  hf hR (lv_sub hl [0] rfl)
    · replace hf := hf.2 c7
      refine lv_aload_n hx hb dX1_read_40 rfl (lv_at hl 0 rfl) ?_
      refine z_getS X hR (zlit hR zf_4) zs_4 (by decide) zfd_X1_15 rfl (r := 2) (by decide +kernel) dX1_read_41 ?_
      refine z_getI X hR (zlit hR zf_2) zs_2 (by decide) zfd_X1_47 rfl dX1_read_44 ?_
      refine lv_if_eq (tgt := 163) hx hb dX1_read_47 (by decide) (fun c12 => ?_) (fun c12 => ?_)
      · replace hf := hf.1 c12
        exact mX1_read_J163 X hr hQ ha1  hf hR (lv_sub hl [0] rfl)
      · replace hf := hf.2 c12
        refine lv_aload_n hx hb dX1_read_50 rfl (lv_at hl 0 rfl) ?_
        refine z_getS X hR (zlit hR zf_4) zs_4 (by decide) zfd_X1_15 rfl (r := 2) (by decide +kernel) dX1_read_51 ?_
        refine z_getI X hR (zlit hR zf_2) zs_2 (by decide) zfd_X1_51 rfl dX1_read_54 ?_
        refine lv_topi (fun sv13 hsv13 => ?_)
        replace hf := hf sv13 hsv13
        by_cases c14 : sv13 = (0 : Int32)
        · replace hf := hf.1 c14
          refine lv_tableIn (off := 39) (tgt := 96) hx hb dX1_read_57 (by rw [c14]; decide) (by rw [c14]; decide) (by rw [c14]; decide) (by decide) ?_
          refine lv_aload_n hx hb dX1_read_96 rfl (lv_at hl 0 rfl) ?_
          refine z_callVI (fr1 := 7) (b := 4) (As := []) (rest := []) X (hr.le (by decide)) hR zy_X1_readWord zq_423 (zlit hR zf_4) (by rw [zs_4]; rfl) rfl (mX1_readWord  hf) rfl hl (Nat.le_of_ble_eq_true rfl) dX1_read_97 rfl (fun r15 w15 H locs hf hR => ?_)
          refine lv_istore_n (lv' := [(3, .int r15), (0, .ref (ad 4)), (2, .int x2)]) hx hb dX1_read_100 rfl hl (by decide) rfl (fun ls hl => ?_)
          refine lv_goto (tgt := 145) hx hb dX1_read_101 (by decide) ?_
          exact mX1_read_J145 X hr hQ ha1 ih hf hR (lv_sub hl [1, 2, 0] rfl)
        replace hf := hf.2 c14
        by_cases c17 : sv13 = (1 : Int32)
        · replace hf := hf.1 c17
          refine lv_tableIn (off := 47) (tgt := 104) hx hb dX1_read_57 (by rw [c17]; decide) (by rw [c17]; decide) (by rw [c17]; decide) (by decide) ?_
          refine lv_aload_n hx hb dX1_read_104 rfl (lv_at hl 0 rfl) ?_
          refine z_callVI (fr1 := 7) (b := 4) (As := []) (rest := []) X (hr.le (by decide)) hR zy_X1_readCasts zq_453 (zlit hR zf_4) (by rw [zs_4]; rfl) rfl (mX1_readCasts  hf) rfl hl (Nat.le_of_ble_eq_true rfl) dX1_read_105 rfl (fun r18 w18 H locs hf hR => ?_)
          refine lv_istore_n (lv' := [(3, .int r18), (0, .ref (ad 4)), (2, .int x2)]) hx hb dX1_read_108 rfl hl (by decide) rfl (fun ls hl => ?_)
          refine lv_goto (tgt := 145) hx hb dX1_read_109 (by decide) ?_
          exact mX1_read_J145 X hr hQ ha1 ih hf hR (lv_sub hl [1, 2, 0] rfl)
        replace hf := hf.2 c17
        by_cases c19 : sv13 = (2 : Int32)
        · replace hf := hf.1 c19
          refine lv_tableIn (off := 55) (tgt := 112) hx hb dX1_read_57 (by rw [c19]; decide) (by rw [c19]; decide) (by rw [c19]; decide) (by decide) ?_
          refine lv_aload_n hx hb dX1_read_112 rfl (lv_at hl 0 rfl) ?_
          refine z_callVI (fr1 := 8) (b := 4) (As := []) (rest := []) X (hr.le (by decide)) hR zy_X1_readRow zq_462 (zlit hR zf_4) (by rw [zs_4]; rfl) rfl (mX1_readRow  hf) rfl hl (Nat.le_of_ble_eq_true rfl) dX1_read_113 rfl (fun r20 w20 H locs hf hR => ?_)
          refine lv_istore_n (lv' := [(3, .int r20), (0, .ref (ad 4)), (2, .int x2)]) hx hb dX1_read_116 rfl hl (by decide) rfl (fun ls hl => ?_)
          refine lv_goto (tgt := 145) hx hb dX1_read_117 (by decide) ?_
          exact mX1_read_J145 X hr hQ ha1 ih hf hR (lv_sub hl [1, 2, 0] rfl)
        replace hf := hf.2 c19
        by_cases c21 : sv13 = (3 : Int32)
        · replace hf := hf.1 c21
          refine lv_tableIn (off := 63) (tgt := 120) hx hb dX1_read_57 (by rw [c21]; decide) (by rw [c21]; decide) (by rw [c21]; decide) (by decide) ?_
          refine lv_aload_n hx hb dX1_read_120 rfl (lv_at hl 0 rfl) ?_
          refine z_callVI (fr1 := 7) (b := 4) (As := []) (rest := []) X (hr.le (by decide)) hR zy_X1_readAfter zq_493 (zlit hR zf_4) (by rw [zs_4]; rfl) rfl (mX1_readAfter  hf) rfl hl (Nat.le_of_ble_eq_true rfl) dX1_read_121 rfl (fun r22 w22 H locs hf hR => ?_)
          refine lv_istore_n (lv' := [(3, .int r22), (0, .ref (ad 4)), (2, .int x2)]) hx hb dX1_read_124 rfl hl (by decide) rfl (fun ls hl => ?_)
          refine lv_goto (tgt := 145) hx hb dX1_read_125 (by decide) ?_
          exact mX1_read_J145 X hr hQ ha1 ih hf hR (lv_sub hl [1, 2, 0] rfl)
        replace hf := hf.2 c21
        by_cases c23 : sv13 = (4 : Int32)
        · replace hf := hf.1 c23
          refine lv_tableIn (off := 79) (tgt := 136) hx hb dX1_read_57 (by rw [c23]; decide) (by rw [c23]; decide) (by rw [c23]; decide) (by decide) ?_
          refine lv_aload_n hx hb dX1_read_136 rfl (lv_at hl 0 rfl) ?_
          refine z_getS X hR (zlit hR zf_4) zs_4 (by decide) zfd_X1_15 rfl (r := 2) (by decide +kernel) dX1_read_137 ?_
          refine lv_iconst (v := (1 : Int32)) hx hb dX1_read_140 (by decide) ?_
          refine z_callVI (fr1 := 0) (b := 2) (As := [.int (1 : Int32)]) (rest := []) X (hr.le (by decide)) hR zy_X10_wrong zq_431 (zlit hR zf_2) (by rw [zs_2]; rfl) rfl (mX10_wrong  hf) rfl hl (Nat.le_of_ble_eq_true rfl) dX1_read_141 rfl (fun r24 w24 H locs hf hR => ?_)
          refine lv_istore_n (lv' := [(3, .int r24), (0, .ref (ad 4)), (2, .int x2)]) hx hb dX1_read_144 rfl hl (by decide) rfl (fun ls hl => ?_)
          exact mX1_read_J145 X hr hQ ha1 ih hf hR (lv_sub hl [1, 2, 0] rfl)
        replace hf := hf.2 c23
        by_cases c25 : sv13 = (5 : Int32)
        · replace hf := hf.1 c25
          refine lv_tableIn (off := 71) (tgt := 128) hx hb dX1_read_57 (by rw [c25]; decide) (by rw [c25]; decide) (by rw [c25]; decide) (by decide) ?_
          refine lv_aload_n hx hb dX1_read_128 rfl (lv_at hl 0 rfl) ?_
          refine z_callVI (fr1 := 142) (b := 4) (As := []) (rest := []) X (hr.le (by decide)) hR zy_X1_readRules zq_499 (zlit hR zf_4) (by rw [zs_4]; rfl) rfl (mX1_readRules  hf) rfl hl (Nat.le_of_ble_eq_true rfl) dX1_read_129 rfl (fun r26 w26 H locs hf hR => ?_)
          refine lv_istore_n (lv' := [(3, .int r26), (0, .ref (ad 4)), (2, .int x2)]) hx hb dX1_read_132 rfl hl (by decide) rfl (fun ls hl => ?_)
          refine lv_goto (tgt := 145) hx hb dX1_read_133 (by decide) ?_
          exact mX1_read_J145 X hr hQ ha1 ih hf hR (lv_sub hl [1, 2, 0] rfl)
        replace hf := hf.2 c25
        have ho57 : sv13.toInt < 0 ∨ 5 < sv13.toInt := by
          have := z_i32ne (k := (0 : Int32)) c14
          have := z_i32ne (k := (1 : Int32)) c17
          have := z_i32ne (k := (2 : Int32)) c19
          have := z_i32ne (k := (3 : Int32)) c21
          have := z_i32ne (k := (4 : Int32)) c23
          have := z_i32ne (k := (5 : Int32)) c25
          simp only [show ((0 : Int32)).toInt = 0 from by decide, show ((1 : Int32)).toInt = 1 from by decide, show ((2 : Int32)).toInt = 2 from by decide, show ((3 : Int32)).toInt = 3 from by decide, show ((4 : Int32)).toInt = 4 from by decide, show ((5 : Int32)).toInt = 5 from by decide] at *
          omega
        refine lv_tableOut (tgt := 136) hx hb dX1_read_57 ho57 (by decide) ?_
        refine lv_aload_n hx hb dX1_read_136 rfl (lv_at hl 0 rfl) ?_
        refine z_getS X hR (zlit hR zf_4) zs_4 (by decide) zfd_X1_15 rfl (r := 2) (by decide +kernel) dX1_read_137 ?_
        refine lv_iconst (v := (1 : Int32)) hx hb dX1_read_140 (by decide) ?_
        refine z_callVI (fr1 := 0) (b := 2) (As := [.int (1 : Int32)]) (rest := []) X (hr.le (by decide)) hR zy_X10_wrong zq_431 (zlit hR zf_2) (by rw [zs_2]; rfl) rfl (mX10_wrong  hf) rfl hl (Nat.le_of_ble_eq_true rfl) dX1_read_141 rfl (fun r27 w27 H locs hf hR => ?_)
        refine lv_istore_n (lv' := [(3, .int r27), (0, .ref (ad 4)), (2, .int x2)]) hx hb dX1_read_144 rfl hl (by decide) rfl (fun ls hl => ?_)
        exact mX1_read_J145 X hr hQ ha1 ih hf hR (lv_sub hl [1, 2, 0] rfl)
def fX1_read (a1 : Nat) (w : zW) (k : Int32 → zW → Prop) : Prop :=
  ∀ w1 : zW, w1 = sR w 4 3 a1 →
  ¬ gR w1 4 3 = 0 ∧
  fX0_clear (gR w1 4 3) w1 (fun w3 =>
  fX7_clear  w3 (fun w4 =>
  ∀ w5 : zW, w5 = sI w4 4 4 (0 : Int32) →
  fX10_begin  w5 (fun w6 =>
  ∃ n9, fX1_read_L33 a1 k n9 (0 : Int32) w6)))
set_option maxHeartbeats 4000000 in
set_option maxRecDepth 100000 in
theorem mX1_read {l : Launch} {D : va_G} {dA : Nat → ClassId} {ad : Nat → Nat} {al : Nat → Prop} {w : zW} {k : Int32 → zW → Prop} {a1 : Nat} (ha1 : al a1 ∧ zsh a1 = 0)  (hf : fX1_read a1 w k) : zmetI l yX1_read cX1_read 4 (some .int) 143 [.ref (ad 4), .ref (ad a1)] D dA true ad al w k := by
  refine zmetI_of (by decide) (Nat.le_of_ble_eq_true rfl) ?_
  intro p e R s m below meth c Q H ls args locs cells slots X hr hQ hR hl
  have hx := X.1
  have hb := X.2.1
  have hml := X.2.2.1
  have hown := X.2.2.2.1
  have hts := X.2.2.2.2.1
  unfold fX1_read at hf
  have hl : lv_has ls 4 [(0, .ref (ad 4)), (1, .ref (ad a1))] := hl
  refine lv_aload_n hx hb dX1_read_0 rfl (lv_at hl 0 rfl) ?_
  refine lv_aload_n hx hb dX1_read_1 rfl (lv_at hl 1 rfl) ?_
  refine z_putR X hR (zlit hR zf_4) zs_4 (by decide) zfp_X1_28 rfl rfl (zne0 ha1.2 (by decide)) ha1.1 (by rw [zdc_of zs_4 rfl]; exact ha1.2) dX1_read_2 (fun H locs hR => ?_)
  obtain ⟨w1, hw1⟩ : ∃ z : zW, z = sR w 4 3 a1 := ⟨_, rfl⟩
  rw [← hw1] at hR
  replace hf := hf w1 hw1
  refine lv_aload_n hx hb dX1_read_5 rfl (lv_at hl 0 rfl) ?_
  refine z_getR X hR (zlit hR zf_4) zs_4 (by decide) zfd_X1_28 rfl dX1_read_6 ?_
  obtain ⟨hn20, hf⟩ := hf
  have hn2 : al (gR w1 4 3) ∧ zsh (gR w1 4 3) = 0 := zwt_of hR (zlit hR zf_4) zs_4 rfl hn20 (zdc_of zs_4 rfl)
  rw [zrf_pos hn20]
  refine z_callVV (fr1 := 1) (b := (gR w1 4 3)) (As := []) (rest := []) X (hr.le (by decide)) hR zy_X0_clear zq_271 hn2.1 (by rw [hn2.2]; rfl) rfl (mX0_clear ⟨hn2.1, hn2.2⟩ hf) rfl hl (Nat.le_of_ble_eq_true rfl) dX1_read_9 rfl (fun w3 H locs hf hR => ?_)
  refine lv_aload_n hx hb dX1_read_12 rfl (lv_at hl 0 rfl) ?_
  refine z_getS X hR (zlit hR zf_4) zs_4 (by decide) zfd_X1_24 rfl (r := 6) (by decide +kernel) dX1_read_13 ?_
  refine z_callVV (fr1 := 1) (b := 6) (As := []) (rest := []) X (hr.le (by decide)) hR zy_X7_clear zq_278 (zlit hR zf_6) (by rw [zs_6]; rfl) rfl (mX7_clear  hf) rfl hl (Nat.le_of_ble_eq_true rfl) dX1_read_16 rfl (fun w4 H locs hf hR => ?_)
  refine lv_aload_n hx hb dX1_read_19 rfl (lv_at hl 0 rfl) ?_
  refine lv_iconst (v := (0 : Int32)) hx hb dX1_read_20 (by decide) ?_
  refine z_putZ X hR (zlit hR zf_4) zs_4 (by decide) zfp_X1_38 rfl zb01_0 dX1_read_21 (fun H locs hR => ?_)
  obtain ⟨w5, hw5⟩ : ∃ z : zW, z = sI w4 4 4 (0 : Int32) := ⟨_, rfl⟩
  rw [← hw5] at hR
  replace hf := hf w5 hw5
  refine lv_aload_n hx hb dX1_read_24 rfl (lv_at hl 0 rfl) ?_
  refine z_getS X hR (zlit hR zf_4) zs_4 (by decide) zfd_X1_15 rfl (r := 2) (by decide +kernel) dX1_read_25 ?_
  refine z_callVV (fr1 := 6) (b := 2) (As := []) (rest := []) X (hr.le (by decide)) hR zy_X10_begin zq_287 (zlit hR zf_2) (by rw [zs_2]; rfl) rfl (mX10_begin  hf) rfl hl (Nat.le_of_ble_eq_true rfl) dX1_read_28 rfl (fun w6 H locs hf hR => ?_)
  refine lv_iconst (v := (0 : Int32)) hx hb dX1_read_31 (by decide) ?_
  refine lv_istore_n (lv' := [(2, .int (0 : Int32)), (0, .ref (ad 4)), (1, .ref (ad a1))]) hx hb dX1_read_32 rfl hl (by decide) rfl (fun ls hl => ?_)
  obtain ⟨n9, hf⟩ := hf
  exact mX1_read_L33 X hr hQ ha1  n9 (0 : Int32) w6 _ _ _ hf hR (lv_sub hl [1, 0] rfl)
/-! X2_init -/
def fX2_init (mc ms : Nat) (a0 : Nat) (w : zW) (k : zW → Prop) : Prop :=
  ¬ gI w 0 141 = 1 ∧ 1 ≤ mc ∧ 3600 ≤ ms ∧ ∀ w1 : zW, w1 = nW w 141 →
  ∀ w2 : zW, w2 = sR w1 a0 0 141 →
  ¬ gI w2 0 142 = 1 ∧ 1 ≤ mc - 1 ∧ 3600 ≤ ms - 3600 ∧ ∀ w3 : zW, w3 = nW w2 142 →
  ∀ w4 : zW, w4 = sR w3 a0 1 142 →
  k w4
set_option maxHeartbeats 4000000 in
set_option maxRecDepth 100000 in
theorem mX2_init {l : Launch} {D : va_G} {dA : Nat → ClassId} {ad : Nat → Nat} {al : Nat → Prop} {w : zW} {mc ms : Nat} {k : zW → Prop} {a0 : Nat} (ha0 : al a0 ∧ zsh a0 = 2) (hf : fX2_init mc ms a0 w k) : zmetAV l yX2_init cX2_init 1 none 1 mc ms [.ref (ad a0)] D dA true ad al w k := by
  refine zmetAV_of (by decide) (Nat.le_of_ble_eq_true rfl) ?_
  intro p e R s m below meth c Q H ls args locs cells slots X hr hQ hR hl
  have hx := X.1
  have hb := X.2.1
  have hml := X.2.2.1
  have hown := X.2.2.2.1
  have hts := X.2.2.2.2.1
  unfold fX2_init at hf
  have hl : lv_has ls 1 [(0, .ref (ad a0))] := hl
  have hX : zExt ad al ad al := zExt.rf
  refine lv_aload_n hx hb dX2_init_0 rfl (lv_at hl 0 rfl) ?_
  refine z_objInit (rest := []) X (hr.none (by decide)) zq_809 zq_12 zq_13 hl (Nat.le_of_ble_eq_true rfl) dX2_init_1 ?_
  refine lv_aload_n hx hb dX2_init_4 rfl (lv_at hl 0 rfl) ?_
  refine lv_sipush (v := (3600 : Int32)) hx hb dX2_init_5 (by decide) ?_
  have hw1_1 : al a0 := ha0.1
  have hv1_1 : al a0 := ha0.1
  obtain ⟨hg1, hc1, hs1, hf⟩ := hf
  refine z_newaI (N := 3600) X (hr.new hc1 hs1) hR (j := 141) (fun _ => ⟨by decide, by decide +kernel⟩) hg1 zs_141 zl_141 (by decide) (by decide) (by decide) zq_64 dX2_init_8 (fun ad1 al1 H hE1 hj1 hR => ?_)
  obtain ⟨w1, hw1⟩ : ∃ z : zW, z = nW w 141 := ⟨_, rfl⟩
  rw [← hw1] at hR
  replace hf := hf w1 hw1
  have hX := hX.tr hE1
  have hr := hr.after hc1 hs1
  have ha0 : al1 a0 ∧ zsh a0 = 2 := ⟨(hE1 _ ha0.1).1, ha0.2⟩
  rw [← (hE1 a0 hw1_1).2] at hl
  rw [← (hE1 a0 hv1_1).2]
  refine z_putR X hR ha0.1 ha0.2 (by decide) zfp_X2_9 rfl rfl (by decide) hj1 (by rw [zdc_of ha0.2 rfl]; exact zs_141) dX2_init_10 (fun H locs hR => ?_)
  obtain ⟨w2, hw2⟩ : ∃ z : zW, z = sR w1 a0 0 141 := ⟨_, rfl⟩
  rw [← hw2] at hR
  replace hf := hf w2 hw2
  refine lv_aload_n hx hb dX2_init_13 rfl (lv_at hl 0 rfl) ?_
  refine lv_sipush (v := (3600 : Int32)) hx hb dX2_init_14 (by decide) ?_
  have hw3_1 : al1 a0 := ha0.1
  have hv3_1 : al1 a0 := ha0.1
  obtain ⟨hg3, hc3, hs3, hf⟩ := hf
  refine z_newaI (N := 3600) X (hr.new hc3 hs3) hR (j := 142) (fun _ => ⟨by decide, by decide +kernel⟩) hg3 zs_142 zl_142 (by decide) (by decide) (by decide) zq_64 dX2_init_17 (fun ad3 al3 H hE3 hj3 hR => ?_)
  obtain ⟨w3, hw3⟩ : ∃ z : zW, z = nW w2 142 := ⟨_, rfl⟩
  rw [← hw3] at hR
  replace hf := hf w3 hw3
  have hX := hX.tr hE3
  have hr := hr.after hc3 hs3
  have ha0 : al3 a0 ∧ zsh a0 = 2 := ⟨(hE3 _ ha0.1).1, ha0.2⟩
  rw [← (hE3 a0 hw3_1).2] at hl
  rw [← (hE3 a0 hv3_1).2]
  refine z_putR X hR ha0.1 ha0.2 (by decide) zfp_X2_15 rfl rfl (by decide) hj3 (by rw [zdc_of ha0.2 rfl]; exact zs_142) dX2_init_19 (fun H locs hR => ?_)
  obtain ⟨w4, hw4⟩ : ∃ z : zW, z = sR w3 a0 1 142 := ⟨_, rfl⟩
  rw [← hw4] at hR
  replace hf := hf w4 hw4
  exact hQ _ _ _ _ _ _ _ _ _ hX (by have := hr.2.2.1; omega) (by have := hr.2.2.2; omega) hf hR dX2_init_22
/-! X2_index -/
def fX2_index (x0 : Int32) (x1 : Int32) (w : zW) (k : Int32 → zW → Prop) : Prop :=
  k (((x0 * (60 : Int32)) + x1) - (1 : Int32)) w
set_option maxHeartbeats 4000000 in
set_option maxRecDepth 100000 in
theorem mX2_index {l : Launch} {D : va_G} {dA : Nat → ClassId} {ad : Nat → Nat} {al : Nat → Prop} {w : zW} {k : Int32 → zW → Prop} {x0 : Int32} {x1 : Int32}   (hf : fX2_index x0 x1 w k) : zmetI l yX2_index cX2_index 2 (some .int) 0 [.int x0, .int x1] D dA true ad al w k := by
  refine zmetI_of (by decide) (Nat.le_of_ble_eq_true rfl) ?_
  intro p e R s m below meth c Q H ls args locs cells slots X hr hQ hR hl
  have hx := X.1
  have hb := X.2.1
  have hml := X.2.2.1
  have hown := X.2.2.2.1
  have hts := X.2.2.2.2.1
  unfold fX2_index at hf
  have hl : lv_has ls 2 [(0, .int x0), (1, .int x1)] := hl
  refine lv_iload_n hx hb dX2_index_0 rfl (lv_at hl 0 rfl) ?_
  refine lv_bipush (v := (60 : Int32)) hx hb dX2_index_1 (by decide) ?_
  refine lv_imul hx hb dX2_index_3 ?_
  refine lv_iload_n hx hb dX2_index_4 rfl (lv_at hl 1 rfl) ?_
  refine lv_iadd hx hb dX2_index_5 ?_
  refine lv_iconst (v := (1 : Int32)) hx hb dX2_index_6 (by decide) ?_
  refine lv_isub hx hb dX2_index_7 ?_
  exact hQ _ _ _ _ _ _ hf hR dX2_index_8
/-! X2_asOne -/
def fX2_asOne_J67 (a0 : Nat) (a1 : Nat) (k : Int32 → zW → Prop) (g33 : Int32 → Int32 → Int32 → Int32 → Int32 → zW → Prop) (x2 : Int32) (x3 : Int32) (x4 : Int32) (x5 : Int32) (x6 : Int32) (t0 : Int32) (w : zW) : Prop :=
  ((t0 = 0 →
    g33 x2 x3 x4 x5 (x6 + (1 : Int32)) w) ∧
   (¬ t0 = 0 →
    fX0_repeats a1 x2 x3 x6 w (fun r8 w8 =>
    ((r8 = 0 →
      g33 x2 x3 x4 x5 (x6 + (1 : Int32)) w8) ∧
     (¬ r8 = 0 →
      ¬ gR w8 a0 0 = 0 ∧
      fX2_index x2 x6 w8 (fun r11 w11 =>
      vp_in r11 (zln (gR w8 a0 0)) ∧ 
      ∀ v13 : Int32, v13 = (if (gI w11 (gR w8 a0 0) r11.toNatClampNeg) + (3 : Int32) < x5 then (gI w11 (gR w8 a0 0) r11.toNatClampNeg) + (3 : Int32) else x5) →
      g33 x2 x3 x4 v13 (x6 + (1 : Int32)) w11))))))
set_option maxHeartbeats 4000000 in
set_option maxRecDepth 100000 in
theorem mX2_asOne_J67 {k : Int32 → zW → Prop} {g33 : Int32 → Int32 → Int32 → Int32 → Int32 → zW → Prop} {a0 : Nat} {a1 : Nat} (X : zCx p s m args meth c cX2_asOne 8 RX2 (some .int)) (hr : zRm R 1 cells slots) (hQ : zRetI p l e R s m args below meth c cells slots Q D dA true ad0 al0 ad al cX2_asOne k) (ha0 : al a0 ∧ zsh a0 = 2) (ha1 : al a1 ∧ zsh a1 = 20) (hg33 : ∀ (x2 : Int32) (x3 : Int32) (x4 : Int32) (x5 : Int32) (x6 : Int32) (w : zW) (H : Heap) (locs : List Loc) (ls : Array Slot), g33 x2 x3 x4 x5 x6 w → zSt D dA true ad0 al0 ad al w s H locs → lv_has ls 8 [(0, .ref (ad a0)), (1, .ref (ad a1)), (2, .int x2), (3, .int x3), (4, .int x4), (5, .int x5), (6, .int x6)] → W p l e R s m args below meth c H locs cells slots Q (F0 m 33 ls [])) {x2 : Int32} {x3 : Int32} {x4 : Int32} {x5 : Int32} {x6 : Int32} {t0 : Int32} {w : zW} {H : Heap} {locs : List Loc} {ls : Array Slot} (hf : fX2_asOne_J67 a0 a1 k g33 x2 x3 x4 x5 x6 t0 w) (hR : zSt D dA true ad0 al0 ad al w s H locs) (hl : lv_has ls 8 [(0, .ref (ad a0)), (1, .ref (ad a1)), (2, .int x2), (3, .int x3), (4, .int x4), (5, .int x5), (6, .int x6)]) : W p l e R s m args below meth c H locs cells slots Q (F0 m 67 ls [.int t0]) := by
  have hx := X.1
  have hb := X.2.1
  have hml := X.2.2.1
  have hown := X.2.2.2.1
  have hts := X.2.2.2.2.1
  unfold fX2_asOne_J67 at hf
  refine lv_istore (lv' := [(7, .int t0), (0, .ref (ad a0)), (1, .ref (ad a1)), (2, .int x2), (3, .int x3), (4, .int x4), (5, .int x5), (6, .int x6)]) hx hb dX2_asOne_67 hl (by decide) rfl (fun ls hl => ?_)
  refine lv_iload hx hb dX2_asOne_69 (lv_at hl 0 rfl) ?_
  refine lv_if_eq (tgt := 105) hx hb dX2_asOne_71 (by decide) (fun c7 => ?_) (fun c7 => ?_)
  · replace hf := hf.1 c7
    refine lv_iinc (v := x6 + (1 : Int32)) (lv' := [(6, .int (x6 + (1 : Int32))), (7, .int t0), (0, .ref (ad a0)), (1, .ref (ad a1)), (2, .int x2), (3, .int x3), (4, .int x4), (5, .int x5)]) hx hb dX2_asOne_105 hl (k := 7) rfl rfl (by decide) rfl (fun ls hl => ?_)
    refine lv_goto (tgt := 33) hx hb dX2_asOne_108 (by decide) ?_
    exact hg33 x2 x3 x4 x5 (x6 + (1 : Int32)) w _ _ _ hf hR (lv_sub hl [2, 3, 4, 5, 6, 7, 0] rfl)
  · replace hf := hf.2 c7
    refine lv_aload_n hx hb dX2_asOne_74 rfl (lv_at hl 2 rfl) ?_
    refine lv_iload_n hx hb dX2_asOne_75 rfl (lv_at hl 3 rfl) ?_
    refine lv_iload_n hx hb dX2_asOne_76 rfl (lv_at hl 4 rfl) ?_
    refine lv_iload hx hb dX2_asOne_77 (lv_at hl 7 rfl) ?_
    refine z_callSI (fr1 := 0) (As := [.ref (ad a1), .int x2, .int x3, .int x6]) (rest := []) X (hr.le (by decide)) hR zy_X0_repeats zq_828 (mX0_repeats ⟨ha1.1, ha1.2⟩ hf) rfl hl (Nat.le_of_ble_eq_true rfl) dX2_asOne_79 rfl (fun r8 w8 H locs hf hR => ?_)
    refine lv_if_eq (tgt := 105) hx hb dX2_asOne_82 (by decide) (fun c9 => ?_) (fun c9 => ?_)
    · replace hf := hf.1 c9
      refine lv_iinc (v := x6 + (1 : Int32)) (lv' := [(6, .int (x6 + (1 : Int32))), (7, .int t0), (0, .ref (ad a0)), (1, .ref (ad a1)), (2, .int x2), (3, .int x3), (4, .int x4), (5, .int x5)]) hx hb dX2_asOne_105 hl (k := 7) rfl rfl (by decide) rfl (fun ls hl => ?_)
      refine lv_goto (tgt := 33) hx hb dX2_asOne_108 (by decide) ?_
      exact hg33 x2 x3 x4 x5 (x6 + (1 : Int32)) w8 _ _ _ hf hR (lv_sub hl [2, 3, 4, 5, 6, 7, 0] rfl)
    · replace hf := hf.2 c9
      refine lv_iload hx hb dX2_asOne_85 (lv_at hl 6 rfl) ?_
      refine lv_aload_n hx hb dX2_asOne_87 rfl (lv_at hl 1 rfl) ?_
      refine z_getR X hR ha0.1 ha0.2 (by decide) zfd_X2_9 rfl dX2_asOne_88 ?_
      obtain ⟨hn100, hf⟩ := hf
      have hn10 : al (gR w8 a0 0) ∧ zsh (gR w8 a0 0) = 20 := zwt_of hR ha0.1 ha0.2 rfl hn100 (zdc_of ha0.2 rfl)
      rw [zrf_pos hn100]
      refine lv_iload_n hx hb dX2_asOne_91 rfl (lv_at hl 3 rfl) ?_
      refine lv_iload hx hb dX2_asOne_92 (lv_at hl 7 rfl) ?_
      refine z_callSI (fr1 := 0) (As := [.int x2, .int x6]) (rest := [.ref (ad (gR w8 a0 0)), .int x5]) X (hr.le (by decide)) hR zy_X2_index zq_816 (mX2_index  hf) rfl hl (Nat.le_of_ble_eq_true rfl) dX2_asOne_94 rfl (fun r11 w11 H locs hf hR => ?_)
      obtain ⟨hb12, hf⟩ := hf
      refine z_iald X hR hn10.1 hn10.2 rfl hb12 dX2_asOne_97 ?_
      refine lv_iconst (v := (3 : Int32)) hx hb dX2_asOne_98 (by decide) ?_
      refine lv_iadd hx hb dX2_asOne_99 ?_
      refine va_mmin hx hb (by rw [hml]; exact hl.1.symm) hown (hts _ zq_823) (hts _ zq_339) (hts _ zq_336) (hts _ zq_340) (by have := hr.1; omega) (by have := hr.2.1; show (List.sum []) + 13 ≤ R.locals; simp only [List.sum_cons, List.sum_nil, Value.category]; omega) hr.2.2.1 hr.2.2.2 dX2_asOne_100 ?_
      refine lv_topi (fun v13 hv13 => ?_)
      replace hf := hf v13 hv13
      refine lv_istore (lv' := [(5, .int v13), (7, .int t0), (0, .ref (ad a0)), (1, .ref (ad a1)), (2, .int x2), (3, .int x3), (4, .int x4), (6, .int x6)]) hx hb dX2_asOne_103 hl (by decide) rfl (fun ls hl => ?_)
      refine lv_iinc (v := x6 + (1 : Int32)) (lv' := [(6, .int (x6 + (1 : Int32))), (5, .int v13), (7, .int t0), (0, .ref (ad a0)), (1, .ref (ad a1)), (2, .int x2), (3, .int x3), (4, .int x4)]) hx hb dX2_asOne_105 hl (k := 7) rfl rfl (by decide) rfl (fun ls hl => ?_)
      refine lv_goto (tgt := 33) hx hb dX2_asOne_108 (by decide) ?_
      exact hg33 x2 x3 x4 v13 (x6 + (1 : Int32)) w11 _ _ _ hf hR (lv_sub hl [3, 4, 5, 6, 7, 1, 0] rfl)
def fX2_asOne_L33 (a0 : Nat) (a1 : Nat) (k : Int32 → zW → Prop) : Nat → Int32 → Int32 → Int32 → Int32 → Int32 → zW → Prop
  | 0 => fun _ _ _ _ _ _ => False
  | n + 1 => fun x2 x3 x4 x5 x6 w =>
    ((x4 ≤ 0 →
      k x5 w) ∧
     (¬ x4 ≤ 0 →
      (((x3 / (2 : Int32)) < x6 →
        k x5 w) ∧
       (¬ (x3 / (2 : Int32)) < x6 →
        ¬ x6 = 0 ∧
        ((¬ (x3 % x6) = 0 →
          fX2_asOne_J67 a0 a1 k (fX2_asOne_L33 a0 a1 k n) x2 x3 x4 x5 x6 (0 : Int32) w) ∧
         ((x3 % x6) = 0 →
          ¬ x6 = 0 ∧
          ∀ v15 : Int32, v15 = (if (20 : Int32) < (x3 / x6) then (0 : Int32) else (1 : Int32)) →
          fX2_asOne_J67 a0 a1 k (fX2_asOne_L33 a0 a1 k n) x2 x3 x4 x5 x6 v15 w))))))
set_option maxHeartbeats 4000000 in
set_option maxRecDepth 100000 in
theorem mX2_asOne_L33 {k : Int32 → zW → Prop} {a0 : Nat} {a1 : Nat} (X : zCx p s m args meth c cX2_asOne 8 RX2 (some .int)) (hr : zRm R 1 cells slots) (hQ : zRetI p l e R s m args below meth c cells slots Q D dA true ad0 al0 ad al cX2_asOne k) (ha0 : al a0 ∧ zsh a0 = 2) (ha1 : al a1 ∧ zsh a1 = 20)  : ∀ (n : Nat) (x2 : Int32) (x3 : Int32) (x4 : Int32) (x5 : Int32) (x6 : Int32) (w : zW) (H : Heap) (locs : List Loc) (ls : Array Slot), fX2_asOne_L33 a0 a1 k n x2 x3 x4 x5 x6 w → zSt D dA true ad0 al0 ad al w s H locs → lv_has ls 8 [(0, .ref (ad a0)), (1, .ref (ad a1)), (2, .int x2), (3, .int x3), (4, .int x4), (5, .int x5), (6, .int x6)] → W p l e R s m args below meth c H locs cells slots Q (F0 m 33 ls []) := by
  intro n
  induction n with
  | zero => exact fun _ _ _ _ _ _ _ _ _ hf => hf.elim
  | succ n ih =>
    intro x2 x3 x4 x5 x6 w H locs ls hf hR hl
    have hx := X.1
    have hb := X.2.1
    have hml := X.2.2.1
    have hown := X.2.2.2.1
    have hts := X.2.2.2.2.1
    rw [fX2_asOne_L33] at hf
    refine lv_iload hx hb dX2_asOne_33 (lv_at hl 4 rfl) ?_
    refine lv_if_le (tgt := 111) hx hb dX2_asOne_35 (by decide) (fun c3 => ?_) (fun c3 => ?_)
    · replace hf := hf.1 c3
      refine lv_iload hx hb dX2_asOne_111 (lv_at hl 5 rfl) ?_
      exact hQ _ _ _ _ _ _ hf hR dX2_asOne_113
    · replace hf := hf.2 c3
      refine lv_iload hx hb dX2_asOne_38 (lv_at hl 6 rfl) ?_
      refine lv_iload_n hx hb dX2_asOne_40 rfl (lv_at hl 3 rfl) ?_
      refine lv_iconst (v := (2 : Int32)) hx hb dX2_asOne_41 (by decide) ?_
      refine lv_idiv hx hb dX2_asOne_42 (by decide) ?_
      refine lv_icmp_gt (tgt := 111) hx hb dX2_asOne_43 (by decide) (fun c4 => ?_) (fun c4 => ?_)
      · replace hf := hf.1 c4
        refine lv_iload hx hb dX2_asOne_111 (lv_at hl 5 rfl) ?_
        exact hQ _ _ _ _ _ _ hf hR dX2_asOne_113
      · replace hf := hf.2 c4
        refine lv_iload_n hx hb dX2_asOne_46 rfl (lv_at hl 3 rfl) ?_
        refine lv_iload hx hb dX2_asOne_47 (lv_at hl 6 rfl) ?_
        obtain ⟨hd5, hf⟩ := hf
        refine z_irem X dX2_asOne_49 hd5 ?_
        refine lv_if_ne (tgt := 66) hx hb dX2_asOne_50 (by decide) (fun c6 => ?_) (fun c6 => ?_)
        · replace hf := hf.1 c6
          refine lv_iconst (v := (0 : Int32)) hx hb dX2_asOne_66 (by decide) ?_
          exact mX2_asOne_J67 X hr hQ ha0 ha1 ih hf hR (lv_sub hl [0, 1, 2, 3, 4, 5, 6] rfl)
        · replace hf := hf.2 c6
          refine lv_iload_n hx hb dX2_asOne_53 rfl (lv_at hl 3 rfl) ?_
          refine lv_iload hx hb dX2_asOne_54 (lv_at hl 6 rfl) ?_
          obtain ⟨hd14, hf⟩ := hf
          refine lv_idiv hx hb dX2_asOne_56 hd14 ?_
          refine lv_bipush (v := (20 : Int32)) hx hb dX2_asOne_57 (by decide) ?_
          have kJ15 : ∀ v15 : Int32, v15 = (if (20 : Int32) < (x3 / x6) then (0 : Int32) else (1 : Int32)) → W p l e R s m args below meth c H locs cells slots Q (F0 m 67 ls (.int v15 :: [])) := by
            intro v15 hv15
            replace hf := hf v15 hv15
            exact mX2_asOne_J67 X hr hQ ha0 ha1 ih hf hR (lv_sub hl [0, 1, 2, 3, 4, 5, 6] rfl)
          refine lv_icmp_gt (tgt := 66) hx hb dX2_asOne_59 (by decide) (fun c15 => ?_) (fun c15 => ?_)
          · refine lv_iconst (v := (0 : Int32)) hx hb dX2_asOne_66 (by decide) ?_
            exact kJ15 _ (if_pos c15).symm
          · refine lv_iconst (v := (1 : Int32)) hx hb dX2_asOne_62 (by decide) ?_
            refine lv_goto (tgt := 67) hx hb dX2_asOne_63 (by decide) ?_
            exact kJ15 _ (if_neg c15).symm
def fX2_asOne_J25 (a0 : Nat) (a1 : Nat) (k : Int32 → zW → Prop) (x2 : Int32) (x3 : Int32) (x4 : Int32) (w : zW) : Prop :=
  ∃ n9, fX2_asOne_L33 a0 a1 k n9 x2 x3 x4 (240 : Int32) (1 : Int32) w
set_option maxHeartbeats 4000000 in
set_option maxRecDepth 100000 in
theorem mX2_asOne_J25 {k : Int32 → zW → Prop} {a0 : Nat} {a1 : Nat} (X : zCx p s m args meth c cX2_asOne 8 RX2 (some .int)) (hr : zRm R 1 cells slots) (hQ : zRetI p l e R s m args below meth c cells slots Q D dA true ad0 al0 ad al cX2_asOne k) (ha0 : al a0 ∧ zsh a0 = 2) (ha1 : al a1 ∧ zsh a1 = 20)  {x2 : Int32} {x3 : Int32} {x4 : Int32} {w : zW} {H : Heap} {locs : List Loc} {ls : Array Slot} (hf : fX2_asOne_J25 a0 a1 k x2 x3 x4 w) (hR : zSt D dA true ad0 al0 ad al w s H locs) (hl : lv_has ls 8 [(0, .ref (ad a0)), (1, .ref (ad a1)), (2, .int x2), (3, .int x3), (4, .int x4)]) : W p l e R s m args below meth c H locs cells slots Q (F0 m 25 ls []) := by
  have hx := X.1
  have hb := X.2.1
  have hml := X.2.2.1
  have hown := X.2.2.2.1
  have hts := X.2.2.2.2.1
  unfold fX2_asOne_J25 at hf
  refine lv_sipush (v := (240 : Int32)) hx hb dX2_asOne_25 (by decide) ?_
  refine lv_istore (lv' := [(5, .int (240 : Int32)), (0, .ref (ad a0)), (1, .ref (ad a1)), (2, .int x2), (3, .int x3), (4, .int x4)]) hx hb dX2_asOne_28 hl (by decide) rfl (fun ls hl => ?_)
  refine lv_iconst (v := (1 : Int32)) hx hb dX2_asOne_30 (by decide) ?_
  refine lv_istore (lv' := [(6, .int (1 : Int32)), (5, .int (240 : Int32)), (0, .ref (ad a0)), (1, .ref (ad a1)), (2, .int x2), (3, .int x3), (4, .int x4)]) hx hb dX2_asOne_31 hl (by decide) rfl (fun ls hl => ?_)
  obtain ⟨n9, hf⟩ := hf
  exact mX2_asOne_L33 X hr hQ ha0 ha1  n9 x2 x3 x4 (240 : Int32) (1 : Int32) w _ _ _ hf hR (lv_sub hl [2, 3, 4, 5, 6, 1, 0] rfl)
def fX2_asOne (a0 : Nat) (a1 : Nat) (x2 : Int32) (x3 : Int32) (x4 : Int32) (w : zW) (k : Int32 → zW → Prop) : Prop :=
  ((¬ x3 = (1 : Int32) →
    (((20 : Int32) < x3 →
      fX2_asOne_J25 a0 a1 k x2 x3 x4 w) ∧
     (¬ (20 : Int32) < x3 →
      fX0_repeats a1 x2 x3 (1 : Int32) w (fun r16 w16 =>
      ((r16 = 0 →
        fX2_asOne_J25 a0 a1 k x2 x3 x4 w16) ∧
       (¬ r16 = 0 →
        k (2 : Int32) w16)))))) ∧
   (x3 = (1 : Int32) →
    k (1 : Int32) w))
set_option maxHeartbeats 4000000 in
set_option maxRecDepth 100000 in
theorem mX2_asOne {l : Launch} {D : va_G} {dA : Nat → ClassId} {ad : Nat → Nat} {al : Nat → Prop} {w : zW} {k : Int32 → zW → Prop} {a0 : Nat} {a1 : Nat} {x2 : Int32} {x3 : Int32} {x4 : Int32} (ha0 : al a0 ∧ zsh a0 = 2) (ha1 : al a1 ∧ zsh a1 = 20)  (hf : fX2_asOne a0 a1 x2 x3 x4 w k) : zmetI l yX2_asOne cX2_asOne 8 (some .int) 1 [.ref (ad a0), .ref (ad a1), .int x2, .int x3, .int x4] D dA true ad al w k := by
  refine zmetI_of (by decide) (Nat.le_of_ble_eq_true rfl) ?_
  intro p e R s m below meth c Q H ls args locs cells slots X hr hQ hR hl
  have hx := X.1
  have hb := X.2.1
  have hml := X.2.2.1
  have hown := X.2.2.2.1
  have hts := X.2.2.2.2.1
  unfold fX2_asOne at hf
  have hl : lv_has ls 8 [(0, .ref (ad a0)), (1, .ref (ad a1)), (2, .int x2), (3, .int x3), (4, .int x4)] := hl
  refine lv_iload_n hx hb dX2_asOne_0 rfl (lv_at hl 3 rfl) ?_
  refine lv_iconst (v := (1 : Int32)) hx hb dX2_asOne_1 (by decide) ?_
  refine lv_icmp_ne (tgt := 7) hx hb dX2_asOne_2 (by decide) (fun c1 => ?_) (fun c1 => ?_)
  · replace hf := hf.1 c1
    refine lv_iload_n hx hb dX2_asOne_7 rfl (lv_at hl 3 rfl) ?_
    refine lv_bipush (v := (20 : Int32)) hx hb dX2_asOne_8 (by decide) ?_
    refine lv_icmp_gt (tgt := 25) hx hb dX2_asOne_10 (by decide) (fun c2 => ?_) (fun c2 => ?_)
    · replace hf := hf.1 c2
      exact mX2_asOne_J25 X hr hQ ha0 ha1  hf hR (lv_sub hl [0, 1, 2, 3, 4] rfl)
    · replace hf := hf.2 c2
      refine lv_aload_n hx hb dX2_asOne_13 rfl (lv_at hl 1 rfl) ?_
      refine lv_iload_n hx hb dX2_asOne_14 rfl (lv_at hl 2 rfl) ?_
      refine lv_iload_n hx hb dX2_asOne_15 rfl (lv_at hl 3 rfl) ?_
      refine lv_iconst (v := (1 : Int32)) hx hb dX2_asOne_16 (by decide) ?_
      refine z_callSI (fr1 := 0) (As := [.ref (ad a1), .int x2, .int x3, .int (1 : Int32)]) (rest := []) X (hr.le (by decide)) hR zy_X0_repeats zq_828 (mX0_repeats ⟨ha1.1, ha1.2⟩ hf) rfl hl (Nat.le_of_ble_eq_true rfl) dX2_asOne_17 rfl (fun r16 w16 H locs hf hR => ?_)
      refine lv_if_eq (tgt := 25) hx hb dX2_asOne_20 (by decide) (fun c17 => ?_) (fun c17 => ?_)
      · replace hf := hf.1 c17
        exact mX2_asOne_J25 X hr hQ ha0 ha1  hf hR (lv_sub hl [0, 1, 2, 3, 4] rfl)
      · replace hf := hf.2 c17
        refine lv_iconst (v := (2 : Int32)) hx hb dX2_asOne_23 (by decide) ?_
        exact hQ _ _ _ _ _ _ hf hR dX2_asOne_24
  · replace hf := hf.2 c1
    refine lv_iconst (v := (1 : Int32)) hx hb dX2_asOne_5 (by decide) ?_
    exact hQ _ _ _ _ _ _ hf hR dX2_asOne_6
/-! X2_best -/
def fX2_best_L14 (a0 : Nat) (a1 : Nat) (k : Int32 → zW → Prop) : Nat → Int32 → Int32 → Int32 → Int32 → zW → Prop
  | 0 => fun _ _ _ _ _ => False
  | n + 1 => fun x2 x3 x5 x6 w =>
    ((x3 ≤ x6 →
      k x5 w) ∧
     (¬ x3 ≤ x6 →
      ¬ gR w a0 1 = 0 ∧
      fX2_index x2 x6 w (fun r4 w4 =>
      vp_in r4 (zln (gR w a0 1)) ∧ 
      ¬ gR w4 a0 1 = 0 ∧
      fX2_index (x2 + x6) (x3 - x6) w4 (fun r7 w7 =>
      vp_in r7 (zln (gR w4 a0 1)) ∧ 
      ∀ v9 : Int32, v9 = (gI w4 (gR w a0 1) r4.toNatClampNeg) + (gI w7 (gR w4 a0 1) r7.toNatClampNeg) →
      ∀ v10 : Int32, v10 = (if v9 < x5 then v9 else x5) →
      fX2_best_L14 a0 a1 k n x2 x3 v10 (x6 + (1 : Int32)) w7))))
set_option maxHeartbeats 4000000 in
set_option maxRecDepth 100000 in
theorem mX2_best_L14 {k : Int32 → zW → Prop} {a0 : Nat} {a1 : Nat} (X : zCx p s m args meth c cX2_best 8 RX2 (some .int)) (hr : zRm R 2 cells slots) (hQ : zRetI p l e R s m args below meth c cells slots Q D dA true ad0 al0 ad al cX2_best k) (ha0 : al a0 ∧ zsh a0 = 2) (ha1 : al a1 ∧ zsh a1 = 20)  : ∀ (n : Nat) (x2 : Int32) (x3 : Int32) (x5 : Int32) (x6 : Int32) (w : zW) (H : Heap) (locs : List Loc) (ls : Array Slot), fX2_best_L14 a0 a1 k n x2 x3 x5 x6 w → zSt D dA true ad0 al0 ad al w s H locs → lv_has ls 8 [(0, .ref (ad a0)), (2, .int x2), (3, .int x3), (5, .int x5), (6, .int x6)] → W p l e R s m args below meth c H locs cells slots Q (F0 m 14 ls []) := by
  intro n
  induction n with
  | zero => exact fun _ _ _ _ _ _ _ _ hf => hf.elim
  | succ n ih =>
    intro x2 x3 x5 x6 w H locs ls hf hR hl
    have hx := X.1
    have hb := X.2.1
    have hml := X.2.2.1
    have hown := X.2.2.2.1
    have hts := X.2.2.2.2.1
    rw [fX2_best_L14] at hf
    refine lv_iload hx hb dX2_best_14 (lv_at hl 4 rfl) ?_
    refine lv_iload_n hx hb dX2_best_16 rfl (lv_at hl 2 rfl) ?_
    refine lv_icmp_ge (tgt := 65) hx hb dX2_best_17 (by decide) (fun c2 => ?_) (fun c2 => ?_)
    · replace hf := hf.1 c2
      refine lv_iload hx hb dX2_best_65 (lv_at hl 3 rfl) ?_
      exact hQ _ _ _ _ _ _ hf hR dX2_best_67
    · replace hf := hf.2 c2
      refine lv_aload_n hx hb dX2_best_20 rfl (lv_at hl 0 rfl) ?_
      refine z_getR X hR ha0.1 ha0.2 (by decide) zfd_X2_15 rfl dX2_best_21 ?_
      obtain ⟨hn30, hf⟩ := hf
      have hn3 : al (gR w a0 1) ∧ zsh (gR w a0 1) = 20 := zwt_of hR ha0.1 ha0.2 rfl hn30 (zdc_of ha0.2 rfl)
      rw [zrf_pos hn30]
      refine lv_iload_n hx hb dX2_best_24 rfl (lv_at hl 1 rfl) ?_
      refine lv_iload hx hb dX2_best_25 (lv_at hl 4 rfl) ?_
      refine z_callSI (fr1 := 0) (As := [.int x2, .int x6]) (rest := [.ref (ad (gR w a0 1))]) X (hr.le (by decide)) hR zy_X2_index zq_816 (mX2_index  hf) rfl hl (Nat.le_of_ble_eq_true rfl) dX2_best_27 rfl (fun r4 w4 H locs hf hR => ?_)
      obtain ⟨hb5, hf⟩ := hf
      refine z_iald X hR hn3.1 hn3.2 rfl hb5 dX2_best_30 ?_
      refine lv_aload_n hx hb dX2_best_31 rfl (lv_at hl 0 rfl) ?_
      refine z_getR X hR ha0.1 ha0.2 (by decide) zfd_X2_15 rfl dX2_best_32 ?_
      obtain ⟨hn60, hf⟩ := hf
      have hn6 : al (gR w4 a0 1) ∧ zsh (gR w4 a0 1) = 20 := zwt_of hR ha0.1 ha0.2 rfl hn60 (zdc_of ha0.2 rfl)
      rw [zrf_pos hn60]
      refine lv_iload_n hx hb dX2_best_35 rfl (lv_at hl 1 rfl) ?_
      refine lv_iload hx hb dX2_best_36 (lv_at hl 4 rfl) ?_
      refine lv_iadd hx hb dX2_best_38 ?_
      refine lv_iload_n hx hb dX2_best_39 rfl (lv_at hl 2 rfl) ?_
      refine lv_iload hx hb dX2_best_40 (lv_at hl 4 rfl) ?_
      refine lv_isub hx hb dX2_best_42 ?_
      refine z_callSI (fr1 := 0) (As := [.int (x2 + x6), .int (x3 - x6)]) (rest := [.ref (ad (gR w4 a0 1)), .int (gI w4 (gR w a0 1) r4.toNatClampNeg)]) X (hr.le (by decide)) hR zy_X2_index zq_816 (mX2_index  hf) rfl hl (Nat.le_of_ble_eq_true rfl) dX2_best_43 rfl (fun r7 w7 H locs hf hR => ?_)
      obtain ⟨hb8, hf⟩ := hf
      refine z_iald X hR hn6.1 hn6.2 rfl hb8 dX2_best_46 ?_
      refine lv_iadd hx hb dX2_best_47 ?_
      refine lv_topi (fun v9 hv9 => ?_)
      replace hf := hf v9 hv9
      refine lv_istore (lv' := [(7, .int v9), (0, .ref (ad a0)), (2, .int x2), (3, .int x3), (5, .int x5), (6, .int x6)]) hx hb dX2_best_48 hl (by decide) rfl (fun ls hl => ?_)
      refine lv_iload hx hb dX2_best_50 (lv_at hl 4 rfl) ?_
      refine lv_iload hx hb dX2_best_52 (lv_at hl 0 rfl) ?_
      refine va_mmin hx hb (by rw [hml]; exact hl.1.symm) hown (hts _ zq_823) (hts _ zq_339) (hts _ zq_336) (hts _ zq_340) (by have := hr.1; omega) (by have := hr.2.1; show (List.sum []) + 13 ≤ R.locals; simp only [List.sum_cons, List.sum_nil, Value.category]; omega) hr.2.2.1 hr.2.2.2 dX2_best_54 ?_
      refine lv_topi (fun v10 hv10 => ?_)
      replace hf := hf v10 hv10
      refine lv_istore (lv' := [(5, .int v10), (7, .int v9), (0, .ref (ad a0)), (2, .int x2), (3, .int x3), (6, .int x6)]) hx hb dX2_best_57 hl (by decide) rfl (fun ls hl => ?_)
      refine lv_iinc (v := x6 + (1 : Int32)) (lv' := [(6, .int (x6 + (1 : Int32))), (5, .int v10), (7, .int v9), (0, .ref (ad a0)), (2, .int x2), (3, .int x3)]) hx hb dX2_best_59 hl (k := 5) rfl rfl (by decide) rfl (fun ls hl => ?_)
      refine lv_goto (tgt := 14) hx hb dX2_best_62 (by decide) ?_
      exact ih x2 x3 v10 (x6 + (1 : Int32)) w7 _ _ _ hf hR (lv_sub hl [3, 4, 5, 1, 0] rfl)
def fX2_best (a0 : Nat) (a1 : Nat) (x2 : Int32) (x3 : Int32) (x4 : Int32) (w : zW) (k : Int32 → zW → Prop) : Prop :=
  fX2_asOne a0 a1 x2 x3 x4 w (fun r1 w1 =>
  ∃ n9, fX2_best_L14 a0 a1 k n9 x2 x3 r1 (1 : Int32) w1)
set_option maxHeartbeats 4000000 in
set_option maxRecDepth 100000 in
theorem mX2_best {l : Launch} {D : va_G} {dA : Nat → ClassId} {ad : Nat → Nat} {al : Nat → Prop} {w : zW} {k : Int32 → zW → Prop} {a0 : Nat} {a1 : Nat} {x2 : Int32} {x3 : Int32} {x4 : Int32} (ha0 : al a0 ∧ zsh a0 = 2) (ha1 : al a1 ∧ zsh a1 = 20)  (hf : fX2_best a0 a1 x2 x3 x4 w k) : zmetI l yX2_best cX2_best 8 (some .int) 2 [.ref (ad a0), .ref (ad a1), .int x2, .int x3, .int x4] D dA true ad al w k := by
  refine zmetI_of (by decide) (Nat.le_of_ble_eq_true rfl) ?_
  intro p e R s m below meth c Q H ls args locs cells slots X hr hQ hR hl
  have hx := X.1
  have hb := X.2.1
  have hml := X.2.2.1
  have hown := X.2.2.2.1
  have hts := X.2.2.2.2.1
  unfold fX2_best at hf
  have hl : lv_has ls 8 [(0, .ref (ad a0)), (1, .ref (ad a1)), (2, .int x2), (3, .int x3), (4, .int x4)] := hl
  refine lv_aload_n hx hb dX2_best_0 rfl (lv_at hl 0 rfl) ?_
  refine lv_aload_n hx hb dX2_best_1 rfl (lv_at hl 1 rfl) ?_
  refine lv_iload_n hx hb dX2_best_2 rfl (lv_at hl 2 rfl) ?_
  refine lv_iload_n hx hb dX2_best_3 rfl (lv_at hl 3 rfl) ?_
  refine lv_iload hx hb dX2_best_4 (lv_at hl 4 rfl) ?_
  refine z_callVI (fr1 := 1) (b := a0) (As := [.ref (ad a1), .int x2, .int x3, .int x4]) (rest := []) X (hr.le (by decide)) hR zy_X2_asOne zq_824 ha0.1 (by rw [ha0.2]; rfl) rfl (mX2_asOne ⟨ha0.1, ha0.2⟩ ⟨ha1.1, ha1.2⟩ hf) rfl hl (Nat.le_of_ble_eq_true rfl) dX2_best_6 rfl (fun r1 w1 H locs hf hR => ?_)
  refine lv_istore (lv' := [(5, .int r1), (0, .ref (ad a0)), (1, .ref (ad a1)), (2, .int x2), (3, .int x3), (4, .int x4)]) hx hb dX2_best_9 hl (by decide) rfl (fun ls hl => ?_)
  refine lv_iconst (v := (1 : Int32)) hx hb dX2_best_11 (by decide) ?_
  refine lv_istore (lv' := [(6, .int (1 : Int32)), (5, .int r1), (0, .ref (ad a0)), (1, .ref (ad a1)), (2, .int x2), (3, .int x3), (4, .int x4)]) hx hb dX2_best_12 hl (by decide) rfl (fun ls hl => ?_)
  obtain ⟨n9, hf⟩ := hf
  exact mX2_best_L14 X hr hQ ha0 ha1  n9 x2 x3 r1 (1 : Int32) w1 _ _ _ hf hR (lv_sub hl [2, 4, 5, 1, 0] rfl)
/-! X2_fewest -/
def fX2_fewest_L58 (a0 : Nat) (a1 : Nat) (k : Int32 → zW → Prop) (g21 : Int32 → Int32 → zW → Prop) (g49 : Int32 → Int32 → Int32 → zW → Prop) : Nat → Int32 → Int32 → Int32 → Int32 → zW → Prop
  | 0 => fun _ _ _ _ _ => False
  | n + 1 => fun x2 x3 x5 x6 w =>
    ((x2 < (x6 + x5) →
      g49 x2 x3 (x5 + (1 : Int32)) w) ∧
     (¬ x2 < (x6 + x5) →
      ¬ gR w a0 1 = 0 ∧
      fX2_index x6 x5 w (fun r15 w15 =>
      fX2_best a0 a1 x6 x5 x3 w15 (fun r16 w16 =>
      vp_in r15 (zln (gR w a0 1)) ∧ 
      ∀ w18 : zW, w18 = sI w16 (gR w a0 1) r15.toNatClampNeg r16 →
      fX2_fewest_L58 a0 a1 k g21 g49 n x2 x3 x5 (x6 + (1 : Int32)) w18))))
set_option maxHeartbeats 4000000 in
set_option maxRecDepth 100000 in
theorem mX2_fewest_L58 {k : Int32 → zW → Prop} {g21 : Int32 → Int32 → zW → Prop} {g49 : Int32 → Int32 → Int32 → zW → Prop} {a0 : Nat} {a1 : Nat} (X : zCx p s m args meth c cX2_fewest 7 RX2 (some .int)) (hr : zRm R 3 cells slots) (hQ : zRetI p l e R s m args below meth c cells slots Q D dA true ad0 al0 ad al cX2_fewest k) (ha0 : al a0 ∧ zsh a0 = 2) (ha1 : al a1 ∧ zsh a1 = 20) (hg21 : ∀ (x2 : Int32) (x3 : Int32) (w : zW) (H : Heap) (locs : List Loc) (ls : Array Slot), g21 x2 x3 w → zSt D dA true ad0 al0 ad al w s H locs → lv_has ls 7 [(0, .ref (ad a0)), (1, .ref (ad a1)), (2, .int x2), (3, .int x3)] → W p l e R s m args below meth c H locs cells slots Q (F0 m 21 ls [])) (hg49 : ∀ (x2 : Int32) (x3 : Int32) (x5 : Int32) (w : zW) (H : Heap) (locs : List Loc) (ls : Array Slot), g49 x2 x3 x5 w → zSt D dA true ad0 al0 ad al w s H locs → lv_has ls 7 [(0, .ref (ad a0)), (1, .ref (ad a1)), (2, .int x2), (3, .int x3), (5, .int x5)] → W p l e R s m args below meth c H locs cells slots Q (F0 m 49 ls [])) : ∀ (n : Nat) (x2 : Int32) (x3 : Int32) (x5 : Int32) (x6 : Int32) (w : zW) (H : Heap) (locs : List Loc) (ls : Array Slot), fX2_fewest_L58 a0 a1 k g21 g49 n x2 x3 x5 x6 w → zSt D dA true ad0 al0 ad al w s H locs → lv_has ls 7 [(0, .ref (ad a0)), (1, .ref (ad a1)), (2, .int x2), (3, .int x3), (5, .int x5), (6, .int x6)] → W p l e R s m args below meth c H locs cells slots Q (F0 m 58 ls []) := by
  intro n
  induction n with
  | zero => exact fun _ _ _ _ _ _ _ _ hf => hf.elim
  | succ n ih =>
    intro x2 x3 x5 x6 w H locs ls hf hR hl
    have hx := X.1
    have hb := X.2.1
    have hml := X.2.2.1
    have hown := X.2.2.2.1
    have hts := X.2.2.2.2.1
    rw [fX2_fewest_L58] at hf
    refine lv_iload hx hb dX2_fewest_58 (lv_at hl 5 rfl) ?_
    refine lv_iload hx hb dX2_fewest_60 (lv_at hl 4 rfl) ?_
    refine lv_iadd hx hb dX2_fewest_62 ?_
    refine lv_iload_n hx hb dX2_fewest_63 rfl (lv_at hl 2 rfl) ?_
    refine lv_icmp_gt (tgt := 95) hx hb dX2_fewest_64 (by decide) (fun c13 => ?_) (fun c13 => ?_)
    · replace hf := hf.1 c13
      refine lv_iinc (v := x5 + (1 : Int32)) (lv' := [(5, .int (x5 + (1 : Int32))), (0, .ref (ad a0)), (1, .ref (ad a1)), (2, .int x2), (3, .int x3), (6, .int x6)]) hx hb dX2_fewest_95 hl (k := 4) rfl rfl (by decide) rfl (fun ls hl => ?_)
      refine lv_goto (tgt := 49) hx hb dX2_fewest_98 (by decide) ?_
      exact hg49 x2 x3 (x5 + (1 : Int32)) w _ _ _ hf hR (lv_sub hl [1, 2, 3, 4, 0] rfl)
    · replace hf := hf.2 c13
      refine lv_aload_n hx hb dX2_fewest_67 rfl (lv_at hl 0 rfl) ?_
      refine z_getR X hR ha0.1 ha0.2 (by decide) zfd_X2_15 rfl dX2_fewest_68 ?_
      obtain ⟨hn140, hf⟩ := hf
      have hn14 : al (gR w a0 1) ∧ zsh (gR w a0 1) = 20 := zwt_of hR ha0.1 ha0.2 rfl hn140 (zdc_of ha0.2 rfl)
      rw [zrf_pos hn140]
      refine lv_iload hx hb dX2_fewest_71 (lv_at hl 5 rfl) ?_
      refine lv_iload hx hb dX2_fewest_73 (lv_at hl 4 rfl) ?_
      refine z_callSI (fr1 := 0) (As := [.int x6, .int x5]) (rest := [.ref (ad (gR w a0 1))]) X (hr.le (by decide)) hR zy_X2_index zq_816 (mX2_index  hf) rfl hl (Nat.le_of_ble_eq_true rfl) dX2_fewest_75 rfl (fun r15 w15 H locs hf hR => ?_)
      refine lv_aload_n hx hb dX2_fewest_78 rfl (lv_at hl 0 rfl) ?_
      refine lv_aload_n hx hb dX2_fewest_79 rfl (lv_at hl 1 rfl) ?_
      refine lv_iload hx hb dX2_fewest_80 (lv_at hl 5 rfl) ?_
      refine lv_iload hx hb dX2_fewest_82 (lv_at hl 4 rfl) ?_
      refine lv_iload_n hx hb dX2_fewest_84 rfl (lv_at hl 3 rfl) ?_
      refine z_callVI (fr1 := 2) (b := a0) (As := [.ref (ad a1), .int x6, .int x5, .int x3]) (rest := [.int r15, .ref (ad (gR w a0 1))]) X (hr.le (by decide)) hR zy_X2_best zq_819 ha0.1 (by rw [ha0.2]; rfl) rfl (mX2_best ⟨ha0.1, ha0.2⟩ ⟨ha1.1, ha1.2⟩ hf) rfl hl (Nat.le_of_ble_eq_true rfl) dX2_fewest_85 rfl (fun r16 w16 H locs hf hR => ?_)
      obtain ⟨hb17, hf⟩ := hf
      refine z_iast X hR hn14.1 hn14.2 rfl hb17 dX2_fewest_88 (fun H locs hR => ?_)
      obtain ⟨w18, hw18⟩ : ∃ z : zW, z = sI w16 (gR w a0 1) r15.toNatClampNeg r16 := ⟨_, rfl⟩
      rw [← hw18] at hR
      replace hf := hf w18 hw18
      refine lv_iinc (v := x6 + (1 : Int32)) (lv' := [(6, .int (x6 + (1 : Int32))), (0, .ref (ad a0)), (1, .ref (ad a1)), (2, .int x2), (3, .int x3), (5, .int x5)]) hx hb dX2_fewest_89 hl (k := 5) rfl rfl (by decide) rfl (fun ls hl => ?_)
      refine lv_goto (tgt := 58) hx hb dX2_fewest_92 (by decide) ?_
      exact ih x2 x3 x5 (x6 + (1 : Int32)) w18 _ _ _ hf hR (lv_sub hl [1, 2, 3, 4, 5, 0] rfl)
def fX2_fewest_L49 (a0 : Nat) (a1 : Nat) (k : Int32 → zW → Prop) (g21 : Int32 → Int32 → zW → Prop) : Nat → Int32 → Int32 → Int32 → zW → Prop
  | 0 => fun _ _ _ _ => False
  | n + 1 => fun x2 x3 x5 w =>
    ((x2 < x5 →
      g21 x2 (x3 + (1 : Int32)) w) ∧
     (¬ x2 < x5 →
      ∃ n9, fX2_fewest_L58 a0 a1 k g21 (fX2_fewest_L49 a0 a1 k g21 n) n9 x2 x3 x5 (0 : Int32) w))
set_option maxHeartbeats 4000000 in
set_option maxRecDepth 100000 in
theorem mX2_fewest_L49 {k : Int32 → zW → Prop} {g21 : Int32 → Int32 → zW → Prop} {a0 : Nat} {a1 : Nat} (X : zCx p s m args meth c cX2_fewest 7 RX2 (some .int)) (hr : zRm R 3 cells slots) (hQ : zRetI p l e R s m args below meth c cells slots Q D dA true ad0 al0 ad al cX2_fewest k) (ha0 : al a0 ∧ zsh a0 = 2) (ha1 : al a1 ∧ zsh a1 = 20) (hg21 : ∀ (x2 : Int32) (x3 : Int32) (w : zW) (H : Heap) (locs : List Loc) (ls : Array Slot), g21 x2 x3 w → zSt D dA true ad0 al0 ad al w s H locs → lv_has ls 7 [(0, .ref (ad a0)), (1, .ref (ad a1)), (2, .int x2), (3, .int x3)] → W p l e R s m args below meth c H locs cells slots Q (F0 m 21 ls [])) : ∀ (n : Nat) (x2 : Int32) (x3 : Int32) (x5 : Int32) (w : zW) (H : Heap) (locs : List Loc) (ls : Array Slot), fX2_fewest_L49 a0 a1 k g21 n x2 x3 x5 w → zSt D dA true ad0 al0 ad al w s H locs → lv_has ls 7 [(0, .ref (ad a0)), (1, .ref (ad a1)), (2, .int x2), (3, .int x3), (5, .int x5)] → W p l e R s m args below meth c H locs cells slots Q (F0 m 49 ls []) := by
  intro n
  induction n with
  | zero => exact fun _ _ _ _ _ _ _ hf => hf.elim
  | succ n ih =>
    intro x2 x3 x5 w H locs ls hf hR hl
    have hx := X.1
    have hb := X.2.1
    have hml := X.2.2.1
    have hown := X.2.2.2.1
    have hts := X.2.2.2.2.1
    rw [fX2_fewest_L49] at hf
    refine lv_iload hx hb dX2_fewest_49 (lv_at hl 4 rfl) ?_
    refine lv_iload_n hx hb dX2_fewest_51 rfl (lv_at hl 2 rfl) ?_
    refine lv_icmp_gt (tgt := 101) hx hb dX2_fewest_52 (by decide) (fun c12 => ?_) (fun c12 => ?_)
    · replace hf := hf.1 c12
      refine lv_iinc (v := x3 + (1 : Int32)) (lv' := [(3, .int (x3 + (1 : Int32))), (0, .ref (ad a0)), (1, .ref (ad a1)), (2, .int x2), (5, .int x5)]) hx hb dX2_fewest_101 hl (k := 3) rfl rfl (by decide) rfl (fun ls hl => ?_)
      refine lv_goto (tgt := 21) hx hb dX2_fewest_104 (by decide) ?_
      exact hg21 x2 (x3 + (1 : Int32)) w _ _ _ hf hR (lv_sub hl [1, 2, 3, 0] rfl)
    · replace hf := hf.2 c12
      refine lv_iconst (v := (0 : Int32)) hx hb dX2_fewest_55 (by decide) ?_
      refine lv_istore (lv' := [(6, .int (0 : Int32)), (0, .ref (ad a0)), (1, .ref (ad a1)), (2, .int x2), (3, .int x3), (5, .int x5)]) hx hb dX2_fewest_56 hl (by decide) rfl (fun ls hl => ?_)
      obtain ⟨n9, hf⟩ := hf
      exact mX2_fewest_L58 X hr hQ ha0 ha1 hg21 ih n9 x2 x3 x5 (0 : Int32) w _ _ _ hf hR (lv_sub hl [1, 2, 3, 4, 5, 0] rfl)
def fX2_fewest_L21 (a0 : Nat) (a1 : Nat) (k : Int32 → zW → Prop) : Nat → Int32 → Int32 → zW → Prop
  | 0 => fun _ _ _ => False
  | n + 1 => fun x2 x3 w =>
    (((3 : Int32) < x3 →
      ¬ gR w a0 1 = 0 ∧
      fX2_index (0 : Int32) x2 w (fun r6 w6 =>
      vp_in r6 (zln (gR w a0 1)) ∧ 
      k (gI w6 (gR w a0 1) r6.toNatClampNeg) w6)) ∧
     (¬ (3 : Int32) < x3 →
      ¬ gR w a0 0 = 0 ∧
      ¬ gR w a0 1 = 0 ∧
      ∀ w10 : zW, w10 = sR w a0 0 (gR w a0 1) →
      ∀ w11 : zW, w11 = sR w10 a0 1 (gR w a0 0) →
      ∃ n9, fX2_fewest_L49 a0 a1 k (fX2_fewest_L21 a0 a1 k n) n9 x2 x3 (1 : Int32) w11))
set_option maxHeartbeats 4000000 in
set_option maxRecDepth 100000 in
theorem mX2_fewest_L21 {k : Int32 → zW → Prop} {a0 : Nat} {a1 : Nat} (X : zCx p s m args meth c cX2_fewest 7 RX2 (some .int)) (hr : zRm R 3 cells slots) (hQ : zRetI p l e R s m args below meth c cells slots Q D dA true ad0 al0 ad al cX2_fewest k) (ha0 : al a0 ∧ zsh a0 = 2) (ha1 : al a1 ∧ zsh a1 = 20)  : ∀ (n : Nat) (x2 : Int32) (x3 : Int32) (w : zW) (H : Heap) (locs : List Loc) (ls : Array Slot), fX2_fewest_L21 a0 a1 k n x2 x3 w → zSt D dA true ad0 al0 ad al w s H locs → lv_has ls 7 [(0, .ref (ad a0)), (1, .ref (ad a1)), (2, .int x2), (3, .int x3)] → W p l e R s m args below meth c H locs cells slots Q (F0 m 21 ls []) := by
  intro n
  induction n with
  | zero => exact fun _ _ _ _ _ _ hf => hf.elim
  | succ n ih =>
    intro x2 x3 w H locs ls hf hR hl
    have hx := X.1
    have hb := X.2.1
    have hml := X.2.2.1
    have hown := X.2.2.2.1
    have hts := X.2.2.2.2.1
    rw [fX2_fewest_L21] at hf
    refine lv_iload_n hx hb dX2_fewest_21 rfl (lv_at hl 3 rfl) ?_
    refine lv_iconst (v := (3 : Int32)) hx hb dX2_fewest_22 (by decide) ?_
    refine lv_icmp_gt (tgt := 107) hx hb dX2_fewest_23 (by decide) (fun c4 => ?_) (fun c4 => ?_)
    · replace hf := hf.1 c4
      refine lv_aload_n hx hb dX2_fewest_107 rfl (lv_at hl 0 rfl) ?_
      refine z_getR X hR ha0.1 ha0.2 (by decide) zfd_X2_15 rfl dX2_fewest_108 ?_
      obtain ⟨hn50, hf⟩ := hf
      have hn5 : al (gR w a0 1) ∧ zsh (gR w a0 1) = 20 := zwt_of hR ha0.1 ha0.2 rfl hn50 (zdc_of ha0.2 rfl)
      rw [zrf_pos hn50]
      refine lv_iconst (v := (0 : Int32)) hx hb dX2_fewest_111 (by decide) ?_
      refine lv_iload_n hx hb dX2_fewest_112 rfl (lv_at hl 2 rfl) ?_
      refine z_callSI (fr1 := 0) (As := [.int (0 : Int32), .int x2]) (rest := [.ref (ad (gR w a0 1))]) X (hr.le (by decide)) hR zy_X2_index zq_816 (mX2_index  hf) rfl hl (Nat.le_of_ble_eq_true rfl) dX2_fewest_113 rfl (fun r6 w6 H locs hf hR => ?_)
      obtain ⟨hb7, hf⟩ := hf
      refine z_iald X hR hn5.1 hn5.2 rfl hb7 dX2_fewest_116 ?_
      exact hQ _ _ _ _ _ _ hf hR dX2_fewest_117
    · replace hf := hf.2 c4
      refine lv_aload_n hx hb dX2_fewest_26 rfl (lv_at hl 0 rfl) ?_
      refine z_getR X hR ha0.1 ha0.2 (by decide) zfd_X2_9 rfl dX2_fewest_27 ?_
      obtain ⟨hn80, hf⟩ := hf
      have hn8 : al (gR w a0 0) ∧ zsh (gR w a0 0) = 20 := zwt_of hR ha0.1 ha0.2 rfl hn80 (zdc_of ha0.2 rfl)
      rw [zrf_pos hn80]
      refine lv_astore (lv' := [(4, .ref (ad (gR w a0 0))), (0, .ref (ad a0)), (1, .ref (ad a1)), (2, .int x2), (3, .int x3)]) hx hb dX2_fewest_30 hl (by decide) rfl (fun ls hl => ?_)
      refine lv_aload_n hx hb dX2_fewest_32 rfl (lv_at hl 1 rfl) ?_
      refine lv_aload_n hx hb dX2_fewest_33 rfl (lv_at hl 1 rfl) ?_
      refine z_getR X hR ha0.1 ha0.2 (by decide) zfd_X2_15 rfl dX2_fewest_34 ?_
      obtain ⟨hn90, hf⟩ := hf
      have hn9 : al (gR w a0 1) ∧ zsh (gR w a0 1) = 20 := zwt_of hR ha0.1 ha0.2 rfl hn90 (zdc_of ha0.2 rfl)
      rw [zrf_pos hn90]
      refine z_putR X hR ha0.1 ha0.2 (by decide) zfp_X2_9 rfl rfl (zne0 hn9.2 (by decide)) hn9.1 (by rw [zdc_of ha0.2 rfl]; exact hn9.2) dX2_fewest_37 (fun H locs hR => ?_)
      obtain ⟨w10, hw10⟩ : ∃ z : zW, z = sR w a0 0 (gR w a0 1) := ⟨_, rfl⟩
      rw [← hw10] at hR
      replace hf := hf w10 hw10
      refine lv_aload_n hx hb dX2_fewest_40 rfl (lv_at hl 1 rfl) ?_
      refine lv_aload hx hb dX2_fewest_41 (lv_at hl 0 rfl) ?_
      refine z_putR X hR ha0.1 ha0.2 (by decide) zfp_X2_15 rfl rfl (zne0 hn8.2 (by decide)) hn8.1 (by rw [zdc_of ha0.2 rfl]; exact hn8.2) dX2_fewest_43 (fun H locs hR => ?_)
      obtain ⟨w11, hw11⟩ : ∃ z : zW, z = sR w10 a0 1 (gR w a0 0) := ⟨_, rfl⟩
      rw [← hw11] at hR
      replace hf := hf w11 hw11
      refine lv_iconst (v := (1 : Int32)) hx hb dX2_fewest_46 (by decide) ?_
      refine lv_istore (lv' := [(5, .int (1 : Int32)), (4, .ref (ad (gR w a0 0))), (0, .ref (ad a0)), (1, .ref (ad a1)), (2, .int x2), (3, .int x3)]) hx hb dX2_fewest_47 hl (by decide) rfl (fun ls hl => ?_)
      obtain ⟨n9, hf⟩ := hf
      exact mX2_fewest_L49 X hr hQ ha0 ha1 ih n9 x2 x3 (1 : Int32) w11 _ _ _ hf hR (lv_sub hl [2, 3, 4, 5, 0] rfl)
def fX2_fewest (a0 : Nat) (a1 : Nat) (x2 : Int32) (w : zW) (k : Int32 → zW → Prop) : Prop :=
  ((x2 < (1 : Int32) →
    k (0 : Int32) w) ∧
   (¬ x2 < (1 : Int32) →
    (((60 : Int32) < x2 →
      k (0 : Int32) w) ∧
     (¬ (60 : Int32) < x2 →
      ((x2 ≤ (Int32.ofNat (zln a1)) →
        ∃ n9, fX2_fewest_L21 a0 a1 k n9 x2 (0 : Int32) w) ∧
       (¬ x2 ≤ (Int32.ofNat (zln a1)) →
        k (0 : Int32) w))))))
set_option maxHeartbeats 4000000 in
set_option maxRecDepth 100000 in
theorem mX2_fewest {l : Launch} {D : va_G} {dA : Nat → ClassId} {ad : Nat → Nat} {al : Nat → Prop} {w : zW} {k : Int32 → zW → Prop} {a0 : Nat} {a1 : Nat} {x2 : Int32} (ha0 : al a0 ∧ zsh a0 = 2) (ha1 : al a1 ∧ zsh a1 = 20)  (hf : fX2_fewest a0 a1 x2 w k) : zmetI l yX2_fewest cX2_fewest 7 (some .int) 3 [.ref (ad a0), .ref (ad a1), .int x2] D dA true ad al w k := by
  refine zmetI_of (by decide) (Nat.le_of_ble_eq_true rfl) ?_
  intro p e R s m below meth c Q H ls args locs cells slots X hr hQ hR hl
  have hx := X.1
  have hb := X.2.1
  have hml := X.2.2.1
  have hown := X.2.2.2.1
  have hts := X.2.2.2.2.1
  unfold fX2_fewest at hf
  have hl : lv_has ls 7 [(0, .ref (ad a0)), (1, .ref (ad a1)), (2, .int x2)] := hl
  refine lv_iload_n hx hb dX2_fewest_0 rfl (lv_at hl 2 rfl) ?_
  refine lv_iconst (v := (1 : Int32)) hx hb dX2_fewest_1 (by decide) ?_
  refine lv_icmp_lt (tgt := 17) hx hb dX2_fewest_2 (by decide) (fun c1 => ?_) (fun c1 => ?_)
  · replace hf := hf.1 c1
    refine lv_iconst (v := (0 : Int32)) hx hb dX2_fewest_17 (by decide) ?_
    exact hQ _ _ _ _ _ _ hf hR dX2_fewest_18
  · replace hf := hf.2 c1
    refine lv_iload_n hx hb dX2_fewest_5 rfl (lv_at hl 2 rfl) ?_
    refine lv_bipush (v := (60 : Int32)) hx hb dX2_fewest_6 (by decide) ?_
    refine lv_icmp_gt (tgt := 17) hx hb dX2_fewest_8 (by decide) (fun c2 => ?_) (fun c2 => ?_)
    · replace hf := hf.1 c2
      refine lv_iconst (v := (0 : Int32)) hx hb dX2_fewest_17 (by decide) ?_
      exact hQ _ _ _ _ _ _ hf hR dX2_fewest_18
    · replace hf := hf.2 c2
      refine lv_iload_n hx hb dX2_fewest_11 rfl (lv_at hl 2 rfl) ?_
      refine lv_aload_n hx hb dX2_fewest_12 rfl (lv_at hl 1 rfl) ?_
      refine z_alen X hR ha1.1 ha1.2 (by decide) (by decide) rfl (v := Int32.ofNat (zln a1)) rfl dX2_fewest_13 ?_
      refine lv_icmp_le (tgt := 19) hx hb dX2_fewest_14 (by decide) (fun c3 => ?_) (fun c3 => ?_)
      · replace hf := hf.1 c3
        refine lv_iconst (v := (0 : Int32)) hx hb dX2_fewest_19 (by decide) ?_
        refine lv_istore_n (lv' := [(3, .int (0 : Int32)), (0, .ref (ad a0)), (1, .ref (ad a1)), (2, .int x2)]) hx hb dX2_fewest_20 rfl hl (by decide) rfl (fun ls hl => ?_)
        obtain ⟨n9, hf⟩ := hf
        exact mX2_fewest_L21 X hr hQ ha0 ha1  n9 x2 (0 : Int32) w _ _ _ hf hR (lv_sub hl [1, 2, 3, 0] rfl)
      · replace hf := hf.2 c3
        refine lv_iconst (v := (0 : Int32)) hx hb dX2_fewest_17 (by decide) ?_
        exact hQ _ _ _ _ _ _ hf hR dX2_fewest_18
/-! X3_begin -/
def fX3_begin (a0 : Nat) (a1 : Nat) (w : zW) (k : zW → Prop) : Prop :=
  fJ7_fill_53178 (a0 + 1) (-1 : Int32) w (fun w1 =>
  ¬ (0 : Int32) < 0 ∧ ¬ (4 : Int32) < 0 ∧ ¬ (8 : Int32) < 0 ∧ (0 : Int32).toNatClampNeg + (8 : Int32).toNatClampNeg ≤ 8 ∧ (4 : Int32).toNatClampNeg + (8 : Int32).toNatClampNeg ≤ 12 ∧ ∀ w2 : zW, w2 = cI w1 (a1 + 29) (0 : Int32).toNatClampNeg (a0 + 1) (4 : Int32).toNatClampNeg (8 : Int32).toNatClampNeg →
  k w2)
set_option maxHeartbeats 4000000 in
set_option maxRecDepth 100000 in
theorem mX3_begin {l : Launch} {D : va_G} {dA : Nat → ClassId} {ad : Nat → Nat} {al : Nat → Prop} {w : zW} {k : zW → Prop} {a0 : Nat} {a1 : Nat} (ha0 : al a0 ∧ zsh a0 = 3) (ha1 : al a1 ∧ zsh a1 = 0)  (hf : fX3_begin a0 a1 w k) : zmetV l yX3_begin cX3_begin 2 none 2 [.ref (ad a0), .ref (ad a1)] D dA true ad al w k := by
  refine zmetV_of (by decide) (Nat.le_of_ble_eq_true rfl) ?_
  intro p e R s m below meth c Q H ls args locs cells slots X hr hQ hR hl
  have hx := X.1
  have hb := X.2.1
  have hml := X.2.2.1
  have hown := X.2.2.2.1
  have hts := X.2.2.2.2.1
  unfold fX3_begin at hf
  have hl : lv_has ls 2 [(0, .ref (ad a0)), (1, .ref (ad a1))] := hl
  refine lv_aload_n hx hb dX3_begin_0 rfl (lv_at hl 0 rfl) ?_
  refine z_getS X hR ha0.1 ha0.2 (by decide) zfd_X3_9 rfl (r := a0 + 1) (zst_3 ha0.2 0 rfl) dX3_begin_1 ?_
  refine lv_iconst (v := (-1 : Int32)) hx hb dX3_begin_4 (by decide) ?_
  refine z_callSV (fr1 := 0) (As := [.ref (ad (a0 + 1)), .int (-1 : Int32)]) (rest := []) X (hr.le (by decide)) hR zy_J7_fill_53178 zq_83 (mJ7_fill_53178 ⟨(zoff hR ha0.2 zo_3_1).1, (zoff hR ha0.2 zo_3_1).2.1⟩ hf) rfl hl (Nat.le_of_ble_eq_true rfl) dX3_begin_5 rfl (fun w1 H locs hf hR => ?_)
  refine lv_aload_n hx hb dX3_begin_8 rfl (lv_at hl 1 rfl) ?_
  refine z_getS X hR ha1.1 ha1.2 (by decide) zfd_X3_21 rfl (r := a1 + 29) (zst_0 ha1.2 11 rfl) dX3_begin_9 ?_
  refine lv_iconst (v := (0 : Int32)) hx hb dX3_begin_12 (by decide) ?_
  refine lv_aload_n hx hb dX3_begin_13 rfl (lv_at hl 0 rfl) ?_
  refine z_getS X hR ha0.1 ha0.2 (by decide) zfd_X3_9 rfl (r := a0 + 1) (zst_3 ha0.2 0 rfl) dX3_begin_14 ?_
  refine lv_iconst (v := (4 : Int32)) hx hb dX3_begin_17 (by decide) ?_
  refine lv_bipush (v := (8 : Int32)) hx hb dX3_begin_18 (by decide) ?_
  obtain ⟨h1_2, h2_2, h3_2, h4_2, h5_2, hf⟩ := hf
  refine z_copyi (rest := []) X hR (by rw [hml]; exact hl.1.symm) zq_576 zq_577 zq_578 zq_579 (zoff hR ha1.2 zo_0_29).1 (zoff hR ha1.2 zo_0_29).2.1 (zoff hR ha1.2 zo_0_29).2.2 (zoff hR ha0.2 zo_3_1).1 (zoff hR ha0.2 zo_3_1).2.1 (zoff hR ha0.2 zo_3_1).2.2 h1_2 h2_2 h3_2 h4_2 h5_2 (by have := hr.1; omega) (by have := hr.2.1; exact Nat.le_trans (by decide) this) dX3_begin_20 (fun H locs hR => ?_)
  obtain ⟨w2, hw2⟩ : ∃ z : zW, z = cI w1 (a1 + 29) (0 : Int32).toNatClampNeg (a0 + 1) (4 : Int32).toNatClampNeg (8 : Int32).toNatClampNeg := ⟨_, rfl⟩
  rw [← hw2] at hR
  replace hf := hf w2 hw2
  exact hQ _ _ _ _ _ hf hR dX3_begin_23
/-! X3_copy -/
def fX3_copy (a0 : Nat) (a1 : Nat) (w : zW) (k : zW → Prop) : Prop :=
  ¬ (0 : Int32) < 0 ∧ ¬ (0 : Int32) < 0 ∧ ¬ (12 : Int32) < 0 ∧ (0 : Int32).toNatClampNeg + (12 : Int32).toNatClampNeg ≤ 12 ∧ (0 : Int32).toNatClampNeg + (12 : Int32).toNatClampNeg ≤ 12 ∧ ∀ w1 : zW, w1 = cI w (a1 + 1) (0 : Int32).toNatClampNeg (a0 + 1) (0 : Int32).toNatClampNeg (12 : Int32).toNatClampNeg →
  k w1
set_option maxHeartbeats 4000000 in
set_option maxRecDepth 100000 in
theorem mX3_copy {l : Launch} {D : va_G} {dA : Nat → ClassId} {ad : Nat → Nat} {al : Nat → Prop} {w : zW} {k : zW → Prop} {a0 : Nat} {a1 : Nat} (ha0 : al a0 ∧ zsh a0 = 3) (ha1 : al a1 ∧ zsh a1 = 3)  (hf : fX3_copy a0 a1 w k) : zmetV l yX3_copy cX3_copy 2 none 2 [.ref (ad a0), .ref (ad a1)] D dA true ad al w k := by
  refine zmetV_of (by decide) (Nat.le_of_ble_eq_true rfl) ?_
  intro p e R s m below meth c Q H ls args locs cells slots X hr hQ hR hl
  have hx := X.1
  have hb := X.2.1
  have hml := X.2.2.1
  have hown := X.2.2.2.1
  have hts := X.2.2.2.2.1
  unfold fX3_copy at hf
  have hl : lv_has ls 2 [(0, .ref (ad a0)), (1, .ref (ad a1))] := hl
  refine lv_aload_n hx hb dX3_copy_0 rfl (lv_at hl 1 rfl) ?_
  refine z_getS X hR ha1.1 ha1.2 (by decide) zfd_X3_9 rfl (r := a1 + 1) (zst_3 ha1.2 0 rfl) dX3_copy_1 ?_
  refine lv_iconst (v := (0 : Int32)) hx hb dX3_copy_4 (by decide) ?_
  refine lv_aload_n hx hb dX3_copy_5 rfl (lv_at hl 0 rfl) ?_
  refine z_getS X hR ha0.1 ha0.2 (by decide) zfd_X3_9 rfl (r := a0 + 1) (zst_3 ha0.2 0 rfl) dX3_copy_6 ?_
  refine lv_iconst (v := (0 : Int32)) hx hb dX3_copy_9 (by decide) ?_
  refine lv_aload_n hx hb dX3_copy_10 rfl (lv_at hl 0 rfl) ?_
  refine z_getS X hR ha0.1 ha0.2 (by decide) zfd_X3_9 rfl (r := a0 + 1) (zst_3 ha0.2 0 rfl) dX3_copy_11 ?_
  refine z_alen X hR (zoff hR ha0.2 zo_3_1).1 (zoff hR ha0.2 zo_3_1).2.1 (by decide) (by decide) (zoff hR ha0.2 zo_3_1).2.2 (v := (12 : Int32)) rfl dX3_copy_14 ?_
  obtain ⟨h1_1, h2_1, h3_1, h4_1, h5_1, hf⟩ := hf
  refine z_copyi (rest := []) X hR (by rw [hml]; exact hl.1.symm) zq_576 zq_577 zq_578 zq_579 (zoff hR ha1.2 zo_3_1).1 (zoff hR ha1.2 zo_3_1).2.1 (zoff hR ha1.2 zo_3_1).2.2 (zoff hR ha0.2 zo_3_1).1 (zoff hR ha0.2 zo_3_1).2.1 (zoff hR ha0.2 zo_3_1).2.2 h1_1 h2_1 h3_1 h4_1 h5_1 (by have := hr.1; omega) (by have := hr.2.1; exact Nat.le_trans (by decide) this) dX3_copy_15 (fun H locs hR => ?_)
  obtain ⟨w1, hw1⟩ : ∃ z : zW, z = cI w (a1 + 1) (0 : Int32).toNatClampNeg (a0 + 1) (0 : Int32).toNatClampNeg (12 : Int32).toNatClampNeg := ⟨_, rfl⟩
  rw [← hw1] at hR
  replace hf := hf w1 hw1
  exact hQ _ _ _ _ _ hf hR dX3_copy_18
/-! X3_at -/
def fX3_at (a0 : Nat) (x1 : Int32) (w : zW) (k : Int32 → zW → Prop) : Prop :=
  ((x1 < 0 →
    k (-1 : Int32) w) ∧
   (¬ x1 < 0 →
    (((12 : Int32) ≤ x1 →
      k (-1 : Int32) w) ∧
     (¬ (12 : Int32) ≤ x1 →
      vp_in x1 12 ∧ 
      k (gI w (a0 + 1) x1.toNatClampNeg) w))))
set_option maxHeartbeats 4000000 in
set_option maxRecDepth 100000 in
theorem mX3_at {l : Launch} {D : va_G} {dA : Nat → ClassId} {ad : Nat → Nat} {al : Nat → Prop} {w : zW} {k : Int32 → zW → Prop} {a0 : Nat} {x1 : Int32} (ha0 : al a0 ∧ zsh a0 = 3)  (hf : fX3_at a0 x1 w k) : zmetI l yX3_at cX3_at 2 (some .int) 0 [.ref (ad a0), .int x1] D dA true ad al w k := by
  refine zmetI_of (by decide) (Nat.le_of_ble_eq_true rfl) ?_
  intro p e R s m below meth c Q H ls args locs cells slots X hr hQ hR hl
  have hx := X.1
  have hb := X.2.1
  have hml := X.2.2.1
  have hown := X.2.2.2.1
  have hts := X.2.2.2.2.1
  unfold fX3_at at hf
  have hl : lv_has ls 2 [(0, .ref (ad a0)), (1, .int x1)] := hl
  refine lv_iload_n hx hb dX3_at_0 rfl (lv_at hl 1 rfl) ?_
  refine lv_if_lt (tgt := 22) hx hb dX3_at_1 (by decide) (fun c1 => ?_) (fun c1 => ?_)
  · replace hf := hf.1 c1
    refine lv_iconst (v := (-1 : Int32)) hx hb dX3_at_22 (by decide) ?_
    exact hQ _ _ _ _ _ _ hf hR dX3_at_23
  · replace hf := hf.2 c1
    refine lv_iload_n hx hb dX3_at_4 rfl (lv_at hl 1 rfl) ?_
    refine lv_aload_n hx hb dX3_at_5 rfl (lv_at hl 0 rfl) ?_
    refine z_getS X hR ha0.1 ha0.2 (by decide) zfd_X3_9 rfl (r := a0 + 1) (zst_3 ha0.2 0 rfl) dX3_at_6 ?_
    refine z_alen X hR (zoff hR ha0.2 zo_3_1).1 (zoff hR ha0.2 zo_3_1).2.1 (by decide) (by decide) (zoff hR ha0.2 zo_3_1).2.2 (v := (12 : Int32)) rfl dX3_at_9 ?_
    refine lv_icmp_ge (tgt := 22) hx hb dX3_at_10 (by decide) (fun c2 => ?_) (fun c2 => ?_)
    · replace hf := hf.1 c2
      refine lv_iconst (v := (-1 : Int32)) hx hb dX3_at_22 (by decide) ?_
      exact hQ _ _ _ _ _ _ hf hR dX3_at_23
    · replace hf := hf.2 c2
      refine lv_aload_n hx hb dX3_at_13 rfl (lv_at hl 0 rfl) ?_
      refine z_getS X hR ha0.1 ha0.2 (by decide) zfd_X3_9 rfl (r := a0 + 1) (zst_3 ha0.2 0 rfl) dX3_at_14 ?_
      refine lv_iload_n hx hb dX3_at_17 rfl (lv_at hl 1 rfl) ?_
      obtain ⟨hb3, hf⟩ := hf
      refine z_iald X hR (zoff hR ha0.2 zo_3_1).1 (zoff hR ha0.2 zo_3_1).2.1 (zoff hR ha0.2 zo_3_1).2.2 hb3 dX3_at_18 ?_
      refine lv_goto (tgt := 23) hx hb dX3_at_19 (by decide) ?_
      exact hQ _ _ _ _ _ _ hf hR dX3_at_23
/-! X3_put -/
def fX3_put (a0 : Nat) (x1 : Int32) (x2 : Int32) (w : zW) (k : Int32 → zW → Prop) : Prop :=
  fX3_at a0 x1 w (fun r1 w1 =>
  ((x1 < 0 →
    k r1 w1) ∧
   (¬ x1 < 0 →
    (((12 : Int32) ≤ x1 →
      k r1 w1) ∧
     (¬ (12 : Int32) ≤ x1 →
      vp_in x1 12 ∧ 
      ∀ w5 : zW, w5 = sI w1 (a0 + 1) x1.toNatClampNeg x2 →
      k r1 w5)))))
set_option maxHeartbeats 4000000 in
set_option maxRecDepth 100000 in
theorem mX3_put {l : Launch} {D : va_G} {dA : Nat → ClassId} {ad : Nat → Nat} {al : Nat → Prop} {w : zW} {k : Int32 → zW → Prop} {a0 : Nat} {x1 : Int32} {x2 : Int32} (ha0 : al a0 ∧ zsh a0 = 3)  (hf : fX3_put a0 x1 x2 w k) : zmetI l yX3_put cX3_put 4 (some .int) 1 [.ref (ad a0), .int x1, .int x2] D dA true ad al w k := by
  refine zmetI_of (by decide) (Nat.le_of_ble_eq_true rfl) ?_
  intro p e R s m below meth c Q H ls args locs cells slots X hr hQ hR hl
  have hx := X.1
  have hb := X.2.1
  have hml := X.2.2.1
  have hown := X.2.2.2.1
  have hts := X.2.2.2.2.1
  unfold fX3_put at hf
  have hl : lv_has ls 4 [(0, .ref (ad a0)), (1, .int x1), (2, .int x2)] := hl
  refine lv_aload_n hx hb dX3_put_0 rfl (lv_at hl 0 rfl) ?_
  refine lv_iload_n hx hb dX3_put_1 rfl (lv_at hl 1 rfl) ?_
  refine z_callVI (fr1 := 0) (b := a0) (As := [.int x1]) (rest := []) X (hr.le (by decide)) hR zy_X3_at zq_888 ha0.1 (by rw [ha0.2]; rfl) rfl (mX3_at ⟨ha0.1, ha0.2⟩ hf) rfl hl (Nat.le_of_ble_eq_true rfl) dX3_put_2 rfl (fun r1 w1 H locs hf hR => ?_)
  refine lv_istore_n (lv' := [(3, .int r1), (0, .ref (ad a0)), (1, .int x1), (2, .int x2)]) hx hb dX3_put_5 rfl hl (by decide) rfl (fun ls hl => ?_)
  refine lv_iload_n hx hb dX3_put_6 rfl (lv_at hl 2 rfl) ?_
  refine lv_if_lt (tgt := 26) hx hb dX3_put_7 (by decide) (fun c2 => ?_) (fun c2 => ?_)
  · replace hf := hf.1 c2
    refine lv_iload_n hx hb dX3_put_26 rfl (lv_at hl 0 rfl) ?_
    exact hQ _ _ _ _ _ _ hf hR dX3_put_27
  · replace hf := hf.2 c2
    refine lv_iload_n hx hb dX3_put_10 rfl (lv_at hl 2 rfl) ?_
    refine lv_aload_n hx hb dX3_put_11 rfl (lv_at hl 1 rfl) ?_
    refine z_getS X hR ha0.1 ha0.2 (by decide) zfd_X3_9 rfl (r := a0 + 1) (zst_3 ha0.2 0 rfl) dX3_put_12 ?_
    refine z_alen X hR (zoff hR ha0.2 zo_3_1).1 (zoff hR ha0.2 zo_3_1).2.1 (by decide) (by decide) (zoff hR ha0.2 zo_3_1).2.2 (v := (12 : Int32)) rfl dX3_put_15 ?_
    refine lv_icmp_ge (tgt := 26) hx hb dX3_put_16 (by decide) (fun c3 => ?_) (fun c3 => ?_)
    · replace hf := hf.1 c3
      refine lv_iload_n hx hb dX3_put_26 rfl (lv_at hl 0 rfl) ?_
      exact hQ _ _ _ _ _ _ hf hR dX3_put_27
    · replace hf := hf.2 c3
      refine lv_aload_n hx hb dX3_put_19 rfl (lv_at hl 1 rfl) ?_
      refine z_getS X hR ha0.1 ha0.2 (by decide) zfd_X3_9 rfl (r := a0 + 1) (zst_3 ha0.2 0 rfl) dX3_put_20 ?_
      refine lv_iload_n hx hb dX3_put_23 rfl (lv_at hl 2 rfl) ?_
      refine lv_iload_n hx hb dX3_put_24 rfl (lv_at hl 3 rfl) ?_
      obtain ⟨hb4, hf⟩ := hf
      refine z_iast X hR (zoff hR ha0.2 zo_3_1).1 (zoff hR ha0.2 zo_3_1).2.1 (zoff hR ha0.2 zo_3_1).2.2 hb4 dX3_put_25 (fun H locs hR => ?_)
      obtain ⟨w5, hw5⟩ : ∃ z : zW, z = sI w1 (a0 + 1) x1.toNatClampNeg x2 := ⟨_, rfl⟩
      rw [← hw5] at hR
      replace hf := hf w5 hw5
      refine lv_iload_n hx hb dX3_put_26 rfl (lv_at hl 0 rfl) ?_
      exact hQ _ _ _ _ _ _ hf hR dX3_put_27
/-! X3_guessOf -/
def fX3_guessOf (a0 : Nat) (x1 : Int32) (w : zW) (k : Int32 → zW → Prop) : Prop :=
  ((x1 < 0 →
    k (-1 : Int32) w) ∧
   (¬ x1 < 0 →
    (((4 : Int32) ≤ x1 →
      k (-1 : Int32) w) ∧
     (¬ (4 : Int32) ≤ x1 →
      vp_in x1 12 ∧ 
      k (gI w (a0 + 1) x1.toNatClampNeg) w))))
set_option maxHeartbeats 4000000 in
set_option maxRecDepth 100000 in
theorem mX3_guessOf {l : Launch} {D : va_G} {dA : Nat → ClassId} {ad : Nat → Nat} {al : Nat → Prop} {w : zW} {k : Int32 → zW → Prop} {a0 : Nat} {x1 : Int32} (ha0 : al a0 ∧ zsh a0 = 3)  (hf : fX3_guessOf a0 x1 w k) : zmetI l yX3_guessOf cX3_guessOf 2 (some .int) 0 [.ref (ad a0), .int x1] D dA true ad al w k := by
  refine zmetI_of (by decide) (Nat.le_of_ble_eq_true rfl) ?_
  intro p e R s m below meth c Q H ls args locs cells slots X hr hQ hR hl
  have hx := X.1
  have hb := X.2.1
  have hml := X.2.2.1
  have hown := X.2.2.2.1
  have hts := X.2.2.2.2.1
  unfold fX3_guessOf at hf
  have hl : lv_has ls 2 [(0, .ref (ad a0)), (1, .int x1)] := hl
  refine lv_iload_n hx hb dX3_guessOf_0 rfl (lv_at hl 1 rfl) ?_
  refine lv_if_lt (tgt := 18) hx hb dX3_guessOf_1 (by decide) (fun c1 => ?_) (fun c1 => ?_)
  · replace hf := hf.1 c1
    refine lv_iconst (v := (-1 : Int32)) hx hb dX3_guessOf_18 (by decide) ?_
    exact hQ _ _ _ _ _ _ hf hR dX3_guessOf_19
  · replace hf := hf.2 c1
    refine lv_iload_n hx hb dX3_guessOf_4 rfl (lv_at hl 1 rfl) ?_
    refine lv_iconst (v := (4 : Int32)) hx hb dX3_guessOf_5 (by decide) ?_
    refine lv_icmp_ge (tgt := 18) hx hb dX3_guessOf_6 (by decide) (fun c2 => ?_) (fun c2 => ?_)
    · replace hf := hf.1 c2
      refine lv_iconst (v := (-1 : Int32)) hx hb dX3_guessOf_18 (by decide) ?_
      exact hQ _ _ _ _ _ _ hf hR dX3_guessOf_19
    · replace hf := hf.2 c2
      refine lv_aload_n hx hb dX3_guessOf_9 rfl (lv_at hl 0 rfl) ?_
      refine z_getS X hR ha0.1 ha0.2 (by decide) zfd_X3_9 rfl (r := a0 + 1) (zst_3 ha0.2 0 rfl) dX3_guessOf_10 ?_
      refine lv_iload_n hx hb dX3_guessOf_13 rfl (lv_at hl 1 rfl) ?_
      obtain ⟨hb3, hf⟩ := hf
      refine z_iald X hR (zoff hR ha0.2 zo_3_1).1 (zoff hR ha0.2 zo_3_1).2.1 (zoff hR ha0.2 zo_3_1).2.2 hb3 dX3_guessOf_14 ?_
      refine lv_goto (tgt := 19) hx hb dX3_guessOf_15 (by decide) ?_
      exact hQ _ _ _ _ _ _ hf hR dX3_guessOf_19
/-! X3_countOf -/
def fX3_countOf (a0 : Nat) (x1 : Int32) (w : zW) (k : Int32 → zW → Prop) : Prop :=
  ((x1 < 0 →
    k (-1 : Int32) w) ∧
   (¬ x1 < 0 →
    (((8 : Int32) ≤ x1 →
      k (-1 : Int32) w) ∧
     (¬ (8 : Int32) ≤ x1 →
      vp_in ((4 : Int32) + x1) 12 ∧ 
      k (gI w (a0 + 1) ((4 : Int32) + x1).toNatClampNeg) w))))
set_option maxHeartbeats 4000000 in
set_option maxRecDepth 100000 in
theorem mX3_countOf {l : Launch} {D : va_G} {dA : Nat → ClassId} {ad : Nat → Nat} {al : Nat → Prop} {w : zW} {k : Int32 → zW → Prop} {a0 : Nat} {x1 : Int32} (ha0 : al a0 ∧ zsh a0 = 3)  (hf : fX3_countOf a0 x1 w k) : zmetI l yX3_countOf cX3_countOf 2 (some .int) 0 [.ref (ad a0), .int x1] D dA true ad al w k := by
  refine zmetI_of (by decide) (Nat.le_of_ble_eq_true rfl) ?_
  intro p e R s m below meth c Q H ls args locs cells slots X hr hQ hR hl
  have hx := X.1
  have hb := X.2.1
  have hml := X.2.2.1
  have hown := X.2.2.2.1
  have hts := X.2.2.2.2.1
  unfold fX3_countOf at hf
  have hl : lv_has ls 2 [(0, .ref (ad a0)), (1, .int x1)] := hl
  refine lv_iload_n hx hb dX3_countOf_0 rfl (lv_at hl 1 rfl) ?_
  refine lv_if_lt (tgt := 21) hx hb dX3_countOf_1 (by decide) (fun c1 => ?_) (fun c1 => ?_)
  · replace hf := hf.1 c1
    refine lv_iconst (v := (-1 : Int32)) hx hb dX3_countOf_21 (by decide) ?_
    exact hQ _ _ _ _ _ _ hf hR dX3_countOf_22
  · replace hf := hf.2 c1
    refine lv_iload_n hx hb dX3_countOf_4 rfl (lv_at hl 1 rfl) ?_
    refine lv_bipush (v := (8 : Int32)) hx hb dX3_countOf_5 (by decide) ?_
    refine lv_icmp_ge (tgt := 21) hx hb dX3_countOf_7 (by decide) (fun c2 => ?_) (fun c2 => ?_)
    · replace hf := hf.1 c2
      refine lv_iconst (v := (-1 : Int32)) hx hb dX3_countOf_21 (by decide) ?_
      exact hQ _ _ _ _ _ _ hf hR dX3_countOf_22
    · replace hf := hf.2 c2
      refine lv_aload_n hx hb dX3_countOf_10 rfl (lv_at hl 0 rfl) ?_
      refine z_getS X hR ha0.1 ha0.2 (by decide) zfd_X3_9 rfl (r := a0 + 1) (zst_3 ha0.2 0 rfl) dX3_countOf_11 ?_
      refine lv_iconst (v := (4 : Int32)) hx hb dX3_countOf_14 (by decide) ?_
      refine lv_iload_n hx hb dX3_countOf_15 rfl (lv_at hl 1 rfl) ?_
      refine lv_iadd hx hb dX3_countOf_16 ?_
      obtain ⟨hb3, hf⟩ := hf
      refine z_iald X hR (zoff hR ha0.2 zo_3_1).1 (zoff hR ha0.2 zo_3_1).2.1 (zoff hR ha0.2 zo_3_1).2.2 hb3 dX3_countOf_17 ?_
      refine lv_goto (tgt := 22) hx hb dX3_countOf_18 (by decide) ?_
      exact hQ _ _ _ _ _ _ hf hR dX3_countOf_22
/-! X3_guessBits -/
def fX3_guessBits_J26 (a0 : Nat) (k : Int32 → zW → Prop) (g4 : Int32 → Int32 → zW → Prop) (x2 : Int32) (t0 : Int32) (t1 : Int32) (w : zW) : Prop :=
  ∀ v4 : Int32, v4 = t1 ||| t0 →
  g4 v4 (x2 + (1 : Int32)) w
set_option maxHeartbeats 4000000 in
set_option maxRecDepth 100000 in
theorem mX3_guessBits_J26 {k : Int32 → zW → Prop} {g4 : Int32 → Int32 → zW → Prop} {a0 : Nat} (X : zCx p s m args meth c cX3_guessBits 3 RX3 (some .int)) (hr : zRm R 1 cells slots) (hQ : zRetI p l e R s m args below meth c cells slots Q D dA true ad0 al0 ad al cX3_guessBits k) (ha0 : al a0 ∧ zsh a0 = 3) (hg4 : ∀ (x1 : Int32) (x2 : Int32) (w : zW) (H : Heap) (locs : List Loc) (ls : Array Slot), g4 x1 x2 w → zSt D dA true ad0 al0 ad al w s H locs → lv_has ls 3 [(0, .ref (ad a0)), (1, .int x1), (2, .int x2)] → W p l e R s m args below meth c H locs cells slots Q (F0 m 4 ls [])) {x2 : Int32} {t0 : Int32} {t1 : Int32} {w : zW} {H : Heap} {locs : List Loc} {ls : Array Slot} (hf : fX3_guessBits_J26 a0 k g4 x2 t0 t1 w) (hR : zSt D dA true ad0 al0 ad al w s H locs) (hl : lv_has ls 3 [(0, .ref (ad a0)), (2, .int x2)]) : W p l e R s m args below meth c H locs cells slots Q (F0 m 26 ls [.int t0, .int t1]) := by
  have hx := X.1
  have hb := X.2.1
  have hml := X.2.2.1
  have hown := X.2.2.2.1
  have hts := X.2.2.2.2.1
  unfold fX3_guessBits_J26 at hf
  refine lv_ior hx hb dX3_guessBits_26 ?_
  refine lv_topi (fun v4 hv4 => ?_)
  replace hf := hf v4 hv4
  refine lv_istore_n (lv' := [(1, .int v4), (0, .ref (ad a0)), (2, .int x2)]) hx hb dX3_guessBits_27 rfl hl (by decide) rfl (fun ls hl => ?_)
  refine lv_iinc (v := x2 + (1 : Int32)) (lv' := [(2, .int (x2 + (1 : Int32))), (1, .int v4), (0, .ref (ad a0))]) hx hb dX3_guessBits_28 hl (k := 2) rfl rfl (by decide) rfl (fun ls hl => ?_)
  refine lv_goto (tgt := 4) hx hb dX3_guessBits_31 (by decide) ?_
  exact hg4 v4 (x2 + (1 : Int32)) w _ _ _ hf hR (lv_sub hl [2, 1, 0] rfl)
def fX3_guessBits_L4 (a0 : Nat) (k : Int32 → zW → Prop) : Nat → Int32 → Int32 → zW → Prop
  | 0 => fun _ _ _ => False
  | n + 1 => fun x1 x2 w =>
    (((4 : Int32) ≤ x2 →
      k x1 w) ∧
     (¬ (4 : Int32) ≤ x2 →
      fX3_guessOf a0 x2 w (fun r2 w2 =>
      ∀ v3 : Int32, v3 = (if r2 = (-1 : Int32) then (0 : Int32) else ((1 : Int32) <<< (x2 &&& 31))) →
      fX3_guessBits_J26 a0 k (fX3_guessBits_L4 a0 k n) x2 v3 x1 w2)))
set_option maxHeartbeats 4000000 in
set_option maxRecDepth 100000 in
theorem mX3_guessBits_L4 {k : Int32 → zW → Prop} {a0 : Nat} (X : zCx p s m args meth c cX3_guessBits 3 RX3 (some .int)) (hr : zRm R 1 cells slots) (hQ : zRetI p l e R s m args below meth c cells slots Q D dA true ad0 al0 ad al cX3_guessBits k) (ha0 : al a0 ∧ zsh a0 = 3)  : ∀ (n : Nat) (x1 : Int32) (x2 : Int32) (w : zW) (H : Heap) (locs : List Loc) (ls : Array Slot), fX3_guessBits_L4 a0 k n x1 x2 w → zSt D dA true ad0 al0 ad al w s H locs → lv_has ls 3 [(0, .ref (ad a0)), (1, .int x1), (2, .int x2)] → W p l e R s m args below meth c H locs cells slots Q (F0 m 4 ls []) := by
  intro n
  induction n with
  | zero => exact fun _ _ _ _ _ _ hf => hf.elim
  | succ n ih =>
    intro x1 x2 w H locs ls hf hR hl
    have hx := X.1
    have hb := X.2.1
    have hml := X.2.2.1
    have hown := X.2.2.2.1
    have hts := X.2.2.2.2.1
    rw [fX3_guessBits_L4] at hf
    refine lv_iload_n hx hb dX3_guessBits_4 rfl (lv_at hl 2 rfl) ?_
    refine lv_iconst (v := (4 : Int32)) hx hb dX3_guessBits_5 (by decide) ?_
    refine lv_icmp_ge (tgt := 34) hx hb dX3_guessBits_6 (by decide) (fun c1 => ?_) (fun c1 => ?_)
    · replace hf := hf.1 c1
      refine lv_iload_n hx hb dX3_guessBits_34 rfl (lv_at hl 1 rfl) ?_
      exact hQ _ _ _ _ _ _ hf hR dX3_guessBits_35
    · replace hf := hf.2 c1
      refine lv_iload_n hx hb dX3_guessBits_9 rfl (lv_at hl 1 rfl) ?_
      refine lv_aload_n hx hb dX3_guessBits_10 rfl (lv_at hl 0 rfl) ?_
      refine lv_iload_n hx hb dX3_guessBits_11 rfl (lv_at hl 2 rfl) ?_
      refine z_callVI (fr1 := 0) (b := a0) (As := [.int x2]) (rest := [.int x1]) X (hr.le (by decide)) hR zy_X3_guessOf zq_1038 ha0.1 (by rw [ha0.2]; rfl) rfl (mX3_guessOf ⟨ha0.1, ha0.2⟩ hf) rfl hl (Nat.le_of_ble_eq_true rfl) dX3_guessBits_12 rfl (fun r2 w2 H locs hf hR => ?_)
      refine lv_iconst (v := (-1 : Int32)) hx hb dX3_guessBits_15 (by decide) ?_
      have kJ3 : ∀ v3 : Int32, v3 = (if r2 = (-1 : Int32) then (0 : Int32) else ((1 : Int32) <<< (x2 &&& 31))) → W p l e R s m args below meth c H locs cells slots Q (F0 m 26 ls (.int v3 :: .int x1 :: [])) := by
        intro v3 hv3
        replace hf := hf v3 hv3
        exact mX3_guessBits_J26 X hr hQ ha0 ih hf hR (lv_sub hl [0, 2] rfl)
      refine lv_icmp_eq (tgt := 25) hx hb dX3_guessBits_16 (by decide) (fun c3 => ?_) (fun c3 => ?_)
      · refine lv_iconst (v := (0 : Int32)) hx hb dX3_guessBits_25 (by decide) ?_
        exact kJ3 _ (if_pos c3).symm
      · refine lv_iconst (v := (1 : Int32)) hx hb dX3_guessBits_19 (by decide) ?_
        refine lv_iload_n hx hb dX3_guessBits_20 rfl (lv_at hl 2 rfl) ?_
        refine lv_ishl hx hb dX3_guessBits_21 ?_
        refine lv_goto (tgt := 26) hx hb dX3_guessBits_22 (by decide) ?_
        exact kJ3 _ (if_neg c3).symm
def fX3_guessBits (a0 : Nat) (w : zW) (k : Int32 → zW → Prop) : Prop :=
  ∃ n9, fX3_guessBits_L4 a0 k n9 (0 : Int32) (0 : Int32) w
set_option maxHeartbeats 4000000 in
set_option maxRecDepth 100000 in
theorem mX3_guessBits {l : Launch} {D : va_G} {dA : Nat → ClassId} {ad : Nat → Nat} {al : Nat → Prop} {w : zW} {k : Int32 → zW → Prop} {a0 : Nat} (ha0 : al a0 ∧ zsh a0 = 3)  (hf : fX3_guessBits a0 w k) : zmetI l yX3_guessBits cX3_guessBits 3 (some .int) 1 [.ref (ad a0)] D dA true ad al w k := by
  refine zmetI_of (by decide) (Nat.le_of_ble_eq_true rfl) ?_
  intro p e R s m below meth c Q H ls args locs cells slots X hr hQ hR hl
  have hx := X.1
  have hb := X.2.1
  have hml := X.2.2.1
  have hown := X.2.2.2.1
  have hts := X.2.2.2.2.1
  unfold fX3_guessBits at hf
  have hl : lv_has ls 3 [(0, .ref (ad a0))] := hl
  refine lv_iconst (v := (0 : Int32)) hx hb dX3_guessBits_0 (by decide) ?_
  refine lv_istore_n (lv' := [(1, .int (0 : Int32)), (0, .ref (ad a0))]) hx hb dX3_guessBits_1 rfl hl (by decide) rfl (fun ls hl => ?_)
  refine lv_iconst (v := (0 : Int32)) hx hb dX3_guessBits_2 (by decide) ?_
  refine lv_istore_n (lv' := [(2, .int (0 : Int32)), (1, .int (0 : Int32)), (0, .ref (ad a0))]) hx hb dX3_guessBits_3 rfl hl (by decide) rfl (fun ls hl => ?_)
  obtain ⟨n9, hf⟩ := hf
  exact mX3_guessBits_L4 X hr hQ ha0  n9 (0 : Int32) (0 : Int32) w _ _ _ hf hR (lv_sub hl [2, 1, 0] rfl)
/-! X3_countBits -/
def fX3_countBits_J27 (a0 : Nat) (k : Int32 → zW → Prop) (g4 : Int32 → Int32 → zW → Prop) (x2 : Int32) (t0 : Int32) (t1 : Int32) (w : zW) : Prop :=
  ∀ v4 : Int32, v4 = t1 ||| t0 →
  g4 v4 (x2 + (1 : Int32)) w
set_option maxHeartbeats 4000000 in
set_option maxRecDepth 100000 in
theorem mX3_countBits_J27 {k : Int32 → zW → Prop} {g4 : Int32 → Int32 → zW → Prop} {a0 : Nat} (X : zCx p s m args meth c cX3_countBits 3 RX3 (some .int)) (hr : zRm R 1 cells slots) (hQ : zRetI p l e R s m args below meth c cells slots Q D dA true ad0 al0 ad al cX3_countBits k) (ha0 : al a0 ∧ zsh a0 = 3) (hg4 : ∀ (x1 : Int32) (x2 : Int32) (w : zW) (H : Heap) (locs : List Loc) (ls : Array Slot), g4 x1 x2 w → zSt D dA true ad0 al0 ad al w s H locs → lv_has ls 3 [(0, .ref (ad a0)), (1, .int x1), (2, .int x2)] → W p l e R s m args below meth c H locs cells slots Q (F0 m 4 ls [])) {x2 : Int32} {t0 : Int32} {t1 : Int32} {w : zW} {H : Heap} {locs : List Loc} {ls : Array Slot} (hf : fX3_countBits_J27 a0 k g4 x2 t0 t1 w) (hR : zSt D dA true ad0 al0 ad al w s H locs) (hl : lv_has ls 3 [(0, .ref (ad a0)), (2, .int x2)]) : W p l e R s m args below meth c H locs cells slots Q (F0 m 27 ls [.int t0, .int t1]) := by
  have hx := X.1
  have hb := X.2.1
  have hml := X.2.2.1
  have hown := X.2.2.2.1
  have hts := X.2.2.2.2.1
  unfold fX3_countBits_J27 at hf
  refine lv_ior hx hb dX3_countBits_27 ?_
  refine lv_topi (fun v4 hv4 => ?_)
  replace hf := hf v4 hv4
  refine lv_istore_n (lv' := [(1, .int v4), (0, .ref (ad a0)), (2, .int x2)]) hx hb dX3_countBits_28 rfl hl (by decide) rfl (fun ls hl => ?_)
  refine lv_iinc (v := x2 + (1 : Int32)) (lv' := [(2, .int (x2 + (1 : Int32))), (1, .int v4), (0, .ref (ad a0))]) hx hb dX3_countBits_29 hl (k := 2) rfl rfl (by decide) rfl (fun ls hl => ?_)
  refine lv_goto (tgt := 4) hx hb dX3_countBits_32 (by decide) ?_
  exact hg4 v4 (x2 + (1 : Int32)) w _ _ _ hf hR (lv_sub hl [2, 1, 0] rfl)
def fX3_countBits_L4 (a0 : Nat) (k : Int32 → zW → Prop) : Nat → Int32 → Int32 → zW → Prop
  | 0 => fun _ _ _ => False
  | n + 1 => fun x1 x2 w =>
    (((8 : Int32) ≤ x2 →
      k x1 w) ∧
     (¬ (8 : Int32) ≤ x2 →
      fX3_countOf a0 x2 w (fun r2 w2 =>
      ∀ v3 : Int32, v3 = (if r2 = (-1 : Int32) then (0 : Int32) else ((1 : Int32) <<< (x2 &&& 31))) →
      fX3_countBits_J27 a0 k (fX3_countBits_L4 a0 k n) x2 v3 x1 w2)))
set_option maxHeartbeats 4000000 in
set_option maxRecDepth 100000 in
theorem mX3_countBits_L4 {k : Int32 → zW → Prop} {a0 : Nat} (X : zCx p s m args meth c cX3_countBits 3 RX3 (some .int)) (hr : zRm R 1 cells slots) (hQ : zRetI p l e R s m args below meth c cells slots Q D dA true ad0 al0 ad al cX3_countBits k) (ha0 : al a0 ∧ zsh a0 = 3)  : ∀ (n : Nat) (x1 : Int32) (x2 : Int32) (w : zW) (H : Heap) (locs : List Loc) (ls : Array Slot), fX3_countBits_L4 a0 k n x1 x2 w → zSt D dA true ad0 al0 ad al w s H locs → lv_has ls 3 [(0, .ref (ad a0)), (1, .int x1), (2, .int x2)] → W p l e R s m args below meth c H locs cells slots Q (F0 m 4 ls []) := by
  intro n
  induction n with
  | zero => exact fun _ _ _ _ _ _ hf => hf.elim
  | succ n ih =>
    intro x1 x2 w H locs ls hf hR hl
    have hx := X.1
    have hb := X.2.1
    have hml := X.2.2.1
    have hown := X.2.2.2.1
    have hts := X.2.2.2.2.1
    rw [fX3_countBits_L4] at hf
    refine lv_iload_n hx hb dX3_countBits_4 rfl (lv_at hl 2 rfl) ?_
    refine lv_bipush (v := (8 : Int32)) hx hb dX3_countBits_5 (by decide) ?_
    refine lv_icmp_ge (tgt := 35) hx hb dX3_countBits_7 (by decide) (fun c1 => ?_) (fun c1 => ?_)
    · replace hf := hf.1 c1
      refine lv_iload_n hx hb dX3_countBits_35 rfl (lv_at hl 1 rfl) ?_
      exact hQ _ _ _ _ _ _ hf hR dX3_countBits_36
    · replace hf := hf.2 c1
      refine lv_iload_n hx hb dX3_countBits_10 rfl (lv_at hl 1 rfl) ?_
      refine lv_aload_n hx hb dX3_countBits_11 rfl (lv_at hl 0 rfl) ?_
      refine lv_iload_n hx hb dX3_countBits_12 rfl (lv_at hl 2 rfl) ?_
      refine z_callVI (fr1 := 0) (b := a0) (As := [.int x2]) (rest := [.int x1]) X (hr.le (by decide)) hR zy_X3_countOf zq_1047 ha0.1 (by rw [ha0.2]; rfl) rfl (mX3_countOf ⟨ha0.1, ha0.2⟩ hf) rfl hl (Nat.le_of_ble_eq_true rfl) dX3_countBits_13 rfl (fun r2 w2 H locs hf hR => ?_)
      refine lv_iconst (v := (-1 : Int32)) hx hb dX3_countBits_16 (by decide) ?_
      have kJ3 : ∀ v3 : Int32, v3 = (if r2 = (-1 : Int32) then (0 : Int32) else ((1 : Int32) <<< (x2 &&& 31))) → W p l e R s m args below meth c H locs cells slots Q (F0 m 27 ls (.int v3 :: .int x1 :: [])) := by
        intro v3 hv3
        replace hf := hf v3 hv3
        exact mX3_countBits_J27 X hr hQ ha0 ih hf hR (lv_sub hl [0, 2] rfl)
      refine lv_icmp_eq (tgt := 26) hx hb dX3_countBits_17 (by decide) (fun c3 => ?_) (fun c3 => ?_)
      · refine lv_iconst (v := (0 : Int32)) hx hb dX3_countBits_26 (by decide) ?_
        exact kJ3 _ (if_pos c3).symm
      · refine lv_iconst (v := (1 : Int32)) hx hb dX3_countBits_20 (by decide) ?_
        refine lv_iload_n hx hb dX3_countBits_21 rfl (lv_at hl 2 rfl) ?_
        refine lv_ishl hx hb dX3_countBits_22 ?_
        refine lv_goto (tgt := 27) hx hb dX3_countBits_23 (by decide) ?_
        exact kJ3 _ (if_neg c3).symm
def fX3_countBits (a0 : Nat) (w : zW) (k : Int32 → zW → Prop) : Prop :=
  ∃ n9, fX3_countBits_L4 a0 k n9 (0 : Int32) (0 : Int32) w
set_option maxHeartbeats 4000000 in
set_option maxRecDepth 100000 in
theorem mX3_countBits {l : Launch} {D : va_G} {dA : Nat → ClassId} {ad : Nat → Nat} {al : Nat → Prop} {w : zW} {k : Int32 → zW → Prop} {a0 : Nat} (ha0 : al a0 ∧ zsh a0 = 3)  (hf : fX3_countBits a0 w k) : zmetI l yX3_countBits cX3_countBits 3 (some .int) 1 [.ref (ad a0)] D dA true ad al w k := by
  refine zmetI_of (by decide) (Nat.le_of_ble_eq_true rfl) ?_
  intro p e R s m below meth c Q H ls args locs cells slots X hr hQ hR hl
  have hx := X.1
  have hb := X.2.1
  have hml := X.2.2.1
  have hown := X.2.2.2.1
  have hts := X.2.2.2.2.1
  unfold fX3_countBits at hf
  have hl : lv_has ls 3 [(0, .ref (ad a0))] := hl
  refine lv_iconst (v := (0 : Int32)) hx hb dX3_countBits_0 (by decide) ?_
  refine lv_istore_n (lv' := [(1, .int (0 : Int32)), (0, .ref (ad a0))]) hx hb dX3_countBits_1 rfl hl (by decide) rfl (fun ls hl => ?_)
  refine lv_iconst (v := (0 : Int32)) hx hb dX3_countBits_2 (by decide) ?_
  refine lv_istore_n (lv' := [(2, .int (0 : Int32)), (1, .int (0 : Int32)), (0, .ref (ad a0))]) hx hb dX3_countBits_3 rfl hl (by decide) rfl (fun ls hl => ?_)
  obtain ⟨n9, hf⟩ := hf
  exact mX3_countBits_L4 X hr hQ ha0  n9 (0 : Int32) (0 : Int32) w _ _ _ hf hR (lv_sub hl [2, 1, 0] rfl)
/-! X3_allGuessed -/
def fX3_allGuessed (a0 : Nat) (x1 : Int32) (w : zW) (k : Int32 → zW → Prop) : Prop :=
  fX3_guessBits a0 w (fun r1 w1 =>
  fJ6_bitCount_0f7a4 r1 w1 (fun r2 w2 =>
  ∀ v3 : Int32, v3 = (if ¬ r2 = x1 then (0 : Int32) else (1 : Int32)) →
  zb01 v3 ∧ k v3 w2))
set_option maxHeartbeats 4000000 in
set_option maxRecDepth 100000 in
theorem mX3_allGuessed {l : Launch} {D : va_G} {dA : Nat → ClassId} {ad : Nat → Nat} {al : Nat → Prop} {w : zW} {k : Int32 → zW → Prop} {a0 : Nat} {x1 : Int32} (ha0 : al a0 ∧ zsh a0 = 3)  (hf : fX3_allGuessed a0 x1 w k) : zmetI l yX3_allGuessed cX3_allGuessed 2 (some .boolean) 2 [.ref (ad a0), .int x1] D dA true ad al w k := by
  refine zmetZ_of (by decide) (Nat.le_of_ble_eq_true rfl) ?_
  intro p e R s m below meth c Q H ls args locs cells slots X hr hQ hR hl
  have hx := X.1
  have hb := X.2.1
  have hml := X.2.2.1
  have hown := X.2.2.2.1
  have hts := X.2.2.2.2.1
  unfold fX3_allGuessed at hf
  have hl : lv_has ls 2 [(0, .ref (ad a0)), (1, .int x1)] := hl
  refine lv_aload_n hx hb dX3_allGuessed_0 rfl (lv_at hl 0 rfl) ?_
  refine z_callVI (fr1 := 1) (b := a0) (As := []) (rest := []) X (hr.le (by decide)) hR zy_X3_guessBits zq_1298 ha0.1 (by rw [ha0.2]; rfl) rfl (mX3_guessBits ⟨ha0.1, ha0.2⟩ hf) rfl hl (Nat.le_of_ble_eq_true rfl) dX3_allGuessed_1 rfl (fun r1 w1 H locs hf hR => ?_)
  refine z_callSI (fr1 := 0) (As := [.int r1]) (rest := []) X (hr.le (by decide)) hR zy_J6_bitCount_0f7a4 zq_1302 (mJ6_bitCount_0f7a4  hf) rfl hl (Nat.le_of_ble_eq_true rfl) dX3_allGuessed_4 rfl (fun r2 w2 H locs hf hR => ?_)
  refine lv_iload_n hx hb dX3_allGuessed_7 rfl (lv_at hl 1 rfl) ?_
  have kJ3 : ∀ v3 : Int32, v3 = (if ¬ r2 = x1 then (0 : Int32) else (1 : Int32)) → W p l e R s m args below meth c H locs cells slots Q (F0 m 16 ls (.int v3 :: [])) := by
    intro v3 hv3
    replace hf := hf v3 hv3
    obtain ⟨h01, hf⟩ := hf
    exact hQ _ _ _ _ _ _ h01 hf hR dX3_allGuessed_16
  refine lv_icmp_ne (tgt := 15) hx hb dX3_allGuessed_8 (by decide) (fun c3 => ?_) (fun c3 => ?_)
  · refine lv_iconst (v := (0 : Int32)) hx hb dX3_allGuessed_15 (by decide) ?_
    exact kJ3 _ (if_pos c3).symm
  · refine lv_iconst (v := (1 : Int32)) hx hb dX3_allGuessed_11 (by decide) ?_
    refine lv_goto (tgt := 16) hx hb dX3_allGuessed_12 (by decide) ?_
    exact kJ3 _ (if_neg (fun h9 => h9 c3)).symm
/-! X3_packed -/
def fX3_packed_L4 (a0 : Nat) (k : Int32 → zW → Prop) : Nat → Int32 → Int32 → zW → Prop
  | 0 => fun _ _ _ => False
  | n + 1 => fun x1 x2 w =>
    (((4 : Int32) ≤ x2 →
      k x1 w) ∧
     (¬ (4 : Int32) ≤ x2 →
      fX3_guessOf a0 x2 w (fun r2 w2 =>
      ∀ v3 : Int32, v3 = (if r2 < (0 : Int32) then (0 : Int32) else r2) →
      ∀ v4 : Int32, v4 = x1 ||| (v3 <<< (((4 : Int32) * x2) &&& 31)) →
      fX3_packed_L4 a0 k n v4 (x2 + (1 : Int32)) w2)))
set_option maxHeartbeats 4000000 in
set_option maxRecDepth 100000 in
theorem mX3_packed_L4 {k : Int32 → zW → Prop} {a0 : Nat} (X : zCx p s m args meth c cX3_packed 3 RX3 (some .int)) (hr : zRm R 1 cells slots) (hQ : zRetI p l e R s m args below meth c cells slots Q D dA true ad0 al0 ad al cX3_packed k) (ha0 : al a0 ∧ zsh a0 = 3)  : ∀ (n : Nat) (x1 : Int32) (x2 : Int32) (w : zW) (H : Heap) (locs : List Loc) (ls : Array Slot), fX3_packed_L4 a0 k n x1 x2 w → zSt D dA true ad0 al0 ad al w s H locs → lv_has ls 3 [(0, .ref (ad a0)), (1, .int x1), (2, .int x2)] → W p l e R s m args below meth c H locs cells slots Q (F0 m 4 ls []) := by
  intro n
  induction n with
  | zero => exact fun _ _ _ _ _ _ hf => hf.elim
  | succ n ih =>
    intro x1 x2 w H locs ls hf hR hl
    have hx := X.1
    have hb := X.2.1
    have hml := X.2.2.1
    have hown := X.2.2.2.1
    have hts := X.2.2.2.2.1
    rw [fX3_packed_L4] at hf
    refine lv_iload_n hx hb dX3_packed_4 rfl (lv_at hl 2 rfl) ?_
    refine lv_iconst (v := (4 : Int32)) hx hb dX3_packed_5 (by decide) ?_
    refine lv_icmp_ge (tgt := 31) hx hb dX3_packed_6 (by decide) (fun c1 => ?_) (fun c1 => ?_)
    · replace hf := hf.1 c1
      refine lv_iload_n hx hb dX3_packed_31 rfl (lv_at hl 1 rfl) ?_
      exact hQ _ _ _ _ _ _ hf hR dX3_packed_32
    · replace hf := hf.2 c1
      refine lv_iload_n hx hb dX3_packed_9 rfl (lv_at hl 1 rfl) ?_
      refine lv_aload_n hx hb dX3_packed_10 rfl (lv_at hl 0 rfl) ?_
      refine lv_iload_n hx hb dX3_packed_11 rfl (lv_at hl 2 rfl) ?_
      refine z_callVI (fr1 := 0) (b := a0) (As := [.int x2]) (rest := [.int x1]) X (hr.le (by decide)) hR zy_X3_guessOf zq_1038 ha0.1 (by rw [ha0.2]; rfl) rfl (mX3_guessOf ⟨ha0.1, ha0.2⟩ hf) rfl hl (Nat.le_of_ble_eq_true rfl) dX3_packed_12 rfl (fun r2 w2 H locs hf hR => ?_)
      refine lv_iconst (v := (0 : Int32)) hx hb dX3_packed_15 (by decide) ?_
      refine va_mmax hx hb (by rw [hml]; exact hl.1.symm) hown (hts _ zq_1307) (hts _ zq_335) (hts _ zq_336) (hts _ zq_337) (by have := hr.1; omega) (by have := hr.2.1; show (List.sum [(.int x1 : Value).category]) + 13 ≤ R.locals; simp only [List.sum_cons, List.sum_nil, Value.category]; omega) hr.2.2.1 hr.2.2.2 dX3_packed_16 ?_
      refine lv_topi (fun v3 hv3 => ?_)
      replace hf := hf v3 hv3
      refine lv_iconst (v := (4 : Int32)) hx hb dX3_packed_19 (by decide) ?_
      refine lv_iload_n hx hb dX3_packed_20 rfl (lv_at hl 2 rfl) ?_
      refine lv_imul hx hb dX3_packed_21 ?_
      refine lv_ishl hx hb dX3_packed_22 ?_
      refine lv_ior hx hb dX3_packed_23 ?_
      refine lv_topi (fun v4 hv4 => ?_)
      replace hf := hf v4 hv4
      refine lv_istore_n (lv' := [(1, .int v4), (0, .ref (ad a0)), (2, .int x2)]) hx hb dX3_packed_24 rfl hl (by decide) rfl (fun ls hl => ?_)
      refine lv_iinc (v := x2 + (1 : Int32)) (lv' := [(2, .int (x2 + (1 : Int32))), (1, .int v4), (0, .ref (ad a0))]) hx hb dX3_packed_25 hl (k := 2) rfl rfl (by decide) rfl (fun ls hl => ?_)
      refine lv_goto (tgt := 4) hx hb dX3_packed_28 (by decide) ?_
      exact ih v4 (x2 + (1 : Int32)) w2 _ _ _ hf hR (lv_sub hl [2, 1, 0] rfl)
def fX3_packed (a0 : Nat) (w : zW) (k : Int32 → zW → Prop) : Prop :=
  ∃ n9, fX3_packed_L4 a0 k n9 (0 : Int32) (0 : Int32) w
set_option maxHeartbeats 4000000 in
set_option maxRecDepth 100000 in
theorem mX3_packed {l : Launch} {D : va_G} {dA : Nat → ClassId} {ad : Nat → Nat} {al : Nat → Prop} {w : zW} {k : Int32 → zW → Prop} {a0 : Nat} (ha0 : al a0 ∧ zsh a0 = 3)  (hf : fX3_packed a0 w k) : zmetI l yX3_packed cX3_packed 3 (some .int) 1 [.ref (ad a0)] D dA true ad al w k := by
  refine zmetI_of (by decide) (Nat.le_of_ble_eq_true rfl) ?_
  intro p e R s m below meth c Q H ls args locs cells slots X hr hQ hR hl
  have hx := X.1
  have hb := X.2.1
  have hml := X.2.2.1
  have hown := X.2.2.2.1
  have hts := X.2.2.2.2.1
  unfold fX3_packed at hf
  have hl : lv_has ls 3 [(0, .ref (ad a0))] := hl
  refine lv_iconst (v := (0 : Int32)) hx hb dX3_packed_0 (by decide) ?_
  refine lv_istore_n (lv' := [(1, .int (0 : Int32)), (0, .ref (ad a0))]) hx hb dX3_packed_1 rfl hl (by decide) rfl (fun ls hl => ?_)
  refine lv_iconst (v := (0 : Int32)) hx hb dX3_packed_2 (by decide) ?_
  refine lv_istore_n (lv' := [(2, .int (0 : Int32)), (1, .int (0 : Int32)), (0, .ref (ad a0))]) hx hb dX3_packed_3 rfl hl (by decide) rfl (fun ls hl => ?_)
  obtain ⟨n9, hf⟩ := hf
  exact mX3_packed_L4 X hr hQ ha0  n9 (0 : Int32) (0 : Int32) w _ _ _ hf hR (lv_sub hl [2, 1, 0] rfl)
/-! X8_meaningIn -/
def fX8_meaningIn (x0 : Int32) (x1 : Int32) (w : zW) (k : Int32 → zW → Prop) : Prop :=
  k ((x0 >>> (((4 : Int32) * x1) &&& 31)) &&& (15 : Int32)) w
set_option maxHeartbeats 4000000 in
set_option maxRecDepth 100000 in
theorem mX8_meaningIn {l : Launch} {D : va_G} {dA : Nat → ClassId} {ad : Nat → Nat} {al : Nat → Prop} {w : zW} {k : Int32 → zW → Prop} {x0 : Int32} {x1 : Int32}   (hf : fX8_meaningIn x0 x1 w k) : zmetI l yX8_meaningIn cX8_meaningIn 2 (some .int) 0 [.int x0, .int x1] D dA true ad al w k := by
  refine zmetI_of (by decide) (Nat.le_of_ble_eq_true rfl) ?_
  intro p e R s m below meth c Q H ls args locs cells slots X hr hQ hR hl
  have hx := X.1
  have hb := X.2.1
  have hml := X.2.2.1
  have hown := X.2.2.2.1
  have hts := X.2.2.2.2.1
  unfold fX8_meaningIn at hf
  have hl : lv_has ls 2 [(0, .int x0), (1, .int x1)] := hl
  refine lv_iload_n hx hb dX8_meaningIn_0 rfl (lv_at hl 0 rfl) ?_
  refine lv_iconst (v := (4 : Int32)) hx hb dX8_meaningIn_1 (by decide) ?_
  refine lv_iload_n hx hb dX8_meaningIn_2 rfl (lv_at hl 1 rfl) ?_
  refine lv_imul hx hb dX8_meaningIn_3 ?_
  refine lv_ishr hx hb dX8_meaningIn_4 ?_
  refine lv_bipush (v := (15 : Int32)) hx hb dX8_meaningIn_5 (by decide) ?_
  refine lv_iand hx hb dX8_meaningIn_7 ?_
  exact hQ _ _ _ _ _ _ hf hR dX8_meaningIn_8
/-! X3_guesses -/
def fX3_guesses_L2 (a0 : Nat) (k : Int32 → zW → Prop) : Nat → Int32 → Int32 → zW → Prop
  | 0 => fun _ _ _ => False
  | n + 1 => fun x1 x2 w =>
    (((4 : Int32) ≤ x2 →
      k (1 : Int32) w) ∧
     (¬ (4 : Int32) ≤ x2 →
      fX3_guessOf a0 x2 w (fun r2 w2 =>
      ((r2 = (-1 : Int32) →
        fX3_guesses_L2 a0 k n x1 (x2 + (1 : Int32)) w2) ∧
       (¬ r2 = (-1 : Int32) →
        fX8_meaningIn x1 x2 w2 (fun r4 w4 =>
        ((r2 = r4 →
          fX3_guesses_L2 a0 k n x1 (x2 + (1 : Int32)) w4) ∧
         (¬ r2 = r4 →
          k (0 : Int32) w4))))))))
set_option maxHeartbeats 4000000 in
set_option maxRecDepth 100000 in
theorem mX3_guesses_L2 {k : Int32 → zW → Prop} {a0 : Nat} (X : zCx p s m args meth c cX3_guesses 4 RX3 (some .boolean)) (hr : zRm R 1 cells slots) (hQ : zRetZ p l e R s m args below meth c cells slots Q D dA true ad0 al0 ad al cX3_guesses k) (ha0 : al a0 ∧ zsh a0 = 3)  : ∀ (n : Nat) (x1 : Int32) (x2 : Int32) (w : zW) (H : Heap) (locs : List Loc) (ls : Array Slot), fX3_guesses_L2 a0 k n x1 x2 w → zSt D dA true ad0 al0 ad al w s H locs → lv_has ls 4 [(0, .ref (ad a0)), (1, .int x1), (2, .int x2)] → W p l e R s m args below meth c H locs cells slots Q (F0 m 2 ls []) := by
  intro n
  induction n with
  | zero => exact fun _ _ _ _ _ _ hf => hf.elim
  | succ n ih =>
    intro x1 x2 w H locs ls hf hR hl
    have hx := X.1
    have hb := X.2.1
    have hml := X.2.2.1
    have hown := X.2.2.2.1
    have hts := X.2.2.2.2.1
    rw [fX3_guesses_L2] at hf
    refine lv_iload_n hx hb dX3_guesses_2 rfl (lv_at hl 2 rfl) ?_
    refine lv_iconst (v := (4 : Int32)) hx hb dX3_guesses_3 (by decide) ?_
    refine lv_icmp_ge (tgt := 35) hx hb dX3_guesses_4 (by decide) (fun c1 => ?_) (fun c1 => ?_)
    · replace hf := hf.1 c1
      refine lv_iconst (v := (1 : Int32)) hx hb dX3_guesses_35 (by decide) ?_
      exact hQ _ _ _ _ _ _ zb01_1 hf hR dX3_guesses_36
    · replace hf := hf.2 c1
      refine lv_aload_n hx hb dX3_guesses_7 rfl (lv_at hl 0 rfl) ?_
      refine lv_iload_n hx hb dX3_guesses_8 rfl (lv_at hl 2 rfl) ?_
      refine z_callVI (fr1 := 0) (b := a0) (As := [.int x2]) (rest := []) X (hr.le (by decide)) hR zy_X3_guessOf zq_1038 ha0.1 (by rw [ha0.2]; rfl) rfl (mX3_guessOf ⟨ha0.1, ha0.2⟩ hf) rfl hl (Nat.le_of_ble_eq_true rfl) dX3_guesses_9 rfl (fun r2 w2 H locs hf hR => ?_)
      refine lv_istore_n (lv' := [(3, .int r2), (0, .ref (ad a0)), (1, .int x1), (2, .int x2)]) hx hb dX3_guesses_12 rfl hl (by decide) rfl (fun ls hl => ?_)
      refine lv_iload_n hx hb dX3_guesses_13 rfl (lv_at hl 0 rfl) ?_
      refine lv_iconst (v := (-1 : Int32)) hx hb dX3_guesses_14 (by decide) ?_
      refine lv_icmp_eq (tgt := 29) hx hb dX3_guesses_15 (by decide) (fun c3 => ?_) (fun c3 => ?_)
      · replace hf := hf.1 c3
        refine lv_iinc (v := x2 + (1 : Int32)) (lv' := [(2, .int (x2 + (1 : Int32))), (3, .int r2), (0, .ref (ad a0)), (1, .int x1)]) hx hb dX3_guesses_29 hl (k := 3) rfl rfl (by decide) rfl (fun ls hl => ?_)
        refine lv_goto (tgt := 2) hx hb dX3_guesses_32 (by decide) ?_
        exact ih x1 (x2 + (1 : Int32)) w2 _ _ _ hf hR (lv_sub hl [2, 3, 0] rfl)
      · replace hf := hf.2 c3
        refine lv_iload_n hx hb dX3_guesses_18 rfl (lv_at hl 0 rfl) ?_
        refine lv_iload_n hx hb dX3_guesses_19 rfl (lv_at hl 2 rfl) ?_
        refine lv_iload_n hx hb dX3_guesses_20 rfl (lv_at hl 3 rfl) ?_
        refine z_callSI (fr1 := 0) (As := [.int x1, .int x2]) (rest := [.int r2]) X (hr.le (by decide)) hR zy_X8_meaningIn zq_1039 (mX8_meaningIn  hf) rfl hl (Nat.le_of_ble_eq_true rfl) dX3_guesses_21 rfl (fun r4 w4 H locs hf hR => ?_)
        refine lv_icmp_eq (tgt := 29) hx hb dX3_guesses_24 (by decide) (fun c5 => ?_) (fun c5 => ?_)
        · replace hf := hf.1 c5
          refine lv_iinc (v := x2 + (1 : Int32)) (lv' := [(2, .int (x2 + (1 : Int32))), (3, .int r2), (0, .ref (ad a0)), (1, .int x1)]) hx hb dX3_guesses_29 hl (k := 3) rfl rfl (by decide) rfl (fun ls hl => ?_)
          refine lv_goto (tgt := 2) hx hb dX3_guesses_32 (by decide) ?_
          exact ih x1 (x2 + (1 : Int32)) w4 _ _ _ hf hR (lv_sub hl [2, 3, 0] rfl)
        · replace hf := hf.2 c5
          refine lv_iconst (v := (0 : Int32)) hx hb dX3_guesses_27 (by decide) ?_
          exact hQ _ _ _ _ _ _ zb01_0 hf hR dX3_guesses_28
def fX3_guesses (a0 : Nat) (x1 : Int32) (w : zW) (k : Int32 → zW → Prop) : Prop :=
  ∃ n9, fX3_guesses_L2 a0 k n9 x1 (0 : Int32) w
set_option maxHeartbeats 4000000 in
set_option maxRecDepth 100000 in
theorem mX3_guesses {l : Launch} {D : va_G} {dA : Nat → ClassId} {ad : Nat → Nat} {al : Nat → Prop} {w : zW} {k : Int32 → zW → Prop} {a0 : Nat} {x1 : Int32} (ha0 : al a0 ∧ zsh a0 = 3)  (hf : fX3_guesses a0 x1 w k) : zmetI l yX3_guesses cX3_guesses 4 (some .boolean) 1 [.ref (ad a0), .int x1] D dA true ad al w k := by
  refine zmetZ_of (by decide) (Nat.le_of_ble_eq_true rfl) ?_
  intro p e R s m below meth c Q H ls args locs cells slots X hr hQ hR hl
  have hx := X.1
  have hb := X.2.1
  have hml := X.2.2.1
  have hown := X.2.2.2.1
  have hts := X.2.2.2.2.1
  unfold fX3_guesses at hf
  have hl : lv_has ls 4 [(0, .ref (ad a0)), (1, .int x1)] := hl
  refine lv_iconst (v := (0 : Int32)) hx hb dX3_guesses_0 (by decide) ?_
  refine lv_istore_n (lv' := [(2, .int (0 : Int32)), (0, .ref (ad a0)), (1, .int x1)]) hx hb dX3_guesses_1 rfl hl (by decide) rfl (fun ls hl => ?_)
  obtain ⟨n9, hf⟩ := hf
  exact mX3_guesses_L2 X hr hQ ha0  n9 x1 (0 : Int32) w _ _ _ hf hR (lv_sub hl [1, 2, 0] rfl)
/-! X3_missed -/
def fX3_missed_L5 (a0 : Nat) (a2 : Nat) (k : Int32 → zW → Prop) : Nat → Int32 → Int32 → Int32 → zW → Prop
  | 0 => fun _ _ _ _ => False
  | n + 1 => fun x1 x3 x4 w =>
    (((gI w a2 7) ≤ x4 →
      k x3 w) ∧
     (¬ (gI w a2 7) ≤ x4 →
      fX3_countOf a0 x4 w (fun r2 w2 =>
      ((r2 = (-1 : Int32) →
        fX3_missed_L5 a0 a2 k n x1 x3 (x4 + (1 : Int32)) w2) ∧
       (¬ r2 = (-1 : Int32) →
        fX0_leavesOf a2 x4 x1 w2 (fun r4 w4 =>
        ((r2 = r4 →
          fX3_missed_L5 a0 a2 k n x1 x3 (x4 + (1 : Int32)) w4) ∧
         (¬ r2 = r4 →
          ∀ v6 : Int32, v6 = x3 ||| ((1 : Int32) <<< (x4 &&& 31)) →
          fX3_missed_L5 a0 a2 k n x1 v6 (x4 + (1 : Int32)) w4))))))))
set_option maxHeartbeats 4000000 in
set_option maxRecDepth 100000 in
theorem mX3_missed_L5 {k : Int32 → zW → Prop} {a0 : Nat} {a2 : Nat} (X : zCx p s m args meth c cX3_missed 6 RX3 (some .int)) (hr : zRm R 1 cells slots) (hQ : zRetI p l e R s m args below meth c cells slots Q D dA true ad0 al0 ad al cX3_missed k) (ha0 : al a0 ∧ zsh a0 = 3) (ha2 : al a2 ∧ zsh a2 = 0)  : ∀ (n : Nat) (x1 : Int32) (x3 : Int32) (x4 : Int32) (w : zW) (H : Heap) (locs : List Loc) (ls : Array Slot), fX3_missed_L5 a0 a2 k n x1 x3 x4 w → zSt D dA true ad0 al0 ad al w s H locs → lv_has ls 6 [(0, .ref (ad a0)), (1, .int x1), (2, .ref (ad a2)), (3, .int x3), (4, .int x4)] → W p l e R s m args below meth c H locs cells slots Q (F0 m 5 ls []) := by
  intro n
  induction n with
  | zero => exact fun _ _ _ _ _ _ _ hf => hf.elim
  | succ n ih =>
    intro x1 x3 x4 w H locs ls hf hR hl
    have hx := X.1
    have hb := X.2.1
    have hml := X.2.2.1
    have hown := X.2.2.2.1
    have hts := X.2.2.2.2.1
    rw [fX3_missed_L5] at hf
    refine lv_iload hx hb dX3_missed_5 (lv_at hl 4 rfl) ?_
    refine lv_aload_n hx hb dX3_missed_7 rfl (lv_at hl 2 rfl) ?_
    refine z_getI X hR ha2.1 ha2.2 (by decide) zfd_X3_62 rfl dX3_missed_8 ?_
    refine lv_icmp_ge (tgt := 53) hx hb dX3_missed_11 (by decide) (fun c1 => ?_) (fun c1 => ?_)
    · replace hf := hf.1 c1
      refine lv_iload_n hx hb dX3_missed_53 rfl (lv_at hl 3 rfl) ?_
      exact hQ _ _ _ _ _ _ hf hR dX3_missed_54
    · replace hf := hf.2 c1
      refine lv_aload_n hx hb dX3_missed_14 rfl (lv_at hl 0 rfl) ?_
      refine lv_iload hx hb dX3_missed_15 (lv_at hl 4 rfl) ?_
      refine z_callVI (fr1 := 0) (b := a0) (As := [.int x4]) (rest := []) X (hr.le (by decide)) hR zy_X3_countOf zq_1047 ha0.1 (by rw [ha0.2]; rfl) rfl (mX3_countOf ⟨ha0.1, ha0.2⟩ hf) rfl hl (Nat.le_of_ble_eq_true rfl) dX3_missed_17 rfl (fun r2 w2 H locs hf hR => ?_)
      refine lv_istore (lv' := [(5, .int r2), (0, .ref (ad a0)), (1, .int x1), (2, .ref (ad a2)), (3, .int x3), (4, .int x4)]) hx hb dX3_missed_20 hl (by decide) rfl (fun ls hl => ?_)
      refine lv_iload hx hb dX3_missed_22 (lv_at hl 0 rfl) ?_
      refine lv_iconst (v := (-1 : Int32)) hx hb dX3_missed_24 (by decide) ?_
      refine lv_icmp_eq (tgt := 47) hx hb dX3_missed_25 (by decide) (fun c3 => ?_) (fun c3 => ?_)
      · replace hf := hf.1 c3
        refine lv_iinc (v := x4 + (1 : Int32)) (lv' := [(4, .int (x4 + (1 : Int32))), (5, .int r2), (0, .ref (ad a0)), (1, .int x1), (2, .ref (ad a2)), (3, .int x3)]) hx hb dX3_missed_47 hl (k := 5) rfl rfl (by decide) rfl (fun ls hl => ?_)
        refine lv_goto (tgt := 5) hx hb dX3_missed_50 (by decide) ?_
        exact ih x1 x3 (x4 + (1 : Int32)) w2 _ _ _ hf hR (lv_sub hl [2, 3, 4, 5, 0] rfl)
      · replace hf := hf.2 c3
        refine lv_iload hx hb dX3_missed_28 (lv_at hl 0 rfl) ?_
        refine lv_aload_n hx hb dX3_missed_30 rfl (lv_at hl 3 rfl) ?_
        refine lv_iload hx hb dX3_missed_31 (lv_at hl 5 rfl) ?_
        refine lv_iload_n hx hb dX3_missed_33 rfl (lv_at hl 2 rfl) ?_
        refine z_callVI (fr1 := 0) (b := a2) (As := [.int x4, .int x1]) (rest := [.int r2]) X (hr.le (by decide)) hR zy_X0_leavesOf zq_1048 ha2.1 (by rw [ha2.2]; rfl) rfl (mX0_leavesOf ⟨ha2.1, ha2.2⟩ hf) rfl hl (Nat.le_of_ble_eq_true rfl) dX3_missed_34 rfl (fun r4 w4 H locs hf hR => ?_)
        refine lv_icmp_eq (tgt := 47) hx hb dX3_missed_37 (by decide) (fun c5 => ?_) (fun c5 => ?_)
        · replace hf := hf.1 c5
          refine lv_iinc (v := x4 + (1 : Int32)) (lv' := [(4, .int (x4 + (1 : Int32))), (5, .int r2), (0, .ref (ad a0)), (1, .int x1), (2, .ref (ad a2)), (3, .int x3)]) hx hb dX3_missed_47 hl (k := 5) rfl rfl (by decide) rfl (fun ls hl => ?_)
          refine lv_goto (tgt := 5) hx hb dX3_missed_50 (by decide) ?_
          exact ih x1 x3 (x4 + (1 : Int32)) w4 _ _ _ hf hR (lv_sub hl [2, 3, 4, 5, 0] rfl)
        · replace hf := hf.2 c5
          refine lv_iload_n hx hb dX3_missed_40 rfl (lv_at hl 4 rfl) ?_
          refine lv_iconst (v := (1 : Int32)) hx hb dX3_missed_41 (by decide) ?_
          refine lv_iload hx hb dX3_missed_42 (lv_at hl 5 rfl) ?_
          refine lv_ishl hx hb dX3_missed_44 ?_
          refine lv_ior hx hb dX3_missed_45 ?_
          refine lv_topi (fun v6 hv6 => ?_)
          replace hf := hf v6 hv6
          refine lv_istore_n (lv' := [(3, .int v6), (5, .int r2), (0, .ref (ad a0)), (1, .int x1), (2, .ref (ad a2)), (4, .int x4)]) hx hb dX3_missed_46 rfl hl (by decide) rfl (fun ls hl => ?_)
          refine lv_iinc (v := x4 + (1 : Int32)) (lv' := [(4, .int (x4 + (1 : Int32))), (3, .int v6), (5, .int r2), (0, .ref (ad a0)), (1, .int x1), (2, .ref (ad a2))]) hx hb dX3_missed_47 hl (k := 5) rfl rfl (by decide) rfl (fun ls hl => ?_)
          refine lv_goto (tgt := 5) hx hb dX3_missed_50 (by decide) ?_
          exact ih x1 v6 (x4 + (1 : Int32)) w4 _ _ _ hf hR (lv_sub hl [3, 4, 5, 1, 0] rfl)
def fX3_missed (a0 : Nat) (a2 : Nat) (x1 : Int32) (w : zW) (k : Int32 → zW → Prop) : Prop :=
  ∃ n9, fX3_missed_L5 a0 a2 k n9 x1 (0 : Int32) (0 : Int32) w
set_option maxHeartbeats 4000000 in
set_option maxRecDepth 100000 in
theorem mX3_missed {l : Launch} {D : va_G} {dA : Nat → ClassId} {ad : Nat → Nat} {al : Nat → Prop} {w : zW} {k : Int32 → zW → Prop} {a0 : Nat} {a2 : Nat} {x1 : Int32} (ha0 : al a0 ∧ zsh a0 = 3) (ha2 : al a2 ∧ zsh a2 = 0)  (hf : fX3_missed a0 a2 x1 w k) : zmetI l yX3_missed cX3_missed 6 (some .int) 1 [.ref (ad a0), .int x1, .ref (ad a2)] D dA true ad al w k := by
  refine zmetI_of (by decide) (Nat.le_of_ble_eq_true rfl) ?_
  intro p e R s m below meth c Q H ls args locs cells slots X hr hQ hR hl
  have hx := X.1
  have hb := X.2.1
  have hml := X.2.2.1
  have hown := X.2.2.2.1
  have hts := X.2.2.2.2.1
  unfold fX3_missed at hf
  have hl : lv_has ls 6 [(0, .ref (ad a0)), (1, .int x1), (2, .ref (ad a2))] := hl
  refine lv_iconst (v := (0 : Int32)) hx hb dX3_missed_0 (by decide) ?_
  refine lv_istore_n (lv' := [(3, .int (0 : Int32)), (0, .ref (ad a0)), (1, .int x1), (2, .ref (ad a2))]) hx hb dX3_missed_1 rfl hl (by decide) rfl (fun ls hl => ?_)
  refine lv_iconst (v := (0 : Int32)) hx hb dX3_missed_2 (by decide) ?_
  refine lv_istore (lv' := [(4, .int (0 : Int32)), (3, .int (0 : Int32)), (0, .ref (ad a0)), (1, .int x1), (2, .ref (ad a2))]) hx hb dX3_missed_3 hl (by decide) rfl (fun ls hl => ?_)
  obtain ⟨n9, hf⟩ := hf
  exact mX3_missed_L5 X hr hQ ha0 ha2  n9 x1 (0 : Int32) (0 : Int32) w _ _ _ hf hR (lv_sub hl [2, 3, 4, 1, 0] rfl)
/-! X3_agrees -/
def fX3_agrees (a0 : Nat) (a2 : Nat) (x1 : Int32) (w : zW) (k : Int32 → zW → Prop) : Prop :=
  fX3_guesses a0 x1 w (fun r1 w1 =>
  ((r1 = 0 →
    k (0 : Int32) w1) ∧
   (¬ r1 = 0 →
    fX3_missed a0 a2 x1 w1 (fun r3 w3 =>
    ∀ v4 : Int32, v4 = (if ¬ r3 = 0 then (0 : Int32) else (1 : Int32)) →
    zb01 v4 ∧ k v4 w3))))
set_option maxHeartbeats 4000000 in
set_option maxRecDepth 100000 in
theorem mX3_agrees {l : Launch} {D : va_G} {dA : Nat → ClassId} {ad : Nat → Nat} {al : Nat → Prop} {w : zW} {k : Int32 → zW → Prop} {a0 : Nat} {a2 : Nat} {x1 : Int32} (ha0 : al a0 ∧ zsh a0 = 3) (ha2 : al a2 ∧ zsh a2 = 0)  (hf : fX3_agrees a0 a2 x1 w k) : zmetI l yX3_agrees cX3_agrees 3 (some .boolean) 2 [.ref (ad a0), .int x1, .ref (ad a2)] D dA true ad al w k := by
  refine zmetZ_of (by decide) (Nat.le_of_ble_eq_true rfl) ?_
  intro p e R s m below meth c Q H ls args locs cells slots X hr hQ hR hl
  have hx := X.1
  have hb := X.2.1
  have hml := X.2.2.1
  have hown := X.2.2.2.1
  have hts := X.2.2.2.2.1
  unfold fX3_agrees at hf
  have hl : lv_has ls 3 [(0, .ref (ad a0)), (1, .int x1), (2, .ref (ad a2))] := hl
  refine lv_aload_n hx hb dX3_agrees_0 rfl (lv_at hl 0 rfl) ?_
  refine lv_iload_n hx hb dX3_agrees_1 rfl (lv_at hl 1 rfl) ?_
  refine z_callVI (fr1 := 1) (b := a0) (As := [.int x1]) (rest := []) X (hr.le (by decide)) hR zy_X3_guesses zq_1034 ha0.1 (by rw [ha0.2]; rfl) rfl (mX3_guesses ⟨ha0.1, ha0.2⟩ hf) rfl hl (Nat.le_of_ble_eq_true rfl) dX3_agrees_2 rfl (fun r1 w1 H locs hf hR => ?_)
  refine lv_if_eq (tgt := 21) hx hb dX3_agrees_5 (by decide) (fun c2 => ?_) (fun c2 => ?_)
  · replace hf := hf.1 c2
    refine lv_iconst (v := (0 : Int32)) hx hb dX3_agrees_21 (by decide) ?_
    exact hQ _ _ _ _ _ _ zb01_0 hf hR dX3_agrees_22
  · replace hf := hf.2 c2
    refine lv_aload_n hx hb dX3_agrees_8 rfl (lv_at hl 0 rfl) ?_
    refine lv_iload_n hx hb dX3_agrees_9 rfl (lv_at hl 1 rfl) ?_
    refine lv_aload_n hx hb dX3_agrees_10 rfl (lv_at hl 2 rfl) ?_
    refine z_callVI (fr1 := 1) (b := a0) (As := [.int x1, .ref (ad a2)]) (rest := []) X (hr.le (by decide)) hR zy_X3_missed zq_1042 ha0.1 (by rw [ha0.2]; rfl) rfl (mX3_missed ⟨ha0.1, ha0.2⟩ ⟨ha2.1, ha2.2⟩ hf) rfl hl (Nat.le_of_ble_eq_true rfl) dX3_agrees_11 rfl (fun r3 w3 H locs hf hR => ?_)
    have kJ4 : ∀ v4 : Int32, v4 = (if ¬ r3 = 0 then (0 : Int32) else (1 : Int32)) → W p l e R s m args below meth c H locs cells slots Q (F0 m 22 ls (.int v4 :: [])) := by
      intro v4 hv4
      replace hf := hf v4 hv4
      obtain ⟨h01, hf⟩ := hf
      exact hQ _ _ _ _ _ _ h01 hf hR dX3_agrees_22
    refine lv_if_ne (tgt := 21) hx hb dX3_agrees_14 (by decide) (fun c4 => ?_) (fun c4 => ?_)
    · refine lv_iconst (v := (0 : Int32)) hx hb dX3_agrees_21 (by decide) ?_
      exact kJ4 _ (if_pos c4).symm
    · refine lv_iconst (v := (1 : Int32)) hx hb dX3_agrees_17 (by decide) ?_
      refine lv_goto (tgt := 22) hx hb dX3_agrees_18 (by decide) ?_
      exact kJ4 _ (if_neg (fun h9 => h9 c4)).symm
/-! X4_bit -/
def fX4_bit (x0 : Int32) (x1 : Int32) (w : zW) (k : Int32 → zW → Prop) : Prop :=
  k ((1 : Int32) <<< (((x0 * (4 : Int32)) + x1) &&& 31)) w
set_option maxHeartbeats 4000000 in
set_option maxRecDepth 100000 in
theorem mX4_bit {l : Launch} {D : va_G} {dA : Nat → ClassId} {ad : Nat → Nat} {al : Nat → Prop} {w : zW} {k : Int32 → zW → Prop} {x0 : Int32} {x1 : Int32}   (hf : fX4_bit x0 x1 w k) : zmetI l yX4_bit cX4_bit 2 (some .int) 0 [.int x0, .int x1] D dA true ad al w k := by
  refine zmetI_of (by decide) (Nat.le_of_ble_eq_true rfl) ?_
  intro p e R s m below meth c Q H ls args locs cells slots X hr hQ hR hl
  have hx := X.1
  have hb := X.2.1
  have hml := X.2.2.1
  have hown := X.2.2.2.1
  have hts := X.2.2.2.2.1
  unfold fX4_bit at hf
  have hl : lv_has ls 2 [(0, .int x0), (1, .int x1)] := hl
  refine lv_iconst (v := (1 : Int32)) hx hb dX4_bit_0 (by decide) ?_
  refine lv_iload_n hx hb dX4_bit_1 rfl (lv_at hl 0 rfl) ?_
  refine lv_iconst (v := (4 : Int32)) hx hb dX4_bit_2 (by decide) ?_
  refine lv_imul hx hb dX4_bit_3 ?_
  refine lv_iload_n hx hb dX4_bit_4 rfl (lv_at hl 1 rfl) ?_
  refine lv_iadd hx hb dX4_bit_5 ?_
  refine lv_ishl hx hb dX4_bit_6 ?_
  exact hQ _ _ _ _ _ _ hf hR dX4_bit_7
/-! X4_isRight -/
def fX4_isRight_J50 (k : Int32 → zW → Prop) (x1 : Int32) (x2 : Int32) (x3 : Int32) (x5 : Int32) (w : zW) : Prop :=
  ((¬ x5 = 0 →
    k (1 : Int32) w) ∧
   (x5 = 0 →
    ¬ gR w 31 6 = 0 ∧
    fX0_takesOf (gR w 31 6) (x1 + (1 : Int32)) x3 w (fun r8 w8 =>
    ∀ v9 : Int32, v9 = (if ¬ r8 = x2 then (0 : Int32) else (1 : Int32)) →
    zb01 v9 ∧ k v9 w8)))
set_option maxHeartbeats 4000000 in
set_option maxRecDepth 100000 in
theorem mX4_isRight_J50 {k : Int32 → zW → Prop} (X : zCx p s m args meth c cX4_isRight 6 RX4 (some .boolean)) (hr : zRm R 1 cells slots) (hQ : zRetZ p l e R s m args below meth c cells slots Q D dA true ad0 al0 ad al cX4_isRight k)  {x1 : Int32} {x2 : Int32} {x3 : Int32} {x5 : Int32} {w : zW} {H : Heap} {locs : List Loc} {ls : Array Slot} (hf : fX4_isRight_J50 k x1 x2 x3 x5 w) (hR : zSt D dA true ad0 al0 ad al w s H locs) (hl : lv_has ls 6 [(0, .ref (ad 31)), (1, .int x1), (2, .int x2), (3, .int x3), (5, .int x5)]) : W p l e R s m args below meth c H locs cells slots Q (F0 m 50 ls []) := by
  have hx := X.1
  have hb := X.2.1
  have hml := X.2.2.1
  have hown := X.2.2.2.1
  have hts := X.2.2.2.2.1
  unfold fX4_isRight_J50 at hf
  refine lv_iload hx hb dX4_isRight_50 (lv_at hl 4 rfl) ?_
  refine lv_if_ne (tgt := 70) hx hb dX4_isRight_52 (by decide) (fun c6 => ?_) (fun c6 => ?_)
  · replace hf := hf.1 c6
    refine lv_iconst (v := (1 : Int32)) hx hb dX4_isRight_70 (by decide) ?_
    refine lv_goto (tgt := 75) hx hb dX4_isRight_71 (by decide) ?_
    exact hQ _ _ _ _ _ _ zb01_1 hf hR dX4_isRight_75
  · replace hf := hf.2 c6
    refine lv_aload_n hx hb dX4_isRight_55 rfl (lv_at hl 0 rfl) ?_
    refine z_getR X hR (zlit hR zf_31) zs_31 (by decide) zfd_X4_19 rfl dX4_isRight_56 ?_
    obtain ⟨hn70, hf⟩ := hf
    have hn7 : al (gR w 31 6) ∧ zsh (gR w 31 6) = 0 := zwt_of hR (zlit hR zf_31) zs_31 rfl hn70 (zdc_of zs_31 rfl)
    rw [zrf_pos hn70]
    refine lv_iload_n hx hb dX4_isRight_59 rfl (lv_at hl 1 rfl) ?_
    refine lv_iconst (v := (1 : Int32)) hx hb dX4_isRight_60 (by decide) ?_
    refine lv_iadd hx hb dX4_isRight_61 ?_
    refine lv_iload_n hx hb dX4_isRight_62 rfl (lv_at hl 3 rfl) ?_
    refine z_callVI (fr1 := 0) (b := (gR w 31 6)) (As := [.int (x1 + (1 : Int32)), .int x3]) (rest := []) X (hr.le (by decide)) hR zy_X0_takesOf zq_1425 hn7.1 (by rw [hn7.2]; rfl) rfl (mX0_takesOf ⟨hn7.1, hn7.2⟩ hf) rfl hl (Nat.le_of_ble_eq_true rfl) dX4_isRight_63 rfl (fun r8 w8 H locs hf hR => ?_)
    refine lv_iload_n hx hb dX4_isRight_66 rfl (lv_at hl 2 rfl) ?_
    have kJ9 : ∀ v9 : Int32, v9 = (if ¬ r8 = x2 then (0 : Int32) else (1 : Int32)) → W p l e R s m args below meth c H locs cells slots Q (F0 m 75 ls (.int v9 :: [])) := by
      intro v9 hv9
      replace hf := hf v9 hv9
      obtain ⟨h01, hf⟩ := hf
      exact hQ _ _ _ _ _ _ h01 hf hR dX4_isRight_75
    refine lv_icmp_ne (tgt := 74) hx hb dX4_isRight_67 (by decide) (fun c9 => ?_) (fun c9 => ?_)
    · refine lv_iconst (v := (0 : Int32)) hx hb dX4_isRight_74 (by decide) ?_
      exact kJ9 _ (if_pos c9).symm
    · refine lv_iconst (v := (1 : Int32)) hx hb dX4_isRight_70 (by decide) ?_
      refine lv_goto (tgt := 75) hx hb dX4_isRight_71 (by decide) ?_
      exact kJ9 _ (if_neg (fun h9 => h9 c9)).symm
def fX4_isRight_J36 (k : Int32 → zW → Prop) (x1 : Int32) (x2 : Int32) (x3 : Int32) (x4 : Int32) (t0 : Int32) (w : zW) : Prop :=
  ((x4 = (-1 : Int32) →
    fX4_isRight_J50 k x1 x2 x3 t0 w) ∧
   (¬ x4 = (-1 : Int32) →
    ((¬ x4 = x2 →
      k (0 : Int32) w) ∧
     (x4 = x2 →
      fX4_isRight_J50 k x1 x2 x3 t0 w))))
set_option maxHeartbeats 4000000 in
set_option maxRecDepth 100000 in
theorem mX4_isRight_J36 {k : Int32 → zW → Prop} (X : zCx p s m args meth c cX4_isRight 6 RX4 (some .boolean)) (hr : zRm R 1 cells slots) (hQ : zRetZ p l e R s m args below meth c cells slots Q D dA true ad0 al0 ad al cX4_isRight k)  {x1 : Int32} {x2 : Int32} {x3 : Int32} {x4 : Int32} {t0 : Int32} {w : zW} {H : Heap} {locs : List Loc} {ls : Array Slot} (hf : fX4_isRight_J36 k x1 x2 x3 x4 t0 w) (hR : zSt D dA true ad0 al0 ad al w s H locs) (hl : lv_has ls 6 [(0, .ref (ad 31)), (1, .int x1), (2, .int x2), (3, .int x3), (4, .int x4)]) : W p l e R s m args below meth c H locs cells slots Q (F0 m 36 ls [.int t0]) := by
  have hx := X.1
  have hb := X.2.1
  have hml := X.2.2.1
  have hown := X.2.2.2.1
  have hts := X.2.2.2.2.1
  unfold fX4_isRight_J36 at hf
  refine lv_istore (lv' := [(5, .int t0), (0, .ref (ad 31)), (1, .int x1), (2, .int x2), (3, .int x3), (4, .int x4)]) hx hb dX4_isRight_36 hl (by decide) rfl (fun ls hl => ?_)
  refine lv_iload hx hb dX4_isRight_38 (lv_at hl 5 rfl) ?_
  refine lv_iconst (v := (-1 : Int32)) hx hb dX4_isRight_40 (by decide) ?_
  refine lv_icmp_eq (tgt := 50) hx hb dX4_isRight_41 (by decide) (fun c5 => ?_) (fun c5 => ?_)
  · replace hf := hf.1 c5
    exact mX4_isRight_J50 X hr hQ  hf hR (lv_sub hl [1, 2, 3, 4, 0] rfl)
  · replace hf := hf.2 c5
    refine lv_iload hx hb dX4_isRight_44 (lv_at hl 5 rfl) ?_
    refine lv_iload_n hx hb dX4_isRight_46 rfl (lv_at hl 3 rfl) ?_
    refine lv_icmp_ne (tgt := 74) hx hb dX4_isRight_47 (by decide) (fun c10 => ?_) (fun c10 => ?_)
    · replace hf := hf.1 c10
      refine lv_iconst (v := (0 : Int32)) hx hb dX4_isRight_74 (by decide) ?_
      exact hQ _ _ _ _ _ _ zb01_0 hf hR dX4_isRight_75
    · replace hf := hf.2 c10
      exact mX4_isRight_J50 X hr hQ  hf hR (lv_sub hl [1, 2, 3, 4, 0] rfl)
def fX4_isRight (x1 : Int32) (x2 : Int32) (x3 : Int32) (w : zW) (k : Int32 → zW → Prop) : Prop :=
  ¬ gR w 31 7 = 0 ∧
  fX3_countOf (gR w 31 7) x1 w (fun r2 w2 =>
  ¬ gR w2 31 6 = 0 ∧
  ∀ v4 : Int32, v4 = (if (gI w2 (gR w2 31 6) 7) ≤ (x1 + (1 : Int32)) then (1 : Int32) else (if (x1 + (1 : Int32)) < (8 : Int32) then (0 : Int32) else (1 : Int32))) →
  fX4_isRight_J36 k x1 x2 x3 r2 v4 w2)
set_option maxHeartbeats 4000000 in
set_option maxRecDepth 100000 in
theorem mX4_isRight {l : Launch} {D : va_G} {dA : Nat → ClassId} {ad : Nat → Nat} {al : Nat → Prop} {w : zW} {k : Int32 → zW → Prop} {x1 : Int32} {x2 : Int32} {x3 : Int32}   (hf : fX4_isRight x1 x2 x3 w k) : zmetI l yX4_isRight cX4_isRight 6 (some .boolean) 1 [.ref (ad 31), .int x1, .int x2, .int x3] D dA true ad al w k := by
  refine zmetZ_of (by decide) (Nat.le_of_ble_eq_true rfl) ?_
  intro p e R s m below meth c Q H ls args locs cells slots X hr hQ hR hl
  have hx := X.1
  have hb := X.2.1
  have hml := X.2.2.1
  have hown := X.2.2.2.1
  have hts := X.2.2.2.2.1
  unfold fX4_isRight at hf
  have hl : lv_has ls 6 [(0, .ref (ad 31)), (1, .int x1), (2, .int x2), (3, .int x3)] := hl
  refine lv_aload_n hx hb dX4_isRight_0 rfl (lv_at hl 0 rfl) ?_
  refine z_getR X hR (zlit hR zf_31) zs_31 (by decide) zfd_X4_23 rfl dX4_isRight_1 ?_
  obtain ⟨hn10, hf⟩ := hf
  have hn1 : al (gR w 31 7) ∧ zsh (gR w 31 7) = 3 := zwt_of hR (zlit hR zf_31) zs_31 rfl hn10 (zdc_of zs_31 rfl)
  rw [zrf_pos hn10]
  refine lv_iload_n hx hb dX4_isRight_4 rfl (lv_at hl 1 rfl) ?_
  refine z_callVI (fr1 := 0) (b := (gR w 31 7)) (As := [.int x1]) (rest := []) X (hr.le (by decide)) hR zy_X3_countOf zq_1424 hn1.1 (by rw [hn1.2]; rfl) rfl (mX3_countOf ⟨hn1.1, hn1.2⟩ hf) rfl hl (Nat.le_of_ble_eq_true rfl) dX4_isRight_5 rfl (fun r2 w2 H locs hf hR => ?_)
  refine lv_istore (lv' := [(4, .int r2), (0, .ref (ad 31)), (1, .int x1), (2, .int x2), (3, .int x3)]) hx hb dX4_isRight_8 hl (by decide) rfl (fun ls hl => ?_)
  refine lv_iload_n hx hb dX4_isRight_10 rfl (lv_at hl 2 rfl) ?_
  refine lv_iconst (v := (1 : Int32)) hx hb dX4_isRight_11 (by decide) ?_
  refine lv_iadd hx hb dX4_isRight_12 ?_
  refine lv_aload_n hx hb dX4_isRight_13 rfl (lv_at hl 1 rfl) ?_
  refine z_getR X hR (zlit hR zf_31) zs_31 (by decide) zfd_X4_19 rfl dX4_isRight_14 ?_
  obtain ⟨hn30, hf⟩ := hf
  have hn3 : al (gR w2 31 6) ∧ zsh (gR w2 31 6) = 0 := zwt_of hR (zlit hR zf_31) zs_31 rfl hn30 (zdc_of zs_31 rfl)
  rw [zrf_pos hn30]
  refine z_getI X hR hn3.1 hn3.2 (by decide) zfd_X4_65 rfl dX4_isRight_17 ?_
  have kJ4 : ∀ v4 : Int32, v4 = (if (gI w2 (gR w2 31 6) 7) ≤ (x1 + (1 : Int32)) then (1 : Int32) else (if (x1 + (1 : Int32)) < (8 : Int32) then (0 : Int32) else (1 : Int32))) → W p l e R s m args below meth c H locs cells slots Q (F0 m 36 ls (.int v4 :: [])) := by
    intro v4 hv4
    replace hf := hf v4 hv4
    exact mX4_isRight_J36 X hr hQ  hf hR (lv_sub hl [1, 2, 3, 4, 0] rfl)
  refine lv_icmp_ge (tgt := 31) hx hb dX4_isRight_20 (by decide) (fun c4 => ?_) (fun c4 => ?_)
  · refine lv_iconst (v := (1 : Int32)) hx hb dX4_isRight_31 (by decide) ?_
    refine lv_goto (tgt := 36) hx hb dX4_isRight_32 (by decide) ?_
    exact kJ4 _ (if_pos c4).symm
  · refine lv_iload_n hx hb dX4_isRight_23 rfl (lv_at hl 2 rfl) ?_
    refine lv_iconst (v := (1 : Int32)) hx hb dX4_isRight_24 (by decide) ?_
    refine lv_iadd hx hb dX4_isRight_25 ?_
    refine lv_bipush (v := (8 : Int32)) hx hb dX4_isRight_26 (by decide) ?_
    refine lv_icmp_lt (tgt := 35) hx hb dX4_isRight_28 (by decide) (fun c11 => ?_) (fun c11 => ?_)
    · refine lv_iconst (v := (0 : Int32)) hx hb dX4_isRight_35 (by decide) ?_
      exact kJ4 _ ((if_neg c4).trans (if_pos c11)).symm
    · refine lv_iconst (v := (1 : Int32)) hx hb dX4_isRight_31 (by decide) ?_
      refine lv_goto (tgt := 36) hx hb dX4_isRight_32 (by decide) ?_
      exact kJ4 _ ((if_neg c4).trans (if_neg c11)).symm
/-! X4_mendRow -/
def fX4_mendRow_J154 (k : zW → Prop) (g24 : Int32 → Int32 → Int32 → Int32 → Int32 → zW → Prop) (g45 : Int32 → Int32 → Int32 → Int32 → Int32 → Int32 → zW → Prop) (x1 : Int32) (x2 : Int32) (x3 : Int32) (x4 : Int32) (x5 : Int32) (x6 : Int32) (x9 : Int32) (t0 : Int32) (w : zW) : Prop :=
  ((t0 = 0 →
    g45 x1 x2 x3 x4 x5 (x6 + (1 : Int32)) w) ∧
   (¬ t0 = 0 →
    fX4_isRight x1 x9 x2 w (fun r22 w22 =>
    ((r22 = 0 →
      g45 x1 x2 x3 x4 x5 (x6 + (1 : Int32)) w22) ∧
     (¬ r22 = 0 →
      vp_in x1 8 ∧ 
      fX4_bit x5 x6 w22 (fun r25 w25 =>
      ∀ w26 : zW, w26 = sI w25 32 x1.toNatClampNeg ((gI w22 32 x1.toNatClampNeg) ||| r25) →
      g45 x1 x2 x3 x4 x5 (x6 + (1 : Int32)) w26))))))
set_option maxHeartbeats 4000000 in
set_option maxRecDepth 100000 in
theorem mX4_mendRow_J154 {k : zW → Prop} {g24 : Int32 → Int32 → Int32 → Int32 → Int32 → zW → Prop} {g45 : Int32 → Int32 → Int32 → Int32 → Int32 → Int32 → zW → Prop} (X : zCx p s m args meth c cX4_mendRow 11 RX4 none) (hr : zRm R 2 cells slots) (hQ : zRetV p l e R s m args below meth c cells slots Q D dA true ad0 al0 ad al cX4_mendRow k) (hg24 : ∀ (x1 : Int32) (x2 : Int32) (x3 : Int32) (x4 : Int32) (x5 : Int32) (w : zW) (H : Heap) (locs : List Loc) (ls : Array Slot), g24 x1 x2 x3 x4 x5 w → zSt D dA true ad0 al0 ad al w s H locs → lv_has ls 11 [(0, .ref (ad 31)), (1, .int x1), (2, .int x2), (3, .int x3), (4, .int x4), (5, .int x5)] → W p l e R s m args below meth c H locs cells slots Q (F0 m 24 ls [])) (hg45 : ∀ (x1 : Int32) (x2 : Int32) (x3 : Int32) (x4 : Int32) (x5 : Int32) (x6 : Int32) (w : zW) (H : Heap) (locs : List Loc) (ls : Array Slot), g45 x1 x2 x3 x4 x5 x6 w → zSt D dA true ad0 al0 ad al w s H locs → lv_has ls 11 [(0, .ref (ad 31)), (1, .int x1), (2, .int x2), (3, .int x3), (4, .int x4), (5, .int x5), (6, .int x6)] → W p l e R s m args below meth c H locs cells slots Q (F0 m 45 ls [])) {x1 : Int32} {x2 : Int32} {x3 : Int32} {x4 : Int32} {x5 : Int32} {x6 : Int32} {x9 : Int32} {t0 : Int32} {w : zW} {H : Heap} {locs : List Loc} {ls : Array Slot} (hf : fX4_mendRow_J154 k g24 g45 x1 x2 x3 x4 x5 x6 x9 t0 w) (hR : zSt D dA true ad0 al0 ad al w s H locs) (hl : lv_has ls 11 [(0, .ref (ad 31)), (1, .int x1), (2, .int x2), (3, .int x3), (4, .int x4), (5, .int x5), (6, .int x6), (9, .int x9)]) : W p l e R s m args below meth c H locs cells slots Q (F0 m 154 ls [.int t0]) := by
  have hx := X.1
  have hb := X.2.1
  have hml := X.2.2.1
  have hown := X.2.2.2.1
  have hts := X.2.2.2.2.1
  unfold fX4_mendRow_J154 at hf
  refine lv_istore (lv' := [(10, .int t0), (0, .ref (ad 31)), (1, .int x1), (2, .int x2), (3, .int x3), (4, .int x4), (5, .int x5), (6, .int x6), (9, .int x9)]) hx hb dX4_mendRow_154 hl (by decide) rfl (fun ls hl => ?_)
  refine lv_iload hx hb dX4_mendRow_156 (lv_at hl 0 rfl) ?_
  refine lv_if_eq (tgt := 188) hx hb dX4_mendRow_158 (by decide) (fun c21 => ?_) (fun c21 => ?_)
  · replace hf := hf.1 c21
    refine lv_iinc (v := x6 + (1 : Int32)) (lv' := [(6, .int (x6 + (1 : Int32))), (10, .int t0), (0, .ref (ad 31)), (1, .int x1), (2, .int x2), (3, .int x3), (4, .int x4), (5, .int x5), (9, .int x9)]) hx hb dX4_mendRow_188 hl (k := 7) rfl rfl (by decide) rfl (fun ls hl => ?_)
    refine lv_goto (tgt := 45) hx hb dX4_mendRow_191 (by decide) ?_
    exact hg45 x1 x2 x3 x4 x5 (x6 + (1 : Int32)) w _ _ _ hf hR (lv_sub hl [2, 3, 4, 5, 6, 7, 0] rfl)
  · replace hf := hf.2 c21
    refine lv_aload_n hx hb dX4_mendRow_161 rfl (lv_at hl 1 rfl) ?_
    refine lv_iload_n hx hb dX4_mendRow_162 rfl (lv_at hl 2 rfl) ?_
    refine lv_iload hx hb dX4_mendRow_163 (lv_at hl 8 rfl) ?_
    refine lv_iload_n hx hb dX4_mendRow_165 rfl (lv_at hl 3 rfl) ?_
    refine z_callVI (fr1 := 1) (b := 31) (As := [.int x1, .int x9, .int x2]) (rest := []) X (hr.le (by decide)) hR zy_X4_isRight zq_1420 (zlit hR zf_31) (by rw [zs_31]; rfl) rfl (mX4_isRight  hf) rfl hl (Nat.le_of_ble_eq_true rfl) dX4_mendRow_166 rfl (fun r22 w22 H locs hf hR => ?_)
    refine lv_if_eq (tgt := 188) hx hb dX4_mendRow_169 (by decide) (fun c23 => ?_) (fun c23 => ?_)
    · replace hf := hf.1 c23
      refine lv_iinc (v := x6 + (1 : Int32)) (lv' := [(6, .int (x6 + (1 : Int32))), (10, .int t0), (0, .ref (ad 31)), (1, .int x1), (2, .int x2), (3, .int x3), (4, .int x4), (5, .int x5), (9, .int x9)]) hx hb dX4_mendRow_188 hl (k := 7) rfl rfl (by decide) rfl (fun ls hl => ?_)
      refine lv_goto (tgt := 45) hx hb dX4_mendRow_191 (by decide) ?_
      exact hg45 x1 x2 x3 x4 x5 (x6 + (1 : Int32)) w22 _ _ _ hf hR (lv_sub hl [2, 3, 4, 5, 6, 7, 0] rfl)
    · replace hf := hf.2 c23
      refine lv_aload_n hx hb dX4_mendRow_172 rfl (lv_at hl 1 rfl) ?_
      refine z_getS X hR (zlit hR zf_31) zs_31 (by decide) zfd_X4_15 rfl (r := 32) (by decide +kernel) dX4_mendRow_173 ?_
      refine lv_iload_n hx hb dX4_mendRow_176 rfl (lv_at hl 2 rfl) ?_
      refine lv_dup2_11 hx hb dX4_mendRow_177 rfl rfl ?_
      obtain ⟨hb24, hf⟩ := hf
      refine z_iald X hR (zlit hR zf_32) zs_32 zl_32 hb24 dX4_mendRow_178 ?_
      refine lv_iload hx hb dX4_mendRow_179 (lv_at hl 6 rfl) ?_
      refine lv_iload hx hb dX4_mendRow_181 (lv_at hl 7 rfl) ?_
      refine z_callSI (fr1 := 0) (As := [.int x5, .int x6]) (rest := [.int (gI w22 32 x1.toNatClampNeg), .int x1, .ref (ad 32)]) X (hr.le (by decide)) hR zy_X4_bit zq_1416 (mX4_bit  hf) rfl hl (Nat.le_of_ble_eq_true rfl) dX4_mendRow_183 rfl (fun r25 w25 H locs hf hR => ?_)
      refine lv_ior hx hb dX4_mendRow_186 ?_
      refine z_iast X hR (zlit hR zf_32) zs_32 zl_32 hb24 dX4_mendRow_187 (fun H locs hR => ?_)
      obtain ⟨w26, hw26⟩ : ∃ z : zW, z = sI w25 32 x1.toNatClampNeg ((gI w22 32 x1.toNatClampNeg) ||| r25) := ⟨_, rfl⟩
      rw [← hw26] at hR
      replace hf := hf w26 hw26
      refine lv_iinc (v := x6 + (1 : Int32)) (lv' := [(6, .int (x6 + (1 : Int32))), (10, .int t0), (0, .ref (ad 31)), (1, .int x1), (2, .int x2), (3, .int x3), (4, .int x4), (5, .int x5), (9, .int x9)]) hx hb dX4_mendRow_188 hl (k := 7) rfl rfl (by decide) rfl (fun ls hl => ?_)
      refine lv_goto (tgt := 45) hx hb dX4_mendRow_191 (by decide) ?_
      exact hg45 x1 x2 x3 x4 x5 (x6 + (1 : Int32)) w26 _ _ _ hf hR (lv_sub hl [2, 3, 4, 5, 6, 7, 0] rfl)
def fX4_mendRow_L45 (k : zW → Prop) (g24 : Int32 → Int32 → Int32 → Int32 → Int32 → zW → Prop) : Nat → Int32 → Int32 → Int32 → Int32 → Int32 → Int32 → zW → Prop
  | 0 => fun _ _ _ _ _ _ _ => False
  | n + 1 => fun x1 x2 x3 x4 x5 x6 w =>
    ¬ gR w 31 6 = 0 ∧
    (((gI w (gR w 31 6) 0) ≤ x6 →
      g24 x1 x2 x3 x4 (x5 + (1 : Int32)) w) ∧
     (¬ (gI w (gR w 31 6) 0) ≤ x6 →
      (((4 : Int32) ≤ x6 →
        g24 x1 x2 x3 x4 (x5 + (1 : Int32)) w) ∧
       (¬ (4 : Int32) ≤ x6 →
        ((x5 = x6 →
          fX4_mendRow_L45 k g24 n x1 x2 x3 x4 x5 (x6 + (1 : Int32)) w) ∧
         (¬ x5 = x6 →
          vp_in x1 8 ∧ 
          vp_in x5 4 ∧ 
          (((gI w ((gR w 31 6) + 20 + 1 + x1.toNatClampNeg) x5.toNatClampNeg) = 0 →
            fX4_mendRow_L45 k g24 n x1 x2 x3 x4 x5 (x6 + (1 : Int32)) w) ∧
           (¬ (gI w ((gR w 31 6) + 20 + 1 + x1.toNatClampNeg) x5.toNatClampNeg) = 0 →
            fX4_bit x5 x6 w (fun r15 w15 =>
            ((((gI w 32 x1.toNatClampNeg) &&& r15) = 0 →
              fX8_meaningIn x2 x5 w15 (fun r17 w17 =>
              fX8_meaningIn x2 x6 w17 (fun r18 w18 =>
              ∀ v19 : Int32, v19 = (x4 + (r18 % (3 : Int32))) - (r17 % (3 : Int32)) →
              ∀ v20 : Int32, v20 = (if ¬ ((x3 + (r18 / (3 : Int32))) - (r17 / (3 : Int32))) = 0 then (0 : Int32) else (1 : Int32)) →
              fX4_mendRow_J154 k g24 (fX4_mendRow_L45 k g24 n) x1 x2 x3 x4 x5 x6 v19 v20 w18))) ∧
             (¬ ((gI w 32 x1.toNatClampNeg) &&& r15) = 0 →
              fX4_mendRow_L45 k g24 n x1 x2 x3 x4 x5 (x6 + (1 : Int32)) w15)))))))))))
set_option maxHeartbeats 4000000 in
set_option maxRecDepth 100000 in
theorem mX4_mendRow_L45 {k : zW → Prop} {g24 : Int32 → Int32 → Int32 → Int32 → Int32 → zW → Prop} (X : zCx p s m args meth c cX4_mendRow 11 RX4 none) (hr : zRm R 2 cells slots) (hQ : zRetV p l e R s m args below meth c cells slots Q D dA true ad0 al0 ad al cX4_mendRow k) (hg24 : ∀ (x1 : Int32) (x2 : Int32) (x3 : Int32) (x4 : Int32) (x5 : Int32) (w : zW) (H : Heap) (locs : List Loc) (ls : Array Slot), g24 x1 x2 x3 x4 x5 w → zSt D dA true ad0 al0 ad al w s H locs → lv_has ls 11 [(0, .ref (ad 31)), (1, .int x1), (2, .int x2), (3, .int x3), (4, .int x4), (5, .int x5)] → W p l e R s m args below meth c H locs cells slots Q (F0 m 24 ls [])) : ∀ (n : Nat) (x1 : Int32) (x2 : Int32) (x3 : Int32) (x4 : Int32) (x5 : Int32) (x6 : Int32) (w : zW) (H : Heap) (locs : List Loc) (ls : Array Slot), fX4_mendRow_L45 k g24 n x1 x2 x3 x4 x5 x6 w → zSt D dA true ad0 al0 ad al w s H locs → lv_has ls 11 [(0, .ref (ad 31)), (1, .int x1), (2, .int x2), (3, .int x3), (4, .int x4), (5, .int x5), (6, .int x6)] → W p l e R s m args below meth c H locs cells slots Q (F0 m 45 ls []) := by
  intro n
  induction n with
  | zero => exact fun _ _ _ _ _ _ _ _ _ _ hf => hf.elim
  | succ n ih =>
    intro x1 x2 x3 x4 x5 x6 w H locs ls hf hR hl
    have hx := X.1
    have hb := X.2.1
    have hml := X.2.2.1
    have hown := X.2.2.2.1
    have hts := X.2.2.2.2.1
    rw [fX4_mendRow_L45] at hf
    refine lv_iload hx hb dX4_mendRow_45 (lv_at hl 6 rfl) ?_
    refine lv_aload_n hx hb dX4_mendRow_47 rfl (lv_at hl 0 rfl) ?_
    refine z_getR X hR (zlit hR zf_31) zs_31 (by decide) zfd_X4_19 rfl dX4_mendRow_48 ?_
    obtain ⟨hn80, hf⟩ := hf
    have hn8 : al (gR w 31 6) ∧ zsh (gR w 31 6) = 0 := zwt_of hR (zlit hR zf_31) zs_31 rfl hn80 (zdc_of zs_31 rfl)
    rw [zrf_pos hn80]
    refine z_getI X hR hn8.1 hn8.2 (by decide) zfd_X4_79 rfl dX4_mendRow_51 ?_
    refine lv_icmp_ge (tgt := 194) hx hb dX4_mendRow_54 (by decide) (fun c9 => ?_) (fun c9 => ?_)
    · replace hf := hf.1 c9
      refine lv_iinc (v := x5 + (1 : Int32)) (lv' := [(5, .int (x5 + (1 : Int32))), (0, .ref (ad 31)), (1, .int x1), (2, .int x2), (3, .int x3), (4, .int x4), (6, .int x6)]) hx hb dX4_mendRow_194 hl (k := 5) rfl rfl (by decide) rfl (fun ls hl => ?_)
      refine lv_goto (tgt := 24) hx hb dX4_mendRow_197 (by decide) ?_
      exact hg24 x1 x2 x3 x4 (x5 + (1 : Int32)) w _ _ _ hf hR (lv_sub hl [1, 2, 3, 4, 5, 0] rfl)
    · replace hf := hf.2 c9
      refine lv_iload hx hb dX4_mendRow_57 (lv_at hl 6 rfl) ?_
      refine lv_iconst (v := (4 : Int32)) hx hb dX4_mendRow_59 (by decide) ?_
      refine lv_icmp_ge (tgt := 194) hx hb dX4_mendRow_60 (by decide) (fun c10 => ?_) (fun c10 => ?_)
      · replace hf := hf.1 c10
        refine lv_iinc (v := x5 + (1 : Int32)) (lv' := [(5, .int (x5 + (1 : Int32))), (0, .ref (ad 31)), (1, .int x1), (2, .int x2), (3, .int x3), (4, .int x4), (6, .int x6)]) hx hb dX4_mendRow_194 hl (k := 5) rfl rfl (by decide) rfl (fun ls hl => ?_)
        refine lv_goto (tgt := 24) hx hb dX4_mendRow_197 (by decide) ?_
        exact hg24 x1 x2 x3 x4 (x5 + (1 : Int32)) w _ _ _ hf hR (lv_sub hl [1, 2, 3, 4, 5, 0] rfl)
      · replace hf := hf.2 c10
        refine lv_iload hx hb dX4_mendRow_63 (lv_at hl 5 rfl) ?_
        refine lv_iload hx hb dX4_mendRow_65 (lv_at hl 6 rfl) ?_
        refine lv_icmp_eq (tgt := 188) hx hb dX4_mendRow_67 (by decide) (fun c11 => ?_) (fun c11 => ?_)
        · replace hf := hf.1 c11
          refine lv_iinc (v := x6 + (1 : Int32)) (lv' := [(6, .int (x6 + (1 : Int32))), (0, .ref (ad 31)), (1, .int x1), (2, .int x2), (3, .int x3), (4, .int x4), (5, .int x5)]) hx hb dX4_mendRow_188 hl (k := 6) rfl rfl (by decide) rfl (fun ls hl => ?_)
          refine lv_goto (tgt := 45) hx hb dX4_mendRow_191 (by decide) ?_
          exact ih x1 x2 x3 x4 x5 (x6 + (1 : Int32)) w _ _ _ hf hR (lv_sub hl [1, 2, 3, 4, 5, 6, 0] rfl)
        · replace hf := hf.2 c11
          refine lv_aload_n hx hb dX4_mendRow_70 rfl (lv_at hl 0 rfl) ?_
          refine z_getR X hR (zlit hR zf_31) zs_31 (by decide) zfd_X4_19 rfl dX4_mendRow_71 ?_
          rw [zrf_pos hn80]
          refine z_getS X hR hn8.1 hn8.2 (by decide) zfd_X4_82 rfl (r := (gR w 31 6) + 20) (zst_0 hn8.2 10 rfl) dX4_mendRow_74 ?_
          refine lv_iload_n hx hb dX4_mendRow_77 rfl (lv_at hl 1 rfl) ?_
          obtain ⟨hb12, hf⟩ := hf
          refine z_aald X hR (zoff hR hn8.2 zo_0_20).1 (zoff hR hn8.2 zo_0_20).2.1 (zoff hR hn8.2 zo_0_20).2.2 hb12 dX4_mendRow_78 ?_
          refine lv_iload hx hb dX4_mendRow_79 (lv_at hl 5 rfl) ?_
          obtain ⟨hb13, hf⟩ := hf
          refine z_iald X hR (zrow hR hn8.2 zr_0_20 hb12).1 (zrow hR hn8.2 zr_0_20 hb12).2.1 (zrow hR hn8.2 zr_0_20 hb12).2.2 hb13 dX4_mendRow_81 ?_
          refine lv_if_eq (tgt := 188) hx hb dX4_mendRow_82 (by decide) (fun c14 => ?_) (fun c14 => ?_)
          · replace hf := hf.1 c14
            refine lv_iinc (v := x6 + (1 : Int32)) (lv' := [(6, .int (x6 + (1 : Int32))), (0, .ref (ad 31)), (1, .int x1), (2, .int x2), (3, .int x3), (4, .int x4), (5, .int x5)]) hx hb dX4_mendRow_188 hl (k := 6) rfl rfl (by decide) rfl (fun ls hl => ?_)
            refine lv_goto (tgt := 45) hx hb dX4_mendRow_191 (by decide) ?_
            exact ih x1 x2 x3 x4 x5 (x6 + (1 : Int32)) w _ _ _ hf hR (lv_sub hl [1, 2, 3, 4, 5, 6, 0] rfl)
          · replace hf := hf.2 c14
            refine lv_aload_n hx hb dX4_mendRow_85 rfl (lv_at hl 0 rfl) ?_
            refine z_getS X hR (zlit hR zf_31) zs_31 (by decide) zfd_X4_15 rfl (r := 32) (by decide +kernel) dX4_mendRow_86 ?_
            refine lv_iload_n hx hb dX4_mendRow_89 rfl (lv_at hl 1 rfl) ?_
            refine z_iald X hR (zlit hR zf_32) zs_32 zl_32 hb12 dX4_mendRow_90 ?_
            refine lv_iload hx hb dX4_mendRow_91 (lv_at hl 5 rfl) ?_
            refine lv_iload hx hb dX4_mendRow_93 (lv_at hl 6 rfl) ?_
            refine z_callSI (fr1 := 0) (As := [.int x5, .int x6]) (rest := [.int (gI w 32 x1.toNatClampNeg)]) X (hr.le (by decide)) hR zy_X4_bit zq_1416 (mX4_bit  hf) rfl hl (Nat.le_of_ble_eq_true rfl) dX4_mendRow_95 rfl (fun r15 w15 H locs hf hR => ?_)
            refine lv_iand hx hb dX4_mendRow_98 ?_
            refine lv_if_eq (tgt := 105) hx hb dX4_mendRow_99 (by decide) (fun c16 => ?_) (fun c16 => ?_)
            · replace hf := hf.1 c16
              refine lv_iload_n hx hb dX4_mendRow_105 rfl (lv_at hl 2 rfl) ?_
              refine lv_iload hx hb dX4_mendRow_106 (lv_at hl 5 rfl) ?_
              refine z_callSI (fr1 := 0) (As := [.int x2, .int x5]) (rest := []) X (hr.le (by decide)) hR zy_X8_meaningIn zq_1419 (mX8_meaningIn  hf) rfl hl (Nat.le_of_ble_eq_true rfl) dX4_mendRow_108 rfl (fun r17 w17 H locs hf hR => ?_)
              refine lv_istore (lv' := [(7, .int r17), (0, .ref (ad 31)), (1, .int x1), (2, .int x2), (3, .int x3), (4, .int x4), (5, .int x5), (6, .int x6)]) hx hb dX4_mendRow_111 hl (by decide) rfl (fun ls hl => ?_)
              refine lv_iload_n hx hb dX4_mendRow_113 rfl (lv_at hl 3 rfl) ?_
              refine lv_iload hx hb dX4_mendRow_114 (lv_at hl 7 rfl) ?_
              refine z_callSI (fr1 := 0) (As := [.int x2, .int x6]) (rest := []) X (hr.le (by decide)) hR zy_X8_meaningIn zq_1419 (mX8_meaningIn  hf) rfl hl (Nat.le_of_ble_eq_true rfl) dX4_mendRow_116 rfl (fun r18 w18 H locs hf hR => ?_)
              refine lv_istore (lv' := [(8, .int r18), (7, .int r17), (0, .ref (ad 31)), (1, .int x1), (2, .int x2), (3, .int x3), (4, .int x4), (5, .int x5), (6, .int x6)]) hx hb dX4_mendRow_119 hl (by decide) rfl (fun ls hl => ?_)
              refine lv_iload hx hb dX4_mendRow_121 (lv_at hl 6 rfl) ?_
              refine lv_iload hx hb dX4_mendRow_123 (lv_at hl 0 rfl) ?_
              refine lv_iconst (v := (3 : Int32)) hx hb dX4_mendRow_125 (by decide) ?_
              refine z_irem X dX4_mendRow_126 (by decide) ?_
              refine lv_iadd hx hb dX4_mendRow_127 ?_
              refine lv_iload hx hb dX4_mendRow_128 (lv_at hl 1 rfl) ?_
              refine lv_iconst (v := (3 : Int32)) hx hb dX4_mendRow_130 (by decide) ?_
              refine z_irem X dX4_mendRow_131 (by decide) ?_
              refine lv_isub hx hb dX4_mendRow_132 ?_
              refine lv_topi (fun v19 hv19 => ?_)
              replace hf := hf v19 hv19
              refine lv_istore (lv' := [(9, .int v19), (8, .int r18), (7, .int r17), (0, .ref (ad 31)), (1, .int x1), (2, .int x2), (3, .int x3), (4, .int x4), (5, .int x5), (6, .int x6)]) hx hb dX4_mendRow_133 hl (by decide) rfl (fun ls hl => ?_)
              refine lv_iload_n hx hb dX4_mendRow_135 rfl (lv_at hl 6 rfl) ?_
              refine lv_iload hx hb dX4_mendRow_136 (lv_at hl 1 rfl) ?_
              refine lv_iconst (v := (3 : Int32)) hx hb dX4_mendRow_138 (by decide) ?_
              refine lv_idiv hx hb dX4_mendRow_139 (by decide) ?_
              refine lv_iadd hx hb dX4_mendRow_140 ?_
              refine lv_iload hx hb dX4_mendRow_141 (lv_at hl 2 rfl) ?_
              refine lv_iconst (v := (3 : Int32)) hx hb dX4_mendRow_143 (by decide) ?_
              refine lv_idiv hx hb dX4_mendRow_144 (by decide) ?_
              refine lv_isub hx hb dX4_mendRow_145 ?_
              have kJ20 : ∀ v20 : Int32, v20 = (if ¬ ((x3 + (r18 / (3 : Int32))) - (r17 / (3 : Int32))) = 0 then (0 : Int32) else (1 : Int32)) → W p l e R s m args below meth c H locs cells slots Q (F0 m 154 ls (.int v20 :: [])) := by
                intro v20 hv20
                replace hf := hf v20 hv20
                exact mX4_mendRow_J154 X hr hQ hg24 ih hf hR (lv_sub hl [3, 4, 5, 6, 7, 8, 9, 0] rfl)
              refine lv_if_ne (tgt := 153) hx hb dX4_mendRow_146 (by decide) (fun c20 => ?_) (fun c20 => ?_)
              · refine lv_iconst (v := (0 : Int32)) hx hb dX4_mendRow_153 (by decide) ?_
                exact kJ20 _ (if_pos c20).symm
              · refine lv_iconst (v := (1 : Int32)) hx hb dX4_mendRow_149 (by decide) ?_
                refine lv_goto (tgt := 154) hx hb dX4_mendRow_150 (by decide) ?_
                exact kJ20 _ (if_neg (fun h9 => h9 c20)).symm
            · replace hf := hf.2 c16
              refine lv_goto (tgt := 188) hx hb dX4_mendRow_102 (by decide) ?_
              refine lv_iinc (v := x6 + (1 : Int32)) (lv' := [(6, .int (x6 + (1 : Int32))), (0, .ref (ad 31)), (1, .int x1), (2, .int x2), (3, .int x3), (4, .int x4), (5, .int x5)]) hx hb dX4_mendRow_188 hl (k := 6) rfl rfl (by decide) rfl (fun ls hl => ?_)
              refine lv_goto (tgt := 45) hx hb dX4_mendRow_191 (by decide) ?_
              exact ih x1 x2 x3 x4 x5 (x6 + (1 : Int32)) w15 _ _ _ hf hR (lv_sub hl [1, 2, 3, 4, 5, 6, 0] rfl)
def fX4_mendRow_L24 (k : zW → Prop) : Nat → Int32 → Int32 → Int32 → Int32 → Int32 → zW → Prop
  | 0 => fun _ _ _ _ _ _ => False
  | n + 1 => fun x1 x2 x3 x4 x5 w =>
    ¬ gR w 31 6 = 0 ∧
    (((gI w (gR w 31 6) 0) ≤ x5 →
      k w) ∧
     (¬ (gI w (gR w 31 6) 0) ≤ x5 →
      (((4 : Int32) ≤ x5 →
        k w) ∧
       (¬ (4 : Int32) ≤ x5 →
        ∃ n9, fX4_mendRow_L45 k (fX4_mendRow_L24 k n) n9 x1 x2 x3 x4 x5 (0 : Int32) w))))
set_option maxHeartbeats 4000000 in
set_option maxRecDepth 100000 in
theorem mX4_mendRow_L24 {k : zW → Prop} (X : zCx p s m args meth c cX4_mendRow 11 RX4 none) (hr : zRm R 2 cells slots) (hQ : zRetV p l e R s m args below meth c cells slots Q D dA true ad0 al0 ad al cX4_mendRow k)  : ∀ (n : Nat) (x1 : Int32) (x2 : Int32) (x3 : Int32) (x4 : Int32) (x5 : Int32) (w : zW) (H : Heap) (locs : List Loc) (ls : Array Slot), fX4_mendRow_L24 k n x1 x2 x3 x4 x5 w → zSt D dA true ad0 al0 ad al w s H locs → lv_has ls 11 [(0, .ref (ad 31)), (1, .int x1), (2, .int x2), (3, .int x3), (4, .int x4), (5, .int x5)] → W p l e R s m args below meth c H locs cells slots Q (F0 m 24 ls []) := by
  intro n
  induction n with
  | zero => exact fun _ _ _ _ _ _ _ _ _ hf => hf.elim
  | succ n ih =>
    intro x1 x2 x3 x4 x5 w H locs ls hf hR hl
    have hx := X.1
    have hb := X.2.1
    have hml := X.2.2.1
    have hown := X.2.2.2.1
    have hts := X.2.2.2.2.1
    rw [fX4_mendRow_L24] at hf
    refine lv_iload hx hb dX4_mendRow_24 (lv_at hl 5 rfl) ?_
    refine lv_aload_n hx hb dX4_mendRow_26 rfl (lv_at hl 0 rfl) ?_
    refine z_getR X hR (zlit hR zf_31) zs_31 (by decide) zfd_X4_19 rfl dX4_mendRow_27 ?_
    obtain ⟨hn50, hf⟩ := hf
    have hn5 : al (gR w 31 6) ∧ zsh (gR w 31 6) = 0 := zwt_of hR (zlit hR zf_31) zs_31 rfl hn50 (zdc_of zs_31 rfl)
    rw [zrf_pos hn50]
    refine z_getI X hR hn5.1 hn5.2 (by decide) zfd_X4_79 rfl dX4_mendRow_30 ?_
    refine lv_icmp_ge (tgt := 200) hx hb dX4_mendRow_33 (by decide) (fun c6 => ?_) (fun c6 => ?_)
    · replace hf := hf.1 c6
      exact hQ _ _ _ _ _ hf hR dX4_mendRow_200
    · replace hf := hf.2 c6
      refine lv_iload hx hb dX4_mendRow_36 (lv_at hl 5 rfl) ?_
      refine lv_iconst (v := (4 : Int32)) hx hb dX4_mendRow_38 (by decide) ?_
      refine lv_icmp_ge (tgt := 200) hx hb dX4_mendRow_39 (by decide) (fun c7 => ?_) (fun c7 => ?_)
      · replace hf := hf.1 c7
        exact hQ _ _ _ _ _ hf hR dX4_mendRow_200
      · replace hf := hf.2 c7
        refine lv_iconst (v := (0 : Int32)) hx hb dX4_mendRow_42 (by decide) ?_
        refine lv_istore (lv' := [(6, .int (0 : Int32)), (0, .ref (ad 31)), (1, .int x1), (2, .int x2), (3, .int x3), (4, .int x4), (5, .int x5)]) hx hb dX4_mendRow_43 hl (by decide) rfl (fun ls hl => ?_)
        obtain ⟨n9, hf⟩ := hf
        exact mX4_mendRow_L45 X hr hQ ih n9 x1 x2 x3 x4 x5 (0 : Int32) w _ _ _ hf hR (lv_sub hl [1, 2, 3, 4, 5, 6, 0] rfl)
def fX4_mendRow (x1 : Int32) (x2 : Int32) (w : zW) (k : zW → Prop) : Prop :=
  ¬ gR w 31 6 = 0 ∧
  fX0_excess (gR w 31 6) x1 x2 w (fun r2 w2 =>
  ¬ gR w2 31 6 = 0 ∧
  fX0_leavesOf (gR w2 31 6) x1 x2 w2 (fun r4 w4 =>
  ∃ n9, fX4_mendRow_L24 k n9 x1 x2 r2 r4 (0 : Int32) w4))
set_option maxHeartbeats 4000000 in
set_option maxRecDepth 100000 in
theorem mX4_mendRow {l : Launch} {D : va_G} {dA : Nat → ClassId} {ad : Nat → Nat} {al : Nat → Prop} {w : zW} {k : zW → Prop} {x1 : Int32} {x2 : Int32}   (hf : fX4_mendRow x1 x2 w k) : zmetV l yX4_mendRow cX4_mendRow 11 none 2 [.ref (ad 31), .int x1, .int x2] D dA true ad al w k := by
  refine zmetV_of (by decide) (Nat.le_of_ble_eq_true rfl) ?_
  intro p e R s m below meth c Q H ls args locs cells slots X hr hQ hR hl
  have hx := X.1
  have hb := X.2.1
  have hml := X.2.2.1
  have hown := X.2.2.2.1
  have hts := X.2.2.2.2.1
  unfold fX4_mendRow at hf
  have hl : lv_has ls 11 [(0, .ref (ad 31)), (1, .int x1), (2, .int x2)] := hl
  refine lv_aload_n hx hb dX4_mendRow_0 rfl (lv_at hl 0 rfl) ?_
  refine z_getR X hR (zlit hR zf_31) zs_31 (by decide) zfd_X4_19 rfl dX4_mendRow_1 ?_
  obtain ⟨hn10, hf⟩ := hf
  have hn1 : al (gR w 31 6) ∧ zsh (gR w 31 6) = 0 := zwt_of hR (zlit hR zf_31) zs_31 rfl hn10 (zdc_of zs_31 rfl)
  rw [zrf_pos hn10]
  refine lv_iload_n hx hb dX4_mendRow_4 rfl (lv_at hl 1 rfl) ?_
  refine lv_iload_n hx hb dX4_mendRow_5 rfl (lv_at hl 2 rfl) ?_
  refine z_callVI (fr1 := 1) (b := (gR w 31 6)) (As := [.int x1, .int x2]) (rest := []) X (hr.le (by decide)) hR zy_X0_excess zq_1414 hn1.1 (by rw [hn1.2]; rfl) rfl (mX0_excess ⟨hn1.1, hn1.2⟩ hf) rfl hl (Nat.le_of_ble_eq_true rfl) dX4_mendRow_6 rfl (fun r2 w2 H locs hf hR => ?_)
  refine lv_istore_n (lv' := [(3, .int r2), (0, .ref (ad 31)), (1, .int x1), (2, .int x2)]) hx hb dX4_mendRow_9 rfl hl (by decide) rfl (fun ls hl => ?_)
  refine lv_aload_n hx hb dX4_mendRow_10 rfl (lv_at hl 1 rfl) ?_
  refine z_getR X hR (zlit hR zf_31) zs_31 (by decide) zfd_X4_19 rfl dX4_mendRow_11 ?_
  obtain ⟨hn30, hf⟩ := hf
  have hn3 : al (gR w2 31 6) ∧ zsh (gR w2 31 6) = 0 := zwt_of hR (zlit hR zf_31) zs_31 rfl hn30 (zdc_of zs_31 rfl)
  rw [zrf_pos hn30]
  refine lv_iload_n hx hb dX4_mendRow_14 rfl (lv_at hl 2 rfl) ?_
  refine lv_iload_n hx hb dX4_mendRow_15 rfl (lv_at hl 3 rfl) ?_
  refine z_callVI (fr1 := 0) (b := (gR w2 31 6)) (As := [.int x1, .int x2]) (rest := []) X (hr.le (by decide)) hR zy_X0_leavesOf zq_1415 hn3.1 (by rw [hn3.2]; rfl) rfl (mX0_leavesOf ⟨hn3.1, hn3.2⟩ hf) rfl hl (Nat.le_of_ble_eq_true rfl) dX4_mendRow_16 rfl (fun r4 w4 H locs hf hR => ?_)
  refine lv_istore (lv' := [(4, .int r4), (3, .int r2), (0, .ref (ad 31)), (1, .int x1), (2, .int x2)]) hx hb dX4_mendRow_19 hl (by decide) rfl (fun ls hl => ?_)
  refine lv_iconst (v := (0 : Int32)) hx hb dX4_mendRow_21 (by decide) ?_
  refine lv_istore (lv' := [(5, .int (0 : Int32)), (4, .int r4), (3, .int r2), (0, .ref (ad 31)), (1, .int x1), (2, .int x2)]) hx hb dX4_mendRow_22 hl (by decide) rfl (fun ls hl => ?_)
  obtain ⟨n9, hf⟩ := hf
  exact mX4_mendRow_L24 X hr hQ  n9 x1 x2 r2 r4 (0 : Int32) w4 _ _ _ hf hR (lv_sub hl [3, 4, 5, 2, 1, 0] rfl)
/-! X8_downIn -/
def fX8_downIn (x0 : Int32) (w : zW) (k : Int32 → zW → Prop) : Prop :=
  k ((x0 >>> ((16 : Int32) &&& 31)) &&& (255 : Int32)) w
set_option maxHeartbeats 4000000 in
set_option maxRecDepth 100000 in
theorem mX8_downIn {l : Launch} {D : va_G} {dA : Nat → ClassId} {ad : Nat → Nat} {al : Nat → Prop} {w : zW} {k : Int32 → zW → Prop} {x0 : Int32}   (hf : fX8_downIn x0 w k) : zmetI l yX8_downIn cX8_downIn 1 (some .int) 0 [.int x0] D dA true ad al w k := by
  refine zmetI_of (by decide) (Nat.le_of_ble_eq_true rfl) ?_
  intro p e R s m below meth c Q H ls args locs cells slots X hr hQ hR hl
  have hx := X.1
  have hb := X.2.1
  have hml := X.2.2.1
  have hown := X.2.2.2.1
  have hts := X.2.2.2.2.1
  unfold fX8_downIn at hf
  have hl : lv_has ls 1 [(0, .int x0)] := hl
  refine lv_iload_n hx hb dX8_downIn_0 rfl (lv_at hl 0 rfl) ?_
  refine lv_bipush (v := (16 : Int32)) hx hb dX8_downIn_1 (by decide) ?_
  refine lv_ishr hx hb dX8_downIn_3 ?_
  refine lv_sipush (v := (255 : Int32)) hx hb dX8_downIn_4 (by decide) ?_
  refine lv_iand hx hb dX8_downIn_7 ?_
  exact hQ _ _ _ _ _ _ hf hR dX8_downIn_8
/-! X4_mendBy -/
def fX4_mendBy_L21 (k : zW → Prop) : Nat → Int32 → Int32 → Int32 → Int32 → zW → Prop
  | 0 => fun _ _ _ _ _ => False
  | n + 1 => fun x1 x2 x3 x4 w =>
    ¬ gR w 31 6 = 0 ∧
    (((gI w (gR w 31 6) 7) ≤ x4 →
      k w) ∧
     (¬ (gI w (gR w 31 6) 7) ≤ x4 →
      (((8 : Int32) ≤ x4 →
        k w) ∧
       (¬ (8 : Int32) ≤ x4 →
        ((¬ (x2 &&& (((3 : Int32) <<< (x4 &&& 31)) ^^^ (-1 : Int32))) = 0 →
          fX4_mendBy_L21 k n x1 x2 x3 (x4 + (1 : Int32)) w) ∧
         ((x2 &&& (((3 : Int32) <<< (x4 &&& 31)) ^^^ (-1 : Int32))) = 0 →
          ((¬ (x3 &&& (((1 : Int32) <<< (x4 &&& 31)) ^^^ (-1 : Int32))) = 0 →
            fX4_mendBy_L21 k n x1 x2 x3 (x4 + (1 : Int32)) w) ∧
           ((x3 &&& (((1 : Int32) <<< (x4 &&& 31)) ^^^ (-1 : Int32))) = 0 →
            fX4_mendRow x4 x1 w (fun w10 =>
            fX4_mendBy_L21 k n x1 x2 x3 (x4 + (1 : Int32)) w10)))))))))
set_option maxHeartbeats 4000000 in
set_option maxRecDepth 100000 in
theorem mX4_mendBy_L21 {k : zW → Prop} (X : zCx p s m args meth c cX4_mendBy 5 RX4 none) (hr : zRm R 3 cells slots) (hQ : zRetV p l e R s m args below meth c cells slots Q D dA true ad0 al0 ad al cX4_mendBy k)  : ∀ (n : Nat) (x1 : Int32) (x2 : Int32) (x3 : Int32) (x4 : Int32) (w : zW) (H : Heap) (locs : List Loc) (ls : Array Slot), fX4_mendBy_L21 k n x1 x2 x3 x4 w → zSt D dA true ad0 al0 ad al w s H locs → lv_has ls 5 [(0, .ref (ad 31)), (1, .int x1), (2, .int x2), (3, .int x3), (4, .int x4)] → W p l e R s m args below meth c H locs cells slots Q (F0 m 21 ls []) := by
  intro n
  induction n with
  | zero => exact fun _ _ _ _ _ _ _ _ hf => hf.elim
  | succ n ih =>
    intro x1 x2 x3 x4 w H locs ls hf hR hl
    have hx := X.1
    have hb := X.2.1
    have hml := X.2.2.1
    have hown := X.2.2.2.1
    have hts := X.2.2.2.2.1
    rw [fX4_mendBy_L21] at hf
    refine lv_iload hx hb dX4_mendBy_21 (lv_at hl 4 rfl) ?_
    refine lv_aload_n hx hb dX4_mendBy_23 rfl (lv_at hl 0 rfl) ?_
    refine z_getR X hR (zlit hR zf_31) zs_31 (by decide) zfd_X4_19 rfl dX4_mendBy_24 ?_
    obtain ⟨hn50, hf⟩ := hf
    have hn5 : al (gR w 31 6) ∧ zsh (gR w 31 6) = 0 := zwt_of hR (zlit hR zf_31) zs_31 rfl hn50 (zdc_of zs_31 rfl)
    rw [zrf_pos hn50]
    refine z_getI X hR hn5.1 hn5.2 (by decide) zfd_X4_65 rfl dX4_mendBy_27 ?_
    refine lv_icmp_ge (tgt := 75) hx hb dX4_mendBy_30 (by decide) (fun c6 => ?_) (fun c6 => ?_)
    · replace hf := hf.1 c6
      exact hQ _ _ _ _ _ hf hR dX4_mendBy_75
    · replace hf := hf.2 c6
      refine lv_iload hx hb dX4_mendBy_33 (lv_at hl 4 rfl) ?_
      refine lv_bipush (v := (8 : Int32)) hx hb dX4_mendBy_35 (by decide) ?_
      refine lv_icmp_ge (tgt := 75) hx hb dX4_mendBy_37 (by decide) (fun c7 => ?_) (fun c7 => ?_)
      · replace hf := hf.1 c7
        exact hQ _ _ _ _ _ hf hR dX4_mendBy_75
      · replace hf := hf.2 c7
        refine lv_iload_n hx hb dX4_mendBy_40 rfl (lv_at hl 2 rfl) ?_
        refine lv_iconst (v := (3 : Int32)) hx hb dX4_mendBy_41 (by decide) ?_
        refine lv_iload hx hb dX4_mendBy_42 (lv_at hl 4 rfl) ?_
        refine lv_ishl hx hb dX4_mendBy_44 ?_
        refine lv_iconst (v := (-1 : Int32)) hx hb dX4_mendBy_45 (by decide) ?_
        refine lv_ixor hx hb dX4_mendBy_46 ?_
        refine lv_iand hx hb dX4_mendBy_47 ?_
        refine lv_if_ne (tgt := 69) hx hb dX4_mendBy_48 (by decide) (fun c8 => ?_) (fun c8 => ?_)
        · replace hf := hf.1 c8
          refine lv_iinc (v := x4 + (1 : Int32)) (lv' := [(4, .int (x4 + (1 : Int32))), (0, .ref (ad 31)), (1, .int x1), (2, .int x2), (3, .int x3)]) hx hb dX4_mendBy_69 hl (k := 4) rfl rfl (by decide) rfl (fun ls hl => ?_)
          refine lv_goto (tgt := 21) hx hb dX4_mendBy_72 (by decide) ?_
          exact ih x1 x2 x3 (x4 + (1 : Int32)) w _ _ _ hf hR (lv_sub hl [1, 2, 3, 4, 0] rfl)
        · replace hf := hf.2 c8
          refine lv_iload_n hx hb dX4_mendBy_51 rfl (lv_at hl 3 rfl) ?_
          refine lv_iconst (v := (1 : Int32)) hx hb dX4_mendBy_52 (by decide) ?_
          refine lv_iload hx hb dX4_mendBy_53 (lv_at hl 4 rfl) ?_
          refine lv_ishl hx hb dX4_mendBy_55 ?_
          refine lv_iconst (v := (-1 : Int32)) hx hb dX4_mendBy_56 (by decide) ?_
          refine lv_ixor hx hb dX4_mendBy_57 ?_
          refine lv_iand hx hb dX4_mendBy_58 ?_
          refine lv_if_ne (tgt := 69) hx hb dX4_mendBy_59 (by decide) (fun c9 => ?_) (fun c9 => ?_)
          · replace hf := hf.1 c9
            refine lv_iinc (v := x4 + (1 : Int32)) (lv' := [(4, .int (x4 + (1 : Int32))), (0, .ref (ad 31)), (1, .int x1), (2, .int x2), (3, .int x3)]) hx hb dX4_mendBy_69 hl (k := 4) rfl rfl (by decide) rfl (fun ls hl => ?_)
            refine lv_goto (tgt := 21) hx hb dX4_mendBy_72 (by decide) ?_
            exact ih x1 x2 x3 (x4 + (1 : Int32)) w _ _ _ hf hR (lv_sub hl [1, 2, 3, 4, 0] rfl)
          · replace hf := hf.2 c9
            refine lv_aload_n hx hb dX4_mendBy_62 rfl (lv_at hl 0 rfl) ?_
            refine lv_iload hx hb dX4_mendBy_63 (lv_at hl 4 rfl) ?_
            refine lv_iload_n hx hb dX4_mendBy_65 rfl (lv_at hl 1 rfl) ?_
            refine z_callVV (fr1 := 2) (b := 31) (As := [.int x4, .int x1]) (rest := []) X (hr.le (by decide)) hR zy_X4_mendRow zq_1408 (zlit hR zf_31) (by rw [zs_31]; rfl) rfl (mX4_mendRow  hf) rfl hl (Nat.le_of_ble_eq_true rfl) dX4_mendBy_66 rfl (fun w10 H locs hf hR => ?_)
            refine lv_iinc (v := x4 + (1 : Int32)) (lv' := [(4, .int (x4 + (1 : Int32))), (0, .ref (ad 31)), (1, .int x1), (2, .int x2), (3, .int x3)]) hx hb dX4_mendBy_69 hl (k := 4) rfl rfl (by decide) rfl (fun ls hl => ?_)
            refine lv_goto (tgt := 21) hx hb dX4_mendBy_72 (by decide) ?_
            exact ih x1 x2 x3 (x4 + (1 : Int32)) w10 _ _ _ hf hR (lv_sub hl [1, 2, 3, 4, 0] rfl)
def fX4_mendBy (x1 : Int32) (w : zW) (k : zW → Prop) : Prop :=
  fX8_downIn x1 w (fun r1 w1 =>
  ¬ gR w1 31 7 = 0 ∧
  ¬ gR w1 31 6 = 0 ∧
  fX3_missed (gR w1 31 7) (gR w1 31 6) x1 w1 (fun r4 w4 =>
  ∃ n9, fX4_mendBy_L21 k n9 x1 r1 r4 (0 : Int32) w4))
set_option maxHeartbeats 4000000 in
set_option maxRecDepth 100000 in
theorem mX4_mendBy {l : Launch} {D : va_G} {dA : Nat → ClassId} {ad : Nat → Nat} {al : Nat → Prop} {w : zW} {k : zW → Prop} {x1 : Int32}   (hf : fX4_mendBy x1 w k) : zmetV l yX4_mendBy cX4_mendBy 5 none 3 [.ref (ad 31), .int x1] D dA true ad al w k := by
  refine zmetV_of (by decide) (Nat.le_of_ble_eq_true rfl) ?_
  intro p e R s m below meth c Q H ls args locs cells slots X hr hQ hR hl
  have hx := X.1
  have hb := X.2.1
  have hml := X.2.2.1
  have hown := X.2.2.2.1
  have hts := X.2.2.2.2.1
  unfold fX4_mendBy at hf
  have hl : lv_has ls 5 [(0, .ref (ad 31)), (1, .int x1)] := hl
  refine lv_iload_n hx hb dX4_mendBy_0 rfl (lv_at hl 1 rfl) ?_
  refine z_callSI (fr1 := 0) (As := [.int x1]) (rest := []) X (hr.le (by decide)) hR zy_X8_downIn zq_1398 (mX8_downIn  hf) rfl hl (Nat.le_of_ble_eq_true rfl) dX4_mendBy_1 rfl (fun r1 w1 H locs hf hR => ?_)
  refine lv_istore_n (lv' := [(2, .int r1), (0, .ref (ad 31)), (1, .int x1)]) hx hb dX4_mendBy_4 rfl hl (by decide) rfl (fun ls hl => ?_)
  refine lv_aload_n hx hb dX4_mendBy_5 rfl (lv_at hl 1 rfl) ?_
  refine z_getR X hR (zlit hR zf_31) zs_31 (by decide) zfd_X4_23 rfl dX4_mendBy_6 ?_
  obtain ⟨hn20, hf⟩ := hf
  have hn2 : al (gR w1 31 7) ∧ zsh (gR w1 31 7) = 3 := zwt_of hR (zlit hR zf_31) zs_31 rfl hn20 (zdc_of zs_31 rfl)
  rw [zrf_pos hn20]
  refine lv_iload_n hx hb dX4_mendBy_9 rfl (lv_at hl 2 rfl) ?_
  refine lv_aload_n hx hb dX4_mendBy_10 rfl (lv_at hl 1 rfl) ?_
  refine z_getR X hR (zlit hR zf_31) zs_31 (by decide) zfd_X4_19 rfl dX4_mendBy_11 ?_
  obtain ⟨hn30, hf⟩ := hf
  have hn3 : al (gR w1 31 6) ∧ zsh (gR w1 31 6) = 0 := zwt_of hR (zlit hR zf_31) zs_31 rfl hn30 (zdc_of zs_31 rfl)
  rw [zrf_pos hn30]
  refine z_callVI (fr1 := 1) (b := (gR w1 31 7)) (As := [.int x1, .ref (ad (gR w1 31 6))]) (rest := []) X (hr.le (by decide)) hR zy_X3_missed zq_1407 hn2.1 (by rw [hn2.2]; rfl) rfl (mX3_missed ⟨hn2.1, hn2.2⟩ ⟨hn3.1, hn3.2⟩ hf) rfl hl (Nat.le_of_ble_eq_true rfl) dX4_mendBy_14 rfl (fun r4 w4 H locs hf hR => ?_)
  refine lv_istore_n (lv' := [(3, .int r4), (2, .int r1), (0, .ref (ad 31)), (1, .int x1)]) hx hb dX4_mendBy_17 rfl hl (by decide) rfl (fun ls hl => ?_)
  refine lv_iconst (v := (0 : Int32)) hx hb dX4_mendBy_18 (by decide) ?_
  refine lv_istore (lv' := [(4, .int (0 : Int32)), (3, .int r4), (2, .int r1), (0, .ref (ad 31)), (1, .int x1)]) hx hb dX4_mendBy_19 hl (by decide) rfl (fun ls hl => ?_)
  obtain ⟨n9, hf⟩ := hf
  exact mX4_mendBy_L21 X hr hQ  n9 x1 r1 r4 (0 : Int32) w4 _ _ _ hf hR (lv_sub hl [3, 4, 2, 1, 0] rfl)
/-! X4_addWay -/
def fX4_addWay_J22 (k : zW → Prop)  (w : zW) : Prop :=
  ∀ w2 : zW, w2 = sI w 31 1 ((gI w 31 1) + (1 : Int32)) →
  k w2
set_option maxHeartbeats 4000000 in
set_option maxRecDepth 100000 in
theorem mX4_addWay_J22 {k : zW → Prop} (X : zCx p s m args meth c cX4_addWay 4 RX4 none) (hr : zRm R 0 cells slots) (hQ : zRetV p l e R s m args below meth c cells slots Q D dA true ad0 al0 ad al cX4_addWay k)   {w : zW} {H : Heap} {locs : List Loc} {ls : Array Slot} (hf : fX4_addWay_J22 k  w) (hR : zSt D dA true ad0 al0 ad al w s H locs) (hl : lv_has ls 4 [(0, .ref (ad 31))]) : W p l e R s m args below meth c H locs cells slots Q (F0 m 22 ls []) := by
  have hx := X.1
  have hb := X.2.1
  have hml := X.2.2.1
  have hown := X.2.2.2.1
  have hts := X.2.2.2.2.1
  unfold fX4_addWay_J22 at hf
  refine lv_aload_n hx hb dX4_addWay_22 rfl (lv_at hl 0 rfl) ?_
  refine lv_dup hx hb dX4_addWay_23 rfl ?_
  refine z_getI X hR (zlit hR zf_31) zs_31 (by decide) zfd_X4_102 rfl dX4_addWay_24 ?_
  refine lv_iconst (v := (1 : Int32)) hx hb dX4_addWay_27 (by decide) ?_
  refine lv_iadd hx hb dX4_addWay_28 ?_
  refine z_putI X hR (zlit hR zf_31) zs_31 (by decide) zfp_X4_102 rfl dX4_addWay_29 (fun H locs hR => ?_)
  obtain ⟨w2, hw2⟩ : ∃ z : zW, z = sI w 31 1 ((gI w 31 1) + (1 : Int32)) := ⟨_, rfl⟩
  rw [← hw2] at hR
  replace hf := hf w2 hw2
  exact hQ _ _ _ _ _ hf hR dX4_addWay_32
def fX4_addWay (x1 : Int32) (x2 : Int32) (x3 : Int32) (w : zW) (k : zW → Prop) : Prop :=
  ((¬ (gI w 31 1) = 0 →
    fX4_addWay_J22 k  w) ∧
   ((gI w 31 1) = 0 →
    ∀ w3 : zW, w3 = sI w 31 2 x1 →
    ∀ w4 : zW, w4 = sI w3 31 3 x2 →
    ∀ w5 : zW, w5 = sI w4 31 4 x3 →
    fX4_addWay_J22 k  w5))
set_option maxHeartbeats 4000000 in
set_option maxRecDepth 100000 in
theorem mX4_addWay {l : Launch} {D : va_G} {dA : Nat → ClassId} {ad : Nat → Nat} {al : Nat → Prop} {w : zW} {k : zW → Prop} {x1 : Int32} {x2 : Int32} {x3 : Int32}   (hf : fX4_addWay x1 x2 x3 w k) : zmetV l yX4_addWay cX4_addWay 4 none 0 [.ref (ad 31), .int x1, .int x2, .int x3] D dA true ad al w k := by
  refine zmetV_of (by decide) (Nat.le_of_ble_eq_true rfl) ?_
  intro p e R s m below meth c Q H ls args locs cells slots X hr hQ hR hl
  have hx := X.1
  have hb := X.2.1
  have hml := X.2.2.1
  have hown := X.2.2.2.1
  have hts := X.2.2.2.2.1
  unfold fX4_addWay at hf
  have hl : lv_has ls 4 [(0, .ref (ad 31)), (1, .int x1), (2, .int x2), (3, .int x3)] := hl
  refine lv_aload_n hx hb dX4_addWay_0 rfl (lv_at hl 0 rfl) ?_
  refine z_getI X hR (zlit hR zf_31) zs_31 (by decide) zfd_X4_102 rfl dX4_addWay_1 ?_
  refine lv_if_ne (tgt := 22) hx hb dX4_addWay_4 (by decide) (fun c1 => ?_) (fun c1 => ?_)
  · replace hf := hf.1 c1
    exact mX4_addWay_J22 X hr hQ  hf hR (lv_sub hl [0] rfl)
  · replace hf := hf.2 c1
    refine lv_aload_n hx hb dX4_addWay_7 rfl (lv_at hl 0 rfl) ?_
    refine lv_iload_n hx hb dX4_addWay_8 rfl (lv_at hl 1 rfl) ?_
    refine z_putI X hR (zlit hR zf_31) zs_31 (by decide) zfp_X4_105 rfl dX4_addWay_9 (fun H locs hR => ?_)
    obtain ⟨w3, hw3⟩ : ∃ z : zW, z = sI w 31 2 x1 := ⟨_, rfl⟩
    rw [← hw3] at hR
    replace hf := hf w3 hw3
    refine lv_aload_n hx hb dX4_addWay_12 rfl (lv_at hl 0 rfl) ?_
    refine lv_iload_n hx hb dX4_addWay_13 rfl (lv_at hl 2 rfl) ?_
    refine z_putI X hR (zlit hR zf_31) zs_31 (by decide) zfp_X4_108 rfl dX4_addWay_14 (fun H locs hR => ?_)
    obtain ⟨w4, hw4⟩ : ∃ z : zW, z = sI w3 31 3 x2 := ⟨_, rfl⟩
    rw [← hw4] at hR
    replace hf := hf w4 hw4
    refine lv_aload_n hx hb dX4_addWay_17 rfl (lv_at hl 0 rfl) ?_
    refine lv_iload_n hx hb dX4_addWay_18 rfl (lv_at hl 3 rfl) ?_
    refine z_putI X hR (zlit hR zf_31) zs_31 (by decide) zfp_X4_111 rfl dX4_addWay_19 (fun H locs hR => ?_)
    obtain ⟨w5, hw5⟩ : ∃ z : zW, z = sI w4 31 4 x3 := ⟨_, rfl⟩
    rw [← hw5] at hR
    replace hf := hf w5 hw5
    exact mX4_addWay_J22 X hr hQ  hf hR (lv_sub hl [0] rfl)
/-! X4_sumUp -/
def fX4_sumUp_L56 (k : zW → Prop) (g22 : Int32 → zW → Prop) (g41 : Int32 → Int32 → zW → Prop) : Nat → Int32 → Int32 → Int32 → zW → Prop
  | 0 => fun _ _ _ _ => False
  | n + 1 => fun x1 x2 x3 w =>
    ¬ gR w 31 6 = 0 ∧
    (((gI w (gR w 31 6) 0) ≤ x3 →
      g41 x1 (x2 + (1 : Int32)) w) ∧
     (¬ (gI w (gR w 31 6) 0) ≤ x3 →
      (((4 : Int32) ≤ x3 →
        g41 x1 (x2 + (1 : Int32)) w) ∧
       (¬ (4 : Int32) ≤ x3 →
        vp_in x1 8 ∧ 
        fX0_wordAt (gR w 31 6) x1 x2 w (fun r15 w15 =>
        fX4_bit r15 x3 w15 (fun r16 w16 =>
        ((((gI w 32 x1.toNatClampNeg) &&& r16) = 0 →
          fX4_sumUp_L56 k g22 g41 n x1 x2 (x3 + (1 : Int32)) w16) ∧
         (¬ ((gI w 32 x1.toNatClampNeg) &&& r16) = 0 →
          fX4_addWay x1 x2 x3 w16 (fun w18 =>
          fX4_sumUp_L56 k g22 g41 n x1 x2 (x3 + (1 : Int32)) w18)))))))))
set_option maxHeartbeats 4000000 in
set_option maxRecDepth 100000 in
theorem mX4_sumUp_L56 {k : zW → Prop} {g22 : Int32 → zW → Prop} {g41 : Int32 → Int32 → zW → Prop} (X : zCx p s m args meth c cX4_sumUp 4 RX4 none) (hr : zRm R 1 cells slots) (hQ : zRetV p l e R s m args below meth c cells slots Q D dA true ad0 al0 ad al cX4_sumUp k) (hg22 : ∀ (x1 : Int32) (w : zW) (H : Heap) (locs : List Loc) (ls : Array Slot), g22 x1 w → zSt D dA true ad0 al0 ad al w s H locs → lv_has ls 4 [(0, .ref (ad 31)), (1, .int x1)] → W p l e R s m args below meth c H locs cells slots Q (F0 m 22 ls [])) (hg41 : ∀ (x1 : Int32) (x2 : Int32) (w : zW) (H : Heap) (locs : List Loc) (ls : Array Slot), g41 x1 x2 w → zSt D dA true ad0 al0 ad al w s H locs → lv_has ls 4 [(0, .ref (ad 31)), (1, .int x1), (2, .int x2)] → W p l e R s m args below meth c H locs cells slots Q (F0 m 41 ls [])) : ∀ (n : Nat) (x1 : Int32) (x2 : Int32) (x3 : Int32) (w : zW) (H : Heap) (locs : List Loc) (ls : Array Slot), fX4_sumUp_L56 k g22 g41 n x1 x2 x3 w → zSt D dA true ad0 al0 ad al w s H locs → lv_has ls 4 [(0, .ref (ad 31)), (1, .int x1), (2, .int x2), (3, .int x3)] → W p l e R s m args below meth c H locs cells slots Q (F0 m 56 ls []) := by
  intro n
  induction n with
  | zero => exact fun _ _ _ _ _ _ _ hf => hf.elim
  | succ n ih =>
    intro x1 x2 x3 w H locs ls hf hR hl
    have hx := X.1
    have hb := X.2.1
    have hml := X.2.2.1
    have hown := X.2.2.2.1
    have hts := X.2.2.2.2.1
    rw [fX4_sumUp_L56] at hf
    refine lv_iload_n hx hb dX4_sumUp_56 rfl (lv_at hl 3 rfl) ?_
    refine lv_aload_n hx hb dX4_sumUp_57 rfl (lv_at hl 0 rfl) ?_
    refine z_getR X hR (zlit hR zf_31) zs_31 (by decide) zfd_X4_19 rfl dX4_sumUp_58 ?_
    obtain ⟨hn110, hf⟩ := hf
    have hn11 : al (gR w 31 6) ∧ zsh (gR w 31 6) = 0 := zwt_of hR (zlit hR zf_31) zs_31 rfl hn110 (zdc_of zs_31 rfl)
    rw [zrf_pos hn110]
    refine z_getI X hR hn11.1 hn11.2 (by decide) zfd_X4_79 rfl dX4_sumUp_61 ?_
    refine lv_icmp_ge (tgt := 108) hx hb dX4_sumUp_64 (by decide) (fun c12 => ?_) (fun c12 => ?_)
    · replace hf := hf.1 c12
      refine lv_iinc (v := x2 + (1 : Int32)) (lv' := [(2, .int (x2 + (1 : Int32))), (0, .ref (ad 31)), (1, .int x1), (3, .int x3)]) hx hb dX4_sumUp_108 hl (k := 2) rfl rfl (by decide) rfl (fun ls hl => ?_)
      refine lv_goto (tgt := 41) hx hb dX4_sumUp_111 (by decide) ?_
      exact hg41 x1 (x2 + (1 : Int32)) w _ _ _ hf hR (lv_sub hl [1, 2, 0] rfl)
    · replace hf := hf.2 c12
      refine lv_iload_n hx hb dX4_sumUp_67 rfl (lv_at hl 3 rfl) ?_
      refine lv_iconst (v := (4 : Int32)) hx hb dX4_sumUp_68 (by decide) ?_
      refine lv_icmp_ge (tgt := 108) hx hb dX4_sumUp_69 (by decide) (fun c13 => ?_) (fun c13 => ?_)
      · replace hf := hf.1 c13
        refine lv_iinc (v := x2 + (1 : Int32)) (lv' := [(2, .int (x2 + (1 : Int32))), (0, .ref (ad 31)), (1, .int x1), (3, .int x3)]) hx hb dX4_sumUp_108 hl (k := 2) rfl rfl (by decide) rfl (fun ls hl => ?_)
        refine lv_goto (tgt := 41) hx hb dX4_sumUp_111 (by decide) ?_
        exact hg41 x1 (x2 + (1 : Int32)) w _ _ _ hf hR (lv_sub hl [1, 2, 0] rfl)
      · replace hf := hf.2 c13
        refine lv_aload_n hx hb dX4_sumUp_72 rfl (lv_at hl 0 rfl) ?_
        refine z_getS X hR (zlit hR zf_31) zs_31 (by decide) zfd_X4_15 rfl (r := 32) (by decide +kernel) dX4_sumUp_73 ?_
        refine lv_iload_n hx hb dX4_sumUp_76 rfl (lv_at hl 1 rfl) ?_
        obtain ⟨hb14, hf⟩ := hf
        refine z_iald X hR (zlit hR zf_32) zs_32 zl_32 hb14 dX4_sumUp_77 ?_
        refine lv_aload_n hx hb dX4_sumUp_78 rfl (lv_at hl 0 rfl) ?_
        refine z_getR X hR (zlit hR zf_31) zs_31 (by decide) zfd_X4_19 rfl dX4_sumUp_79 ?_
        rw [zrf_pos hn110]
        refine lv_iload_n hx hb dX4_sumUp_82 rfl (lv_at hl 1 rfl) ?_
        refine lv_iload_n hx hb dX4_sumUp_83 rfl (lv_at hl 2 rfl) ?_
        refine z_callVI (fr1 := 0) (b := (gR w 31 6)) (As := [.int x1, .int x2]) (rest := [.int (gI w 32 x1.toNatClampNeg)]) X (hr.le (by decide)) hR zy_X0_wordAt zq_1435 hn11.1 (by rw [hn11.2]; rfl) rfl (mX0_wordAt ⟨hn11.1, hn11.2⟩ hf) rfl hl (Nat.le_of_ble_eq_true rfl) dX4_sumUp_84 rfl (fun r15 w15 H locs hf hR => ?_)
        refine lv_iload_n hx hb dX4_sumUp_87 rfl (lv_at hl 3 rfl) ?_
        refine z_callSI (fr1 := 0) (As := [.int r15, .int x3]) (rest := [.int (gI w 32 x1.toNatClampNeg)]) X (hr.le (by decide)) hR zy_X4_bit zq_1416 (mX4_bit  hf) rfl hl (Nat.le_of_ble_eq_true rfl) dX4_sumUp_88 rfl (fun r16 w16 H locs hf hR => ?_)
        refine lv_iand hx hb dX4_sumUp_91 ?_
        refine lv_if_eq (tgt := 102) hx hb dX4_sumUp_92 (by decide) (fun c17 => ?_) (fun c17 => ?_)
        · replace hf := hf.1 c17
          refine lv_iinc (v := x3 + (1 : Int32)) (lv' := [(3, .int (x3 + (1 : Int32))), (0, .ref (ad 31)), (1, .int x1), (2, .int x2)]) hx hb dX4_sumUp_102 hl (k := 3) rfl rfl (by decide) rfl (fun ls hl => ?_)
          refine lv_goto (tgt := 56) hx hb dX4_sumUp_105 (by decide) ?_
          exact ih x1 x2 (x3 + (1 : Int32)) w16 _ _ _ hf hR (lv_sub hl [1, 2, 3, 0] rfl)
        · replace hf := hf.2 c17
          refine lv_aload_n hx hb dX4_sumUp_95 rfl (lv_at hl 0 rfl) ?_
          refine lv_iload_n hx hb dX4_sumUp_96 rfl (lv_at hl 1 rfl) ?_
          refine lv_iload_n hx hb dX4_sumUp_97 rfl (lv_at hl 2 rfl) ?_
          refine lv_iload_n hx hb dX4_sumUp_98 rfl (lv_at hl 3 rfl) ?_
          refine z_callVV (fr1 := 0) (b := 31) (As := [.int x1, .int x2, .int x3]) (rest := []) X (hr.le (by decide)) hR zy_X4_addWay zq_1436 (zlit hR zf_31) (by rw [zs_31]; rfl) rfl (mX4_addWay  hf) rfl hl (Nat.le_of_ble_eq_true rfl) dX4_sumUp_99 rfl (fun w18 H locs hf hR => ?_)
          refine lv_iinc (v := x3 + (1 : Int32)) (lv' := [(3, .int (x3 + (1 : Int32))), (0, .ref (ad 31)), (1, .int x1), (2, .int x2)]) hx hb dX4_sumUp_102 hl (k := 3) rfl rfl (by decide) rfl (fun ls hl => ?_)
          refine lv_goto (tgt := 56) hx hb dX4_sumUp_105 (by decide) ?_
          exact ih x1 x2 (x3 + (1 : Int32)) w18 _ _ _ hf hR (lv_sub hl [1, 2, 3, 0] rfl)
def fX4_sumUp_L41 (k : zW → Prop) (g22 : Int32 → zW → Prop) : Nat → Int32 → Int32 → zW → Prop
  | 0 => fun _ _ _ => False
  | n + 1 => fun x1 x2 w =>
    ¬ gR w 31 6 = 0 ∧
    vp_in x1 8 ∧ 
    (((gI w ((gR w 31 6) + 10) x1.toNatClampNeg) ≤ x2 →
      g22 (x1 + (1 : Int32)) w) ∧
     (¬ (gI w ((gR w 31 6) + 10) x1.toNatClampNeg) ≤ x2 →
      ∃ n9, fX4_sumUp_L56 k g22 (fX4_sumUp_L41 k g22 n) n9 x1 x2 (0 : Int32) w))
set_option maxHeartbeats 4000000 in
set_option maxRecDepth 100000 in
theorem mX4_sumUp_L41 {k : zW → Prop} {g22 : Int32 → zW → Prop} (X : zCx p s m args meth c cX4_sumUp 4 RX4 none) (hr : zRm R 1 cells slots) (hQ : zRetV p l e R s m args below meth c cells slots Q D dA true ad0 al0 ad al cX4_sumUp k) (hg22 : ∀ (x1 : Int32) (w : zW) (H : Heap) (locs : List Loc) (ls : Array Slot), g22 x1 w → zSt D dA true ad0 al0 ad al w s H locs → lv_has ls 4 [(0, .ref (ad 31)), (1, .int x1)] → W p l e R s m args below meth c H locs cells slots Q (F0 m 22 ls [])) : ∀ (n : Nat) (x1 : Int32) (x2 : Int32) (w : zW) (H : Heap) (locs : List Loc) (ls : Array Slot), fX4_sumUp_L41 k g22 n x1 x2 w → zSt D dA true ad0 al0 ad al w s H locs → lv_has ls 4 [(0, .ref (ad 31)), (1, .int x1), (2, .int x2)] → W p l e R s m args below meth c H locs cells slots Q (F0 m 41 ls []) := by
  intro n
  induction n with
  | zero => exact fun _ _ _ _ _ _ hf => hf.elim
  | succ n ih =>
    intro x1 x2 w H locs ls hf hR hl
    have hx := X.1
    have hb := X.2.1
    have hml := X.2.2.1
    have hown := X.2.2.2.1
    have hts := X.2.2.2.2.1
    rw [fX4_sumUp_L41] at hf
    refine lv_iload_n hx hb dX4_sumUp_41 rfl (lv_at hl 2 rfl) ?_
    refine lv_aload_n hx hb dX4_sumUp_42 rfl (lv_at hl 0 rfl) ?_
    refine z_getR X hR (zlit hR zf_31) zs_31 (by decide) zfd_X4_19 rfl dX4_sumUp_43 ?_
    obtain ⟨hn80, hf⟩ := hf
    have hn8 : al (gR w 31 6) ∧ zsh (gR w 31 6) = 0 := zwt_of hR (zlit hR zf_31) zs_31 rfl hn80 (zdc_of zs_31 rfl)
    rw [zrf_pos hn80]
    refine z_getS X hR hn8.1 hn8.2 (by decide) zfd_X4_114 rfl (r := (gR w 31 6) + 10) (zst_0 hn8.2 8 rfl) dX4_sumUp_46 ?_
    refine lv_iload_n hx hb dX4_sumUp_49 rfl (lv_at hl 1 rfl) ?_
    obtain ⟨hb9, hf⟩ := hf
    refine z_iald X hR (zoff hR hn8.2 zo_0_10).1 (zoff hR hn8.2 zo_0_10).2.1 (zoff hR hn8.2 zo_0_10).2.2 hb9 dX4_sumUp_50 ?_
    refine lv_icmp_ge (tgt := 114) hx hb dX4_sumUp_51 (by decide) (fun c10 => ?_) (fun c10 => ?_)
    · replace hf := hf.1 c10
      refine lv_iinc (v := x1 + (1 : Int32)) (lv' := [(1, .int (x1 + (1 : Int32))), (0, .ref (ad 31)), (2, .int x2)]) hx hb dX4_sumUp_114 hl (k := 1) rfl rfl (by decide) rfl (fun ls hl => ?_)
      refine lv_goto (tgt := 22) hx hb dX4_sumUp_117 (by decide) ?_
      exact hg22 (x1 + (1 : Int32)) w _ _ _ hf hR (lv_sub hl [1, 0] rfl)
    · replace hf := hf.2 c10
      refine lv_iconst (v := (0 : Int32)) hx hb dX4_sumUp_54 (by decide) ?_
      refine lv_istore_n (lv' := [(3, .int (0 : Int32)), (0, .ref (ad 31)), (1, .int x1), (2, .int x2)]) hx hb dX4_sumUp_55 rfl hl (by decide) rfl (fun ls hl => ?_)
      obtain ⟨n9, hf⟩ := hf
      exact mX4_sumUp_L56 X hr hQ hg22 ih n9 x1 x2 (0 : Int32) w _ _ _ hf hR (lv_sub hl [1, 2, 3, 0] rfl)
def fX4_sumUp_L22 (k : zW → Prop) : Nat → Int32 → zW → Prop
  | 0 => fun _ _ => False
  | n + 1 => fun x1 w =>
    ¬ gR w 31 6 = 0 ∧
    (((gI w (gR w 31 6) 7) ≤ x1 →
      k w) ∧
     (¬ (gI w (gR w 31 6) 7) ≤ x1 →
      (((8 : Int32) ≤ x1 →
        k w) ∧
       (¬ (8 : Int32) ≤ x1 →
        ∃ n9, fX4_sumUp_L41 k (fX4_sumUp_L22 k n) n9 x1 (0 : Int32) w))))
set_option maxHeartbeats 4000000 in
set_option maxRecDepth 100000 in
theorem mX4_sumUp_L22 {k : zW → Prop} (X : zCx p s m args meth c cX4_sumUp 4 RX4 none) (hr : zRm R 1 cells slots) (hQ : zRetV p l e R s m args below meth c cells slots Q D dA true ad0 al0 ad al cX4_sumUp k)  : ∀ (n : Nat) (x1 : Int32) (w : zW) (H : Heap) (locs : List Loc) (ls : Array Slot), fX4_sumUp_L22 k n x1 w → zSt D dA true ad0 al0 ad al w s H locs → lv_has ls 4 [(0, .ref (ad 31)), (1, .int x1)] → W p l e R s m args below meth c H locs cells slots Q (F0 m 22 ls []) := by
  intro n
  induction n with
  | zero => exact fun _ _ _ _ _ hf => hf.elim
  | succ n ih =>
    intro x1 w H locs ls hf hR hl
    have hx := X.1
    have hb := X.2.1
    have hml := X.2.2.1
    have hown := X.2.2.2.1
    have hts := X.2.2.2.2.1
    rw [fX4_sumUp_L22] at hf
    refine lv_iload_n hx hb dX4_sumUp_22 rfl (lv_at hl 1 rfl) ?_
    refine lv_aload_n hx hb dX4_sumUp_23 rfl (lv_at hl 0 rfl) ?_
    refine z_getR X hR (zlit hR zf_31) zs_31 (by decide) zfd_X4_19 rfl dX4_sumUp_24 ?_
    obtain ⟨hn50, hf⟩ := hf
    have hn5 : al (gR w 31 6) ∧ zsh (gR w 31 6) = 0 := zwt_of hR (zlit hR zf_31) zs_31 rfl hn50 (zdc_of zs_31 rfl)
    rw [zrf_pos hn50]
    refine z_getI X hR hn5.1 hn5.2 (by decide) zfd_X4_65 rfl dX4_sumUp_27 ?_
    refine lv_icmp_ge (tgt := 120) hx hb dX4_sumUp_30 (by decide) (fun c6 => ?_) (fun c6 => ?_)
    · replace hf := hf.1 c6
      exact hQ _ _ _ _ _ hf hR dX4_sumUp_120
    · replace hf := hf.2 c6
      refine lv_iload_n hx hb dX4_sumUp_33 rfl (lv_at hl 1 rfl) ?_
      refine lv_bipush (v := (8 : Int32)) hx hb dX4_sumUp_34 (by decide) ?_
      refine lv_icmp_ge (tgt := 120) hx hb dX4_sumUp_36 (by decide) (fun c7 => ?_) (fun c7 => ?_)
      · replace hf := hf.1 c7
        exact hQ _ _ _ _ _ hf hR dX4_sumUp_120
      · replace hf := hf.2 c7
        refine lv_iconst (v := (0 : Int32)) hx hb dX4_sumUp_39 (by decide) ?_
        refine lv_istore_n (lv' := [(2, .int (0 : Int32)), (0, .ref (ad 31)), (1, .int x1)]) hx hb dX4_sumUp_40 rfl hl (by decide) rfl (fun ls hl => ?_)
        obtain ⟨n9, hf⟩ := hf
        exact mX4_sumUp_L41 X hr hQ ih n9 x1 (0 : Int32) w _ _ _ hf hR (lv_sub hl [1, 2, 0] rfl)
def fX4_sumUp (w : zW) (k : zW → Prop) : Prop :=
  ∀ w1 : zW, w1 = sI w 31 1 (0 : Int32) →
  ∀ w2 : zW, w2 = sI w1 31 2 (-1 : Int32) →
  ∀ w3 : zW, w3 = sI w2 31 3 (-1 : Int32) →
  ∀ w4 : zW, w4 = sI w3 31 4 (-1 : Int32) →
  ∃ n9, fX4_sumUp_L22 k n9 (0 : Int32) w4
set_option maxHeartbeats 4000000 in
set_option maxRecDepth 100000 in
theorem mX4_sumUp {l : Launch} {D : va_G} {dA : Nat → ClassId} {ad : Nat → Nat} {al : Nat → Prop} {w : zW} {k : zW → Prop}   (hf : fX4_sumUp w k) : zmetV l yX4_sumUp cX4_sumUp 4 none 1 [.ref (ad 31)] D dA true ad al w k := by
  refine zmetV_of (by decide) (Nat.le_of_ble_eq_true rfl) ?_
  intro p e R s m below meth c Q H ls args locs cells slots X hr hQ hR hl
  have hx := X.1
  have hb := X.2.1
  have hml := X.2.2.1
  have hown := X.2.2.2.1
  have hts := X.2.2.2.2.1
  unfold fX4_sumUp at hf
  have hl : lv_has ls 4 [(0, .ref (ad 31))] := hl
  refine lv_aload_n hx hb dX4_sumUp_0 rfl (lv_at hl 0 rfl) ?_
  refine lv_iconst (v := (0 : Int32)) hx hb dX4_sumUp_1 (by decide) ?_
  refine z_putI X hR (zlit hR zf_31) zs_31 (by decide) zfp_X4_102 rfl dX4_sumUp_2 (fun H locs hR => ?_)
  obtain ⟨w1, hw1⟩ : ∃ z : zW, z = sI w 31 1 (0 : Int32) := ⟨_, rfl⟩
  rw [← hw1] at hR
  replace hf := hf w1 hw1
  refine lv_aload_n hx hb dX4_sumUp_5 rfl (lv_at hl 0 rfl) ?_
  refine lv_iconst (v := (-1 : Int32)) hx hb dX4_sumUp_6 (by decide) ?_
  refine z_putI X hR (zlit hR zf_31) zs_31 (by decide) zfp_X4_105 rfl dX4_sumUp_7 (fun H locs hR => ?_)
  obtain ⟨w2, hw2⟩ : ∃ z : zW, z = sI w1 31 2 (-1 : Int32) := ⟨_, rfl⟩
  rw [← hw2] at hR
  replace hf := hf w2 hw2
  refine lv_aload_n hx hb dX4_sumUp_10 rfl (lv_at hl 0 rfl) ?_
  refine lv_iconst (v := (-1 : Int32)) hx hb dX4_sumUp_11 (by decide) ?_
  refine z_putI X hR (zlit hR zf_31) zs_31 (by decide) zfp_X4_108 rfl dX4_sumUp_12 (fun H locs hR => ?_)
  obtain ⟨w3, hw3⟩ : ∃ z : zW, z = sI w2 31 3 (-1 : Int32) := ⟨_, rfl⟩
  rw [← hw3] at hR
  replace hf := hf w3 hw3
  refine lv_aload_n hx hb dX4_sumUp_15 rfl (lv_at hl 0 rfl) ?_
  refine lv_iconst (v := (-1 : Int32)) hx hb dX4_sumUp_16 (by decide) ?_
  refine z_putI X hR (zlit hR zf_31) zs_31 (by decide) zfp_X4_111 rfl dX4_sumUp_17 (fun H locs hR => ?_)
  obtain ⟨w4, hw4⟩ : ∃ z : zW, z = sI w3 31 4 (-1 : Int32) := ⟨_, rfl⟩
  rw [← hw4] at hR
  replace hf := hf w4 hw4
  refine lv_iconst (v := (0 : Int32)) hx hb dX4_sumUp_20 (by decide) ?_
  refine lv_istore_n (lv' := [(1, .int (0 : Int32)), (0, .ref (ad 31))]) hx hb dX4_sumUp_21 rfl hl (by decide) rfl (fun ls hl => ?_)
  obtain ⟨n9, hf⟩ := hf
  exact mX4_sumUp_L22 X hr hQ  n9 (0 : Int32) w4 _ _ _ hf hR (lv_sub hl [1, 0] rfl)
/-! X4_find -/
def fX4_find_J84 (a1 : Nat) (a3 : Nat) (k : zW → Prop)  (w : zW) : Prop :=
  fX4_sumUp  w (fun w5 =>
  ∀ w6 : zW, w6 = sI w5 31 0 (0 : Int32) →
  k w6)
set_option maxHeartbeats 4000000 in
set_option maxRecDepth 100000 in
theorem mX4_find_J84 {k : zW → Prop} {a1 : Nat} {a3 : Nat} (X : zCx p s m args meth c cX4_find 6 RX4 none) (hr : zRm R 4 cells slots) (hQ : zRetV p l e R s m args below meth c cells slots Q D dA true ad0 al0 ad al cX4_find k) (ha1 : al a1 ∧ zsh a1 = 0) (ha3 : al a3 ∧ zsh a3 = 3)   {w : zW} {H : Heap} {locs : List Loc} {ls : Array Slot} (hf : fX4_find_J84 a1 a3 k  w) (hR : zSt D dA true ad0 al0 ad al w s H locs) (hl : lv_has ls 6 [(0, .ref (ad 31))]) : W p l e R s m args below meth c H locs cells slots Q (F0 m 84 ls []) := by
  have hx := X.1
  have hb := X.2.1
  have hml := X.2.2.1
  have hown := X.2.2.2.1
  have hts := X.2.2.2.2.1
  unfold fX4_find_J84 at hf
  refine lv_aload_n hx hb dX4_find_84 rfl (lv_at hl 0 rfl) ?_
  refine z_callVV (fr1 := 1) (b := 31) (As := []) (rest := []) X (hr.le (by decide)) hR zy_X4_sumUp zq_1426 (zlit hR zf_31) (by rw [zs_31]; rfl) rfl (mX4_sumUp  hf) rfl hl (Nat.le_of_ble_eq_true rfl) dX4_find_85 rfl (fun w5 H locs hf hR => ?_)
  refine lv_aload_n hx hb dX4_find_88 rfl (lv_at hl 0 rfl) ?_
  refine lv_iconst (v := (0 : Int32)) hx hb dX4_find_89 (by decide) ?_
  refine z_putZ X hR (zlit hR zf_31) zs_31 (by decide) zfp_X4_9 rfl zb01_0 dX4_find_90 (fun H locs hR => ?_)
  obtain ⟨w6, hw6⟩ : ∃ z : zW, z = sI w5 31 0 (0 : Int32) := ⟨_, rfl⟩
  rw [← hw6] at hR
  replace hf := hf w6 hw6
  exact hQ _ _ _ _ _ hf hR dX4_find_93
def fX4_find_L21 (a1 : Nat) (a3 : Nat) (k : zW → Prop) : Nat → Int32 → zW → Prop
  | 0 => fun _ _ => False
  | n + 1 => fun x4 w =>
    (((gI w 24 2) ≤ x4 →
      fX4_find_J84 a1 a3 k  w) ∧
     (¬ (gI w 24 2) ≤ x4 →
      ¬ gR w 24 4 = 0 ∧
      (((Int32.ofNat (zln (gR w 24 4))) ≤ x4 →
        fX4_find_J84 a1 a3 k  w) ∧
       (¬ (Int32.ofNat (zln (gR w 24 4))) ≤ x4 →
        vp_in x4 (zln (gR w 24 4)) ∧ 
        ∀ v10 : Int32, v10 = gI w (gR w 24 4) x4.toNatClampNeg →
        fX8_downIn v10 w (fun r11 w11 =>
        ((r11 = (255 : Int32) →
          fX4_find_L21 a1 a3 k n (x4 + (1 : Int32)) w11) ∧
         (¬ r11 = (255 : Int32) →
          ¬ gR w11 31 7 = 0 ∧
          fX3_guesses (gR w11 31 7) v10 w11 (fun r14 w14 =>
          ((r14 = 0 →
            fX4_find_L21 a1 a3 k n (x4 + (1 : Int32)) w14) ∧
           (¬ r14 = 0 →
            fX4_mendBy v10 w14 (fun w16 =>
            fX4_find_L21 a1 a3 k n (x4 + (1 : Int32)) w16)))))))))))
set_option maxHeartbeats 4000000 in
set_option maxRecDepth 100000 in
theorem mX4_find_L21 {k : zW → Prop} {a1 : Nat} {a3 : Nat} (X : zCx p s m args meth c cX4_find 6 RX4 none) (hr : zRm R 4 cells slots) (hQ : zRetV p l e R s m args below meth c cells slots Q D dA true ad0 al0 ad al cX4_find k) (ha1 : al a1 ∧ zsh a1 = 0) (ha3 : al a3 ∧ zsh a3 = 3)  : ∀ (n : Nat) (x4 : Int32) (w : zW) (H : Heap) (locs : List Loc) (ls : Array Slot), fX4_find_L21 a1 a3 k n x4 w → zSt D dA true ad0 al0 ad al w s H locs → lv_has ls 6 [(0, .ref (ad 31)), (2, .ref (ad 24)), (4, .int x4)] → W p l e R s m args below meth c H locs cells slots Q (F0 m 21 ls []) := by
  intro n
  induction n with
  | zero => exact fun _ _ _ _ _ hf => hf.elim
  | succ n ih =>
    intro x4 w H locs ls hf hR hl
    have hx := X.1
    have hb := X.2.1
    have hml := X.2.2.1
    have hown := X.2.2.2.1
    have hts := X.2.2.2.2.1
    rw [fX4_find_L21] at hf
    refine lv_iload hx hb dX4_find_21 (lv_at hl 2 rfl) ?_
    refine lv_aload_n hx hb dX4_find_23 rfl (lv_at hl 1 rfl) ?_
    refine z_getI X hR (zlit hR zf_24) zs_24 (by decide) zfd_X4_33 rfl dX4_find_24 ?_
    refine lv_icmp_ge (tgt := 84) hx hb dX4_find_27 (by decide) (fun c4 => ?_) (fun c4 => ?_)
    · replace hf := hf.1 c4
      exact mX4_find_J84 X hr hQ ha1 ha3  hf hR (lv_sub hl [0] rfl)
    · replace hf := hf.2 c4
      refine lv_iload hx hb dX4_find_30 (lv_at hl 2 rfl) ?_
      refine lv_aload_n hx hb dX4_find_32 rfl (lv_at hl 1 rfl) ?_
      refine z_getR X hR (zlit hR zf_24) zs_24 (by decide) zfd_X4_39 rfl dX4_find_33 ?_
      obtain ⟨hn70, hf⟩ := hf
      have hn7 : al (gR w 24 4) ∧ zsh (gR w 24 4) = 20 := zwt_of hR (zlit hR zf_24) zs_24 rfl hn70 (zdc_of zs_24 rfl)
      rw [zrf_pos hn70]
      refine z_alen X hR hn7.1 hn7.2 (by decide) (by decide) rfl (v := Int32.ofNat (zln (gR w 24 4))) rfl dX4_find_36 ?_
      refine lv_icmp_ge (tgt := 84) hx hb dX4_find_37 (by decide) (fun c8 => ?_) (fun c8 => ?_)
      · replace hf := hf.1 c8
        exact mX4_find_J84 X hr hQ ha1 ha3  hf hR (lv_sub hl [0] rfl)
      · replace hf := hf.2 c8
        refine lv_aload_n hx hb dX4_find_40 rfl (lv_at hl 1 rfl) ?_
        refine z_getR X hR (zlit hR zf_24) zs_24 (by decide) zfd_X4_39 rfl dX4_find_41 ?_
        rw [zrf_pos hn70]
        refine lv_iload hx hb dX4_find_44 (lv_at hl 2 rfl) ?_
        obtain ⟨hb9, hf⟩ := hf
        refine z_iald X hR hn7.1 hn7.2 rfl hb9 dX4_find_46 ?_
        refine lv_topi (fun v10 hv10 => ?_)
        replace hf := hf v10 hv10
        refine lv_istore (lv' := [(5, .int v10), (0, .ref (ad 31)), (2, .ref (ad 24)), (4, .int x4)]) hx hb dX4_find_47 hl (by decide) rfl (fun ls hl => ?_)
        refine lv_iload hx hb dX4_find_49 (lv_at hl 0 rfl) ?_
        refine z_callSI (fr1 := 0) (As := [.int v10]) (rest := []) X (hr.le (by decide)) hR zy_X8_downIn zq_1398 (mX8_downIn  hf) rfl hl (Nat.le_of_ble_eq_true rfl) dX4_find_51 rfl (fun r11 w11 H locs hf hR => ?_)
        refine lv_sipush (v := (255 : Int32)) hx hb dX4_find_54 (by decide) ?_
        refine lv_icmp_eq (tgt := 78) hx hb dX4_find_57 (by decide) (fun c12 => ?_) (fun c12 => ?_)
        · replace hf := hf.1 c12
          refine lv_iinc (v := x4 + (1 : Int32)) (lv' := [(4, .int (x4 + (1 : Int32))), (5, .int v10), (0, .ref (ad 31)), (2, .ref (ad 24))]) hx hb dX4_find_78 hl (k := 3) rfl rfl (by decide) rfl (fun ls hl => ?_)
          refine lv_goto (tgt := 21) hx hb dX4_find_81 (by decide) ?_
          exact ih (x4 + (1 : Int32)) w11 _ _ _ hf hR (lv_sub hl [2, 3, 0] rfl)
        · replace hf := hf.2 c12
          refine lv_aload_n hx hb dX4_find_60 rfl (lv_at hl 1 rfl) ?_
          refine z_getR X hR (zlit hR zf_31) zs_31 (by decide) zfd_X4_23 rfl dX4_find_61 ?_
          obtain ⟨hn130, hf⟩ := hf
          have hn13 : al (gR w11 31 7) ∧ zsh (gR w11 31 7) = 3 := zwt_of hR (zlit hR zf_31) zs_31 rfl hn130 (zdc_of zs_31 rfl)
          rw [zrf_pos hn130]
          refine lv_iload hx hb dX4_find_64 (lv_at hl 0 rfl) ?_
          refine z_callVI (fr1 := 1) (b := (gR w11 31 7)) (As := [.int v10]) (rest := []) X (hr.le (by decide)) hR zy_X3_guesses zq_1401 hn13.1 (by rw [hn13.2]; rfl) rfl (mX3_guesses ⟨hn13.1, hn13.2⟩ hf) rfl hl (Nat.le_of_ble_eq_true rfl) dX4_find_66 rfl (fun r14 w14 H locs hf hR => ?_)
          refine lv_if_eq (tgt := 78) hx hb dX4_find_69 (by decide) (fun c15 => ?_) (fun c15 => ?_)
          · replace hf := hf.1 c15
            refine lv_iinc (v := x4 + (1 : Int32)) (lv' := [(4, .int (x4 + (1 : Int32))), (5, .int v10), (0, .ref (ad 31)), (2, .ref (ad 24))]) hx hb dX4_find_78 hl (k := 3) rfl rfl (by decide) rfl (fun ls hl => ?_)
            refine lv_goto (tgt := 21) hx hb dX4_find_81 (by decide) ?_
            exact ih (x4 + (1 : Int32)) w14 _ _ _ hf hR (lv_sub hl [2, 3, 0] rfl)
          · replace hf := hf.2 c15
            refine lv_aload_n hx hb dX4_find_72 rfl (lv_at hl 1 rfl) ?_
            refine lv_iload hx hb dX4_find_73 (lv_at hl 0 rfl) ?_
            refine z_callVV (fr1 := 3) (b := 31) (As := [.int v10]) (rest := []) X (hr.le (by decide)) hR zy_X4_mendBy zq_1402 (zlit hR zf_31) (by rw [zs_31]; rfl) rfl (mX4_mendBy  hf) rfl hl (Nat.le_of_ble_eq_true rfl) dX4_find_75 rfl (fun w16 H locs hf hR => ?_)
            refine lv_iinc (v := x4 + (1 : Int32)) (lv' := [(4, .int (x4 + (1 : Int32))), (5, .int v10), (0, .ref (ad 31)), (2, .ref (ad 24))]) hx hb dX4_find_78 hl (k := 3) rfl rfl (by decide) rfl (fun ls hl => ?_)
            refine lv_goto (tgt := 21) hx hb dX4_find_81 (by decide) ?_
            exact ih (x4 + (1 : Int32)) w16 _ _ _ hf hR (lv_sub hl [2, 3, 0] rfl)
def fX4_find (a1 : Nat) (a3 : Nat) (w : zW) (k : zW → Prop) : Prop :=
  ∀ w1 : zW, w1 = sR w 31 6 a1 →
  ∀ w2 : zW, w2 = sR w1 31 7 a3 →
  fJ7_fill_53178 32 (0 : Int32) w2 (fun w3 =>
  ∃ n9, fX4_find_L21 a1 a3 k n9 (0 : Int32) w3)
set_option maxHeartbeats 4000000 in
set_option maxRecDepth 100000 in
theorem mX4_find {l : Launch} {D : va_G} {dA : Nat → ClassId} {ad : Nat → Nat} {al : Nat → Prop} {w : zW} {k : zW → Prop} {a1 : Nat} {a3 : Nat} (ha1 : al a1 ∧ zsh a1 = 0) (ha3 : al a3 ∧ zsh a3 = 3)  (hf : fX4_find a1 a3 w k) : zmetV l yX4_find cX4_find 6 none 4 [.ref (ad 31), .ref (ad a1), .ref (ad 24), .ref (ad a3)] D dA true ad al w k := by
  refine zmetV_of (by decide) (Nat.le_of_ble_eq_true rfl) ?_
  intro p e R s m below meth c Q H ls args locs cells slots X hr hQ hR hl
  have hx := X.1
  have hb := X.2.1
  have hml := X.2.2.1
  have hown := X.2.2.2.1
  have hts := X.2.2.2.2.1
  unfold fX4_find at hf
  have hl : lv_has ls 6 [(0, .ref (ad 31)), (1, .ref (ad a1)), (2, .ref (ad 24)), (3, .ref (ad a3))] := hl
  refine lv_aload_n hx hb dX4_find_0 rfl (lv_at hl 0 rfl) ?_
  refine lv_aload_n hx hb dX4_find_1 rfl (lv_at hl 1 rfl) ?_
  refine z_putR X hR (zlit hR zf_31) zs_31 (by decide) zfp_X4_19 rfl rfl (zne0 ha1.2 (by decide)) ha1.1 (by rw [zdc_of zs_31 rfl]; exact ha1.2) dX4_find_2 (fun H locs hR => ?_)
  obtain ⟨w1, hw1⟩ : ∃ z : zW, z = sR w 31 6 a1 := ⟨_, rfl⟩
  rw [← hw1] at hR
  replace hf := hf w1 hw1
  refine lv_aload_n hx hb dX4_find_5 rfl (lv_at hl 0 rfl) ?_
  refine lv_aload_n hx hb dX4_find_6 rfl (lv_at hl 3 rfl) ?_
  refine z_putR X hR (zlit hR zf_31) zs_31 (by decide) zfp_X4_23 rfl rfl (zne0 ha3.2 (by decide)) ha3.1 (by rw [zdc_of zs_31 rfl]; exact ha3.2) dX4_find_7 (fun H locs hR => ?_)
  obtain ⟨w2, hw2⟩ : ∃ z : zW, z = sR w1 31 7 a3 := ⟨_, rfl⟩
  rw [← hw2] at hR
  replace hf := hf w2 hw2
  refine lv_aload_n hx hb dX4_find_10 rfl (lv_at hl 0 rfl) ?_
  refine z_getS X hR (zlit hR zf_31) zs_31 (by decide) zfd_X4_15 rfl (r := 32) (by decide +kernel) dX4_find_11 ?_
  refine lv_iconst (v := (0 : Int32)) hx hb dX4_find_14 (by decide) ?_
  refine z_callSV (fr1 := 0) (As := [.ref (ad 32), .int (0 : Int32)]) (rest := []) X (hr.le (by decide)) hR zy_J7_fill_53178 zq_1397 (mJ7_fill_53178 ⟨(zlit hR zf_32), zs_32⟩ hf) rfl hl (Nat.le_of_ble_eq_true rfl) dX4_find_15 rfl (fun w3 H locs hf hR => ?_)
  refine lv_iconst (v := (0 : Int32)) hx hb dX4_find_18 (by decide) ?_
  refine lv_istore (lv' := [(4, .int (0 : Int32)), (0, .ref (ad 31)), (1, .ref (ad a1)), (2, .ref (ad 24)), (3, .ref (ad a3))]) hx hb dX4_find_19 hl (by decide) rfl (fun ls hl => ?_)
  obtain ⟨n9, hf⟩ := hf
  exact mX4_find_L21 X hr hQ ha1 ha3  n9 (0 : Int32) w3 _ _ _ hf hR (lv_sub hl [1, 3, 0] rfl)
/-! X5_clear -/
def fX5_clear (a0 : Nat) (w : zW) (k : zW → Prop) : Prop :=
  ∀ w1 : zW, w1 = sI w a0 0 (0 : Int32) →
  ∀ w2 : zW, w2 = sI w1 a0 1 (1 : Int32) →
  k w2
set_option maxHeartbeats 4000000 in
set_option maxRecDepth 100000 in
theorem mX5_clear {l : Launch} {D : va_G} {dA : Nat → ClassId} {ad : Nat → Nat} {al : Nat → Prop} {w : zW} {k : zW → Prop} {a0 : Nat} (ha0 : al a0 ∧ zsh a0 = 5)  (hf : fX5_clear a0 w k) : zmetV l yX5_clear cX5_clear 1 none 0 [.ref (ad a0)] D dA true ad al w k := by
  refine zmetV_of (by decide) (Nat.le_of_ble_eq_true rfl) ?_
  intro p e R s m below meth c Q H ls args locs cells slots X hr hQ hR hl
  have hx := X.1
  have hb := X.2.1
  have hml := X.2.2.1
  have hown := X.2.2.2.1
  have hts := X.2.2.2.2.1
  unfold fX5_clear at hf
  have hl : lv_has ls 1 [(0, .ref (ad a0))] := hl
  refine lv_aload_n hx hb dX5_clear_0 rfl (lv_at hl 0 rfl) ?_
  refine lv_iconst (v := (0 : Int32)) hx hb dX5_clear_1 (by decide) ?_
  refine z_putI X hR ha0.1 ha0.2 (by decide) zfp_X5_32 rfl dX5_clear_2 (fun H locs hR => ?_)
  obtain ⟨w1, hw1⟩ : ∃ z : zW, z = sI w a0 0 (0 : Int32) := ⟨_, rfl⟩
  rw [← hw1] at hR
  replace hf := hf w1 hw1
  refine lv_aload_n hx hb dX5_clear_5 rfl (lv_at hl 0 rfl) ?_
  refine lv_iconst (v := (1 : Int32)) hx hb dX5_clear_6 (by decide) ?_
  refine z_putZ X hR ha0.1 ha0.2 (by decide) zfp_X5_9 rfl zb01_1 dX5_clear_7 (fun H locs hR => ?_)
  obtain ⟨w2, hw2⟩ : ∃ z : zW, z = sI w1 a0 1 (1 : Int32) := ⟨_, rfl⟩
  rw [← hw2] at hR
  replace hf := hf w2 hw2
  exact hQ _ _ _ _ _ hf hR dX5_clear_10
/-! X5_readValue -/
def fX5_readValue_J65 (a0 : Nat) (k : Int32 → zW → Prop) (x2 : Int32) (t0 : Int32) (w : zW) : Prop :=
  ∀ v8 : Int32, v8 = (if ¬ t0 = (-1 : Int32) then (((3 : Int32) * x2) + t0) else (-2 : Int32)) →
  k v8 w
set_option maxHeartbeats 4000000 in
set_option maxRecDepth 100000 in
theorem mX5_readValue_J65 {k : Int32 → zW → Prop} {a0 : Nat} (X : zCx p s m args meth c cX5_readValue 4 RX5 (some .int)) (hr : zRm R 7 cells slots) (hQ : zRetI p l e R s m args below meth c cells slots Q D dA true ad0 al0 ad al cX5_readValue k) (ha0 : al a0 ∧ zsh a0 = 5)  {x2 : Int32} {t0 : Int32} {w : zW} {H : Heap} {locs : List Loc} {ls : Array Slot} (hf : fX5_readValue_J65 a0 k x2 t0 w) (hR : zSt D dA true ad0 al0 ad al w s H locs) (hl : lv_has ls 4 [(2, .int x2)]) : W p l e R s m args below meth c H locs cells slots Q (F0 m 65 ls [.int t0]) := by
  have hx := X.1
  have hb := X.2.1
  have hml := X.2.2.1
  have hown := X.2.2.2.1
  have hts := X.2.2.2.2.1
  unfold fX5_readValue_J65 at hf
  refine lv_istore_n (lv' := [(3, .int t0), (2, .int x2)]) hx hb dX5_readValue_65 rfl hl (by decide) rfl (fun ls hl => ?_)
  refine lv_iload_n hx hb dX5_readValue_66 rfl (lv_at hl 0 rfl) ?_
  refine lv_iconst (v := (-1 : Int32)) hx hb dX5_readValue_67 (by decide) ?_
  have kJ8 : ∀ v8 : Int32, v8 = (if ¬ t0 = (-1 : Int32) then (((3 : Int32) * x2) + t0) else (-2 : Int32)) → W p l e R s m args below meth c H locs cells slots Q (F0 m 81 ls (.int v8 :: [])) := by
    intro v8 hv8
    replace hf := hf v8 hv8
    exact hQ _ _ _ _ _ _ hf hR dX5_readValue_81
  refine lv_icmp_ne (tgt := 76) hx hb dX5_readValue_68 (by decide) (fun c8 => ?_) (fun c8 => ?_)
  · refine lv_iconst (v := (3 : Int32)) hx hb dX5_readValue_76 (by decide) ?_
    refine lv_iload_n hx hb dX5_readValue_77 rfl (lv_at hl 1 rfl) ?_
    refine lv_imul hx hb dX5_readValue_78 ?_
    refine lv_iload_n hx hb dX5_readValue_79 rfl (lv_at hl 0 rfl) ?_
    refine lv_iadd hx hb dX5_readValue_80 ?_
    exact kJ8 _ (if_pos c8).symm
  · refine lv_bipush (v := (-2 : Int32)) hx hb dX5_readValue_71 (by decide) ?_
    refine lv_goto (tgt := 81) hx hb dX5_readValue_73 (by decide) ?_
    exact kJ8 _ (if_neg (fun h9 => h9 c8)).symm
def fX5_readValue (a0 : Nat) (x1 : Int32) (w : zW) (k : Int32 → zW → Prop) : Prop :=
  ((¬ x1 = (8 : Int32) →
    ((x1 = (6 : Int32) →
      ¬ gR w a0 10 = 0 ∧
      fX10_takeNumber (0 : Int32) (2 : Int32) w (fun r4 w4 =>
      ((¬ r4 = (-1 : Int32) →
        ¬ gR w4 a0 10 = 0 ∧
        fX10_takeNumber (0 : Int32) (2 : Int32) w4 (fun r7 w7 =>
        fX5_readValue_J65 a0 k r4 r7 w7)) ∧
       (r4 = (-1 : Int32) →
        fX5_readValue_J65 a0 k r4 (-1 : Int32) w4)))) ∧
     (¬ x1 = (6 : Int32) →
      k (-1 : Int32) w))) ∧
   (x1 = (8 : Int32) →
    ¬ gR w a0 10 = 0 ∧
    fX10_takeNumber (0 : Int32) (99 : Int32) w (fun r10 w10 =>
    ∀ v11 : Int32, v11 = (if ¬ r10 = (-1 : Int32) then r10 else (-2 : Int32)) →
    k v11 w10)))
set_option maxHeartbeats 4000000 in
set_option maxRecDepth 100000 in
theorem mX5_readValue {l : Launch} {D : va_G} {dA : Nat → ClassId} {ad : Nat → Nat} {al : Nat → Prop} {w : zW} {k : Int32 → zW → Prop} {a0 : Nat} {x1 : Int32} (ha0 : al a0 ∧ zsh a0 = 5)  (hf : fX5_readValue a0 x1 w k) : zmetI l yX5_readValue cX5_readValue 4 (some .int) 7 [.ref (ad a0), .int x1] D dA true ad al w k := by
  refine zmetI_of (by decide) (Nat.le_of_ble_eq_true rfl) ?_
  intro p e R s m below meth c Q H ls args locs cells slots X hr hQ hR hl
  have hx := X.1
  have hb := X.2.1
  have hml := X.2.2.1
  have hown := X.2.2.2.1
  have hts := X.2.2.2.2.1
  unfold fX5_readValue at hf
  have hl : lv_has ls 4 [(0, .ref (ad a0)), (1, .int x1)] := hl
  refine lv_iload_n hx hb dX5_readValue_0 rfl (lv_at hl 1 rfl) ?_
  refine lv_bipush (v := (8 : Int32)) hx hb dX5_readValue_1 (by decide) ?_
  refine lv_icmp_ne (tgt := 29) hx hb dX5_readValue_3 (by decide) (fun c1 => ?_) (fun c1 => ?_)
  · replace hf := hf.1 c1
    refine lv_iload_n hx hb dX5_readValue_29 rfl (lv_at hl 1 rfl) ?_
    refine lv_bipush (v := (6 : Int32)) hx hb dX5_readValue_30 (by decide) ?_
    refine lv_icmp_eq (tgt := 37) hx hb dX5_readValue_32 (by decide) (fun c2 => ?_) (fun c2 => ?_)
    · replace hf := hf.1 c2
      refine lv_aload_n hx hb dX5_readValue_37 rfl (lv_at hl 0 rfl) ?_
      refine z_getR X hR ha0.1 ha0.2 (by decide) zfd_X5_36 rfl dX5_readValue_38 ?_
      obtain ⟨hn30, hf⟩ := hf
      have hn3 : al (gR w a0 10) ∧ zsh (gR w a0 10) = 10 := zwt_of hR ha0.1 ha0.2 rfl hn30 (zdc_of ha0.2 rfl)
      rw [zrf_pos hn30]
      have hn31 : gR w a0 10 = 2 := zone_10 hn3.2
      rw [hn31]
      refine lv_iconst (v := (0 : Int32)) hx hb dX5_readValue_41 (by decide) ?_
      refine lv_iconst (v := (2 : Int32)) hx hb dX5_readValue_42 (by decide) ?_
      refine z_callVI (fr1 := 6) (b := 2) (As := [.int (0 : Int32), .int (2 : Int32)]) (rest := []) X (hr.le (by decide)) hR zy_X10_takeNumber zq_735 (zlit hR zf_2) (by rw [zs_2]; rfl) rfl (mX10_takeNumber  hf) rfl hl (Nat.le_of_ble_eq_true rfl) dX5_readValue_43 rfl (fun r4 w4 H locs hf hR => ?_)
      refine lv_istore_n (lv' := [(2, .int r4), (0, .ref (ad a0)), (1, .int x1)]) hx hb dX5_readValue_46 rfl hl (by decide) rfl (fun ls hl => ?_)
      refine lv_iload_n hx hb dX5_readValue_47 rfl (lv_at hl 0 rfl) ?_
      refine lv_iconst (v := (-1 : Int32)) hx hb dX5_readValue_48 (by decide) ?_
      refine lv_icmp_ne (tgt := 56) hx hb dX5_readValue_49 (by decide) (fun c5 => ?_) (fun c5 => ?_)
      · replace hf := hf.1 c5
        refine lv_aload_n hx hb dX5_readValue_56 rfl (lv_at hl 1 rfl) ?_
        refine z_getR X hR ha0.1 ha0.2 (by decide) zfd_X5_36 rfl dX5_readValue_57 ?_
        obtain ⟨hn60, hf⟩ := hf
        have hn6 : al (gR w4 a0 10) ∧ zsh (gR w4 a0 10) = 10 := zwt_of hR ha0.1 ha0.2 rfl hn60 (zdc_of ha0.2 rfl)
        rw [zrf_pos hn60]
        have hn61 : gR w4 a0 10 = 2 := zone_10 hn6.2
        rw [hn61]
        refine lv_iconst (v := (0 : Int32)) hx hb dX5_readValue_60 (by decide) ?_
        refine lv_iconst (v := (2 : Int32)) hx hb dX5_readValue_61 (by decide) ?_
        refine z_callVI (fr1 := 6) (b := 2) (As := [.int (0 : Int32), .int (2 : Int32)]) (rest := []) X (hr.le (by decide)) hR zy_X10_takeNumber zq_735 (zlit hR zf_2) (by rw [zs_2]; rfl) rfl (mX10_takeNumber  hf) rfl hl (Nat.le_of_ble_eq_true rfl) dX5_readValue_62 rfl (fun r7 w7 H locs hf hR => ?_)
        exact mX5_readValue_J65 X hr hQ ha0  hf hR (lv_sub hl [0] rfl)
      · replace hf := hf.2 c5
        refine lv_iconst (v := (-1 : Int32)) hx hb dX5_readValue_52 (by decide) ?_
        refine lv_goto (tgt := 65) hx hb dX5_readValue_53 (by decide) ?_
        exact mX5_readValue_J65 X hr hQ ha0  hf hR (lv_sub hl [0] rfl)
    · replace hf := hf.2 c2
      refine lv_iconst (v := (-1 : Int32)) hx hb dX5_readValue_35 (by decide) ?_
      exact hQ _ _ _ _ _ _ hf hR dX5_readValue_36
  · replace hf := hf.2 c1
    refine lv_aload_n hx hb dX5_readValue_6 rfl (lv_at hl 0 rfl) ?_
    refine z_getR X hR ha0.1 ha0.2 (by decide) zfd_X5_36 rfl dX5_readValue_7 ?_
    obtain ⟨hn90, hf⟩ := hf
    have hn9 : al (gR w a0 10) ∧ zsh (gR w a0 10) = 10 := zwt_of hR ha0.1 ha0.2 rfl hn90 (zdc_of ha0.2 rfl)
    rw [zrf_pos hn90]
    have hn91 : gR w a0 10 = 2 := zone_10 hn9.2
    rw [hn91]
    refine lv_iconst (v := (0 : Int32)) hx hb dX5_readValue_10 (by decide) ?_
    refine lv_bipush (v := (99 : Int32)) hx hb dX5_readValue_11 (by decide) ?_
    refine z_callVI (fr1 := 6) (b := 2) (As := [.int (0 : Int32), .int (99 : Int32)]) (rest := []) X (hr.le (by decide)) hR zy_X10_takeNumber zq_735 (zlit hR zf_2) (by rw [zs_2]; rfl) rfl (mX10_takeNumber  hf) rfl hl (Nat.le_of_ble_eq_true rfl) dX5_readValue_13 rfl (fun r10 w10 H locs hf hR => ?_)
    refine lv_istore_n (lv' := [(2, .int r10), (0, .ref (ad a0)), (1, .int x1)]) hx hb dX5_readValue_16 rfl hl (by decide) rfl (fun ls hl => ?_)
    refine lv_iload_n hx hb dX5_readValue_17 rfl (lv_at hl 0 rfl) ?_
    refine lv_iconst (v := (-1 : Int32)) hx hb dX5_readValue_18 (by decide) ?_
    have kJ11 : ∀ v11 : Int32, v11 = (if ¬ r10 = (-1 : Int32) then r10 else (-2 : Int32)) → W p l e R s m args below meth c H locs cells slots Q (F0 m 28 ls (.int v11 :: [])) := by
      intro v11 hv11
      replace hf := hf v11 hv11
      exact hQ _ _ _ _ _ _ hf hR dX5_readValue_28
    refine lv_icmp_ne (tgt := 27) hx hb dX5_readValue_19 (by decide) (fun c11 => ?_) (fun c11 => ?_)
    · refine lv_iload_n hx hb dX5_readValue_27 rfl (lv_at hl 0 rfl) ?_
      exact kJ11 _ (if_pos c11).symm
    · refine lv_bipush (v := (-2 : Int32)) hx hb dX5_readValue_22 (by decide) ?_
      refine lv_goto (tgt := 28) hx hb dX5_readValue_24 (by decide) ?_
      exact kJ11 _ (if_neg (fun h9 => h9 c11)).symm
end ZM
