theorem dX10_valueOf_0 : decode cX10_valueOf 0 = .ok (.iload_n 0, 1) := by decide +kernel
theorem dX10_valueOf_1 : decode cX10_valueOf 1 = .ok (.bipush 97, 2) := by decide +kernel
theorem dX10_valueOf_3 : decode cX10_valueOf 3 = .ok (.if_icmp .lt 12, 3) := by decide +kernel
theorem dX10_valueOf_6 : decode cX10_valueOf 6 = .ok (.iload_n 0, 1) := by decide +kernel
theorem dX10_valueOf_7 : decode cX10_valueOf 7 = .ok (.bipush 97, 2) := by decide +kernel
theorem dX10_valueOf_9 : decode cX10_valueOf 9 = .ok (.isub, 1) := by decide +kernel
theorem dX10_valueOf_10 : decode cX10_valueOf 10 = .ok (.iconst 1, 1) := by decide +kernel
theorem dX10_valueOf_11 : decode cX10_valueOf 11 = .ok (.iadd, 1) := by decide +kernel
theorem dX10_valueOf_12 : decode cX10_valueOf 12 = .ok (.goto 7, 3) := by decide +kernel
theorem dX10_valueOf_15 : decode cX10_valueOf 15 = .ok (.iload_n 0, 1) := by decide +kernel
theorem dX10_valueOf_16 : decode cX10_valueOf 16 = .ok (.bipush 48, 2) := by decide +kernel
theorem dX10_valueOf_18 : decode cX10_valueOf 18 = .ok (.isub, 1) := by decide +kernel
theorem dX10_valueOf_19 : decode cX10_valueOf 19 = .ok (.ireturn, 1) := by decide +kernel
theorem dX10_keyOf_0 : decode cX10_keyOf 0 = .ok (.iconst 0, 1) := by decide +kernel
theorem dX10_keyOf_1 : decode cX10_keyOf 1 = .ok (.istore_n 2, 1) := by decide +kernel
theorem dX10_keyOf_2 : decode cX10_keyOf 2 = .ok (.iload_n 2, 1) := by decide +kernel
theorem dX10_keyOf_3 : decode cX10_keyOf 3 = .ok (.bipush 8, 2) := by decide +kernel
theorem dX10_keyOf_5 : decode cX10_keyOf 5 = .ok (.iadd, 1) := by decide +kernel
theorem dX10_keyOf_6 : decode cX10_keyOf 6 = .ok (.ldc 67, 2) := by decide +kernel
theorem dX10_keyOf_8 : decode cX10_keyOf 8 = .ok (.invokevirtual 69, 3) := by decide +kernel
theorem dX10_keyOf_11 : decode cX10_keyOf 11 = .ok (.if_icmp .gt 70, 3) := by decide +kernel
theorem dX10_keyOf_14 : decode cX10_keyOf 14 = .ok (.lconst 0, 1) := by decide +kernel
theorem dX10_keyOf_15 : decode cX10_keyOf 15 = .ok (.lstore_n 3, 1) := by decide +kernel
theorem dX10_keyOf_16 : decode cX10_keyOf 16 = .ok (.iload_n 2, 1) := by decide +kernel
theorem dX10_keyOf_17 : decode cX10_keyOf 17 = .ok (.istore 5, 2) := by decide +kernel
theorem dX10_keyOf_19 : decode cX10_keyOf 19 = .ok (.iload 5, 2) := by decide +kernel
theorem dX10_keyOf_21 : decode cX10_keyOf 21 = .ok (.iload_n 2, 1) := by decide +kernel
theorem dX10_keyOf_22 : decode cX10_keyOf 22 = .ok (.bipush 8, 2) := by decide +kernel
theorem dX10_keyOf_24 : decode cX10_keyOf 24 = .ok (.iadd, 1) := by decide +kernel
theorem dX10_keyOf_25 : decode cX10_keyOf 25 = .ok (.if_icmp .ge 39, 3) := by decide +kernel
theorem dX10_keyOf_28 : decode cX10_keyOf 28 = .ok (.ldc 67, 2) := by decide +kernel
theorem dX10_keyOf_30 : decode cX10_keyOf 30 = .ok (.iload 5, 2) := by decide +kernel
theorem dX10_keyOf_32 : decode cX10_keyOf 32 = .ok (.invokevirtual 72, 3) := by decide +kernel
theorem dX10_keyOf_35 : decode cX10_keyOf 35 = .ok (.bipush 32, 2) := by decide +kernel
theorem dX10_keyOf_37 : decode cX10_keyOf 37 = .ok (.if_icmp .eq 27, 3) := by decide +kernel
theorem dX10_keyOf_40 : decode cX10_keyOf 40 = .ok (.lload_n 3, 1) := by decide +kernel
theorem dX10_keyOf_41 : decode cX10_keyOf 41 = .ok (.ldc2_w 76, 3) := by decide +kernel
theorem dX10_keyOf_44 : decode cX10_keyOf 44 = .ok (.lmul, 1) := by decide +kernel
theorem dX10_keyOf_45 : decode cX10_keyOf 45 = .ok (.ldc 67, 2) := by decide +kernel
theorem dX10_keyOf_47 : decode cX10_keyOf 47 = .ok (.iload 5, 2) := by decide +kernel
theorem dX10_keyOf_49 : decode cX10_keyOf 49 = .ok (.invokevirtual 72, 3) := by decide +kernel
theorem dX10_keyOf_52 : decode cX10_keyOf 52 = .ok (.invokestatic 45, 3) := by decide +kernel
theorem dX10_keyOf_55 : decode cX10_keyOf 55 = .ok (.i2l, 1) := by decide +kernel
theorem dX10_keyOf_56 : decode cX10_keyOf 56 = .ok (.ladd, 1) := by decide +kernel
theorem dX10_keyOf_57 : decode cX10_keyOf 57 = .ok (.lstore_n 3, 1) := by decide +kernel
theorem dX10_keyOf_58 : decode cX10_keyOf 58 = .ok (.iinc 5 1, 3) := by decide +kernel
theorem dX10_keyOf_61 : decode cX10_keyOf 61 = .ok (.goto (-42), 3) := by decide +kernel
theorem dX10_keyOf_64 : decode cX10_keyOf 64 = .ok (.lload_n 3, 1) := by decide +kernel
theorem dX10_keyOf_65 : decode cX10_keyOf 65 = .ok (.lload_n 0, 1) := by decide +kernel
theorem dX10_keyOf_66 : decode cX10_keyOf 66 = .ok (.lcmp, 1) := by decide +kernel
theorem dX10_keyOf_67 : decode cX10_keyOf 67 = .ok (.ifCond .ne 8, 3) := by decide +kernel
theorem dX10_keyOf_70 : decode cX10_keyOf 70 = .ok (.iload_n 2, 1) := by decide +kernel
theorem dX10_keyOf_71 : decode cX10_keyOf 71 = .ok (.bipush 8, 2) := by decide +kernel
theorem dX10_keyOf_73 : decode cX10_keyOf 73 = .ok (.idiv, 1) := by decide +kernel
theorem dX10_keyOf_74 : decode cX10_keyOf 74 = .ok (.ireturn, 1) := by decide +kernel
theorem dX10_keyOf_75 : decode cX10_keyOf 75 = .ok (.iinc 2 8, 3) := by decide +kernel
theorem dX10_keyOf_78 : decode cX10_keyOf 78 = .ok (.goto (-76), 3) := by decide +kernel
theorem dX10_keyOf_81 : decode cX10_keyOf 81 = .ok (.iconst (-1), 1) := by decide +kernel
theorem dX10_keyOf_82 : decode cX10_keyOf 82 = .ok (.ireturn, 1) := by decide +kernel
theorem dX10_kindOf_0 : decode cX10_kindOf 0 = .ok (.iload_n 0, 1) := by decide +kernel
theorem dX10_kindOf_1 : decode cX10_kindOf 1 = .ok (.bipush 97, 2) := by decide +kernel
theorem dX10_kindOf_3 : decode cX10_kindOf 3 = .ok (.if_icmp .lt 11, 3) := by decide +kernel
theorem dX10_kindOf_6 : decode cX10_kindOf 6 = .ok (.iload_n 0, 1) := by decide +kernel
theorem dX10_kindOf_7 : decode cX10_kindOf 7 = .ok (.bipush 122, 2) := by decide +kernel
theorem dX10_kindOf_9 : decode cX10_kindOf 9 = .ok (.if_icmp .gt 5, 3) := by decide +kernel
theorem dX10_kindOf_12 : decode cX10_kindOf 12 = .ok (.iconst 1, 1) := by decide +kernel
theorem dX10_kindOf_13 : decode cX10_kindOf 13 = .ok (.ireturn, 1) := by decide +kernel
theorem dX10_kindOf_14 : decode cX10_kindOf 14 = .ok (.iload_n 0, 1) := by decide +kernel
theorem dX10_kindOf_15 : decode cX10_kindOf 15 = .ok (.bipush 48, 2) := by decide +kernel
theorem dX10_kindOf_17 : decode cX10_kindOf 17 = .ok (.if_icmp .lt 11, 3) := by decide +kernel
theorem dX10_kindOf_20 : decode cX10_kindOf 20 = .ok (.iload_n 0, 1) := by decide +kernel
theorem dX10_kindOf_21 : decode cX10_kindOf 21 = .ok (.bipush 57, 2) := by decide +kernel
theorem dX10_kindOf_23 : decode cX10_kindOf 23 = .ok (.if_icmp .gt 5, 3) := by decide +kernel
theorem dX10_kindOf_26 : decode cX10_kindOf 26 = .ok (.iconst 2, 1) := by decide +kernel
theorem dX10_kindOf_27 : decode cX10_kindOf 27 = .ok (.ireturn, 1) := by decide +kernel
theorem dX10_kindOf_28 : decode cX10_kindOf 28 = .ok (.ldc 59, 2) := by decide +kernel
theorem dX10_kindOf_30 : decode cX10_kindOf 30 = .ok (.iload_n 0, 1) := by decide +kernel
theorem dX10_kindOf_31 : decode cX10_kindOf 31 = .ok (.invokevirtual 61, 3) := by decide +kernel
theorem dX10_kindOf_34 : decode cX10_kindOf 34 = .ok (.ifCond .lt 7, 3) := by decide +kernel
theorem dX10_kindOf_37 : decode cX10_kindOf 37 = .ok (.iconst 3, 1) := by decide +kernel
theorem dX10_kindOf_38 : decode cX10_kindOf 38 = .ok (.goto 4, 3) := by decide +kernel
theorem dX10_kindOf_41 : decode cX10_kindOf 41 = .ok (.iconst 4, 1) := by decide +kernel
theorem dX10_kindOf_42 : decode cX10_kindOf 42 = .ok (.ireturn, 1) := by decide +kernel
theorem dX10_next_0 : decode cX10_next 0 = .ok (.aload_n 0, 1) := by decide +kernel
theorem dX10_next_1 : decode cX10_next 1 = .ok (.getfield 19, 3) := by decide +kernel
theorem dX10_next_4 : decode cX10_next 4 = .ok (.ifCond .lt 55, 3) := by decide +kernel
theorem dX10_next_7 : decode cX10_next 7 = .ok (.aload_n 0, 1) := by decide +kernel
theorem dX10_next_8 : decode cX10_next 8 = .ok (.getfield 19, 3) := by decide +kernel
theorem dX10_next_11 : decode cX10_next 11 = .ok (.aload_n 0, 1) := by decide +kernel
theorem dX10_next_12 : decode cX10_next 12 = .ok (.getfield 15, 3) := by decide +kernel
theorem dX10_next_15 : decode cX10_next 15 = .ok (.if_icmp .ge 44, 3) := by decide +kernel
theorem dX10_next_18 : decode cX10_next 18 = .ok (.aload_n 0, 1) := by decide +kernel
theorem dX10_next_19 : decode cX10_next 19 = .ok (.getfield 11, 3) := by decide +kernel
theorem dX10_next_22 : decode cX10_next 22 = .ok (.aload_n 0, 1) := by decide +kernel
theorem dX10_next_23 : decode cX10_next 23 = .ok (.getfield 19, 3) := by decide +kernel
theorem dX10_next_26 : decode cX10_next 26 = .ok (.caload, 1) := by decide +kernel
theorem dX10_next_27 : decode cX10_next 27 = .ok (.bipush 32, 2) := by decide +kernel
theorem dX10_next_29 : decode cX10_next 29 = .ok (.if_icmp .eq 17, 3) := by decide +kernel
theorem dX10_next_32 : decode cX10_next 32 = .ok (.aload_n 0, 1) := by decide +kernel
theorem dX10_next_33 : decode cX10_next 33 = .ok (.getfield 11, 3) := by decide +kernel
theorem dX10_next_36 : decode cX10_next 36 = .ok (.aload_n 0, 1) := by decide +kernel
theorem dX10_next_37 : decode cX10_next 37 = .ok (.getfield 19, 3) := by decide +kernel
theorem dX10_next_40 : decode cX10_next 40 = .ok (.caload, 1) := by decide +kernel
theorem dX10_next_41 : decode cX10_next 41 = .ok (.bipush 10, 2) := by decide +kernel
theorem dX10_next_43 : decode cX10_next 43 = .ok (.if_icmp .ne 16, 3) := by decide +kernel
theorem dX10_next_46 : decode cX10_next 46 = .ok (.aload_n 0, 1) := by decide +kernel
theorem dX10_next_47 : decode cX10_next 47 = .ok (.dup, 1) := by decide +kernel
theorem dX10_next_48 : decode cX10_next 48 = .ok (.getfield 19, 3) := by decide +kernel
theorem dX10_next_51 : decode cX10_next 51 = .ok (.iconst 1, 1) := by decide +kernel
theorem dX10_next_52 : decode cX10_next 52 = .ok (.iadd, 1) := by decide +kernel
theorem dX10_next_53 : decode cX10_next 53 = .ok (.putfield 19, 3) := by decide +kernel
theorem dX10_next_56 : decode cX10_next 56 = .ok (.goto (-56), 3) := by decide +kernel
theorem dX10_next_59 : decode cX10_next 59 = .ok (.aload_n 0, 1) := by decide +kernel
theorem dX10_next_60 : decode cX10_next 60 = .ok (.aload_n 0, 1) := by decide +kernel
theorem dX10_next_61 : decode cX10_next 61 = .ok (.getfield 19, 3) := by decide +kernel
theorem dX10_next_64 : decode cX10_next 64 = .ok (.putfield 28, 3) := by decide +kernel
theorem dX10_next_67 : decode cX10_next 67 = .ok (.aload_n 0, 1) := by decide +kernel
theorem dX10_next_68 : decode cX10_next 68 = .ok (.iconst (-1), 1) := by decide +kernel
theorem dX10_next_69 : decode cX10_next 69 = .ok (.putfield 31, 3) := by decide +kernel
theorem dX10_next_72 : decode cX10_next 72 = .ok (.aload_n 0, 1) := by decide +kernel
theorem dX10_next_73 : decode cX10_next 73 = .ok (.getfield 19, 3) := by decide +kernel
theorem dX10_next_76 : decode cX10_next 76 = .ok (.ifCond .lt 14, 3) := by decide +kernel
theorem dX10_next_79 : decode cX10_next 79 = .ok (.aload_n 0, 1) := by decide +kernel
theorem dX10_next_80 : decode cX10_next 80 = .ok (.getfield 19, 3) := by decide +kernel
theorem dX10_next_83 : decode cX10_next 83 = .ok (.aload_n 0, 1) := by decide +kernel
theorem dX10_next_84 : decode cX10_next 84 = .ok (.getfield 15, 3) := by decide +kernel
theorem dX10_next_87 : decode cX10_next 87 = .ok (.if_icmp .lt 9, 3) := by decide +kernel
theorem dX10_next_90 : decode cX10_next 90 = .ok (.aload_n 0, 1) := by decide +kernel
theorem dX10_next_91 : decode cX10_next 91 = .ok (.iconst 0, 1) := by decide +kernel
theorem dX10_next_92 : decode cX10_next 92 = .ok (.putfield 34, 3) := by decide +kernel
theorem dX10_next_95 : decode cX10_next 95 = .ok (.return_, 1) := by decide +kernel
theorem dX10_next_96 : decode cX10_next 96 = .ok (.aload_n 0, 1) := by decide +kernel
theorem dX10_next_97 : decode cX10_next 97 = .ok (.aload_n 0, 1) := by decide +kernel
theorem dX10_next_98 : decode cX10_next 98 = .ok (.getfield 11, 3) := by decide +kernel
theorem dX10_next_101 : decode cX10_next 101 = .ok (.aload_n 0, 1) := by decide +kernel
theorem dX10_next_102 : decode cX10_next 102 = .ok (.getfield 19, 3) := by decide +kernel
theorem dX10_next_105 : decode cX10_next 105 = .ok (.caload, 1) := by decide +kernel
theorem dX10_next_106 : decode cX10_next 106 = .ok (.putfield 37, 3) := by decide +kernel
theorem dX10_next_109 : decode cX10_next 109 = .ok (.aload_n 0, 1) := by decide +kernel
theorem dX10_next_110 : decode cX10_next 110 = .ok (.aload_n 0, 1) := by decide +kernel
theorem dX10_next_111 : decode cX10_next 111 = .ok (.getfield 37, 3) := by decide +kernel
theorem dX10_next_114 : decode cX10_next 114 = .ok (.invokestatic 41, 3) := by decide +kernel
theorem dX10_next_117 : decode cX10_next 117 = .ok (.putfield 34, 3) := by decide +kernel
theorem dX10_next_120 : decode cX10_next 120 = .ok (.aload_n 0, 1) := by decide +kernel
theorem dX10_next_121 : decode cX10_next 121 = .ok (.getfield 37, 3) := by decide +kernel
theorem dX10_next_124 : decode cX10_next 124 = .ok (.invokestatic 45, 3) := by decide +kernel
theorem dX10_next_127 : decode cX10_next 127 = .ok (.i2l, 1) := by decide +kernel
theorem dX10_next_128 : decode cX10_next 128 = .ok (.lstore_n 1, 1) := by decide +kernel
theorem dX10_next_129 : decode cX10_next 129 = .ok (.aload_n 0, 1) := by decide +kernel
theorem dX10_next_130 : decode cX10_next 130 = .ok (.dup, 1) := by decide +kernel
theorem dX10_next_131 : decode cX10_next 131 = .ok (.getfield 19, 3) := by decide +kernel
theorem dX10_next_134 : decode cX10_next 134 = .ok (.iconst 1, 1) := by decide +kernel
theorem dX10_next_135 : decode cX10_next 135 = .ok (.iadd, 1) := by decide +kernel
theorem dX10_next_136 : decode cX10_next 136 = .ok (.putfield 19, 3) := by decide +kernel
theorem dX10_next_139 : decode cX10_next 139 = .ok (.aload_n 0, 1) := by decide +kernel
theorem dX10_next_140 : decode cX10_next 140 = .ok (.getfield 34, 3) := by decide +kernel
theorem dX10_next_143 : decode cX10_next 143 = .ok (.iconst 1, 1) := by decide +kernel
theorem dX10_next_144 : decode cX10_next 144 = .ok (.if_icmp .ne 7, 3) := by decide +kernel
theorem dX10_next_147 : decode cX10_next 147 = .ok (.iconst 1, 1) := by decide +kernel
theorem dX10_next_148 : decode cX10_next 148 = .ok (.goto 4, 3) := by decide +kernel
theorem dX10_next_151 : decode cX10_next 151 = .ok (.iconst 0, 1) := by decide +kernel
theorem dX10_next_152 : decode cX10_next 152 = .ok (.istore_n 3, 1) := by decide +kernel
theorem dX10_next_153 : decode cX10_next 153 = .ok (.iload_n 3, 1) := by decide +kernel
theorem dX10_next_154 : decode cX10_next 154 = .ok (.ifCond .ne 12, 3) := by decide +kernel
theorem dX10_next_157 : decode cX10_next 157 = .ok (.aload_n 0, 1) := by decide +kernel
theorem dX10_next_158 : decode cX10_next 158 = .ok (.getfield 34, 3) := by decide +kernel
theorem dX10_next_161 : decode cX10_next 161 = .ok (.iconst 2, 1) := by decide +kernel
theorem dX10_next_162 : decode cX10_next 162 = .ok (.if_icmp .eq 4, 3) := by decide +kernel
theorem dX10_next_165 : decode cX10_next 165 = .ok (.return_, 1) := by decide +kernel
theorem dX10_next_166 : decode cX10_next 166 = .ok (.aload_n 0, 1) := by decide +kernel
theorem dX10_next_167 : decode cX10_next 167 = .ok (.getfield 19, 3) := by decide +kernel
theorem dX10_next_170 : decode cX10_next 170 = .ok (.aload_n 0, 1) := by decide +kernel
theorem dX10_next_171 : decode cX10_next 171 = .ok (.getfield 15, 3) := by decide +kernel
theorem dX10_next_174 : decode cX10_next 174 = .ok (.if_icmp .ge 64, 3) := by decide +kernel
theorem dX10_next_177 : decode cX10_next 177 = .ok (.aload_n 0, 1) := by decide +kernel
theorem dX10_next_178 : decode cX10_next 178 = .ok (.getfield 11, 3) := by decide +kernel
theorem dX10_next_181 : decode cX10_next 181 = .ok (.aload_n 0, 1) := by decide +kernel
theorem dX10_next_182 : decode cX10_next 182 = .ok (.getfield 19, 3) := by decide +kernel
theorem dX10_next_185 : decode cX10_next 185 = .ok (.caload, 1) := by decide +kernel
theorem dX10_next_186 : decode cX10_next 186 = .ok (.invokestatic 41, 3) := by decide +kernel
theorem dX10_next_189 : decode cX10_next 189 = .ok (.aload_n 0, 1) := by decide +kernel
theorem dX10_next_190 : decode cX10_next 190 = .ok (.getfield 34, 3) := by decide +kernel
theorem dX10_next_193 : decode cX10_next 193 = .ok (.if_icmp .ne 45, 3) := by decide +kernel
theorem dX10_next_196 : decode cX10_next 196 = .ok (.lload_n 1, 1) := by decide +kernel
theorem dX10_next_197 : decode cX10_next 197 = .ok (.iload_n 3, 1) := by decide +kernel
theorem dX10_next_198 : decode cX10_next 198 = .ok (.ifCond .eq 8, 3) := by decide +kernel
theorem dX10_next_201 : decode cX10_next 201 = .ok (.bipush 32, 2) := by decide +kernel
theorem dX10_next_203 : decode cX10_next 203 = .ok (.goto 5, 3) := by decide +kernel
theorem dX10_next_206 : decode cX10_next 206 = .ok (.bipush 10, 2) := by decide +kernel
theorem dX10_next_208 : decode cX10_next 208 = .ok (.i2l, 1) := by decide +kernel
theorem dX10_next_209 : decode cX10_next 209 = .ok (.lmul, 1) := by decide +kernel
theorem dX10_next_210 : decode cX10_next 210 = .ok (.aload_n 0, 1) := by decide +kernel
theorem dX10_next_211 : decode cX10_next 211 = .ok (.getfield 11, 3) := by decide +kernel
theorem dX10_next_214 : decode cX10_next 214 = .ok (.aload_n 0, 1) := by decide +kernel
theorem dX10_next_215 : decode cX10_next 215 = .ok (.getfield 19, 3) := by decide +kernel
theorem dX10_next_218 : decode cX10_next 218 = .ok (.caload, 1) := by decide +kernel
theorem dX10_next_219 : decode cX10_next 219 = .ok (.invokestatic 45, 3) := by decide +kernel
theorem dX10_next_222 : decode cX10_next 222 = .ok (.i2l, 1) := by decide +kernel
theorem dX10_next_223 : decode cX10_next 223 = .ok (.ladd, 1) := by decide +kernel
theorem dX10_next_224 : decode cX10_next 224 = .ok (.lstore_n 1, 1) := by decide +kernel
theorem dX10_next_225 : decode cX10_next 225 = .ok (.aload_n 0, 1) := by decide +kernel
theorem dX10_next_226 : decode cX10_next 226 = .ok (.dup, 1) := by decide +kernel
theorem dX10_next_227 : decode cX10_next 227 = .ok (.getfield 19, 3) := by decide +kernel
theorem dX10_next_230 : decode cX10_next 230 = .ok (.iconst 1, 1) := by decide +kernel
theorem dX10_next_231 : decode cX10_next 231 = .ok (.iadd, 1) := by decide +kernel
theorem dX10_next_232 : decode cX10_next 232 = .ok (.putfield 19, 3) := by decide +kernel
theorem dX10_next_235 : decode cX10_next 235 = .ok (.goto (-69), 3) := by decide +kernel
theorem dX10_next_238 : decode cX10_next 238 = .ok (.aload_n 0, 1) := by decide +kernel
theorem dX10_next_239 : decode cX10_next 239 = .ok (.getfield 19, 3) := by decide +kernel
theorem dX10_next_242 : decode cX10_next 242 = .ok (.aload_n 0, 1) := by decide +kernel
theorem dX10_next_243 : decode cX10_next 243 = .ok (.getfield 28, 3) := by decide +kernel
theorem dX10_next_246 : decode cX10_next 246 = .ok (.isub, 1) := by decide +kernel
theorem dX10_next_247 : decode cX10_next 247 = .ok (.iload_n 3, 1) := by decide +kernel
theorem dX10_next_248 : decode cX10_next 248 = .ok (.ifCond .eq 8, 3) := by decide +kernel
theorem dX10_next_251 : decode cX10_next 251 = .ok (.bipush 8, 2) := by decide +kernel
theorem dX10_next_253 : decode cX10_next 253 = .ok (.goto 4, 3) := by decide +kernel
theorem dX10_next_256 : decode cX10_next 256 = .ok (.iconst 4, 1) := by decide +kernel
theorem dX10_next_257 : decode cX10_next 257 = .ok (.if_icmp .le 11, 3) := by decide +kernel
theorem dX10_next_260 : decode cX10_next 260 = .ok (.aload_n 0, 1) := by decide +kernel
theorem dX10_next_261 : decode cX10_next 261 = .ok (.iconst 4, 1) := by decide +kernel
theorem dX10_next_262 : decode cX10_next 262 = .ok (.putfield 34, 3) := by decide +kernel
theorem dX10_next_265 : decode cX10_next 265 = .ok (.goto 29, 3) := by decide +kernel
theorem dX10_next_268 : decode cX10_next 268 = .ok (.iload_n 3, 1) := by decide +kernel
theorem dX10_next_269 : decode cX10_next 269 = .ok (.ifCond .eq 19, 3) := by decide +kernel
theorem dX10_next_272 : decode cX10_next 272 = .ok (.aload_n 0, 1) := by decide +kernel
theorem dX10_next_273 : decode cX10_next 273 = .ok (.lload_n 1, 1) := by decide +kernel
theorem dX10_next_274 : decode cX10_next 274 = .ok (.putfield 48, 3) := by decide +kernel
theorem dX10_next_277 : decode cX10_next 277 = .ok (.aload_n 0, 1) := by decide +kernel
theorem dX10_next_278 : decode cX10_next 278 = .ok (.lload_n 1, 1) := by decide +kernel
theorem dX10_next_279 : decode cX10_next 279 = .ok (.invokestatic 52, 3) := by decide +kernel
theorem dX10_next_282 : decode cX10_next 282 = .ok (.putfield 31, 3) := by decide +kernel
theorem dX10_next_285 : decode cX10_next 285 = .ok (.goto 9, 3) := by decide +kernel
theorem dX10_next_288 : decode cX10_next 288 = .ok (.aload_n 0, 1) := by decide +kernel
theorem dX10_next_289 : decode cX10_next 289 = .ok (.lload_n 1, 1) := by decide +kernel
theorem dX10_next_290 : decode cX10_next 290 = .ok (.l2i, 1) := by decide +kernel
theorem dX10_next_291 : decode cX10_next 291 = .ok (.putfield 56, 3) := by decide +kernel
theorem dX10_next_294 : decode cX10_next 294 = .ok (.return_, 1) := by decide +kernel
theorem dX7_addStep_0 : decode cX7_addStep 0 = .ok (.aload_n 0, 1) := by decide +kernel
theorem dX7_addStep_1 : decode cX7_addStep 1 = .ok (.getfield 22, 3) := by decide +kernel
theorem dX7_addStep_4 : decode cX7_addStep 4 = .ok (.ifCond .lt 35, 3) := by decide +kernel
theorem dX7_addStep_7 : decode cX7_addStep 7 = .ok (.aload_n 0, 1) := by decide +kernel
theorem dX7_addStep_8 : decode cX7_addStep 8 = .ok (.getfield 22, 3) := by decide +kernel
theorem dX7_addStep_11 : decode cX7_addStep 11 = .ok (.aload_n 0, 1) := by decide +kernel
theorem dX7_addStep_12 : decode cX7_addStep 12 = .ok (.getfield 9, 3) := by decide +kernel
theorem dX7_addStep_15 : decode cX7_addStep 15 = .ok (.arraylength, 1) := by decide +kernel
theorem dX7_addStep_16 : decode cX7_addStep 16 = .ok (.if_icmp .ge 23, 3) := by decide +kernel
theorem dX7_addStep_19 : decode cX7_addStep 19 = .ok (.aload_n 0, 1) := by decide +kernel
theorem dX7_addStep_20 : decode cX7_addStep 20 = .ok (.getfield 9, 3) := by decide +kernel
theorem dX7_addStep_23 : decode cX7_addStep 23 = .ok (.aload_n 0, 1) := by decide +kernel
theorem dX7_addStep_24 : decode cX7_addStep 24 = .ok (.getfield 22, 3) := by decide +kernel
theorem dX7_addStep_27 : decode cX7_addStep 27 = .ok (.iload_n 1, 1) := by decide +kernel
theorem dX7_addStep_28 : decode cX7_addStep 28 = .ok (.iastore, 1) := by decide +kernel
theorem dX7_addStep_29 : decode cX7_addStep 29 = .ok (.aload_n 0, 1) := by decide +kernel
theorem dX7_addStep_30 : decode cX7_addStep 30 = .ok (.dup, 1) := by decide +kernel
theorem dX7_addStep_31 : decode cX7_addStep 31 = .ok (.getfield 22, 3) := by decide +kernel
theorem dX7_addStep_34 : decode cX7_addStep 34 = .ok (.iconst 1, 1) := by decide +kernel
theorem dX7_addStep_35 : decode cX7_addStep 35 = .ok (.iadd, 1) := by decide +kernel
theorem dX7_addStep_36 : decode cX7_addStep 36 = .ok (.putfield 22, 3) := by decide +kernel
theorem dX7_addStep_39 : decode cX7_addStep 39 = .ok (.return_, 1) := by decide +kernel
theorem dX10_isSign_0 : decode cX10_isSign 0 = .ok (.aload_n 0, 1) := by decide +kernel
theorem dX10_isSign_1 : decode cX10_isSign 1 = .ok (.getfield 34, 3) := by decide +kernel
theorem dX10_isSign_4 : decode cX10_isSign 4 = .ok (.iconst 3, 1) := by decide +kernel
theorem dX10_isSign_5 : decode cX10_isSign 5 = .ok (.if_icmp .ne 15, 3) := by decide +kernel
theorem dX10_isSign_8 : decode cX10_isSign 8 = .ok (.aload_n 0, 1) := by decide +kernel
theorem dX10_isSign_9 : decode cX10_isSign 9 = .ok (.getfield 37, 3) := by decide +kernel
theorem dX10_isSign_12 : decode cX10_isSign 12 = .ok (.iload_n 1, 1) := by decide +kernel
theorem dX10_isSign_13 : decode cX10_isSign 13 = .ok (.if_icmp .ne 7, 3) := by decide +kernel
theorem dX10_isSign_16 : decode cX10_isSign 16 = .ok (.iconst 1, 1) := by decide +kernel
theorem dX10_isSign_17 : decode cX10_isSign 17 = .ok (.goto 4, 3) := by decide +kernel
theorem dX10_isSign_20 : decode cX10_isSign 20 = .ok (.iconst 0, 1) := by decide +kernel
theorem dX10_isSign_21 : decode cX10_isSign 21 = .ok (.ireturn, 1) := by decide +kernel
theorem dX10_wrong_0 : decode cX10_wrong 0 = .ok (.aload_n 0, 1) := by decide +kernel
theorem dX10_wrong_1 : decode cX10_wrong 1 = .ok (.iload_n 1, 1) := by decide +kernel
theorem dX10_wrong_2 : decode cX10_wrong 2 = .ok (.bipush 16, 2) := by decide +kernel
theorem dX10_wrong_4 : decode cX10_wrong 4 = .ok (.aload_n 0, 1) := by decide +kernel
theorem dX10_wrong_5 : decode cX10_wrong 5 = .ok (.getfield 28, 3) := by decide +kernel
theorem dX10_wrong_8 : decode cX10_wrong 8 = .ok (.imul, 1) := by decide +kernel
theorem dX10_wrong_9 : decode cX10_wrong 9 = .ok (.iadd, 1) := by decide +kernel
theorem dX10_wrong_10 : decode cX10_wrong 10 = .ok (.putfield 22, 3) := by decide +kernel
theorem dX10_wrong_13 : decode cX10_wrong 13 = .ok (.iconst 0, 1) := by decide +kernel
theorem dX10_wrong_14 : decode cX10_wrong 14 = .ok (.ireturn, 1) := by decide +kernel
theorem zq_243 : Cond.fieldLink RX10 15 "ForeignKnit$Tape" "length" "I" ∈ zG := List.mem_of_getElem? (i := 243) (by decide +kernel)
theorem zq_282 : Cond.fieldLink RX7 22 "ForeignKnit$Rules" "length" "I" ∈ zG := List.mem_of_getElem? (i := 282) (by decide +kernel)
theorem zq_291 : Cond.fieldLink RX10 19 "ForeignKnit$Tape" "at" "I" ∈ zG := List.mem_of_getElem? (i := 291) (by decide +kernel)
theorem zq_292 : Cond.fieldLink RX10 22 "ForeignKnit$Tape" "fault" "I" ∈ zG := List.mem_of_getElem? (i := 292) (by decide +kernel)
theorem zq_297 : Cond.fieldLink RX10 28 "ForeignKnit$Tape" "place" "I" ∈ zG := List.mem_of_getElem? (i := 297) (by decide +kernel)
theorem zq_298 : Cond.fieldLink RX10 31 "ForeignKnit$Tape" "key" "I" ∈ zG := List.mem_of_getElem? (i := 298) (by decide +kernel)
theorem zq_299 : Cond.fieldLink RX10 34 "ForeignKnit$Tape" "kind" "I" ∈ zG := List.mem_of_getElem? (i := 299) (by decide +kernel)
theorem zq_300 : Cond.fieldLink RX10 37 "ForeignKnit$Tape" "sign" "C" ∈ zG := List.mem_of_getElem? (i := 300) (by decide +kernel)
theorem zq_301 : Cond.fieldLink RX10 48 "ForeignKnit$Tape" "name" "J" ∈ zG := List.mem_of_getElem? (i := 301) (by decide +kernel)
theorem zq_302 : Cond.fieldLink RX10 56 "ForeignKnit$Tape" "number" "I" ∈ zG := List.mem_of_getElem? (i := 302) (by decide +kernel)
theorem zq_303 : Cond.methodLink RX10 41 yX10_kindOf ∈ zG := List.mem_of_getElem? (i := 303) (by decide +kernel)
theorem zq_306 : Cond.methodLink RX10 61 yJ0_indexOf_0f7a4 ∈ zG := List.mem_of_getElem? (i := 306) (by decide +kernel)
theorem zq_395 : Cond.methodLink RX10 45 yX10_valueOf ∈ zG := List.mem_of_getElem? (i := 395) (by decide +kernel)
theorem zq_398 : Cond.methodLink RX10 52 yX10_keyOf ∈ zG := List.mem_of_getElem? (i := 398) (by decide +kernel)
theorem zq_401 : Cond.constantLong RX10 76 (32) ∈ zG := List.mem_of_getElem? (i := 401) (by decide +kernel)
theorem zq_402 : Cond.methodLink RX10 69 yJ0_length_8abf5 ∈ zG := List.mem_of_getElem? (i := 402) (by decide +kernel)
theorem zq_403 : Cond.methodLink RX10 72 yJ0_charAt_5068e ∈ zG := List.mem_of_getElem? (i := 403) (by decide +kernel)
theorem zfd_X10_11 : zFd RX10 11 10 0 := ⟨_, rfl, by decide, zq_59⟩
theorem zfd_X10_15 : zFd RX10 15 10 1 := ⟨_, rfl, by decide, zq_243⟩
theorem zfd_X10_19 : zFd RX10 19 10 9 := ⟨_, rfl, by decide, zq_291⟩
theorem zfd_X10_28 : zFd RX10 28 10 3 := ⟨_, rfl, by decide, zq_297⟩
theorem zfd_X10_34 : zFd RX10 34 10 2 := ⟨_, rfl, by decide, zq_299⟩
theorem zfd_X10_37 : zFd RX10 37 10 6 := ⟨_, rfl, by decide, zq_300⟩
theorem zfd_X7_9 : zFd RX7 9 7 1 := ⟨_, rfl, by decide, zq_75⟩
theorem zfd_X7_22 : zFd RX7 22 7 3 := ⟨_, rfl, by decide, zq_282⟩
theorem zfp_X10_19 : zFp RX10 19 10 9 .int := ⟨_, rfl, by decide, zq_291, rfl, by decide +kernel⟩
theorem zfp_X10_22 : zFp RX10 22 10 8 .int := ⟨_, rfl, by decide, zq_292, rfl, by decide +kernel⟩
theorem zfp_X10_28 : zFp RX10 28 10 3 .int := ⟨_, rfl, by decide, zq_297, rfl, by decide +kernel⟩
theorem zfp_X10_31 : zFp RX10 31 10 5 .int := ⟨_, rfl, by decide, zq_298, rfl, by decide +kernel⟩
theorem zfp_X10_34 : zFp RX10 34 10 2 .int := ⟨_, rfl, by decide, zq_299, rfl, by decide +kernel⟩
theorem zfp_X10_37 : zFp RX10 37 10 6 .char := ⟨_, rfl, by decide, zq_300, rfl, by decide +kernel⟩
theorem zfp_X10_48 : zFp RX10 48 10 7 .long := ⟨_, rfl, by decide, zq_301, rfl, by decide +kernel⟩
theorem zfp_X10_56 : zFp RX10 56 10 4 .int := ⟨_, rfl, by decide, zq_302, rfl, by decide +kernel⟩
theorem zfp_X7_22 : zFp RX7 22 7 3 .int := ⟨_, rfl, by decide, zq_282, rfl, by decide +kernel⟩
theorem zq_406 : Cond.code yJ0_charAt_5068e cJ0_charAt_5068e 2 (some .char) ∈ zG := List.mem_of_getElem? (i := 406) (by decide +kernel)
theorem zq_404 : Cond.instanceMethod yJ0_charAt_5068e ∈ zG := List.mem_of_getElem? (i := 404) (by decide +kernel)
theorem zq_405 : Cond.selects RJ0 yJ0_charAt_5068e yJ0_charAt_5068e ∈ zG := List.mem_of_getElem? (i := 405) (by decide +kernel)
theorem zy_J0_charAt_5068e : zyV yJ0_charAt_5068e cJ0_charAt_5068e 2 (some .char) 1 := ⟨zq_406, zq_404, zq_405, zq_309, ⟨by decide, by decide⟩, by decide +kernel, by decide⟩
theorem zq_310 : Cond.code yJ0_indexOf_0f7a4 cJ0_indexOf_0f7a4 2 (some .int) ∈ zG := List.mem_of_getElem? (i := 310) (by decide +kernel)
theorem zq_307 : Cond.instanceMethod yJ0_indexOf_0f7a4 ∈ zG := List.mem_of_getElem? (i := 307) (by decide +kernel)
theorem zq_308 : Cond.selects RJ0 yJ0_indexOf_0f7a4 yJ0_indexOf_0f7a4 ∈ zG := List.mem_of_getElem? (i := 308) (by decide +kernel)
theorem zy_J0_indexOf_0f7a4 : zyV yJ0_indexOf_0f7a4 cJ0_indexOf_0f7a4 2 (some .int) 1 := ⟨zq_310, zq_307, zq_308, zq_309, ⟨by decide, by decide⟩, by decide +kernel, by decide⟩
theorem zq_400 : Cond.code yX10_keyOf cX10_keyOf 6 (some .int) ∈ zG := List.mem_of_getElem? (i := 400) (by decide +kernel)
theorem zq_399 : Cond.static yX10_keyOf ∈ zG := List.mem_of_getElem? (i := 399) (by decide +kernel)
theorem zy_X10_keyOf : zyS yX10_keyOf cX10_keyOf 6 (some .int) 1 := ⟨zq_400, zq_399, zq_16, ⟨by decide, by decide⟩, by decide +kernel, by decide⟩
theorem zq_305 : Cond.code yX10_kindOf cX10_kindOf 1 (some .int) ∈ zG := List.mem_of_getElem? (i := 305) (by decide +kernel)
theorem zq_304 : Cond.static yX10_kindOf ∈ zG := List.mem_of_getElem? (i := 304) (by decide +kernel)
theorem zy_X10_kindOf : zyS yX10_kindOf cX10_kindOf 1 (some .int) 1 := ⟨zq_305, zq_304, zq_16, ⟨by decide, by decide⟩, by decide +kernel, by decide⟩
theorem zq_397 : Cond.code yX10_valueOf cX10_valueOf 1 (some .int) ∈ zG := List.mem_of_getElem? (i := 397) (by decide +kernel)
theorem zq_396 : Cond.static yX10_valueOf ∈ zG := List.mem_of_getElem? (i := 396) (by decide +kernel)
theorem zy_X10_valueOf : zyS yX10_valueOf cX10_valueOf 1 (some .int) 1 := ⟨zq_397, zq_396, zq_16, ⟨by decide, by decide⟩, by decide +kernel, by decide⟩
section ZM
variable {p : Program} {l : Launch} {e : Env} {R : Room} {s : State} {m : MethodId} {args : Array Value} {below : List Frame} {meth : Method} {c : Code} {cells slots : Nat} {Q : State → Prop} {D : va_G} {dA : Nat → ClassId} {ad ad0 : Nat → Nat} {al al0 : Nat → Prop}
/-! X10_valueOf -/
def fX10_valueOf (x0 : Int32) (w : zW) (k : Int32 → zW → Prop) : Prop :=
  ∀ v1 : Int32, v1 = (if x0 < (97 : Int32) then (x0 - (48 : Int32)) else ((x0 - (97 : Int32)) + (1 : Int32))) →
  k v1 w
set_option maxHeartbeats 4000000 in
set_option maxRecDepth 100000 in
theorem mX10_valueOf {l : Launch} {D : va_G} {dA : Nat → ClassId} {ad : Nat → Nat} {al : Nat → Prop} {w : zW} {k : Int32 → zW → Prop} {x0 : Int32}   (hf : fX10_valueOf x0 w k) : zmetI l yX10_valueOf cX10_valueOf 1 (some .int) 0 [.int x0] D dA true ad al w k := by
  refine zmetI_of (by decide) (Nat.le_of_ble_eq_true rfl) ?_
  intro p e R s m below meth c Q H ls args locs cells slots X hr hQ hR hl
  have hx := X.1
  have hb := X.2.1
  have hml := X.2.2.1
  have hown := X.2.2.2.1
  have hts := X.2.2.2.2.1
  unfold fX10_valueOf at hf
  have hl : lv_has ls 1 [(0, .int x0)] := hl
  refine lv_iload_n hx hb dX10_valueOf_0 rfl (lv_at hl 0 rfl) ?_
  refine lv_bipush (v := (97 : Int32)) hx hb dX10_valueOf_1 (by decide) ?_
  have kJ1 : ∀ v1 : Int32, v1 = (if x0 < (97 : Int32) then (x0 - (48 : Int32)) else ((x0 - (97 : Int32)) + (1 : Int32))) → W p l e R s m args below meth c H locs cells slots Q (F0 m 19 ls (.int v1 :: [])) := by
    intro v1 hv1
    replace hf := hf v1 hv1
    exact hQ _ _ _ _ _ _ hf hR dX10_valueOf_19
  refine lv_icmp_lt (tgt := 15) hx hb dX10_valueOf_3 (by decide) (fun c1 => ?_) (fun c1 => ?_)
  · refine lv_iload_n hx hb dX10_valueOf_15 rfl (lv_at hl 0 rfl) ?_
    refine lv_bipush (v := (48 : Int32)) hx hb dX10_valueOf_16 (by decide) ?_
    refine lv_isub hx hb dX10_valueOf_18 ?_
    exact kJ1 _ (if_pos c1).symm
  · refine lv_iload_n hx hb dX10_valueOf_6 rfl (lv_at hl 0 rfl) ?_
    refine lv_bipush (v := (97 : Int32)) hx hb dX10_valueOf_7 (by decide) ?_
    refine lv_isub hx hb dX10_valueOf_9 ?_
    refine lv_iconst (v := (1 : Int32)) hx hb dX10_valueOf_10 (by decide) ?_
    refine lv_iadd hx hb dX10_valueOf_11 ?_
    refine lv_goto (tgt := 19) hx hb dX10_valueOf_12 (by decide) ?_
    exact kJ1 _ (if_neg c1).symm
/-! X10_keyOf -/
def fX10_keyOf_J64 (k : Int32 → zW → Prop) (g2 : Int64 → Int32 → zW → Prop) (x0 : Int64) (x2 : Int32) (x3 : Int64) (w : zW) : Prop :=
  ((¬ (lg_cmp x3 x0) = 0 →
    g2 x0 (x2 + (8 : Int32)) w) ∧
   ((lg_cmp x3 x0) = 0 →
    k (x2 / (8 : Int32)) w))
set_option maxHeartbeats 4000000 in
set_option maxRecDepth 100000 in
theorem mX10_keyOf_J64 {k : Int32 → zW → Prop} {g2 : Int64 → Int32 → zW → Prop} (X : zCx p s m args meth c cX10_keyOf 6 RX10 (some .int)) (hr : zRm R 4 cells slots) (hQ : zRetI p l e R s m args below meth c cells slots Q D dA true ad0 al0 ad al cX10_keyOf k) (hg2 : ∀ (x0 : Int64) (x2 : Int32) (w : zW) (H : Heap) (locs : List Loc) (ls : Array Slot), g2 x0 x2 w → zSt D dA true ad0 al0 ad al w s H locs → lv_has ls 6 [(0, .long x0), (2, .int x2)] → W p l e R s m args below meth c H locs cells slots Q (F0 m 2 ls [])) {x0 : Int64} {x2 : Int32} {x3 : Int64} {w : zW} {H : Heap} {locs : List Loc} {ls : Array Slot} (hf : fX10_keyOf_J64 k g2 x0 x2 x3 w) (hR : zSt D dA true ad0 al0 ad al w s H locs) (hl : lv_has ls 6 [(0, .long x0), (2, .int x2), (3, .long x3)]) : W p l e R s m args below meth c H locs cells slots Q (F0 m 64 ls []) := by
  have hx := X.1
  have hb := X.2.1
  have hml := X.2.2.1
  have hown := X.2.2.2.1
  have hts := X.2.2.2.2.1
  unfold fX10_keyOf_J64 at hf
  refine lv_lload_n hx hb dX10_keyOf_64 rfl (lv_at hl 2 rfl) ?_
  refine lv_lload_n hx hb dX10_keyOf_65 rfl (lv_at hl 0 rfl) ?_
  refine W.lcmp hx hb dX10_keyOf_66 ?_
  refine lv_if_ne (tgt := 75) hx hb dX10_keyOf_67 (by decide) (fun c4 => ?_) (fun c4 => ?_)
  · replace hf := hf.1 c4
    refine lv_iinc (v := x2 + (8 : Int32)) (lv' := [(2, .int (x2 + (8 : Int32))), (0, .long x0), (3, .long x3)]) hx hb dX10_keyOf_75 hl (k := 1) rfl rfl (by decide) rfl (fun ls hl => ?_)
    refine lv_goto (tgt := 2) hx hb dX10_keyOf_78 (by decide) ?_
    exact hg2 x0 (x2 + (8 : Int32)) w _ _ _ hf hR (lv_sub hl [1, 0] rfl)
  · replace hf := hf.2 c4
    refine lv_iload_n hx hb dX10_keyOf_70 rfl (lv_at hl 1 rfl) ?_
    refine lv_bipush (v := (8 : Int32)) hx hb dX10_keyOf_71 (by decide) ?_
    refine lv_idiv hx hb dX10_keyOf_73 (by decide) ?_
    exact hQ _ _ _ _ _ _ hf hR dX10_keyOf_74
def fX10_keyOf_L19 (k : Int32 → zW → Prop) (g2 : Int64 → Int32 → zW → Prop) : Nat → Int64 → Int32 → Int64 → Int32 → zW → Prop
  | 0 => fun _ _ _ _ _ => False
  | n + 1 => fun x0 x2 x3 x5 w =>
    (((x2 + (8 : Int32)) ≤ x5 →
      fX10_keyOf_J64 k g2 x0 x2 x3 w) ∧
     (¬ (x2 + (8 : Int32)) ≤ x5 →
      fJ0_charAt_5068e 1 x5 w (fun r5 w5 =>
      ((r5 = (32 : Int32) →
        fX10_keyOf_J64 k g2 x0 x2 x3 w5) ∧
       (¬ r5 = (32 : Int32) →
        fJ0_charAt_5068e 1 x5 w5 (fun r7 w7 =>
        fX10_valueOf r7 w7 (fun r8 w8 =>
        ∀ v9 : Int64, v9 = (x3 * (32 : Int64)) + r8.toInt64 →
        fX10_keyOf_L19 k g2 n x0 x2 v9 (x5 + (1 : Int32)) w8)))))))
set_option maxHeartbeats 4000000 in
set_option maxRecDepth 100000 in
theorem mX10_keyOf_L19 {k : Int32 → zW → Prop} {g2 : Int64 → Int32 → zW → Prop} (X : zCx p s m args meth c cX10_keyOf 6 RX10 (some .int)) (hr : zRm R 4 cells slots) (hQ : zRetI p l e R s m args below meth c cells slots Q D dA true ad0 al0 ad al cX10_keyOf k) (hg2 : ∀ (x0 : Int64) (x2 : Int32) (w : zW) (H : Heap) (locs : List Loc) (ls : Array Slot), g2 x0 x2 w → zSt D dA true ad0 al0 ad al w s H locs → lv_has ls 6 [(0, .long x0), (2, .int x2)] → W p l e R s m args below meth c H locs cells slots Q (F0 m 2 ls [])) : ∀ (n : Nat) (x0 : Int64) (x2 : Int32) (x3 : Int64) (x5 : Int32) (w : zW) (H : Heap) (locs : List Loc) (ls : Array Slot), fX10_keyOf_L19 k g2 n x0 x2 x3 x5 w → zSt D dA true ad0 al0 ad al w s H locs → lv_has ls 6 [(0, .long x0), (2, .int x2), (3, .long x3), (5, .int x5)] → W p l e R s m args below meth c H locs cells slots Q (F0 m 19 ls []) := by
  intro n
  induction n with
  | zero => exact fun _ _ _ _ _ _ _ _ hf => hf.elim
  | succ n ih =>
    intro x0 x2 x3 x5 w H locs ls hf hR hl
    have hx := X.1
    have hb := X.2.1
    have hml := X.2.2.1
    have hown := X.2.2.2.1
    have hts := X.2.2.2.2.1
    rw [fX10_keyOf_L19] at hf
    refine lv_iload hx hb dX10_keyOf_19 (lv_at hl 3 rfl) ?_
    refine lv_iload_n hx hb dX10_keyOf_21 rfl (lv_at hl 1 rfl) ?_
    refine lv_bipush (v := (8 : Int32)) hx hb dX10_keyOf_22 (by decide) ?_
    refine lv_iadd hx hb dX10_keyOf_24 ?_
    refine lv_icmp_ge (tgt := 64) hx hb dX10_keyOf_25 (by decide) (fun c3 => ?_) (fun c3 => ?_)
    · replace hf := hf.1 c3
      exact mX10_keyOf_J64 X hr hQ hg2 hf hR (lv_sub hl [0, 1, 2] rfl)
    · replace hf := hf.2 c3
      refine va_ldcS hx hb hown hR.2.2.2.2.1.2.2.1 dX10_keyOf_28 ?_
      refine lv_iload hx hb dX10_keyOf_30 (lv_at hl 3 rfl) ?_
      refine z_callTI (fr1 := 3) (j := 1) (As := [.int x5]) (rest := []) X (hr.le (by decide)) hR zy_J0_charAt_5068e zq_403 (by decide) rfl (mJ0_charAt_5068e (by decide) hf) rfl hl (Nat.le_of_ble_eq_true rfl) dX10_keyOf_32 rfl (fun r5 w5 H locs hf hR => ?_)
      refine lv_bipush (v := (32 : Int32)) hx hb dX10_keyOf_35 (by decide) ?_
      refine lv_icmp_eq (tgt := 64) hx hb dX10_keyOf_37 (by decide) (fun c6 => ?_) (fun c6 => ?_)
      · replace hf := hf.1 c6
        exact mX10_keyOf_J64 X hr hQ hg2 hf hR (lv_sub hl [0, 1, 2] rfl)
      · replace hf := hf.2 c6
        refine lv_lload_n hx hb dX10_keyOf_40 rfl (lv_at hl 2 rfl) ?_
        refine lv_ldc2 (v := (32 : Int64)) hx hb hown (hts _ zq_401) dX10_keyOf_41 ?_
        refine lv_lmul hx hb dX10_keyOf_44 ?_
        refine va_ldcS hx hb hown hR.2.2.2.2.1.2.2.1 dX10_keyOf_45 ?_
        refine lv_iload hx hb dX10_keyOf_47 (lv_at hl 3 rfl) ?_
        refine z_callTI (fr1 := 3) (j := 1) (As := [.int x5]) (rest := [.long (x3 * (32 : Int64))]) X (hr.le (by decide)) hR zy_J0_charAt_5068e zq_403 (by decide) rfl (mJ0_charAt_5068e (by decide) hf) rfl hl (Nat.le_of_ble_eq_true rfl) dX10_keyOf_49 rfl (fun r7 w7 H locs hf hR => ?_)
        refine z_callSI (fr1 := 0) (As := [.int r7]) (rest := [.long (x3 * (32 : Int64))]) X (hr.le (by decide)) hR zy_X10_valueOf zq_395 (mX10_valueOf  hf) rfl hl (Nat.le_of_ble_eq_true rfl) dX10_keyOf_52 rfl (fun r8 w8 H locs hf hR => ?_)
        refine lv_i2l hx hb dX10_keyOf_55 rfl ?_
        refine lv_ladd hx hb dX10_keyOf_56 ?_
        refine lv_topl (fun v9 hv9 => ?_)
        replace hf := hf v9 hv9
        refine lv_lstore_n (lv' := [(3, .long v9), (0, .long x0), (2, .int x2), (5, .int x5)]) hx hb dX10_keyOf_57 rfl hl (by decide) rfl (fun ls hl => ?_)
        refine lv_iinc (v := x5 + (1 : Int32)) (lv' := [(5, .int (x5 + (1 : Int32))), (3, .long v9), (0, .long x0), (2, .int x2)]) hx hb dX10_keyOf_58 hl (k := 3) rfl rfl (by decide) rfl (fun ls hl => ?_)
        refine lv_goto (tgt := 19) hx hb dX10_keyOf_61 (by decide) ?_
        exact ih x0 x2 v9 (x5 + (1 : Int32)) w8 _ _ _ hf hR (lv_sub hl [2, 3, 1, 0] rfl)
def fX10_keyOf_L2 (k : Int32 → zW → Prop) : Nat → Int64 → Int32 → zW → Prop
  | 0 => fun _ _ _ => False
  | n + 1 => fun x0 x2 w =>
    fJ0_length_8abf5 1 w (fun r1 w1 =>
    ((r1 < (x2 + (8 : Int32)) →
      k (-1 : Int32) w1) ∧
     (¬ r1 < (x2 + (8 : Int32)) →
      ∃ n9, fX10_keyOf_L19 k (fX10_keyOf_L2 k n) n9 x0 x2 (0 : Int64) x2 w1)))
set_option maxHeartbeats 4000000 in
set_option maxRecDepth 100000 in
theorem mX10_keyOf_L2 {k : Int32 → zW → Prop} (X : zCx p s m args meth c cX10_keyOf 6 RX10 (some .int)) (hr : zRm R 4 cells slots) (hQ : zRetI p l e R s m args below meth c cells slots Q D dA true ad0 al0 ad al cX10_keyOf k)  : ∀ (n : Nat) (x0 : Int64) (x2 : Int32) (w : zW) (H : Heap) (locs : List Loc) (ls : Array Slot), fX10_keyOf_L2 k n x0 x2 w → zSt D dA true ad0 al0 ad al w s H locs → lv_has ls 6 [(0, .long x0), (2, .int x2)] → W p l e R s m args below meth c H locs cells slots Q (F0 m 2 ls []) := by
  intro n
  induction n with
  | zero => exact fun _ _ _ _ _ _ hf => hf.elim
  | succ n ih =>
    intro x0 x2 w H locs ls hf hR hl
    have hx := X.1
    have hb := X.2.1
    have hml := X.2.2.1
    have hown := X.2.2.2.1
    have hts := X.2.2.2.2.1
    rw [fX10_keyOf_L2] at hf
    refine lv_iload_n hx hb dX10_keyOf_2 rfl (lv_at hl 1 rfl) ?_
    refine lv_bipush (v := (8 : Int32)) hx hb dX10_keyOf_3 (by decide) ?_
    refine lv_iadd hx hb dX10_keyOf_5 ?_
    refine va_ldcS hx hb hown hR.2.2.2.2.1.2.2.1 dX10_keyOf_6 ?_
    refine z_callTI (fr1 := 1) (j := 1) (As := []) (rest := [.int (x2 + (8 : Int32))]) X (hr.le (by decide)) hR zy_J0_length_8abf5 zq_402 (by decide) rfl (mJ0_length_8abf5 (by decide) hf) rfl hl (Nat.le_of_ble_eq_true rfl) dX10_keyOf_8 rfl (fun r1 w1 H locs hf hR => ?_)
    refine lv_icmp_gt (tgt := 81) hx hb dX10_keyOf_11 (by decide) (fun c2 => ?_) (fun c2 => ?_)
    · replace hf := hf.1 c2
      refine lv_iconst (v := (-1 : Int32)) hx hb dX10_keyOf_81 (by decide) ?_
      exact hQ _ _ _ _ _ _ hf hR dX10_keyOf_82
    · replace hf := hf.2 c2
      refine lv_lconst (v := (0 : Int64)) hx hb dX10_keyOf_14 (by decide) ?_
      refine lv_lstore_n (lv' := [(3, .long (0 : Int64)), (0, .long x0), (2, .int x2)]) hx hb dX10_keyOf_15 rfl hl (by decide) rfl (fun ls hl => ?_)
      refine lv_iload_n hx hb dX10_keyOf_16 rfl (lv_at hl 2 rfl) ?_
      refine lv_istore (lv' := [(5, .int x2), (3, .long (0 : Int64)), (0, .long x0), (2, .int x2)]) hx hb dX10_keyOf_17 hl (by decide) rfl (fun ls hl => ?_)
      obtain ⟨n9, hf⟩ := hf
      exact mX10_keyOf_L19 X hr hQ ih n9 x0 x2 (0 : Int64) x2 w1 _ _ _ hf hR (lv_sub hl [2, 3, 1, 0] rfl)
def fX10_keyOf (x0 : Int64) (w : zW) (k : Int32 → zW → Prop) : Prop :=
  ∃ n9, fX10_keyOf_L2 k n9 x0 (0 : Int32) w
set_option maxHeartbeats 4000000 in
set_option maxRecDepth 100000 in
theorem mX10_keyOf {l : Launch} {D : va_G} {dA : Nat → ClassId} {ad : Nat → Nat} {al : Nat → Prop} {w : zW} {k : Int32 → zW → Prop} {x0 : Int64}   (hf : fX10_keyOf x0 w k) : zmetI l yX10_keyOf cX10_keyOf 6 (some .int) 4 [.long x0] D dA true ad al w k := by
  refine zmetI_of (by decide) (Nat.le_of_ble_eq_true rfl) ?_
  intro p e R s m below meth c Q H ls args locs cells slots X hr hQ hR hl
  have hx := X.1
  have hb := X.2.1
  have hml := X.2.2.1
  have hown := X.2.2.2.1
  have hts := X.2.2.2.2.1
  unfold fX10_keyOf at hf
  have hl : lv_has ls 6 [(0, .long x0)] := hl
  refine lv_iconst (v := (0 : Int32)) hx hb dX10_keyOf_0 (by decide) ?_
  refine lv_istore_n (lv' := [(2, .int (0 : Int32)), (0, .long x0)]) hx hb dX10_keyOf_1 rfl hl (by decide) rfl (fun ls hl => ?_)
  obtain ⟨n9, hf⟩ := hf
  exact mX10_keyOf_L2 X hr hQ  n9 x0 (0 : Int32) w _ _ _ hf hR (lv_sub hl [1, 0] rfl)
/-! X10_kindOf -/
def fX10_kindOf_J28 (k : Int32 → zW → Prop) (x0 : Int32) (w : zW) : Prop :=
  fJ0_indexOf_0f7a4 0 x0 w (fun r3 w3 =>
  ∀ v4 : Int32, v4 = (if r3 < 0 then (4 : Int32) else (3 : Int32)) →
  k v4 w3)
set_option maxHeartbeats 4000000 in
set_option maxRecDepth 100000 in
theorem mX10_kindOf_J28 {k : Int32 → zW → Prop} (X : zCx p s m args meth c cX10_kindOf 1 RX10 (some .int)) (hr : zRm R 4 cells slots) (hQ : zRetI p l e R s m args below meth c cells slots Q D dA true ad0 al0 ad al cX10_kindOf k)  {x0 : Int32} {w : zW} {H : Heap} {locs : List Loc} {ls : Array Slot} (hf : fX10_kindOf_J28 k x0 w) (hR : zSt D dA true ad0 al0 ad al w s H locs) (hl : lv_has ls 1 [(0, .int x0)]) : W p l e R s m args below meth c H locs cells slots Q (F0 m 28 ls []) := by
  have hx := X.1
  have hb := X.2.1
  have hml := X.2.2.1
  have hown := X.2.2.2.1
  have hts := X.2.2.2.2.1
  unfold fX10_kindOf_J28 at hf
  refine va_ldcS hx hb hown hR.2.2.2.2.1.2.1 dX10_kindOf_28 ?_
  refine lv_iload_n hx hb dX10_kindOf_30 rfl (lv_at hl 0 rfl) ?_
  refine z_callTI (fr1 := 3) (j := 0) (As := [.int x0]) (rest := []) X (hr.le (by decide)) hR zy_J0_indexOf_0f7a4 zq_306 (by decide) rfl (mJ0_indexOf_0f7a4 (by decide) hf) rfl hl (Nat.le_of_ble_eq_true rfl) dX10_kindOf_31 rfl (fun r3 w3 H locs hf hR => ?_)
  have kJ4 : ∀ v4 : Int32, v4 = (if r3 < 0 then (4 : Int32) else (3 : Int32)) → W p l e R s m args below meth c H locs cells slots Q (F0 m 42 ls (.int v4 :: [])) := by
    intro v4 hv4
    replace hf := hf v4 hv4
    exact hQ _ _ _ _ _ _ hf hR dX10_kindOf_42
  refine lv_if_lt (tgt := 41) hx hb dX10_kindOf_34 (by decide) (fun c4 => ?_) (fun c4 => ?_)
  · refine lv_iconst (v := (4 : Int32)) hx hb dX10_kindOf_41 (by decide) ?_
    exact kJ4 _ (if_pos c4).symm
  · refine lv_iconst (v := (3 : Int32)) hx hb dX10_kindOf_37 (by decide) ?_
    refine lv_goto (tgt := 42) hx hb dX10_kindOf_38 (by decide) ?_
    exact kJ4 _ (if_neg c4).symm
def fX10_kindOf_J14 (k : Int32 → zW → Prop) (x0 : Int32) (w : zW) : Prop :=
  ((x0 < (48 : Int32) →
    fX10_kindOf_J28 k x0 w) ∧
   (¬ x0 < (48 : Int32) →
    (((57 : Int32) < x0 →
      fX10_kindOf_J28 k x0 w) ∧
     (¬ (57 : Int32) < x0 →
      k (2 : Int32) w))))
set_option maxHeartbeats 4000000 in
set_option maxRecDepth 100000 in
theorem mX10_kindOf_J14 {k : Int32 → zW → Prop} (X : zCx p s m args meth c cX10_kindOf 1 RX10 (some .int)) (hr : zRm R 4 cells slots) (hQ : zRetI p l e R s m args below meth c cells slots Q D dA true ad0 al0 ad al cX10_kindOf k)  {x0 : Int32} {w : zW} {H : Heap} {locs : List Loc} {ls : Array Slot} (hf : fX10_kindOf_J14 k x0 w) (hR : zSt D dA true ad0 al0 ad al w s H locs) (hl : lv_has ls 1 [(0, .int x0)]) : W p l e R s m args below meth c H locs cells slots Q (F0 m 14 ls []) := by
  have hx := X.1
  have hb := X.2.1
  have hml := X.2.2.1
  have hown := X.2.2.2.1
  have hts := X.2.2.2.2.1
  unfold fX10_kindOf_J14 at hf
  refine lv_iload_n hx hb dX10_kindOf_14 rfl (lv_at hl 0 rfl) ?_
  refine lv_bipush (v := (48 : Int32)) hx hb dX10_kindOf_15 (by decide) ?_
  refine lv_icmp_lt (tgt := 28) hx hb dX10_kindOf_17 (by decide) (fun c2 => ?_) (fun c2 => ?_)
  · replace hf := hf.1 c2
    exact mX10_kindOf_J28 X hr hQ  hf hR (lv_sub hl [0] rfl)
  · replace hf := hf.2 c2
    refine lv_iload_n hx hb dX10_kindOf_20 rfl (lv_at hl 0 rfl) ?_
    refine lv_bipush (v := (57 : Int32)) hx hb dX10_kindOf_21 (by decide) ?_
    refine lv_icmp_gt (tgt := 28) hx hb dX10_kindOf_23 (by decide) (fun c5 => ?_) (fun c5 => ?_)
    · replace hf := hf.1 c5
      exact mX10_kindOf_J28 X hr hQ  hf hR (lv_sub hl [0] rfl)
    · replace hf := hf.2 c5
      refine lv_iconst (v := (2 : Int32)) hx hb dX10_kindOf_26 (by decide) ?_
      exact hQ _ _ _ _ _ _ hf hR dX10_kindOf_27
def fX10_kindOf (x0 : Int32) (w : zW) (k : Int32 → zW → Prop) : Prop :=
  ((x0 < (97 : Int32) →
    fX10_kindOf_J14 k x0 w) ∧
   (¬ x0 < (97 : Int32) →
    (((122 : Int32) < x0 →
      fX10_kindOf_J14 k x0 w) ∧
     (¬ (122 : Int32) < x0 →
      k (1 : Int32) w))))
set_option maxHeartbeats 4000000 in
set_option maxRecDepth 100000 in
theorem mX10_kindOf {l : Launch} {D : va_G} {dA : Nat → ClassId} {ad : Nat → Nat} {al : Nat → Prop} {w : zW} {k : Int32 → zW → Prop} {x0 : Int32}   (hf : fX10_kindOf x0 w k) : zmetI l yX10_kindOf cX10_kindOf 1 (some .int) 4 [.int x0] D dA true ad al w k := by
  refine zmetI_of (by decide) (Nat.le_of_ble_eq_true rfl) ?_
  intro p e R s m below meth c Q H ls args locs cells slots X hr hQ hR hl
  have hx := X.1
  have hb := X.2.1
  have hml := X.2.2.1
  have hown := X.2.2.2.1
  have hts := X.2.2.2.2.1
  unfold fX10_kindOf at hf
  have hl : lv_has ls 1 [(0, .int x0)] := hl
  refine lv_iload_n hx hb dX10_kindOf_0 rfl (lv_at hl 0 rfl) ?_
  refine lv_bipush (v := (97 : Int32)) hx hb dX10_kindOf_1 (by decide) ?_
  refine lv_icmp_lt (tgt := 14) hx hb dX10_kindOf_3 (by decide) (fun c1 => ?_) (fun c1 => ?_)
  · replace hf := hf.1 c1
    exact mX10_kindOf_J14 X hr hQ  hf hR (lv_sub hl [0] rfl)
  · replace hf := hf.2 c1
    refine lv_iload_n hx hb dX10_kindOf_6 rfl (lv_at hl 0 rfl) ?_
    refine lv_bipush (v := (122 : Int32)) hx hb dX10_kindOf_7 (by decide) ?_
    refine lv_icmp_gt (tgt := 14) hx hb dX10_kindOf_9 (by decide) (fun c6 => ?_) (fun c6 => ?_)
    · replace hf := hf.1 c6
      exact mX10_kindOf_J14 X hr hQ  hf hR (lv_sub hl [0] rfl)
    · replace hf := hf.2 c6
      refine lv_iconst (v := (1 : Int32)) hx hb dX10_kindOf_12 (by decide) ?_
      exact hQ _ _ _ _ _ _ hf hR dX10_kindOf_13
/-! X10_next -/
def fX10_next_J90 (k : zW → Prop)  (w : zW) : Prop :=
  ∀ w5 : zW, w5 = sI w 2 2 (0 : Int32) →
  k w5
set_option maxHeartbeats 4000000 in
set_option maxRecDepth 100000 in
theorem mX10_next_J90 {k : zW → Prop} (X : zCx p s m args meth c cX10_next 4 RX10 none) (hr : zRm R 5 cells slots) (hQ : zRetV p l e R s m args below meth c cells slots Q D dA true ad0 al0 ad al cX10_next k)   {w : zW} {H : Heap} {locs : List Loc} {ls : Array Slot} (hf : fX10_next_J90 k  w) (hR : zSt D dA true ad0 al0 ad al w s H locs) (hl : lv_has ls 4 [(0, .ref (ad 2))]) : W p l e R s m args below meth c H locs cells slots Q (F0 m 90 ls []) := by
  have hx := X.1
  have hb := X.2.1
  have hml := X.2.2.1
  have hown := X.2.2.2.1
  have hts := X.2.2.2.2.1
  unfold fX10_next_J90 at hf
  refine lv_aload_n hx hb dX10_next_90 rfl (lv_at hl 0 rfl) ?_
  refine lv_iconst (v := (0 : Int32)) hx hb dX10_next_91 (by decide) ?_
  refine z_putI X hR (zlit hR zf_2) zs_2 (by decide) zfp_X10_34 rfl dX10_next_92 (fun H locs hR => ?_)
  obtain ⟨w5, hw5⟩ : ∃ z : zW, z = sI w 2 2 (0 : Int32) := ⟨_, rfl⟩
  rw [← hw5] at hR
  replace hf := hf w5 hw5
  exact hQ _ _ _ _ _ hf hR dX10_next_95
def fX10_next_J257 (k : zW → Prop) (x1 : Int64) (x3 : Int32) (t0 : Int32) (t1 : Int32) (w : zW) : Prop :=
  ((t1 ≤ t0 →
    ((x3 = 0 →
      ∀ w20 : zW, w20 = sI w 2 4 x1.toInt32 →
      k w20) ∧
     (¬ x3 = 0 →
      ∀ w21 : zW, w21 = sL w 2 7 x1 →
      fX10_keyOf x1 w21 (fun r22 w22 =>
      ∀ w23 : zW, w23 = sI w22 2 5 r22 →
      k w23)))) ∧
   (¬ t1 ≤ t0 →
    ∀ w24 : zW, w24 = sI w 2 2 (4 : Int32) →
    k w24))
set_option maxHeartbeats 4000000 in
set_option maxRecDepth 100000 in
theorem mX10_next_J257 {k : zW → Prop} (X : zCx p s m args meth c cX10_next 4 RX10 none) (hr : zRm R 5 cells slots) (hQ : zRetV p l e R s m args below meth c cells slots Q D dA true ad0 al0 ad al cX10_next k)  {x1 : Int64} {x3 : Int32} {t0 : Int32} {t1 : Int32} {w : zW} {H : Heap} {locs : List Loc} {ls : Array Slot} (hf : fX10_next_J257 k x1 x3 t0 t1 w) (hR : zSt D dA true ad0 al0 ad al w s H locs) (hl : lv_has ls 4 [(0, .ref (ad 2)), (1, .long x1), (3, .int x3)]) : W p l e R s m args below meth c H locs cells slots Q (F0 m 257 ls [.int t0, .int t1]) := by
  have hx := X.1
  have hb := X.2.1
  have hml := X.2.2.1
  have hown := X.2.2.2.1
  have hts := X.2.2.2.2.1
  unfold fX10_next_J257 at hf
  refine lv_icmp_le (tgt := 268) hx hb dX10_next_257 (by decide) (fun c18 => ?_) (fun c18 => ?_)
  · replace hf := hf.1 c18
    refine lv_iload_n hx hb dX10_next_268 rfl (lv_at hl 2 rfl) ?_
    refine lv_if_eq (tgt := 288) hx hb dX10_next_269 (by decide) (fun c19 => ?_) (fun c19 => ?_)
    · replace hf := hf.1 c19
      refine lv_aload_n hx hb dX10_next_288 rfl (lv_at hl 0 rfl) ?_
      refine lv_lload_n hx hb dX10_next_289 rfl (lv_at hl 1 rfl) ?_
      refine lv_l2i hx hb dX10_next_290 rfl ?_
      refine z_putI X hR (zlit hR zf_2) zs_2 (by decide) zfp_X10_56 rfl dX10_next_291 (fun H locs hR => ?_)
      obtain ⟨w20, hw20⟩ : ∃ z : zW, z = sI w 2 4 x1.toInt32 := ⟨_, rfl⟩
      rw [← hw20] at hR
      replace hf := hf w20 hw20
      exact hQ _ _ _ _ _ hf hR dX10_next_294
    · replace hf := hf.2 c19
      refine lv_aload_n hx hb dX10_next_272 rfl (lv_at hl 0 rfl) ?_
      refine lv_lload_n hx hb dX10_next_273 rfl (lv_at hl 1 rfl) ?_
      refine z_putL X hR (zlit hR zf_2) zs_2 (by decide) zfp_X10_48 rfl dX10_next_274 (fun H locs hR => ?_)
      obtain ⟨w21, hw21⟩ : ∃ z : zW, z = sL w 2 7 x1 := ⟨_, rfl⟩
      rw [← hw21] at hR
      replace hf := hf w21 hw21
      refine lv_aload_n hx hb dX10_next_277 rfl (lv_at hl 0 rfl) ?_
      refine lv_lload_n hx hb dX10_next_278 rfl (lv_at hl 1 rfl) ?_
      refine z_callSI (fr1 := 4) (As := [.long x1]) (rest := [.ref (ad 2)]) X (hr.le (by decide)) hR zy_X10_keyOf zq_398 (mX10_keyOf  hf) rfl hl (Nat.le_of_ble_eq_true rfl) dX10_next_279 rfl (fun r22 w22 H locs hf hR => ?_)
      refine z_putI X hR (zlit hR zf_2) zs_2 (by decide) zfp_X10_31 rfl dX10_next_282 (fun H locs hR => ?_)
      obtain ⟨w23, hw23⟩ : ∃ z : zW, z = sI w22 2 5 r22 := ⟨_, rfl⟩
      rw [← hw23] at hR
      replace hf := hf w23 hw23
      refine lv_goto (tgt := 294) hx hb dX10_next_285 (by decide) ?_
      exact hQ _ _ _ _ _ hf hR dX10_next_294
  · replace hf := hf.2 c18
    refine lv_aload_n hx hb dX10_next_260 rfl (lv_at hl 0 rfl) ?_
    refine lv_iconst (v := (4 : Int32)) hx hb dX10_next_261 (by decide) ?_
    refine z_putI X hR (zlit hR zf_2) zs_2 (by decide) zfp_X10_34 rfl dX10_next_262 (fun H locs hR => ?_)
    obtain ⟨w24, hw24⟩ : ∃ z : zW, z = sI w 2 2 (4 : Int32) := ⟨_, rfl⟩
    rw [← hw24] at hR
    replace hf := hf w24 hw24
    refine lv_goto (tgt := 294) hx hb dX10_next_265 (by decide) ?_
    exact hQ _ _ _ _ _ hf hR dX10_next_294
def fX10_next_J238 (k : zW → Prop) (x1 : Int64) (x3 : Int32) (w : zW) : Prop :=
  ∀ v17 : Int32, v17 = (if x3 = 0 then (4 : Int32) else (8 : Int32)) →
  fX10_next_J257 k x1 x3 v17 ((gI w 2 9) - (gI w 2 3)) w
set_option maxHeartbeats 4000000 in
set_option maxRecDepth 100000 in
theorem mX10_next_J238 {k : zW → Prop} (X : zCx p s m args meth c cX10_next 4 RX10 none) (hr : zRm R 5 cells slots) (hQ : zRetV p l e R s m args below meth c cells slots Q D dA true ad0 al0 ad al cX10_next k)  {x1 : Int64} {x3 : Int32} {w : zW} {H : Heap} {locs : List Loc} {ls : Array Slot} (hf : fX10_next_J238 k x1 x3 w) (hR : zSt D dA true ad0 al0 ad al w s H locs) (hl : lv_has ls 4 [(0, .ref (ad 2)), (1, .long x1), (3, .int x3)]) : W p l e R s m args below meth c H locs cells slots Q (F0 m 238 ls []) := by
  have hx := X.1
  have hb := X.2.1
  have hml := X.2.2.1
  have hown := X.2.2.2.1
  have hts := X.2.2.2.2.1
  unfold fX10_next_J238 at hf
  refine lv_aload_n hx hb dX10_next_238 rfl (lv_at hl 0 rfl) ?_
  refine z_getI X hR (zlit hR zf_2) zs_2 (by decide) zfd_X10_19 rfl dX10_next_239 ?_
  refine lv_aload_n hx hb dX10_next_242 rfl (lv_at hl 0 rfl) ?_
  refine z_getI X hR (zlit hR zf_2) zs_2 (by decide) zfd_X10_28 rfl dX10_next_243 ?_
  refine lv_isub hx hb dX10_next_246 ?_
  refine lv_iload_n hx hb dX10_next_247 rfl (lv_at hl 2 rfl) ?_
  have kJ17 : ∀ v17 : Int32, v17 = (if x3 = 0 then (4 : Int32) else (8 : Int32)) → W p l e R s m args below meth c H locs cells slots Q (F0 m 257 ls (.int v17 :: .int ((gI w 2 9) - (gI w 2 3)) :: [])) := by
    intro v17 hv17
    replace hf := hf v17 hv17
    exact mX10_next_J257 X hr hQ  hf hR (lv_sub hl [0, 1, 2] rfl)
  refine lv_if_eq (tgt := 256) hx hb dX10_next_248 (by decide) (fun c17 => ?_) (fun c17 => ?_)
  · refine lv_iconst (v := (4 : Int32)) hx hb dX10_next_256 (by decide) ?_
    exact kJ17 _ (if_pos c17).symm
  · refine lv_bipush (v := (8 : Int32)) hx hb dX10_next_251 (by decide) ?_
    refine lv_goto (tgt := 257) hx hb dX10_next_253 (by decide) ?_
    exact kJ17 _ (if_neg c17).symm
def fX10_next_J208 (k : zW → Prop) (g166 : Int64 → Int32 → zW → Prop) (x3 : Int32) (t0 : Int32) (t1 : Int64) (w : zW) : Prop :=
  vp_in (gI w 2 9) 1000 ∧ 
  fX10_valueOf (gI w 3 (gI w 2 9).toNatClampNeg) w (fun r30 w30 =>
  ∀ v31 : Int64, v31 = (t1 * t0.toInt64) + r30.toInt64 →
  ∀ w32 : zW, w32 = sI w30 2 9 ((gI w30 2 9) + (1 : Int32)) →
  g166 v31 x3 w32)
set_option maxHeartbeats 4000000 in
set_option maxRecDepth 100000 in
theorem mX10_next_J208 {k : zW → Prop} {g166 : Int64 → Int32 → zW → Prop} (X : zCx p s m args meth c cX10_next 4 RX10 none) (hr : zRm R 5 cells slots) (hQ : zRetV p l e R s m args below meth c cells slots Q D dA true ad0 al0 ad al cX10_next k) (hg166 : ∀ (x1 : Int64) (x3 : Int32) (w : zW) (H : Heap) (locs : List Loc) (ls : Array Slot), g166 x1 x3 w → zSt D dA true ad0 al0 ad al w s H locs → lv_has ls 4 [(0, .ref (ad 2)), (1, .long x1), (3, .int x3)] → W p l e R s m args below meth c H locs cells slots Q (F0 m 166 ls [])) {x3 : Int32} {t0 : Int32} {t1 : Int64} {w : zW} {H : Heap} {locs : List Loc} {ls : Array Slot} (hf : fX10_next_J208 k g166 x3 t0 t1 w) (hR : zSt D dA true ad0 al0 ad al w s H locs) (hl : lv_has ls 4 [(0, .ref (ad 2)), (3, .int x3)]) : W p l e R s m args below meth c H locs cells slots Q (F0 m 208 ls [.int t0, .long t1]) := by
  have hx := X.1
  have hb := X.2.1
  have hml := X.2.2.1
  have hown := X.2.2.2.1
  have hts := X.2.2.2.2.1
  unfold fX10_next_J208 at hf
  refine lv_i2l hx hb dX10_next_208 rfl ?_
  refine lv_lmul hx hb dX10_next_209 ?_
  refine lv_aload_n hx hb dX10_next_210 rfl (lv_at hl 0 rfl) ?_
  refine z_getS X hR (zlit hR zf_2) zs_2 (by decide) zfd_X10_11 rfl (r := 3) (by decide +kernel) dX10_next_211 ?_
  refine lv_aload_n hx hb dX10_next_214 rfl (lv_at hl 0 rfl) ?_
  refine z_getI X hR (zlit hR zf_2) zs_2 (by decide) zfd_X10_19 rfl dX10_next_215 ?_
  obtain ⟨hb29, hf⟩ := hf
  refine z_cald X hR (zlit hR zf_3) zs_3 zl_3 hb29 dX10_next_218 ?_
  refine z_callSI (fr1 := 0) (As := [.int (gI w 3 (gI w 2 9).toNatClampNeg)]) (rest := [.long (t1 * t0.toInt64)]) X (hr.le (by decide)) hR zy_X10_valueOf zq_395 (mX10_valueOf  hf) rfl hl (Nat.le_of_ble_eq_true rfl) dX10_next_219 rfl (fun r30 w30 H locs hf hR => ?_)
  refine lv_i2l hx hb dX10_next_222 rfl ?_
  refine lv_ladd hx hb dX10_next_223 ?_
  refine lv_topl (fun v31 hv31 => ?_)
  replace hf := hf v31 hv31
  refine lv_lstore_n (lv' := [(1, .long v31), (0, .ref (ad 2)), (3, .int x3)]) hx hb dX10_next_224 rfl hl (by decide) rfl (fun ls hl => ?_)
  refine lv_aload_n hx hb dX10_next_225 rfl (lv_at hl 1 rfl) ?_
  refine lv_dup hx hb dX10_next_226 rfl ?_
  refine z_getI X hR (zlit hR zf_2) zs_2 (by decide) zfd_X10_19 rfl dX10_next_227 ?_
  refine lv_iconst (v := (1 : Int32)) hx hb dX10_next_230 (by decide) ?_
  refine lv_iadd hx hb dX10_next_231 ?_
  refine z_putI X hR (zlit hR zf_2) zs_2 (by decide) zfp_X10_19 rfl dX10_next_232 (fun H locs hR => ?_)
  obtain ⟨w32, hw32⟩ : ∃ z : zW, z = sI w30 2 9 ((gI w30 2 9) + (1 : Int32)) := ⟨_, rfl⟩
  rw [← hw32] at hR
  replace hf := hf w32 hw32
  refine lv_goto (tgt := 166) hx hb dX10_next_235 (by decide) ?_
  exact hg166 v31 x3 w32 _ _ _ hf hR (lv_sub hl [1, 0, 2] rfl)
def fX10_next_L166 (k : zW → Prop) : Nat → Int64 → Int32 → zW → Prop
  | 0 => fun _ _ _ => False
  | n + 1 => fun x1 x3 w =>
    (((gI w 2 1) ≤ (gI w 2 9) →
      fX10_next_J238 k x1 x3 w) ∧
     (¬ (gI w 2 1) ≤ (gI w 2 9) →
      vp_in (gI w 2 9) 1000 ∧ 
      fX10_kindOf (gI w 3 (gI w 2 9).toNatClampNeg) w (fun r26 w26 =>
      ((¬ r26 = (gI w26 2 2) →
        fX10_next_J238 k x1 x3 w26) ∧
       (r26 = (gI w26 2 2) →
        ∀ v28 : Int32, v28 = (if x3 = 0 then (10 : Int32) else (32 : Int32)) →
        fX10_next_J208 k (fX10_next_L166 k n) x3 v28 x1 w26)))))
set_option maxHeartbeats 4000000 in
set_option maxRecDepth 100000 in
theorem mX10_next_L166 {k : zW → Prop} (X : zCx p s m args meth c cX10_next 4 RX10 none) (hr : zRm R 5 cells slots) (hQ : zRetV p l e R s m args below meth c cells slots Q D dA true ad0 al0 ad al cX10_next k)  : ∀ (n : Nat) (x1 : Int64) (x3 : Int32) (w : zW) (H : Heap) (locs : List Loc) (ls : Array Slot), fX10_next_L166 k n x1 x3 w → zSt D dA true ad0 al0 ad al w s H locs → lv_has ls 4 [(0, .ref (ad 2)), (1, .long x1), (3, .int x3)] → W p l e R s m args below meth c H locs cells slots Q (F0 m 166 ls []) := by
  intro n
  induction n with
  | zero => exact fun _ _ _ _ _ _ hf => hf.elim
  | succ n ih =>
    intro x1 x3 w H locs ls hf hR hl
    have hx := X.1
    have hb := X.2.1
    have hml := X.2.2.1
    have hown := X.2.2.2.1
    have hts := X.2.2.2.2.1
    rw [fX10_next_L166] at hf
    refine lv_aload_n hx hb dX10_next_166 rfl (lv_at hl 0 rfl) ?_
    refine z_getI X hR (zlit hR zf_2) zs_2 (by decide) zfd_X10_19 rfl dX10_next_167 ?_
    refine lv_aload_n hx hb dX10_next_170 rfl (lv_at hl 0 rfl) ?_
    refine z_getI X hR (zlit hR zf_2) zs_2 (by decide) zfd_X10_15 rfl dX10_next_171 ?_
    refine lv_icmp_ge (tgt := 238) hx hb dX10_next_174 (by decide) (fun c16 => ?_) (fun c16 => ?_)
    · replace hf := hf.1 c16
      exact mX10_next_J238 X hr hQ  hf hR (lv_sub hl [0, 1, 2] rfl)
    · replace hf := hf.2 c16
      refine lv_aload_n hx hb dX10_next_177 rfl (lv_at hl 0 rfl) ?_
      refine z_getS X hR (zlit hR zf_2) zs_2 (by decide) zfd_X10_11 rfl (r := 3) (by decide +kernel) dX10_next_178 ?_
      refine lv_aload_n hx hb dX10_next_181 rfl (lv_at hl 0 rfl) ?_
      refine z_getI X hR (zlit hR zf_2) zs_2 (by decide) zfd_X10_19 rfl dX10_next_182 ?_
      obtain ⟨hb25, hf⟩ := hf
      refine z_cald X hR (zlit hR zf_3) zs_3 zl_3 hb25 dX10_next_185 ?_
      refine z_callSI (fr1 := 4) (As := [.int (gI w 3 (gI w 2 9).toNatClampNeg)]) (rest := []) X (hr.le (by decide)) hR zy_X10_kindOf zq_303 (mX10_kindOf  hf) rfl hl (Nat.le_of_ble_eq_true rfl) dX10_next_186 rfl (fun r26 w26 H locs hf hR => ?_)
      refine lv_aload_n hx hb dX10_next_189 rfl (lv_at hl 0 rfl) ?_
      refine z_getI X hR (zlit hR zf_2) zs_2 (by decide) zfd_X10_34 rfl dX10_next_190 ?_
      refine lv_icmp_ne (tgt := 238) hx hb dX10_next_193 (by decide) (fun c27 => ?_) (fun c27 => ?_)
      · replace hf := hf.1 c27
        exact mX10_next_J238 X hr hQ  hf hR (lv_sub hl [0, 1, 2] rfl)
      · replace hf := hf.2 c27
        refine lv_lload_n hx hb dX10_next_196 rfl (lv_at hl 1 rfl) ?_
        refine lv_iload_n hx hb dX10_next_197 rfl (lv_at hl 2 rfl) ?_
        have kJ28 : ∀ v28 : Int32, v28 = (if x3 = 0 then (10 : Int32) else (32 : Int32)) → W p l e R s m args below meth c H locs cells slots Q (F0 m 208 ls (.int v28 :: .long x1 :: [])) := by
          intro v28 hv28
          replace hf := hf v28 hv28
          exact mX10_next_J208 X hr hQ ih hf hR (lv_sub hl [0, 2] rfl)
        refine lv_if_eq (tgt := 206) hx hb dX10_next_198 (by decide) (fun c28 => ?_) (fun c28 => ?_)
        · refine lv_bipush (v := (10 : Int32)) hx hb dX10_next_206 (by decide) ?_
          exact kJ28 _ (if_pos c28).symm
        · refine lv_bipush (v := (32 : Int32)) hx hb dX10_next_201 (by decide) ?_
          refine lv_goto (tgt := 208) hx hb dX10_next_203 (by decide) ?_
          exact kJ28 _ (if_neg c28).symm
def fX10_next_J152 (k : zW → Prop) (x1 : Int64) (t0 : Int32) (w : zW) : Prop :=
  ((¬ t0 = 0 →
    ∃ n9, fX10_next_L166 k n9 x1 t0 w) ∧
   (t0 = 0 →
    (((gI w 2 2) = (2 : Int32) →
      ∃ n9, fX10_next_L166 k n9 x1 t0 w) ∧
     (¬ (gI w 2 2) = (2 : Int32) →
      k w))))
set_option maxHeartbeats 4000000 in
set_option maxRecDepth 100000 in
theorem mX10_next_J152 {k : zW → Prop} (X : zCx p s m args meth c cX10_next 4 RX10 none) (hr : zRm R 5 cells slots) (hQ : zRetV p l e R s m args below meth c cells slots Q D dA true ad0 al0 ad al cX10_next k)  {x1 : Int64} {t0 : Int32} {w : zW} {H : Heap} {locs : List Loc} {ls : Array Slot} (hf : fX10_next_J152 k x1 t0 w) (hR : zSt D dA true ad0 al0 ad al w s H locs) (hl : lv_has ls 4 [(0, .ref (ad 2)), (1, .long x1)]) : W p l e R s m args below meth c H locs cells slots Q (F0 m 152 ls [.int t0]) := by
  have hx := X.1
  have hb := X.2.1
  have hml := X.2.2.1
  have hown := X.2.2.2.1
  have hts := X.2.2.2.2.1
  unfold fX10_next_J152 at hf
  refine lv_istore_n (lv' := [(3, .int t0), (0, .ref (ad 2)), (1, .long x1)]) hx hb dX10_next_152 rfl hl (by decide) rfl (fun ls hl => ?_)
  refine lv_iload_n hx hb dX10_next_153 rfl (lv_at hl 0 rfl) ?_
  refine lv_if_ne (tgt := 166) hx hb dX10_next_154 (by decide) (fun c15 => ?_) (fun c15 => ?_)
  · replace hf := hf.1 c15
    obtain ⟨n9, hf⟩ := hf
    exact mX10_next_L166 X hr hQ  n9 x1 t0 w _ _ _ hf hR (lv_sub hl [1, 2, 0] rfl)
  · replace hf := hf.2 c15
    refine lv_aload_n hx hb dX10_next_157 rfl (lv_at hl 1 rfl) ?_
    refine z_getI X hR (zlit hR zf_2) zs_2 (by decide) zfd_X10_34 rfl dX10_next_158 ?_
    refine lv_iconst (v := (2 : Int32)) hx hb dX10_next_161 (by decide) ?_
    refine lv_icmp_eq (tgt := 166) hx hb dX10_next_162 (by decide) (fun c33 => ?_) (fun c33 => ?_)
    · replace hf := hf.1 c33
      obtain ⟨n9, hf⟩ := hf
      exact mX10_next_L166 X hr hQ  n9 x1 t0 w _ _ _ hf hR (lv_sub hl [1, 2, 0] rfl)
    · replace hf := hf.2 c33
      exact hQ _ _ _ _ _ hf hR dX10_next_165
def fX10_next_J59 (k : zW → Prop)  (w : zW) : Prop :=
  ∀ w2 : zW, w2 = sI w 2 3 (gI w 2 9) →
  ∀ w3 : zW, w3 = sI w2 2 5 (-1 : Int32) →
  (((gI w3 2 9) < 0 →
    fX10_next_J90 k  w3) ∧
   (¬ (gI w3 2 9) < 0 →
    (((gI w3 2 9) < (gI w3 2 1) →
      vp_in (gI w3 2 9) 1000 ∧ 
      zch (gI w3 3 (gI w3 2 9).toNatClampNeg) ∧
      ∀ w8 : zW, w8 = sI w3 2 6 (gI w3 3 (gI w3 2 9).toNatClampNeg) →
      fX10_kindOf (gI w8 2 6) w8 (fun r9 w9 =>
      ∀ w10 : zW, w10 = sI w9 2 2 r9 →
      fX10_valueOf (gI w10 2 6) w10 (fun r11 w11 =>
      ∀ v12 : Int64, v12 = r11.toInt64 →
      ∀ w13 : zW, w13 = sI w11 2 9 ((gI w11 2 9) + (1 : Int32)) →
      ∀ v14 : Int32, v14 = (if ¬ (gI w13 2 2) = (1 : Int32) then (0 : Int32) else (1 : Int32)) →
      fX10_next_J152 k v12 v14 w13))) ∧
     (¬ (gI w3 2 9) < (gI w3 2 1) →
      fX10_next_J90 k  w3))))
set_option maxHeartbeats 4000000 in
set_option maxRecDepth 100000 in
theorem mX10_next_J59 {k : zW → Prop} (X : zCx p s m args meth c cX10_next 4 RX10 none) (hr : zRm R 5 cells slots) (hQ : zRetV p l e R s m args below meth c cells slots Q D dA true ad0 al0 ad al cX10_next k)   {w : zW} {H : Heap} {locs : List Loc} {ls : Array Slot} (hf : fX10_next_J59 k  w) (hR : zSt D dA true ad0 al0 ad al w s H locs) (hl : lv_has ls 4 [(0, .ref (ad 2))]) : W p l e R s m args below meth c H locs cells slots Q (F0 m 59 ls []) := by
  have hx := X.1
  have hb := X.2.1
  have hml := X.2.2.1
  have hown := X.2.2.2.1
  have hts := X.2.2.2.2.1
  unfold fX10_next_J59 at hf
  refine lv_aload_n hx hb dX10_next_59 rfl (lv_at hl 0 rfl) ?_
  refine lv_aload_n hx hb dX10_next_60 rfl (lv_at hl 0 rfl) ?_
  refine z_getI X hR (zlit hR zf_2) zs_2 (by decide) zfd_X10_19 rfl dX10_next_61 ?_
  refine z_putI X hR (zlit hR zf_2) zs_2 (by decide) zfp_X10_28 rfl dX10_next_64 (fun H locs hR => ?_)
  obtain ⟨w2, hw2⟩ : ∃ z : zW, z = sI w 2 3 (gI w 2 9) := ⟨_, rfl⟩
  rw [← hw2] at hR
  replace hf := hf w2 hw2
  refine lv_aload_n hx hb dX10_next_67 rfl (lv_at hl 0 rfl) ?_
  refine lv_iconst (v := (-1 : Int32)) hx hb dX10_next_68 (by decide) ?_
  refine z_putI X hR (zlit hR zf_2) zs_2 (by decide) zfp_X10_31 rfl dX10_next_69 (fun H locs hR => ?_)
  obtain ⟨w3, hw3⟩ : ∃ z : zW, z = sI w2 2 5 (-1 : Int32) := ⟨_, rfl⟩
  rw [← hw3] at hR
  replace hf := hf w3 hw3
  refine lv_aload_n hx hb dX10_next_72 rfl (lv_at hl 0 rfl) ?_
  refine z_getI X hR (zlit hR zf_2) zs_2 (by decide) zfd_X10_19 rfl dX10_next_73 ?_
  refine lv_if_lt (tgt := 90) hx hb dX10_next_76 (by decide) (fun c4 => ?_) (fun c4 => ?_)
  · replace hf := hf.1 c4
    exact mX10_next_J90 X hr hQ  hf hR (lv_sub hl [0] rfl)
  · replace hf := hf.2 c4
    refine lv_aload_n hx hb dX10_next_79 rfl (lv_at hl 0 rfl) ?_
    refine z_getI X hR (zlit hR zf_2) zs_2 (by decide) zfd_X10_19 rfl dX10_next_80 ?_
    refine lv_aload_n hx hb dX10_next_83 rfl (lv_at hl 0 rfl) ?_
    refine z_getI X hR (zlit hR zf_2) zs_2 (by decide) zfd_X10_15 rfl dX10_next_84 ?_
    refine lv_icmp_lt (tgt := 96) hx hb dX10_next_87 (by decide) (fun c6 => ?_) (fun c6 => ?_)
    · replace hf := hf.1 c6
      refine lv_aload_n hx hb dX10_next_96 rfl (lv_at hl 0 rfl) ?_
      refine lv_aload_n hx hb dX10_next_97 rfl (lv_at hl 0 rfl) ?_
      refine z_getS X hR (zlit hR zf_2) zs_2 (by decide) zfd_X10_11 rfl (r := 3) (by decide +kernel) dX10_next_98 ?_
      refine lv_aload_n hx hb dX10_next_101 rfl (lv_at hl 0 rfl) ?_
      refine z_getI X hR (zlit hR zf_2) zs_2 (by decide) zfd_X10_19 rfl dX10_next_102 ?_
      obtain ⟨hb7, hf⟩ := hf
      refine z_cald X hR (zlit hR zf_3) zs_3 zl_3 hb7 dX10_next_105 ?_
      obtain ⟨hz8, hf⟩ := hf
      refine z_putC X hR (zlit hR zf_2) zs_2 (by decide) zfp_X10_37 rfl hz8 dX10_next_106 (fun H locs hR => ?_)
      obtain ⟨w8, hw8⟩ : ∃ z : zW, z = sI w3 2 6 (gI w3 3 (gI w3 2 9).toNatClampNeg) := ⟨_, rfl⟩
      rw [← hw8] at hR
      replace hf := hf w8 hw8
      refine lv_aload_n hx hb dX10_next_109 rfl (lv_at hl 0 rfl) ?_
      refine lv_aload_n hx hb dX10_next_110 rfl (lv_at hl 0 rfl) ?_
      refine z_getI X hR (zlit hR zf_2) zs_2 (by decide) zfd_X10_37 rfl dX10_next_111 ?_
      refine z_callSI (fr1 := 4) (As := [.int (gI w8 2 6)]) (rest := [.ref (ad 2)]) X (hr.le (by decide)) hR zy_X10_kindOf zq_303 (mX10_kindOf  hf) rfl hl (Nat.le_of_ble_eq_true rfl) dX10_next_114 rfl (fun r9 w9 H locs hf hR => ?_)
      refine z_putI X hR (zlit hR zf_2) zs_2 (by decide) zfp_X10_34 rfl dX10_next_117 (fun H locs hR => ?_)
      obtain ⟨w10, hw10⟩ : ∃ z : zW, z = sI w9 2 2 r9 := ⟨_, rfl⟩
      rw [← hw10] at hR
      replace hf := hf w10 hw10
      refine lv_aload_n hx hb dX10_next_120 rfl (lv_at hl 0 rfl) ?_
      refine z_getI X hR (zlit hR zf_2) zs_2 (by decide) zfd_X10_37 rfl dX10_next_121 ?_
      refine z_callSI (fr1 := 0) (As := [.int (gI w10 2 6)]) (rest := []) X (hr.le (by decide)) hR zy_X10_valueOf zq_395 (mX10_valueOf  hf) rfl hl (Nat.le_of_ble_eq_true rfl) dX10_next_124 rfl (fun r11 w11 H locs hf hR => ?_)
      refine lv_i2l hx hb dX10_next_127 rfl ?_
      refine lv_topl (fun v12 hv12 => ?_)
      replace hf := hf v12 hv12
      refine lv_lstore_n (lv' := [(1, .long v12), (0, .ref (ad 2))]) hx hb dX10_next_128 rfl hl (by decide) rfl (fun ls hl => ?_)
      refine lv_aload_n hx hb dX10_next_129 rfl (lv_at hl 1 rfl) ?_
      refine lv_dup hx hb dX10_next_130 rfl ?_
      refine z_getI X hR (zlit hR zf_2) zs_2 (by decide) zfd_X10_19 rfl dX10_next_131 ?_
      refine lv_iconst (v := (1 : Int32)) hx hb dX10_next_134 (by decide) ?_
      refine lv_iadd hx hb dX10_next_135 ?_
      refine z_putI X hR (zlit hR zf_2) zs_2 (by decide) zfp_X10_19 rfl dX10_next_136 (fun H locs hR => ?_)
      obtain ⟨w13, hw13⟩ : ∃ z : zW, z = sI w11 2 9 ((gI w11 2 9) + (1 : Int32)) := ⟨_, rfl⟩
      rw [← hw13] at hR
      replace hf := hf w13 hw13
      refine lv_aload_n hx hb dX10_next_139 rfl (lv_at hl 1 rfl) ?_
      refine z_getI X hR (zlit hR zf_2) zs_2 (by decide) zfd_X10_34 rfl dX10_next_140 ?_
      refine lv_iconst (v := (1 : Int32)) hx hb dX10_next_143 (by decide) ?_
      have kJ14 : ∀ v14 : Int32, v14 = (if ¬ (gI w13 2 2) = (1 : Int32) then (0 : Int32) else (1 : Int32)) → W p l e R s m args below meth c H locs cells slots Q (F0 m 152 ls (.int v14 :: [])) := by
        intro v14 hv14
        replace hf := hf v14 hv14
        exact mX10_next_J152 X hr hQ  hf hR (lv_sub hl [1, 0] rfl)
      refine lv_icmp_ne (tgt := 151) hx hb dX10_next_144 (by decide) (fun c14 => ?_) (fun c14 => ?_)
      · refine lv_iconst (v := (0 : Int32)) hx hb dX10_next_151 (by decide) ?_
        exact kJ14 _ (if_pos c14).symm
      · refine lv_iconst (v := (1 : Int32)) hx hb dX10_next_147 (by decide) ?_
        refine lv_goto (tgt := 152) hx hb dX10_next_148 (by decide) ?_
        exact kJ14 _ (if_neg (fun h9 => h9 c14)).symm
    · replace hf := hf.2 c6
      exact mX10_next_J90 X hr hQ  hf hR (lv_sub hl [0] rfl)
def fX10_next_J46 (k : zW → Prop) (g0 : zW → Prop)  (w : zW) : Prop :=
  ∀ w37 : zW, w37 = sI w 2 9 ((gI w 2 9) + (1 : Int32)) →
  g0  w37
set_option maxHeartbeats 4000000 in
set_option maxRecDepth 100000 in
theorem mX10_next_J46 {k : zW → Prop} {g0 : zW → Prop} (X : zCx p s m args meth c cX10_next 4 RX10 none) (hr : zRm R 5 cells slots) (hQ : zRetV p l e R s m args below meth c cells slots Q D dA true ad0 al0 ad al cX10_next k) (hg0 : ∀  (w : zW) (H : Heap) (locs : List Loc) (ls : Array Slot), g0  w → zSt D dA true ad0 al0 ad al w s H locs → lv_has ls 4 [(0, .ref (ad 2))] → W p l e R s m args below meth c H locs cells slots Q (F0 m 0 ls []))  {w : zW} {H : Heap} {locs : List Loc} {ls : Array Slot} (hf : fX10_next_J46 k g0  w) (hR : zSt D dA true ad0 al0 ad al w s H locs) (hl : lv_has ls 4 [(0, .ref (ad 2))]) : W p l e R s m args below meth c H locs cells slots Q (F0 m 46 ls []) := by
  have hx := X.1
  have hb := X.2.1
  have hml := X.2.2.1
  have hown := X.2.2.2.1
  have hts := X.2.2.2.2.1
  unfold fX10_next_J46 at hf
  refine lv_aload_n hx hb dX10_next_46 rfl (lv_at hl 0 rfl) ?_
  refine lv_dup hx hb dX10_next_47 rfl ?_
  refine z_getI X hR (zlit hR zf_2) zs_2 (by decide) zfd_X10_19 rfl dX10_next_48 ?_
  refine lv_iconst (v := (1 : Int32)) hx hb dX10_next_51 (by decide) ?_
  refine lv_iadd hx hb dX10_next_52 ?_
  refine z_putI X hR (zlit hR zf_2) zs_2 (by decide) zfp_X10_19 rfl dX10_next_53 (fun H locs hR => ?_)
  obtain ⟨w37, hw37⟩ : ∃ z : zW, z = sI w 2 9 ((gI w 2 9) + (1 : Int32)) := ⟨_, rfl⟩
  rw [← hw37] at hR
  replace hf := hf w37 hw37
  refine lv_goto (tgt := 0) hx hb dX10_next_56 (by decide) ?_
  exact hg0  w37 _ _ _ hf hR (lv_sub hl [0] rfl)
def fX10_next_L0 (k : zW → Prop) : Nat → zW → Prop
  | 0 => fun _ => False
  | n + 1 => fun  w =>
    (((gI w 2 9) < 0 →
      fX10_next_J59 k  w) ∧
     (¬ (gI w 2 9) < 0 →
      (((gI w 2 1) ≤ (gI w 2 9) →
        fX10_next_J59 k  w) ∧
       (¬ (gI w 2 1) ≤ (gI w 2 9) →
        vp_in (gI w 2 9) 1000 ∧ 
        (((gI w 3 (gI w 2 9).toNatClampNeg) = (32 : Int32) →
          fX10_next_J46 k (fX10_next_L0 k n)  w) ∧
         (¬ (gI w 3 (gI w 2 9).toNatClampNeg) = (32 : Int32) →
          ((¬ (gI w 3 (gI w 2 9).toNatClampNeg) = (10 : Int32) →
            fX10_next_J59 k  w) ∧
           ((gI w 3 (gI w 2 9).toNatClampNeg) = (10 : Int32) →
            fX10_next_J46 k (fX10_next_L0 k n)  w))))))))
set_option maxHeartbeats 4000000 in
set_option maxRecDepth 100000 in
theorem mX10_next_L0 {k : zW → Prop} (X : zCx p s m args meth c cX10_next 4 RX10 none) (hr : zRm R 5 cells slots) (hQ : zRetV p l e R s m args below meth c cells slots Q D dA true ad0 al0 ad al cX10_next k)  : ∀ (n : Nat)  (w : zW) (H : Heap) (locs : List Loc) (ls : Array Slot), fX10_next_L0 k n  w → zSt D dA true ad0 al0 ad al w s H locs → lv_has ls 4 [(0, .ref (ad 2))] → W p l e R s m args below meth c H locs cells slots Q (F0 m 0 ls []) := by
  intro n
  induction n with
  | zero => exact fun _ _ _ _ hf => hf.elim
  | succ n ih =>
    intro  w H locs ls hf hR hl
    have hx := X.1
    have hb := X.2.1
    have hml := X.2.2.1
    have hown := X.2.2.2.1
    have hts := X.2.2.2.2.1
    rw [fX10_next_L0] at hf
    refine lv_aload_n hx hb dX10_next_0 rfl (lv_at hl 0 rfl) ?_
    refine z_getI X hR (zlit hR zf_2) zs_2 (by decide) zfd_X10_19 rfl dX10_next_1 ?_
    refine lv_if_lt (tgt := 59) hx hb dX10_next_4 (by decide) (fun c1 => ?_) (fun c1 => ?_)
    · replace hf := hf.1 c1
      exact mX10_next_J59 X hr hQ  hf hR (lv_sub hl [0] rfl)
    · replace hf := hf.2 c1
      refine lv_aload_n hx hb dX10_next_7 rfl (lv_at hl 0 rfl) ?_
      refine z_getI X hR (zlit hR zf_2) zs_2 (by decide) zfd_X10_19 rfl dX10_next_8 ?_
      refine lv_aload_n hx hb dX10_next_11 rfl (lv_at hl 0 rfl) ?_
      refine z_getI X hR (zlit hR zf_2) zs_2 (by decide) zfd_X10_15 rfl dX10_next_12 ?_
      refine lv_icmp_ge (tgt := 59) hx hb dX10_next_15 (by decide) (fun c34 => ?_) (fun c34 => ?_)
      · replace hf := hf.1 c34
        exact mX10_next_J59 X hr hQ  hf hR (lv_sub hl [0] rfl)
      · replace hf := hf.2 c34
        refine lv_aload_n hx hb dX10_next_18 rfl (lv_at hl 0 rfl) ?_
        refine z_getS X hR (zlit hR zf_2) zs_2 (by decide) zfd_X10_11 rfl (r := 3) (by decide +kernel) dX10_next_19 ?_
        refine lv_aload_n hx hb dX10_next_22 rfl (lv_at hl 0 rfl) ?_
        refine z_getI X hR (zlit hR zf_2) zs_2 (by decide) zfd_X10_19 rfl dX10_next_23 ?_
        obtain ⟨hb35, hf⟩ := hf
        refine z_cald X hR (zlit hR zf_3) zs_3 zl_3 hb35 dX10_next_26 ?_
        refine lv_bipush (v := (32 : Int32)) hx hb dX10_next_27 (by decide) ?_
        refine lv_icmp_eq (tgt := 46) hx hb dX10_next_29 (by decide) (fun c36 => ?_) (fun c36 => ?_)
        · replace hf := hf.1 c36
          exact mX10_next_J46 X hr hQ ih hf hR (lv_sub hl [0] rfl)
        · replace hf := hf.2 c36
          refine lv_aload_n hx hb dX10_next_32 rfl (lv_at hl 0 rfl) ?_
          refine z_getS X hR (zlit hR zf_2) zs_2 (by decide) zfd_X10_11 rfl (r := 3) (by decide +kernel) dX10_next_33 ?_
          refine lv_aload_n hx hb dX10_next_36 rfl (lv_at hl 0 rfl) ?_
          refine z_getI X hR (zlit hR zf_2) zs_2 (by decide) zfd_X10_19 rfl dX10_next_37 ?_
          refine z_cald X hR (zlit hR zf_3) zs_3 zl_3 hb35 dX10_next_40 ?_
          refine lv_bipush (v := (10 : Int32)) hx hb dX10_next_41 (by decide) ?_
          refine lv_icmp_ne (tgt := 59) hx hb dX10_next_43 (by decide) (fun c38 => ?_) (fun c38 => ?_)
          · replace hf := hf.1 c38
            exact mX10_next_J59 X hr hQ  hf hR (lv_sub hl [0] rfl)
          · replace hf := hf.2 c38
            exact mX10_next_J46 X hr hQ ih hf hR (lv_sub hl [0] rfl)
def fX10_next (w : zW) (k : zW → Prop) : Prop :=
  ∃ n9, fX10_next_L0 k n9  w
set_option maxHeartbeats 4000000 in
set_option maxRecDepth 100000 in
theorem mX10_next {l : Launch} {D : va_G} {dA : Nat → ClassId} {ad : Nat → Nat} {al : Nat → Prop} {w : zW} {k : zW → Prop}   (hf : fX10_next w k) : zmetV l yX10_next cX10_next 4 none 5 [.ref (ad 2)] D dA true ad al w k := by
  refine zmetV_of (by decide) (Nat.le_of_ble_eq_true rfl) ?_
  intro p e R s m below meth c Q H ls args locs cells slots X hr hQ hR hl
  have hx := X.1
  have hb := X.2.1
  have hml := X.2.2.1
  have hown := X.2.2.2.1
  have hts := X.2.2.2.2.1
  unfold fX10_next at hf
  have hl : lv_has ls 4 [(0, .ref (ad 2))] := hl
  obtain ⟨n9, hf⟩ := hf
  exact mX10_next_L0 X hr hQ  n9  w _ _ _ hf hR (lv_sub hl [0] rfl)
/-! X7_addStep -/
def fX7_addStep (x1 : Int32) (w : zW) (k : zW → Prop) : Prop :=
  (((gI w 6 3) < 0 →
    k w) ∧
   (¬ (gI w 6 3) < 0 →
    (((1000 : Int32) ≤ (gI w 6 3) →
      k w) ∧
     (¬ (1000 : Int32) ≤ (gI w 6 3) →
      vp_in (gI w 6 3) 1000 ∧ 
      ∀ w4 : zW, w4 = sI w 7 (gI w 6 3).toNatClampNeg x1 →
      ∀ w5 : zW, w5 = sI w4 6 3 ((gI w4 6 3) + (1 : Int32)) →
      k w5))))
set_option maxHeartbeats 4000000 in
set_option maxRecDepth 100000 in
theorem mX7_addStep {l : Launch} {D : va_G} {dA : Nat → ClassId} {ad : Nat → Nat} {al : Nat → Prop} {w : zW} {k : zW → Prop} {x1 : Int32}   (hf : fX7_addStep x1 w k) : zmetV l yX7_addStep cX7_addStep 2 none 0 [.ref (ad 6), .int x1] D dA true ad al w k := by
  refine zmetV_of (by decide) (Nat.le_of_ble_eq_true rfl) ?_
  intro p e R s m below meth c Q H ls args locs cells slots X hr hQ hR hl
  have hx := X.1
  have hb := X.2.1
  have hml := X.2.2.1
  have hown := X.2.2.2.1
  have hts := X.2.2.2.2.1
  unfold fX7_addStep at hf
  have hl : lv_has ls 2 [(0, .ref (ad 6)), (1, .int x1)] := hl
  refine lv_aload_n hx hb dX7_addStep_0 rfl (lv_at hl 0 rfl) ?_
  refine z_getI X hR (zlit hR zf_6) zs_6 (by decide) zfd_X7_22 rfl dX7_addStep_1 ?_
  refine lv_if_lt (tgt := 39) hx hb dX7_addStep_4 (by decide) (fun c1 => ?_) (fun c1 => ?_)
  · replace hf := hf.1 c1
    exact hQ _ _ _ _ _ hf hR dX7_addStep_39
  · replace hf := hf.2 c1
    refine lv_aload_n hx hb dX7_addStep_7 rfl (lv_at hl 0 rfl) ?_
    refine z_getI X hR (zlit hR zf_6) zs_6 (by decide) zfd_X7_22 rfl dX7_addStep_8 ?_
    refine lv_aload_n hx hb dX7_addStep_11 rfl (lv_at hl 0 rfl) ?_
    refine z_getS X hR (zlit hR zf_6) zs_6 (by decide) zfd_X7_9 rfl (r := 7) (by decide +kernel) dX7_addStep_12 ?_
    refine z_alen X hR (zlit hR zf_7) zs_7 (by decide) (by decide) zl_7 (v := (1000 : Int32)) rfl dX7_addStep_15 ?_
    refine lv_icmp_ge (tgt := 39) hx hb dX7_addStep_16 (by decide) (fun c2 => ?_) (fun c2 => ?_)
    · replace hf := hf.1 c2
      exact hQ _ _ _ _ _ hf hR dX7_addStep_39
    · replace hf := hf.2 c2
      refine lv_aload_n hx hb dX7_addStep_19 rfl (lv_at hl 0 rfl) ?_
      refine z_getS X hR (zlit hR zf_6) zs_6 (by decide) zfd_X7_9 rfl (r := 7) (by decide +kernel) dX7_addStep_20 ?_
      refine lv_aload_n hx hb dX7_addStep_23 rfl (lv_at hl 0 rfl) ?_
      refine z_getI X hR (zlit hR zf_6) zs_6 (by decide) zfd_X7_22 rfl dX7_addStep_24 ?_
      refine lv_iload_n hx hb dX7_addStep_27 rfl (lv_at hl 1 rfl) ?_
      obtain ⟨hb3, hf⟩ := hf
      refine z_iast X hR (zlit hR zf_7) zs_7 zl_7 hb3 dX7_addStep_28 (fun H locs hR => ?_)
      obtain ⟨w4, hw4⟩ : ∃ z : zW, z = sI w 7 (gI w 6 3).toNatClampNeg x1 := ⟨_, rfl⟩
      rw [← hw4] at hR
      replace hf := hf w4 hw4
      refine lv_aload_n hx hb dX7_addStep_29 rfl (lv_at hl 0 rfl) ?_
      refine lv_dup hx hb dX7_addStep_30 rfl ?_
      refine z_getI X hR (zlit hR zf_6) zs_6 (by decide) zfd_X7_22 rfl dX7_addStep_31 ?_
      refine lv_iconst (v := (1 : Int32)) hx hb dX7_addStep_34 (by decide) ?_
      refine lv_iadd hx hb dX7_addStep_35 ?_
      refine z_putI X hR (zlit hR zf_6) zs_6 (by decide) zfp_X7_22 rfl dX7_addStep_36 (fun H locs hR => ?_)
      obtain ⟨w5, hw5⟩ : ∃ z : zW, z = sI w4 6 3 ((gI w4 6 3) + (1 : Int32)) := ⟨_, rfl⟩
      rw [← hw5] at hR
      replace hf := hf w5 hw5
      exact hQ _ _ _ _ _ hf hR dX7_addStep_39
/-! X10_isSign -/
def fX10_isSign (x1 : Int32) (w : zW) (k : Int32 → zW → Prop) : Prop :=
  ((¬ (gI w 2 2) = (3 : Int32) →
    k (0 : Int32) w) ∧
   ((gI w 2 2) = (3 : Int32) →
    ∀ v2 : Int32, v2 = (if ¬ (gI w 2 6) = x1 then (0 : Int32) else (1 : Int32)) →
    zb01 v2 ∧ k v2 w))
set_option maxHeartbeats 4000000 in
set_option maxRecDepth 100000 in
theorem mX10_isSign {l : Launch} {D : va_G} {dA : Nat → ClassId} {ad : Nat → Nat} {al : Nat → Prop} {w : zW} {k : Int32 → zW → Prop} {x1 : Int32}   (hf : fX10_isSign x1 w k) : zmetI l yX10_isSign cX10_isSign 2 (some .boolean) 0 [.ref (ad 2), .int x1] D dA true ad al w k := by
  refine zmetZ_of (by decide) (Nat.le_of_ble_eq_true rfl) ?_
  intro p e R s m below meth c Q H ls args locs cells slots X hr hQ hR hl
  have hx := X.1
  have hb := X.2.1
  have hml := X.2.2.1
  have hown := X.2.2.2.1
  have hts := X.2.2.2.2.1
  unfold fX10_isSign at hf
  have hl : lv_has ls 2 [(0, .ref (ad 2)), (1, .int x1)] := hl
  refine lv_aload_n hx hb dX10_isSign_0 rfl (lv_at hl 0 rfl) ?_
  refine z_getI X hR (zlit hR zf_2) zs_2 (by decide) zfd_X10_34 rfl dX10_isSign_1 ?_
  refine lv_iconst (v := (3 : Int32)) hx hb dX10_isSign_4 (by decide) ?_
  refine lv_icmp_ne (tgt := 20) hx hb dX10_isSign_5 (by decide) (fun c1 => ?_) (fun c1 => ?_)
  · replace hf := hf.1 c1
    refine lv_iconst (v := (0 : Int32)) hx hb dX10_isSign_20 (by decide) ?_
    exact hQ _ _ _ _ _ _ zb01_0 hf hR dX10_isSign_21
  · replace hf := hf.2 c1
    refine lv_aload_n hx hb dX10_isSign_8 rfl (lv_at hl 0 rfl) ?_
    refine z_getI X hR (zlit hR zf_2) zs_2 (by decide) zfd_X10_37 rfl dX10_isSign_9 ?_
    refine lv_iload_n hx hb dX10_isSign_12 rfl (lv_at hl 1 rfl) ?_
    have kJ2 : ∀ v2 : Int32, v2 = (if ¬ (gI w 2 6) = x1 then (0 : Int32) else (1 : Int32)) → W p l e R s m args below meth c H locs cells slots Q (F0 m 21 ls (.int v2 :: [])) := by
      intro v2 hv2
      replace hf := hf v2 hv2
      obtain ⟨h01, hf⟩ := hf
      exact hQ _ _ _ _ _ _ h01 hf hR dX10_isSign_21
    refine lv_icmp_ne (tgt := 20) hx hb dX10_isSign_13 (by decide) (fun c2 => ?_) (fun c2 => ?_)
    · refine lv_iconst (v := (0 : Int32)) hx hb dX10_isSign_20 (by decide) ?_
      exact kJ2 _ (if_pos c2).symm
    · refine lv_iconst (v := (1 : Int32)) hx hb dX10_isSign_16 (by decide) ?_
      refine lv_goto (tgt := 21) hx hb dX10_isSign_17 (by decide) ?_
      exact kJ2 _ (if_neg (fun h9 => h9 c2)).symm
/-! X10_wrong -/
def fX10_wrong (x1 : Int32) (w : zW) (k : Int32 → zW → Prop) : Prop :=
  ∀ w1 : zW, w1 = sI w 2 8 (x1 + ((16 : Int32) * (gI w 2 3))) →
  k (0 : Int32) w1
set_option maxHeartbeats 4000000 in
set_option maxRecDepth 100000 in
theorem mX10_wrong {l : Launch} {D : va_G} {dA : Nat → ClassId} {ad : Nat → Nat} {al : Nat → Prop} {w : zW} {k : Int32 → zW → Prop} {x1 : Int32}   (hf : fX10_wrong x1 w k) : zmetI l yX10_wrong cX10_wrong 2 (some .boolean) 0 [.ref (ad 2), .int x1] D dA true ad al w k := by
  refine zmetZ_of (by decide) (Nat.le_of_ble_eq_true rfl) ?_
  intro p e R s m below meth c Q H ls args locs cells slots X hr hQ hR hl
  have hx := X.1
  have hb := X.2.1
  have hml := X.2.2.1
  have hown := X.2.2.2.1
  have hts := X.2.2.2.2.1
  unfold fX10_wrong at hf
  have hl : lv_has ls 2 [(0, .ref (ad 2)), (1, .int x1)] := hl
  refine lv_aload_n hx hb dX10_wrong_0 rfl (lv_at hl 0 rfl) ?_
  refine lv_iload_n hx hb dX10_wrong_1 rfl (lv_at hl 1 rfl) ?_
  refine lv_bipush (v := (16 : Int32)) hx hb dX10_wrong_2 (by decide) ?_
  refine lv_aload_n hx hb dX10_wrong_4 rfl (lv_at hl 0 rfl) ?_
  refine z_getI X hR (zlit hR zf_2) zs_2 (by decide) zfd_X10_28 rfl dX10_wrong_5 ?_
  refine lv_imul hx hb dX10_wrong_8 ?_
  refine lv_iadd hx hb dX10_wrong_9 ?_
  refine z_putI X hR (zlit hR zf_2) zs_2 (by decide) zfp_X10_22 rfl dX10_wrong_10 (fun H locs hR => ?_)
  obtain ⟨w1, hw1⟩ : ∃ z : zW, z = sI w 2 8 (x1 + ((16 : Int32) * (gI w 2 3))) := ⟨_, rfl⟩
  rw [← hw1] at hR
  replace hf := hf w1 hw1
  refine lv_iconst (v := (0 : Int32)) hx hb dX10_wrong_13 (by decide) ?_
  exact hQ _ _ _ _ _ _ zb01_0 hf hR dX10_wrong_14
end ZM
