theorem dX12_lays_0 : decode cX12_lays 0 = .ok (.iload_n 1, 1) := by decide +kernel
theorem dX12_lays_1 : decode cX12_lays 1 = .ok (.istore_n 2, 1) := by decide +kernel
theorem dX12_lays_2 : decode cX12_lays 2 = .ok (.iconst 1, 1) := by decide +kernel
theorem dX12_lays_3 : decode cX12_lays 3 = .ok (.istore_n 3, 1) := by decide +kernel
theorem dX12_lays_4 : decode cX12_lays 4 = .ok (.aload_n 0, 1) := by decide +kernel
theorem dX12_lays_5 : decode cX12_lays 5 = .ok (.invokevirtual 266, 3) := by decide +kernel
theorem dX12_lays_8 : decode cX12_lays 8 = .ok (.iconst 1, 1) := by decide +kernel
theorem dX12_lays_9 : decode cX12_lays 9 = .ok (.isub, 1) := by decide +kernel
theorem dX12_lays_10 : decode cX12_lays 10 = .ok (.istore 4, 2) := by decide +kernel
theorem dX12_lays_12 : decode cX12_lays 12 = .ok (.iload 4, 2) := by decide +kernel
theorem dX12_lays_14 : decode cX12_lays 14 = .ok (.ifCond .lt 83, 3) := by decide +kernel
theorem dX12_lays_17 : decode cX12_lays 17 = .ok (.aload_n 0, 1) := by decide +kernel
theorem dX12_lays_18 : decode cX12_lays 18 = .ok (.getfield 122, 3) := by decide +kernel
theorem dX12_lays_21 : decode cX12_lays 21 = .ok (.iload 4, 2) := by decide +kernel
theorem dX12_lays_23 : decode cX12_lays 23 = .ok (.iload_n 2, 1) := by decide +kernel
theorem dX12_lays_24 : decode cX12_lays 24 = .ok (.bipush 9, 2) := by decide +kernel
theorem dX12_lays_26 : decode cX12_lays 26 = .ok (.irem, 1) := by decide +kernel
theorem dX12_lays_27 : decode cX12_lays 27 = .ok (.iastore, 1) := by decide +kernel
theorem dX12_lays_28 : decode cX12_lays 28 = .ok (.iload_n 2, 1) := by decide +kernel
theorem dX12_lays_29 : decode cX12_lays 29 = .ok (.bipush 9, 2) := by decide +kernel
theorem dX12_lays_31 : decode cX12_lays 31 = .ok (.idiv, 1) := by decide +kernel
theorem dX12_lays_32 : decode cX12_lays 32 = .ok (.istore_n 2, 1) := by decide +kernel
theorem dX12_lays_33 : decode cX12_lays 33 = .ok (.iload_n 3, 1) := by decide +kernel
theorem dX12_lays_34 : decode cX12_lays 34 = .ok (.ifCond .eq 55, 3) := by decide +kernel
theorem dX12_lays_37 : decode cX12_lays 37 = .ok (.aload_n 0, 1) := by decide +kernel
theorem dX12_lays_38 : decode cX12_lays 38 = .ok (.getfield 110, 3) := by decide +kernel
theorem dX12_lays_41 : decode cX12_lays 41 = .ok (.bipush 9, 2) := by decide +kernel
theorem dX12_lays_43 : decode cX12_lays 43 = .ok (.iload 4, 2) := by decide +kernel
theorem dX12_lays_45 : decode cX12_lays 45 = .ok (.imul, 1) := by decide +kernel
theorem dX12_lays_46 : decode cX12_lays 46 = .ok (.aload_n 0, 1) := by decide +kernel
theorem dX12_lays_47 : decode cX12_lays 47 = .ok (.getfield 122, 3) := by decide +kernel
theorem dX12_lays_50 : decode cX12_lays 50 = .ok (.iload 4, 2) := by decide +kernel
theorem dX12_lays_52 : decode cX12_lays 52 = .ok (.iaload, 1) := by decide +kernel
theorem dX12_lays_53 : decode cX12_lays 53 = .ok (.iadd, 1) := by decide +kernel
theorem dX12_lays_54 : decode cX12_lays 54 = .ok (.baload, 1) := by decide +kernel
theorem dX12_lays_55 : decode cX12_lays 55 = .ok (.ifCond .eq 34, 3) := by decide +kernel
theorem dX12_lays_58 : decode cX12_lays 58 = .ok (.aload_n 0, 1) := by decide +kernel
theorem dX12_lays_59 : decode cX12_lays 59 = .ok (.getfield 103, 3) := by decide +kernel
theorem dX12_lays_62 : decode cX12_lays 62 = .ok (.iload 4, 2) := by decide +kernel
theorem dX12_lays_64 : decode cX12_lays 64 = .ok (.iaload, 1) := by decide +kernel
theorem dX12_lays_65 : decode cX12_lays 65 = .ok (.ifCond .lt 20, 3) := by decide +kernel
theorem dX12_lays_68 : decode cX12_lays 68 = .ok (.aload_n 0, 1) := by decide +kernel
theorem dX12_lays_69 : decode cX12_lays 69 = .ok (.getfield 103, 3) := by decide +kernel
theorem dX12_lays_72 : decode cX12_lays 72 = .ok (.iload 4, 2) := by decide +kernel
theorem dX12_lays_74 : decode cX12_lays 74 = .ok (.iaload, 1) := by decide +kernel
theorem dX12_lays_75 : decode cX12_lays 75 = .ok (.aload_n 0, 1) := by decide +kernel
theorem dX12_lays_76 : decode cX12_lays 76 = .ok (.getfield 122, 3) := by decide +kernel
theorem dX12_lays_79 : decode cX12_lays 79 = .ok (.iload 4, 2) := by decide +kernel
theorem dX12_lays_81 : decode cX12_lays 81 = .ok (.iaload, 1) := by decide +kernel
theorem dX12_lays_82 : decode cX12_lays 82 = .ok (.if_icmp .ne 7, 3) := by decide +kernel
theorem dX12_lays_85 : decode cX12_lays 85 = .ok (.iconst 1, 1) := by decide +kernel
theorem dX12_lays_86 : decode cX12_lays 86 = .ok (.goto 4, 3) := by decide +kernel
theorem dX12_lays_89 : decode cX12_lays 89 = .ok (.iconst 0, 1) := by decide +kernel
theorem dX12_lays_90 : decode cX12_lays 90 = .ok (.istore_n 3, 1) := by decide +kernel
theorem dX12_lays_91 : decode cX12_lays 91 = .ok (.iinc 4 (-1), 3) := by decide +kernel
theorem dX12_lays_94 : decode cX12_lays 94 = .ok (.goto (-82), 3) := by decide +kernel
theorem dX12_lays_97 : decode cX12_lays 97 = .ok (.iload_n 3, 1) := by decide +kernel
theorem dX12_lays_98 : decode cX12_lays 98 = .ok (.ireturn, 1) := by decide +kernel
theorem dX12_allRows_0 : decode cX12_allRows 0 = .ok (.iconst 1, 1) := by decide +kernel
theorem dX12_allRows_1 : decode cX12_allRows 1 = .ok (.aload_n 0, 1) := by decide +kernel
theorem dX12_allRows_2 : decode cX12_allRows 2 = .ok (.invokevirtual 270, 3) := by decide +kernel
theorem dX12_allRows_5 : decode cX12_allRows 5 = .ok (.ishl, 1) := by decide +kernel
theorem dX12_allRows_6 : decode cX12_allRows 6 = .ok (.iconst 1, 1) := by decide +kernel
theorem dX12_allRows_7 : decode cX12_allRows 7 = .ok (.isub, 1) := by decide +kernel
theorem dX12_allRows_8 : decode cX12_allRows 8 = .ok (.ireturn, 1) := by decide +kernel
theorem dX12_tells_0 : decode cX12_tells 0 = .ok (.aload_n 0, 1) := by decide +kernel
theorem dX12_tells_1 : decode cX12_tells 1 = .ok (.invokevirtual 373, 3) := by decide +kernel
theorem dX12_tells_4 : decode cX12_tells 4 = .ok (.aload_n 0, 1) := by decide +kernel
theorem dX12_tells_5 : decode cX12_tells 5 = .ok (.getfield 349, 3) := by decide +kernel
theorem dX12_tells_8 : decode cX12_tells 8 = .ok (.iconst (-1), 1) := by decide +kernel
theorem dX12_tells_9 : decode cX12_tells 9 = .ok (.ixor, 1) := by decide +kernel
theorem dX12_tells_10 : decode cX12_tells 10 = .ok (.iand, 1) := by decide +kernel
theorem dX12_tells_11 : decode cX12_tells 11 = .ok (.istore_n 1, 1) := by decide +kernel
theorem dX12_tells_12 : decode cX12_tells 12 = .ok (.iconst 0, 1) := by decide +kernel
theorem dX12_tells_13 : decode cX12_tells 13 = .ok (.istore_n 2, 1) := by decide +kernel
theorem dX12_tells_14 : decode cX12_tells 14 = .ok (.iload_n 2, 1) := by decide +kernel
theorem dX12_tells_15 : decode cX12_tells 15 = .ok (.aload_n 0, 1) := by decide +kernel
theorem dX12_tells_16 : decode cX12_tells 16 = .ok (.invokevirtual 270, 3) := by decide +kernel
theorem dX12_tells_19 : decode cX12_tells 19 = .ok (.if_icmp .ge 65, 3) := by decide +kernel
theorem dX12_tells_22 : decode cX12_tells 22 = .ok (.aload_n 0, 1) := by decide +kernel
theorem dX12_tells_23 : decode cX12_tells 23 = .ok (.getfield 140, 3) := by decide +kernel
theorem dX12_tells_26 : decode cX12_tells 26 = .ok (.iload_n 2, 1) := by decide +kernel
theorem dX12_tells_27 : decode cX12_tells 27 = .ok (.dup2, 1) := by decide +kernel
theorem dX12_tells_28 : decode cX12_tells 28 = .ok (.iaload, 1) := by decide +kernel
theorem dX12_tells_29 : decode cX12_tells 29 = .ok (.iload_n 1, 1) := by decide +kernel
theorem dX12_tells_30 : decode cX12_tells 30 = .ok (.ifCond .ne 17, 3) := by decide +kernel
theorem dX12_tells_33 : decode cX12_tells 33 = .ok (.aload_n 0, 1) := by decide +kernel
theorem dX12_tells_34 : decode cX12_tells 34 = .ok (.getfield 352, 3) := by decide +kernel
theorem dX12_tells_37 : decode cX12_tells 37 = .ok (.iconst 1, 1) := by decide +kernel
theorem dX12_tells_38 : decode cX12_tells 38 = .ok (.iload_n 2, 1) := by decide +kernel
theorem dX12_tells_39 : decode cX12_tells 39 = .ok (.ishl, 1) := by decide +kernel
theorem dX12_tells_40 : decode cX12_tells 40 = .ok (.if_icmp .ne 7, 3) := by decide +kernel
theorem dX12_tells_43 : decode cX12_tells 43 = .ok (.iconst 1, 1) := by decide +kernel
theorem dX12_tells_44 : decode cX12_tells 44 = .ok (.goto 4, 3) := by decide +kernel
theorem dX12_tells_47 : decode cX12_tells 47 = .ok (.iconst 0, 1) := by decide +kernel
theorem dX12_tells_48 : decode cX12_tells 48 = .ok (.iadd, 1) := by decide +kernel
theorem dX12_tells_49 : decode cX12_tells 49 = .ok (.iastore, 1) := by decide +kernel
theorem dX12_tells_50 : decode cX12_tells 50 = .ok (.aload_n 0, 1) := by decide +kernel
theorem dX12_tells_51 : decode cX12_tells 51 = .ok (.getfield 143, 3) := by decide +kernel
theorem dX12_tells_54 : decode cX12_tells 54 = .ok (.iload_n 2, 1) := by decide +kernel
theorem dX12_tells_55 : decode cX12_tells 55 = .ok (.dup2, 1) := by decide +kernel
theorem dX12_tells_56 : decode cX12_tells 56 = .ok (.iaload, 1) := by decide +kernel
theorem dX12_tells_57 : decode cX12_tells 57 = .ok (.aload_n 0, 1) := by decide +kernel
theorem dX12_tells_58 : decode cX12_tells 58 = .ok (.getfield 352, 3) := by decide +kernel
theorem dX12_tells_61 : decode cX12_tells 61 = .ok (.ifCond .ne 14, 3) := by decide +kernel
theorem dX12_tells_64 : decode cX12_tells 64 = .ok (.iload_n 1, 1) := by decide +kernel
theorem dX12_tells_65 : decode cX12_tells 65 = .ok (.iconst 1, 1) := by decide +kernel
theorem dX12_tells_66 : decode cX12_tells 66 = .ok (.iload_n 2, 1) := by decide +kernel
theorem dX12_tells_67 : decode cX12_tells 67 = .ok (.ishl, 1) := by decide +kernel
theorem dX12_tells_68 : decode cX12_tells 68 = .ok (.if_icmp .ne 7, 3) := by decide +kernel
theorem dX12_tells_71 : decode cX12_tells 71 = .ok (.iconst 1, 1) := by decide +kernel
theorem dX12_tells_72 : decode cX12_tells 72 = .ok (.goto 4, 3) := by decide +kernel
theorem dX12_tells_75 : decode cX12_tells 75 = .ok (.iconst 0, 1) := by decide +kernel
theorem dX12_tells_76 : decode cX12_tells 76 = .ok (.iadd, 1) := by decide +kernel
theorem dX12_tells_77 : decode cX12_tells 77 = .ok (.iastore, 1) := by decide +kernel
theorem dX12_tells_78 : decode cX12_tells 78 = .ok (.iinc 2 1, 3) := by decide +kernel
theorem dX12_tells_81 : decode cX12_tells 81 = .ok (.goto (-67), 3) := by decide +kernel
theorem dX12_tells_84 : decode cX12_tells 84 = .ok (.iload_n 1, 1) := by decide +kernel
theorem dX12_tells_85 : decode cX12_tells 85 = .ok (.ifCond .ne 63, 3) := by decide +kernel
theorem dX12_tells_88 : decode cX12_tells 88 = .ok (.aload_n 0, 1) := by decide +kernel
theorem dX12_tells_89 : decode cX12_tells 89 = .ok (.getfield 355, 3) := by decide +kernel
theorem dX12_tells_92 : decode cX12_tells 92 = .ok (.ifCond .lt 48, 3) := by decide +kernel
theorem dX12_tells_95 : decode cX12_tells 95 = .ok (.aload_n 0, 1) := by decide +kernel
theorem dX12_tells_96 : decode cX12_tells 96 = .ok (.getfield 352, 3) := by decide +kernel
theorem dX12_tells_99 : decode cX12_tells 99 = .ok (.invokestatic 376, 3) := by decide +kernel
theorem dX12_tells_102 : decode cX12_tells 102 = .ok (.aload_n 0, 1) := by decide +kernel
theorem dX12_tells_103 : decode cX12_tells 103 = .ok (.getfield 355, 3) := by decide +kernel
theorem dX12_tells_106 : decode cX12_tells 106 = .ok (.invokestatic 376, 3) := by decide +kernel
theorem dX12_tells_109 : decode cX12_tells 109 = .ok (.if_icmp .lt 31, 3) := by decide +kernel
theorem dX12_tells_112 : decode cX12_tells 112 = .ok (.aload_n 0, 1) := by decide +kernel
theorem dX12_tells_113 : decode cX12_tells 113 = .ok (.getfield 352, 3) := by decide +kernel
theorem dX12_tells_116 : decode cX12_tells 116 = .ok (.invokestatic 376, 3) := by decide +kernel
theorem dX12_tells_119 : decode cX12_tells 119 = .ok (.aload_n 0, 1) := by decide +kernel
theorem dX12_tells_120 : decode cX12_tells 120 = .ok (.getfield 355, 3) := by decide +kernel
theorem dX12_tells_123 : decode cX12_tells 123 = .ok (.invokestatic 376, 3) := by decide +kernel
theorem dX12_tells_126 : decode cX12_tells 126 = .ok (.if_icmp .ne 22, 3) := by decide +kernel
theorem dX12_tells_129 : decode cX12_tells 129 = .ok (.aload_n 0, 1) := by decide +kernel
theorem dX12_tells_130 : decode cX12_tells 130 = .ok (.getfield 352, 3) := by decide +kernel
theorem dX12_tells_133 : decode cX12_tells 133 = .ok (.aload_n 0, 1) := by decide +kernel
theorem dX12_tells_134 : decode cX12_tells 134 = .ok (.getfield 355, 3) := by decide +kernel
theorem dX12_tells_137 : decode cX12_tells 137 = .ok (.if_icmp .ge 11, 3) := by decide +kernel
theorem dX12_tells_140 : decode cX12_tells 140 = .ok (.aload_n 0, 1) := by decide +kernel
theorem dX12_tells_141 : decode cX12_tells 141 = .ok (.aload_n 0, 1) := by decide +kernel
theorem dX12_tells_142 : decode cX12_tells 142 = .ok (.getfield 352, 3) := by decide +kernel
theorem dX12_tells_145 : decode cX12_tells 145 = .ok (.putfield 355, 3) := by decide +kernel
theorem dX12_tells_148 : decode cX12_tells 148 = .ok (.iload_n 1, 1) := by decide +kernel
theorem dX12_tells_149 : decode cX12_tells 149 = .ok (.ifCond .ne 10, 3) := by decide +kernel
theorem dX12_tells_152 : decode cX12_tells 152 = .ok (.aload_n 0, 1) := by decide +kernel
theorem dX12_tells_153 : decode cX12_tells 153 = .ok (.getfield 352, 3) := by decide +kernel
theorem dX12_tells_156 : decode cX12_tells 156 = .ok (.ifCond .eq 4, 3) := by decide +kernel
theorem dX12_tells_159 : decode cX12_tells 159 = .ok (.return_, 1) := by decide +kernel
theorem dX12_tells_160 : decode cX12_tells 160 = .ok (.iconst 0, 1) := by decide +kernel
theorem dX12_tells_161 : decode cX12_tells 161 = .ok (.istore_n 2, 1) := by decide +kernel
theorem dX12_tells_162 : decode cX12_tells 162 = .ok (.iload_n 2, 1) := by decide +kernel
theorem dX12_tells_163 : decode cX12_tells 163 = .ok (.aload_n 0, 1) := by decide +kernel
theorem dX12_tells_164 : decode cX12_tells 164 = .ok (.invokevirtual 266, 3) := by decide +kernel
theorem dX12_tells_167 : decode cX12_tells 167 = .ok (.if_icmp .ge 120, 3) := by decide +kernel
theorem dX12_tells_170 : decode cX12_tells 170 = .ok (.aload_n 0, 1) := by decide +kernel
theorem dX12_tells_171 : decode cX12_tells 171 = .ok (.getfield 128, 3) := by decide +kernel
theorem dX12_tells_174 : decode cX12_tells 174 = .ok (.bipush 9, 2) := by decide +kernel
theorem dX12_tells_176 : decode cX12_tells 176 = .ok (.iload_n 2, 1) := by decide +kernel
theorem dX12_tells_177 : decode cX12_tells 177 = .ok (.imul, 1) := by decide +kernel
theorem dX12_tells_178 : decode cX12_tells 178 = .ok (.aload_n 0, 1) := by decide +kernel
theorem dX12_tells_179 : decode cX12_tells 179 = .ok (.getfield 122, 3) := by decide +kernel
theorem dX12_tells_182 : decode cX12_tells 182 = .ok (.iload_n 2, 1) := by decide +kernel
theorem dX12_tells_183 : decode cX12_tells 183 = .ok (.iaload, 1) := by decide +kernel
theorem dX12_tells_184 : decode cX12_tells 184 = .ok (.iadd, 1) := by decide +kernel
theorem dX12_tells_185 : decode cX12_tells 185 = .ok (.dup2, 1) := by decide +kernel
theorem dX12_tells_186 : decode cX12_tells 186 = .ok (.iaload, 1) := by decide +kernel
theorem dX12_tells_187 : decode cX12_tells 187 = .ok (.iconst 1, 1) := by decide +kernel
theorem dX12_tells_188 : decode cX12_tells 188 = .ok (.iadd, 1) := by decide +kernel
theorem dX12_tells_189 : decode cX12_tells 189 = .ok (.iastore, 1) := by decide +kernel
theorem dX12_tells_190 : decode cX12_tells 190 = .ok (.iconst 0, 1) := by decide +kernel
theorem dX12_tells_191 : decode cX12_tells 191 = .ok (.istore_n 3, 1) := by decide +kernel
theorem dX12_tells_192 : decode cX12_tells 192 = .ok (.iload_n 3, 1) := by decide +kernel
theorem dX12_tells_193 : decode cX12_tells 193 = .ok (.aload_n 0, 1) := by decide +kernel
theorem dX12_tells_194 : decode cX12_tells 194 = .ok (.invokevirtual 266, 3) := by decide +kernel
theorem dX12_tells_197 : decode cX12_tells 197 = .ok (.if_icmp .ge 52, 3) := by decide +kernel
theorem dX12_tells_200 : decode cX12_tells 200 = .ok (.aload_n 0, 1) := by decide +kernel
theorem dX12_tells_201 : decode cX12_tells 201 = .ok (.getfield 137, 3) := by decide +kernel
theorem dX12_tells_204 : decode cX12_tells 204 = .ok (.iconst 4, 1) := by decide +kernel
theorem dX12_tells_205 : decode cX12_tells 205 = .ok (.iload_n 2, 1) := by decide +kernel
theorem dX12_tells_206 : decode cX12_tells 206 = .ok (.imul, 1) := by decide +kernel
theorem dX12_tells_207 : decode cX12_tells 207 = .ok (.iload_n 3, 1) := by decide +kernel
theorem dX12_tells_208 : decode cX12_tells 208 = .ok (.iadd, 1) := by decide +kernel
theorem dX12_tells_209 : decode cX12_tells 209 = .ok (.aload_n 0, 1) := by decide +kernel
theorem dX12_tells_210 : decode cX12_tells 210 = .ok (.getfield 137, 3) := by decide +kernel
theorem dX12_tells_213 : decode cX12_tells 213 = .ok (.iconst 4, 1) := by decide +kernel
theorem dX12_tells_214 : decode cX12_tells 214 = .ok (.iload_n 2, 1) := by decide +kernel
theorem dX12_tells_215 : decode cX12_tells 215 = .ok (.imul, 1) := by decide +kernel
theorem dX12_tells_216 : decode cX12_tells 216 = .ok (.iload_n 3, 1) := by decide +kernel
theorem dX12_tells_217 : decode cX12_tells 217 = .ok (.iadd, 1) := by decide +kernel
theorem dX12_tells_218 : decode cX12_tells 218 = .ok (.baload, 1) := by decide +kernel
theorem dX12_tells_219 : decode cX12_tells 219 = .ok (.ifCond .eq 22, 3) := by decide +kernel
theorem dX12_tells_222 : decode cX12_tells 222 = .ok (.aload_n 0, 1) := by decide +kernel
theorem dX12_tells_223 : decode cX12_tells 223 = .ok (.getfield 122, 3) := by decide +kernel
theorem dX12_tells_226 : decode cX12_tells 226 = .ok (.iload_n 2, 1) := by decide +kernel
theorem dX12_tells_227 : decode cX12_tells 227 = .ok (.iaload, 1) := by decide +kernel
theorem dX12_tells_228 : decode cX12_tells 228 = .ok (.aload_n 0, 1) := by decide +kernel
theorem dX12_tells_229 : decode cX12_tells 229 = .ok (.getfield 122, 3) := by decide +kernel
theorem dX12_tells_232 : decode cX12_tells 232 = .ok (.iload_n 3, 1) := by decide +kernel
theorem dX12_tells_233 : decode cX12_tells 233 = .ok (.iaload, 1) := by decide +kernel
theorem dX12_tells_234 : decode cX12_tells 234 = .ok (.if_icmp .ne 7, 3) := by decide +kernel
theorem dX12_tells_237 : decode cX12_tells 237 = .ok (.iconst 1, 1) := by decide +kernel
theorem dX12_tells_238 : decode cX12_tells 238 = .ok (.goto 4, 3) := by decide +kernel
theorem dX12_tells_241 : decode cX12_tells 241 = .ok (.iconst 0, 1) := by decide +kernel
theorem dX12_tells_242 : decode cX12_tells 242 = .ok (.bastore, 1) := by decide +kernel
theorem dX12_tells_243 : decode cX12_tells 243 = .ok (.iinc 3 1, 3) := by decide +kernel
theorem dX12_tells_246 : decode cX12_tells 246 = .ok (.goto (-54), 3) := by decide +kernel
theorem dX12_tells_249 : decode cX12_tells 249 = .ok (.aload_n 0, 1) := by decide +kernel
theorem dX12_tells_250 : decode cX12_tells 250 = .ok (.getfield 134, 3) := by decide +kernel
theorem dX12_tells_253 : decode cX12_tells 253 = .ok (.iload_n 2, 1) := by decide +kernel
theorem dX12_tells_254 : decode cX12_tells 254 = .ok (.aload_n 0, 1) := by decide +kernel
theorem dX12_tells_255 : decode cX12_tells 255 = .ok (.getfield 346, 3) := by decide +kernel
theorem dX12_tells_258 : decode cX12_tells 258 = .ok (.aload_n 0, 1) := by decide +kernel
theorem dX12_tells_259 : decode cX12_tells 259 = .ok (.getfield 379, 3) := by decide +kernel
theorem dX12_tells_262 : decode cX12_tells 262 = .ok (.if_icmp .ne 12, 3) := by decide +kernel
theorem dX12_tells_265 : decode cX12_tells 265 = .ok (.aload_n 0, 1) := by decide +kernel
theorem dX12_tells_266 : decode cX12_tells 266 = .ok (.getfield 122, 3) := by decide +kernel
theorem dX12_tells_269 : decode cX12_tells 269 = .ok (.iload_n 2, 1) := by decide +kernel
theorem dX12_tells_270 : decode cX12_tells 270 = .ok (.iaload, 1) := by decide +kernel
theorem dX12_tells_271 : decode cX12_tells 271 = .ok (.goto 9, 3) := by decide +kernel
theorem dX12_tells_274 : decode cX12_tells 274 = .ok (.aload_n 0, 1) := by decide +kernel
theorem dX12_tells_275 : decode cX12_tells 275 = .ok (.getfield 134, 3) := by decide +kernel
theorem dX12_tells_278 : decode cX12_tells 278 = .ok (.iload_n 2, 1) := by decide +kernel
theorem dX12_tells_279 : decode cX12_tells 279 = .ok (.iaload, 1) := by decide +kernel
theorem dX12_tells_280 : decode cX12_tells 280 = .ok (.iastore, 1) := by decide +kernel
theorem dX12_tells_281 : decode cX12_tells 281 = .ok (.iinc 2 1, 3) := by decide +kernel
theorem dX12_tells_284 : decode cX12_tells 284 = .ok (.goto (-122), 3) := by decide +kernel
theorem dX12_tells_287 : decode cX12_tells 287 = .ok (.iconst 0, 1) := by decide +kernel
theorem dX12_tells_288 : decode cX12_tells 288 = .ok (.istore_n 2, 1) := by decide +kernel
theorem dX12_tells_289 : decode cX12_tells 289 = .ok (.iload_n 2, 1) := by decide +kernel
theorem dX12_tells_290 : decode cX12_tells 290 = .ok (.aload_n 0, 1) := by decide +kernel
theorem dX12_tells_291 : decode cX12_tells 291 = .ok (.invokevirtual 270, 3) := by decide +kernel
theorem dX12_tells_294 : decode cX12_tells 294 = .ok (.if_icmp .ge 29, 3) := by decide +kernel
theorem dX12_tells_297 : decode cX12_tells 297 = .ok (.aload_n 0, 1) := by decide +kernel
theorem dX12_tells_298 : decode cX12_tells 298 = .ok (.getfield 131, 3) := by decide +kernel
theorem dX12_tells_301 : decode cX12_tells 301 = .ok (.bipush 121, 2) := by decide +kernel
theorem dX12_tells_303 : decode cX12_tells 303 = .ok (.iload_n 2, 1) := by decide +kernel
theorem dX12_tells_304 : decode cX12_tells 304 = .ok (.imul, 1) := by decide +kernel
theorem dX12_tells_305 : decode cX12_tells 305 = .ok (.aload_n 0, 1) := by decide +kernel
theorem dX12_tells_306 : decode cX12_tells 306 = .ok (.getfield 125, 3) := by decide +kernel
theorem dX12_tells_309 : decode cX12_tells 309 = .ok (.iload_n 2, 1) := by decide +kernel
theorem dX12_tells_310 : decode cX12_tells 310 = .ok (.iaload, 1) := by decide +kernel
theorem dX12_tells_311 : decode cX12_tells 311 = .ok (.iadd, 1) := by decide +kernel
theorem dX12_tells_312 : decode cX12_tells 312 = .ok (.dup2, 1) := by decide +kernel
theorem dX12_tells_313 : decode cX12_tells 313 = .ok (.iaload, 1) := by decide +kernel
theorem dX12_tells_314 : decode cX12_tells 314 = .ok (.iconst 1, 1) := by decide +kernel
theorem dX12_tells_315 : decode cX12_tells 315 = .ok (.iadd, 1) := by decide +kernel
theorem dX12_tells_316 : decode cX12_tells 316 = .ok (.iastore, 1) := by decide +kernel
theorem dX12_tells_317 : decode cX12_tells 317 = .ok (.iinc 2 1, 3) := by decide +kernel
theorem dX12_tells_320 : decode cX12_tells 320 = .ok (.goto (-31), 3) := by decide +kernel
theorem dX12_tells_323 : decode cX12_tells 323 = .ok (.aload_n 0, 1) := by decide +kernel
theorem dX12_tells_324 : decode cX12_tells 324 = .ok (.dup, 1) := by decide +kernel
theorem dX12_tells_325 : decode cX12_tells 325 = .ok (.getfield 346, 3) := by decide +kernel
theorem dX12_tells_328 : decode cX12_tells 328 = .ok (.iconst 1, 1) := by decide +kernel
theorem dX12_tells_329 : decode cX12_tells 329 = .ok (.iadd, 1) := by decide +kernel
theorem dX12_tells_330 : decode cX12_tells 330 = .ok (.putfield 346, 3) := by decide +kernel
theorem dX12_tells_333 : decode cX12_tells 333 = .ok (.return_, 1) := by decide +kernel
theorem dX12_gathers_0 : decode cX12_gathers 0 = .ok (.aload_n 0, 1) := by decide +kernel
theorem dX12_gathers_1 : decode cX12_gathers 1 = .ok (.invokevirtual 358, 3) := by decide +kernel
theorem dX12_gathers_4 : decode cX12_gathers 4 = .ok (.iconst 0, 1) := by decide +kernel
theorem dX12_gathers_5 : decode cX12_gathers 5 = .ok (.istore_n 1, 1) := by decide +kernel
theorem dX12_gathers_6 : decode cX12_gathers 6 = .ok (.iload_n 1, 1) := by decide +kernel
theorem dX12_gathers_7 : decode cX12_gathers 7 = .ok (.aload_n 0, 1) := by decide +kernel
theorem dX12_gathers_8 : decode cX12_gathers 8 = .ok (.invokevirtual 361, 3) := by decide +kernel
theorem dX12_gathers_11 : decode cX12_gathers 11 = .ok (.if_icmp .ge 25, 3) := by decide +kernel
theorem dX12_gathers_14 : decode cX12_gathers 14 = .ok (.aload_n 0, 1) := by decide +kernel
theorem dX12_gathers_15 : decode cX12_gathers 15 = .ok (.iload_n 1, 1) := by decide +kernel
theorem dX12_gathers_16 : decode cX12_gathers 16 = .ok (.invokevirtual 364, 3) := by decide +kernel
theorem dX12_gathers_19 : decode cX12_gathers 19 = .ok (.ifCond .eq 11, 3) := by decide +kernel
theorem dX12_gathers_22 : decode cX12_gathers 22 = .ok (.aload_n 0, 1) := by decide +kernel
theorem dX12_gathers_23 : decode cX12_gathers 23 = .ok (.invokevirtual 367, 3) := by decide +kernel
theorem dX12_gathers_26 : decode cX12_gathers 26 = .ok (.aload_n 0, 1) := by decide +kernel
theorem dX12_gathers_27 : decode cX12_gathers 27 = .ok (.invokevirtual 370, 3) := by decide +kernel
theorem dX12_gathers_30 : decode cX12_gathers 30 = .ok (.iinc 1 1, 3) := by decide +kernel
theorem dX12_gathers_33 : decode cX12_gathers 33 = .ok (.goto (-27), 3) := by decide +kernel
theorem dX12_gathers_36 : decode cX12_gathers 36 = .ok (.return_, 1) := by decide +kernel
theorem dX12_judged_0 : decode cX12_judged 0 = .ok (.aload_n 0, 1) := by decide +kernel
theorem dX12_judged_1 : decode cX12_judged 1 = .ok (.iconst 0, 1) := by decide +kernel
theorem dX12_judged_2 : decode cX12_judged 2 = .ok (.putfield 1, 3) := by decide +kernel
theorem dX12_judged_5 : decode cX12_judged 5 = .ok (.iload_n 1, 1) := by decide +kernel
theorem dX12_judged_6 : decode cX12_judged 6 = .ok (.iconst 0, 1) := by decide +kernel
theorem dX12_judged_7 : decode cX12_judged 7 = .ok (.iconst 2, 1) := by decide +kernel
theorem dX12_judged_8 : decode cX12_judged 8 = .ok (.invokestatic 321, 3) := by decide +kernel
theorem dX12_judged_11 : decode cX12_judged 11 = .ok (.ifCond .ne 6, 3) := by decide +kernel
theorem dX12_judged_14 : decode cX12_judged 14 = .ok (.bipush (-2), 2) := by decide +kernel
theorem dX12_judged_16 : decode cX12_judged 16 = .ok (.ireturn, 1) := by decide +kernel
theorem dX12_judged_17 : decode cX12_judged 17 = .ok (.iconst 0, 1) := by decide +kernel
theorem dX12_judged_18 : decode cX12_judged 18 = .ok (.istore_n 2, 1) := by decide +kernel
theorem dX12_judged_19 : decode cX12_judged 19 = .ok (.iload_n 2, 1) := by decide +kernel
theorem dX12_judged_20 : decode cX12_judged 20 = .ok (.bipush 12, 2) := by decide +kernel
theorem dX12_judged_22 : decode cX12_judged 22 = .ok (.if_icmp .ge 21, 3) := by decide +kernel
theorem dX12_judged_25 : decode cX12_judged 25 = .ok (.aload_n 0, 1) := by decide +kernel
theorem dX12_judged_26 : decode cX12_judged 26 = .ok (.getfield 119, 3) := by decide +kernel
theorem dX12_judged_29 : decode cX12_judged 29 = .ok (.iload_n 2, 1) := by decide +kernel
theorem dX12_judged_30 : decode cX12_judged 30 = .ok (.aload_n 0, 1) := by decide +kernel
theorem dX12_judged_31 : decode cX12_judged 31 = .ok (.getfield 103, 3) := by decide +kernel
theorem dX12_judged_34 : decode cX12_judged 34 = .ok (.iload_n 2, 1) := by decide +kernel
theorem dX12_judged_35 : decode cX12_judged 35 = .ok (.iaload, 1) := by decide +kernel
theorem dX12_judged_36 : decode cX12_judged 36 = .ok (.iastore, 1) := by decide +kernel
theorem dX12_judged_37 : decode cX12_judged 37 = .ok (.iinc 2 1, 3) := by decide +kernel
theorem dX12_judged_40 : decode cX12_judged 40 = .ok (.goto (-21), 3) := by decide +kernel
theorem dX12_judged_43 : decode cX12_judged 43 = .ok (.aload_n 0, 1) := by decide +kernel
theorem dX12_judged_44 : decode cX12_judged 44 = .ok (.invokevirtual 302, 3) := by decide +kernel
theorem dX12_judged_47 : decode cX12_judged 47 = .ok (.iconst (-1), 1) := by decide +kernel
theorem dX12_judged_48 : decode cX12_judged 48 = .ok (.istore_n 2, 1) := by decide +kernel
theorem dX12_judged_49 : decode cX12_judged 49 = .ok (.iconst (-1), 1) := by decide +kernel
theorem dX12_judged_50 : decode cX12_judged 50 = .ok (.istore_n 3, 1) := by decide +kernel
theorem dX12_judged_51 : decode cX12_judged 51 = .ok (.iconst 0, 1) := by decide +kernel
theorem dX12_judged_52 : decode cX12_judged 52 = .ok (.istore 4, 2) := by decide +kernel
theorem dX12_judged_54 : decode cX12_judged 54 = .ok (.iload 4, 2) := by decide +kernel
theorem dX12_judged_56 : decode cX12_judged 56 = .ok (.aload_n 0, 1) := by decide +kernel
theorem dX12_judged_57 : decode cX12_judged 57 = .ok (.getfield 94, 3) := by decide +kernel
theorem dX12_judged_60 : decode cX12_judged 60 = .ok (.iconst 0, 1) := by decide +kernel
theorem dX12_judged_61 : decode cX12_judged 61 = .ok (.iaload, 1) := by decide +kernel
theorem dX12_judged_62 : decode cX12_judged 62 = .ok (.if_icmp .ge 60, 3) := by decide +kernel
theorem dX12_judged_65 : decode cX12_judged 65 = .ok (.aload_n 0, 1) := by decide +kernel
theorem dX12_judged_66 : decode cX12_judged 66 = .ok (.iconst 1, 1) := by decide +kernel
theorem dX12_judged_67 : decode cX12_judged 67 = .ok (.iconst 4, 1) := by decide +kernel
theorem dX12_judged_68 : decode cX12_judged 68 = .ok (.iload 4, 2) := by decide +kernel
theorem dX12_judged_70 : decode cX12_judged 70 = .ok (.imul, 1) := by decide +kernel
theorem dX12_judged_71 : decode cX12_judged 71 = .ok (.iadd, 1) := by decide +kernel
theorem dX12_judged_72 : decode cX12_judged 72 = .ok (.invokevirtual 340, 3) := by decide +kernel
theorem dX12_judged_75 : decode cX12_judged 75 = .ok (.ifCond .ne 12, 3) := by decide +kernel
theorem dX12_judged_78 : decode cX12_judged 78 = .ok (.iload_n 2, 1) := by decide +kernel
theorem dX12_judged_79 : decode cX12_judged 79 = .ok (.ifCond .ge 8, 3) := by decide +kernel
theorem dX12_judged_82 : decode cX12_judged 82 = .ok (.iload 4, 2) := by decide +kernel
theorem dX12_judged_84 : decode cX12_judged 84 = .ok (.goto 4, 3) := by decide +kernel
theorem dX12_judged_87 : decode cX12_judged 87 = .ok (.iload_n 2, 1) := by decide +kernel
theorem dX12_judged_88 : decode cX12_judged 88 = .ok (.istore_n 2, 1) := by decide +kernel
theorem dX12_judged_89 : decode cX12_judged 89 = .ok (.iload_n 3, 1) := by decide +kernel
theorem dX12_judged_90 : decode cX12_judged 90 = .ok (.ifCond .ge 26, 3) := by decide +kernel
theorem dX12_judged_93 : decode cX12_judged 93 = .ok (.iload_n 1, 1) := by decide +kernel
theorem dX12_judged_94 : decode cX12_judged 94 = .ok (.iconst 1, 1) := by decide +kernel
theorem dX12_judged_95 : decode cX12_judged 95 = .ok (.if_icmp .ne 21, 3) := by decide +kernel
theorem dX12_judged_98 : decode cX12_judged 98 = .ok (.aload_n 0, 1) := by decide +kernel
theorem dX12_judged_99 : decode cX12_judged 99 = .ok (.invokevirtual 343, 3) := by decide +kernel
theorem dX12_judged_102 : decode cX12_judged 102 = .ok (.aload_n 0, 1) := by decide +kernel
theorem dX12_judged_103 : decode cX12_judged 103 = .ok (.getfield 346, 3) := by decide +kernel
theorem dX12_judged_106 : decode cX12_judged 106 = .ok (.ifCond .ne 8, 3) := by decide +kernel
theorem dX12_judged_109 : decode cX12_judged 109 = .ok (.iload 4, 2) := by decide +kernel
theorem dX12_judged_111 : decode cX12_judged 111 = .ok (.goto 4, 3) := by decide +kernel
theorem dX12_judged_114 : decode cX12_judged 114 = .ok (.iload_n 3, 1) := by decide +kernel
theorem dX12_judged_115 : decode cX12_judged 115 = .ok (.istore_n 3, 1) := by decide +kernel
theorem dX12_judged_116 : decode cX12_judged 116 = .ok (.iinc 4 1, 3) := by decide +kernel
theorem dX12_judged_119 : decode cX12_judged 119 = .ok (.goto (-65), 3) := by decide +kernel
theorem dX12_judged_122 : decode cX12_judged 122 = .ok (.aload_n 0, 1) := by decide +kernel
theorem dX12_judged_123 : decode cX12_judged 123 = .ok (.invokevirtual 343, 3) := by decide +kernel
theorem dX12_judged_126 : decode cX12_judged 126 = .ok (.iconst 0, 1) := by decide +kernel
theorem dX12_judged_127 : decode cX12_judged 127 = .ok (.istore 4, 2) := by decide +kernel
theorem dX12_judged_129 : decode cX12_judged 129 = .ok (.iload 4, 2) := by decide +kernel
theorem dX12_judged_131 : decode cX12_judged 131 = .ok (.bipush 12, 2) := by decide +kernel
theorem dX12_judged_133 : decode cX12_judged 133 = .ok (.if_icmp .ge 23, 3) := by decide +kernel
theorem dX12_judged_136 : decode cX12_judged 136 = .ok (.aload_n 0, 1) := by decide +kernel
theorem dX12_judged_137 : decode cX12_judged 137 = .ok (.getfield 103, 3) := by decide +kernel
theorem dX12_judged_140 : decode cX12_judged 140 = .ok (.iload 4, 2) := by decide +kernel
theorem dX12_judged_142 : decode cX12_judged 142 = .ok (.aload_n 0, 1) := by decide +kernel
theorem dX12_judged_143 : decode cX12_judged 143 = .ok (.getfield 119, 3) := by decide +kernel
theorem dX12_judged_146 : decode cX12_judged 146 = .ok (.iload 4, 2) := by decide +kernel
theorem dX12_judged_148 : decode cX12_judged 148 = .ok (.iaload, 1) := by decide +kernel
theorem dX12_judged_149 : decode cX12_judged 149 = .ok (.iastore, 1) := by decide +kernel
theorem dX12_judged_150 : decode cX12_judged 150 = .ok (.iinc 4 1, 3) := by decide +kernel
theorem dX12_judged_153 : decode cX12_judged 153 = .ok (.goto (-24), 3) := by decide +kernel
theorem dX12_judged_156 : decode cX12_judged 156 = .ok (.iload_n 1, 1) := by decide +kernel
theorem dX12_judged_157 : decode cX12_judged 157 = .ok (.ifCond .ne 7, 3) := by decide +kernel
theorem dX12_judged_160 : decode cX12_judged 160 = .ok (.iload_n 2, 1) := by decide +kernel
theorem dX12_judged_161 : decode cX12_judged 161 = .ok (.goto 16, 3) := by decide +kernel
theorem dX12_judged_164 : decode cX12_judged 164 = .ok (.iload_n 1, 1) := by decide +kernel
theorem dX12_judged_165 : decode cX12_judged 165 = .ok (.iconst 1, 1) := by decide +kernel
theorem dX12_judged_166 : decode cX12_judged 166 = .ok (.if_icmp .ne 7, 3) := by decide +kernel
theorem dX12_judged_169 : decode cX12_judged 169 = .ok (.iload_n 3, 1) := by decide +kernel
theorem dX12_judged_170 : decode cX12_judged 170 = .ok (.goto 7, 3) := by decide +kernel
theorem dX12_judged_173 : decode cX12_judged 173 = .ok (.aload_n 0, 1) := by decide +kernel
theorem dX12_judged_174 : decode cX12_judged 174 = .ok (.getfield 346, 3) := by decide +kernel
theorem dX12_judged_177 : decode cX12_judged 177 = .ok (.ireturn, 1) := by decide +kernel
theorem dX12_fits_0 : decode cX12_fits 0 = .ok (.aload_n 0, 1) := by decide +kernel
theorem dX12_fits_1 : decode cX12_fits 1 = .ok (.iconst 0, 1) := by decide +kernel
theorem dX12_fits_2 : decode cX12_fits 2 = .ok (.putfield 1, 3) := by decide +kernel
theorem dX12_fits_5 : decode cX12_fits 5 = .ok (.aload_n 0, 1) := by decide +kernel
theorem dX12_fits_6 : decode cX12_fits 6 = .ok (.invokevirtual 343, 3) := by decide +kernel
theorem dX12_fits_9 : decode cX12_fits 9 = .ok (.aload_n 0, 1) := by decide +kernel
theorem dX12_fits_10 : decode cX12_fits 10 = .ok (.getfield 346, 3) := by decide +kernel
theorem dX12_fits_13 : decode cX12_fits 13 = .ok (.ireturn, 1) := by decide +kernel
theorem dX12_entry_0 : decode cX12_entry 0 = .ok (.aload_n 0, 1) := by decide +kernel
theorem dX12_entry_1 : decode cX12_entry 1 = .ok (.iconst 0, 1) := by decide +kernel
theorem dX12_entry_2 : decode cX12_entry 2 = .ok (.putfield 1, 3) := by decide +kernel
theorem dX12_entry_5 : decode cX12_entry 5 = .ok (.aload_n 0, 1) := by decide +kernel
theorem dX12_entry_6 : decode cX12_entry 6 = .ok (.iload_n 1, 1) := by decide +kernel
theorem dX12_entry_7 : decode cX12_entry 7 = .ok (.putfield 379, 3) := by decide +kernel
theorem dX12_entry_10 : decode cX12_entry 10 = .ok (.aload_n 0, 1) := by decide +kernel
theorem dX12_entry_11 : decode cX12_entry 11 = .ok (.invokevirtual 343, 3) := by decide +kernel
theorem dX12_entry_14 : decode cX12_entry 14 = .ok (.aload_n 0, 1) := by decide +kernel
theorem dX12_entry_15 : decode cX12_entry 15 = .ok (.iload_n 2, 1) := by decide +kernel
theorem dX12_entry_16 : decode cX12_entry 16 = .ok (.invokevirtual 318, 3) := by decide +kernel
theorem dX12_entry_19 : decode cX12_entry 19 = .ok (.ifCond .eq 26, 3) := by decide +kernel
theorem dX12_entry_22 : decode cX12_entry 22 = .ok (.iload_n 1, 1) := by decide +kernel
theorem dX12_entry_23 : decode cX12_entry 23 = .ok (.iconst 0, 1) := by decide +kernel
theorem dX12_entry_24 : decode cX12_entry 24 = .ok (.aload_n 0, 1) := by decide +kernel
theorem dX12_entry_25 : decode cX12_entry 25 = .ok (.getfield 346, 3) := by decide +kernel
theorem dX12_entry_28 : decode cX12_entry 28 = .ok (.iconst 1, 1) := by decide +kernel
theorem dX12_entry_29 : decode cX12_entry 29 = .ok (.isub, 1) := by decide +kernel
theorem dX12_entry_30 : decode cX12_entry 30 = .ok (.invokestatic 321, 3) := by decide +kernel
theorem dX12_entry_33 : decode cX12_entry 33 = .ok (.ifCond .eq 12, 3) := by decide +kernel
theorem dX12_entry_36 : decode cX12_entry 36 = .ok (.aload_n 0, 1) := by decide +kernel
theorem dX12_entry_37 : decode cX12_entry 37 = .ok (.getfield 134, 3) := by decide +kernel
theorem dX12_entry_40 : decode cX12_entry 40 = .ok (.iload_n 2, 1) := by decide +kernel
theorem dX12_entry_41 : decode cX12_entry 41 = .ok (.iaload, 1) := by decide +kernel
theorem dX12_entry_42 : decode cX12_entry 42 = .ok (.goto 4, 3) := by decide +kernel
theorem dX12_entry_45 : decode cX12_entry 45 = .ok (.iconst (-1), 1) := by decide +kernel
theorem dX12_entry_46 : decode cX12_entry 46 = .ok (.ireturn, 1) := by decide +kernel
theorem dX12_could_0 : decode cX12_could 0 = .ok (.aload_n 0, 1) := by decide +kernel
theorem dX12_could_1 : decode cX12_could 1 = .ok (.iconst 0, 1) := by decide +kernel
theorem dX12_could_2 : decode cX12_could 2 = .ok (.putfield 1, 3) := by decide +kernel
theorem dX12_could_5 : decode cX12_could 5 = .ok (.aload_n 0, 1) := by decide +kernel
theorem dX12_could_6 : decode cX12_could 6 = .ok (.invokevirtual 343, 3) := by decide +kernel
theorem dX12_could_9 : decode cX12_could 9 = .ok (.iconst 0, 1) := by decide +kernel
theorem dX12_could_10 : decode cX12_could 10 = .ok (.istore_n 2, 1) := by decide +kernel
theorem dX12_could_11 : decode cX12_could 11 = .ok (.iconst 0, 1) := by decide +kernel
theorem dX12_could_12 : decode cX12_could 12 = .ok (.istore_n 3, 1) := by decide +kernel
theorem dX12_could_13 : decode cX12_could 13 = .ok (.iload_n 3, 1) := by decide +kernel
theorem dX12_could_14 : decode cX12_could 14 = .ok (.bipush 9, 2) := by decide +kernel
theorem dX12_could_16 : decode cX12_could 16 = .ok (.if_icmp .ge 41, 3) := by decide +kernel
theorem dX12_could_19 : decode cX12_could 19 = .ok (.aload_n 0, 1) := by decide +kernel
theorem dX12_could_20 : decode cX12_could 20 = .ok (.iload_n 1, 1) := by decide +kernel
theorem dX12_could_21 : decode cX12_could 21 = .ok (.invokevirtual 318, 3) := by decide +kernel
theorem dX12_could_24 : decode cX12_could 24 = .ok (.ifCond .eq 33, 3) := by decide +kernel
theorem dX12_could_27 : decode cX12_could 27 = .ok (.iload_n 2, 1) := by decide +kernel
theorem dX12_could_28 : decode cX12_could 28 = .ok (.aload_n 0, 1) := by decide +kernel
theorem dX12_could_29 : decode cX12_could 29 = .ok (.getfield 128, 3) := by decide +kernel
theorem dX12_could_32 : decode cX12_could 32 = .ok (.bipush 9, 2) := by decide +kernel
theorem dX12_could_34 : decode cX12_could 34 = .ok (.iload_n 1, 1) := by decide +kernel
theorem dX12_could_35 : decode cX12_could 35 = .ok (.imul, 1) := by decide +kernel
theorem dX12_could_36 : decode cX12_could 36 = .ok (.iload_n 3, 1) := by decide +kernel
theorem dX12_could_37 : decode cX12_could 37 = .ok (.iadd, 1) := by decide +kernel
theorem dX12_could_38 : decode cX12_could 38 = .ok (.iaload, 1) := by decide +kernel
theorem dX12_could_39 : decode cX12_could 39 = .ok (.ifCond .le 9, 3) := by decide +kernel
theorem dX12_could_42 : decode cX12_could 42 = .ok (.iconst 1, 1) := by decide +kernel
theorem dX12_could_43 : decode cX12_could 43 = .ok (.iload_n 3, 1) := by decide +kernel
theorem dX12_could_44 : decode cX12_could 44 = .ok (.ishl, 1) := by decide +kernel
theorem dX12_could_45 : decode cX12_could 45 = .ok (.goto 4, 3) := by decide +kernel
theorem dX12_could_48 : decode cX12_could 48 = .ok (.iconst 0, 1) := by decide +kernel
theorem dX12_could_49 : decode cX12_could 49 = .ok (.ior, 1) := by decide +kernel
theorem dX12_could_50 : decode cX12_could 50 = .ok (.istore_n 2, 1) := by decide +kernel
theorem dX12_could_51 : decode cX12_could 51 = .ok (.iinc 3 1, 3) := by decide +kernel
theorem dX12_could_54 : decode cX12_could 54 = .ok (.goto (-41), 3) := by decide +kernel
theorem dX12_could_57 : decode cX12_could 57 = .ok (.aload_n 0, 1) := by decide +kernel
theorem dX12_could_58 : decode cX12_could 58 = .ok (.iload_n 1, 1) := by decide +kernel
theorem dX12_could_59 : decode cX12_could 59 = .ok (.invokevirtual 318, 3) := by decide +kernel
theorem dX12_could_62 : decode cX12_could 62 = .ok (.ifCond .eq 7, 3) := by decide +kernel
theorem dX12_could_65 : decode cX12_could 65 = .ok (.iload_n 2, 1) := by decide +kernel
theorem dX12_could_66 : decode cX12_could 66 = .ok (.goto 4, 3) := by decide +kernel
theorem dX12_could_69 : decode cX12_could 69 = .ok (.iconst (-1), 1) := by decide +kernel
theorem dX12_could_70 : decode cX12_could 70 = .ok (.ireturn, 1) := by decide +kernel
theorem dX12_sureOf_0 : decode cX12_sureOf 0 = .ok (.iconst (-1), 1) := by decide +kernel
theorem dX12_sureOf_1 : decode cX12_sureOf 1 = .ok (.istore_n 2, 1) := by decide +kernel
theorem dX12_sureOf_2 : decode cX12_sureOf 2 = .ok (.iconst 0, 1) := by decide +kernel
theorem dX12_sureOf_3 : decode cX12_sureOf 3 = .ok (.istore_n 3, 1) := by decide +kernel
theorem dX12_sureOf_4 : decode cX12_sureOf 4 = .ok (.iload_n 3, 1) := by decide +kernel
theorem dX12_sureOf_5 : decode cX12_sureOf 5 = .ok (.bipush 9, 2) := by decide +kernel
theorem dX12_sureOf_7 : decode cX12_sureOf 7 = .ok (.if_icmp .ge 40, 3) := by decide +kernel
theorem dX12_sureOf_10 : decode cX12_sureOf 10 = .ok (.aload_n 0, 1) := by decide +kernel
theorem dX12_sureOf_11 : decode cX12_sureOf 11 = .ok (.getfield 346, 3) := by decide +kernel
theorem dX12_sureOf_14 : decode cX12_sureOf 14 = .ok (.ifCond .le 33, 3) := by decide +kernel
theorem dX12_sureOf_17 : decode cX12_sureOf 17 = .ok (.aload_n 0, 1) := by decide +kernel
theorem dX12_sureOf_18 : decode cX12_sureOf 18 = .ok (.getfield 128, 3) := by decide +kernel
theorem dX12_sureOf_21 : decode cX12_sureOf 21 = .ok (.bipush 9, 2) := by decide +kernel
theorem dX12_sureOf_23 : decode cX12_sureOf 23 = .ok (.iload_n 1, 1) := by decide +kernel
theorem dX12_sureOf_24 : decode cX12_sureOf 24 = .ok (.imul, 1) := by decide +kernel
theorem dX12_sureOf_25 : decode cX12_sureOf 25 = .ok (.iload_n 3, 1) := by decide +kernel
theorem dX12_sureOf_26 : decode cX12_sureOf 26 = .ok (.iadd, 1) := by decide +kernel
theorem dX12_sureOf_27 : decode cX12_sureOf 27 = .ok (.iaload, 1) := by decide +kernel
theorem dX12_sureOf_28 : decode cX12_sureOf 28 = .ok (.aload_n 0, 1) := by decide +kernel
theorem dX12_sureOf_29 : decode cX12_sureOf 29 = .ok (.getfield 346, 3) := by decide +kernel
theorem dX12_sureOf_32 : decode cX12_sureOf 32 = .ok (.if_icmp .ne 7, 3) := by decide +kernel
theorem dX12_sureOf_35 : decode cX12_sureOf 35 = .ok (.iload_n 3, 1) := by decide +kernel
theorem dX12_sureOf_36 : decode cX12_sureOf 36 = .ok (.goto 4, 3) := by decide +kernel
theorem dX12_sureOf_39 : decode cX12_sureOf 39 = .ok (.iload_n 2, 1) := by decide +kernel
theorem dX12_sureOf_40 : decode cX12_sureOf 40 = .ok (.istore_n 2, 1) := by decide +kernel
theorem dX12_sureOf_41 : decode cX12_sureOf 41 = .ok (.iinc 3 1, 3) := by decide +kernel
theorem dX12_sureOf_44 : decode cX12_sureOf 44 = .ok (.goto (-40), 3) := by decide +kernel
theorem dX12_sureOf_47 : decode cX12_sureOf 47 = .ok (.iload_n 2, 1) := by decide +kernel
theorem dX12_sureOf_48 : decode cX12_sureOf 48 = .ok (.ireturn, 1) := by decide +kernel
theorem dX12_sure_0 : decode cX12_sure 0 = .ok (.aload_n 0, 1) := by decide +kernel
theorem dX12_sure_1 : decode cX12_sure 1 = .ok (.iconst 0, 1) := by decide +kernel
theorem dX12_sure_2 : decode cX12_sure 2 = .ok (.putfield 1, 3) := by decide +kernel
theorem dX12_sure_5 : decode cX12_sure 5 = .ok (.aload_n 0, 1) := by decide +kernel
theorem dX12_sure_6 : decode cX12_sure 6 = .ok (.invokevirtual 343, 3) := by decide +kernel
theorem dX12_sure_9 : decode cX12_sure 9 = .ok (.aload_n 0, 1) := by decide +kernel
theorem dX12_sure_10 : decode cX12_sure 10 = .ok (.iload_n 1, 1) := by decide +kernel
theorem dX12_sure_11 : decode cX12_sure 11 = .ok (.invokevirtual 318, 3) := by decide +kernel
theorem dX12_sure_14 : decode cX12_sure 14 = .ok (.ifCond .eq 11, 3) := by decide +kernel
theorem dX12_sure_17 : decode cX12_sure 17 = .ok (.aload_n 0, 1) := by decide +kernel
theorem dX12_sure_18 : decode cX12_sure 18 = .ok (.iload_n 1, 1) := by decide +kernel
theorem dX12_sure_19 : decode cX12_sure 19 = .ok (.invokevirtual 382, 3) := by decide +kernel
theorem dX12_sure_22 : decode cX12_sure 22 = .ok (.goto 4, 3) := by decide +kernel
theorem dX12_sure_25 : decode cX12_sure 25 = .ok (.iconst (-1), 1) := by decide +kernel
theorem dX12_sure_26 : decode cX12_sure 26 = .ok (.ireturn, 1) := by decide +kernel
theorem dX12_fixed_0 : decode cX12_fixed 0 = .ok (.aload_n 0, 1) := by decide +kernel
theorem dX12_fixed_1 : decode cX12_fixed 1 = .ok (.iconst 0, 1) := by decide +kernel
theorem dX12_fixed_2 : decode cX12_fixed 2 = .ok (.putfield 1, 3) := by decide +kernel
theorem dX12_fixed_5 : decode cX12_fixed 5 = .ok (.aload_n 0, 1) := by decide +kernel
theorem dX12_fixed_6 : decode cX12_fixed 6 = .ok (.invokevirtual 343, 3) := by decide +kernel
theorem dX12_fixed_9 : decode cX12_fixed 9 = .ok (.iconst 0, 1) := by decide +kernel
theorem dX12_fixed_10 : decode cX12_fixed 10 = .ok (.istore_n 1, 1) := by decide +kernel
theorem dX12_fixed_11 : decode cX12_fixed 11 = .ok (.iconst 0, 1) := by decide +kernel
theorem dX12_fixed_12 : decode cX12_fixed 12 = .ok (.istore_n 2, 1) := by decide +kernel
theorem dX12_fixed_13 : decode cX12_fixed 13 = .ok (.iload_n 2, 1) := by decide +kernel
theorem dX12_fixed_14 : decode cX12_fixed 14 = .ok (.aload_n 0, 1) := by decide +kernel
theorem dX12_fixed_15 : decode cX12_fixed 15 = .ok (.invokevirtual 266, 3) := by decide +kernel
theorem dX12_fixed_18 : decode cX12_fixed 18 = .ok (.if_icmp .ge 27, 3) := by decide +kernel
theorem dX12_fixed_21 : decode cX12_fixed 21 = .ok (.iload_n 1, 1) := by decide +kernel
theorem dX12_fixed_22 : decode cX12_fixed 22 = .ok (.aload_n 0, 1) := by decide +kernel
theorem dX12_fixed_23 : decode cX12_fixed 23 = .ok (.iload_n 2, 1) := by decide +kernel
theorem dX12_fixed_24 : decode cX12_fixed 24 = .ok (.invokevirtual 382, 3) := by decide +kernel
theorem dX12_fixed_27 : decode cX12_fixed 27 = .ok (.ifCond .lt 9, 3) := by decide +kernel
theorem dX12_fixed_30 : decode cX12_fixed 30 = .ok (.iconst 1, 1) := by decide +kernel
theorem dX12_fixed_31 : decode cX12_fixed 31 = .ok (.iload_n 2, 1) := by decide +kernel
theorem dX12_fixed_32 : decode cX12_fixed 32 = .ok (.ishl, 1) := by decide +kernel
theorem dX12_fixed_33 : decode cX12_fixed 33 = .ok (.goto 4, 3) := by decide +kernel
theorem dX12_fixed_36 : decode cX12_fixed 36 = .ok (.iconst 0, 1) := by decide +kernel
theorem dX12_fixed_37 : decode cX12_fixed 37 = .ok (.ior, 1) := by decide +kernel
theorem dX12_fixed_38 : decode cX12_fixed 38 = .ok (.istore_n 1, 1) := by decide +kernel
theorem dX12_fixed_39 : decode cX12_fixed 39 = .ok (.iinc 2 1, 3) := by decide +kernel
theorem dX12_fixed_42 : decode cX12_fixed 42 = .ok (.goto (-29), 3) := by decide +kernel
theorem dX12_fixed_45 : decode cX12_fixed 45 = .ok (.iload_n 1, 1) := by decide +kernel
theorem dX12_fixed_46 : decode cX12_fixed 46 = .ok (.ireturn, 1) := by decide +kernel
theorem dX12_with_0 : decode cX12_with 0 = .ok (.aload_n 0, 1) := by decide +kernel
theorem dX12_with_1 : decode cX12_with 1 = .ok (.iconst 0, 1) := by decide +kernel
theorem dX12_with_2 : decode cX12_with 2 = .ok (.putfield 1, 3) := by decide +kernel
theorem dX12_with_5 : decode cX12_with 5 = .ok (.aload_n 0, 1) := by decide +kernel
theorem dX12_with_6 : decode cX12_with 6 = .ok (.invokevirtual 343, 3) := by decide +kernel
theorem dX12_with_9 : decode cX12_with 9 = .ok (.aload_n 0, 1) := by decide +kernel
theorem dX12_with_10 : decode cX12_with 10 = .ok (.iload_n 1, 1) := by decide +kernel
theorem dX12_with_11 : decode cX12_with 11 = .ok (.invokevirtual 318, 3) := by decide +kernel
theorem dX12_with_14 : decode cX12_with 14 = .ok (.ifCond .eq 39, 3) := by decide +kernel
theorem dX12_with_17 : decode cX12_with 17 = .ok (.iload_n 2, 1) := by decide +kernel
theorem dX12_with_18 : decode cX12_with 18 = .ok (.iconst 0, 1) := by decide +kernel
theorem dX12_with_19 : decode cX12_with 19 = .ok (.iconst 2, 1) := by decide +kernel
theorem dX12_with_20 : decode cX12_with 20 = .ok (.invokestatic 321, 3) := by decide +kernel
theorem dX12_with_23 : decode cX12_with 23 = .ok (.ifCond .eq 30, 3) := by decide +kernel
theorem dX12_with_26 : decode cX12_with 26 = .ok (.iload_n 3, 1) := by decide +kernel
theorem dX12_with_27 : decode cX12_with 27 = .ok (.iconst 0, 1) := by decide +kernel
theorem dX12_with_28 : decode cX12_with 28 = .ok (.iconst 2, 1) := by decide +kernel
theorem dX12_with_29 : decode cX12_with 29 = .ok (.invokestatic 321, 3) := by decide +kernel
theorem dX12_with_32 : decode cX12_with 32 = .ok (.ifCond .eq 21, 3) := by decide +kernel
theorem dX12_with_35 : decode cX12_with 35 = .ok (.aload_n 0, 1) := by decide +kernel
theorem dX12_with_36 : decode cX12_with 36 = .ok (.getfield 128, 3) := by decide +kernel
theorem dX12_with_39 : decode cX12_with 39 = .ok (.bipush 9, 2) := by decide +kernel
theorem dX12_with_41 : decode cX12_with 41 = .ok (.iload_n 1, 1) := by decide +kernel
theorem dX12_with_42 : decode cX12_with 42 = .ok (.imul, 1) := by decide +kernel
theorem dX12_with_43 : decode cX12_with 43 = .ok (.iconst 3, 1) := by decide +kernel
theorem dX12_with_44 : decode cX12_with 44 = .ok (.iload_n 2, 1) := by decide +kernel
theorem dX12_with_45 : decode cX12_with 45 = .ok (.imul, 1) := by decide +kernel
theorem dX12_with_46 : decode cX12_with 46 = .ok (.iadd, 1) := by decide +kernel
theorem dX12_with_47 : decode cX12_with 47 = .ok (.iload_n 3, 1) := by decide +kernel
theorem dX12_with_48 : decode cX12_with 48 = .ok (.iadd, 1) := by decide +kernel
theorem dX12_with_49 : decode cX12_with 49 = .ok (.iaload, 1) := by decide +kernel
theorem dX12_with_50 : decode cX12_with 50 = .ok (.goto 4, 3) := by decide +kernel
theorem dX12_with_53 : decode cX12_with 53 = .ok (.iconst (-1), 1) := by decide +kernel
theorem dX12_with_54 : decode cX12_with 54 = .ok (.ireturn, 1) := by decide +kernel
theorem dX12_leastBehind_0 : decode cX12_leastBehind 0 = .ok (.iconst (-1), 1) := by decide +kernel
theorem dX12_leastBehind_1 : decode cX12_leastBehind 1 = .ok (.istore_n 2, 1) := by decide +kernel
theorem dX12_leastBehind_2 : decode cX12_leastBehind 2 = .ok (.bipush 120, 2) := by decide +kernel
theorem dX12_leastBehind_4 : decode cX12_leastBehind 4 = .ok (.istore_n 3, 1) := by decide +kernel
theorem dX12_leastBehind_5 : decode cX12_leastBehind 5 = .ok (.iload_n 3, 1) := by decide +kernel
theorem dX12_leastBehind_6 : decode cX12_leastBehind 6 = .ok (.ifCond .lt 29, 3) := by decide +kernel
theorem dX12_leastBehind_9 : decode cX12_leastBehind 9 = .ok (.aload_n 0, 1) := by decide +kernel
theorem dX12_leastBehind_10 : decode cX12_leastBehind 10 = .ok (.getfield 131, 3) := by decide +kernel
theorem dX12_leastBehind_13 : decode cX12_leastBehind 13 = .ok (.bipush 121, 2) := by decide +kernel
theorem dX12_leastBehind_15 : decode cX12_leastBehind 15 = .ok (.iload_n 1, 1) := by decide +kernel
theorem dX12_leastBehind_16 : decode cX12_leastBehind 16 = .ok (.imul, 1) := by decide +kernel
theorem dX12_leastBehind_17 : decode cX12_leastBehind 17 = .ok (.iload_n 3, 1) := by decide +kernel
theorem dX12_leastBehind_18 : decode cX12_leastBehind 18 = .ok (.iadd, 1) := by decide +kernel
theorem dX12_leastBehind_19 : decode cX12_leastBehind 19 = .ok (.iaload, 1) := by decide +kernel
theorem dX12_leastBehind_20 : decode cX12_leastBehind 20 = .ok (.ifCond .le 7, 3) := by decide +kernel
theorem dX12_leastBehind_23 : decode cX12_leastBehind 23 = .ok (.iload_n 3, 1) := by decide +kernel
theorem dX12_leastBehind_24 : decode cX12_leastBehind 24 = .ok (.goto 4, 3) := by decide +kernel
theorem dX12_leastBehind_27 : decode cX12_leastBehind 27 = .ok (.iload_n 2, 1) := by decide +kernel
theorem dX12_leastBehind_28 : decode cX12_leastBehind 28 = .ok (.istore_n 2, 1) := by decide +kernel
theorem dX12_leastBehind_29 : decode cX12_leastBehind 29 = .ok (.iinc 3 (-1), 3) := by decide +kernel
theorem dX12_leastBehind_32 : decode cX12_leastBehind 32 = .ok (.goto (-27), 3) := by decide +kernel
theorem dX12_leastBehind_35 : decode cX12_leastBehind 35 = .ok (.iload_n 2, 1) := by decide +kernel
theorem dX12_leastBehind_36 : decode cX12_leastBehind 36 = .ok (.ireturn, 1) := by decide +kernel
theorem dX12_mostBehind_0 : decode cX12_mostBehind 0 = .ok (.iconst (-1), 1) := by decide +kernel
theorem dX12_mostBehind_1 : decode cX12_mostBehind 1 = .ok (.istore_n 2, 1) := by decide +kernel
theorem dX12_mostBehind_2 : decode cX12_mostBehind 2 = .ok (.iconst 0, 1) := by decide +kernel
theorem dX12_mostBehind_3 : decode cX12_mostBehind 3 = .ok (.istore_n 3, 1) := by decide +kernel
theorem dX12_mostBehind_4 : decode cX12_mostBehind 4 = .ok (.iload_n 3, 1) := by decide +kernel
theorem dX12_mostBehind_5 : decode cX12_mostBehind 5 = .ok (.bipush 120, 2) := by decide +kernel
theorem dX12_mostBehind_7 : decode cX12_mostBehind 7 = .ok (.if_icmp .gt 29, 3) := by decide +kernel
theorem dX12_mostBehind_10 : decode cX12_mostBehind 10 = .ok (.aload_n 0, 1) := by decide +kernel
theorem dX12_mostBehind_11 : decode cX12_mostBehind 11 = .ok (.getfield 131, 3) := by decide +kernel
theorem dX12_mostBehind_14 : decode cX12_mostBehind 14 = .ok (.bipush 121, 2) := by decide +kernel
theorem dX12_mostBehind_16 : decode cX12_mostBehind 16 = .ok (.iload_n 1, 1) := by decide +kernel
theorem dX12_mostBehind_17 : decode cX12_mostBehind 17 = .ok (.imul, 1) := by decide +kernel
theorem dX12_mostBehind_18 : decode cX12_mostBehind 18 = .ok (.iload_n 3, 1) := by decide +kernel
theorem dX12_mostBehind_19 : decode cX12_mostBehind 19 = .ok (.iadd, 1) := by decide +kernel
theorem dX12_mostBehind_20 : decode cX12_mostBehind 20 = .ok (.iaload, 1) := by decide +kernel
theorem dX12_mostBehind_21 : decode cX12_mostBehind 21 = .ok (.ifCond .le 7, 3) := by decide +kernel
theorem dX12_mostBehind_24 : decode cX12_mostBehind 24 = .ok (.iload_n 3, 1) := by decide +kernel
theorem dX12_mostBehind_25 : decode cX12_mostBehind 25 = .ok (.goto 4, 3) := by decide +kernel
theorem dX12_mostBehind_28 : decode cX12_mostBehind 28 = .ok (.iload_n 2, 1) := by decide +kernel
theorem dX12_mostBehind_29 : decode cX12_mostBehind 29 = .ok (.istore_n 2, 1) := by decide +kernel
theorem dX12_mostBehind_30 : decode cX12_mostBehind 30 = .ok (.iinc 3 1, 3) := by decide +kernel
theorem dX12_mostBehind_33 : decode cX12_mostBehind 33 = .ok (.goto (-29), 3) := by decide +kernel
theorem dX12_mostBehind_36 : decode cX12_mostBehind 36 = .ok (.iload_n 2, 1) := by decide +kernel
theorem dX12_mostBehind_37 : decode cX12_mostBehind 37 = .ok (.ireturn, 1) := by decide +kernel
theorem dX12_least_0 : decode cX12_least 0 = .ok (.aload_n 0, 1) := by decide +kernel
theorem dX12_least_1 : decode cX12_least 1 = .ok (.iconst 0, 1) := by decide +kernel
theorem dX12_least_2 : decode cX12_least 2 = .ok (.putfield 1, 3) := by decide +kernel
theorem dX12_least_5 : decode cX12_least 5 = .ok (.aload_n 0, 1) := by decide +kernel
theorem dX12_least_6 : decode cX12_least 6 = .ok (.invokevirtual 343, 3) := by decide +kernel
theorem dX12_least_9 : decode cX12_least 9 = .ok (.aload_n 0, 1) := by decide +kernel
theorem dX12_least_10 : decode cX12_least 10 = .ok (.iload_n 1, 1) := by decide +kernel
theorem dX12_least_11 : decode cX12_least 11 = .ok (.invokevirtual 325, 3) := by decide +kernel
theorem dX12_least_14 : decode cX12_least 14 = .ok (.ifCond .eq 11, 3) := by decide +kernel
theorem dX12_least_17 : decode cX12_least 17 = .ok (.aload_n 0, 1) := by decide +kernel
theorem dX12_least_18 : decode cX12_least 18 = .ok (.iload_n 1, 1) := by decide +kernel
theorem dX12_least_19 : decode cX12_least 19 = .ok (.invokevirtual 385, 3) := by decide +kernel
theorem dX12_least_22 : decode cX12_least 22 = .ok (.goto 4, 3) := by decide +kernel
theorem dX12_least_25 : decode cX12_least 25 = .ok (.iconst (-1), 1) := by decide +kernel
theorem dX12_least_26 : decode cX12_least 26 = .ok (.ireturn, 1) := by decide +kernel
theorem dX12_most_0 : decode cX12_most 0 = .ok (.aload_n 0, 1) := by decide +kernel
theorem dX12_most_1 : decode cX12_most 1 = .ok (.iconst 0, 1) := by decide +kernel
theorem dX12_most_2 : decode cX12_most 2 = .ok (.putfield 1, 3) := by decide +kernel
theorem dX12_most_5 : decode cX12_most 5 = .ok (.aload_n 0, 1) := by decide +kernel
theorem dX12_most_6 : decode cX12_most 6 = .ok (.invokevirtual 343, 3) := by decide +kernel
theorem dX12_most_9 : decode cX12_most 9 = .ok (.aload_n 0, 1) := by decide +kernel
theorem dX12_most_10 : decode cX12_most 10 = .ok (.iload_n 1, 1) := by decide +kernel
theorem dX12_most_11 : decode cX12_most 11 = .ok (.invokevirtual 325, 3) := by decide +kernel
theorem dX12_most_14 : decode cX12_most 14 = .ok (.ifCond .eq 11, 3) := by decide +kernel
theorem dX12_most_17 : decode cX12_most 17 = .ok (.aload_n 0, 1) := by decide +kernel
theorem dX12_most_18 : decode cX12_most 18 = .ok (.iload_n 1, 1) := by decide +kernel
theorem dX12_most_19 : decode cX12_most 19 = .ok (.invokevirtual 388, 3) := by decide +kernel
theorem dX12_most_22 : decode cX12_most 22 = .ok (.goto 4, 3) := by decide +kernel
theorem dX12_most_25 : decode cX12_most 25 = .ok (.iconst (-1), 1) := by decide +kernel
theorem dX12_most_26 : decode cX12_most 26 = .ok (.ireturn, 1) := by decide +kernel
theorem dX12_kindsOf_0 : decode cX12_kindsOf 0 = .ok (.iconst 0, 1) := by decide +kernel
theorem dX12_kindsOf_1 : decode cX12_kindsOf 1 = .ok (.istore_n 2, 1) := by decide +kernel
theorem dX12_kindsOf_2 : decode cX12_kindsOf 2 = .ok (.iconst 0, 1) := by decide +kernel
theorem dX12_kindsOf_3 : decode cX12_kindsOf 3 = .ok (.istore_n 3, 1) := by decide +kernel
theorem dX12_kindsOf_4 : decode cX12_kindsOf 4 = .ok (.iload_n 3, 1) := by decide +kernel
theorem dX12_kindsOf_5 : decode cX12_kindsOf 5 = .ok (.bipush 120, 2) := by decide +kernel
theorem dX12_kindsOf_7 : decode cX12_kindsOf 7 = .ok (.if_icmp .gt 31, 3) := by decide +kernel
theorem dX12_kindsOf_10 : decode cX12_kindsOf 10 = .ok (.iload_n 2, 1) := by decide +kernel
theorem dX12_kindsOf_11 : decode cX12_kindsOf 11 = .ok (.aload_n 0, 1) := by decide +kernel
theorem dX12_kindsOf_12 : decode cX12_kindsOf 12 = .ok (.getfield 131, 3) := by decide +kernel
theorem dX12_kindsOf_15 : decode cX12_kindsOf 15 = .ok (.bipush 121, 2) := by decide +kernel
theorem dX12_kindsOf_17 : decode cX12_kindsOf 17 = .ok (.iload_n 1, 1) := by decide +kernel
theorem dX12_kindsOf_18 : decode cX12_kindsOf 18 = .ok (.imul, 1) := by decide +kernel
theorem dX12_kindsOf_19 : decode cX12_kindsOf 19 = .ok (.iload_n 3, 1) := by decide +kernel
theorem dX12_kindsOf_20 : decode cX12_kindsOf 20 = .ok (.iadd, 1) := by decide +kernel
theorem dX12_kindsOf_21 : decode cX12_kindsOf 21 = .ok (.iaload, 1) := by decide +kernel
theorem dX12_kindsOf_22 : decode cX12_kindsOf 22 = .ok (.ifCond .le 7, 3) := by decide +kernel
theorem dX12_kindsOf_25 : decode cX12_kindsOf 25 = .ok (.iconst 1, 1) := by decide +kernel
theorem dX12_kindsOf_26 : decode cX12_kindsOf 26 = .ok (.goto 4, 3) := by decide +kernel
theorem dX12_kindsOf_29 : decode cX12_kindsOf 29 = .ok (.iconst 0, 1) := by decide +kernel
theorem dX12_kindsOf_30 : decode cX12_kindsOf 30 = .ok (.iadd, 1) := by decide +kernel
theorem dX12_kindsOf_31 : decode cX12_kindsOf 31 = .ok (.istore_n 2, 1) := by decide +kernel
theorem dX12_kindsOf_32 : decode cX12_kindsOf 32 = .ok (.iinc 3 1, 3) := by decide +kernel
theorem dX12_kindsOf_35 : decode cX12_kindsOf 35 = .ok (.goto (-31), 3) := by decide +kernel
theorem dX12_kindsOf_38 : decode cX12_kindsOf 38 = .ok (.iload_n 2, 1) := by decide +kernel
theorem dX12_kindsOf_39 : decode cX12_kindsOf 39 = .ok (.ireturn, 1) := by decide +kernel
theorem dX12_kinds_0 : decode cX12_kinds 0 = .ok (.aload_n 0, 1) := by decide +kernel
theorem dX12_kinds_1 : decode cX12_kinds 1 = .ok (.iconst 0, 1) := by decide +kernel
theorem dX12_kinds_2 : decode cX12_kinds 2 = .ok (.putfield 1, 3) := by decide +kernel
theorem dX12_kinds_5 : decode cX12_kinds 5 = .ok (.aload_n 0, 1) := by decide +kernel
theorem dX12_kinds_6 : decode cX12_kinds 6 = .ok (.invokevirtual 343, 3) := by decide +kernel
theorem dX12_kinds_9 : decode cX12_kinds 9 = .ok (.aload_n 0, 1) := by decide +kernel
theorem dX12_kinds_10 : decode cX12_kinds 10 = .ok (.iload_n 1, 1) := by decide +kernel
theorem dX12_kinds_11 : decode cX12_kinds 11 = .ok (.invokevirtual 325, 3) := by decide +kernel
theorem dX12_kinds_14 : decode cX12_kinds 14 = .ok (.ifCond .eq 11, 3) := by decide +kernel
theorem dX12_kinds_17 : decode cX12_kinds 17 = .ok (.aload_n 0, 1) := by decide +kernel
theorem dX12_kinds_18 : decode cX12_kinds 18 = .ok (.iload_n 1, 1) := by decide +kernel
theorem dX12_kinds_19 : decode cX12_kinds 19 = .ok (.invokevirtual 391, 3) := by decide +kernel
theorem dX12_kinds_22 : decode cX12_kinds 22 = .ok (.goto 4, 3) := by decide +kernel
theorem dX12_kinds_25 : decode cX12_kinds 25 = .ok (.iconst (-1), 1) := by decide +kernel
theorem dX12_kinds_26 : decode cX12_kinds 26 = .ok (.ireturn, 1) := by decide +kernel
theorem dX12_open_0 : decode cX12_open 0 = .ok (.aload_n 0, 1) := by decide +kernel
theorem dX12_open_1 : decode cX12_open 1 = .ok (.iconst 0, 1) := by decide +kernel
theorem dX12_open_2 : decode cX12_open 2 = .ok (.putfield 1, 3) := by decide +kernel
theorem dX12_open_5 : decode cX12_open 5 = .ok (.aload_n 0, 1) := by decide +kernel
theorem dX12_open_6 : decode cX12_open 6 = .ok (.invokevirtual 343, 3) := by decide +kernel
theorem dX12_open_9 : decode cX12_open 9 = .ok (.iconst 0, 1) := by decide +kernel
theorem dX12_open_10 : decode cX12_open 10 = .ok (.istore_n 1, 1) := by decide +kernel
theorem dX12_open_11 : decode cX12_open 11 = .ok (.iconst 0, 1) := by decide +kernel
theorem dX12_open_12 : decode cX12_open 12 = .ok (.istore_n 2, 1) := by decide +kernel
theorem dX12_open_13 : decode cX12_open 13 = .ok (.iload_n 2, 1) := by decide +kernel
theorem dX12_open_14 : decode cX12_open 14 = .ok (.aload_n 0, 1) := by decide +kernel
theorem dX12_open_15 : decode cX12_open 15 = .ok (.invokevirtual 270, 3) := by decide +kernel
theorem dX12_open_18 : decode cX12_open 18 = .ok (.if_icmp .ge 28, 3) := by decide +kernel
theorem dX12_open_21 : decode cX12_open 21 = .ok (.iload_n 1, 1) := by decide +kernel
theorem dX12_open_22 : decode cX12_open 22 = .ok (.aload_n 0, 1) := by decide +kernel
theorem dX12_open_23 : decode cX12_open 23 = .ok (.iload_n 2, 1) := by decide +kernel
theorem dX12_open_24 : decode cX12_open 24 = .ok (.invokevirtual 391, 3) := by decide +kernel
theorem dX12_open_27 : decode cX12_open 27 = .ok (.iconst 1, 1) := by decide +kernel
theorem dX12_open_28 : decode cX12_open 28 = .ok (.if_icmp .le 9, 3) := by decide +kernel
theorem dX12_open_31 : decode cX12_open 31 = .ok (.iconst 1, 1) := by decide +kernel
theorem dX12_open_32 : decode cX12_open 32 = .ok (.iload_n 2, 1) := by decide +kernel
theorem dX12_open_33 : decode cX12_open 33 = .ok (.ishl, 1) := by decide +kernel
theorem dX12_open_34 : decode cX12_open 34 = .ok (.goto 4, 3) := by decide +kernel
theorem dX12_open_37 : decode cX12_open 37 = .ok (.iconst 0, 1) := by decide +kernel
theorem dX12_open_38 : decode cX12_open 38 = .ok (.ior, 1) := by decide +kernel
theorem dX12_open_39 : decode cX12_open 39 = .ok (.istore_n 1, 1) := by decide +kernel
theorem dX12_open_40 : decode cX12_open 40 = .ok (.iinc 2 1, 3) := by decide +kernel
theorem dX12_open_43 : decode cX12_open 43 = .ok (.goto (-30), 3) := by decide +kernel
theorem dX12_open_46 : decode cX12_open 46 = .ok (.iload_n 1, 1) := by decide +kernel
theorem dX12_open_47 : decode cX12_open 47 = .ok (.ireturn, 1) := by decide +kernel
theorem dX12_has_0 : decode cX12_has 0 = .ok (.aload_n 0, 1) := by decide +kernel
theorem dX12_has_1 : decode cX12_has 1 = .ok (.iconst 0, 1) := by decide +kernel
theorem dX12_has_2 : decode cX12_has 2 = .ok (.putfield 1, 3) := by decide +kernel
theorem dX12_has_5 : decode cX12_has 5 = .ok (.aload_n 0, 1) := by decide +kernel
theorem dX12_has_6 : decode cX12_has 6 = .ok (.invokevirtual 343, 3) := by decide +kernel
theorem dX12_has_9 : decode cX12_has 9 = .ok (.aload_n 0, 1) := by decide +kernel
theorem dX12_has_10 : decode cX12_has 10 = .ok (.iload_n 1, 1) := by decide +kernel
theorem dX12_has_11 : decode cX12_has 11 = .ok (.invokevirtual 325, 3) := by decide +kernel
theorem dX12_has_14 : decode cX12_has 14 = .ok (.ifCond .eq 27, 3) := by decide +kernel
theorem dX12_has_17 : decode cX12_has 17 = .ok (.iload_n 2, 1) := by decide +kernel
theorem dX12_has_18 : decode cX12_has 18 = .ok (.iconst 0, 1) := by decide +kernel
theorem dX12_has_19 : decode cX12_has 19 = .ok (.bipush 99, 2) := by decide +kernel
theorem dX12_has_21 : decode cX12_has 21 = .ok (.invokestatic 321, 3) := by decide +kernel
theorem dX12_has_24 : decode cX12_has 24 = .ok (.ifCond .eq 17, 3) := by decide +kernel
theorem dX12_has_27 : decode cX12_has 27 = .ok (.aload_n 0, 1) := by decide +kernel
theorem dX12_has_28 : decode cX12_has 28 = .ok (.getfield 131, 3) := by decide +kernel
theorem dX12_has_31 : decode cX12_has 31 = .ok (.bipush 121, 2) := by decide +kernel
theorem dX12_has_33 : decode cX12_has 33 = .ok (.iload_n 1, 1) := by decide +kernel
theorem dX12_has_34 : decode cX12_has 34 = .ok (.imul, 1) := by decide +kernel
theorem dX12_has_35 : decode cX12_has 35 = .ok (.iload_n 2, 1) := by decide +kernel
theorem dX12_has_36 : decode cX12_has 36 = .ok (.iadd, 1) := by decide +kernel
theorem dX12_has_37 : decode cX12_has 37 = .ok (.iaload, 1) := by decide +kernel
theorem dX12_has_38 : decode cX12_has 38 = .ok (.goto 4, 3) := by decide +kernel
theorem dX12_has_41 : decode cX12_has 41 = .ok (.iconst (-1), 1) := by decide +kernel
theorem dX12_has_42 : decode cX12_has 42 = .ok (.ireturn, 1) := by decide +kernel
theorem dX12_ask_0 : decode cX12_ask 0 = .ok (.aload_n 0, 1) := by decide +kernel
theorem dX12_ask_1 : decode cX12_ask 1 = .ok (.iconst 0, 1) := by decide +kernel
theorem dX12_ask_2 : decode cX12_ask 2 = .ok (.putfield 1, 3) := by decide +kernel
theorem dX12_ask_5 : decode cX12_ask 5 = .ok (.aload_n 0, 1) := by decide +kernel
theorem dX12_ask_6 : decode cX12_ask 6 = .ok (.invokevirtual 343, 3) := by decide +kernel
theorem dX12_ask_9 : decode cX12_ask 9 = .ok (.iconst (-1), 1) := by decide +kernel
theorem dX12_ask_10 : decode cX12_ask 10 = .ok (.istore_n 1, 1) := by decide +kernel
theorem dX12_ask_11 : decode cX12_ask 11 = .ok (.aload_n 0, 1) := by decide +kernel
theorem dX12_ask_12 : decode cX12_ask 12 = .ok (.getfield 346, 3) := by decide +kernel
theorem dX12_ask_15 : decode cX12_ask 15 = .ok (.istore_n 2, 1) := by decide +kernel
theorem dX12_ask_16 : decode cX12_ask 16 = .ok (.iconst 0, 1) := by decide +kernel
theorem dX12_ask_17 : decode cX12_ask 17 = .ok (.istore_n 3, 1) := by decide +kernel
theorem dX12_ask_18 : decode cX12_ask 18 = .ok (.iload_n 3, 1) := by decide +kernel
theorem dX12_ask_19 : decode cX12_ask 19 = .ok (.aload_n 0, 1) := by decide +kernel
theorem dX12_ask_20 : decode cX12_ask 20 = .ok (.invokevirtual 270, 3) := by decide +kernel
theorem dX12_ask_23 : decode cX12_ask 23 = .ok (.if_icmp .ge 111, 3) := by decide +kernel
theorem dX12_ask_26 : decode cX12_ask 26 = .ok (.iconst 0, 1) := by decide +kernel
theorem dX12_ask_27 : decode cX12_ask 27 = .ok (.istore 4, 2) := by decide +kernel
theorem dX12_ask_29 : decode cX12_ask 29 = .ok (.iconst 0, 1) := by decide +kernel
theorem dX12_ask_30 : decode cX12_ask 30 = .ok (.istore 5, 2) := by decide +kernel
theorem dX12_ask_32 : decode cX12_ask 32 = .ok (.iload 5, 2) := by decide +kernel
theorem dX12_ask_34 : decode cX12_ask 34 = .ok (.bipush 120, 2) := by decide +kernel
theorem dX12_ask_36 : decode cX12_ask 36 = .ok (.if_icmp .gt 45, 3) := by decide +kernel
theorem dX12_ask_39 : decode cX12_ask 39 = .ok (.aload_n 0, 1) := by decide +kernel
theorem dX12_ask_40 : decode cX12_ask 40 = .ok (.getfield 131, 3) := by decide +kernel
theorem dX12_ask_43 : decode cX12_ask 43 = .ok (.bipush 121, 2) := by decide +kernel
theorem dX12_ask_45 : decode cX12_ask 45 = .ok (.iload_n 3, 1) := by decide +kernel
theorem dX12_ask_46 : decode cX12_ask 46 = .ok (.imul, 1) := by decide +kernel
theorem dX12_ask_47 : decode cX12_ask 47 = .ok (.iload 5, 2) := by decide +kernel
theorem dX12_ask_49 : decode cX12_ask 49 = .ok (.iadd, 1) := by decide +kernel
theorem dX12_ask_50 : decode cX12_ask 50 = .ok (.iaload, 1) := by decide +kernel
theorem dX12_ask_51 : decode cX12_ask 51 = .ok (.iload 4, 2) := by decide +kernel
theorem dX12_ask_53 : decode cX12_ask 53 = .ok (.if_icmp .le 18, 3) := by decide +kernel
theorem dX12_ask_56 : decode cX12_ask 56 = .ok (.aload_n 0, 1) := by decide +kernel
theorem dX12_ask_57 : decode cX12_ask 57 = .ok (.getfield 131, 3) := by decide +kernel
theorem dX12_ask_60 : decode cX12_ask 60 = .ok (.bipush 121, 2) := by decide +kernel
theorem dX12_ask_62 : decode cX12_ask 62 = .ok (.iload_n 3, 1) := by decide +kernel
theorem dX12_ask_63 : decode cX12_ask 63 = .ok (.imul, 1) := by decide +kernel
theorem dX12_ask_64 : decode cX12_ask 64 = .ok (.iload 5, 2) := by decide +kernel
theorem dX12_ask_66 : decode cX12_ask 66 = .ok (.iadd, 1) := by decide +kernel
theorem dX12_ask_67 : decode cX12_ask 67 = .ok (.iaload, 1) := by decide +kernel
theorem dX12_ask_68 : decode cX12_ask 68 = .ok (.goto 5, 3) := by decide +kernel
theorem dX12_ask_71 : decode cX12_ask 71 = .ok (.iload 4, 2) := by decide +kernel
theorem dX12_ask_73 : decode cX12_ask 73 = .ok (.istore 4, 2) := by decide +kernel
theorem dX12_ask_75 : decode cX12_ask 75 = .ok (.iinc 5 1, 3) := by decide +kernel
theorem dX12_ask_78 : decode cX12_ask 78 = .ok (.goto (-46), 3) := by decide +kernel
theorem dX12_ask_81 : decode cX12_ask 81 = .ok (.aload_n 0, 1) := by decide +kernel
theorem dX12_ask_82 : decode cX12_ask 82 = .ok (.getfield 103, 3) := by decide +kernel
theorem dX12_ask_85 : decode cX12_ask 85 = .ok (.iconst 4, 1) := by decide +kernel
theorem dX12_ask_86 : decode cX12_ask 86 = .ok (.iload_n 3, 1) := by decide +kernel
theorem dX12_ask_87 : decode cX12_ask 87 = .ok (.iadd, 1) := by decide +kernel
theorem dX12_ask_88 : decode cX12_ask 88 = .ok (.iaload, 1) := by decide +kernel
theorem dX12_ask_89 : decode cX12_ask 89 = .ok (.ifCond .ge 13, 3) := by decide +kernel
theorem dX12_ask_92 : decode cX12_ask 92 = .ok (.iload 4, 2) := by decide +kernel
theorem dX12_ask_94 : decode cX12_ask 94 = .ok (.iload_n 2, 1) := by decide +kernel
theorem dX12_ask_95 : decode cX12_ask 95 = .ok (.if_icmp .ge 7, 3) := by decide +kernel
theorem dX12_ask_98 : decode cX12_ask 98 = .ok (.iconst 1, 1) := by decide +kernel
theorem dX12_ask_99 : decode cX12_ask 99 = .ok (.goto 4, 3) := by decide +kernel
theorem dX12_ask_102 : decode cX12_ask 102 = .ok (.iconst 0, 1) := by decide +kernel
theorem dX12_ask_103 : decode cX12_ask 103 = .ok (.istore 5, 2) := by decide +kernel
theorem dX12_ask_105 : decode cX12_ask 105 = .ok (.iload 5, 2) := by decide +kernel
theorem dX12_ask_107 : decode cX12_ask 107 = .ok (.ifCond .eq 7, 3) := by decide +kernel
theorem dX12_ask_110 : decode cX12_ask 110 = .ok (.iload_n 3, 1) := by decide +kernel
theorem dX12_ask_111 : decode cX12_ask 111 = .ok (.goto 4, 3) := by decide +kernel
theorem dX12_ask_114 : decode cX12_ask 114 = .ok (.iload_n 1, 1) := by decide +kernel
theorem dX12_ask_115 : decode cX12_ask 115 = .ok (.istore_n 1, 1) := by decide +kernel
theorem dX12_ask_116 : decode cX12_ask 116 = .ok (.iload 5, 2) := by decide +kernel
theorem dX12_ask_118 : decode cX12_ask 118 = .ok (.ifCond .eq 8, 3) := by decide +kernel
theorem dX12_ask_121 : decode cX12_ask 121 = .ok (.iload 4, 2) := by decide +kernel
theorem dX12_ask_123 : decode cX12_ask 123 = .ok (.goto 4, 3) := by decide +kernel
theorem dX12_ask_126 : decode cX12_ask 126 = .ok (.iload_n 2, 1) := by decide +kernel
theorem dX12_ask_127 : decode cX12_ask 127 = .ok (.istore_n 2, 1) := by decide +kernel
theorem dX12_ask_128 : decode cX12_ask 128 = .ok (.iinc 3 1, 3) := by decide +kernel
theorem dX12_ask_131 : decode cX12_ask 131 = .ok (.goto (-113), 3) := by decide +kernel
theorem dX12_ask_134 : decode cX12_ask 134 = .ok (.iload_n 1, 1) := by decide +kernel
theorem dX12_ask_135 : decode cX12_ask 135 = .ok (.ireturn, 1) := by decide +kernel
theorem dX12_learn_0 : decode cX12_learn 0 = .ok (.aload_n 0, 1) := by decide +kernel
theorem dX12_learn_1 : decode cX12_learn 1 = .ok (.iconst 0, 1) := by decide +kernel
theorem dX12_learn_2 : decode cX12_learn 2 = .ok (.putfield 1, 3) := by decide +kernel
theorem dX12_learn_5 : decode cX12_learn 5 = .ok (.aload_n 0, 1) := by decide +kernel
theorem dX12_learn_6 : decode cX12_learn 6 = .ok (.invokevirtual 343, 3) := by decide +kernel
theorem dX12_learn_9 : decode cX12_learn 9 = .ok (.iconst (-1), 1) := by decide +kernel
theorem dX12_learn_10 : decode cX12_learn 10 = .ok (.istore_n 1, 1) := by decide +kernel
theorem dX12_learn_11 : decode cX12_learn 11 = .ok (.aload_n 0, 1) := by decide +kernel
theorem dX12_learn_12 : decode cX12_learn 12 = .ok (.getfield 346, 3) := by decide +kernel
theorem dX12_learn_15 : decode cX12_learn 15 = .ok (.istore_n 2, 1) := by decide +kernel
theorem dX12_learn_16 : decode cX12_learn 16 = .ok (.iconst 0, 1) := by decide +kernel
theorem dX12_learn_17 : decode cX12_learn 17 = .ok (.istore_n 3, 1) := by decide +kernel
theorem dX12_learn_18 : decode cX12_learn 18 = .ok (.iload_n 3, 1) := by decide +kernel
theorem dX12_learn_19 : decode cX12_learn 19 = .ok (.aload_n 0, 1) := by decide +kernel
theorem dX12_learn_20 : decode cX12_learn 20 = .ok (.invokevirtual 266, 3) := by decide +kernel
theorem dX12_learn_23 : decode cX12_learn 23 = .ok (.if_icmp .ge 109, 3) := by decide +kernel
theorem dX12_learn_26 : decode cX12_learn 26 = .ok (.iconst 0, 1) := by decide +kernel
theorem dX12_learn_27 : decode cX12_learn 27 = .ok (.istore 4, 2) := by decide +kernel
theorem dX12_learn_29 : decode cX12_learn 29 = .ok (.iconst 0, 1) := by decide +kernel
theorem dX12_learn_30 : decode cX12_learn 30 = .ok (.istore 5, 2) := by decide +kernel
theorem dX12_learn_32 : decode cX12_learn 32 = .ok (.iload 5, 2) := by decide +kernel
theorem dX12_learn_34 : decode cX12_learn 34 = .ok (.bipush 9, 2) := by decide +kernel
theorem dX12_learn_36 : decode cX12_learn 36 = .ok (.if_icmp .ge 45, 3) := by decide +kernel
theorem dX12_learn_39 : decode cX12_learn 39 = .ok (.aload_n 0, 1) := by decide +kernel
theorem dX12_learn_40 : decode cX12_learn 40 = .ok (.getfield 128, 3) := by decide +kernel
theorem dX12_learn_43 : decode cX12_learn 43 = .ok (.bipush 9, 2) := by decide +kernel
theorem dX12_learn_45 : decode cX12_learn 45 = .ok (.iload_n 3, 1) := by decide +kernel
theorem dX12_learn_46 : decode cX12_learn 46 = .ok (.imul, 1) := by decide +kernel
theorem dX12_learn_47 : decode cX12_learn 47 = .ok (.iload 5, 2) := by decide +kernel
theorem dX12_learn_49 : decode cX12_learn 49 = .ok (.iadd, 1) := by decide +kernel
theorem dX12_learn_50 : decode cX12_learn 50 = .ok (.iaload, 1) := by decide +kernel
theorem dX12_learn_51 : decode cX12_learn 51 = .ok (.iload 4, 2) := by decide +kernel
theorem dX12_learn_53 : decode cX12_learn 53 = .ok (.if_icmp .le 18, 3) := by decide +kernel
theorem dX12_learn_56 : decode cX12_learn 56 = .ok (.aload_n 0, 1) := by decide +kernel
theorem dX12_learn_57 : decode cX12_learn 57 = .ok (.getfield 128, 3) := by decide +kernel
theorem dX12_learn_60 : decode cX12_learn 60 = .ok (.bipush 9, 2) := by decide +kernel
theorem dX12_learn_62 : decode cX12_learn 62 = .ok (.iload_n 3, 1) := by decide +kernel
theorem dX12_learn_63 : decode cX12_learn 63 = .ok (.imul, 1) := by decide +kernel
theorem dX12_learn_64 : decode cX12_learn 64 = .ok (.iload 5, 2) := by decide +kernel
theorem dX12_learn_66 : decode cX12_learn 66 = .ok (.iadd, 1) := by decide +kernel
theorem dX12_learn_67 : decode cX12_learn 67 = .ok (.iaload, 1) := by decide +kernel
theorem dX12_learn_68 : decode cX12_learn 68 = .ok (.goto 5, 3) := by decide +kernel
theorem dX12_learn_71 : decode cX12_learn 71 = .ok (.iload 4, 2) := by decide +kernel
theorem dX12_learn_73 : decode cX12_learn 73 = .ok (.istore 4, 2) := by decide +kernel
theorem dX12_learn_75 : decode cX12_learn 75 = .ok (.iinc 5 1, 3) := by decide +kernel
theorem dX12_learn_78 : decode cX12_learn 78 = .ok (.goto (-46), 3) := by decide +kernel
theorem dX12_learn_81 : decode cX12_learn 81 = .ok (.aload_n 0, 1) := by decide +kernel
theorem dX12_learn_82 : decode cX12_learn 82 = .ok (.getfield 103, 3) := by decide +kernel
theorem dX12_learn_85 : decode cX12_learn 85 = .ok (.iload_n 3, 1) := by decide +kernel
theorem dX12_learn_86 : decode cX12_learn 86 = .ok (.iaload, 1) := by decide +kernel
theorem dX12_learn_87 : decode cX12_learn 87 = .ok (.ifCond .ge 13, 3) := by decide +kernel
theorem dX12_learn_90 : decode cX12_learn 90 = .ok (.iload 4, 2) := by decide +kernel
theorem dX12_learn_92 : decode cX12_learn 92 = .ok (.iload_n 2, 1) := by decide +kernel
theorem dX12_learn_93 : decode cX12_learn 93 = .ok (.if_icmp .ge 7, 3) := by decide +kernel
theorem dX12_learn_96 : decode cX12_learn 96 = .ok (.iconst 1, 1) := by decide +kernel
theorem dX12_learn_97 : decode cX12_learn 97 = .ok (.goto 4, 3) := by decide +kernel
theorem dX12_learn_100 : decode cX12_learn 100 = .ok (.iconst 0, 1) := by decide +kernel
theorem dX12_learn_101 : decode cX12_learn 101 = .ok (.istore 5, 2) := by decide +kernel
theorem dX12_learn_103 : decode cX12_learn 103 = .ok (.iload 5, 2) := by decide +kernel
theorem dX12_learn_105 : decode cX12_learn 105 = .ok (.ifCond .eq 7, 3) := by decide +kernel
theorem dX12_learn_108 : decode cX12_learn 108 = .ok (.iload_n 3, 1) := by decide +kernel
theorem dX12_learn_109 : decode cX12_learn 109 = .ok (.goto 4, 3) := by decide +kernel
theorem dX12_learn_112 : decode cX12_learn 112 = .ok (.iload_n 1, 1) := by decide +kernel
theorem dX12_learn_113 : decode cX12_learn 113 = .ok (.istore_n 1, 1) := by decide +kernel
theorem dX12_learn_114 : decode cX12_learn 114 = .ok (.iload 5, 2) := by decide +kernel
theorem dX12_learn_116 : decode cX12_learn 116 = .ok (.ifCond .eq 8, 3) := by decide +kernel
theorem dX12_learn_119 : decode cX12_learn 119 = .ok (.iload 4, 2) := by decide +kernel
theorem dX12_learn_121 : decode cX12_learn 121 = .ok (.goto 4, 3) := by decide +kernel
theorem dX12_learn_124 : decode cX12_learn 124 = .ok (.iload_n 2, 1) := by decide +kernel
theorem dX12_learn_125 : decode cX12_learn 125 = .ok (.istore_n 2, 1) := by decide +kernel
theorem dX12_learn_126 : decode cX12_learn 126 = .ok (.iinc 3 1, 3) := by decide +kernel
theorem dX12_learn_129 : decode cX12_learn 129 = .ok (.goto (-111), 3) := by decide +kernel
theorem dX12_learn_132 : decode cX12_learn 132 = .ok (.iload_n 1, 1) := by decide +kernel
theorem dX12_learn_133 : decode cX12_learn 133 = .ok (.ireturn, 1) := by decide +kernel
theorem dX12_chance_0 : decode cX12_chance 0 = .ok (.aload_n 0, 1) := by decide +kernel
theorem dX12_chance_1 : decode cX12_chance 1 = .ok (.iconst 0, 1) := by decide +kernel
theorem dX12_chance_2 : decode cX12_chance 2 = .ok (.putfield 1, 3) := by decide +kernel
theorem dX12_chance_5 : decode cX12_chance 5 = .ok (.aload_n 0, 1) := by decide +kernel
theorem dX12_chance_6 : decode cX12_chance 6 = .ok (.invokevirtual 343, 3) := by decide +kernel
theorem dX12_chance_9 : decode cX12_chance 9 = .ok (.aload_n 0, 1) := by decide +kernel
theorem dX12_chance_10 : decode cX12_chance 10 = .ok (.iload_n 1, 1) := by decide +kernel
theorem dX12_chance_11 : decode cX12_chance 11 = .ok (.invokevirtual 325, 3) := by decide +kernel
theorem dX12_chance_14 : decode cX12_chance 14 = .ok (.ifCond .eq 20, 3) := by decide +kernel
theorem dX12_chance_17 : decode cX12_chance 17 = .ok (.iload_n 2, 1) := by decide +kernel
theorem dX12_chance_18 : decode cX12_chance 18 = .ok (.iconst 0, 1) := by decide +kernel
theorem dX12_chance_19 : decode cX12_chance 19 = .ok (.bipush 99, 2) := by decide +kernel
theorem dX12_chance_21 : decode cX12_chance 21 = .ok (.invokestatic 321, 3) := by decide +kernel
theorem dX12_chance_24 : decode cX12_chance 24 = .ok (.ifCond .eq 10, 3) := by decide +kernel
theorem dX12_chance_27 : decode cX12_chance 27 = .ok (.aload_n 0, 1) := by decide +kernel
theorem dX12_chance_28 : decode cX12_chance 28 = .ok (.getfield 346, 3) := by decide +kernel
theorem dX12_chance_31 : decode cX12_chance 31 = .ok (.ifCond .ne 5, 3) := by decide +kernel
theorem dX12_chance_34 : decode cX12_chance 34 = .ok (.iconst (-1), 1) := by decide +kernel
theorem dX12_chance_35 : decode cX12_chance 35 = .ok (.ireturn, 1) := by decide +kernel
theorem dX12_chance_36 : decode cX12_chance 36 = .ok (.lconst 0, 1) := by decide +kernel
theorem dX12_chance_37 : decode cX12_chance 37 = .ok (.lstore_n 3, 1) := by decide +kernel
theorem dX12_chance_38 : decode cX12_chance 38 = .ok (.iload_n 2, 1) := by decide +kernel
theorem dX12_chance_39 : decode cX12_chance 39 = .ok (.istore 5, 2) := by decide +kernel
theorem dX12_chance_41 : decode cX12_chance 41 = .ok (.iload 5, 2) := by decide +kernel
theorem dX12_chance_43 : decode cX12_chance 43 = .ok (.bipush 120, 2) := by decide +kernel
theorem dX12_chance_45 : decode cX12_chance 45 = .ok (.if_icmp .gt 25, 3) := by decide +kernel
theorem dX12_chance_48 : decode cX12_chance 48 = .ok (.lload_n 3, 1) := by decide +kernel
theorem dX12_chance_49 : decode cX12_chance 49 = .ok (.aload_n 0, 1) := by decide +kernel
theorem dX12_chance_50 : decode cX12_chance 50 = .ok (.getfield 131, 3) := by decide +kernel
theorem dX12_chance_53 : decode cX12_chance 53 = .ok (.bipush 121, 2) := by decide +kernel
theorem dX12_chance_55 : decode cX12_chance 55 = .ok (.iload_n 1, 1) := by decide +kernel
theorem dX12_chance_56 : decode cX12_chance 56 = .ok (.imul, 1) := by decide +kernel
theorem dX12_chance_57 : decode cX12_chance 57 = .ok (.iload 5, 2) := by decide +kernel
theorem dX12_chance_59 : decode cX12_chance 59 = .ok (.iadd, 1) := by decide +kernel
theorem dX12_chance_60 : decode cX12_chance 60 = .ok (.iaload, 1) := by decide +kernel
theorem dX12_chance_61 : decode cX12_chance 61 = .ok (.i2l, 1) := by decide +kernel
theorem dX12_chance_62 : decode cX12_chance 62 = .ok (.ladd, 1) := by decide +kernel
theorem dX12_chance_63 : decode cX12_chance 63 = .ok (.lstore_n 3, 1) := by decide +kernel
theorem dX12_chance_64 : decode cX12_chance 64 = .ok (.iinc 5 1, 3) := by decide +kernel
theorem dX12_chance_67 : decode cX12_chance 67 = .ok (.goto (-26), 3) := by decide +kernel
theorem dX12_chance_70 : decode cX12_chance 70 = .ok (.lload_n 3, 1) := by decide +kernel
theorem dX12_chance_71 : decode cX12_chance 71 = .ok (.ldc2_w 394, 3) := by decide +kernel
theorem dX12_chance_74 : decode cX12_chance 74 = .ok (.lmul, 1) := by decide +kernel
theorem dX12_chance_75 : decode cX12_chance 75 = .ok (.aload_n 0, 1) := by decide +kernel
theorem dX12_chance_76 : decode cX12_chance 76 = .ok (.getfield 346, 3) := by decide +kernel
theorem dX12_chance_79 : decode cX12_chance 79 = .ok (.i2l, 1) := by decide +kernel
theorem dX12_chance_80 : decode cX12_chance 80 = .ok (.ldiv, 1) := by decide +kernel
theorem dX12_chance_81 : decode cX12_chance 81 = .ok (.l2i, 1) := by decide +kernel
theorem dX12_chance_82 : decode cX12_chance 82 = .ok (.ireturn, 1) := by decide +kernel
theorem dX12_isGuessed_0 : decode cX12_isGuessed 0 = .ok (.iconst 0, 1) := by decide +kernel
theorem dX12_isGuessed_1 : decode cX12_isGuessed 1 = .ok (.istore_n 1, 1) := by decide +kernel
theorem dX12_isGuessed_2 : decode cX12_isGuessed 2 = .ok (.iload_n 1, 1) := by decide +kernel
theorem dX12_isGuessed_3 : decode cX12_isGuessed 3 = .ok (.aload_n 0, 1) := by decide +kernel
theorem dX12_isGuessed_4 : decode cX12_isGuessed 4 = .ok (.invokevirtual 266, 3) := by decide +kernel
theorem dX12_isGuessed_7 : decode cX12_isGuessed 7 = .ok (.if_icmp .ge 32, 3) := by decide +kernel
theorem dX12_isGuessed_10 : decode cX12_isGuessed 10 = .ok (.aload_n 0, 1) := by decide +kernel
theorem dX12_isGuessed_11 : decode cX12_isGuessed 11 = .ok (.getfield 103, 3) := by decide +kernel
theorem dX12_isGuessed_14 : decode cX12_isGuessed 14 = .ok (.iload_n 1, 1) := by decide +kernel
theorem dX12_isGuessed_15 : decode cX12_isGuessed 15 = .ok (.iaload, 1) := by decide +kernel
theorem dX12_isGuessed_16 : decode cX12_isGuessed 16 = .ok (.ifCond .ge 5, 3) := by decide +kernel
theorem dX12_isGuessed_19 : decode cX12_isGuessed 19 = .ok (.iconst 0, 1) := by decide +kernel
theorem dX12_isGuessed_20 : decode cX12_isGuessed 20 = .ok (.ireturn, 1) := by decide +kernel
theorem dX12_isGuessed_21 : decode cX12_isGuessed 21 = .ok (.aload_n 0, 1) := by decide +kernel
theorem dX12_isGuessed_22 : decode cX12_isGuessed 22 = .ok (.getfield 122, 3) := by decide +kernel
theorem dX12_isGuessed_25 : decode cX12_isGuessed 25 = .ok (.iload_n 1, 1) := by decide +kernel
theorem dX12_isGuessed_26 : decode cX12_isGuessed 26 = .ok (.aload_n 0, 1) := by decide +kernel
theorem dX12_isGuessed_27 : decode cX12_isGuessed 27 = .ok (.getfield 103, 3) := by decide +kernel
theorem dX12_isGuessed_30 : decode cX12_isGuessed 30 = .ok (.iload_n 1, 1) := by decide +kernel
theorem dX12_isGuessed_31 : decode cX12_isGuessed 31 = .ok (.iaload, 1) := by decide +kernel
theorem dX12_isGuessed_32 : decode cX12_isGuessed 32 = .ok (.iastore, 1) := by decide +kernel
theorem dX12_isGuessed_33 : decode cX12_isGuessed 33 = .ok (.iinc 1 1, 3) := by decide +kernel
theorem dX12_isGuessed_36 : decode cX12_isGuessed 36 = .ok (.goto (-34), 3) := by decide +kernel
theorem dX12_isGuessed_39 : decode cX12_isGuessed 39 = .ok (.aload_n 0, 1) := by decide +kernel
theorem dX12_isGuessed_40 : decode cX12_isGuessed 40 = .ok (.invokevirtual 367, 3) := by decide +kernel
theorem dX12_isGuessed_43 : decode cX12_isGuessed 43 = .ok (.iconst 1, 1) := by decide +kernel
theorem dX12_isGuessed_44 : decode cX12_isGuessed 44 = .ok (.ireturn, 1) := by decide +kernel
theorem dX12_badNow_0 : decode cX12_badNow 0 = .ok (.iconst (-1), 1) := by decide +kernel
theorem dX12_badNow_1 : decode cX12_badNow 1 = .ok (.istore_n 1, 1) := by decide +kernel
theorem dX12_badNow_2 : decode cX12_badNow 2 = .ok (.aload_n 0, 1) := by decide +kernel
theorem dX12_badNow_3 : decode cX12_badNow 3 = .ok (.invokevirtual 270, 3) := by decide +kernel
theorem dX12_badNow_6 : decode cX12_badNow 6 = .ok (.iconst 1, 1) := by decide +kernel
theorem dX12_badNow_7 : decode cX12_badNow 7 = .ok (.isub, 1) := by decide +kernel
theorem dX12_badNow_8 : decode cX12_badNow 8 = .ok (.istore_n 2, 1) := by decide +kernel
theorem dX12_badNow_9 : decode cX12_badNow 9 = .ok (.iload_n 2, 1) := by decide +kernel
theorem dX12_badNow_10 : decode cX12_badNow 10 = .ok (.ifCond .lt 38, 3) := by decide +kernel
theorem dX12_badNow_13 : decode cX12_badNow 13 = .ok (.aload_n 0, 1) := by decide +kernel
theorem dX12_badNow_14 : decode cX12_badNow 14 = .ok (.getfield 349, 3) := by decide +kernel
theorem dX12_badNow_17 : decode cX12_badNow 17 = .ok (.iload_n 2, 1) := by decide +kernel
theorem dX12_badNow_18 : decode cX12_badNow 18 = .ok (.ishr, 1) := by decide +kernel
theorem dX12_badNow_19 : decode cX12_badNow 19 = .ok (.iconst 1, 1) := by decide +kernel
theorem dX12_badNow_20 : decode cX12_badNow 20 = .ok (.iand, 1) := by decide +kernel
theorem dX12_badNow_21 : decode cX12_badNow 21 = .ok (.ifCond .eq 15, 3) := by decide +kernel
theorem dX12_badNow_24 : decode cX12_badNow 24 = .ok (.aload_n 0, 1) := by decide +kernel
theorem dX12_badNow_25 : decode cX12_badNow 25 = .ok (.getfield 352, 3) := by decide +kernel
theorem dX12_badNow_28 : decode cX12_badNow 28 = .ok (.iload_n 2, 1) := by decide +kernel
theorem dX12_badNow_29 : decode cX12_badNow 29 = .ok (.ishr, 1) := by decide +kernel
theorem dX12_badNow_30 : decode cX12_badNow 30 = .ok (.iconst 1, 1) := by decide +kernel
theorem dX12_badNow_31 : decode cX12_badNow 31 = .ok (.iand, 1) := by decide +kernel
theorem dX12_badNow_32 : decode cX12_badNow 32 = .ok (.iconst 1, 1) := by decide +kernel
theorem dX12_badNow_33 : decode cX12_badNow 33 = .ok (.if_icmp .ne 7, 3) := by decide +kernel
theorem dX12_badNow_36 : decode cX12_badNow 36 = .ok (.iload_n 2, 1) := by decide +kernel
theorem dX12_badNow_37 : decode cX12_badNow 37 = .ok (.goto 4, 3) := by decide +kernel
theorem dX12_badNow_40 : decode cX12_badNow 40 = .ok (.iload_n 1, 1) := by decide +kernel
theorem dX12_badNow_41 : decode cX12_badNow 41 = .ok (.istore_n 1, 1) := by decide +kernel
theorem dX12_badNow_42 : decode cX12_badNow 42 = .ok (.iinc 2 (-1), 3) := by decide +kernel
theorem dX12_badNow_45 : decode cX12_badNow 45 = .ok (.goto (-36), 3) := by decide +kernel
theorem dX12_badNow_48 : decode cX12_badNow 48 = .ok (.iload_n 1, 1) := by decide +kernel
theorem dX12_badNow_49 : decode cX12_badNow 49 = .ok (.ireturn, 1) := by decide +kernel
theorem dX12_bad_0 : decode cX12_bad 0 = .ok (.aload_n 0, 1) := by decide +kernel
theorem dX12_bad_1 : decode cX12_bad 1 = .ok (.iconst 0, 1) := by decide +kernel
theorem dX12_bad_2 : decode cX12_bad 2 = .ok (.putfield 1, 3) := by decide +kernel
theorem dX12_bad_5 : decode cX12_bad 5 = .ok (.aload_n 0, 1) := by decide +kernel
theorem dX12_bad_6 : decode cX12_bad 6 = .ok (.invokevirtual 396, 3) := by decide +kernel
theorem dX12_bad_9 : decode cX12_bad 9 = .ok (.ifCond .eq 10, 3) := by decide +kernel
theorem dX12_bad_12 : decode cX12_bad 12 = .ok (.aload_n 0, 1) := by decide +kernel
theorem dX12_bad_13 : decode cX12_bad 13 = .ok (.invokevirtual 399, 3) := by decide +kernel
theorem dX12_bad_16 : decode cX12_bad 16 = .ok (.goto 4, 3) := by decide +kernel
theorem dX12_bad_19 : decode cX12_bad 19 = .ok (.iconst (-1), 1) := by decide +kernel
theorem dX12_bad_20 : decode cX12_bad 20 = .ok (.ireturn, 1) := by decide +kernel
theorem dX12_off_0 : decode cX12_off 0 = .ok (.aload_n 0, 1) := by decide +kernel
theorem dX12_off_1 : decode cX12_off 1 = .ok (.iconst 0, 1) := by decide +kernel
theorem dX12_off_2 : decode cX12_off 2 = .ok (.putfield 1, 3) := by decide +kernel
theorem dX12_off_5 : decode cX12_off 5 = .ok (.aload_n 0, 1) := by decide +kernel
theorem dX12_off_6 : decode cX12_off 6 = .ok (.invokevirtual 396, 3) := by decide +kernel
theorem dX12_off_9 : decode cX12_off 9 = .ok (.ifCond .eq 10, 3) := by decide +kernel
theorem dX12_off_12 : decode cX12_off 12 = .ok (.aload_n 0, 1) := by decide +kernel
theorem dX12_off_13 : decode cX12_off 13 = .ok (.invokevirtual 399, 3) := by decide +kernel
theorem dX12_off_16 : decode cX12_off 16 = .ok (.goto 4, 3) := by decide +kernel
theorem dX12_off_19 : decode cX12_off 19 = .ok (.iconst (-1), 1) := by decide +kernel
theorem dX12_off_20 : decode cX12_off 20 = .ok (.istore_n 1, 1) := by decide +kernel
theorem dX12_off_21 : decode cX12_off 21 = .ok (.iload_n 1, 1) := by decide +kernel
theorem dX12_off_22 : decode cX12_off 22 = .ok (.ifCond .ge 5, 3) := by decide +kernel
theorem dX12_off_25 : decode cX12_off 25 = .ok (.iconst 0, 1) := by decide +kernel
theorem dX12_off_26 : decode cX12_off 26 = .ok (.ireturn, 1) := by decide +kernel
theorem dX12_off_27 : decode cX12_off 27 = .ok (.iconst 0, 1) := by decide +kernel
theorem dX12_off_28 : decode cX12_off 28 = .ok (.istore_n 2, 1) := by decide +kernel
theorem dX12_off_29 : decode cX12_off 29 = .ok (.iconst 0, 1) := by decide +kernel
theorem dX12_off_30 : decode cX12_off 30 = .ok (.istore_n 3, 1) := by decide +kernel
theorem dX12_off_31 : decode cX12_off 31 = .ok (.iload_n 3, 1) := by decide +kernel
theorem dX12_off_32 : decode cX12_off 32 = .ok (.aload_n 0, 1) := by decide +kernel
theorem dX12_off_33 : decode cX12_off 33 = .ok (.invokevirtual 266, 3) := by decide +kernel
theorem dX12_off_36 : decode cX12_off 36 = .ok (.if_icmp .ge 31, 3) := by decide +kernel
theorem dX12_off_39 : decode cX12_off 39 = .ok (.iload_n 2, 1) := by decide +kernel
theorem dX12_off_40 : decode cX12_off 40 = .ok (.aload_n 0, 1) := by decide +kernel
theorem dX12_off_41 : decode cX12_off 41 = .ok (.getfield 116, 3) := by decide +kernel
theorem dX12_off_44 : decode cX12_off 44 = .ok (.iconst 4, 1) := by decide +kernel
theorem dX12_off_45 : decode cX12_off 45 = .ok (.iload_n 1, 1) := by decide +kernel
theorem dX12_off_46 : decode cX12_off 46 = .ok (.imul, 1) := by decide +kernel
theorem dX12_off_47 : decode cX12_off 47 = .ok (.iload_n 3, 1) := by decide +kernel
theorem dX12_off_48 : decode cX12_off 48 = .ok (.iadd, 1) := by decide +kernel
theorem dX12_off_49 : decode cX12_off 49 = .ok (.iaload, 1) := by decide +kernel
theorem dX12_off_50 : decode cX12_off 50 = .ok (.aload_n 0, 1) := by decide +kernel
theorem dX12_off_51 : decode cX12_off 51 = .ok (.getfield 122, 3) := by decide +kernel
theorem dX12_off_54 : decode cX12_off 54 = .ok (.iload_n 3, 1) := by decide +kernel
theorem dX12_off_55 : decode cX12_off 55 = .ok (.iaload, 1) := by decide +kernel
theorem dX12_off_56 : decode cX12_off 56 = .ok (.iconst 3, 1) := by decide +kernel
theorem dX12_off_57 : decode cX12_off 57 = .ok (.idiv, 1) := by decide +kernel
theorem dX12_off_58 : decode cX12_off 58 = .ok (.imul, 1) := by decide +kernel
theorem dX12_off_59 : decode cX12_off 59 = .ok (.iadd, 1) := by decide +kernel
theorem dX12_off_60 : decode cX12_off 60 = .ok (.istore_n 2, 1) := by decide +kernel
theorem dX12_off_61 : decode cX12_off 61 = .ok (.iinc 3 1, 3) := by decide +kernel
theorem dX12_off_64 : decode cX12_off 64 = .ok (.goto (-33), 3) := by decide +kernel
theorem dX12_off_67 : decode cX12_off 67 = .ok (.iload_n 2, 1) := by decide +kernel
theorem dX12_off_68 : decode cX12_off 68 = .ok (.iload_n 1, 1) := by decide +kernel
theorem dX12_off_69 : decode cX12_off 69 = .ok (.ifCond .ne 12, 3) := by decide +kernel
theorem dX12_off_72 : decode cX12_off 72 = .ok (.aload_n 0, 1) := by decide +kernel
theorem dX12_off_73 : decode cX12_off 73 = .ok (.getfield 79, 3) := by decide +kernel
theorem dX12_off_76 : decode cX12_off 76 = .ok (.iconst 1, 1) := by decide +kernel
theorem dX12_off_77 : decode cX12_off 77 = .ok (.iaload, 1) := by decide +kernel
theorem dX12_off_78 : decode cX12_off 78 = .ok (.goto 11, 3) := by decide +kernel
theorem dX12_off_81 : decode cX12_off 81 = .ok (.aload_n 0, 1) := by decide +kernel
theorem dX12_off_82 : decode cX12_off 82 = .ok (.getfield 125, 3) := by decide +kernel
theorem dX12_off_85 : decode cX12_off 85 = .ok (.iload_n 1, 1) := by decide +kernel
theorem dX12_off_86 : decode cX12_off 86 = .ok (.iconst 1, 1) := by decide +kernel
theorem dX12_off_87 : decode cX12_off 87 = .ok (.isub, 1) := by decide +kernel
theorem dX12_off_88 : decode cX12_off 88 = .ok (.iaload, 1) := by decide +kernel
theorem dX12_off_89 : decode cX12_off 89 = .ok (.isub, 1) := by decide +kernel
theorem dX12_off_90 : decode cX12_off 90 = .ok (.ireturn, 1) := by decide +kernel
theorem dX12_behind_0 : decode cX12_behind 0 = .ok (.aload_n 0, 1) := by decide +kernel
theorem dX12_behind_1 : decode cX12_behind 1 = .ok (.iconst 0, 1) := by decide +kernel
theorem dX12_behind_2 : decode cX12_behind 2 = .ok (.putfield 1, 3) := by decide +kernel
theorem dX12_behind_5 : decode cX12_behind 5 = .ok (.aload_n 0, 1) := by decide +kernel
theorem dX12_behind_6 : decode cX12_behind 6 = .ok (.iload_n 1, 1) := by decide +kernel
theorem dX12_behind_7 : decode cX12_behind 7 = .ok (.invokevirtual 325, 3) := by decide +kernel
theorem dX12_behind_10 : decode cX12_behind 10 = .ok (.ifCond .eq 19, 3) := by decide +kernel
theorem dX12_behind_13 : decode cX12_behind 13 = .ok (.aload_n 0, 1) := by decide +kernel
theorem dX12_behind_14 : decode cX12_behind 14 = .ok (.invokevirtual 396, 3) := by decide +kernel
theorem dX12_behind_17 : decode cX12_behind 17 = .ok (.ifCond .eq 12, 3) := by decide +kernel
theorem dX12_behind_20 : decode cX12_behind 20 = .ok (.aload_n 0, 1) := by decide +kernel
theorem dX12_behind_21 : decode cX12_behind 21 = .ok (.getfield 125, 3) := by decide +kernel
theorem dX12_behind_24 : decode cX12_behind 24 = .ok (.iload_n 1, 1) := by decide +kernel
theorem dX12_behind_25 : decode cX12_behind 25 = .ok (.iaload, 1) := by decide +kernel
theorem dX12_behind_26 : decode cX12_behind 26 = .ok (.goto 4, 3) := by decide +kernel
theorem dX12_behind_29 : decode cX12_behind 29 = .ok (.iconst (-1), 1) := by decide +kernel
theorem dX12_behind_30 : decode cX12_behind 30 = .ok (.ireturn, 1) := by decide +kernel
theorem dX12_twins_0 : decode cX12_twins 0 = .ok (.aload_n 0, 1) := by decide +kernel
theorem dX12_twins_1 : decode cX12_twins 1 = .ok (.iconst 0, 1) := by decide +kernel
theorem dX12_twins_2 : decode cX12_twins 2 = .ok (.putfield 1, 3) := by decide +kernel
theorem dX12_twins_5 : decode cX12_twins 5 = .ok (.aload_n 0, 1) := by decide +kernel
theorem dX12_twins_6 : decode cX12_twins 6 = .ok (.invokevirtual 343, 3) := by decide +kernel
theorem dX12_twins_9 : decode cX12_twins 9 = .ok (.iconst 0, 1) := by decide +kernel
theorem dX12_twins_10 : decode cX12_twins 10 = .ok (.istore_n 1, 1) := by decide +kernel
theorem dX12_twins_11 : decode cX12_twins 11 = .ok (.iconst 0, 1) := by decide +kernel
theorem dX12_twins_12 : decode cX12_twins 12 = .ok (.istore_n 2, 1) := by decide +kernel
theorem dX12_twins_13 : decode cX12_twins 13 = .ok (.iload_n 2, 1) := by decide +kernel
theorem dX12_twins_14 : decode cX12_twins 14 = .ok (.aload_n 0, 1) := by decide +kernel
theorem dX12_twins_15 : decode cX12_twins 15 = .ok (.invokevirtual 266, 3) := by decide +kernel
theorem dX12_twins_18 : decode cX12_twins 18 = .ok (.if_icmp .ge 43, 3) := by decide +kernel
theorem dX12_twins_21 : decode cX12_twins 21 = .ok (.iconst 0, 1) := by decide +kernel
theorem dX12_twins_22 : decode cX12_twins 22 = .ok (.istore_n 3, 1) := by decide +kernel
theorem dX12_twins_23 : decode cX12_twins 23 = .ok (.iload_n 3, 1) := by decide +kernel
theorem dX12_twins_24 : decode cX12_twins 24 = .ok (.iload_n 2, 1) := by decide +kernel
theorem dX12_twins_25 : decode cX12_twins 25 = .ok (.if_icmp .ge 30, 3) := by decide +kernel
theorem dX12_twins_28 : decode cX12_twins 28 = .ok (.iload_n 1, 1) := by decide +kernel
theorem dX12_twins_29 : decode cX12_twins 29 = .ok (.aload_n 0, 1) := by decide +kernel
theorem dX12_twins_30 : decode cX12_twins 30 = .ok (.getfield 137, 3) := by decide +kernel
theorem dX12_twins_33 : decode cX12_twins 33 = .ok (.iconst 4, 1) := by decide +kernel
theorem dX12_twins_34 : decode cX12_twins 34 = .ok (.iload_n 2, 1) := by decide +kernel
theorem dX12_twins_35 : decode cX12_twins 35 = .ok (.imul, 1) := by decide +kernel
theorem dX12_twins_36 : decode cX12_twins 36 = .ok (.iload_n 3, 1) := by decide +kernel
theorem dX12_twins_37 : decode cX12_twins 37 = .ok (.iadd, 1) := by decide +kernel
theorem dX12_twins_38 : decode cX12_twins 38 = .ok (.baload, 1) := by decide +kernel
theorem dX12_twins_39 : decode cX12_twins 39 = .ok (.ifCond .eq 7, 3) := by decide +kernel
theorem dX12_twins_42 : decode cX12_twins 42 = .ok (.iconst 1, 1) := by decide +kernel
theorem dX12_twins_43 : decode cX12_twins 43 = .ok (.goto 4, 3) := by decide +kernel
theorem dX12_twins_46 : decode cX12_twins 46 = .ok (.iconst 0, 1) := by decide +kernel
theorem dX12_twins_47 : decode cX12_twins 47 = .ok (.iadd, 1) := by decide +kernel
theorem dX12_twins_48 : decode cX12_twins 48 = .ok (.istore_n 1, 1) := by decide +kernel
theorem dX12_twins_49 : decode cX12_twins 49 = .ok (.iinc 3 1, 3) := by decide +kernel
theorem dX12_twins_52 : decode cX12_twins 52 = .ok (.goto (-29), 3) := by decide +kernel
theorem dX12_twins_55 : decode cX12_twins 55 = .ok (.iinc 2 1, 3) := by decide +kernel
theorem dX12_twins_58 : decode cX12_twins 58 = .ok (.goto (-45), 3) := by decide +kernel
theorem dX12_twins_61 : decode cX12_twins 61 = .ok (.iload_n 1, 1) := by decide +kernel
theorem dX12_twins_62 : decode cX12_twins 62 = .ok (.ireturn, 1) := by decide +kernel
theorem zq_179 : Cond.fieldLink RX12 119 "ForeignKnitModel" "aside" "[I" ∈ zG := List.mem_of_getElem? (i := 179) (by decide +kernel)
theorem zq_184 : Cond.fieldLink RX12 134 "ForeignKnitModel" "wantedRow" "[I" ∈ zG := List.mem_of_getElem? (i := 184) (by decide +kernel)
theorem zq_1061 : Cond.methodLink RX12 340 yX12_doesLine ∈ zG := List.mem_of_getElem? (i := 1061) (by decide +kernel)
theorem zq_1065 : Cond.methodLink RX12 343 yX12_gathers ∈ zG := List.mem_of_getElem? (i := 1065) (by decide +kernel)
theorem zq_1069 : Cond.methodLink RX12 358 yX12_clears ∈ zG := List.mem_of_getElem? (i := 1069) (by decide +kernel)
theorem zq_1074 : Cond.methodLink RX12 361 yX12_allDictionaries ∈ zG := List.mem_of_getElem? (i := 1074) (by decide +kernel)
theorem zq_1078 : Cond.methodLink RX12 364 yX12_lays ∈ zG := List.mem_of_getElem? (i := 1078) (by decide +kernel)
theorem zq_1082 : Cond.methodLink RX12 367 yX12_goes ∈ zG := List.mem_of_getElem? (i := 1082) (by decide +kernel)
theorem zq_1088 : Cond.methodLink RX12 370 yX12_tells ∈ zG := List.mem_of_getElem? (i := 1088) (by decide +kernel)
theorem zq_1092 : Cond.fieldLink RX12 379 "ForeignKnitModel" "wanted" "I" ∈ zG := List.mem_of_getElem? (i := 1092) (by decide +kernel)
theorem zq_1093 : Cond.methodLink RX12 373 yX12_allRows ∈ zG := List.mem_of_getElem? (i := 1093) (by decide +kernel)
theorem zq_1097 : Cond.methodLink RX12 376 yX12_bits ∈ zG := List.mem_of_getElem? (i := 1097) (by decide +kernel)
theorem zq_1178 : Cond.methodLink RX12 382 yX12_sureOf ∈ zG := List.mem_of_getElem? (i := 1178) (by decide +kernel)
theorem zq_1220 : Cond.methodLink RX12 385 yX12_leastBehind ∈ zG := List.mem_of_getElem? (i := 1220) (by decide +kernel)
theorem zq_1233 : Cond.methodLink RX12 388 yX12_mostBehind ∈ zG := List.mem_of_getElem? (i := 1233) (by decide +kernel)
theorem zq_1249 : Cond.methodLink RX12 391 yX12_kindsOf ∈ zG := List.mem_of_getElem? (i := 1249) (by decide +kernel)
theorem zq_1317 : Cond.methodLink RX12 396 yX12_isGuessed ∈ zG := List.mem_of_getElem? (i := 1317) (by decide +kernel)
theorem zq_1321 : Cond.methodLink RX12 399 yX12_badNow ∈ zG := List.mem_of_getElem? (i := 1321) (by decide +kernel)
theorem zq_1530 : Cond.constantLong RX12 394 (1000000) ∈ zG := List.mem_of_getElem? (i := 1530) (by decide +kernel)
theorem zfd_X12_119 : zFd RX12 119 12 26 := ⟨_, rfl, by decide, zq_179⟩
theorem zfd_X12_134 : zFd RX12 134 12 36 := ⟨_, rfl, by decide, zq_184⟩
theorem zfd_X12_346 : zFd RX12 346 12 31 := ⟨_, rfl, by decide, zq_1060⟩
theorem zfd_X12_355 : zFd RX12 355 12 33 := ⟨_, rfl, by decide, zq_1073⟩
theorem zfd_X12_379 : zFd RX12 379 12 32 := ⟨_, rfl, by decide, zq_1092⟩
theorem zfp_X12_379 : zFp RX12 379 12 32 .int := ⟨_, rfl, by decide, zq_1092, rfl, by decide +kernel⟩
theorem zq_1077 : Cond.code yX12_allDictionaries cX12_allDictionaries 3 (some .int) ∈ zG := List.mem_of_getElem? (i := 1077) (by decide +kernel)
theorem zq_1075 : Cond.instanceMethod yX12_allDictionaries ∈ zG := List.mem_of_getElem? (i := 1075) (by decide +kernel)
theorem zq_1076 : Cond.selects RX12 yX12_allDictionaries yX12_allDictionaries ∈ zG := List.mem_of_getElem? (i := 1076) (by decide +kernel)
theorem zy_X12_allDictionaries : zyV yX12_allDictionaries cX12_allDictionaries 3 (some .int) 0 := ⟨zq_1077, zq_1075, zq_1076, zq_5, ⟨by decide, by decide⟩, by decide +kernel, by decide⟩
theorem zq_1096 : Cond.code yX12_allRows cX12_allRows 1 (some .int) ∈ zG := List.mem_of_getElem? (i := 1096) (by decide +kernel)
theorem zq_1094 : Cond.instanceMethod yX12_allRows ∈ zG := List.mem_of_getElem? (i := 1094) (by decide +kernel)
theorem zq_1095 : Cond.selects RX12 yX12_allRows yX12_allRows ∈ zG := List.mem_of_getElem? (i := 1095) (by decide +kernel)
theorem zy_X12_allRows : zyV yX12_allRows cX12_allRows 1 (some .int) 0 := ⟨zq_1096, zq_1094, zq_1095, zq_5, ⟨by decide, by decide⟩, by decide +kernel, by decide⟩
theorem zq_1324 : Cond.code yX12_badNow cX12_badNow 3 (some .int) ∈ zG := List.mem_of_getElem? (i := 1324) (by decide +kernel)
theorem zq_1322 : Cond.instanceMethod yX12_badNow ∈ zG := List.mem_of_getElem? (i := 1322) (by decide +kernel)
theorem zq_1323 : Cond.selects RX12 yX12_badNow yX12_badNow ∈ zG := List.mem_of_getElem? (i := 1323) (by decide +kernel)
theorem zy_X12_badNow : zyV yX12_badNow cX12_badNow 3 (some .int) 0 := ⟨zq_1324, zq_1322, zq_1323, zq_5, ⟨by decide, by decide⟩, by decide +kernel, by decide⟩
theorem zq_1072 : Cond.code yX12_clears cX12_clears 2 none ∈ zG := List.mem_of_getElem? (i := 1072) (by decide +kernel)
theorem zq_1070 : Cond.instanceMethod yX12_clears ∈ zG := List.mem_of_getElem? (i := 1070) (by decide +kernel)
theorem zq_1071 : Cond.selects RX12 yX12_clears yX12_clears ∈ zG := List.mem_of_getElem? (i := 1071) (by decide +kernel)
theorem zy_X12_clears : zyV yX12_clears cX12_clears 2 none 0 := ⟨zq_1072, zq_1070, zq_1071, zq_5, ⟨by decide, by decide⟩, by decide +kernel, by decide⟩
theorem zq_1064 : Cond.code yX12_doesLine cX12_doesLine 3 (some .boolean) ∈ zG := List.mem_of_getElem? (i := 1064) (by decide +kernel)
theorem zq_1062 : Cond.instanceMethod yX12_doesLine ∈ zG := List.mem_of_getElem? (i := 1062) (by decide +kernel)
theorem zq_1063 : Cond.selects RX12 yX12_doesLine yX12_doesLine ∈ zG := List.mem_of_getElem? (i := 1063) (by decide +kernel)
theorem zy_X12_doesLine : zyV yX12_doesLine cX12_doesLine 3 (some .boolean) 1 := ⟨zq_1064, zq_1062, zq_1063, zq_5, ⟨by decide, by decide⟩, by decide +kernel, by decide⟩
theorem zq_1068 : Cond.code yX12_gathers cX12_gathers 2 none ∈ zG := List.mem_of_getElem? (i := 1068) (by decide +kernel)
theorem zq_1066 : Cond.instanceMethod yX12_gathers ∈ zG := List.mem_of_getElem? (i := 1066) (by decide +kernel)
theorem zq_1067 : Cond.selects RX12 yX12_gathers yX12_gathers ∈ zG := List.mem_of_getElem? (i := 1067) (by decide +kernel)
theorem zy_X12_gathers : zyV yX12_gathers cX12_gathers 2 none 0 := ⟨zq_1068, zq_1066, zq_1067, zq_5, ⟨by decide, by decide⟩, by decide +kernel, by decide⟩
theorem zq_1085 : Cond.code yX12_goes cX12_goes 6 none ∈ zG := List.mem_of_getElem? (i := 1085) (by decide +kernel)
theorem zq_1083 : Cond.instanceMethod yX12_goes ∈ zG := List.mem_of_getElem? (i := 1083) (by decide +kernel)
theorem zq_1084 : Cond.selects RX12 yX12_goes yX12_goes ∈ zG := List.mem_of_getElem? (i := 1084) (by decide +kernel)
theorem zy_X12_goes : zyV yX12_goes cX12_goes 6 none 0 := ⟨zq_1085, zq_1083, zq_1084, zq_5, ⟨by decide, by decide⟩, by decide +kernel, by decide⟩
theorem zq_1320 : Cond.code yX12_isGuessed cX12_isGuessed 2 (some .boolean) ∈ zG := List.mem_of_getElem? (i := 1320) (by decide +kernel)
theorem zq_1318 : Cond.instanceMethod yX12_isGuessed ∈ zG := List.mem_of_getElem? (i := 1318) (by decide +kernel)
theorem zq_1319 : Cond.selects RX12 yX12_isGuessed yX12_isGuessed ∈ zG := List.mem_of_getElem? (i := 1319) (by decide +kernel)
theorem zy_X12_isGuessed : zyV yX12_isGuessed cX12_isGuessed 2 (some .boolean) 0 := ⟨zq_1320, zq_1318, zq_1319, zq_5, ⟨by decide, by decide⟩, by decide +kernel, by decide⟩
theorem zq_1252 : Cond.code yX12_kindsOf cX12_kindsOf 4 (some .int) ∈ zG := List.mem_of_getElem? (i := 1252) (by decide +kernel)
theorem zq_1250 : Cond.instanceMethod yX12_kindsOf ∈ zG := List.mem_of_getElem? (i := 1250) (by decide +kernel)
theorem zq_1251 : Cond.selects RX12 yX12_kindsOf yX12_kindsOf ∈ zG := List.mem_of_getElem? (i := 1251) (by decide +kernel)
theorem zy_X12_kindsOf : zyV yX12_kindsOf cX12_kindsOf 4 (some .int) 1 := ⟨zq_1252, zq_1250, zq_1251, zq_5, ⟨by decide, by decide⟩, by decide +kernel, by decide⟩
theorem zq_1081 : Cond.code yX12_lays cX12_lays 5 (some .boolean) ∈ zG := List.mem_of_getElem? (i := 1081) (by decide +kernel)
theorem zq_1079 : Cond.instanceMethod yX12_lays ∈ zG := List.mem_of_getElem? (i := 1079) (by decide +kernel)
theorem zq_1080 : Cond.selects RX12 yX12_lays yX12_lays ∈ zG := List.mem_of_getElem? (i := 1080) (by decide +kernel)
theorem zy_X12_lays : zyV yX12_lays cX12_lays 5 (some .boolean) 1 := ⟨zq_1081, zq_1079, zq_1080, zq_5, ⟨by decide, by decide⟩, by decide +kernel, by decide⟩
theorem zq_1223 : Cond.code yX12_leastBehind cX12_leastBehind 4 (some .int) ∈ zG := List.mem_of_getElem? (i := 1223) (by decide +kernel)
theorem zq_1221 : Cond.instanceMethod yX12_leastBehind ∈ zG := List.mem_of_getElem? (i := 1221) (by decide +kernel)
theorem zq_1222 : Cond.selects RX12 yX12_leastBehind yX12_leastBehind ∈ zG := List.mem_of_getElem? (i := 1222) (by decide +kernel)
theorem zy_X12_leastBehind : zyV yX12_leastBehind cX12_leastBehind 4 (some .int) 1 := ⟨zq_1223, zq_1221, zq_1222, zq_5, ⟨by decide, by decide⟩, by decide +kernel, by decide⟩
theorem zq_1236 : Cond.code yX12_mostBehind cX12_mostBehind 4 (some .int) ∈ zG := List.mem_of_getElem? (i := 1236) (by decide +kernel)
theorem zq_1234 : Cond.instanceMethod yX12_mostBehind ∈ zG := List.mem_of_getElem? (i := 1234) (by decide +kernel)
theorem zq_1235 : Cond.selects RX12 yX12_mostBehind yX12_mostBehind ∈ zG := List.mem_of_getElem? (i := 1235) (by decide +kernel)
theorem zy_X12_mostBehind : zyV yX12_mostBehind cX12_mostBehind 4 (some .int) 1 := ⟨zq_1236, zq_1234, zq_1235, zq_5, ⟨by decide, by decide⟩, by decide +kernel, by decide⟩
theorem zq_1181 : Cond.code yX12_sureOf cX12_sureOf 4 (some .int) ∈ zG := List.mem_of_getElem? (i := 1181) (by decide +kernel)
theorem zq_1179 : Cond.instanceMethod yX12_sureOf ∈ zG := List.mem_of_getElem? (i := 1179) (by decide +kernel)
theorem zq_1180 : Cond.selects RX12 yX12_sureOf yX12_sureOf ∈ zG := List.mem_of_getElem? (i := 1180) (by decide +kernel)
theorem zy_X12_sureOf : zyV yX12_sureOf cX12_sureOf 4 (some .int) 1 := ⟨zq_1181, zq_1179, zq_1180, zq_5, ⟨by decide, by decide⟩, by decide +kernel, by decide⟩
theorem zq_1091 : Cond.code yX12_tells cX12_tells 4 none ∈ zG := List.mem_of_getElem? (i := 1091) (by decide +kernel)
theorem zq_1089 : Cond.instanceMethod yX12_tells ∈ zG := List.mem_of_getElem? (i := 1089) (by decide +kernel)
theorem zq_1090 : Cond.selects RX12 yX12_tells yX12_tells ∈ zG := List.mem_of_getElem? (i := 1090) (by decide +kernel)
theorem zy_X12_tells : zyV yX12_tells cX12_tells 4 none 0 := ⟨zq_1091, zq_1089, zq_1090, zq_5, ⟨by decide, by decide⟩, by decide +kernel, by decide⟩
theorem zq_1099 : Cond.code yX12_bits cX12_bits 3 (some .int) ∈ zG := List.mem_of_getElem? (i := 1099) (by decide +kernel)
theorem zq_1098 : Cond.static yX12_bits ∈ zG := List.mem_of_getElem? (i := 1098) (by decide +kernel)
theorem zy_X12_bits : zyS yX12_bits cX12_bits 3 (some .int) 1 := ⟨zq_1099, zq_1098, zq_5, ⟨by decide, by decide⟩, by decide +kernel, by decide⟩
theorem zf_226 : zfix 226 = true := by decide +kernel
theorem zs_226 : zsh 226 = 20 := by decide +kernel
theorem zl_226 : zln 226 = 12 := by decide +kernel
theorem zf_236 : zfix 236 = true := by decide +kernel
theorem zs_236 : zsh 236 = 20 := by decide +kernel
theorem zl_236 : zln 236 = 4 := by decide +kernel
section ZM
variable {p : Program} {l : Launch} {e : Env} {R : Room} {s : State} {m : MethodId} {args : Array Value} {below : List Frame} {meth : Method} {c : Code} {cells slots : Nat} {Q : State → Prop} {D : va_G} {dA : Nat → ClassId} {ad ad0 : Nat → Nat} {al al0 : Nat → Prop}
/-! X12_lays -/
def fX12_lays_L12 (k : Int32 → zW → Prop) : Nat → Int32 → Int32 → Int32 → zW → Prop
  | 0 => fun _ _ _ _ => False
  | n + 1 => fun x2 x3 x4 w =>
    ((x4 < 0 →
      zb01 x3 ∧ k x3 w) ∧
     (¬ x4 < 0 →
      vp_in x4 4 ∧ 
      ∀ w5 : zW, w5 = sI w 227 x4.toNatClampNeg (x2 % (9 : Int32)) →
      ∀ v6 : Int32, v6 = x2 / (9 : Int32) →
      ((x3 = 0 →
        fX12_lays_L12 k n v6 (0 : Int32) (x4 + (-1 : Int32)) w5) ∧
       (¬ x3 = 0 →
        vp_in (((9 : Int32) * x4) + (gI w5 227 x4.toNatClampNeg)) 36 ∧ 
        (((gI w5 223 (((9 : Int32) * x4) + (gI w5 227 x4.toNatClampNeg)).toNatClampNeg) = 0 →
          fX12_lays_L12 k n v6 (0 : Int32) (x4 + (-1 : Int32)) w5) ∧
         (¬ (gI w5 223 (((9 : Int32) * x4) + (gI w5 227 x4.toNatClampNeg)).toNatClampNeg) = 0 →
          vp_in x4 252 ∧ 
          (((gI w5 220 x4.toNatClampNeg) < 0 →
            fX12_lays_L12 k n v6 (1 : Int32) (x4 + (-1 : Int32)) w5) ∧
           (¬ (gI w5 220 x4.toNatClampNeg) < 0 →
            ∀ v12 : Int32, v12 = (if ¬ (gI w5 220 x4.toNatClampNeg) = (gI w5 227 x4.toNatClampNeg) then (0 : Int32) else (1 : Int32)) →
            fX12_lays_L12 k n v6 v12 (x4 + (-1 : Int32)) w5))))))))
set_option maxHeartbeats 4000000 in
set_option maxRecDepth 100000 in
theorem mX12_lays_L12 {k : Int32 → zW → Prop} (X : zCx p s m args meth c cX12_lays 5 RX12 (some .boolean)) (hr : zRm R 1 cells slots) (hQ : zRetZ p l e R s m args below meth c cells slots Q D dA true ad0 al0 ad al cX12_lays k)  : ∀ (n : Nat) (x2 : Int32) (x3 : Int32) (x4 : Int32) (w : zW) (H : Heap) (locs : List Loc) (ls : Array Slot), fX12_lays_L12 k n x2 x3 x4 w → zSt D dA true ad0 al0 ad al w s H locs → lv_has ls 5 [(0, .ref (ad 200)), (2, .int x2), (3, .int x3), (4, .int x4)] → W p l e R s m args below meth c H locs cells slots Q (F0 m 12 ls []) := by
  intro n
  induction n with
  | zero => exact fun _ _ _ _ _ _ _ hf => hf.elim
  | succ n ih =>
    intro x2 x3 x4 w H locs ls hf hR hl
    have hx := X.1
    have hb := X.2.1
    have hml := X.2.2.1
    have hown := X.2.2.2.1
    have hts := X.2.2.2.2.1
    rw [fX12_lays_L12] at hf
    refine lv_iload hx hb dX12_lays_12 (lv_at hl 3 rfl) ?_
    refine lv_if_lt (tgt := 97) hx hb dX12_lays_14 (by decide) (fun c3 => ?_) (fun c3 => ?_)
    · replace hf := hf.1 c3
      refine lv_iload_n hx hb dX12_lays_97 rfl (lv_at hl 2 rfl) ?_
      obtain ⟨h01, hf⟩ := hf
      exact hQ _ _ _ _ _ _ h01 hf hR dX12_lays_98
    · replace hf := hf.2 c3
      refine lv_aload_n hx hb dX12_lays_17 rfl (lv_at hl 0 rfl) ?_
      refine z_getS X hR (zlit hR zf_200) zs_200 (by decide) zfd_X12_122 rfl (r := 227) (by decide +kernel) dX12_lays_18 ?_
      refine lv_iload hx hb dX12_lays_21 (lv_at hl 3 rfl) ?_
      refine lv_iload_n hx hb dX12_lays_23 rfl (lv_at hl 1 rfl) ?_
      refine lv_bipush (v := (9 : Int32)) hx hb dX12_lays_24 (by decide) ?_
      refine z_irem X dX12_lays_26 (by decide) ?_
      obtain ⟨hb4, hf⟩ := hf
      refine z_iast X hR (zlit hR zf_227) zs_227 zl_227 hb4 dX12_lays_27 (fun H locs hR => ?_)
      obtain ⟨w5, hw5⟩ : ∃ z : zW, z = sI w 227 x4.toNatClampNeg (x2 % (9 : Int32)) := ⟨_, rfl⟩
      rw [← hw5] at hR
      replace hf := hf w5 hw5
      refine lv_iload_n hx hb dX12_lays_28 rfl (lv_at hl 1 rfl) ?_
      refine lv_bipush (v := (9 : Int32)) hx hb dX12_lays_29 (by decide) ?_
      refine lv_idiv hx hb dX12_lays_31 (by decide) ?_
      refine lv_topi (fun v6 hv6 => ?_)
      replace hf := hf v6 hv6
      refine lv_istore_n (lv' := [(2, .int v6), (0, .ref (ad 200)), (3, .int x3), (4, .int x4)]) hx hb dX12_lays_32 rfl hl (by decide) rfl (fun ls hl => ?_)
      refine lv_iload_n hx hb dX12_lays_33 rfl (lv_at hl 2 rfl) ?_
      refine lv_if_eq (tgt := 89) hx hb dX12_lays_34 (by decide) (fun c7 => ?_) (fun c7 => ?_)
      · replace hf := hf.1 c7
        refine lv_iconst (v := (0 : Int32)) hx hb dX12_lays_89 (by decide) ?_
        refine lv_istore_n (lv' := [(3, .int (0 : Int32)), (2, .int v6), (0, .ref (ad 200)), (4, .int x4)]) hx hb dX12_lays_90 rfl hl (by decide) rfl (fun ls hl => ?_)
        refine lv_iinc (v := x4 + (-1 : Int32)) (lv' := [(4, .int (x4 + (-1 : Int32))), (3, .int (0 : Int32)), (2, .int v6), (0, .ref (ad 200))]) hx hb dX12_lays_91 hl (k := 3) rfl rfl (by decide) rfl (fun ls hl => ?_)
        refine lv_goto (tgt := 12) hx hb dX12_lays_94 (by decide) ?_
        exact ih v6 (0 : Int32) (x4 + (-1 : Int32)) w5 _ _ _ hf hR (lv_sub hl [3, 2, 1, 0] rfl)
      · replace hf := hf.2 c7
        refine lv_aload_n hx hb dX12_lays_37 rfl (lv_at hl 1 rfl) ?_
        refine z_getS X hR (zlit hR zf_200) zs_200 (by decide) zfd_X12_110 rfl (r := 223) (by decide +kernel) dX12_lays_38 ?_
        refine lv_bipush (v := (9 : Int32)) hx hb dX12_lays_41 (by decide) ?_
        refine lv_iload hx hb dX12_lays_43 (lv_at hl 3 rfl) ?_
        refine lv_imul hx hb dX12_lays_45 ?_
        refine lv_aload_n hx hb dX12_lays_46 rfl (lv_at hl 1 rfl) ?_
        refine z_getS X hR (zlit hR zf_200) zs_200 (by decide) zfd_X12_122 rfl (r := 227) (by decide +kernel) dX12_lays_47 ?_
        refine lv_iload hx hb dX12_lays_50 (lv_at hl 3 rfl) ?_
        refine z_iald X hR (zlit hR zf_227) zs_227 zl_227 hb4 dX12_lays_52 ?_
        refine lv_iadd hx hb dX12_lays_53 ?_
        obtain ⟨hb8, hf⟩ := hf
        refine z_zald X hR (zlit hR zf_223) zs_223 zl_223 hb8 dX12_lays_54 ?_
        refine lv_if_eq (tgt := 89) hx hb dX12_lays_55 (by decide) (fun c9 => ?_) (fun c9 => ?_)
        · replace hf := hf.1 c9
          refine lv_iconst (v := (0 : Int32)) hx hb dX12_lays_89 (by decide) ?_
          refine lv_istore_n (lv' := [(3, .int (0 : Int32)), (2, .int v6), (0, .ref (ad 200)), (4, .int x4)]) hx hb dX12_lays_90 rfl hl (by decide) rfl (fun ls hl => ?_)
          refine lv_iinc (v := x4 + (-1 : Int32)) (lv' := [(4, .int (x4 + (-1 : Int32))), (3, .int (0 : Int32)), (2, .int v6), (0, .ref (ad 200))]) hx hb dX12_lays_91 hl (k := 3) rfl rfl (by decide) rfl (fun ls hl => ?_)
          refine lv_goto (tgt := 12) hx hb dX12_lays_94 (by decide) ?_
          exact ih v6 (0 : Int32) (x4 + (-1 : Int32)) w5 _ _ _ hf hR (lv_sub hl [3, 2, 1, 0] rfl)
        · replace hf := hf.2 c9
          refine lv_aload_n hx hb dX12_lays_58 rfl (lv_at hl 1 rfl) ?_
          refine z_getS X hR (zlit hR zf_200) zs_200 (by decide) zfd_X12_103 rfl (r := 220) (by decide +kernel) dX12_lays_59 ?_
          refine lv_iload hx hb dX12_lays_62 (lv_at hl 3 rfl) ?_
          obtain ⟨hb10, hf⟩ := hf
          refine z_iald X hR (zlit hR zf_220) zs_220 zl_220 hb10 dX12_lays_64 ?_
          refine lv_if_lt (tgt := 85) hx hb dX12_lays_65 (by decide) (fun c11 => ?_) (fun c11 => ?_)
          · replace hf := hf.1 c11
            refine lv_iconst (v := (1 : Int32)) hx hb dX12_lays_85 (by decide) ?_
            refine lv_goto (tgt := 90) hx hb dX12_lays_86 (by decide) ?_
            refine lv_istore_n (lv' := [(3, .int (1 : Int32)), (2, .int v6), (0, .ref (ad 200)), (4, .int x4)]) hx hb dX12_lays_90 rfl hl (by decide) rfl (fun ls hl => ?_)
            refine lv_iinc (v := x4 + (-1 : Int32)) (lv' := [(4, .int (x4 + (-1 : Int32))), (3, .int (1 : Int32)), (2, .int v6), (0, .ref (ad 200))]) hx hb dX12_lays_91 hl (k := 3) rfl rfl (by decide) rfl (fun ls hl => ?_)
            refine lv_goto (tgt := 12) hx hb dX12_lays_94 (by decide) ?_
            exact ih v6 (1 : Int32) (x4 + (-1 : Int32)) w5 _ _ _ hf hR (lv_sub hl [3, 2, 1, 0] rfl)
          · replace hf := hf.2 c11
            refine lv_aload_n hx hb dX12_lays_68 rfl (lv_at hl 1 rfl) ?_
            refine z_getS X hR (zlit hR zf_200) zs_200 (by decide) zfd_X12_103 rfl (r := 220) (by decide +kernel) dX12_lays_69 ?_
            refine lv_iload hx hb dX12_lays_72 (lv_at hl 3 rfl) ?_
            refine z_iald X hR (zlit hR zf_220) zs_220 zl_220 hb10 dX12_lays_74 ?_
            refine lv_aload_n hx hb dX12_lays_75 rfl (lv_at hl 1 rfl) ?_
            refine z_getS X hR (zlit hR zf_200) zs_200 (by decide) zfd_X12_122 rfl (r := 227) (by decide +kernel) dX12_lays_76 ?_
            refine lv_iload hx hb dX12_lays_79 (lv_at hl 3 rfl) ?_
            refine z_iald X hR (zlit hR zf_227) zs_227 zl_227 hb4 dX12_lays_81 ?_
            have kJ12 : ∀ v12 : Int32, v12 = (if ¬ (gI w5 220 x4.toNatClampNeg) = (gI w5 227 x4.toNatClampNeg) then (0 : Int32) else (1 : Int32)) → W p l e R s m args below meth c H locs cells slots Q (F0 m 90 ls (.int v12 :: [])) := by
              intro v12 hv12
              replace hf := hf v12 hv12
              refine lv_istore_n (lv' := [(3, .int v12), (2, .int v6), (0, .ref (ad 200)), (4, .int x4)]) hx hb dX12_lays_90 rfl hl (by decide) rfl (fun ls hl => ?_)
              refine lv_iinc (v := x4 + (-1 : Int32)) (lv' := [(4, .int (x4 + (-1 : Int32))), (3, .int v12), (2, .int v6), (0, .ref (ad 200))]) hx hb dX12_lays_91 hl (k := 3) rfl rfl (by decide) rfl (fun ls hl => ?_)
              refine lv_goto (tgt := 12) hx hb dX12_lays_94 (by decide) ?_
              exact ih v6 v12 (x4 + (-1 : Int32)) w5 _ _ _ hf hR (lv_sub hl [3, 2, 1, 0] rfl)
            refine lv_icmp_ne (tgt := 89) hx hb dX12_lays_82 (by decide) (fun c12 => ?_) (fun c12 => ?_)
            · refine lv_iconst (v := (0 : Int32)) hx hb dX12_lays_89 (by decide) ?_
              exact kJ12 _ (if_pos c12).symm
            · refine lv_iconst (v := (1 : Int32)) hx hb dX12_lays_85 (by decide) ?_
              refine lv_goto (tgt := 90) hx hb dX12_lays_86 (by decide) ?_
              exact kJ12 _ (if_neg (fun h9 => h9 c12)).symm
def fX12_lays (x1 : Int32) (w : zW) (k : Int32 → zW → Prop) : Prop :=
  fX12_wordsTold  w (fun r1 w1 =>
  ∀ v2 : Int32, v2 = r1 - (1 : Int32) →
  ∃ n9, fX12_lays_L12 k n9 x1 (1 : Int32) v2 w1)
set_option maxHeartbeats 4000000 in
set_option maxRecDepth 100000 in
theorem mX12_lays {l : Launch} {D : va_G} {dA : Nat → ClassId} {ad : Nat → Nat} {al : Nat → Prop} {w : zW} {k : Int32 → zW → Prop} {x1 : Int32}   (hf : fX12_lays x1 w k) : zmetI l yX12_lays cX12_lays 5 (some .boolean) 1 [.ref (ad 200), .int x1] D dA true ad al w k := by
  refine zmetZ_of (by decide) (Nat.le_of_ble_eq_true rfl) ?_
  intro p e R s m below meth c Q H ls args locs cells slots X hr hQ hR hl
  have hx := X.1
  have hb := X.2.1
  have hml := X.2.2.1
  have hown := X.2.2.2.1
  have hts := X.2.2.2.2.1
  unfold fX12_lays at hf
  have hl : lv_has ls 5 [(0, .ref (ad 200)), (1, .int x1)] := hl
  refine lv_iload_n hx hb dX12_lays_0 rfl (lv_at hl 1 rfl) ?_
  refine lv_istore_n (lv' := [(2, .int x1), (0, .ref (ad 200)), (1, .int x1)]) hx hb dX12_lays_1 rfl hl (by decide) rfl (fun ls hl => ?_)
  refine lv_iconst (v := (1 : Int32)) hx hb dX12_lays_2 (by decide) ?_
  refine lv_istore_n (lv' := [(3, .int (1 : Int32)), (2, .int x1), (0, .ref (ad 200)), (1, .int x1)]) hx hb dX12_lays_3 rfl hl (by decide) rfl (fun ls hl => ?_)
  refine lv_aload_n hx hb dX12_lays_4 rfl (lv_at hl 2 rfl) ?_
  refine z_callVI (fr1 := 0) (b := 200) (As := []) (rest := []) X (hr.le (by decide)) hR zy_X12_wordsTold zq_211 (zlit hR zf_200) (by rw [zs_200]; rfl) rfl (mX12_wordsTold  hf) rfl hl (Nat.le_of_ble_eq_true rfl) dX12_lays_5 rfl (fun r1 w1 H locs hf hR => ?_)
  refine lv_iconst (v := (1 : Int32)) hx hb dX12_lays_8 (by decide) ?_
  refine lv_isub hx hb dX12_lays_9 ?_
  refine lv_topi (fun v2 hv2 => ?_)
  replace hf := hf v2 hv2
  refine lv_istore (lv' := [(4, .int v2), (3, .int (1 : Int32)), (2, .int x1), (0, .ref (ad 200)), (1, .int x1)]) hx hb dX12_lays_10 hl (by decide) rfl (fun ls hl => ?_)
  obtain ⟨n9, hf⟩ := hf
  exact mX12_lays_L12 X hr hQ  n9 x1 (1 : Int32) v2 w1 _ _ _ hf hR (lv_sub hl [3, 2, 1, 0] rfl)
/-! X12_allRows -/
def fX12_allRows (w : zW) (k : Int32 → zW → Prop) : Prop :=
  fX12_rows  w (fun r1 w1 =>
  k (((1 : Int32) <<< (r1 &&& 31)) - (1 : Int32)) w1)
set_option maxHeartbeats 4000000 in
set_option maxRecDepth 100000 in
theorem mX12_allRows {l : Launch} {D : va_G} {dA : Nat → ClassId} {ad : Nat → Nat} {al : Nat → Prop} {w : zW} {k : Int32 → zW → Prop}   (hf : fX12_allRows w k) : zmetI l yX12_allRows cX12_allRows 1 (some .int) 1 [.ref (ad 200)] D dA true ad al w k := by
  refine zmetI_of (by decide) (Nat.le_of_ble_eq_true rfl) ?_
  intro p e R s m below meth c Q H ls args locs cells slots X hr hQ hR hl
  have hx := X.1
  have hb := X.2.1
  have hml := X.2.2.1
  have hown := X.2.2.2.1
  have hts := X.2.2.2.2.1
  unfold fX12_allRows at hf
  have hl : lv_has ls 1 [(0, .ref (ad 200))] := hl
  refine lv_iconst (v := (1 : Int32)) hx hb dX12_allRows_0 (by decide) ?_
  refine lv_aload_n hx hb dX12_allRows_1 rfl (lv_at hl 0 rfl) ?_
  refine z_callVI (fr1 := 0) (b := 200) (As := []) (rest := [.int (1 : Int32)]) X (hr.le (by decide)) hR zy_X12_rows zq_199 (zlit hR zf_200) (by rw [zs_200]; rfl) rfl (mX12_rows  hf) rfl hl (Nat.le_of_ble_eq_true rfl) dX12_allRows_2 rfl (fun r1 w1 H locs hf hR => ?_)
  refine lv_ishl hx hb dX12_allRows_5 ?_
  refine lv_iconst (v := (1 : Int32)) hx hb dX12_allRows_6 (by decide) ?_
  refine lv_isub hx hb dX12_allRows_7 ?_
  exact hQ _ _ _ _ _ _ hf hR dX12_allRows_8
/-! X12_tells -/
def fX12_tells_L289 (k : zW → Prop) : Nat → Int32 → zW → Prop
  | 0 => fun _ _ => False
  | n + 1 => fun x2 w =>
    fX12_rows  w (fun r10 w10 =>
    ((r10 ≤ x2 →
      ∀ w12 : zW, w12 = sI w10 200 31 ((gI w10 200 31) + (1 : Int32)) →
      k w12) ∧
     (¬ r10 ≤ x2 →
      vp_in x2 8 ∧ 
      vp_in (((121 : Int32) * x2) + (gI w10 228 x2.toNatClampNeg)) 968 ∧ 
      ∀ w15 : zW, w15 = sI w10 235 (((121 : Int32) * x2) + (gI w10 228 x2.toNatClampNeg)).toNatClampNeg ((gI w10 235 (((121 : Int32) * x2) + (gI w10 228 x2.toNatClampNeg)).toNatClampNeg) + (1 : Int32)) →
      fX12_tells_L289 k n (x2 + (1 : Int32)) w15)))
set_option maxHeartbeats 4000000 in
set_option maxRecDepth 100000 in
theorem mX12_tells_L289 {k : zW → Prop} (X : zCx p s m args meth c cX12_tells 4 RX12 none) (hr : zRm R 2 cells slots) (hQ : zRetV p l e R s m args below meth c cells slots Q D dA true ad0 al0 ad al cX12_tells k)  : ∀ (n : Nat) (x2 : Int32) (w : zW) (H : Heap) (locs : List Loc) (ls : Array Slot), fX12_tells_L289 k n x2 w → zSt D dA true ad0 al0 ad al w s H locs → lv_has ls 4 [(0, .ref (ad 200)), (2, .int x2)] → W p l e R s m args below meth c H locs cells slots Q (F0 m 289 ls []) := by
  intro n
  induction n with
  | zero => exact fun _ _ _ _ _ hf => hf.elim
  | succ n ih =>
    intro x2 w H locs ls hf hR hl
    have hx := X.1
    have hb := X.2.1
    have hml := X.2.2.1
    have hown := X.2.2.2.1
    have hts := X.2.2.2.2.1
    rw [fX12_tells_L289] at hf
    refine lv_iload_n hx hb dX12_tells_289 rfl (lv_at hl 1 rfl) ?_
    refine lv_aload_n hx hb dX12_tells_290 rfl (lv_at hl 0 rfl) ?_
    refine z_callVI (fr1 := 0) (b := 200) (As := []) (rest := [.int x2]) X (hr.le (by decide)) hR zy_X12_rows zq_199 (zlit hR zf_200) (by rw [zs_200]; rfl) rfl (mX12_rows  hf) rfl hl (Nat.le_of_ble_eq_true rfl) dX12_tells_291 rfl (fun r10 w10 H locs hf hR => ?_)
    refine lv_icmp_ge (tgt := 323) hx hb dX12_tells_294 (by decide) (fun c11 => ?_) (fun c11 => ?_)
    · replace hf := hf.1 c11
      refine lv_aload_n hx hb dX12_tells_323 rfl (lv_at hl 0 rfl) ?_
      refine lv_dup hx hb dX12_tells_324 rfl ?_
      refine z_getI X hR (zlit hR zf_200) zs_200 (by decide) zfd_X12_346 rfl dX12_tells_325 ?_
      refine lv_iconst (v := (1 : Int32)) hx hb dX12_tells_328 (by decide) ?_
      refine lv_iadd hx hb dX12_tells_329 ?_
      refine z_putI X hR (zlit hR zf_200) zs_200 (by decide) zfp_X12_346 rfl dX12_tells_330 (fun H locs hR => ?_)
      obtain ⟨w12, hw12⟩ : ∃ z : zW, z = sI w10 200 31 ((gI w10 200 31) + (1 : Int32)) := ⟨_, rfl⟩
      rw [← hw12] at hR
      replace hf := hf w12 hw12
      exact hQ _ _ _ _ _ hf hR dX12_tells_333
    · replace hf := hf.2 c11
      refine lv_aload_n hx hb dX12_tells_297 rfl (lv_at hl 0 rfl) ?_
      refine z_getS X hR (zlit hR zf_200) zs_200 (by decide) zfd_X12_131 rfl (r := 235) (by decide +kernel) dX12_tells_298 ?_
      refine lv_bipush (v := (121 : Int32)) hx hb dX12_tells_301 (by decide) ?_
      refine lv_iload_n hx hb dX12_tells_303 rfl (lv_at hl 1 rfl) ?_
      refine lv_imul hx hb dX12_tells_304 ?_
      refine lv_aload_n hx hb dX12_tells_305 rfl (lv_at hl 0 rfl) ?_
      refine z_getS X hR (zlit hR zf_200) zs_200 (by decide) zfd_X12_125 rfl (r := 228) (by decide +kernel) dX12_tells_306 ?_
      refine lv_iload_n hx hb dX12_tells_309 rfl (lv_at hl 1 rfl) ?_
      obtain ⟨hb13, hf⟩ := hf
      refine z_iald X hR (zlit hR zf_228) zs_228 zl_228 hb13 dX12_tells_310 ?_
      refine lv_iadd hx hb dX12_tells_311 ?_
      refine lv_dup2_11 hx hb dX12_tells_312 rfl rfl ?_
      obtain ⟨hb14, hf⟩ := hf
      refine z_iald X hR (zlit hR zf_235) zs_235 zl_235 hb14 dX12_tells_313 ?_
      refine lv_iconst (v := (1 : Int32)) hx hb dX12_tells_314 (by decide) ?_
      refine lv_iadd hx hb dX12_tells_315 ?_
      refine z_iast X hR (zlit hR zf_235) zs_235 zl_235 hb14 dX12_tells_316 (fun H locs hR => ?_)
      obtain ⟨w15, hw15⟩ : ∃ z : zW, z = sI w10 235 (((121 : Int32) * x2) + (gI w10 228 x2.toNatClampNeg)).toNatClampNeg ((gI w10 235 (((121 : Int32) * x2) + (gI w10 228 x2.toNatClampNeg)).toNatClampNeg) + (1 : Int32)) := ⟨_, rfl⟩
      rw [← hw15] at hR
      replace hf := hf w15 hw15
      refine lv_iinc (v := x2 + (1 : Int32)) (lv' := [(2, .int (x2 + (1 : Int32))), (0, .ref (ad 200))]) hx hb dX12_tells_317 hl (k := 1) rfl rfl (by decide) rfl (fun ls hl => ?_)
      refine lv_goto (tgt := 289) hx hb dX12_tells_320 (by decide) ?_
      exact ih (x2 + (1 : Int32)) w15 _ _ _ hf hR (lv_sub hl [1, 0] rfl)
def fX12_tells_J280 (k : zW → Prop) (g162 : Int32 → zW → Prop) (x2 : Int32) (t0 : Int32) (t1 : Int32) (w : zW) : Prop :=
  vp_in t1 4 ∧ 
  ∀ w24 : zW, w24 = sI w 236 t1.toNatClampNeg t0 →
  g162 (x2 + (1 : Int32)) w24
set_option maxHeartbeats 4000000 in
set_option maxRecDepth 100000 in
theorem mX12_tells_J280 {k : zW → Prop} {g162 : Int32 → zW → Prop} (X : zCx p s m args meth c cX12_tells 4 RX12 none) (hr : zRm R 2 cells slots) (hQ : zRetV p l e R s m args below meth c cells slots Q D dA true ad0 al0 ad al cX12_tells k) (hg162 : ∀ (x2 : Int32) (w : zW) (H : Heap) (locs : List Loc) (ls : Array Slot), g162 x2 w → zSt D dA true ad0 al0 ad al w s H locs → lv_has ls 4 [(0, .ref (ad 200)), (2, .int x2)] → W p l e R s m args below meth c H locs cells slots Q (F0 m 162 ls [])) {x2 : Int32} {t0 : Int32} {t1 : Int32} {w : zW} {H : Heap} {locs : List Loc} {ls : Array Slot} (hf : fX12_tells_J280 k g162 x2 t0 t1 w) (hR : zSt D dA true ad0 al0 ad al w s H locs) (hl : lv_has ls 4 [(0, .ref (ad 200)), (2, .int x2)]) : W p l e R s m args below meth c H locs cells slots Q (F0 m 280 ls [.int t0, .int t1, .ref (ad 236)]) := by
  have hx := X.1
  have hb := X.2.1
  have hml := X.2.2.1
  have hown := X.2.2.2.1
  have hts := X.2.2.2.2.1
  unfold fX12_tells_J280 at hf
  obtain ⟨hb23, hf⟩ := hf
  refine z_iast X hR (zlit hR zf_236) zs_236 zl_236 hb23 dX12_tells_280 (fun H locs hR => ?_)
  obtain ⟨w24, hw24⟩ : ∃ z : zW, z = sI w 236 t1.toNatClampNeg t0 := ⟨_, rfl⟩
  rw [← hw24] at hR
  replace hf := hf w24 hw24
  refine lv_iinc (v := x2 + (1 : Int32)) (lv' := [(2, .int (x2 + (1 : Int32))), (0, .ref (ad 200))]) hx hb dX12_tells_281 hl (k := 1) rfl rfl (by decide) rfl (fun ls hl => ?_)
  refine lv_goto (tgt := 162) hx hb dX12_tells_284 (by decide) ?_
  exact hg162 (x2 + (1 : Int32)) w24 _ _ _ hf hR (lv_sub hl [1, 0] rfl)
def fX12_tells_J242 (k : zW → Prop) (g162 : Int32 → zW → Prop) (g192 : Int32 → Int32 → zW → Prop) (x2 : Int32) (x3 : Int32) (t0 : Int32) (t1 : Int32) (w : zW) : Prop :=
  vp_in t1 16 ∧ 
  ∀ w29 : zW, w29 = sI w 237 t1.toNatClampNeg (t0 &&& 1) →
  g192 x2 (x3 + (1 : Int32)) w29
set_option maxHeartbeats 4000000 in
set_option maxRecDepth 100000 in
theorem mX12_tells_J242 {k : zW → Prop} {g162 : Int32 → zW → Prop} {g192 : Int32 → Int32 → zW → Prop} (X : zCx p s m args meth c cX12_tells 4 RX12 none) (hr : zRm R 2 cells slots) (hQ : zRetV p l e R s m args below meth c cells slots Q D dA true ad0 al0 ad al cX12_tells k) (hg162 : ∀ (x2 : Int32) (w : zW) (H : Heap) (locs : List Loc) (ls : Array Slot), g162 x2 w → zSt D dA true ad0 al0 ad al w s H locs → lv_has ls 4 [(0, .ref (ad 200)), (2, .int x2)] → W p l e R s m args below meth c H locs cells slots Q (F0 m 162 ls [])) (hg192 : ∀ (x2 : Int32) (x3 : Int32) (w : zW) (H : Heap) (locs : List Loc) (ls : Array Slot), g192 x2 x3 w → zSt D dA true ad0 al0 ad al w s H locs → lv_has ls 4 [(0, .ref (ad 200)), (2, .int x2), (3, .int x3)] → W p l e R s m args below meth c H locs cells slots Q (F0 m 192 ls [])) {x2 : Int32} {x3 : Int32} {t0 : Int32} {t1 : Int32} {w : zW} {H : Heap} {locs : List Loc} {ls : Array Slot} (hf : fX12_tells_J242 k g162 g192 x2 x3 t0 t1 w) (hR : zSt D dA true ad0 al0 ad al w s H locs) (hl : lv_has ls 4 [(0, .ref (ad 200)), (2, .int x2), (3, .int x3)]) : W p l e R s m args below meth c H locs cells slots Q (F0 m 242 ls [.int t0, .int t1, .ref (ad 237)]) := by
  have hx := X.1
  have hb := X.2.1
  have hml := X.2.2.1
  have hown := X.2.2.2.1
  have hts := X.2.2.2.2.1
  unfold fX12_tells_J242 at hf
  obtain ⟨hb28, hf⟩ := hf
  refine z_zast X hR (zlit hR zf_237) zs_237 zl_237 hb28 dX12_tells_242 (fun H locs hR => ?_)
  obtain ⟨w29, hw29⟩ : ∃ z : zW, z = sI w 237 t1.toNatClampNeg (t0 &&& 1) := ⟨_, rfl⟩
  rw [← hw29] at hR
  replace hf := hf w29 hw29
  refine lv_iinc (v := x3 + (1 : Int32)) (lv' := [(3, .int (x3 + (1 : Int32))), (0, .ref (ad 200)), (2, .int x2)]) hx hb dX12_tells_243 hl (k := 2) rfl rfl (by decide) rfl (fun ls hl => ?_)
  refine lv_goto (tgt := 192) hx hb dX12_tells_246 (by decide) ?_
  exact hg192 x2 (x3 + (1 : Int32)) w29 _ _ _ hf hR (lv_sub hl [1, 2, 0] rfl)
def fX12_tells_L192 (k : zW → Prop) (g162 : Int32 → zW → Prop) : Nat → Int32 → Int32 → zW → Prop
  | 0 => fun _ _ _ => False
  | n + 1 => fun x2 x3 w =>
    fX12_wordsTold  w (fun r19 w19 =>
    ((r19 ≤ x3 →
      ((¬ (gI w19 200 31) = (gI w19 200 32) →
        vp_in x2 4 ∧ 
        fX12_tells_J280 k g162 x2 (gI w19 236 x2.toNatClampNeg) x2 w19) ∧
       ((gI w19 200 31) = (gI w19 200 32) →
        vp_in x2 4 ∧ 
        fX12_tells_J280 k g162 x2 (gI w19 227 x2.toNatClampNeg) x2 w19))) ∧
     (¬ r19 ≤ x3 →
      vp_in (((4 : Int32) * x2) + x3) 16 ∧ 
      (((gI w19 237 (((4 : Int32) * x2) + x3).toNatClampNeg) = 0 →
        fX12_tells_J242 k g162 (fX12_tells_L192 k g162 n) x2 x3 (0 : Int32) (((4 : Int32) * x2) + x3) w19) ∧
       (¬ (gI w19 237 (((4 : Int32) * x2) + x3).toNatClampNeg) = 0 →
        vp_in x2 4 ∧ 
        vp_in x3 4 ∧ 
        ∀ v32 : Int32, v32 = (if ¬ (gI w19 227 x2.toNatClampNeg) = (gI w19 227 x3.toNatClampNeg) then (0 : Int32) else (1 : Int32)) →
        fX12_tells_J242 k g162 (fX12_tells_L192 k g162 n) x2 x3 v32 (((4 : Int32) * x2) + x3) w19)))))
set_option maxHeartbeats 4000000 in
set_option maxRecDepth 100000 in
theorem mX12_tells_L192 {k : zW → Prop} {g162 : Int32 → zW → Prop} (X : zCx p s m args meth c cX12_tells 4 RX12 none) (hr : zRm R 2 cells slots) (hQ : zRetV p l e R s m args below meth c cells slots Q D dA true ad0 al0 ad al cX12_tells k) (hg162 : ∀ (x2 : Int32) (w : zW) (H : Heap) (locs : List Loc) (ls : Array Slot), g162 x2 w → zSt D dA true ad0 al0 ad al w s H locs → lv_has ls 4 [(0, .ref (ad 200)), (2, .int x2)] → W p l e R s m args below meth c H locs cells slots Q (F0 m 162 ls [])) : ∀ (n : Nat) (x2 : Int32) (x3 : Int32) (w : zW) (H : Heap) (locs : List Loc) (ls : Array Slot), fX12_tells_L192 k g162 n x2 x3 w → zSt D dA true ad0 al0 ad al w s H locs → lv_has ls 4 [(0, .ref (ad 200)), (2, .int x2), (3, .int x3)] → W p l e R s m args below meth c H locs cells slots Q (F0 m 192 ls []) := by
  intro n
  induction n with
  | zero => exact fun _ _ _ _ _ _ hf => hf.elim
  | succ n ih =>
    intro x2 x3 w H locs ls hf hR hl
    have hx := X.1
    have hb := X.2.1
    have hml := X.2.2.1
    have hown := X.2.2.2.1
    have hts := X.2.2.2.2.1
    rw [fX12_tells_L192] at hf
    refine lv_iload_n hx hb dX12_tells_192 rfl (lv_at hl 2 rfl) ?_
    refine lv_aload_n hx hb dX12_tells_193 rfl (lv_at hl 0 rfl) ?_
    refine z_callVI (fr1 := 0) (b := 200) (As := []) (rest := [.int x3]) X (hr.le (by decide)) hR zy_X12_wordsTold zq_211 (zlit hR zf_200) (by rw [zs_200]; rfl) rfl (mX12_wordsTold  hf) rfl hl (Nat.le_of_ble_eq_true rfl) dX12_tells_194 rfl (fun r19 w19 H locs hf hR => ?_)
    refine lv_icmp_ge (tgt := 249) hx hb dX12_tells_197 (by decide) (fun c20 => ?_) (fun c20 => ?_)
    · replace hf := hf.1 c20
      refine lv_aload_n hx hb dX12_tells_249 rfl (lv_at hl 0 rfl) ?_
      refine z_getS X hR (zlit hR zf_200) zs_200 (by decide) zfd_X12_134 rfl (r := 236) (by decide +kernel) dX12_tells_250 ?_
      refine lv_iload_n hx hb dX12_tells_253 rfl (lv_at hl 1 rfl) ?_
      refine lv_aload_n hx hb dX12_tells_254 rfl (lv_at hl 0 rfl) ?_
      refine z_getI X hR (zlit hR zf_200) zs_200 (by decide) zfd_X12_346 rfl dX12_tells_255 ?_
      refine lv_aload_n hx hb dX12_tells_258 rfl (lv_at hl 0 rfl) ?_
      refine z_getI X hR (zlit hR zf_200) zs_200 (by decide) zfd_X12_379 rfl dX12_tells_259 ?_
      refine lv_icmp_ne (tgt := 274) hx hb dX12_tells_262 (by decide) (fun c21 => ?_) (fun c21 => ?_)
      · replace hf := hf.1 c21
        refine lv_aload_n hx hb dX12_tells_274 rfl (lv_at hl 0 rfl) ?_
        refine z_getS X hR (zlit hR zf_200) zs_200 (by decide) zfd_X12_134 rfl (r := 236) (by decide +kernel) dX12_tells_275 ?_
        refine lv_iload_n hx hb dX12_tells_278 rfl (lv_at hl 1 rfl) ?_
        obtain ⟨hb22, hf⟩ := hf
        refine z_iald X hR (zlit hR zf_236) zs_236 zl_236 hb22 dX12_tells_279 ?_
        exact mX12_tells_J280 X hr hQ hg162 hf hR (lv_sub hl [0, 1] rfl)
      · replace hf := hf.2 c21
        refine lv_aload_n hx hb dX12_tells_265 rfl (lv_at hl 0 rfl) ?_
        refine z_getS X hR (zlit hR zf_200) zs_200 (by decide) zfd_X12_122 rfl (r := 227) (by decide +kernel) dX12_tells_266 ?_
        refine lv_iload_n hx hb dX12_tells_269 rfl (lv_at hl 1 rfl) ?_
        obtain ⟨hb25, hf⟩ := hf
        refine z_iald X hR (zlit hR zf_227) zs_227 zl_227 hb25 dX12_tells_270 ?_
        refine lv_goto (tgt := 280) hx hb dX12_tells_271 (by decide) ?_
        exact mX12_tells_J280 X hr hQ hg162 hf hR (lv_sub hl [0, 1] rfl)
    · replace hf := hf.2 c20
      refine lv_aload_n hx hb dX12_tells_200 rfl (lv_at hl 0 rfl) ?_
      refine z_getS X hR (zlit hR zf_200) zs_200 (by decide) zfd_X12_137 rfl (r := 237) (by decide +kernel) dX12_tells_201 ?_
      refine lv_iconst (v := (4 : Int32)) hx hb dX12_tells_204 (by decide) ?_
      refine lv_iload_n hx hb dX12_tells_205 rfl (lv_at hl 1 rfl) ?_
      refine lv_imul hx hb dX12_tells_206 ?_
      refine lv_iload_n hx hb dX12_tells_207 rfl (lv_at hl 2 rfl) ?_
      refine lv_iadd hx hb dX12_tells_208 ?_
      refine lv_aload_n hx hb dX12_tells_209 rfl (lv_at hl 0 rfl) ?_
      refine z_getS X hR (zlit hR zf_200) zs_200 (by decide) zfd_X12_137 rfl (r := 237) (by decide +kernel) dX12_tells_210 ?_
      refine lv_iconst (v := (4 : Int32)) hx hb dX12_tells_213 (by decide) ?_
      refine lv_iload_n hx hb dX12_tells_214 rfl (lv_at hl 1 rfl) ?_
      refine lv_imul hx hb dX12_tells_215 ?_
      refine lv_iload_n hx hb dX12_tells_216 rfl (lv_at hl 2 rfl) ?_
      refine lv_iadd hx hb dX12_tells_217 ?_
      obtain ⟨hb26, hf⟩ := hf
      refine z_zald X hR (zlit hR zf_237) zs_237 zl_237 hb26 dX12_tells_218 ?_
      refine lv_if_eq (tgt := 241) hx hb dX12_tells_219 (by decide) (fun c27 => ?_) (fun c27 => ?_)
      · replace hf := hf.1 c27
        refine lv_iconst (v := (0 : Int32)) hx hb dX12_tells_241 (by decide) ?_
        exact mX12_tells_J242 X hr hQ hg162 ih hf hR (lv_sub hl [0, 1, 2] rfl)
      · replace hf := hf.2 c27
        refine lv_aload_n hx hb dX12_tells_222 rfl (lv_at hl 0 rfl) ?_
        refine z_getS X hR (zlit hR zf_200) zs_200 (by decide) zfd_X12_122 rfl (r := 227) (by decide +kernel) dX12_tells_223 ?_
        refine lv_iload_n hx hb dX12_tells_226 rfl (lv_at hl 1 rfl) ?_
        obtain ⟨hb30, hf⟩ := hf
        refine z_iald X hR (zlit hR zf_227) zs_227 zl_227 hb30 dX12_tells_227 ?_
        refine lv_aload_n hx hb dX12_tells_228 rfl (lv_at hl 0 rfl) ?_
        refine z_getS X hR (zlit hR zf_200) zs_200 (by decide) zfd_X12_122 rfl (r := 227) (by decide +kernel) dX12_tells_229 ?_
        refine lv_iload_n hx hb dX12_tells_232 rfl (lv_at hl 2 rfl) ?_
        obtain ⟨hb31, hf⟩ := hf
        refine z_iald X hR (zlit hR zf_227) zs_227 zl_227 hb31 dX12_tells_233 ?_
        have kJ32 : ∀ v32 : Int32, v32 = (if ¬ (gI w19 227 x2.toNatClampNeg) = (gI w19 227 x3.toNatClampNeg) then (0 : Int32) else (1 : Int32)) → W p l e R s m args below meth c H locs cells slots Q (F0 m 242 ls (.int v32 :: .int (((4 : Int32) * x2) + x3) :: .ref (ad 237) :: [])) := by
          intro v32 hv32
          replace hf := hf v32 hv32
          exact mX12_tells_J242 X hr hQ hg162 ih hf hR (lv_sub hl [0, 1, 2] rfl)
        refine lv_icmp_ne (tgt := 241) hx hb dX12_tells_234 (by decide) (fun c32 => ?_) (fun c32 => ?_)
        · refine lv_iconst (v := (0 : Int32)) hx hb dX12_tells_241 (by decide) ?_
          exact kJ32 _ (if_pos c32).symm
        · refine lv_iconst (v := (1 : Int32)) hx hb dX12_tells_237 (by decide) ?_
          refine lv_goto (tgt := 242) hx hb dX12_tells_238 (by decide) ?_
          exact kJ32 _ (if_neg (fun h9 => h9 c32)).symm
def fX12_tells_L162 (k : zW → Prop) : Nat → Int32 → zW → Prop
  | 0 => fun _ _ => False
  | n + 1 => fun x2 w =>
    fX12_wordsTold  w (fun r8 w8 =>
    ((r8 ≤ x2 →
      ∃ n9, fX12_tells_L289 k n9 (0 : Int32) w8) ∧
     (¬ r8 ≤ x2 →
      vp_in x2 4 ∧ 
      vp_in (((9 : Int32) * x2) + (gI w8 227 x2.toNatClampNeg)) 36 ∧ 
      ∀ w18 : zW, w18 = sI w8 234 (((9 : Int32) * x2) + (gI w8 227 x2.toNatClampNeg)).toNatClampNeg ((gI w8 234 (((9 : Int32) * x2) + (gI w8 227 x2.toNatClampNeg)).toNatClampNeg) + (1 : Int32)) →
      ∃ n9, fX12_tells_L192 k (fX12_tells_L162 k n) n9 x2 (0 : Int32) w18)))
set_option maxHeartbeats 4000000 in
set_option maxRecDepth 100000 in
theorem mX12_tells_L162 {k : zW → Prop} (X : zCx p s m args meth c cX12_tells 4 RX12 none) (hr : zRm R 2 cells slots) (hQ : zRetV p l e R s m args below meth c cells slots Q D dA true ad0 al0 ad al cX12_tells k)  : ∀ (n : Nat) (x2 : Int32) (w : zW) (H : Heap) (locs : List Loc) (ls : Array Slot), fX12_tells_L162 k n x2 w → zSt D dA true ad0 al0 ad al w s H locs → lv_has ls 4 [(0, .ref (ad 200)), (2, .int x2)] → W p l e R s m args below meth c H locs cells slots Q (F0 m 162 ls []) := by
  intro n
  induction n with
  | zero => exact fun _ _ _ _ _ hf => hf.elim
  | succ n ih =>
    intro x2 w H locs ls hf hR hl
    have hx := X.1
    have hb := X.2.1
    have hml := X.2.2.1
    have hown := X.2.2.2.1
    have hts := X.2.2.2.2.1
    rw [fX12_tells_L162] at hf
    refine lv_iload_n hx hb dX12_tells_162 rfl (lv_at hl 1 rfl) ?_
    refine lv_aload_n hx hb dX12_tells_163 rfl (lv_at hl 0 rfl) ?_
    refine z_callVI (fr1 := 0) (b := 200) (As := []) (rest := [.int x2]) X (hr.le (by decide)) hR zy_X12_wordsTold zq_211 (zlit hR zf_200) (by rw [zs_200]; rfl) rfl (mX12_wordsTold  hf) rfl hl (Nat.le_of_ble_eq_true rfl) dX12_tells_164 rfl (fun r8 w8 H locs hf hR => ?_)
    refine lv_icmp_ge (tgt := 287) hx hb dX12_tells_167 (by decide) (fun c9 => ?_) (fun c9 => ?_)
    · replace hf := hf.1 c9
      refine lv_iconst (v := (0 : Int32)) hx hb dX12_tells_287 (by decide) ?_
      refine lv_istore_n (lv' := [(2, .int (0 : Int32)), (0, .ref (ad 200))]) hx hb dX12_tells_288 rfl hl (by decide) rfl (fun ls hl => ?_)
      obtain ⟨n9, hf⟩ := hf
      exact mX12_tells_L289 X hr hQ  n9 (0 : Int32) w8 _ _ _ hf hR (lv_sub hl [1, 0] rfl)
    · replace hf := hf.2 c9
      refine lv_aload_n hx hb dX12_tells_170 rfl (lv_at hl 0 rfl) ?_
      refine z_getS X hR (zlit hR zf_200) zs_200 (by decide) zfd_X12_128 rfl (r := 234) (by decide +kernel) dX12_tells_171 ?_
      refine lv_bipush (v := (9 : Int32)) hx hb dX12_tells_174 (by decide) ?_
      refine lv_iload_n hx hb dX12_tells_176 rfl (lv_at hl 1 rfl) ?_
      refine lv_imul hx hb dX12_tells_177 ?_
      refine lv_aload_n hx hb dX12_tells_178 rfl (lv_at hl 0 rfl) ?_
      refine z_getS X hR (zlit hR zf_200) zs_200 (by decide) zfd_X12_122 rfl (r := 227) (by decide +kernel) dX12_tells_179 ?_
      refine lv_iload_n hx hb dX12_tells_182 rfl (lv_at hl 1 rfl) ?_
      obtain ⟨hb16, hf⟩ := hf
      refine z_iald X hR (zlit hR zf_227) zs_227 zl_227 hb16 dX12_tells_183 ?_
      refine lv_iadd hx hb dX12_tells_184 ?_
      refine lv_dup2_11 hx hb dX12_tells_185 rfl rfl ?_
      obtain ⟨hb17, hf⟩ := hf
      refine z_iald X hR (zlit hR zf_234) zs_234 zl_234 hb17 dX12_tells_186 ?_
      refine lv_iconst (v := (1 : Int32)) hx hb dX12_tells_187 (by decide) ?_
      refine lv_iadd hx hb dX12_tells_188 ?_
      refine z_iast X hR (zlit hR zf_234) zs_234 zl_234 hb17 dX12_tells_189 (fun H locs hR => ?_)
      obtain ⟨w18, hw18⟩ : ∃ z : zW, z = sI w8 234 (((9 : Int32) * x2) + (gI w8 227 x2.toNatClampNeg)).toNatClampNeg ((gI w8 234 (((9 : Int32) * x2) + (gI w8 227 x2.toNatClampNeg)).toNatClampNeg) + (1 : Int32)) := ⟨_, rfl⟩
      rw [← hw18] at hR
      replace hf := hf w18 hw18
      refine lv_iconst (v := (0 : Int32)) hx hb dX12_tells_190 (by decide) ?_
      refine lv_istore_n (lv' := [(3, .int (0 : Int32)), (0, .ref (ad 200)), (2, .int x2)]) hx hb dX12_tells_191 rfl hl (by decide) rfl (fun ls hl => ?_)
      obtain ⟨n9, hf⟩ := hf
      exact mX12_tells_L192 X hr hQ ih n9 x2 (0 : Int32) w18 _ _ _ hf hR (lv_sub hl [1, 2, 0] rfl)
def fX12_tells_J148 (k : zW → Prop) (x1 : Int32) (w : zW) : Prop :=
  ((¬ x1 = 0 →
    k w) ∧
   (x1 = 0 →
    (((gI w 200 30) = 0 →
      ∃ n9, fX12_tells_L162 k n9 (0 : Int32) w) ∧
     (¬ (gI w 200 30) = 0 →
      k w))))
set_option maxHeartbeats 4000000 in
set_option maxRecDepth 100000 in
theorem mX12_tells_J148 {k : zW → Prop} (X : zCx p s m args meth c cX12_tells 4 RX12 none) (hr : zRm R 2 cells slots) (hQ : zRetV p l e R s m args below meth c cells slots Q D dA true ad0 al0 ad al cX12_tells k)  {x1 : Int32} {w : zW} {H : Heap} {locs : List Loc} {ls : Array Slot} (hf : fX12_tells_J148 k x1 w) (hR : zSt D dA true ad0 al0 ad al w s H locs) (hl : lv_has ls 4 [(0, .ref (ad 200)), (1, .int x1)]) : W p l e R s m args below meth c H locs cells slots Q (F0 m 148 ls []) := by
  have hx := X.1
  have hb := X.2.1
  have hml := X.2.2.1
  have hown := X.2.2.2.1
  have hts := X.2.2.2.2.1
  unfold fX12_tells_J148 at hf
  refine lv_iload_n hx hb dX12_tells_148 rfl (lv_at hl 1 rfl) ?_
  refine lv_if_ne (tgt := 159) hx hb dX12_tells_149 (by decide) (fun c6 => ?_) (fun c6 => ?_)
  · replace hf := hf.1 c6
    exact hQ _ _ _ _ _ hf hR dX12_tells_159
  · replace hf := hf.2 c6
    refine lv_aload_n hx hb dX12_tells_152 rfl (lv_at hl 0 rfl) ?_
    refine z_getI X hR (zlit hR zf_200) zs_200 (by decide) zfd_X12_352 rfl dX12_tells_153 ?_
    refine lv_if_eq (tgt := 160) hx hb dX12_tells_156 (by decide) (fun c7 => ?_) (fun c7 => ?_)
    · replace hf := hf.1 c7
      refine lv_iconst (v := (0 : Int32)) hx hb dX12_tells_160 (by decide) ?_
      refine lv_istore_n (lv' := [(2, .int (0 : Int32)), (0, .ref (ad 200)), (1, .int x1)]) hx hb dX12_tells_161 rfl hl (by decide) rfl (fun ls hl => ?_)
      obtain ⟨n9, hf⟩ := hf
      exact mX12_tells_L162 X hr hQ  n9 (0 : Int32) w _ _ _ hf hR (lv_sub hl [1, 0] rfl)
    · replace hf := hf.2 c7
      exact hQ _ _ _ _ _ hf hR dX12_tells_159
def fX12_tells_J140 (k : zW → Prop) (x1 : Int32) (w : zW) : Prop :=
  ∀ w34 : zW, w34 = sI w 200 33 (gI w 200 30) →
  fX12_tells_J148 k x1 w34
set_option maxHeartbeats 4000000 in
set_option maxRecDepth 100000 in
theorem mX12_tells_J140 {k : zW → Prop} (X : zCx p s m args meth c cX12_tells 4 RX12 none) (hr : zRm R 2 cells slots) (hQ : zRetV p l e R s m args below meth c cells slots Q D dA true ad0 al0 ad al cX12_tells k)  {x1 : Int32} {w : zW} {H : Heap} {locs : List Loc} {ls : Array Slot} (hf : fX12_tells_J140 k x1 w) (hR : zSt D dA true ad0 al0 ad al w s H locs) (hl : lv_has ls 4 [(0, .ref (ad 200)), (1, .int x1)]) : W p l e R s m args below meth c H locs cells slots Q (F0 m 140 ls []) := by
  have hx := X.1
  have hb := X.2.1
  have hml := X.2.2.1
  have hown := X.2.2.2.1
  have hts := X.2.2.2.2.1
  unfold fX12_tells_J140 at hf
  refine lv_aload_n hx hb dX12_tells_140 rfl (lv_at hl 0 rfl) ?_
  refine lv_aload_n hx hb dX12_tells_141 rfl (lv_at hl 0 rfl) ?_
  refine z_getI X hR (zlit hR zf_200) zs_200 (by decide) zfd_X12_352 rfl dX12_tells_142 ?_
  refine z_putI X hR (zlit hR zf_200) zs_200 (by decide) zfp_X12_355 rfl dX12_tells_145 (fun H locs hR => ?_)
  obtain ⟨w34, hw34⟩ : ∃ z : zW, z = sI w 200 33 (gI w 200 30) := ⟨_, rfl⟩
  rw [← hw34] at hR
  replace hf := hf w34 hw34
  exact mX12_tells_J148 X hr hQ  hf hR (lv_sub hl [0, 1] rfl)
def fX12_tells_J76 (k : zW → Prop) (g14 : Int32 → Int32 → zW → Prop) (x1 : Int32) (x2 : Int32) (t0 : Int32) (t1 : Int32) (t2 : Int32) (w : zW) : Prop :=
  vp_in t2 8 ∧ 
  ∀ w49 : zW, w49 = sI w 239 t2.toNatClampNeg (t1 + t0) →
  g14 x1 (x2 + (1 : Int32)) w49
set_option maxHeartbeats 4000000 in
set_option maxRecDepth 100000 in
theorem mX12_tells_J76 {k : zW → Prop} {g14 : Int32 → Int32 → zW → Prop} (X : zCx p s m args meth c cX12_tells 4 RX12 none) (hr : zRm R 2 cells slots) (hQ : zRetV p l e R s m args below meth c cells slots Q D dA true ad0 al0 ad al cX12_tells k) (hg14 : ∀ (x1 : Int32) (x2 : Int32) (w : zW) (H : Heap) (locs : List Loc) (ls : Array Slot), g14 x1 x2 w → zSt D dA true ad0 al0 ad al w s H locs → lv_has ls 4 [(0, .ref (ad 200)), (1, .int x1), (2, .int x2)] → W p l e R s m args below meth c H locs cells slots Q (F0 m 14 ls [])) {x1 : Int32} {x2 : Int32} {t0 : Int32} {t1 : Int32} {t2 : Int32} {w : zW} {H : Heap} {locs : List Loc} {ls : Array Slot} (hf : fX12_tells_J76 k g14 x1 x2 t0 t1 t2 w) (hR : zSt D dA true ad0 al0 ad al w s H locs) (hl : lv_has ls 4 [(0, .ref (ad 200)), (1, .int x1), (2, .int x2)]) : W p l e R s m args below meth c H locs cells slots Q (F0 m 76 ls [.int t0, .int t1, .int t2, .ref (ad 239)]) := by
  have hx := X.1
  have hb := X.2.1
  have hml := X.2.2.1
  have hown := X.2.2.2.1
  have hts := X.2.2.2.2.1
  unfold fX12_tells_J76 at hf
  refine lv_iadd hx hb dX12_tells_76 ?_
  obtain ⟨hb48, hf⟩ := hf
  refine z_iast X hR (zlit hR zf_239) zs_239 zl_239 hb48 dX12_tells_77 (fun H locs hR => ?_)
  obtain ⟨w49, hw49⟩ : ∃ z : zW, z = sI w 239 t2.toNatClampNeg (t1 + t0) := ⟨_, rfl⟩
  rw [← hw49] at hR
  replace hf := hf w49 hw49
  refine lv_iinc (v := x2 + (1 : Int32)) (lv' := [(2, .int (x2 + (1 : Int32))), (0, .ref (ad 200)), (1, .int x1)]) hx hb dX12_tells_78 hl (k := 2) rfl rfl (by decide) rfl (fun ls hl => ?_)
  refine lv_goto (tgt := 14) hx hb dX12_tells_81 (by decide) ?_
  exact hg14 x1 (x2 + (1 : Int32)) w49 _ _ _ hf hR (lv_sub hl [1, 2, 0] rfl)
def fX12_tells_J48 (k : zW → Prop) (g14 : Int32 → Int32 → zW → Prop) (x1 : Int32) (x2 : Int32) (t0 : Int32) (t1 : Int32) (t2 : Int32) (w : zW) : Prop :=
  vp_in t2 8 ∧ 
  ∀ w45 : zW, w45 = sI w 238 t2.toNatClampNeg (t1 + t0) →
  vp_in x2 8 ∧ 
  ∀ v47 : Int32, v47 = (if ¬ (gI w45 200 30) = 0 then (0 : Int32) else (if ¬ x1 = ((1 : Int32) <<< (x2 &&& 31)) then (0 : Int32) else (1 : Int32))) →
  fX12_tells_J76 k g14 x1 x2 v47 (gI w45 239 x2.toNatClampNeg) x2 w45
set_option maxHeartbeats 4000000 in
set_option maxRecDepth 100000 in
theorem mX12_tells_J48 {k : zW → Prop} {g14 : Int32 → Int32 → zW → Prop} (X : zCx p s m args meth c cX12_tells 4 RX12 none) (hr : zRm R 2 cells slots) (hQ : zRetV p l e R s m args below meth c cells slots Q D dA true ad0 al0 ad al cX12_tells k) (hg14 : ∀ (x1 : Int32) (x2 : Int32) (w : zW) (H : Heap) (locs : List Loc) (ls : Array Slot), g14 x1 x2 w → zSt D dA true ad0 al0 ad al w s H locs → lv_has ls 4 [(0, .ref (ad 200)), (1, .int x1), (2, .int x2)] → W p l e R s m args below meth c H locs cells slots Q (F0 m 14 ls [])) {x1 : Int32} {x2 : Int32} {t0 : Int32} {t1 : Int32} {t2 : Int32} {w : zW} {H : Heap} {locs : List Loc} {ls : Array Slot} (hf : fX12_tells_J48 k g14 x1 x2 t0 t1 t2 w) (hR : zSt D dA true ad0 al0 ad al w s H locs) (hl : lv_has ls 4 [(0, .ref (ad 200)), (1, .int x1), (2, .int x2)]) : W p l e R s m args below meth c H locs cells slots Q (F0 m 48 ls [.int t0, .int t1, .int t2, .ref (ad 238)]) := by
  have hx := X.1
  have hb := X.2.1
  have hml := X.2.2.1
  have hown := X.2.2.2.1
  have hts := X.2.2.2.2.1
  unfold fX12_tells_J48 at hf
  refine lv_iadd hx hb dX12_tells_48 ?_
  obtain ⟨hb44, hf⟩ := hf
  refine z_iast X hR (zlit hR zf_238) zs_238 zl_238 hb44 dX12_tells_49 (fun H locs hR => ?_)
  obtain ⟨w45, hw45⟩ : ∃ z : zW, z = sI w 238 t2.toNatClampNeg (t1 + t0) := ⟨_, rfl⟩
  rw [← hw45] at hR
  replace hf := hf w45 hw45
  refine lv_aload_n hx hb dX12_tells_50 rfl (lv_at hl 0 rfl) ?_
  refine z_getS X hR (zlit hR zf_200) zs_200 (by decide) zfd_X12_143 rfl (r := 239) (by decide +kernel) dX12_tells_51 ?_
  refine lv_iload_n hx hb dX12_tells_54 rfl (lv_at hl 2 rfl) ?_
  refine lv_dup2_11 hx hb dX12_tells_55 rfl rfl ?_
  obtain ⟨hb46, hf⟩ := hf
  refine z_iald X hR (zlit hR zf_239) zs_239 zl_239 hb46 dX12_tells_56 ?_
  refine lv_aload_n hx hb dX12_tells_57 rfl (lv_at hl 0 rfl) ?_
  refine z_getI X hR (zlit hR zf_200) zs_200 (by decide) zfd_X12_352 rfl dX12_tells_58 ?_
  have kJ47 : ∀ v47 : Int32, v47 = (if ¬ (gI w45 200 30) = 0 then (0 : Int32) else (if ¬ x1 = ((1 : Int32) <<< (x2 &&& 31)) then (0 : Int32) else (1 : Int32))) → W p l e R s m args below meth c H locs cells slots Q (F0 m 76 ls (.int v47 :: .int (gI w45 239 x2.toNatClampNeg) :: .int x2 :: .ref (ad 239) :: [])) := by
    intro v47 hv47
    replace hf := hf v47 hv47
    exact mX12_tells_J76 X hr hQ hg14 hf hR (lv_sub hl [0, 1, 2] rfl)
  refine lv_if_ne (tgt := 75) hx hb dX12_tells_61 (by decide) (fun c47 => ?_) (fun c47 => ?_)
  · refine lv_iconst (v := (0 : Int32)) hx hb dX12_tells_75 (by decide) ?_
    exact kJ47 _ (if_pos c47).symm
  · refine lv_iload_n hx hb dX12_tells_64 rfl (lv_at hl 1 rfl) ?_
    refine lv_iconst (v := (1 : Int32)) hx hb dX12_tells_65 (by decide) ?_
    refine lv_iload_n hx hb dX12_tells_66 rfl (lv_at hl 2 rfl) ?_
    refine lv_ishl hx hb dX12_tells_67 ?_
    refine lv_icmp_ne (tgt := 75) hx hb dX12_tells_68 (by decide) (fun c50 => ?_) (fun c50 => ?_)
    · refine lv_iconst (v := (0 : Int32)) hx hb dX12_tells_75 (by decide) ?_
      exact kJ47 _ ((if_neg (fun h9 => h9 c47)).trans (if_pos c50)).symm
    · refine lv_iconst (v := (1 : Int32)) hx hb dX12_tells_71 (by decide) ?_
      refine lv_goto (tgt := 76) hx hb dX12_tells_72 (by decide) ?_
      exact kJ47 _ ((if_neg (fun h9 => h9 c47)).trans (if_neg (fun h9 => h9 c50))).symm
def fX12_tells_L14 (k : zW → Prop) : Nat → Int32 → Int32 → zW → Prop
  | 0 => fun _ _ _ => False
  | n + 1 => fun x1 x2 w =>
    fX12_rows  w (fun r3 w3 =>
    ((r3 ≤ x2 →
      ((¬ x1 = 0 →
        fX12_tells_J148 k x1 w3) ∧
       (x1 = 0 →
        (((gI w3 200 33) < 0 →
          fX12_tells_J140 k x1 w3) ∧
         (¬ (gI w3 200 33) < 0 →
          fX12_bits (gI w3 200 30) w3 (fun r35 w35 =>
          fX12_bits (gI w35 200 33) w35 (fun r36 w36 =>
          ((r35 < r36 →
            fX12_tells_J140 k x1 w36) ∧
           (¬ r35 < r36 →
            fX12_bits (gI w36 200 30) w36 (fun r38 w38 =>
            fX12_bits (gI w38 200 33) w38 (fun r39 w39 =>
            ((¬ r38 = r39 →
              fX12_tells_J148 k x1 w39) ∧
             (r38 = r39 →
              (((gI w39 200 33) ≤ (gI w39 200 30) →
                fX12_tells_J148 k x1 w39) ∧
               (¬ (gI w39 200 33) ≤ (gI w39 200 30) →
                fX12_tells_J140 k x1 w39))))))))))))))) ∧
     (¬ r3 ≤ x2 →
      vp_in x2 8 ∧ 
      ((¬ x1 = 0 →
        fX12_tells_J48 k (fX12_tells_L14 k n) x1 x2 (0 : Int32) (gI w3 238 x2.toNatClampNeg) x2 w3) ∧
       (x1 = 0 →
        ∀ v51 : Int32, v51 = (if ¬ (gI w3 200 30) = ((1 : Int32) <<< (x2 &&& 31)) then (0 : Int32) else (1 : Int32)) →
        fX12_tells_J48 k (fX12_tells_L14 k n) x1 x2 v51 (gI w3 238 x2.toNatClampNeg) x2 w3)))))
set_option maxHeartbeats 4000000 in
set_option maxRecDepth 100000 in
theorem mX12_tells_L14 {k : zW → Prop} (X : zCx p s m args meth c cX12_tells 4 RX12 none) (hr : zRm R 2 cells slots) (hQ : zRetV p l e R s m args below meth c cells slots Q D dA true ad0 al0 ad al cX12_tells k)  : ∀ (n : Nat) (x1 : Int32) (x2 : Int32) (w : zW) (H : Heap) (locs : List Loc) (ls : Array Slot), fX12_tells_L14 k n x1 x2 w → zSt D dA true ad0 al0 ad al w s H locs → lv_has ls 4 [(0, .ref (ad 200)), (1, .int x1), (2, .int x2)] → W p l e R s m args below meth c H locs cells slots Q (F0 m 14 ls []) := by
  intro n
  induction n with
  | zero => exact fun _ _ _ _ _ _ hf => hf.elim
  | succ n ih =>
    intro x1 x2 w H locs ls hf hR hl
    have hx := X.1
    have hb := X.2.1
    have hml := X.2.2.1
    have hown := X.2.2.2.1
    have hts := X.2.2.2.2.1
    rw [fX12_tells_L14] at hf
    refine lv_iload_n hx hb dX12_tells_14 rfl (lv_at hl 2 rfl) ?_
    refine lv_aload_n hx hb dX12_tells_15 rfl (lv_at hl 0 rfl) ?_
    refine z_callVI (fr1 := 0) (b := 200) (As := []) (rest := [.int x2]) X (hr.le (by decide)) hR zy_X12_rows zq_199 (zlit hR zf_200) (by rw [zs_200]; rfl) rfl (mX12_rows  hf) rfl hl (Nat.le_of_ble_eq_true rfl) dX12_tells_16 rfl (fun r3 w3 H locs hf hR => ?_)
    refine lv_icmp_ge (tgt := 84) hx hb dX12_tells_19 (by decide) (fun c4 => ?_) (fun c4 => ?_)
    · replace hf := hf.1 c4
      refine lv_iload_n hx hb dX12_tells_84 rfl (lv_at hl 1 rfl) ?_
      refine lv_if_ne (tgt := 148) hx hb dX12_tells_85 (by decide) (fun c5 => ?_) (fun c5 => ?_)
      · replace hf := hf.1 c5
        exact mX12_tells_J148 X hr hQ  hf hR (lv_sub hl [0, 1] rfl)
      · replace hf := hf.2 c5
        refine lv_aload_n hx hb dX12_tells_88 rfl (lv_at hl 0 rfl) ?_
        refine z_getI X hR (zlit hR zf_200) zs_200 (by decide) zfd_X12_355 rfl dX12_tells_89 ?_
        refine lv_if_lt (tgt := 140) hx hb dX12_tells_92 (by decide) (fun c33 => ?_) (fun c33 => ?_)
        · replace hf := hf.1 c33
          exact mX12_tells_J140 X hr hQ  hf hR (lv_sub hl [0, 1] rfl)
        · replace hf := hf.2 c33
          refine lv_aload_n hx hb dX12_tells_95 rfl (lv_at hl 0 rfl) ?_
          refine z_getI X hR (zlit hR zf_200) zs_200 (by decide) zfd_X12_352 rfl dX12_tells_96 ?_
          refine z_callSI (fr1 := 0) (As := [.int (gI w3 200 30)]) (rest := []) X (hr.le (by decide)) hR zy_X12_bits zq_1097 (mX12_bits  hf) rfl hl (Nat.le_of_ble_eq_true rfl) dX12_tells_99 rfl (fun r35 w35 H locs hf hR => ?_)
          refine lv_aload_n hx hb dX12_tells_102 rfl (lv_at hl 0 rfl) ?_
          refine z_getI X hR (zlit hR zf_200) zs_200 (by decide) zfd_X12_355 rfl dX12_tells_103 ?_
          refine z_callSI (fr1 := 0) (As := [.int (gI w35 200 33)]) (rest := [.int r35]) X (hr.le (by decide)) hR zy_X12_bits zq_1097 (mX12_bits  hf) rfl hl (Nat.le_of_ble_eq_true rfl) dX12_tells_106 rfl (fun r36 w36 H locs hf hR => ?_)
          refine lv_icmp_lt (tgt := 140) hx hb dX12_tells_109 (by decide) (fun c37 => ?_) (fun c37 => ?_)
          · replace hf := hf.1 c37
            exact mX12_tells_J140 X hr hQ  hf hR (lv_sub hl [0, 1] rfl)
          · replace hf := hf.2 c37
            refine lv_aload_n hx hb dX12_tells_112 rfl (lv_at hl 0 rfl) ?_
            refine z_getI X hR (zlit hR zf_200) zs_200 (by decide) zfd_X12_352 rfl dX12_tells_113 ?_
            refine z_callSI (fr1 := 0) (As := [.int (gI w36 200 30)]) (rest := []) X (hr.le (by decide)) hR zy_X12_bits zq_1097 (mX12_bits  hf) rfl hl (Nat.le_of_ble_eq_true rfl) dX12_tells_116 rfl (fun r38 w38 H locs hf hR => ?_)
            refine lv_aload_n hx hb dX12_tells_119 rfl (lv_at hl 0 rfl) ?_
            refine z_getI X hR (zlit hR zf_200) zs_200 (by decide) zfd_X12_355 rfl dX12_tells_120 ?_
            refine z_callSI (fr1 := 0) (As := [.int (gI w38 200 33)]) (rest := [.int r38]) X (hr.le (by decide)) hR zy_X12_bits zq_1097 (mX12_bits  hf) rfl hl (Nat.le_of_ble_eq_true rfl) dX12_tells_123 rfl (fun r39 w39 H locs hf hR => ?_)
            refine lv_icmp_ne (tgt := 148) hx hb dX12_tells_126 (by decide) (fun c40 => ?_) (fun c40 => ?_)
            · replace hf := hf.1 c40
              exact mX12_tells_J148 X hr hQ  hf hR (lv_sub hl [0, 1] rfl)
            · replace hf := hf.2 c40
              refine lv_aload_n hx hb dX12_tells_129 rfl (lv_at hl 0 rfl) ?_
              refine z_getI X hR (zlit hR zf_200) zs_200 (by decide) zfd_X12_352 rfl dX12_tells_130 ?_
              refine lv_aload_n hx hb dX12_tells_133 rfl (lv_at hl 0 rfl) ?_
              refine z_getI X hR (zlit hR zf_200) zs_200 (by decide) zfd_X12_355 rfl dX12_tells_134 ?_
              refine lv_icmp_ge (tgt := 148) hx hb dX12_tells_137 (by decide) (fun c41 => ?_) (fun c41 => ?_)
              · replace hf := hf.1 c41
                exact mX12_tells_J148 X hr hQ  hf hR (lv_sub hl [0, 1] rfl)
              · replace hf := hf.2 c41
                exact mX12_tells_J140 X hr hQ  hf hR (lv_sub hl [0, 1] rfl)
    · replace hf := hf.2 c4
      refine lv_aload_n hx hb dX12_tells_22 rfl (lv_at hl 0 rfl) ?_
      refine z_getS X hR (zlit hR zf_200) zs_200 (by decide) zfd_X12_140 rfl (r := 238) (by decide +kernel) dX12_tells_23 ?_
      refine lv_iload_n hx hb dX12_tells_26 rfl (lv_at hl 2 rfl) ?_
      refine lv_dup2_11 hx hb dX12_tells_27 rfl rfl ?_
      obtain ⟨hb42, hf⟩ := hf
      refine z_iald X hR (zlit hR zf_238) zs_238 zl_238 hb42 dX12_tells_28 ?_
      refine lv_iload_n hx hb dX12_tells_29 rfl (lv_at hl 1 rfl) ?_
      refine lv_if_ne (tgt := 47) hx hb dX12_tells_30 (by decide) (fun c43 => ?_) (fun c43 => ?_)
      · replace hf := hf.1 c43
        refine lv_iconst (v := (0 : Int32)) hx hb dX12_tells_47 (by decide) ?_
        exact mX12_tells_J48 X hr hQ ih hf hR (lv_sub hl [0, 1, 2] rfl)
      · replace hf := hf.2 c43
        refine lv_aload_n hx hb dX12_tells_33 rfl (lv_at hl 0 rfl) ?_
        refine z_getI X hR (zlit hR zf_200) zs_200 (by decide) zfd_X12_352 rfl dX12_tells_34 ?_
        refine lv_iconst (v := (1 : Int32)) hx hb dX12_tells_37 (by decide) ?_
        refine lv_iload_n hx hb dX12_tells_38 rfl (lv_at hl 2 rfl) ?_
        refine lv_ishl hx hb dX12_tells_39 ?_
        have kJ51 : ∀ v51 : Int32, v51 = (if ¬ (gI w3 200 30) = ((1 : Int32) <<< (x2 &&& 31)) then (0 : Int32) else (1 : Int32)) → W p l e R s m args below meth c H locs cells slots Q (F0 m 48 ls (.int v51 :: .int (gI w3 238 x2.toNatClampNeg) :: .int x2 :: .ref (ad 238) :: [])) := by
          intro v51 hv51
          replace hf := hf v51 hv51
          exact mX12_tells_J48 X hr hQ ih hf hR (lv_sub hl [0, 1, 2] rfl)
        refine lv_icmp_ne (tgt := 47) hx hb dX12_tells_40 (by decide) (fun c51 => ?_) (fun c51 => ?_)
        · refine lv_iconst (v := (0 : Int32)) hx hb dX12_tells_47 (by decide) ?_
          exact kJ51 _ (if_pos c51).symm
        · refine lv_iconst (v := (1 : Int32)) hx hb dX12_tells_43 (by decide) ?_
          refine lv_goto (tgt := 48) hx hb dX12_tells_44 (by decide) ?_
          exact kJ51 _ (if_neg (fun h9 => h9 c51)).symm
def fX12_tells (w : zW) (k : zW → Prop) : Prop :=
  fX12_allRows  w (fun r1 w1 =>
  ∀ v2 : Int32, v2 = r1 &&& ((gI w1 200 29) ^^^ (-1 : Int32)) →
  ∃ n9, fX12_tells_L14 k n9 v2 (0 : Int32) w1)
set_option maxHeartbeats 4000000 in
set_option maxRecDepth 100000 in
theorem mX12_tells {l : Launch} {D : va_G} {dA : Nat → ClassId} {ad : Nat → Nat} {al : Nat → Prop} {w : zW} {k : zW → Prop}   (hf : fX12_tells w k) : zmetV l yX12_tells cX12_tells 4 none 2 [.ref (ad 200)] D dA true ad al w k := by
  refine zmetV_of (by decide) (Nat.le_of_ble_eq_true rfl) ?_
  intro p e R s m below meth c Q H ls args locs cells slots X hr hQ hR hl
  have hx := X.1
  have hb := X.2.1
  have hml := X.2.2.1
  have hown := X.2.2.2.1
  have hts := X.2.2.2.2.1
  unfold fX12_tells at hf
  have hl : lv_has ls 4 [(0, .ref (ad 200))] := hl
  refine lv_aload_n hx hb dX12_tells_0 rfl (lv_at hl 0 rfl) ?_
  refine z_callVI (fr1 := 1) (b := 200) (As := []) (rest := []) X (hr.le (by decide)) hR zy_X12_allRows zq_1093 (zlit hR zf_200) (by rw [zs_200]; rfl) rfl (mX12_allRows  hf) rfl hl (Nat.le_of_ble_eq_true rfl) dX12_tells_1 rfl (fun r1 w1 H locs hf hR => ?_)
  refine lv_aload_n hx hb dX12_tells_4 rfl (lv_at hl 0 rfl) ?_
  refine z_getI X hR (zlit hR zf_200) zs_200 (by decide) zfd_X12_349 rfl dX12_tells_5 ?_
  refine lv_iconst (v := (-1 : Int32)) hx hb dX12_tells_8 (by decide) ?_
  refine lv_ixor hx hb dX12_tells_9 ?_
  refine lv_iand hx hb dX12_tells_10 ?_
  refine lv_topi (fun v2 hv2 => ?_)
  replace hf := hf v2 hv2
  refine lv_istore_n (lv' := [(1, .int v2), (0, .ref (ad 200))]) hx hb dX12_tells_11 rfl hl (by decide) rfl (fun ls hl => ?_)
  refine lv_iconst (v := (0 : Int32)) hx hb dX12_tells_12 (by decide) ?_
  refine lv_istore_n (lv' := [(2, .int (0 : Int32)), (1, .int v2), (0, .ref (ad 200))]) hx hb dX12_tells_13 rfl hl (by decide) rfl (fun ls hl => ?_)
  obtain ⟨n9, hf⟩ := hf
  exact mX12_tells_L14 X hr hQ  n9 v2 (0 : Int32) w1 _ _ _ hf hR (lv_sub hl [2, 1, 0] rfl)
/-! X12_gathers -/
def fX12_gathers_L6 (k : zW → Prop) : Nat → Int32 → zW → Prop
  | 0 => fun _ _ => False
  | n + 1 => fun x1 w =>
    fX12_allDictionaries  w (fun r2 w2 =>
    ((r2 ≤ x1 →
      k w2) ∧
     (¬ r2 ≤ x1 →
      fX12_lays x1 w2 (fun r4 w4 =>
      ((r4 = 0 →
        fX12_gathers_L6 k n (x1 + (1 : Int32)) w4) ∧
       (¬ r4 = 0 →
        fX12_goes  w4 (fun w6 =>
        fX12_tells  w6 (fun w7 =>
        fX12_gathers_L6 k n (x1 + (1 : Int32)) w7))))))))
set_option maxHeartbeats 4000000 in
set_option maxRecDepth 100000 in
theorem mX12_gathers_L6 {k : zW → Prop} (X : zCx p s m args meth c cX12_gathers 2 RX12 none) (hr : zRm R 3 cells slots) (hQ : zRetV p l e R s m args below meth c cells slots Q D dA true ad0 al0 ad al cX12_gathers k)  : ∀ (n : Nat) (x1 : Int32) (w : zW) (H : Heap) (locs : List Loc) (ls : Array Slot), fX12_gathers_L6 k n x1 w → zSt D dA true ad0 al0 ad al w s H locs → lv_has ls 2 [(0, .ref (ad 200)), (1, .int x1)] → W p l e R s m args below meth c H locs cells slots Q (F0 m 6 ls []) := by
  intro n
  induction n with
  | zero => exact fun _ _ _ _ _ hf => hf.elim
  | succ n ih =>
    intro x1 w H locs ls hf hR hl
    have hx := X.1
    have hb := X.2.1
    have hml := X.2.2.1
    have hown := X.2.2.2.1
    have hts := X.2.2.2.2.1
    rw [fX12_gathers_L6] at hf
    refine lv_iload_n hx hb dX12_gathers_6 rfl (lv_at hl 1 rfl) ?_
    refine lv_aload_n hx hb dX12_gathers_7 rfl (lv_at hl 0 rfl) ?_
    refine z_callVI (fr1 := 1) (b := 200) (As := []) (rest := [.int x1]) X (hr.le (by decide)) hR zy_X12_allDictionaries zq_1074 (zlit hR zf_200) (by rw [zs_200]; rfl) rfl (mX12_allDictionaries  hf) rfl hl (Nat.le_of_ble_eq_true rfl) dX12_gathers_8 rfl (fun r2 w2 H locs hf hR => ?_)
    refine lv_icmp_ge (tgt := 36) hx hb dX12_gathers_11 (by decide) (fun c3 => ?_) (fun c3 => ?_)
    · replace hf := hf.1 c3
      exact hQ _ _ _ _ _ hf hR dX12_gathers_36
    · replace hf := hf.2 c3
      refine lv_aload_n hx hb dX12_gathers_14 rfl (lv_at hl 0 rfl) ?_
      refine lv_iload_n hx hb dX12_gathers_15 rfl (lv_at hl 1 rfl) ?_
      refine z_callVI (fr1 := 1) (b := 200) (As := [.int x1]) (rest := []) X (hr.le (by decide)) hR zy_X12_lays zq_1078 (zlit hR zf_200) (by rw [zs_200]; rfl) rfl (mX12_lays  hf) rfl hl (Nat.le_of_ble_eq_true rfl) dX12_gathers_16 rfl (fun r4 w4 H locs hf hR => ?_)
      refine lv_if_eq (tgt := 30) hx hb dX12_gathers_19 (by decide) (fun c5 => ?_) (fun c5 => ?_)
      · replace hf := hf.1 c5
        refine lv_iinc (v := x1 + (1 : Int32)) (lv' := [(1, .int (x1 + (1 : Int32))), (0, .ref (ad 200))]) hx hb dX12_gathers_30 hl (k := 1) rfl rfl (by decide) rfl (fun ls hl => ?_)
        refine lv_goto (tgt := 6) hx hb dX12_gathers_33 (by decide) ?_
        exact ih (x1 + (1 : Int32)) w4 _ _ _ hf hR (lv_sub hl [1, 0] rfl)
      · replace hf := hf.2 c5
        refine lv_aload_n hx hb dX12_gathers_22 rfl (lv_at hl 0 rfl) ?_
        refine z_callVV (fr1 := 1) (b := 200) (As := []) (rest := []) X (hr.le (by decide)) hR zy_X12_goes zq_1082 (zlit hR zf_200) (by rw [zs_200]; rfl) rfl (mX12_goes  hf) rfl hl (Nat.le_of_ble_eq_true rfl) dX12_gathers_23 rfl (fun w6 H locs hf hR => ?_)
        refine lv_aload_n hx hb dX12_gathers_26 rfl (lv_at hl 0 rfl) ?_
        refine z_callVV (fr1 := 2) (b := 200) (As := []) (rest := []) X (hr.le (by decide)) hR zy_X12_tells zq_1088 (zlit hR zf_200) (by rw [zs_200]; rfl) rfl (mX12_tells  hf) rfl hl (Nat.le_of_ble_eq_true rfl) dX12_gathers_27 rfl (fun w7 H locs hf hR => ?_)
        refine lv_iinc (v := x1 + (1 : Int32)) (lv' := [(1, .int (x1 + (1 : Int32))), (0, .ref (ad 200))]) hx hb dX12_gathers_30 hl (k := 1) rfl rfl (by decide) rfl (fun ls hl => ?_)
        refine lv_goto (tgt := 6) hx hb dX12_gathers_33 (by decide) ?_
        exact ih (x1 + (1 : Int32)) w7 _ _ _ hf hR (lv_sub hl [1, 0] rfl)
def fX12_gathers (w : zW) (k : zW → Prop) : Prop :=
  fX12_clears  w (fun w1 =>
  ∃ n9, fX12_gathers_L6 k n9 (0 : Int32) w1)
set_option maxHeartbeats 4000000 in
set_option maxRecDepth 100000 in
theorem mX12_gathers {l : Launch} {D : va_G} {dA : Nat → ClassId} {ad : Nat → Nat} {al : Nat → Prop} {w : zW} {k : zW → Prop}   (hf : fX12_gathers w k) : zmetV l yX12_gathers cX12_gathers 2 none 3 [.ref (ad 200)] D dA true ad al w k := by
  refine zmetV_of (by decide) (Nat.le_of_ble_eq_true rfl) ?_
  intro p e R s m below meth c Q H ls args locs cells slots X hr hQ hR hl
  have hx := X.1
  have hb := X.2.1
  have hml := X.2.2.1
  have hown := X.2.2.2.1
  have hts := X.2.2.2.2.1
  unfold fX12_gathers at hf
  have hl : lv_has ls 2 [(0, .ref (ad 200))] := hl
  refine lv_aload_n hx hb dX12_gathers_0 rfl (lv_at hl 0 rfl) ?_
  refine z_callVV (fr1 := 0) (b := 200) (As := []) (rest := []) X (hr.le (by decide)) hR zy_X12_clears zq_1069 (zlit hR zf_200) (by rw [zs_200]; rfl) rfl (mX12_clears  hf) rfl hl (Nat.le_of_ble_eq_true rfl) dX12_gathers_1 rfl (fun w1 H locs hf hR => ?_)
  refine lv_iconst (v := (0 : Int32)) hx hb dX12_gathers_4 (by decide) ?_
  refine lv_istore_n (lv' := [(1, .int (0 : Int32)), (0, .ref (ad 200))]) hx hb dX12_gathers_5 rfl hl (by decide) rfl (fun ls hl => ?_)
  obtain ⟨n9, hf⟩ := hf
  exact mX12_gathers_L6 X hr hQ  n9 (0 : Int32) w1 _ _ _ hf hR (lv_sub hl [1, 0] rfl)
/-! X12_judged -/
def fX12_judged_L129 (k : Int32 → zW → Prop) : Nat → Int32 → Int32 → Int32 → Int32 → zW → Prop
  | 0 => fun _ _ _ _ _ => False
  | n + 1 => fun x1 x2 x3 x4 w =>
    (((12 : Int32) ≤ x4 →
      ((¬ x1 = 0 →
        ((¬ x1 = (1 : Int32) →
          k (gI w 200 31) w) ∧
         (x1 = (1 : Int32) →
          k x3 w))) ∧
       (x1 = 0 →
        k x2 w))) ∧
     (¬ (12 : Int32) ≤ x4 →
      vp_in x4 12 ∧ 
      vp_in x4 252 ∧ 
      ∀ w13 : zW, w13 = sI w 220 x4.toNatClampNeg (gI w 226 x4.toNatClampNeg) →
      fX12_judged_L129 k n x1 x2 x3 (x4 + (1 : Int32)) w13))
set_option maxHeartbeats 4000000 in
set_option maxRecDepth 100000 in
theorem mX12_judged_L129 {k : Int32 → zW → Prop} (X : zCx p s m args meth c cX12_judged 5 RX12 (some .int)) (hr : zRm R 4 cells slots) (hQ : zRetI p l e R s m args below meth c cells slots Q D dA true ad0 al0 ad al cX12_judged k)  : ∀ (n : Nat) (x1 : Int32) (x2 : Int32) (x3 : Int32) (x4 : Int32) (w : zW) (H : Heap) (locs : List Loc) (ls : Array Slot), fX12_judged_L129 k n x1 x2 x3 x4 w → zSt D dA true ad0 al0 ad al w s H locs → lv_has ls 5 [(0, .ref (ad 200)), (1, .int x1), (2, .int x2), (3, .int x3), (4, .int x4)] → W p l e R s m args below meth c H locs cells slots Q (F0 m 129 ls []) := by
  intro n
  induction n with
  | zero => exact fun _ _ _ _ _ _ _ _ hf => hf.elim
  | succ n ih =>
    intro x1 x2 x3 x4 w H locs ls hf hR hl
    have hx := X.1
    have hb := X.2.1
    have hml := X.2.2.1
    have hown := X.2.2.2.1
    have hts := X.2.2.2.2.1
    rw [fX12_judged_L129] at hf
    refine lv_iload hx hb dX12_judged_129 (lv_at hl 4 rfl) ?_
    refine lv_bipush (v := (12 : Int32)) hx hb dX12_judged_131 (by decide) ?_
    refine lv_icmp_ge (tgt := 156) hx hb dX12_judged_133 (by decide) (fun c8 => ?_) (fun c8 => ?_)
    · replace hf := hf.1 c8
      refine lv_iload_n hx hb dX12_judged_156 rfl (lv_at hl 1 rfl) ?_
      refine lv_if_ne (tgt := 164) hx hb dX12_judged_157 (by decide) (fun c9 => ?_) (fun c9 => ?_)
      · replace hf := hf.1 c9
        refine lv_iload_n hx hb dX12_judged_164 rfl (lv_at hl 1 rfl) ?_
        refine lv_iconst (v := (1 : Int32)) hx hb dX12_judged_165 (by decide) ?_
        refine lv_icmp_ne (tgt := 173) hx hb dX12_judged_166 (by decide) (fun c10 => ?_) (fun c10 => ?_)
        · replace hf := hf.1 c10
          refine lv_aload_n hx hb dX12_judged_173 rfl (lv_at hl 0 rfl) ?_
          refine z_getI X hR (zlit hR zf_200) zs_200 (by decide) zfd_X12_346 rfl dX12_judged_174 ?_
          exact hQ _ _ _ _ _ _ hf hR dX12_judged_177
        · replace hf := hf.2 c10
          refine lv_iload_n hx hb dX12_judged_169 rfl (lv_at hl 3 rfl) ?_
          refine lv_goto (tgt := 177) hx hb dX12_judged_170 (by decide) ?_
          exact hQ _ _ _ _ _ _ hf hR dX12_judged_177
      · replace hf := hf.2 c9
        refine lv_iload_n hx hb dX12_judged_160 rfl (lv_at hl 2 rfl) ?_
        refine lv_goto (tgt := 177) hx hb dX12_judged_161 (by decide) ?_
        exact hQ _ _ _ _ _ _ hf hR dX12_judged_177
    · replace hf := hf.2 c8
      refine lv_aload_n hx hb dX12_judged_136 rfl (lv_at hl 0 rfl) ?_
      refine z_getS X hR (zlit hR zf_200) zs_200 (by decide) zfd_X12_103 rfl (r := 220) (by decide +kernel) dX12_judged_137 ?_
      refine lv_iload hx hb dX12_judged_140 (lv_at hl 4 rfl) ?_
      refine lv_aload_n hx hb dX12_judged_142 rfl (lv_at hl 0 rfl) ?_
      refine z_getS X hR (zlit hR zf_200) zs_200 (by decide) zfd_X12_119 rfl (r := 226) (by decide +kernel) dX12_judged_143 ?_
      refine lv_iload hx hb dX12_judged_146 (lv_at hl 4 rfl) ?_
      obtain ⟨hb11, hf⟩ := hf
      refine z_iald X hR (zlit hR zf_226) zs_226 zl_226 hb11 dX12_judged_148 ?_
      obtain ⟨hb12, hf⟩ := hf
      refine z_iast X hR (zlit hR zf_220) zs_220 zl_220 hb12 dX12_judged_149 (fun H locs hR => ?_)
      obtain ⟨w13, hw13⟩ : ∃ z : zW, z = sI w 220 x4.toNatClampNeg (gI w 226 x4.toNatClampNeg) := ⟨_, rfl⟩
      rw [← hw13] at hR
      replace hf := hf w13 hw13
      refine lv_iinc (v := x4 + (1 : Int32)) (lv' := [(4, .int (x4 + (1 : Int32))), (0, .ref (ad 200)), (1, .int x1), (2, .int x2), (3, .int x3)]) hx hb dX12_judged_150 hl (k := 4) rfl rfl (by decide) rfl (fun ls hl => ?_)
      refine lv_goto (tgt := 129) hx hb dX12_judged_153 (by decide) ?_
      exact ih x1 x2 x3 (x4 + (1 : Int32)) w13 _ _ _ hf hR (lv_sub hl [1, 2, 3, 4, 0] rfl)
def fX12_judged_J88 (k : Int32 → zW → Prop) (g54 : Int32 → Int32 → Int32 → Int32 → zW → Prop) (x1 : Int32) (x3 : Int32) (x4 : Int32) (t0 : Int32) (w : zW) : Prop :=
  ((0 ≤ x3 →
    g54 x1 t0 x3 (x4 + (1 : Int32)) w) ∧
   (¬ 0 ≤ x3 →
    ((¬ x1 = (1 : Int32) →
      g54 x1 t0 x3 (x4 + (1 : Int32)) w) ∧
     (x1 = (1 : Int32) →
      fX12_gathers  w (fun w18 =>
      ∀ v19 : Int32, v19 = (if ¬ (gI w18 200 31) = 0 then x3 else x4) →
      g54 x1 t0 v19 (x4 + (1 : Int32)) w18)))))
set_option maxHeartbeats 4000000 in
set_option maxRecDepth 100000 in
theorem mX12_judged_J88 {k : Int32 → zW → Prop} {g54 : Int32 → Int32 → Int32 → Int32 → zW → Prop} (X : zCx p s m args meth c cX12_judged 5 RX12 (some .int)) (hr : zRm R 4 cells slots) (hQ : zRetI p l e R s m args below meth c cells slots Q D dA true ad0 al0 ad al cX12_judged k) (hg54 : ∀ (x1 : Int32) (x2 : Int32) (x3 : Int32) (x4 : Int32) (w : zW) (H : Heap) (locs : List Loc) (ls : Array Slot), g54 x1 x2 x3 x4 w → zSt D dA true ad0 al0 ad al w s H locs → lv_has ls 5 [(0, .ref (ad 200)), (1, .int x1), (2, .int x2), (3, .int x3), (4, .int x4)] → W p l e R s m args below meth c H locs cells slots Q (F0 m 54 ls [])) {x1 : Int32} {x3 : Int32} {x4 : Int32} {t0 : Int32} {w : zW} {H : Heap} {locs : List Loc} {ls : Array Slot} (hf : fX12_judged_J88 k g54 x1 x3 x4 t0 w) (hR : zSt D dA true ad0 al0 ad al w s H locs) (hl : lv_has ls 5 [(0, .ref (ad 200)), (1, .int x1), (3, .int x3), (4, .int x4)]) : W p l e R s m args below meth c H locs cells slots Q (F0 m 88 ls [.int t0]) := by
  have hx := X.1
  have hb := X.2.1
  have hml := X.2.2.1
  have hown := X.2.2.2.1
  have hts := X.2.2.2.2.1
  unfold fX12_judged_J88 at hf
  refine lv_istore_n (lv' := [(2, .int t0), (0, .ref (ad 200)), (1, .int x1), (3, .int x3), (4, .int x4)]) hx hb dX12_judged_88 rfl hl (by decide) rfl (fun ls hl => ?_)
  refine lv_iload_n hx hb dX12_judged_89 rfl (lv_at hl 3 rfl) ?_
  refine lv_if_ge (tgt := 116) hx hb dX12_judged_90 (by decide) (fun c16 => ?_) (fun c16 => ?_)
  · replace hf := hf.1 c16
    refine lv_iinc (v := x4 + (1 : Int32)) (lv' := [(4, .int (x4 + (1 : Int32))), (2, .int t0), (0, .ref (ad 200)), (1, .int x1), (3, .int x3)]) hx hb dX12_judged_116 hl (k := 4) rfl rfl (by decide) rfl (fun ls hl => ?_)
    refine lv_goto (tgt := 54) hx hb dX12_judged_119 (by decide) ?_
    exact hg54 x1 t0 x3 (x4 + (1 : Int32)) w _ _ _ hf hR (lv_sub hl [2, 3, 1, 4, 0] rfl)
  · replace hf := hf.2 c16
    refine lv_iload_n hx hb dX12_judged_93 rfl (lv_at hl 2 rfl) ?_
    refine lv_iconst (v := (1 : Int32)) hx hb dX12_judged_94 (by decide) ?_
    refine lv_icmp_ne (tgt := 116) hx hb dX12_judged_95 (by decide) (fun c17 => ?_) (fun c17 => ?_)
    · replace hf := hf.1 c17
      refine lv_iinc (v := x4 + (1 : Int32)) (lv' := [(4, .int (x4 + (1 : Int32))), (2, .int t0), (0, .ref (ad 200)), (1, .int x1), (3, .int x3)]) hx hb dX12_judged_116 hl (k := 4) rfl rfl (by decide) rfl (fun ls hl => ?_)
      refine lv_goto (tgt := 54) hx hb dX12_judged_119 (by decide) ?_
      exact hg54 x1 t0 x3 (x4 + (1 : Int32)) w _ _ _ hf hR (lv_sub hl [2, 3, 1, 4, 0] rfl)
    · replace hf := hf.2 c17
      refine lv_aload_n hx hb dX12_judged_98 rfl (lv_at hl 1 rfl) ?_
      refine z_callVV (fr1 := 3) (b := 200) (As := []) (rest := []) X (hr.le (by decide)) hR zy_X12_gathers zq_1065 (zlit hR zf_200) (by rw [zs_200]; rfl) rfl (mX12_gathers  hf) rfl hl (Nat.le_of_ble_eq_true rfl) dX12_judged_99 rfl (fun w18 H locs hf hR => ?_)
      refine lv_aload_n hx hb dX12_judged_102 rfl (lv_at hl 1 rfl) ?_
      refine z_getI X hR (zlit hR zf_200) zs_200 (by decide) zfd_X12_346 rfl dX12_judged_103 ?_
      have kJ19 : ∀ v19 : Int32, v19 = (if ¬ (gI w18 200 31) = 0 then x3 else x4) → W p l e R s m args below meth c H locs cells slots Q (F0 m 115 ls (.int v19 :: [])) := by
        intro v19 hv19
        replace hf := hf v19 hv19
        refine lv_istore_n (lv' := [(3, .int v19), (2, .int t0), (0, .ref (ad 200)), (1, .int x1), (4, .int x4)]) hx hb dX12_judged_115 rfl hl (by decide) rfl (fun ls hl => ?_)
        refine lv_iinc (v := x4 + (1 : Int32)) (lv' := [(4, .int (x4 + (1 : Int32))), (3, .int v19), (2, .int t0), (0, .ref (ad 200)), (1, .int x1)]) hx hb dX12_judged_116 hl (k := 4) rfl rfl (by decide) rfl (fun ls hl => ?_)
        refine lv_goto (tgt := 54) hx hb dX12_judged_119 (by decide) ?_
        exact hg54 x1 t0 v19 (x4 + (1 : Int32)) w18 _ _ _ hf hR (lv_sub hl [3, 4, 2, 1, 0] rfl)
      refine lv_if_ne (tgt := 114) hx hb dX12_judged_106 (by decide) (fun c19 => ?_) (fun c19 => ?_)
      · refine lv_iload_n hx hb dX12_judged_114 rfl (lv_at hl 3 rfl) ?_
        exact kJ19 _ (if_pos c19).symm
      · refine lv_iload hx hb dX12_judged_109 (lv_at hl 4 rfl) ?_
        refine lv_goto (tgt := 115) hx hb dX12_judged_111 (by decide) ?_
        exact kJ19 _ (if_neg (fun h9 => h9 c19)).symm
def fX12_judged_L54 (k : Int32 → zW → Prop) : Nat → Int32 → Int32 → Int32 → Int32 → zW → Prop
  | 0 => fun _ _ _ _ _ => False
  | n + 1 => fun x1 x2 x3 x4 w =>
    (((gI w 217 (0 : Int32).toNatClampNeg) ≤ x4 →
      fX12_gathers  w (fun w7 =>
      ∃ n9, fX12_judged_L129 k n9 x1 x2 x3 (0 : Int32) w7)) ∧
     (¬ (gI w 217 (0 : Int32).toNatClampNeg) ≤ x4 →
      fX12_doesLine ((1 : Int32) + ((4 : Int32) * x4)) w (fun r14 w14 =>
      ∀ v15 : Int32, v15 = (if ¬ r14 = 0 then x2 else (if 0 ≤ x2 then x2 else x4)) →
      fX12_judged_J88 k (fX12_judged_L54 k n) x1 x3 x4 v15 w14)))
set_option maxHeartbeats 4000000 in
set_option maxRecDepth 100000 in
theorem mX12_judged_L54 {k : Int32 → zW → Prop} (X : zCx p s m args meth c cX12_judged 5 RX12 (some .int)) (hr : zRm R 4 cells slots) (hQ : zRetI p l e R s m args below meth c cells slots Q D dA true ad0 al0 ad al cX12_judged k)  : ∀ (n : Nat) (x1 : Int32) (x2 : Int32) (x3 : Int32) (x4 : Int32) (w : zW) (H : Heap) (locs : List Loc) (ls : Array Slot), fX12_judged_L54 k n x1 x2 x3 x4 w → zSt D dA true ad0 al0 ad al w s H locs → lv_has ls 5 [(0, .ref (ad 200)), (1, .int x1), (2, .int x2), (3, .int x3), (4, .int x4)] → W p l e R s m args below meth c H locs cells slots Q (F0 m 54 ls []) := by
  intro n
  induction n with
  | zero => exact fun _ _ _ _ _ _ _ _ hf => hf.elim
  | succ n ih =>
    intro x1 x2 x3 x4 w H locs ls hf hR hl
    have hx := X.1
    have hb := X.2.1
    have hml := X.2.2.1
    have hown := X.2.2.2.1
    have hts := X.2.2.2.2.1
    rw [fX12_judged_L54] at hf
    refine lv_iload hx hb dX12_judged_54 (lv_at hl 4 rfl) ?_
    refine lv_aload_n hx hb dX12_judged_56 rfl (lv_at hl 0 rfl) ?_
    refine z_getS X hR (zlit hR zf_200) zs_200 (by decide) zfd_X12_94 rfl (r := 217) (by decide +kernel) dX12_judged_57 ?_
    refine lv_iconst (v := (0 : Int32)) hx hb dX12_judged_60 (by decide) ?_
    refine z_iald X hR (zlit hR zf_217) zs_217 zl_217 (zin (by decide)) dX12_judged_61 ?_
    refine lv_icmp_ge (tgt := 122) hx hb dX12_judged_62 (by decide) (fun c6 => ?_) (fun c6 => ?_)
    · replace hf := hf.1 c6
      refine lv_aload_n hx hb dX12_judged_122 rfl (lv_at hl 0 rfl) ?_
      refine z_callVV (fr1 := 3) (b := 200) (As := []) (rest := []) X (hr.le (by decide)) hR zy_X12_gathers zq_1065 (zlit hR zf_200) (by rw [zs_200]; rfl) rfl (mX12_gathers  hf) rfl hl (Nat.le_of_ble_eq_true rfl) dX12_judged_123 rfl (fun w7 H locs hf hR => ?_)
      refine lv_iconst (v := (0 : Int32)) hx hb dX12_judged_126 (by decide) ?_
      refine lv_istore (lv' := [(4, .int (0 : Int32)), (0, .ref (ad 200)), (1, .int x1), (2, .int x2), (3, .int x3)]) hx hb dX12_judged_127 hl (by decide) rfl (fun ls hl => ?_)
      obtain ⟨n9, hf⟩ := hf
      exact mX12_judged_L129 X hr hQ  n9 x1 x2 x3 (0 : Int32) w7 _ _ _ hf hR (lv_sub hl [1, 2, 3, 4, 0] rfl)
    · replace hf := hf.2 c6
      refine lv_aload_n hx hb dX12_judged_65 rfl (lv_at hl 0 rfl) ?_
      refine lv_iconst (v := (1 : Int32)) hx hb dX12_judged_66 (by decide) ?_
      refine lv_iconst (v := (4 : Int32)) hx hb dX12_judged_67 (by decide) ?_
      refine lv_iload hx hb dX12_judged_68 (lv_at hl 4 rfl) ?_
      refine lv_imul hx hb dX12_judged_70 ?_
      refine lv_iadd hx hb dX12_judged_71 ?_
      refine z_callVI (fr1 := 2) (b := 200) (As := [.int ((1 : Int32) + ((4 : Int32) * x4))]) (rest := []) X (hr.le (by decide)) hR zy_X12_doesLine zq_1061 (zlit hR zf_200) (by rw [zs_200]; rfl) rfl (mX12_doesLine  hf) rfl hl (Nat.le_of_ble_eq_true rfl) dX12_judged_72 rfl (fun r14 w14 H locs hf hR => ?_)
      have kJ15 : ∀ v15 : Int32, v15 = (if ¬ r14 = 0 then x2 else (if 0 ≤ x2 then x2 else x4)) → W p l e R s m args below meth c H locs cells slots Q (F0 m 88 ls (.int v15 :: [])) := by
        intro v15 hv15
        replace hf := hf v15 hv15
        exact mX12_judged_J88 X hr hQ ih hf hR (lv_sub hl [0, 1, 3, 4] rfl)
      refine lv_if_ne (tgt := 87) hx hb dX12_judged_75 (by decide) (fun c15 => ?_) (fun c15 => ?_)
      · refine lv_iload_n hx hb dX12_judged_87 rfl (lv_at hl 2 rfl) ?_
        exact kJ15 _ (if_pos c15).symm
      · refine lv_iload_n hx hb dX12_judged_78 rfl (lv_at hl 2 rfl) ?_
        refine lv_if_ge (tgt := 87) hx hb dX12_judged_79 (by decide) (fun c20 => ?_) (fun c20 => ?_)
        · refine lv_iload_n hx hb dX12_judged_87 rfl (lv_at hl 2 rfl) ?_
          exact kJ15 _ ((if_neg (fun h9 => h9 c15)).trans (if_pos c20)).symm
        · refine lv_iload hx hb dX12_judged_82 (lv_at hl 4 rfl) ?_
          refine lv_goto (tgt := 88) hx hb dX12_judged_84 (by decide) ?_
          exact kJ15 _ ((if_neg (fun h9 => h9 c15)).trans (if_neg c20)).symm
def fX12_judged_L19 (k : Int32 → zW → Prop) : Nat → Int32 → Int32 → zW → Prop
  | 0 => fun _ _ _ => False
  | n + 1 => fun x1 x2 w =>
    (((12 : Int32) ≤ x2 →
      fX12_forgets  w (fun w5 =>
      ∃ n9, fX12_judged_L54 k n9 x1 (-1 : Int32) (-1 : Int32) (0 : Int32) w5)) ∧
     (¬ (12 : Int32) ≤ x2 →
      vp_in x2 252 ∧ 
      vp_in x2 12 ∧ 
      ∀ w23 : zW, w23 = sI w 226 x2.toNatClampNeg (gI w 220 x2.toNatClampNeg) →
      fX12_judged_L19 k n x1 (x2 + (1 : Int32)) w23))
set_option maxHeartbeats 4000000 in
set_option maxRecDepth 100000 in
theorem mX12_judged_L19 {k : Int32 → zW → Prop} (X : zCx p s m args meth c cX12_judged 5 RX12 (some .int)) (hr : zRm R 4 cells slots) (hQ : zRetI p l e R s m args below meth c cells slots Q D dA true ad0 al0 ad al cX12_judged k)  : ∀ (n : Nat) (x1 : Int32) (x2 : Int32) (w : zW) (H : Heap) (locs : List Loc) (ls : Array Slot), fX12_judged_L19 k n x1 x2 w → zSt D dA true ad0 al0 ad al w s H locs → lv_has ls 5 [(0, .ref (ad 200)), (1, .int x1), (2, .int x2)] → W p l e R s m args below meth c H locs cells slots Q (F0 m 19 ls []) := by
  intro n
  induction n with
  | zero => exact fun _ _ _ _ _ _ hf => hf.elim
  | succ n ih =>
    intro x1 x2 w H locs ls hf hR hl
    have hx := X.1
    have hb := X.2.1
    have hml := X.2.2.1
    have hown := X.2.2.2.1
    have hts := X.2.2.2.2.1
    rw [fX12_judged_L19] at hf
    refine lv_iload_n hx hb dX12_judged_19 rfl (lv_at hl 2 rfl) ?_
    refine lv_bipush (v := (12 : Int32)) hx hb dX12_judged_20 (by decide) ?_
    refine lv_icmp_ge (tgt := 43) hx hb dX12_judged_22 (by decide) (fun c4 => ?_) (fun c4 => ?_)
    · replace hf := hf.1 c4
      refine lv_aload_n hx hb dX12_judged_43 rfl (lv_at hl 0 rfl) ?_
      refine z_callVV (fr1 := 0) (b := 200) (As := []) (rest := []) X (hr.le (by decide)) hR zy_X12_forgets zq_230 (zlit hR zf_200) (by rw [zs_200]; rfl) rfl (mX12_forgets  hf) rfl hl (Nat.le_of_ble_eq_true rfl) dX12_judged_44 rfl (fun w5 H locs hf hR => ?_)
      refine lv_iconst (v := (-1 : Int32)) hx hb dX12_judged_47 (by decide) ?_
      refine lv_istore_n (lv' := [(2, .int (-1 : Int32)), (0, .ref (ad 200)), (1, .int x1)]) hx hb dX12_judged_48 rfl hl (by decide) rfl (fun ls hl => ?_)
      refine lv_iconst (v := (-1 : Int32)) hx hb dX12_judged_49 (by decide) ?_
      refine lv_istore_n (lv' := [(3, .int (-1 : Int32)), (2, .int (-1 : Int32)), (0, .ref (ad 200)), (1, .int x1)]) hx hb dX12_judged_50 rfl hl (by decide) rfl (fun ls hl => ?_)
      refine lv_iconst (v := (0 : Int32)) hx hb dX12_judged_51 (by decide) ?_
      refine lv_istore (lv' := [(4, .int (0 : Int32)), (3, .int (-1 : Int32)), (2, .int (-1 : Int32)), (0, .ref (ad 200)), (1, .int x1)]) hx hb dX12_judged_52 hl (by decide) rfl (fun ls hl => ?_)
      obtain ⟨n9, hf⟩ := hf
      exact mX12_judged_L54 X hr hQ  n9 x1 (-1 : Int32) (-1 : Int32) (0 : Int32) w5 _ _ _ hf hR (lv_sub hl [3, 4, 2, 1, 0] rfl)
    · replace hf := hf.2 c4
      refine lv_aload_n hx hb dX12_judged_25 rfl (lv_at hl 0 rfl) ?_
      refine z_getS X hR (zlit hR zf_200) zs_200 (by decide) zfd_X12_119 rfl (r := 226) (by decide +kernel) dX12_judged_26 ?_
      refine lv_iload_n hx hb dX12_judged_29 rfl (lv_at hl 2 rfl) ?_
      refine lv_aload_n hx hb dX12_judged_30 rfl (lv_at hl 0 rfl) ?_
      refine z_getS X hR (zlit hR zf_200) zs_200 (by decide) zfd_X12_103 rfl (r := 220) (by decide +kernel) dX12_judged_31 ?_
      refine lv_iload_n hx hb dX12_judged_34 rfl (lv_at hl 2 rfl) ?_
      obtain ⟨hb21, hf⟩ := hf
      refine z_iald X hR (zlit hR zf_220) zs_220 zl_220 hb21 dX12_judged_35 ?_
      obtain ⟨hb22, hf⟩ := hf
      refine z_iast X hR (zlit hR zf_226) zs_226 zl_226 hb22 dX12_judged_36 (fun H locs hR => ?_)
      obtain ⟨w23, hw23⟩ : ∃ z : zW, z = sI w 226 x2.toNatClampNeg (gI w 220 x2.toNatClampNeg) := ⟨_, rfl⟩
      rw [← hw23] at hR
      replace hf := hf w23 hw23
      refine lv_iinc (v := x2 + (1 : Int32)) (lv' := [(2, .int (x2 + (1 : Int32))), (0, .ref (ad 200)), (1, .int x1)]) hx hb dX12_judged_37 hl (k := 2) rfl rfl (by decide) rfl (fun ls hl => ?_)
      refine lv_goto (tgt := 19) hx hb dX12_judged_40 (by decide) ?_
      exact ih x1 (x2 + (1 : Int32)) w23 _ _ _ hf hR (lv_sub hl [1, 2, 0] rfl)
def fX12_judged (x1 : Int32) (w : zW) (k : Int32 → zW → Prop) : Prop :=
  ∀ w1 : zW, w1 = sI w 200 0 (0 : Int32) →
  fX12_within x1 (0 : Int32) (2 : Int32) w1 (fun r2 w2 =>
  ((¬ r2 = 0 →
    ∃ n9, fX12_judged_L19 k n9 x1 (0 : Int32) w2) ∧
   (r2 = 0 →
    k (-2 : Int32) w2)))
set_option maxHeartbeats 4000000 in
set_option maxRecDepth 100000 in
theorem mX12_judged {l : Launch} {D : va_G} {dA : Nat → ClassId} {ad : Nat → Nat} {al : Nat → Prop} {w : zW} {k : Int32 → zW → Prop} {x1 : Int32}   (hf : fX12_judged x1 w k) : zmetI l yX12_judged cX12_judged 5 (some .int) 4 [.ref (ad 200), .int x1] D dA true ad al w k := by
  refine zmetI_of (by decide) (Nat.le_of_ble_eq_true rfl) ?_
  intro p e R s m below meth c Q H ls args locs cells slots X hr hQ hR hl
  have hx := X.1
  have hb := X.2.1
  have hml := X.2.2.1
  have hown := X.2.2.2.1
  have hts := X.2.2.2.2.1
  unfold fX12_judged at hf
  have hl : lv_has ls 5 [(0, .ref (ad 200)), (1, .int x1)] := hl
  refine lv_aload_n hx hb dX12_judged_0 rfl (lv_at hl 0 rfl) ?_
  refine lv_iconst (v := (0 : Int32)) hx hb dX12_judged_1 (by decide) ?_
  refine z_putI X hR (zlit hR zf_200) zs_200 (by decide) zfp_X12_1 rfl dX12_judged_2 (fun H locs hR => ?_)
  obtain ⟨w1, hw1⟩ : ∃ z : zW, z = sI w 200 0 (0 : Int32) := ⟨_, rfl⟩
  rw [← hw1] at hR
  replace hf := hf w1 hw1
  refine lv_iload_n hx hb dX12_judged_5 rfl (lv_at hl 1 rfl) ?_
  refine lv_iconst (v := (0 : Int32)) hx hb dX12_judged_6 (by decide) ?_
  refine lv_iconst (v := (2 : Int32)) hx hb dX12_judged_7 (by decide) ?_
  refine z_callSI (fr1 := 0) (As := [.int x1, .int (0 : Int32), .int (2 : Int32)]) (rest := []) X (hr.le (by decide)) hR zy_X12_within zq_773 (mX12_within  hf) rfl hl (Nat.le_of_ble_eq_true rfl) dX12_judged_8 rfl (fun r2 w2 H locs hf hR => ?_)
  refine lv_if_ne (tgt := 17) hx hb dX12_judged_11 (by decide) (fun c3 => ?_) (fun c3 => ?_)
  · replace hf := hf.1 c3
    refine lv_iconst (v := (0 : Int32)) hx hb dX12_judged_17 (by decide) ?_
    refine lv_istore_n (lv' := [(2, .int (0 : Int32)), (0, .ref (ad 200)), (1, .int x1)]) hx hb dX12_judged_18 rfl hl (by decide) rfl (fun ls hl => ?_)
    obtain ⟨n9, hf⟩ := hf
    exact mX12_judged_L19 X hr hQ  n9 x1 (0 : Int32) w2 _ _ _ hf hR (lv_sub hl [1, 2, 0] rfl)
  · replace hf := hf.2 c3
    refine lv_bipush (v := (-2 : Int32)) hx hb dX12_judged_14 (by decide) ?_
    exact hQ _ _ _ _ _ _ hf hR dX12_judged_16
/-! X12_fits -/
def fX12_fits (w : zW) (k : Int32 → zW → Prop) : Prop :=
  ∀ w1 : zW, w1 = sI w 200 0 (0 : Int32) →
  fX12_gathers  w1 (fun w2 =>
  k (gI w2 200 31) w2)
set_option maxHeartbeats 4000000 in
set_option maxRecDepth 100000 in
theorem mX12_fits {l : Launch} {D : va_G} {dA : Nat → ClassId} {ad : Nat → Nat} {al : Nat → Prop} {w : zW} {k : Int32 → zW → Prop}   (hf : fX12_fits w k) : zmetI l yX12_fits cX12_fits 1 (some .int) 4 [.ref (ad 200)] D dA true ad al w k := by
  refine zmetI_of (by decide) (Nat.le_of_ble_eq_true rfl) ?_
  intro p e R s m below meth c Q H ls args locs cells slots X hr hQ hR hl
  have hx := X.1
  have hb := X.2.1
  have hml := X.2.2.1
  have hown := X.2.2.2.1
  have hts := X.2.2.2.2.1
  unfold fX12_fits at hf
  have hl : lv_has ls 1 [(0, .ref (ad 200))] := hl
  refine lv_aload_n hx hb dX12_fits_0 rfl (lv_at hl 0 rfl) ?_
  refine lv_iconst (v := (0 : Int32)) hx hb dX12_fits_1 (by decide) ?_
  refine z_putI X hR (zlit hR zf_200) zs_200 (by decide) zfp_X12_1 rfl dX12_fits_2 (fun H locs hR => ?_)
  obtain ⟨w1, hw1⟩ : ∃ z : zW, z = sI w 200 0 (0 : Int32) := ⟨_, rfl⟩
  rw [← hw1] at hR
  replace hf := hf w1 hw1
  refine lv_aload_n hx hb dX12_fits_5 rfl (lv_at hl 0 rfl) ?_
  refine z_callVV (fr1 := 3) (b := 200) (As := []) (rest := []) X (hr.le (by decide)) hR zy_X12_gathers zq_1065 (zlit hR zf_200) (by rw [zs_200]; rfl) rfl (mX12_gathers  hf) rfl hl (Nat.le_of_ble_eq_true rfl) dX12_fits_6 rfl (fun w2 H locs hf hR => ?_)
  refine lv_aload_n hx hb dX12_fits_9 rfl (lv_at hl 0 rfl) ?_
  refine z_getI X hR (zlit hR zf_200) zs_200 (by decide) zfd_X12_346 rfl dX12_fits_10 ?_
  exact hQ _ _ _ _ _ _ hf hR dX12_fits_13
/-! X12_entry -/
def fX12_entry (x1 : Int32) (x2 : Int32) (w : zW) (k : Int32 → zW → Prop) : Prop :=
  ∀ w1 : zW, w1 = sI w 200 0 (0 : Int32) →
  ∀ w2 : zW, w2 = sI w1 200 32 x1 →
  fX12_gathers  w2 (fun w3 =>
  fX12_isTerm x2 w3 (fun r4 w4 =>
  ((r4 = 0 →
    k (-1 : Int32) w4) ∧
   (¬ r4 = 0 →
    fX12_within x1 (0 : Int32) ((gI w4 200 31) - (1 : Int32)) w4 (fun r6 w6 =>
    ((r6 = 0 →
      k (-1 : Int32) w6) ∧
     (¬ r6 = 0 →
      vp_in x2 4 ∧ 
      k (gI w6 236 x2.toNatClampNeg) w6)))))))
set_option maxHeartbeats 4000000 in
set_option maxRecDepth 100000 in
theorem mX12_entry {l : Launch} {D : va_G} {dA : Nat → ClassId} {ad : Nat → Nat} {al : Nat → Prop} {w : zW} {k : Int32 → zW → Prop} {x1 : Int32} {x2 : Int32}   (hf : fX12_entry x1 x2 w k) : zmetI l yX12_entry cX12_entry 3 (some .int) 4 [.ref (ad 200), .int x1, .int x2] D dA true ad al w k := by
  refine zmetI_of (by decide) (Nat.le_of_ble_eq_true rfl) ?_
  intro p e R s m below meth c Q H ls args locs cells slots X hr hQ hR hl
  have hx := X.1
  have hb := X.2.1
  have hml := X.2.2.1
  have hown := X.2.2.2.1
  have hts := X.2.2.2.2.1
  unfold fX12_entry at hf
  have hl : lv_has ls 3 [(0, .ref (ad 200)), (1, .int x1), (2, .int x2)] := hl
  refine lv_aload_n hx hb dX12_entry_0 rfl (lv_at hl 0 rfl) ?_
  refine lv_iconst (v := (0 : Int32)) hx hb dX12_entry_1 (by decide) ?_
  refine z_putI X hR (zlit hR zf_200) zs_200 (by decide) zfp_X12_1 rfl dX12_entry_2 (fun H locs hR => ?_)
  obtain ⟨w1, hw1⟩ : ∃ z : zW, z = sI w 200 0 (0 : Int32) := ⟨_, rfl⟩
  rw [← hw1] at hR
  replace hf := hf w1 hw1
  refine lv_aload_n hx hb dX12_entry_5 rfl (lv_at hl 0 rfl) ?_
  refine lv_iload_n hx hb dX12_entry_6 rfl (lv_at hl 1 rfl) ?_
  refine z_putI X hR (zlit hR zf_200) zs_200 (by decide) zfp_X12_379 rfl dX12_entry_7 (fun H locs hR => ?_)
  obtain ⟨w2, hw2⟩ : ∃ z : zW, z = sI w1 200 32 x1 := ⟨_, rfl⟩
  rw [← hw2] at hR
  replace hf := hf w2 hw2
  refine lv_aload_n hx hb dX12_entry_10 rfl (lv_at hl 0 rfl) ?_
  refine z_callVV (fr1 := 3) (b := 200) (As := []) (rest := []) X (hr.le (by decide)) hR zy_X12_gathers zq_1065 (zlit hR zf_200) (by rw [zs_200]; rfl) rfl (mX12_gathers  hf) rfl hl (Nat.le_of_ble_eq_true rfl) dX12_entry_11 rfl (fun w3 H locs hf hR => ?_)
  refine lv_aload_n hx hb dX12_entry_14 rfl (lv_at hl 0 rfl) ?_
  refine lv_iload_n hx hb dX12_entry_15 rfl (lv_at hl 2 rfl) ?_
  refine z_callVI (fr1 := 1) (b := 200) (As := [.int x2]) (rest := []) X (hr.le (by decide)) hR zy_X12_isTerm zq_769 (zlit hR zf_200) (by rw [zs_200]; rfl) rfl (mX12_isTerm  hf) rfl hl (Nat.le_of_ble_eq_true rfl) dX12_entry_16 rfl (fun r4 w4 H locs hf hR => ?_)
  refine lv_if_eq (tgt := 45) hx hb dX12_entry_19 (by decide) (fun c5 => ?_) (fun c5 => ?_)
  · replace hf := hf.1 c5
    refine lv_iconst (v := (-1 : Int32)) hx hb dX12_entry_45 (by decide) ?_
    exact hQ _ _ _ _ _ _ hf hR dX12_entry_46
  · replace hf := hf.2 c5
    refine lv_iload_n hx hb dX12_entry_22 rfl (lv_at hl 1 rfl) ?_
    refine lv_iconst (v := (0 : Int32)) hx hb dX12_entry_23 (by decide) ?_
    refine lv_aload_n hx hb dX12_entry_24 rfl (lv_at hl 0 rfl) ?_
    refine z_getI X hR (zlit hR zf_200) zs_200 (by decide) zfd_X12_346 rfl dX12_entry_25 ?_
    refine lv_iconst (v := (1 : Int32)) hx hb dX12_entry_28 (by decide) ?_
    refine lv_isub hx hb dX12_entry_29 ?_
    refine z_callSI (fr1 := 0) (As := [.int x1, .int (0 : Int32), .int ((gI w4 200 31) - (1 : Int32))]) (rest := []) X (hr.le (by decide)) hR zy_X12_within zq_773 (mX12_within  hf) rfl hl (Nat.le_of_ble_eq_true rfl) dX12_entry_30 rfl (fun r6 w6 H locs hf hR => ?_)
    refine lv_if_eq (tgt := 45) hx hb dX12_entry_33 (by decide) (fun c7 => ?_) (fun c7 => ?_)
    · replace hf := hf.1 c7
      refine lv_iconst (v := (-1 : Int32)) hx hb dX12_entry_45 (by decide) ?_
      exact hQ _ _ _ _ _ _ hf hR dX12_entry_46
    · replace hf := hf.2 c7
      refine lv_aload_n hx hb dX12_entry_36 rfl (lv_at hl 0 rfl) ?_
      refine z_getS X hR (zlit hR zf_200) zs_200 (by decide) zfd_X12_134 rfl (r := 236) (by decide +kernel) dX12_entry_37 ?_
      refine lv_iload_n hx hb dX12_entry_40 rfl (lv_at hl 2 rfl) ?_
      obtain ⟨hb8, hf⟩ := hf
      refine z_iald X hR (zlit hR zf_236) zs_236 zl_236 hb8 dX12_entry_41 ?_
      refine lv_goto (tgt := 46) hx hb dX12_entry_42 (by decide) ?_
      exact hQ _ _ _ _ _ _ hf hR dX12_entry_46
/-! X12_could -/
def fX12_could_J57 (k : Int32 → zW → Prop) (x1 : Int32) (x2 : Int32) (w : zW) : Prop :=
  fX12_isTerm x1 w (fun r4 w4 =>
  ∀ v5 : Int32, v5 = (if r4 = 0 then (-1 : Int32) else x2) →
  k v5 w4)
set_option maxHeartbeats 4000000 in
set_option maxRecDepth 100000 in
theorem mX12_could_J57 {k : Int32 → zW → Prop} (X : zCx p s m args meth c cX12_could 4 RX12 (some .int)) (hr : zRm R 4 cells slots) (hQ : zRetI p l e R s m args below meth c cells slots Q D dA true ad0 al0 ad al cX12_could k)  {x1 : Int32} {x2 : Int32} {w : zW} {H : Heap} {locs : List Loc} {ls : Array Slot} (hf : fX12_could_J57 k x1 x2 w) (hR : zSt D dA true ad0 al0 ad al w s H locs) (hl : lv_has ls 4 [(0, .ref (ad 200)), (1, .int x1), (2, .int x2)]) : W p l e R s m args below meth c H locs cells slots Q (F0 m 57 ls []) := by
  have hx := X.1
  have hb := X.2.1
  have hml := X.2.2.1
  have hown := X.2.2.2.1
  have hts := X.2.2.2.2.1
  unfold fX12_could_J57 at hf
  refine lv_aload_n hx hb dX12_could_57 rfl (lv_at hl 0 rfl) ?_
  refine lv_iload_n hx hb dX12_could_58 rfl (lv_at hl 1 rfl) ?_
  refine z_callVI (fr1 := 1) (b := 200) (As := [.int x1]) (rest := []) X (hr.le (by decide)) hR zy_X12_isTerm zq_769 (zlit hR zf_200) (by rw [zs_200]; rfl) rfl (mX12_isTerm  hf) rfl hl (Nat.le_of_ble_eq_true rfl) dX12_could_59 rfl (fun r4 w4 H locs hf hR => ?_)
  have kJ5 : ∀ v5 : Int32, v5 = (if r4 = 0 then (-1 : Int32) else x2) → W p l e R s m args below meth c H locs cells slots Q (F0 m 70 ls (.int v5 :: [])) := by
    intro v5 hv5
    replace hf := hf v5 hv5
    exact hQ _ _ _ _ _ _ hf hR dX12_could_70
  refine lv_if_eq (tgt := 69) hx hb dX12_could_62 (by decide) (fun c5 => ?_) (fun c5 => ?_)
  · refine lv_iconst (v := (-1 : Int32)) hx hb dX12_could_69 (by decide) ?_
    exact kJ5 _ (if_pos c5).symm
  · refine lv_iload_n hx hb dX12_could_65 rfl (lv_at hl 2 rfl) ?_
    refine lv_goto (tgt := 70) hx hb dX12_could_66 (by decide) ?_
    exact kJ5 _ (if_neg c5).symm
def fX12_could_J49 (k : Int32 → zW → Prop) (g13 : Int32 → Int32 → Int32 → zW → Prop) (x1 : Int32) (x3 : Int32) (t0 : Int32) (t1 : Int32) (w : zW) : Prop :=
  ∀ v10 : Int32, v10 = t1 ||| t0 →
  g13 x1 v10 (x3 + (1 : Int32)) w
set_option maxHeartbeats 4000000 in
set_option maxRecDepth 100000 in
theorem mX12_could_J49 {k : Int32 → zW → Prop} {g13 : Int32 → Int32 → Int32 → zW → Prop} (X : zCx p s m args meth c cX12_could 4 RX12 (some .int)) (hr : zRm R 4 cells slots) (hQ : zRetI p l e R s m args below meth c cells slots Q D dA true ad0 al0 ad al cX12_could k) (hg13 : ∀ (x1 : Int32) (x2 : Int32) (x3 : Int32) (w : zW) (H : Heap) (locs : List Loc) (ls : Array Slot), g13 x1 x2 x3 w → zSt D dA true ad0 al0 ad al w s H locs → lv_has ls 4 [(0, .ref (ad 200)), (1, .int x1), (2, .int x2), (3, .int x3)] → W p l e R s m args below meth c H locs cells slots Q (F0 m 13 ls [])) {x1 : Int32} {x3 : Int32} {t0 : Int32} {t1 : Int32} {w : zW} {H : Heap} {locs : List Loc} {ls : Array Slot} (hf : fX12_could_J49 k g13 x1 x3 t0 t1 w) (hR : zSt D dA true ad0 al0 ad al w s H locs) (hl : lv_has ls 4 [(0, .ref (ad 200)), (1, .int x1), (3, .int x3)]) : W p l e R s m args below meth c H locs cells slots Q (F0 m 49 ls [.int t0, .int t1]) := by
  have hx := X.1
  have hb := X.2.1
  have hml := X.2.2.1
  have hown := X.2.2.2.1
  have hts := X.2.2.2.2.1
  unfold fX12_could_J49 at hf
  refine lv_ior hx hb dX12_could_49 ?_
  refine lv_topi (fun v10 hv10 => ?_)
  replace hf := hf v10 hv10
  refine lv_istore_n (lv' := [(2, .int v10), (0, .ref (ad 200)), (1, .int x1), (3, .int x3)]) hx hb dX12_could_50 rfl hl (by decide) rfl (fun ls hl => ?_)
  refine lv_iinc (v := x3 + (1 : Int32)) (lv' := [(3, .int (x3 + (1 : Int32))), (2, .int v10), (0, .ref (ad 200)), (1, .int x1)]) hx hb dX12_could_51 hl (k := 3) rfl rfl (by decide) rfl (fun ls hl => ?_)
  refine lv_goto (tgt := 13) hx hb dX12_could_54 (by decide) ?_
  exact hg13 x1 v10 (x3 + (1 : Int32)) w _ _ _ hf hR (lv_sub hl [2, 3, 1, 0] rfl)
def fX12_could_L13 (k : Int32 → zW → Prop) : Nat → Int32 → Int32 → Int32 → zW → Prop
  | 0 => fun _ _ _ _ => False
  | n + 1 => fun x1 x2 x3 w =>
    (((9 : Int32) ≤ x3 →
      fX12_could_J57 k x1 x2 w) ∧
     (¬ (9 : Int32) ≤ x3 →
      fX12_isTerm x1 w (fun r6 w6 =>
      ((r6 = 0 →
        fX12_could_J57 k x1 x2 w6) ∧
       (¬ r6 = 0 →
        vp_in (((9 : Int32) * x1) + x3) 36 ∧ 
        ∀ v9 : Int32, v9 = (if (gI w6 234 (((9 : Int32) * x1) + x3).toNatClampNeg) ≤ 0 then (0 : Int32) else ((1 : Int32) <<< (x3 &&& 31))) →
        fX12_could_J49 k (fX12_could_L13 k n) x1 x3 v9 x2 w6)))))
set_option maxHeartbeats 4000000 in
set_option maxRecDepth 100000 in
theorem mX12_could_L13 {k : Int32 → zW → Prop} (X : zCx p s m args meth c cX12_could 4 RX12 (some .int)) (hr : zRm R 4 cells slots) (hQ : zRetI p l e R s m args below meth c cells slots Q D dA true ad0 al0 ad al cX12_could k)  : ∀ (n : Nat) (x1 : Int32) (x2 : Int32) (x3 : Int32) (w : zW) (H : Heap) (locs : List Loc) (ls : Array Slot), fX12_could_L13 k n x1 x2 x3 w → zSt D dA true ad0 al0 ad al w s H locs → lv_has ls 4 [(0, .ref (ad 200)), (1, .int x1), (2, .int x2), (3, .int x3)] → W p l e R s m args below meth c H locs cells slots Q (F0 m 13 ls []) := by
  intro n
  induction n with
  | zero => exact fun _ _ _ _ _ _ _ hf => hf.elim
  | succ n ih =>
    intro x1 x2 x3 w H locs ls hf hR hl
    have hx := X.1
    have hb := X.2.1
    have hml := X.2.2.1
    have hown := X.2.2.2.1
    have hts := X.2.2.2.2.1
    rw [fX12_could_L13] at hf
    refine lv_iload_n hx hb dX12_could_13 rfl (lv_at hl 3 rfl) ?_
    refine lv_bipush (v := (9 : Int32)) hx hb dX12_could_14 (by decide) ?_
    refine lv_icmp_ge (tgt := 57) hx hb dX12_could_16 (by decide) (fun c3 => ?_) (fun c3 => ?_)
    · replace hf := hf.1 c3
      exact mX12_could_J57 X hr hQ  hf hR (lv_sub hl [0, 1, 2] rfl)
    · replace hf := hf.2 c3
      refine lv_aload_n hx hb dX12_could_19 rfl (lv_at hl 0 rfl) ?_
      refine lv_iload_n hx hb dX12_could_20 rfl (lv_at hl 1 rfl) ?_
      refine z_callVI (fr1 := 1) (b := 200) (As := [.int x1]) (rest := []) X (hr.le (by decide)) hR zy_X12_isTerm zq_769 (zlit hR zf_200) (by rw [zs_200]; rfl) rfl (mX12_isTerm  hf) rfl hl (Nat.le_of_ble_eq_true rfl) dX12_could_21 rfl (fun r6 w6 H locs hf hR => ?_)
      refine lv_if_eq (tgt := 57) hx hb dX12_could_24 (by decide) (fun c7 => ?_) (fun c7 => ?_)
      · replace hf := hf.1 c7
        exact mX12_could_J57 X hr hQ  hf hR (lv_sub hl [0, 1, 2] rfl)
      · replace hf := hf.2 c7
        refine lv_iload_n hx hb dX12_could_27 rfl (lv_at hl 2 rfl) ?_
        refine lv_aload_n hx hb dX12_could_28 rfl (lv_at hl 0 rfl) ?_
        refine z_getS X hR (zlit hR zf_200) zs_200 (by decide) zfd_X12_128 rfl (r := 234) (by decide +kernel) dX12_could_29 ?_
        refine lv_bipush (v := (9 : Int32)) hx hb dX12_could_32 (by decide) ?_
        refine lv_iload_n hx hb dX12_could_34 rfl (lv_at hl 1 rfl) ?_
        refine lv_imul hx hb dX12_could_35 ?_
        refine lv_iload_n hx hb dX12_could_36 rfl (lv_at hl 3 rfl) ?_
        refine lv_iadd hx hb dX12_could_37 ?_
        obtain ⟨hb8, hf⟩ := hf
        refine z_iald X hR (zlit hR zf_234) zs_234 zl_234 hb8 dX12_could_38 ?_
        have kJ9 : ∀ v9 : Int32, v9 = (if (gI w6 234 (((9 : Int32) * x1) + x3).toNatClampNeg) ≤ 0 then (0 : Int32) else ((1 : Int32) <<< (x3 &&& 31))) → W p l e R s m args below meth c H locs cells slots Q (F0 m 49 ls (.int v9 :: .int x2 :: [])) := by
          intro v9 hv9
          replace hf := hf v9 hv9
          exact mX12_could_J49 X hr hQ ih hf hR (lv_sub hl [0, 1, 3] rfl)
        refine lv_if_le (tgt := 48) hx hb dX12_could_39 (by decide) (fun c9 => ?_) (fun c9 => ?_)
        · refine lv_iconst (v := (0 : Int32)) hx hb dX12_could_48 (by decide) ?_
          exact kJ9 _ (if_pos c9).symm
        · refine lv_iconst (v := (1 : Int32)) hx hb dX12_could_42 (by decide) ?_
          refine lv_iload_n hx hb dX12_could_43 rfl (lv_at hl 3 rfl) ?_
          refine lv_ishl hx hb dX12_could_44 ?_
          refine lv_goto (tgt := 49) hx hb dX12_could_45 (by decide) ?_
          exact kJ9 _ (if_neg c9).symm
def fX12_could (x1 : Int32) (w : zW) (k : Int32 → zW → Prop) : Prop :=
  ∀ w1 : zW, w1 = sI w 200 0 (0 : Int32) →
  fX12_gathers  w1 (fun w2 =>
  ∃ n9, fX12_could_L13 k n9 x1 (0 : Int32) (0 : Int32) w2)
set_option maxHeartbeats 4000000 in
set_option maxRecDepth 100000 in
theorem mX12_could {l : Launch} {D : va_G} {dA : Nat → ClassId} {ad : Nat → Nat} {al : Nat → Prop} {w : zW} {k : Int32 → zW → Prop} {x1 : Int32}   (hf : fX12_could x1 w k) : zmetI l yX12_could cX12_could 4 (some .int) 4 [.ref (ad 200), .int x1] D dA true ad al w k := by
  refine zmetI_of (by decide) (Nat.le_of_ble_eq_true rfl) ?_
  intro p e R s m below meth c Q H ls args locs cells slots X hr hQ hR hl
  have hx := X.1
  have hb := X.2.1
  have hml := X.2.2.1
  have hown := X.2.2.2.1
  have hts := X.2.2.2.2.1
  unfold fX12_could at hf
  have hl : lv_has ls 4 [(0, .ref (ad 200)), (1, .int x1)] := hl
  refine lv_aload_n hx hb dX12_could_0 rfl (lv_at hl 0 rfl) ?_
  refine lv_iconst (v := (0 : Int32)) hx hb dX12_could_1 (by decide) ?_
  refine z_putI X hR (zlit hR zf_200) zs_200 (by decide) zfp_X12_1 rfl dX12_could_2 (fun H locs hR => ?_)
  obtain ⟨w1, hw1⟩ : ∃ z : zW, z = sI w 200 0 (0 : Int32) := ⟨_, rfl⟩
  rw [← hw1] at hR
  replace hf := hf w1 hw1
  refine lv_aload_n hx hb dX12_could_5 rfl (lv_at hl 0 rfl) ?_
  refine z_callVV (fr1 := 3) (b := 200) (As := []) (rest := []) X (hr.le (by decide)) hR zy_X12_gathers zq_1065 (zlit hR zf_200) (by rw [zs_200]; rfl) rfl (mX12_gathers  hf) rfl hl (Nat.le_of_ble_eq_true rfl) dX12_could_6 rfl (fun w2 H locs hf hR => ?_)
  refine lv_iconst (v := (0 : Int32)) hx hb dX12_could_9 (by decide) ?_
  refine lv_istore_n (lv' := [(2, .int (0 : Int32)), (0, .ref (ad 200)), (1, .int x1)]) hx hb dX12_could_10 rfl hl (by decide) rfl (fun ls hl => ?_)
  refine lv_iconst (v := (0 : Int32)) hx hb dX12_could_11 (by decide) ?_
  refine lv_istore_n (lv' := [(3, .int (0 : Int32)), (2, .int (0 : Int32)), (0, .ref (ad 200)), (1, .int x1)]) hx hb dX12_could_12 rfl hl (by decide) rfl (fun ls hl => ?_)
  obtain ⟨n9, hf⟩ := hf
  exact mX12_could_L13 X hr hQ  n9 x1 (0 : Int32) (0 : Int32) w2 _ _ _ hf hR (lv_sub hl [2, 3, 1, 0] rfl)
/-! X12_sureOf -/
def fX12_sureOf_L4 (k : Int32 → zW → Prop) : Nat → Int32 → Int32 → Int32 → zW → Prop
  | 0 => fun _ _ _ _ => False
  | n + 1 => fun x1 x2 x3 w =>
    (((9 : Int32) ≤ x3 →
      k x2 w) ∧
     (¬ (9 : Int32) ≤ x3 →
      (((gI w 200 31) ≤ 0 →
        k x2 w) ∧
       (¬ (gI w 200 31) ≤ 0 →
        vp_in (((9 : Int32) * x1) + x3) 36 ∧ 
        ∀ v4 : Int32, v4 = (if ¬ (gI w 234 (((9 : Int32) * x1) + x3).toNatClampNeg) = (gI w 200 31) then x2 else x3) →
        fX12_sureOf_L4 k n x1 v4 (x3 + (1 : Int32)) w))))
set_option maxHeartbeats 4000000 in
set_option maxRecDepth 100000 in
theorem mX12_sureOf_L4 {k : Int32 → zW → Prop} (X : zCx p s m args meth c cX12_sureOf 4 RX12 (some .int)) (hr : zRm R 0 cells slots) (hQ : zRetI p l e R s m args below meth c cells slots Q D dA true ad0 al0 ad al cX12_sureOf k)  : ∀ (n : Nat) (x1 : Int32) (x2 : Int32) (x3 : Int32) (w : zW) (H : Heap) (locs : List Loc) (ls : Array Slot), fX12_sureOf_L4 k n x1 x2 x3 w → zSt D dA true ad0 al0 ad al w s H locs → lv_has ls 4 [(0, .ref (ad 200)), (1, .int x1), (2, .int x2), (3, .int x3)] → W p l e R s m args below meth c H locs cells slots Q (F0 m 4 ls []) := by
  intro n
  induction n with
  | zero => exact fun _ _ _ _ _ _ _ hf => hf.elim
  | succ n ih =>
    intro x1 x2 x3 w H locs ls hf hR hl
    have hx := X.1
    have hb := X.2.1
    have hml := X.2.2.1
    have hown := X.2.2.2.1
    have hts := X.2.2.2.2.1
    rw [fX12_sureOf_L4] at hf
    refine lv_iload_n hx hb dX12_sureOf_4 rfl (lv_at hl 3 rfl) ?_
    refine lv_bipush (v := (9 : Int32)) hx hb dX12_sureOf_5 (by decide) ?_
    refine lv_icmp_ge (tgt := 47) hx hb dX12_sureOf_7 (by decide) (fun c1 => ?_) (fun c1 => ?_)
    · replace hf := hf.1 c1
      refine lv_iload_n hx hb dX12_sureOf_47 rfl (lv_at hl 2 rfl) ?_
      exact hQ _ _ _ _ _ _ hf hR dX12_sureOf_48
    · replace hf := hf.2 c1
      refine lv_aload_n hx hb dX12_sureOf_10 rfl (lv_at hl 0 rfl) ?_
      refine z_getI X hR (zlit hR zf_200) zs_200 (by decide) zfd_X12_346 rfl dX12_sureOf_11 ?_
      refine lv_if_le (tgt := 47) hx hb dX12_sureOf_14 (by decide) (fun c2 => ?_) (fun c2 => ?_)
      · replace hf := hf.1 c2
        refine lv_iload_n hx hb dX12_sureOf_47 rfl (lv_at hl 2 rfl) ?_
        exact hQ _ _ _ _ _ _ hf hR dX12_sureOf_48
      · replace hf := hf.2 c2
        refine lv_aload_n hx hb dX12_sureOf_17 rfl (lv_at hl 0 rfl) ?_
        refine z_getS X hR (zlit hR zf_200) zs_200 (by decide) zfd_X12_128 rfl (r := 234) (by decide +kernel) dX12_sureOf_18 ?_
        refine lv_bipush (v := (9 : Int32)) hx hb dX12_sureOf_21 (by decide) ?_
        refine lv_iload_n hx hb dX12_sureOf_23 rfl (lv_at hl 1 rfl) ?_
        refine lv_imul hx hb dX12_sureOf_24 ?_
        refine lv_iload_n hx hb dX12_sureOf_25 rfl (lv_at hl 3 rfl) ?_
        refine lv_iadd hx hb dX12_sureOf_26 ?_
        obtain ⟨hb3, hf⟩ := hf
        refine z_iald X hR (zlit hR zf_234) zs_234 zl_234 hb3 dX12_sureOf_27 ?_
        refine lv_aload_n hx hb dX12_sureOf_28 rfl (lv_at hl 0 rfl) ?_
        refine z_getI X hR (zlit hR zf_200) zs_200 (by decide) zfd_X12_346 rfl dX12_sureOf_29 ?_
        have kJ4 : ∀ v4 : Int32, v4 = (if ¬ (gI w 234 (((9 : Int32) * x1) + x3).toNatClampNeg) = (gI w 200 31) then x2 else x3) → W p l e R s m args below meth c H locs cells slots Q (F0 m 40 ls (.int v4 :: [])) := by
          intro v4 hv4
          replace hf := hf v4 hv4
          refine lv_istore_n (lv' := [(2, .int v4), (0, .ref (ad 200)), (1, .int x1), (3, .int x3)]) hx hb dX12_sureOf_40 rfl hl (by decide) rfl (fun ls hl => ?_)
          refine lv_iinc (v := x3 + (1 : Int32)) (lv' := [(3, .int (x3 + (1 : Int32))), (2, .int v4), (0, .ref (ad 200)), (1, .int x1)]) hx hb dX12_sureOf_41 hl (k := 3) rfl rfl (by decide) rfl (fun ls hl => ?_)
          refine lv_goto (tgt := 4) hx hb dX12_sureOf_44 (by decide) ?_
          exact ih x1 v4 (x3 + (1 : Int32)) w _ _ _ hf hR (lv_sub hl [2, 3, 1, 0] rfl)
        refine lv_icmp_ne (tgt := 39) hx hb dX12_sureOf_32 (by decide) (fun c4 => ?_) (fun c4 => ?_)
        · refine lv_iload_n hx hb dX12_sureOf_39 rfl (lv_at hl 2 rfl) ?_
          exact kJ4 _ (if_pos c4).symm
        · refine lv_iload_n hx hb dX12_sureOf_35 rfl (lv_at hl 3 rfl) ?_
          refine lv_goto (tgt := 40) hx hb dX12_sureOf_36 (by decide) ?_
          exact kJ4 _ (if_neg (fun h9 => h9 c4)).symm
def fX12_sureOf (x1 : Int32) (w : zW) (k : Int32 → zW → Prop) : Prop :=
  ∃ n9, fX12_sureOf_L4 k n9 x1 (-1 : Int32) (0 : Int32) w
set_option maxHeartbeats 4000000 in
set_option maxRecDepth 100000 in
theorem mX12_sureOf {l : Launch} {D : va_G} {dA : Nat → ClassId} {ad : Nat → Nat} {al : Nat → Prop} {w : zW} {k : Int32 → zW → Prop} {x1 : Int32}   (hf : fX12_sureOf x1 w k) : zmetI l yX12_sureOf cX12_sureOf 4 (some .int) 0 [.ref (ad 200), .int x1] D dA true ad al w k := by
  refine zmetI_of (by decide) (Nat.le_of_ble_eq_true rfl) ?_
  intro p e R s m below meth c Q H ls args locs cells slots X hr hQ hR hl
  have hx := X.1
  have hb := X.2.1
  have hml := X.2.2.1
  have hown := X.2.2.2.1
  have hts := X.2.2.2.2.1
  unfold fX12_sureOf at hf
  have hl : lv_has ls 4 [(0, .ref (ad 200)), (1, .int x1)] := hl
  refine lv_iconst (v := (-1 : Int32)) hx hb dX12_sureOf_0 (by decide) ?_
  refine lv_istore_n (lv' := [(2, .int (-1 : Int32)), (0, .ref (ad 200)), (1, .int x1)]) hx hb dX12_sureOf_1 rfl hl (by decide) rfl (fun ls hl => ?_)
  refine lv_iconst (v := (0 : Int32)) hx hb dX12_sureOf_2 (by decide) ?_
  refine lv_istore_n (lv' := [(3, .int (0 : Int32)), (2, .int (-1 : Int32)), (0, .ref (ad 200)), (1, .int x1)]) hx hb dX12_sureOf_3 rfl hl (by decide) rfl (fun ls hl => ?_)
  obtain ⟨n9, hf⟩ := hf
  exact mX12_sureOf_L4 X hr hQ  n9 x1 (-1 : Int32) (0 : Int32) w _ _ _ hf hR (lv_sub hl [2, 3, 1, 0] rfl)
/-! X12_sure -/
def fX12_sure (x1 : Int32) (w : zW) (k : Int32 → zW → Prop) : Prop :=
  ∀ w1 : zW, w1 = sI w 200 0 (0 : Int32) →
  fX12_gathers  w1 (fun w2 =>
  fX12_isTerm x1 w2 (fun r3 w3 =>
  ((r3 = 0 →
    k (-1 : Int32) w3) ∧
   (¬ r3 = 0 →
    fX12_sureOf x1 w3 (fun r5 w5 =>
    k r5 w5)))))
set_option maxHeartbeats 4000000 in
set_option maxRecDepth 100000 in
theorem mX12_sure {l : Launch} {D : va_G} {dA : Nat → ClassId} {ad : Nat → Nat} {al : Nat → Prop} {w : zW} {k : Int32 → zW → Prop} {x1 : Int32}   (hf : fX12_sure x1 w k) : zmetI l yX12_sure cX12_sure 2 (some .int) 4 [.ref (ad 200), .int x1] D dA true ad al w k := by
  refine zmetI_of (by decide) (Nat.le_of_ble_eq_true rfl) ?_
  intro p e R s m below meth c Q H ls args locs cells slots X hr hQ hR hl
  have hx := X.1
  have hb := X.2.1
  have hml := X.2.2.1
  have hown := X.2.2.2.1
  have hts := X.2.2.2.2.1
  unfold fX12_sure at hf
  have hl : lv_has ls 2 [(0, .ref (ad 200)), (1, .int x1)] := hl
  refine lv_aload_n hx hb dX12_sure_0 rfl (lv_at hl 0 rfl) ?_
  refine lv_iconst (v := (0 : Int32)) hx hb dX12_sure_1 (by decide) ?_
  refine z_putI X hR (zlit hR zf_200) zs_200 (by decide) zfp_X12_1 rfl dX12_sure_2 (fun H locs hR => ?_)
  obtain ⟨w1, hw1⟩ : ∃ z : zW, z = sI w 200 0 (0 : Int32) := ⟨_, rfl⟩
  rw [← hw1] at hR
  replace hf := hf w1 hw1
  refine lv_aload_n hx hb dX12_sure_5 rfl (lv_at hl 0 rfl) ?_
  refine z_callVV (fr1 := 3) (b := 200) (As := []) (rest := []) X (hr.le (by decide)) hR zy_X12_gathers zq_1065 (zlit hR zf_200) (by rw [zs_200]; rfl) rfl (mX12_gathers  hf) rfl hl (Nat.le_of_ble_eq_true rfl) dX12_sure_6 rfl (fun w2 H locs hf hR => ?_)
  refine lv_aload_n hx hb dX12_sure_9 rfl (lv_at hl 0 rfl) ?_
  refine lv_iload_n hx hb dX12_sure_10 rfl (lv_at hl 1 rfl) ?_
  refine z_callVI (fr1 := 1) (b := 200) (As := [.int x1]) (rest := []) X (hr.le (by decide)) hR zy_X12_isTerm zq_769 (zlit hR zf_200) (by rw [zs_200]; rfl) rfl (mX12_isTerm  hf) rfl hl (Nat.le_of_ble_eq_true rfl) dX12_sure_11 rfl (fun r3 w3 H locs hf hR => ?_)
  refine lv_if_eq (tgt := 25) hx hb dX12_sure_14 (by decide) (fun c4 => ?_) (fun c4 => ?_)
  · replace hf := hf.1 c4
    refine lv_iconst (v := (-1 : Int32)) hx hb dX12_sure_25 (by decide) ?_
    exact hQ _ _ _ _ _ _ hf hR dX12_sure_26
  · replace hf := hf.2 c4
    refine lv_aload_n hx hb dX12_sure_17 rfl (lv_at hl 0 rfl) ?_
    refine lv_iload_n hx hb dX12_sure_18 rfl (lv_at hl 1 rfl) ?_
    refine z_callVI (fr1 := 0) (b := 200) (As := [.int x1]) (rest := []) X (hr.le (by decide)) hR zy_X12_sureOf zq_1178 (zlit hR zf_200) (by rw [zs_200]; rfl) rfl (mX12_sureOf  hf) rfl hl (Nat.le_of_ble_eq_true rfl) dX12_sure_19 rfl (fun r5 w5 H locs hf hR => ?_)
    refine lv_goto (tgt := 26) hx hb dX12_sure_22 (by decide) ?_
    exact hQ _ _ _ _ _ _ hf hR dX12_sure_26
/-! X12_fixed -/
def fX12_fixed_J37 (k : Int32 → zW → Prop) (g13 : Int32 → Int32 → zW → Prop) (x2 : Int32) (t0 : Int32) (t1 : Int32) (w : zW) : Prop :=
  ∀ v7 : Int32, v7 = t1 ||| t0 →
  g13 v7 (x2 + (1 : Int32)) w
set_option maxHeartbeats 4000000 in
set_option maxRecDepth 100000 in
theorem mX12_fixed_J37 {k : Int32 → zW → Prop} {g13 : Int32 → Int32 → zW → Prop} (X : zCx p s m args meth c cX12_fixed 3 RX12 (some .int)) (hr : zRm R 4 cells slots) (hQ : zRetI p l e R s m args below meth c cells slots Q D dA true ad0 al0 ad al cX12_fixed k) (hg13 : ∀ (x1 : Int32) (x2 : Int32) (w : zW) (H : Heap) (locs : List Loc) (ls : Array Slot), g13 x1 x2 w → zSt D dA true ad0 al0 ad al w s H locs → lv_has ls 3 [(0, .ref (ad 200)), (1, .int x1), (2, .int x2)] → W p l e R s m args below meth c H locs cells slots Q (F0 m 13 ls [])) {x2 : Int32} {t0 : Int32} {t1 : Int32} {w : zW} {H : Heap} {locs : List Loc} {ls : Array Slot} (hf : fX12_fixed_J37 k g13 x2 t0 t1 w) (hR : zSt D dA true ad0 al0 ad al w s H locs) (hl : lv_has ls 3 [(0, .ref (ad 200)), (2, .int x2)]) : W p l e R s m args below meth c H locs cells slots Q (F0 m 37 ls [.int t0, .int t1]) := by
  have hx := X.1
  have hb := X.2.1
  have hml := X.2.2.1
  have hown := X.2.2.2.1
  have hts := X.2.2.2.2.1
  unfold fX12_fixed_J37 at hf
  refine lv_ior hx hb dX12_fixed_37 ?_
  refine lv_topi (fun v7 hv7 => ?_)
  replace hf := hf v7 hv7
  refine lv_istore_n (lv' := [(1, .int v7), (0, .ref (ad 200)), (2, .int x2)]) hx hb dX12_fixed_38 rfl hl (by decide) rfl (fun ls hl => ?_)
  refine lv_iinc (v := x2 + (1 : Int32)) (lv' := [(2, .int (x2 + (1 : Int32))), (1, .int v7), (0, .ref (ad 200))]) hx hb dX12_fixed_39 hl (k := 2) rfl rfl (by decide) rfl (fun ls hl => ?_)
  refine lv_goto (tgt := 13) hx hb dX12_fixed_42 (by decide) ?_
  exact hg13 v7 (x2 + (1 : Int32)) w _ _ _ hf hR (lv_sub hl [2, 1, 0] rfl)
def fX12_fixed_L13 (k : Int32 → zW → Prop) : Nat → Int32 → Int32 → zW → Prop
  | 0 => fun _ _ _ => False
  | n + 1 => fun x1 x2 w =>
    fX12_wordsTold  w (fun r3 w3 =>
    ((r3 ≤ x2 →
      k x1 w3) ∧
     (¬ r3 ≤ x2 →
      fX12_sureOf x2 w3 (fun r5 w5 =>
      ∀ v6 : Int32, v6 = (if r5 < 0 then (0 : Int32) else ((1 : Int32) <<< (x2 &&& 31))) →
      fX12_fixed_J37 k (fX12_fixed_L13 k n) x2 v6 x1 w5))))
set_option maxHeartbeats 4000000 in
set_option maxRecDepth 100000 in
theorem mX12_fixed_L13 {k : Int32 → zW → Prop} (X : zCx p s m args meth c cX12_fixed 3 RX12 (some .int)) (hr : zRm R 4 cells slots) (hQ : zRetI p l e R s m args below meth c cells slots Q D dA true ad0 al0 ad al cX12_fixed k)  : ∀ (n : Nat) (x1 : Int32) (x2 : Int32) (w : zW) (H : Heap) (locs : List Loc) (ls : Array Slot), fX12_fixed_L13 k n x1 x2 w → zSt D dA true ad0 al0 ad al w s H locs → lv_has ls 3 [(0, .ref (ad 200)), (1, .int x1), (2, .int x2)] → W p l e R s m args below meth c H locs cells slots Q (F0 m 13 ls []) := by
  intro n
  induction n with
  | zero => exact fun _ _ _ _ _ _ hf => hf.elim
  | succ n ih =>
    intro x1 x2 w H locs ls hf hR hl
    have hx := X.1
    have hb := X.2.1
    have hml := X.2.2.1
    have hown := X.2.2.2.1
    have hts := X.2.2.2.2.1
    rw [fX12_fixed_L13] at hf
    refine lv_iload_n hx hb dX12_fixed_13 rfl (lv_at hl 2 rfl) ?_
    refine lv_aload_n hx hb dX12_fixed_14 rfl (lv_at hl 0 rfl) ?_
    refine z_callVI (fr1 := 0) (b := 200) (As := []) (rest := [.int x2]) X (hr.le (by decide)) hR zy_X12_wordsTold zq_211 (zlit hR zf_200) (by rw [zs_200]; rfl) rfl (mX12_wordsTold  hf) rfl hl (Nat.le_of_ble_eq_true rfl) dX12_fixed_15 rfl (fun r3 w3 H locs hf hR => ?_)
    refine lv_icmp_ge (tgt := 45) hx hb dX12_fixed_18 (by decide) (fun c4 => ?_) (fun c4 => ?_)
    · replace hf := hf.1 c4
      refine lv_iload_n hx hb dX12_fixed_45 rfl (lv_at hl 1 rfl) ?_
      exact hQ _ _ _ _ _ _ hf hR dX12_fixed_46
    · replace hf := hf.2 c4
      refine lv_iload_n hx hb dX12_fixed_21 rfl (lv_at hl 1 rfl) ?_
      refine lv_aload_n hx hb dX12_fixed_22 rfl (lv_at hl 0 rfl) ?_
      refine lv_iload_n hx hb dX12_fixed_23 rfl (lv_at hl 2 rfl) ?_
      refine z_callVI (fr1 := 0) (b := 200) (As := [.int x2]) (rest := [.int x1]) X (hr.le (by decide)) hR zy_X12_sureOf zq_1178 (zlit hR zf_200) (by rw [zs_200]; rfl) rfl (mX12_sureOf  hf) rfl hl (Nat.le_of_ble_eq_true rfl) dX12_fixed_24 rfl (fun r5 w5 H locs hf hR => ?_)
      have kJ6 : ∀ v6 : Int32, v6 = (if r5 < 0 then (0 : Int32) else ((1 : Int32) <<< (x2 &&& 31))) → W p l e R s m args below meth c H locs cells slots Q (F0 m 37 ls (.int v6 :: .int x1 :: [])) := by
        intro v6 hv6
        replace hf := hf v6 hv6
        exact mX12_fixed_J37 X hr hQ ih hf hR (lv_sub hl [0, 2] rfl)
      refine lv_if_lt (tgt := 36) hx hb dX12_fixed_27 (by decide) (fun c6 => ?_) (fun c6 => ?_)
      · refine lv_iconst (v := (0 : Int32)) hx hb dX12_fixed_36 (by decide) ?_
        exact kJ6 _ (if_pos c6).symm
      · refine lv_iconst (v := (1 : Int32)) hx hb dX12_fixed_30 (by decide) ?_
        refine lv_iload_n hx hb dX12_fixed_31 rfl (lv_at hl 2 rfl) ?_
        refine lv_ishl hx hb dX12_fixed_32 ?_
        refine lv_goto (tgt := 37) hx hb dX12_fixed_33 (by decide) ?_
        exact kJ6 _ (if_neg c6).symm
def fX12_fixed (w : zW) (k : Int32 → zW → Prop) : Prop :=
  ∀ w1 : zW, w1 = sI w 200 0 (0 : Int32) →
  fX12_gathers  w1 (fun w2 =>
  ∃ n9, fX12_fixed_L13 k n9 (0 : Int32) (0 : Int32) w2)
set_option maxHeartbeats 4000000 in
set_option maxRecDepth 100000 in
theorem mX12_fixed {l : Launch} {D : va_G} {dA : Nat → ClassId} {ad : Nat → Nat} {al : Nat → Prop} {w : zW} {k : Int32 → zW → Prop}   (hf : fX12_fixed w k) : zmetI l yX12_fixed cX12_fixed 3 (some .int) 4 [.ref (ad 200)] D dA true ad al w k := by
  refine zmetI_of (by decide) (Nat.le_of_ble_eq_true rfl) ?_
  intro p e R s m below meth c Q H ls args locs cells slots X hr hQ hR hl
  have hx := X.1
  have hb := X.2.1
  have hml := X.2.2.1
  have hown := X.2.2.2.1
  have hts := X.2.2.2.2.1
  unfold fX12_fixed at hf
  have hl : lv_has ls 3 [(0, .ref (ad 200))] := hl
  refine lv_aload_n hx hb dX12_fixed_0 rfl (lv_at hl 0 rfl) ?_
  refine lv_iconst (v := (0 : Int32)) hx hb dX12_fixed_1 (by decide) ?_
  refine z_putI X hR (zlit hR zf_200) zs_200 (by decide) zfp_X12_1 rfl dX12_fixed_2 (fun H locs hR => ?_)
  obtain ⟨w1, hw1⟩ : ∃ z : zW, z = sI w 200 0 (0 : Int32) := ⟨_, rfl⟩
  rw [← hw1] at hR
  replace hf := hf w1 hw1
  refine lv_aload_n hx hb dX12_fixed_5 rfl (lv_at hl 0 rfl) ?_
  refine z_callVV (fr1 := 3) (b := 200) (As := []) (rest := []) X (hr.le (by decide)) hR zy_X12_gathers zq_1065 (zlit hR zf_200) (by rw [zs_200]; rfl) rfl (mX12_gathers  hf) rfl hl (Nat.le_of_ble_eq_true rfl) dX12_fixed_6 rfl (fun w2 H locs hf hR => ?_)
  refine lv_iconst (v := (0 : Int32)) hx hb dX12_fixed_9 (by decide) ?_
  refine lv_istore_n (lv' := [(1, .int (0 : Int32)), (0, .ref (ad 200))]) hx hb dX12_fixed_10 rfl hl (by decide) rfl (fun ls hl => ?_)
  refine lv_iconst (v := (0 : Int32)) hx hb dX12_fixed_11 (by decide) ?_
  refine lv_istore_n (lv' := [(2, .int (0 : Int32)), (1, .int (0 : Int32)), (0, .ref (ad 200))]) hx hb dX12_fixed_12 rfl hl (by decide) rfl (fun ls hl => ?_)
  obtain ⟨n9, hf⟩ := hf
  exact mX12_fixed_L13 X hr hQ  n9 (0 : Int32) (0 : Int32) w2 _ _ _ hf hR (lv_sub hl [2, 1, 0] rfl)
/-! X12_with -/
def fX12_with (x1 : Int32) (x2 : Int32) (x3 : Int32) (w : zW) (k : Int32 → zW → Prop) : Prop :=
  ∀ w1 : zW, w1 = sI w 200 0 (0 : Int32) →
  fX12_gathers  w1 (fun w2 =>
  fX12_isTerm x1 w2 (fun r3 w3 =>
  ((r3 = 0 →
    k (-1 : Int32) w3) ∧
   (¬ r3 = 0 →
    fX12_within x2 (0 : Int32) (2 : Int32) w3 (fun r5 w5 =>
    ((r5 = 0 →
      k (-1 : Int32) w5) ∧
     (¬ r5 = 0 →
      fX12_within x3 (0 : Int32) (2 : Int32) w5 (fun r7 w7 =>
      ((r7 = 0 →
        k (-1 : Int32) w7) ∧
       (¬ r7 = 0 →
        vp_in ((((9 : Int32) * x1) + ((3 : Int32) * x2)) + x3) 36 ∧ 
        k (gI w7 234 ((((9 : Int32) * x1) + ((3 : Int32) * x2)) + x3).toNatClampNeg) w7))))))))))
set_option maxHeartbeats 4000000 in
set_option maxRecDepth 100000 in
theorem mX12_with {l : Launch} {D : va_G} {dA : Nat → ClassId} {ad : Nat → Nat} {al : Nat → Prop} {w : zW} {k : Int32 → zW → Prop} {x1 : Int32} {x2 : Int32} {x3 : Int32}   (hf : fX12_with x1 x2 x3 w k) : zmetI l yX12_with cX12_with 4 (some .int) 4 [.ref (ad 200), .int x1, .int x2, .int x3] D dA true ad al w k := by
  refine zmetI_of (by decide) (Nat.le_of_ble_eq_true rfl) ?_
  intro p e R s m below meth c Q H ls args locs cells slots X hr hQ hR hl
  have hx := X.1
  have hb := X.2.1
  have hml := X.2.2.1
  have hown := X.2.2.2.1
  have hts := X.2.2.2.2.1
  unfold fX12_with at hf
  have hl : lv_has ls 4 [(0, .ref (ad 200)), (1, .int x1), (2, .int x2), (3, .int x3)] := hl
  refine lv_aload_n hx hb dX12_with_0 rfl (lv_at hl 0 rfl) ?_
  refine lv_iconst (v := (0 : Int32)) hx hb dX12_with_1 (by decide) ?_
  refine z_putI X hR (zlit hR zf_200) zs_200 (by decide) zfp_X12_1 rfl dX12_with_2 (fun H locs hR => ?_)
  obtain ⟨w1, hw1⟩ : ∃ z : zW, z = sI w 200 0 (0 : Int32) := ⟨_, rfl⟩
  rw [← hw1] at hR
  replace hf := hf w1 hw1
  refine lv_aload_n hx hb dX12_with_5 rfl (lv_at hl 0 rfl) ?_
  refine z_callVV (fr1 := 3) (b := 200) (As := []) (rest := []) X (hr.le (by decide)) hR zy_X12_gathers zq_1065 (zlit hR zf_200) (by rw [zs_200]; rfl) rfl (mX12_gathers  hf) rfl hl (Nat.le_of_ble_eq_true rfl) dX12_with_6 rfl (fun w2 H locs hf hR => ?_)
  refine lv_aload_n hx hb dX12_with_9 rfl (lv_at hl 0 rfl) ?_
  refine lv_iload_n hx hb dX12_with_10 rfl (lv_at hl 1 rfl) ?_
  refine z_callVI (fr1 := 1) (b := 200) (As := [.int x1]) (rest := []) X (hr.le (by decide)) hR zy_X12_isTerm zq_769 (zlit hR zf_200) (by rw [zs_200]; rfl) rfl (mX12_isTerm  hf) rfl hl (Nat.le_of_ble_eq_true rfl) dX12_with_11 rfl (fun r3 w3 H locs hf hR => ?_)
  refine lv_if_eq (tgt := 53) hx hb dX12_with_14 (by decide) (fun c4 => ?_) (fun c4 => ?_)
  · replace hf := hf.1 c4
    refine lv_iconst (v := (-1 : Int32)) hx hb dX12_with_53 (by decide) ?_
    exact hQ _ _ _ _ _ _ hf hR dX12_with_54
  · replace hf := hf.2 c4
    refine lv_iload_n hx hb dX12_with_17 rfl (lv_at hl 2 rfl) ?_
    refine lv_iconst (v := (0 : Int32)) hx hb dX12_with_18 (by decide) ?_
    refine lv_iconst (v := (2 : Int32)) hx hb dX12_with_19 (by decide) ?_
    refine z_callSI (fr1 := 0) (As := [.int x2, .int (0 : Int32), .int (2 : Int32)]) (rest := []) X (hr.le (by decide)) hR zy_X12_within zq_773 (mX12_within  hf) rfl hl (Nat.le_of_ble_eq_true rfl) dX12_with_20 rfl (fun r5 w5 H locs hf hR => ?_)
    refine lv_if_eq (tgt := 53) hx hb dX12_with_23 (by decide) (fun c6 => ?_) (fun c6 => ?_)
    · replace hf := hf.1 c6
      refine lv_iconst (v := (-1 : Int32)) hx hb dX12_with_53 (by decide) ?_
      exact hQ _ _ _ _ _ _ hf hR dX12_with_54
    · replace hf := hf.2 c6
      refine lv_iload_n hx hb dX12_with_26 rfl (lv_at hl 3 rfl) ?_
      refine lv_iconst (v := (0 : Int32)) hx hb dX12_with_27 (by decide) ?_
      refine lv_iconst (v := (2 : Int32)) hx hb dX12_with_28 (by decide) ?_
      refine z_callSI (fr1 := 0) (As := [.int x3, .int (0 : Int32), .int (2 : Int32)]) (rest := []) X (hr.le (by decide)) hR zy_X12_within zq_773 (mX12_within  hf) rfl hl (Nat.le_of_ble_eq_true rfl) dX12_with_29 rfl (fun r7 w7 H locs hf hR => ?_)
      refine lv_if_eq (tgt := 53) hx hb dX12_with_32 (by decide) (fun c8 => ?_) (fun c8 => ?_)
      · replace hf := hf.1 c8
        refine lv_iconst (v := (-1 : Int32)) hx hb dX12_with_53 (by decide) ?_
        exact hQ _ _ _ _ _ _ hf hR dX12_with_54
      · replace hf := hf.2 c8
        refine lv_aload_n hx hb dX12_with_35 rfl (lv_at hl 0 rfl) ?_
        refine z_getS X hR (zlit hR zf_200) zs_200 (by decide) zfd_X12_128 rfl (r := 234) (by decide +kernel) dX12_with_36 ?_
        refine lv_bipush (v := (9 : Int32)) hx hb dX12_with_39 (by decide) ?_
        refine lv_iload_n hx hb dX12_with_41 rfl (lv_at hl 1 rfl) ?_
        refine lv_imul hx hb dX12_with_42 ?_
        refine lv_iconst (v := (3 : Int32)) hx hb dX12_with_43 (by decide) ?_
        refine lv_iload_n hx hb dX12_with_44 rfl (lv_at hl 2 rfl) ?_
        refine lv_imul hx hb dX12_with_45 ?_
        refine lv_iadd hx hb dX12_with_46 ?_
        refine lv_iload_n hx hb dX12_with_47 rfl (lv_at hl 3 rfl) ?_
        refine lv_iadd hx hb dX12_with_48 ?_
        obtain ⟨hb9, hf⟩ := hf
        refine z_iald X hR (zlit hR zf_234) zs_234 zl_234 hb9 dX12_with_49 ?_
        refine lv_goto (tgt := 54) hx hb dX12_with_50 (by decide) ?_
        exact hQ _ _ _ _ _ _ hf hR dX12_with_54
/-! X12_leastBehind -/
def fX12_leastBehind_L5 (k : Int32 → zW → Prop) : Nat → Int32 → Int32 → Int32 → zW → Prop
  | 0 => fun _ _ _ _ => False
  | n + 1 => fun x1 x2 x3 w =>
    ((x3 < 0 →
      k x2 w) ∧
     (¬ x3 < 0 →
      vp_in (((121 : Int32) * x1) + x3) 968 ∧ 
      ∀ v3 : Int32, v3 = (if (gI w 235 (((121 : Int32) * x1) + x3).toNatClampNeg) ≤ 0 then x2 else x3) →
      fX12_leastBehind_L5 k n x1 v3 (x3 + (-1 : Int32)) w))
set_option maxHeartbeats 4000000 in
set_option maxRecDepth 100000 in
theorem mX12_leastBehind_L5 {k : Int32 → zW → Prop} (X : zCx p s m args meth c cX12_leastBehind 4 RX12 (some .int)) (hr : zRm R 0 cells slots) (hQ : zRetI p l e R s m args below meth c cells slots Q D dA true ad0 al0 ad al cX12_leastBehind k)  : ∀ (n : Nat) (x1 : Int32) (x2 : Int32) (x3 : Int32) (w : zW) (H : Heap) (locs : List Loc) (ls : Array Slot), fX12_leastBehind_L5 k n x1 x2 x3 w → zSt D dA true ad0 al0 ad al w s H locs → lv_has ls 4 [(0, .ref (ad 200)), (1, .int x1), (2, .int x2), (3, .int x3)] → W p l e R s m args below meth c H locs cells slots Q (F0 m 5 ls []) := by
  intro n
  induction n with
  | zero => exact fun _ _ _ _ _ _ _ hf => hf.elim
  | succ n ih =>
    intro x1 x2 x3 w H locs ls hf hR hl
    have hx := X.1
    have hb := X.2.1
    have hml := X.2.2.1
    have hown := X.2.2.2.1
    have hts := X.2.2.2.2.1
    rw [fX12_leastBehind_L5] at hf
    refine lv_iload_n hx hb dX12_leastBehind_5 rfl (lv_at hl 3 rfl) ?_
    refine lv_if_lt (tgt := 35) hx hb dX12_leastBehind_6 (by decide) (fun c1 => ?_) (fun c1 => ?_)
    · replace hf := hf.1 c1
      refine lv_iload_n hx hb dX12_leastBehind_35 rfl (lv_at hl 2 rfl) ?_
      exact hQ _ _ _ _ _ _ hf hR dX12_leastBehind_36
    · replace hf := hf.2 c1
      refine lv_aload_n hx hb dX12_leastBehind_9 rfl (lv_at hl 0 rfl) ?_
      refine z_getS X hR (zlit hR zf_200) zs_200 (by decide) zfd_X12_131 rfl (r := 235) (by decide +kernel) dX12_leastBehind_10 ?_
      refine lv_bipush (v := (121 : Int32)) hx hb dX12_leastBehind_13 (by decide) ?_
      refine lv_iload_n hx hb dX12_leastBehind_15 rfl (lv_at hl 1 rfl) ?_
      refine lv_imul hx hb dX12_leastBehind_16 ?_
      refine lv_iload_n hx hb dX12_leastBehind_17 rfl (lv_at hl 3 rfl) ?_
      refine lv_iadd hx hb dX12_leastBehind_18 ?_
      obtain ⟨hb2, hf⟩ := hf
      refine z_iald X hR (zlit hR zf_235) zs_235 zl_235 hb2 dX12_leastBehind_19 ?_
      have kJ3 : ∀ v3 : Int32, v3 = (if (gI w 235 (((121 : Int32) * x1) + x3).toNatClampNeg) ≤ 0 then x2 else x3) → W p l e R s m args below meth c H locs cells slots Q (F0 m 28 ls (.int v3 :: [])) := by
        intro v3 hv3
        replace hf := hf v3 hv3
        refine lv_istore_n (lv' := [(2, .int v3), (0, .ref (ad 200)), (1, .int x1), (3, .int x3)]) hx hb dX12_leastBehind_28 rfl hl (by decide) rfl (fun ls hl => ?_)
        refine lv_iinc (v := x3 + (-1 : Int32)) (lv' := [(3, .int (x3 + (-1 : Int32))), (2, .int v3), (0, .ref (ad 200)), (1, .int x1)]) hx hb dX12_leastBehind_29 hl (k := 3) rfl rfl (by decide) rfl (fun ls hl => ?_)
        refine lv_goto (tgt := 5) hx hb dX12_leastBehind_32 (by decide) ?_
        exact ih x1 v3 (x3 + (-1 : Int32)) w _ _ _ hf hR (lv_sub hl [2, 3, 1, 0] rfl)
      refine lv_if_le (tgt := 27) hx hb dX12_leastBehind_20 (by decide) (fun c3 => ?_) (fun c3 => ?_)
      · refine lv_iload_n hx hb dX12_leastBehind_27 rfl (lv_at hl 2 rfl) ?_
        exact kJ3 _ (if_pos c3).symm
      · refine lv_iload_n hx hb dX12_leastBehind_23 rfl (lv_at hl 3 rfl) ?_
        refine lv_goto (tgt := 28) hx hb dX12_leastBehind_24 (by decide) ?_
        exact kJ3 _ (if_neg c3).symm
def fX12_leastBehind (x1 : Int32) (w : zW) (k : Int32 → zW → Prop) : Prop :=
  ∃ n9, fX12_leastBehind_L5 k n9 x1 (-1 : Int32) (120 : Int32) w
set_option maxHeartbeats 4000000 in
set_option maxRecDepth 100000 in
theorem mX12_leastBehind {l : Launch} {D : va_G} {dA : Nat → ClassId} {ad : Nat → Nat} {al : Nat → Prop} {w : zW} {k : Int32 → zW → Prop} {x1 : Int32}   (hf : fX12_leastBehind x1 w k) : zmetI l yX12_leastBehind cX12_leastBehind 4 (some .int) 0 [.ref (ad 200), .int x1] D dA true ad al w k := by
  refine zmetI_of (by decide) (Nat.le_of_ble_eq_true rfl) ?_
  intro p e R s m below meth c Q H ls args locs cells slots X hr hQ hR hl
  have hx := X.1
  have hb := X.2.1
  have hml := X.2.2.1
  have hown := X.2.2.2.1
  have hts := X.2.2.2.2.1
  unfold fX12_leastBehind at hf
  have hl : lv_has ls 4 [(0, .ref (ad 200)), (1, .int x1)] := hl
  refine lv_iconst (v := (-1 : Int32)) hx hb dX12_leastBehind_0 (by decide) ?_
  refine lv_istore_n (lv' := [(2, .int (-1 : Int32)), (0, .ref (ad 200)), (1, .int x1)]) hx hb dX12_leastBehind_1 rfl hl (by decide) rfl (fun ls hl => ?_)
  refine lv_bipush (v := (120 : Int32)) hx hb dX12_leastBehind_2 (by decide) ?_
  refine lv_istore_n (lv' := [(3, .int (120 : Int32)), (2, .int (-1 : Int32)), (0, .ref (ad 200)), (1, .int x1)]) hx hb dX12_leastBehind_4 rfl hl (by decide) rfl (fun ls hl => ?_)
  obtain ⟨n9, hf⟩ := hf
  exact mX12_leastBehind_L5 X hr hQ  n9 x1 (-1 : Int32) (120 : Int32) w _ _ _ hf hR (lv_sub hl [2, 3, 1, 0] rfl)
/-! X12_mostBehind -/
def fX12_mostBehind_L4 (k : Int32 → zW → Prop) : Nat → Int32 → Int32 → Int32 → zW → Prop
  | 0 => fun _ _ _ _ => False
  | n + 1 => fun x1 x2 x3 w =>
    (((120 : Int32) < x3 →
      k x2 w) ∧
     (¬ (120 : Int32) < x3 →
      vp_in (((121 : Int32) * x1) + x3) 968 ∧ 
      ∀ v3 : Int32, v3 = (if (gI w 235 (((121 : Int32) * x1) + x3).toNatClampNeg) ≤ 0 then x2 else x3) →
      fX12_mostBehind_L4 k n x1 v3 (x3 + (1 : Int32)) w))
set_option maxHeartbeats 4000000 in
set_option maxRecDepth 100000 in
theorem mX12_mostBehind_L4 {k : Int32 → zW → Prop} (X : zCx p s m args meth c cX12_mostBehind 4 RX12 (some .int)) (hr : zRm R 0 cells slots) (hQ : zRetI p l e R s m args below meth c cells slots Q D dA true ad0 al0 ad al cX12_mostBehind k)  : ∀ (n : Nat) (x1 : Int32) (x2 : Int32) (x3 : Int32) (w : zW) (H : Heap) (locs : List Loc) (ls : Array Slot), fX12_mostBehind_L4 k n x1 x2 x3 w → zSt D dA true ad0 al0 ad al w s H locs → lv_has ls 4 [(0, .ref (ad 200)), (1, .int x1), (2, .int x2), (3, .int x3)] → W p l e R s m args below meth c H locs cells slots Q (F0 m 4 ls []) := by
  intro n
  induction n with
  | zero => exact fun _ _ _ _ _ _ _ hf => hf.elim
  | succ n ih =>
    intro x1 x2 x3 w H locs ls hf hR hl
    have hx := X.1
    have hb := X.2.1
    have hml := X.2.2.1
    have hown := X.2.2.2.1
    have hts := X.2.2.2.2.1
    rw [fX12_mostBehind_L4] at hf
    refine lv_iload_n hx hb dX12_mostBehind_4 rfl (lv_at hl 3 rfl) ?_
    refine lv_bipush (v := (120 : Int32)) hx hb dX12_mostBehind_5 (by decide) ?_
    refine lv_icmp_gt (tgt := 36) hx hb dX12_mostBehind_7 (by decide) (fun c1 => ?_) (fun c1 => ?_)
    · replace hf := hf.1 c1
      refine lv_iload_n hx hb dX12_mostBehind_36 rfl (lv_at hl 2 rfl) ?_
      exact hQ _ _ _ _ _ _ hf hR dX12_mostBehind_37
    · replace hf := hf.2 c1
      refine lv_aload_n hx hb dX12_mostBehind_10 rfl (lv_at hl 0 rfl) ?_
      refine z_getS X hR (zlit hR zf_200) zs_200 (by decide) zfd_X12_131 rfl (r := 235) (by decide +kernel) dX12_mostBehind_11 ?_
      refine lv_bipush (v := (121 : Int32)) hx hb dX12_mostBehind_14 (by decide) ?_
      refine lv_iload_n hx hb dX12_mostBehind_16 rfl (lv_at hl 1 rfl) ?_
      refine lv_imul hx hb dX12_mostBehind_17 ?_
      refine lv_iload_n hx hb dX12_mostBehind_18 rfl (lv_at hl 3 rfl) ?_
      refine lv_iadd hx hb dX12_mostBehind_19 ?_
      obtain ⟨hb2, hf⟩ := hf
      refine z_iald X hR (zlit hR zf_235) zs_235 zl_235 hb2 dX12_mostBehind_20 ?_
      have kJ3 : ∀ v3 : Int32, v3 = (if (gI w 235 (((121 : Int32) * x1) + x3).toNatClampNeg) ≤ 0 then x2 else x3) → W p l e R s m args below meth c H locs cells slots Q (F0 m 29 ls (.int v3 :: [])) := by
        intro v3 hv3
        replace hf := hf v3 hv3
        refine lv_istore_n (lv' := [(2, .int v3), (0, .ref (ad 200)), (1, .int x1), (3, .int x3)]) hx hb dX12_mostBehind_29 rfl hl (by decide) rfl (fun ls hl => ?_)
        refine lv_iinc (v := x3 + (1 : Int32)) (lv' := [(3, .int (x3 + (1 : Int32))), (2, .int v3), (0, .ref (ad 200)), (1, .int x1)]) hx hb dX12_mostBehind_30 hl (k := 3) rfl rfl (by decide) rfl (fun ls hl => ?_)
        refine lv_goto (tgt := 4) hx hb dX12_mostBehind_33 (by decide) ?_
        exact ih x1 v3 (x3 + (1 : Int32)) w _ _ _ hf hR (lv_sub hl [2, 3, 1, 0] rfl)
      refine lv_if_le (tgt := 28) hx hb dX12_mostBehind_21 (by decide) (fun c3 => ?_) (fun c3 => ?_)
      · refine lv_iload_n hx hb dX12_mostBehind_28 rfl (lv_at hl 2 rfl) ?_
        exact kJ3 _ (if_pos c3).symm
      · refine lv_iload_n hx hb dX12_mostBehind_24 rfl (lv_at hl 3 rfl) ?_
        refine lv_goto (tgt := 29) hx hb dX12_mostBehind_25 (by decide) ?_
        exact kJ3 _ (if_neg c3).symm
def fX12_mostBehind (x1 : Int32) (w : zW) (k : Int32 → zW → Prop) : Prop :=
  ∃ n9, fX12_mostBehind_L4 k n9 x1 (-1 : Int32) (0 : Int32) w
set_option maxHeartbeats 4000000 in
set_option maxRecDepth 100000 in
theorem mX12_mostBehind {l : Launch} {D : va_G} {dA : Nat → ClassId} {ad : Nat → Nat} {al : Nat → Prop} {w : zW} {k : Int32 → zW → Prop} {x1 : Int32}   (hf : fX12_mostBehind x1 w k) : zmetI l yX12_mostBehind cX12_mostBehind 4 (some .int) 0 [.ref (ad 200), .int x1] D dA true ad al w k := by
  refine zmetI_of (by decide) (Nat.le_of_ble_eq_true rfl) ?_
  intro p e R s m below meth c Q H ls args locs cells slots X hr hQ hR hl
  have hx := X.1
  have hb := X.2.1
  have hml := X.2.2.1
  have hown := X.2.2.2.1
  have hts := X.2.2.2.2.1
  unfold fX12_mostBehind at hf
  have hl : lv_has ls 4 [(0, .ref (ad 200)), (1, .int x1)] := hl
  refine lv_iconst (v := (-1 : Int32)) hx hb dX12_mostBehind_0 (by decide) ?_
  refine lv_istore_n (lv' := [(2, .int (-1 : Int32)), (0, .ref (ad 200)), (1, .int x1)]) hx hb dX12_mostBehind_1 rfl hl (by decide) rfl (fun ls hl => ?_)
  refine lv_iconst (v := (0 : Int32)) hx hb dX12_mostBehind_2 (by decide) ?_
  refine lv_istore_n (lv' := [(3, .int (0 : Int32)), (2, .int (-1 : Int32)), (0, .ref (ad 200)), (1, .int x1)]) hx hb dX12_mostBehind_3 rfl hl (by decide) rfl (fun ls hl => ?_)
  obtain ⟨n9, hf⟩ := hf
  exact mX12_mostBehind_L4 X hr hQ  n9 x1 (-1 : Int32) (0 : Int32) w _ _ _ hf hR (lv_sub hl [2, 3, 1, 0] rfl)
/-! X12_least -/
def fX12_least (x1 : Int32) (w : zW) (k : Int32 → zW → Prop) : Prop :=
  ∀ w1 : zW, w1 = sI w 200 0 (0 : Int32) →
  fX12_gathers  w1 (fun w2 =>
  fX12_isRow x1 w2 (fun r3 w3 =>
  ((r3 = 0 →
    k (-1 : Int32) w3) ∧
   (¬ r3 = 0 →
    fX12_leastBehind x1 w3 (fun r5 w5 =>
    k r5 w5)))))
set_option maxHeartbeats 4000000 in
set_option maxRecDepth 100000 in
theorem mX12_least {l : Launch} {D : va_G} {dA : Nat → ClassId} {ad : Nat → Nat} {al : Nat → Prop} {w : zW} {k : Int32 → zW → Prop} {x1 : Int32}   (hf : fX12_least x1 w k) : zmetI l yX12_least cX12_least 2 (some .int) 4 [.ref (ad 200), .int x1] D dA true ad al w k := by
  refine zmetI_of (by decide) (Nat.le_of_ble_eq_true rfl) ?_
  intro p e R s m below meth c Q H ls args locs cells slots X hr hQ hR hl
  have hx := X.1
  have hb := X.2.1
  have hml := X.2.2.1
  have hown := X.2.2.2.1
  have hts := X.2.2.2.2.1
  unfold fX12_least at hf
  have hl : lv_has ls 2 [(0, .ref (ad 200)), (1, .int x1)] := hl
  refine lv_aload_n hx hb dX12_least_0 rfl (lv_at hl 0 rfl) ?_
  refine lv_iconst (v := (0 : Int32)) hx hb dX12_least_1 (by decide) ?_
  refine z_putI X hR (zlit hR zf_200) zs_200 (by decide) zfp_X12_1 rfl dX12_least_2 (fun H locs hR => ?_)
  obtain ⟨w1, hw1⟩ : ∃ z : zW, z = sI w 200 0 (0 : Int32) := ⟨_, rfl⟩
  rw [← hw1] at hR
  replace hf := hf w1 hw1
  refine lv_aload_n hx hb dX12_least_5 rfl (lv_at hl 0 rfl) ?_
  refine z_callVV (fr1 := 3) (b := 200) (As := []) (rest := []) X (hr.le (by decide)) hR zy_X12_gathers zq_1065 (zlit hR zf_200) (by rw [zs_200]; rfl) rfl (mX12_gathers  hf) rfl hl (Nat.le_of_ble_eq_true rfl) dX12_least_6 rfl (fun w2 H locs hf hR => ?_)
  refine lv_aload_n hx hb dX12_least_9 rfl (lv_at hl 0 rfl) ?_
  refine lv_iload_n hx hb dX12_least_10 rfl (lv_at hl 1 rfl) ?_
  refine z_callVI (fr1 := 1) (b := 200) (As := [.int x1]) (rest := []) X (hr.le (by decide)) hR zy_X12_isRow zq_833 (zlit hR zf_200) (by rw [zs_200]; rfl) rfl (mX12_isRow  hf) rfl hl (Nat.le_of_ble_eq_true rfl) dX12_least_11 rfl (fun r3 w3 H locs hf hR => ?_)
  refine lv_if_eq (tgt := 25) hx hb dX12_least_14 (by decide) (fun c4 => ?_) (fun c4 => ?_)
  · replace hf := hf.1 c4
    refine lv_iconst (v := (-1 : Int32)) hx hb dX12_least_25 (by decide) ?_
    exact hQ _ _ _ _ _ _ hf hR dX12_least_26
  · replace hf := hf.2 c4
    refine lv_aload_n hx hb dX12_least_17 rfl (lv_at hl 0 rfl) ?_
    refine lv_iload_n hx hb dX12_least_18 rfl (lv_at hl 1 rfl) ?_
    refine z_callVI (fr1 := 0) (b := 200) (As := [.int x1]) (rest := []) X (hr.le (by decide)) hR zy_X12_leastBehind zq_1220 (zlit hR zf_200) (by rw [zs_200]; rfl) rfl (mX12_leastBehind  hf) rfl hl (Nat.le_of_ble_eq_true rfl) dX12_least_19 rfl (fun r5 w5 H locs hf hR => ?_)
    refine lv_goto (tgt := 26) hx hb dX12_least_22 (by decide) ?_
    exact hQ _ _ _ _ _ _ hf hR dX12_least_26
/-! X12_most -/
def fX12_most (x1 : Int32) (w : zW) (k : Int32 → zW → Prop) : Prop :=
  ∀ w1 : zW, w1 = sI w 200 0 (0 : Int32) →
  fX12_gathers  w1 (fun w2 =>
  fX12_isRow x1 w2 (fun r3 w3 =>
  ((r3 = 0 →
    k (-1 : Int32) w3) ∧
   (¬ r3 = 0 →
    fX12_mostBehind x1 w3 (fun r5 w5 =>
    k r5 w5)))))
set_option maxHeartbeats 4000000 in
set_option maxRecDepth 100000 in
theorem mX12_most {l : Launch} {D : va_G} {dA : Nat → ClassId} {ad : Nat → Nat} {al : Nat → Prop} {w : zW} {k : Int32 → zW → Prop} {x1 : Int32}   (hf : fX12_most x1 w k) : zmetI l yX12_most cX12_most 2 (some .int) 4 [.ref (ad 200), .int x1] D dA true ad al w k := by
  refine zmetI_of (by decide) (Nat.le_of_ble_eq_true rfl) ?_
  intro p e R s m below meth c Q H ls args locs cells slots X hr hQ hR hl
  have hx := X.1
  have hb := X.2.1
  have hml := X.2.2.1
  have hown := X.2.2.2.1
  have hts := X.2.2.2.2.1
  unfold fX12_most at hf
  have hl : lv_has ls 2 [(0, .ref (ad 200)), (1, .int x1)] := hl
  refine lv_aload_n hx hb dX12_most_0 rfl (lv_at hl 0 rfl) ?_
  refine lv_iconst (v := (0 : Int32)) hx hb dX12_most_1 (by decide) ?_
  refine z_putI X hR (zlit hR zf_200) zs_200 (by decide) zfp_X12_1 rfl dX12_most_2 (fun H locs hR => ?_)
  obtain ⟨w1, hw1⟩ : ∃ z : zW, z = sI w 200 0 (0 : Int32) := ⟨_, rfl⟩
  rw [← hw1] at hR
  replace hf := hf w1 hw1
  refine lv_aload_n hx hb dX12_most_5 rfl (lv_at hl 0 rfl) ?_
  refine z_callVV (fr1 := 3) (b := 200) (As := []) (rest := []) X (hr.le (by decide)) hR zy_X12_gathers zq_1065 (zlit hR zf_200) (by rw [zs_200]; rfl) rfl (mX12_gathers  hf) rfl hl (Nat.le_of_ble_eq_true rfl) dX12_most_6 rfl (fun w2 H locs hf hR => ?_)
  refine lv_aload_n hx hb dX12_most_9 rfl (lv_at hl 0 rfl) ?_
  refine lv_iload_n hx hb dX12_most_10 rfl (lv_at hl 1 rfl) ?_
  refine z_callVI (fr1 := 1) (b := 200) (As := [.int x1]) (rest := []) X (hr.le (by decide)) hR zy_X12_isRow zq_833 (zlit hR zf_200) (by rw [zs_200]; rfl) rfl (mX12_isRow  hf) rfl hl (Nat.le_of_ble_eq_true rfl) dX12_most_11 rfl (fun r3 w3 H locs hf hR => ?_)
  refine lv_if_eq (tgt := 25) hx hb dX12_most_14 (by decide) (fun c4 => ?_) (fun c4 => ?_)
  · replace hf := hf.1 c4
    refine lv_iconst (v := (-1 : Int32)) hx hb dX12_most_25 (by decide) ?_
    exact hQ _ _ _ _ _ _ hf hR dX12_most_26
  · replace hf := hf.2 c4
    refine lv_aload_n hx hb dX12_most_17 rfl (lv_at hl 0 rfl) ?_
    refine lv_iload_n hx hb dX12_most_18 rfl (lv_at hl 1 rfl) ?_
    refine z_callVI (fr1 := 0) (b := 200) (As := [.int x1]) (rest := []) X (hr.le (by decide)) hR zy_X12_mostBehind zq_1233 (zlit hR zf_200) (by rw [zs_200]; rfl) rfl (mX12_mostBehind  hf) rfl hl (Nat.le_of_ble_eq_true rfl) dX12_most_19 rfl (fun r5 w5 H locs hf hR => ?_)
    refine lv_goto (tgt := 26) hx hb dX12_most_22 (by decide) ?_
    exact hQ _ _ _ _ _ _ hf hR dX12_most_26
/-! X12_kindsOf -/
def fX12_kindsOf_J30 (k : Int32 → zW → Prop) (g4 : Int32 → Int32 → Int32 → zW → Prop) (x1 : Int32) (x3 : Int32) (t0 : Int32) (t1 : Int32) (w : zW) : Prop :=
  ∀ v4 : Int32, v4 = t1 + t0 →
  g4 x1 v4 (x3 + (1 : Int32)) w
set_option maxHeartbeats 4000000 in
set_option maxRecDepth 100000 in
theorem mX12_kindsOf_J30 {k : Int32 → zW → Prop} {g4 : Int32 → Int32 → Int32 → zW → Prop} (X : zCx p s m args meth c cX12_kindsOf 4 RX12 (some .int)) (hr : zRm R 0 cells slots) (hQ : zRetI p l e R s m args below meth c cells slots Q D dA true ad0 al0 ad al cX12_kindsOf k) (hg4 : ∀ (x1 : Int32) (x2 : Int32) (x3 : Int32) (w : zW) (H : Heap) (locs : List Loc) (ls : Array Slot), g4 x1 x2 x3 w → zSt D dA true ad0 al0 ad al w s H locs → lv_has ls 4 [(0, .ref (ad 200)), (1, .int x1), (2, .int x2), (3, .int x3)] → W p l e R s m args below meth c H locs cells slots Q (F0 m 4 ls [])) {x1 : Int32} {x3 : Int32} {t0 : Int32} {t1 : Int32} {w : zW} {H : Heap} {locs : List Loc} {ls : Array Slot} (hf : fX12_kindsOf_J30 k g4 x1 x3 t0 t1 w) (hR : zSt D dA true ad0 al0 ad al w s H locs) (hl : lv_has ls 4 [(0, .ref (ad 200)), (1, .int x1), (3, .int x3)]) : W p l e R s m args below meth c H locs cells slots Q (F0 m 30 ls [.int t0, .int t1]) := by
  have hx := X.1
  have hb := X.2.1
  have hml := X.2.2.1
  have hown := X.2.2.2.1
  have hts := X.2.2.2.2.1
  unfold fX12_kindsOf_J30 at hf
  refine lv_iadd hx hb dX12_kindsOf_30 ?_
  refine lv_topi (fun v4 hv4 => ?_)
  replace hf := hf v4 hv4
  refine lv_istore_n (lv' := [(2, .int v4), (0, .ref (ad 200)), (1, .int x1), (3, .int x3)]) hx hb dX12_kindsOf_31 rfl hl (by decide) rfl (fun ls hl => ?_)
  refine lv_iinc (v := x3 + (1 : Int32)) (lv' := [(3, .int (x3 + (1 : Int32))), (2, .int v4), (0, .ref (ad 200)), (1, .int x1)]) hx hb dX12_kindsOf_32 hl (k := 3) rfl rfl (by decide) rfl (fun ls hl => ?_)
  refine lv_goto (tgt := 4) hx hb dX12_kindsOf_35 (by decide) ?_
  exact hg4 x1 v4 (x3 + (1 : Int32)) w _ _ _ hf hR (lv_sub hl [2, 3, 1, 0] rfl)
def fX12_kindsOf_L4 (k : Int32 → zW → Prop) : Nat → Int32 → Int32 → Int32 → zW → Prop
  | 0 => fun _ _ _ _ => False
  | n + 1 => fun x1 x2 x3 w =>
    (((120 : Int32) < x3 →
      k x2 w) ∧
     (¬ (120 : Int32) < x3 →
      vp_in (((121 : Int32) * x1) + x3) 968 ∧ 
      ∀ v3 : Int32, v3 = (if (gI w 235 (((121 : Int32) * x1) + x3).toNatClampNeg) ≤ 0 then (0 : Int32) else (1 : Int32)) →
      fX12_kindsOf_J30 k (fX12_kindsOf_L4 k n) x1 x3 v3 x2 w))
set_option maxHeartbeats 4000000 in
set_option maxRecDepth 100000 in
theorem mX12_kindsOf_L4 {k : Int32 → zW → Prop} (X : zCx p s m args meth c cX12_kindsOf 4 RX12 (some .int)) (hr : zRm R 0 cells slots) (hQ : zRetI p l e R s m args below meth c cells slots Q D dA true ad0 al0 ad al cX12_kindsOf k)  : ∀ (n : Nat) (x1 : Int32) (x2 : Int32) (x3 : Int32) (w : zW) (H : Heap) (locs : List Loc) (ls : Array Slot), fX12_kindsOf_L4 k n x1 x2 x3 w → zSt D dA true ad0 al0 ad al w s H locs → lv_has ls 4 [(0, .ref (ad 200)), (1, .int x1), (2, .int x2), (3, .int x3)] → W p l e R s m args below meth c H locs cells slots Q (F0 m 4 ls []) := by
  intro n
  induction n with
  | zero => exact fun _ _ _ _ _ _ _ hf => hf.elim
  | succ n ih =>
    intro x1 x2 x3 w H locs ls hf hR hl
    have hx := X.1
    have hb := X.2.1
    have hml := X.2.2.1
    have hown := X.2.2.2.1
    have hts := X.2.2.2.2.1
    rw [fX12_kindsOf_L4] at hf
    refine lv_iload_n hx hb dX12_kindsOf_4 rfl (lv_at hl 3 rfl) ?_
    refine lv_bipush (v := (120 : Int32)) hx hb dX12_kindsOf_5 (by decide) ?_
    refine lv_icmp_gt (tgt := 38) hx hb dX12_kindsOf_7 (by decide) (fun c1 => ?_) (fun c1 => ?_)
    · replace hf := hf.1 c1
      refine lv_iload_n hx hb dX12_kindsOf_38 rfl (lv_at hl 2 rfl) ?_
      exact hQ _ _ _ _ _ _ hf hR dX12_kindsOf_39
    · replace hf := hf.2 c1
      refine lv_iload_n hx hb dX12_kindsOf_10 rfl (lv_at hl 2 rfl) ?_
      refine lv_aload_n hx hb dX12_kindsOf_11 rfl (lv_at hl 0 rfl) ?_
      refine z_getS X hR (zlit hR zf_200) zs_200 (by decide) zfd_X12_131 rfl (r := 235) (by decide +kernel) dX12_kindsOf_12 ?_
      refine lv_bipush (v := (121 : Int32)) hx hb dX12_kindsOf_15 (by decide) ?_
      refine lv_iload_n hx hb dX12_kindsOf_17 rfl (lv_at hl 1 rfl) ?_
      refine lv_imul hx hb dX12_kindsOf_18 ?_
      refine lv_iload_n hx hb dX12_kindsOf_19 rfl (lv_at hl 3 rfl) ?_
      refine lv_iadd hx hb dX12_kindsOf_20 ?_
      obtain ⟨hb2, hf⟩ := hf
      refine z_iald X hR (zlit hR zf_235) zs_235 zl_235 hb2 dX12_kindsOf_21 ?_
      have kJ3 : ∀ v3 : Int32, v3 = (if (gI w 235 (((121 : Int32) * x1) + x3).toNatClampNeg) ≤ 0 then (0 : Int32) else (1 : Int32)) → W p l e R s m args below meth c H locs cells slots Q (F0 m 30 ls (.int v3 :: .int x2 :: [])) := by
        intro v3 hv3
        replace hf := hf v3 hv3
        exact mX12_kindsOf_J30 X hr hQ ih hf hR (lv_sub hl [0, 1, 3] rfl)
      refine lv_if_le (tgt := 29) hx hb dX12_kindsOf_22 (by decide) (fun c3 => ?_) (fun c3 => ?_)
      · refine lv_iconst (v := (0 : Int32)) hx hb dX12_kindsOf_29 (by decide) ?_
        exact kJ3 _ (if_pos c3).symm
      · refine lv_iconst (v := (1 : Int32)) hx hb dX12_kindsOf_25 (by decide) ?_
        refine lv_goto (tgt := 30) hx hb dX12_kindsOf_26 (by decide) ?_
        exact kJ3 _ (if_neg c3).symm
def fX12_kindsOf (x1 : Int32) (w : zW) (k : Int32 → zW → Prop) : Prop :=
  ∃ n9, fX12_kindsOf_L4 k n9 x1 (0 : Int32) (0 : Int32) w
set_option maxHeartbeats 4000000 in
set_option maxRecDepth 100000 in
theorem mX12_kindsOf {l : Launch} {D : va_G} {dA : Nat → ClassId} {ad : Nat → Nat} {al : Nat → Prop} {w : zW} {k : Int32 → zW → Prop} {x1 : Int32}   (hf : fX12_kindsOf x1 w k) : zmetI l yX12_kindsOf cX12_kindsOf 4 (some .int) 0 [.ref (ad 200), .int x1] D dA true ad al w k := by
  refine zmetI_of (by decide) (Nat.le_of_ble_eq_true rfl) ?_
  intro p e R s m below meth c Q H ls args locs cells slots X hr hQ hR hl
  have hx := X.1
  have hb := X.2.1
  have hml := X.2.2.1
  have hown := X.2.2.2.1
  have hts := X.2.2.2.2.1
  unfold fX12_kindsOf at hf
  have hl : lv_has ls 4 [(0, .ref (ad 200)), (1, .int x1)] := hl
  refine lv_iconst (v := (0 : Int32)) hx hb dX12_kindsOf_0 (by decide) ?_
  refine lv_istore_n (lv' := [(2, .int (0 : Int32)), (0, .ref (ad 200)), (1, .int x1)]) hx hb dX12_kindsOf_1 rfl hl (by decide) rfl (fun ls hl => ?_)
  refine lv_iconst (v := (0 : Int32)) hx hb dX12_kindsOf_2 (by decide) ?_
  refine lv_istore_n (lv' := [(3, .int (0 : Int32)), (2, .int (0 : Int32)), (0, .ref (ad 200)), (1, .int x1)]) hx hb dX12_kindsOf_3 rfl hl (by decide) rfl (fun ls hl => ?_)
  obtain ⟨n9, hf⟩ := hf
  exact mX12_kindsOf_L4 X hr hQ  n9 x1 (0 : Int32) (0 : Int32) w _ _ _ hf hR (lv_sub hl [2, 3, 1, 0] rfl)
/-! X12_kinds -/
def fX12_kinds (x1 : Int32) (w : zW) (k : Int32 → zW → Prop) : Prop :=
  ∀ w1 : zW, w1 = sI w 200 0 (0 : Int32) →
  fX12_gathers  w1 (fun w2 =>
  fX12_isRow x1 w2 (fun r3 w3 =>
  ((r3 = 0 →
    k (-1 : Int32) w3) ∧
   (¬ r3 = 0 →
    fX12_kindsOf x1 w3 (fun r5 w5 =>
    k r5 w5)))))
set_option maxHeartbeats 4000000 in
set_option maxRecDepth 100000 in
theorem mX12_kinds {l : Launch} {D : va_G} {dA : Nat → ClassId} {ad : Nat → Nat} {al : Nat → Prop} {w : zW} {k : Int32 → zW → Prop} {x1 : Int32}   (hf : fX12_kinds x1 w k) : zmetI l yX12_kinds cX12_kinds 2 (some .int) 4 [.ref (ad 200), .int x1] D dA true ad al w k := by
  refine zmetI_of (by decide) (Nat.le_of_ble_eq_true rfl) ?_
  intro p e R s m below meth c Q H ls args locs cells slots X hr hQ hR hl
  have hx := X.1
  have hb := X.2.1
  have hml := X.2.2.1
  have hown := X.2.2.2.1
  have hts := X.2.2.2.2.1
  unfold fX12_kinds at hf
  have hl : lv_has ls 2 [(0, .ref (ad 200)), (1, .int x1)] := hl
  refine lv_aload_n hx hb dX12_kinds_0 rfl (lv_at hl 0 rfl) ?_
  refine lv_iconst (v := (0 : Int32)) hx hb dX12_kinds_1 (by decide) ?_
  refine z_putI X hR (zlit hR zf_200) zs_200 (by decide) zfp_X12_1 rfl dX12_kinds_2 (fun H locs hR => ?_)
  obtain ⟨w1, hw1⟩ : ∃ z : zW, z = sI w 200 0 (0 : Int32) := ⟨_, rfl⟩
  rw [← hw1] at hR
  replace hf := hf w1 hw1
  refine lv_aload_n hx hb dX12_kinds_5 rfl (lv_at hl 0 rfl) ?_
  refine z_callVV (fr1 := 3) (b := 200) (As := []) (rest := []) X (hr.le (by decide)) hR zy_X12_gathers zq_1065 (zlit hR zf_200) (by rw [zs_200]; rfl) rfl (mX12_gathers  hf) rfl hl (Nat.le_of_ble_eq_true rfl) dX12_kinds_6 rfl (fun w2 H locs hf hR => ?_)
  refine lv_aload_n hx hb dX12_kinds_9 rfl (lv_at hl 0 rfl) ?_
  refine lv_iload_n hx hb dX12_kinds_10 rfl (lv_at hl 1 rfl) ?_
  refine z_callVI (fr1 := 1) (b := 200) (As := [.int x1]) (rest := []) X (hr.le (by decide)) hR zy_X12_isRow zq_833 (zlit hR zf_200) (by rw [zs_200]; rfl) rfl (mX12_isRow  hf) rfl hl (Nat.le_of_ble_eq_true rfl) dX12_kinds_11 rfl (fun r3 w3 H locs hf hR => ?_)
  refine lv_if_eq (tgt := 25) hx hb dX12_kinds_14 (by decide) (fun c4 => ?_) (fun c4 => ?_)
  · replace hf := hf.1 c4
    refine lv_iconst (v := (-1 : Int32)) hx hb dX12_kinds_25 (by decide) ?_
    exact hQ _ _ _ _ _ _ hf hR dX12_kinds_26
  · replace hf := hf.2 c4
    refine lv_aload_n hx hb dX12_kinds_17 rfl (lv_at hl 0 rfl) ?_
    refine lv_iload_n hx hb dX12_kinds_18 rfl (lv_at hl 1 rfl) ?_
    refine z_callVI (fr1 := 0) (b := 200) (As := [.int x1]) (rest := []) X (hr.le (by decide)) hR zy_X12_kindsOf zq_1249 (zlit hR zf_200) (by rw [zs_200]; rfl) rfl (mX12_kindsOf  hf) rfl hl (Nat.le_of_ble_eq_true rfl) dX12_kinds_19 rfl (fun r5 w5 H locs hf hR => ?_)
    refine lv_goto (tgt := 26) hx hb dX12_kinds_22 (by decide) ?_
    exact hQ _ _ _ _ _ _ hf hR dX12_kinds_26
/-! X12_open -/
def fX12_open_J38 (k : Int32 → zW → Prop) (g13 : Int32 → Int32 → zW → Prop) (x2 : Int32) (t0 : Int32) (t1 : Int32) (w : zW) : Prop :=
  ∀ v7 : Int32, v7 = t1 ||| t0 →
  g13 v7 (x2 + (1 : Int32)) w
set_option maxHeartbeats 4000000 in
set_option maxRecDepth 100000 in
theorem mX12_open_J38 {k : Int32 → zW → Prop} {g13 : Int32 → Int32 → zW → Prop} (X : zCx p s m args meth c cX12_open 3 RX12 (some .int)) (hr : zRm R 4 cells slots) (hQ : zRetI p l e R s m args below meth c cells slots Q D dA true ad0 al0 ad al cX12_open k) (hg13 : ∀ (x1 : Int32) (x2 : Int32) (w : zW) (H : Heap) (locs : List Loc) (ls : Array Slot), g13 x1 x2 w → zSt D dA true ad0 al0 ad al w s H locs → lv_has ls 3 [(0, .ref (ad 200)), (1, .int x1), (2, .int x2)] → W p l e R s m args below meth c H locs cells slots Q (F0 m 13 ls [])) {x2 : Int32} {t0 : Int32} {t1 : Int32} {w : zW} {H : Heap} {locs : List Loc} {ls : Array Slot} (hf : fX12_open_J38 k g13 x2 t0 t1 w) (hR : zSt D dA true ad0 al0 ad al w s H locs) (hl : lv_has ls 3 [(0, .ref (ad 200)), (2, .int x2)]) : W p l e R s m args below meth c H locs cells slots Q (F0 m 38 ls [.int t0, .int t1]) := by
  have hx := X.1
  have hb := X.2.1
  have hml := X.2.2.1
  have hown := X.2.2.2.1
  have hts := X.2.2.2.2.1
  unfold fX12_open_J38 at hf
  refine lv_ior hx hb dX12_open_38 ?_
  refine lv_topi (fun v7 hv7 => ?_)
  replace hf := hf v7 hv7
  refine lv_istore_n (lv' := [(1, .int v7), (0, .ref (ad 200)), (2, .int x2)]) hx hb dX12_open_39 rfl hl (by decide) rfl (fun ls hl => ?_)
  refine lv_iinc (v := x2 + (1 : Int32)) (lv' := [(2, .int (x2 + (1 : Int32))), (1, .int v7), (0, .ref (ad 200))]) hx hb dX12_open_40 hl (k := 2) rfl rfl (by decide) rfl (fun ls hl => ?_)
  refine lv_goto (tgt := 13) hx hb dX12_open_43 (by decide) ?_
  exact hg13 v7 (x2 + (1 : Int32)) w _ _ _ hf hR (lv_sub hl [2, 1, 0] rfl)
def fX12_open_L13 (k : Int32 → zW → Prop) : Nat → Int32 → Int32 → zW → Prop
  | 0 => fun _ _ _ => False
  | n + 1 => fun x1 x2 w =>
    fX12_rows  w (fun r3 w3 =>
    ((r3 ≤ x2 →
      k x1 w3) ∧
     (¬ r3 ≤ x2 →
      fX12_kindsOf x2 w3 (fun r5 w5 =>
      ∀ v6 : Int32, v6 = (if r5 ≤ (1 : Int32) then (0 : Int32) else ((1 : Int32) <<< (x2 &&& 31))) →
      fX12_open_J38 k (fX12_open_L13 k n) x2 v6 x1 w5))))
set_option maxHeartbeats 4000000 in
set_option maxRecDepth 100000 in
theorem mX12_open_L13 {k : Int32 → zW → Prop} (X : zCx p s m args meth c cX12_open 3 RX12 (some .int)) (hr : zRm R 4 cells slots) (hQ : zRetI p l e R s m args below meth c cells slots Q D dA true ad0 al0 ad al cX12_open k)  : ∀ (n : Nat) (x1 : Int32) (x2 : Int32) (w : zW) (H : Heap) (locs : List Loc) (ls : Array Slot), fX12_open_L13 k n x1 x2 w → zSt D dA true ad0 al0 ad al w s H locs → lv_has ls 3 [(0, .ref (ad 200)), (1, .int x1), (2, .int x2)] → W p l e R s m args below meth c H locs cells slots Q (F0 m 13 ls []) := by
  intro n
  induction n with
  | zero => exact fun _ _ _ _ _ _ hf => hf.elim
  | succ n ih =>
    intro x1 x2 w H locs ls hf hR hl
    have hx := X.1
    have hb := X.2.1
    have hml := X.2.2.1
    have hown := X.2.2.2.1
    have hts := X.2.2.2.2.1
    rw [fX12_open_L13] at hf
    refine lv_iload_n hx hb dX12_open_13 rfl (lv_at hl 2 rfl) ?_
    refine lv_aload_n hx hb dX12_open_14 rfl (lv_at hl 0 rfl) ?_
    refine z_callVI (fr1 := 0) (b := 200) (As := []) (rest := [.int x2]) X (hr.le (by decide)) hR zy_X12_rows zq_199 (zlit hR zf_200) (by rw [zs_200]; rfl) rfl (mX12_rows  hf) rfl hl (Nat.le_of_ble_eq_true rfl) dX12_open_15 rfl (fun r3 w3 H locs hf hR => ?_)
    refine lv_icmp_ge (tgt := 46) hx hb dX12_open_18 (by decide) (fun c4 => ?_) (fun c4 => ?_)
    · replace hf := hf.1 c4
      refine lv_iload_n hx hb dX12_open_46 rfl (lv_at hl 1 rfl) ?_
      exact hQ _ _ _ _ _ _ hf hR dX12_open_47
    · replace hf := hf.2 c4
      refine lv_iload_n hx hb dX12_open_21 rfl (lv_at hl 1 rfl) ?_
      refine lv_aload_n hx hb dX12_open_22 rfl (lv_at hl 0 rfl) ?_
      refine lv_iload_n hx hb dX12_open_23 rfl (lv_at hl 2 rfl) ?_
      refine z_callVI (fr1 := 0) (b := 200) (As := [.int x2]) (rest := [.int x1]) X (hr.le (by decide)) hR zy_X12_kindsOf zq_1249 (zlit hR zf_200) (by rw [zs_200]; rfl) rfl (mX12_kindsOf  hf) rfl hl (Nat.le_of_ble_eq_true rfl) dX12_open_24 rfl (fun r5 w5 H locs hf hR => ?_)
      refine lv_iconst (v := (1 : Int32)) hx hb dX12_open_27 (by decide) ?_
      have kJ6 : ∀ v6 : Int32, v6 = (if r5 ≤ (1 : Int32) then (0 : Int32) else ((1 : Int32) <<< (x2 &&& 31))) → W p l e R s m args below meth c H locs cells slots Q (F0 m 38 ls (.int v6 :: .int x1 :: [])) := by
        intro v6 hv6
        replace hf := hf v6 hv6
        exact mX12_open_J38 X hr hQ ih hf hR (lv_sub hl [0, 2] rfl)
      refine lv_icmp_le (tgt := 37) hx hb dX12_open_28 (by decide) (fun c6 => ?_) (fun c6 => ?_)
      · refine lv_iconst (v := (0 : Int32)) hx hb dX12_open_37 (by decide) ?_
        exact kJ6 _ (if_pos c6).symm
      · refine lv_iconst (v := (1 : Int32)) hx hb dX12_open_31 (by decide) ?_
        refine lv_iload_n hx hb dX12_open_32 rfl (lv_at hl 2 rfl) ?_
        refine lv_ishl hx hb dX12_open_33 ?_
        refine lv_goto (tgt := 38) hx hb dX12_open_34 (by decide) ?_
        exact kJ6 _ (if_neg c6).symm
def fX12_open (w : zW) (k : Int32 → zW → Prop) : Prop :=
  ∀ w1 : zW, w1 = sI w 200 0 (0 : Int32) →
  fX12_gathers  w1 (fun w2 =>
  ∃ n9, fX12_open_L13 k n9 (0 : Int32) (0 : Int32) w2)
set_option maxHeartbeats 4000000 in
set_option maxRecDepth 100000 in
theorem mX12_open {l : Launch} {D : va_G} {dA : Nat → ClassId} {ad : Nat → Nat} {al : Nat → Prop} {w : zW} {k : Int32 → zW → Prop}   (hf : fX12_open w k) : zmetI l yX12_open cX12_open 3 (some .int) 4 [.ref (ad 200)] D dA true ad al w k := by
  refine zmetI_of (by decide) (Nat.le_of_ble_eq_true rfl) ?_
  intro p e R s m below meth c Q H ls args locs cells slots X hr hQ hR hl
  have hx := X.1
  have hb := X.2.1
  have hml := X.2.2.1
  have hown := X.2.2.2.1
  have hts := X.2.2.2.2.1
  unfold fX12_open at hf
  have hl : lv_has ls 3 [(0, .ref (ad 200))] := hl
  refine lv_aload_n hx hb dX12_open_0 rfl (lv_at hl 0 rfl) ?_
  refine lv_iconst (v := (0 : Int32)) hx hb dX12_open_1 (by decide) ?_
  refine z_putI X hR (zlit hR zf_200) zs_200 (by decide) zfp_X12_1 rfl dX12_open_2 (fun H locs hR => ?_)
  obtain ⟨w1, hw1⟩ : ∃ z : zW, z = sI w 200 0 (0 : Int32) := ⟨_, rfl⟩
  rw [← hw1] at hR
  replace hf := hf w1 hw1
  refine lv_aload_n hx hb dX12_open_5 rfl (lv_at hl 0 rfl) ?_
  refine z_callVV (fr1 := 3) (b := 200) (As := []) (rest := []) X (hr.le (by decide)) hR zy_X12_gathers zq_1065 (zlit hR zf_200) (by rw [zs_200]; rfl) rfl (mX12_gathers  hf) rfl hl (Nat.le_of_ble_eq_true rfl) dX12_open_6 rfl (fun w2 H locs hf hR => ?_)
  refine lv_iconst (v := (0 : Int32)) hx hb dX12_open_9 (by decide) ?_
  refine lv_istore_n (lv' := [(1, .int (0 : Int32)), (0, .ref (ad 200))]) hx hb dX12_open_10 rfl hl (by decide) rfl (fun ls hl => ?_)
  refine lv_iconst (v := (0 : Int32)) hx hb dX12_open_11 (by decide) ?_
  refine lv_istore_n (lv' := [(2, .int (0 : Int32)), (1, .int (0 : Int32)), (0, .ref (ad 200))]) hx hb dX12_open_12 rfl hl (by decide) rfl (fun ls hl => ?_)
  obtain ⟨n9, hf⟩ := hf
  exact mX12_open_L13 X hr hQ  n9 (0 : Int32) (0 : Int32) w2 _ _ _ hf hR (lv_sub hl [2, 1, 0] rfl)
/-! X12_has -/
def fX12_has (x1 : Int32) (x2 : Int32) (w : zW) (k : Int32 → zW → Prop) : Prop :=
  ∀ w1 : zW, w1 = sI w 200 0 (0 : Int32) →
  fX12_gathers  w1 (fun w2 =>
  fX12_isRow x1 w2 (fun r3 w3 =>
  ((r3 = 0 →
    k (-1 : Int32) w3) ∧
   (¬ r3 = 0 →
    fX12_within x2 (0 : Int32) (99 : Int32) w3 (fun r5 w5 =>
    ((r5 = 0 →
      k (-1 : Int32) w5) ∧
     (¬ r5 = 0 →
      vp_in (((121 : Int32) * x1) + x2) 968 ∧ 
      k (gI w5 235 (((121 : Int32) * x1) + x2).toNatClampNeg) w5)))))))
set_option maxHeartbeats 4000000 in
set_option maxRecDepth 100000 in
theorem mX12_has {l : Launch} {D : va_G} {dA : Nat → ClassId} {ad : Nat → Nat} {al : Nat → Prop} {w : zW} {k : Int32 → zW → Prop} {x1 : Int32} {x2 : Int32}   (hf : fX12_has x1 x2 w k) : zmetI l yX12_has cX12_has 3 (some .int) 4 [.ref (ad 200), .int x1, .int x2] D dA true ad al w k := by
  refine zmetI_of (by decide) (Nat.le_of_ble_eq_true rfl) ?_
  intro p e R s m below meth c Q H ls args locs cells slots X hr hQ hR hl
  have hx := X.1
  have hb := X.2.1
  have hml := X.2.2.1
  have hown := X.2.2.2.1
  have hts := X.2.2.2.2.1
  unfold fX12_has at hf
  have hl : lv_has ls 3 [(0, .ref (ad 200)), (1, .int x1), (2, .int x2)] := hl
  refine lv_aload_n hx hb dX12_has_0 rfl (lv_at hl 0 rfl) ?_
  refine lv_iconst (v := (0 : Int32)) hx hb dX12_has_1 (by decide) ?_
  refine z_putI X hR (zlit hR zf_200) zs_200 (by decide) zfp_X12_1 rfl dX12_has_2 (fun H locs hR => ?_)
  obtain ⟨w1, hw1⟩ : ∃ z : zW, z = sI w 200 0 (0 : Int32) := ⟨_, rfl⟩
  rw [← hw1] at hR
  replace hf := hf w1 hw1
  refine lv_aload_n hx hb dX12_has_5 rfl (lv_at hl 0 rfl) ?_
  refine z_callVV (fr1 := 3) (b := 200) (As := []) (rest := []) X (hr.le (by decide)) hR zy_X12_gathers zq_1065 (zlit hR zf_200) (by rw [zs_200]; rfl) rfl (mX12_gathers  hf) rfl hl (Nat.le_of_ble_eq_true rfl) dX12_has_6 rfl (fun w2 H locs hf hR => ?_)
  refine lv_aload_n hx hb dX12_has_9 rfl (lv_at hl 0 rfl) ?_
  refine lv_iload_n hx hb dX12_has_10 rfl (lv_at hl 1 rfl) ?_
  refine z_callVI (fr1 := 1) (b := 200) (As := [.int x1]) (rest := []) X (hr.le (by decide)) hR zy_X12_isRow zq_833 (zlit hR zf_200) (by rw [zs_200]; rfl) rfl (mX12_isRow  hf) rfl hl (Nat.le_of_ble_eq_true rfl) dX12_has_11 rfl (fun r3 w3 H locs hf hR => ?_)
  refine lv_if_eq (tgt := 41) hx hb dX12_has_14 (by decide) (fun c4 => ?_) (fun c4 => ?_)
  · replace hf := hf.1 c4
    refine lv_iconst (v := (-1 : Int32)) hx hb dX12_has_41 (by decide) ?_
    exact hQ _ _ _ _ _ _ hf hR dX12_has_42
  · replace hf := hf.2 c4
    refine lv_iload_n hx hb dX12_has_17 rfl (lv_at hl 2 rfl) ?_
    refine lv_iconst (v := (0 : Int32)) hx hb dX12_has_18 (by decide) ?_
    refine lv_bipush (v := (99 : Int32)) hx hb dX12_has_19 (by decide) ?_
    refine z_callSI (fr1 := 0) (As := [.int x2, .int (0 : Int32), .int (99 : Int32)]) (rest := []) X (hr.le (by decide)) hR zy_X12_within zq_773 (mX12_within  hf) rfl hl (Nat.le_of_ble_eq_true rfl) dX12_has_21 rfl (fun r5 w5 H locs hf hR => ?_)
    refine lv_if_eq (tgt := 41) hx hb dX12_has_24 (by decide) (fun c6 => ?_) (fun c6 => ?_)
    · replace hf := hf.1 c6
      refine lv_iconst (v := (-1 : Int32)) hx hb dX12_has_41 (by decide) ?_
      exact hQ _ _ _ _ _ _ hf hR dX12_has_42
    · replace hf := hf.2 c6
      refine lv_aload_n hx hb dX12_has_27 rfl (lv_at hl 0 rfl) ?_
      refine z_getS X hR (zlit hR zf_200) zs_200 (by decide) zfd_X12_131 rfl (r := 235) (by decide +kernel) dX12_has_28 ?_
      refine lv_bipush (v := (121 : Int32)) hx hb dX12_has_31 (by decide) ?_
      refine lv_iload_n hx hb dX12_has_33 rfl (lv_at hl 1 rfl) ?_
      refine lv_imul hx hb dX12_has_34 ?_
      refine lv_iload_n hx hb dX12_has_35 rfl (lv_at hl 2 rfl) ?_
      refine lv_iadd hx hb dX12_has_36 ?_
      obtain ⟨hb7, hf⟩ := hf
      refine z_iald X hR (zlit hR zf_235) zs_235 zl_235 hb7 dX12_has_37 ?_
      refine lv_goto (tgt := 42) hx hb dX12_has_38 (by decide) ?_
      exact hQ _ _ _ _ _ _ hf hR dX12_has_42
/-! X12_ask -/
def fX12_ask_J115 (k : Int32 → zW → Prop) (g18 : Int32 → Int32 → Int32 → zW → Prop) (x2 : Int32) (x3 : Int32) (x4 : Int32) (x5 : Int32) (t0 : Int32) (w : zW) : Prop :=
  ∀ v10 : Int32, v10 = (if x5 = 0 then x2 else x4) →
  g18 t0 v10 (x3 + (1 : Int32)) w
set_option maxHeartbeats 4000000 in
set_option maxRecDepth 100000 in
theorem mX12_ask_J115 {k : Int32 → zW → Prop} {g18 : Int32 → Int32 → Int32 → zW → Prop} (X : zCx p s m args meth c cX12_ask 6 RX12 (some .int)) (hr : zRm R 4 cells slots) (hQ : zRetI p l e R s m args below meth c cells slots Q D dA true ad0 al0 ad al cX12_ask k) (hg18 : ∀ (x1 : Int32) (x2 : Int32) (x3 : Int32) (w : zW) (H : Heap) (locs : List Loc) (ls : Array Slot), g18 x1 x2 x3 w → zSt D dA true ad0 al0 ad al w s H locs → lv_has ls 6 [(0, .ref (ad 200)), (1, .int x1), (2, .int x2), (3, .int x3)] → W p l e R s m args below meth c H locs cells slots Q (F0 m 18 ls [])) {x2 : Int32} {x3 : Int32} {x4 : Int32} {x5 : Int32} {t0 : Int32} {w : zW} {H : Heap} {locs : List Loc} {ls : Array Slot} (hf : fX12_ask_J115 k g18 x2 x3 x4 x5 t0 w) (hR : zSt D dA true ad0 al0 ad al w s H locs) (hl : lv_has ls 6 [(0, .ref (ad 200)), (2, .int x2), (3, .int x3), (4, .int x4), (5, .int x5)]) : W p l e R s m args below meth c H locs cells slots Q (F0 m 115 ls [.int t0]) := by
  have hx := X.1
  have hb := X.2.1
  have hml := X.2.2.1
  have hown := X.2.2.2.1
  have hts := X.2.2.2.2.1
  unfold fX12_ask_J115 at hf
  refine lv_istore_n (lv' := [(1, .int t0), (0, .ref (ad 200)), (2, .int x2), (3, .int x3), (4, .int x4), (5, .int x5)]) hx hb dX12_ask_115 rfl hl (by decide) rfl (fun ls hl => ?_)
  refine lv_iload hx hb dX12_ask_116 (lv_at hl 5 rfl) ?_
  have kJ10 : ∀ v10 : Int32, v10 = (if x5 = 0 then x2 else x4) → W p l e R s m args below meth c H locs cells slots Q (F0 m 127 ls (.int v10 :: [])) := by
    intro v10 hv10
    replace hf := hf v10 hv10
    refine lv_istore_n (lv' := [(2, .int v10), (1, .int t0), (0, .ref (ad 200)), (3, .int x3), (4, .int x4), (5, .int x5)]) hx hb dX12_ask_127 rfl hl (by decide) rfl (fun ls hl => ?_)
    refine lv_iinc (v := x3 + (1 : Int32)) (lv' := [(3, .int (x3 + (1 : Int32))), (2, .int v10), (1, .int t0), (0, .ref (ad 200)), (4, .int x4), (5, .int x5)]) hx hb dX12_ask_128 hl (k := 3) rfl rfl (by decide) rfl (fun ls hl => ?_)
    refine lv_goto (tgt := 18) hx hb dX12_ask_131 (by decide) ?_
    exact hg18 t0 v10 (x3 + (1 : Int32)) w _ _ _ hf hR (lv_sub hl [3, 2, 1, 0] rfl)
  refine lv_if_eq (tgt := 126) hx hb dX12_ask_118 (by decide) (fun c10 => ?_) (fun c10 => ?_)
  · refine lv_iload_n hx hb dX12_ask_126 rfl (lv_at hl 2 rfl) ?_
    exact kJ10 _ (if_pos c10).symm
  · refine lv_iload hx hb dX12_ask_121 (lv_at hl 4 rfl) ?_
    refine lv_goto (tgt := 127) hx hb dX12_ask_123 (by decide) ?_
    exact kJ10 _ (if_neg c10).symm
def fX12_ask_J103 (k : Int32 → zW → Prop) (g18 : Int32 → Int32 → Int32 → zW → Prop) (x1 : Int32) (x2 : Int32) (x3 : Int32) (x4 : Int32) (t0 : Int32) (w : zW) : Prop :=
  ∀ v9 : Int32, v9 = (if t0 = 0 then x1 else x3) →
  fX12_ask_J115 k g18 x2 x3 x4 t0 v9 w
set_option maxHeartbeats 4000000 in
set_option maxRecDepth 100000 in
theorem mX12_ask_J103 {k : Int32 → zW → Prop} {g18 : Int32 → Int32 → Int32 → zW → Prop} (X : zCx p s m args meth c cX12_ask 6 RX12 (some .int)) (hr : zRm R 4 cells slots) (hQ : zRetI p l e R s m args below meth c cells slots Q D dA true ad0 al0 ad al cX12_ask k) (hg18 : ∀ (x1 : Int32) (x2 : Int32) (x3 : Int32) (w : zW) (H : Heap) (locs : List Loc) (ls : Array Slot), g18 x1 x2 x3 w → zSt D dA true ad0 al0 ad al w s H locs → lv_has ls 6 [(0, .ref (ad 200)), (1, .int x1), (2, .int x2), (3, .int x3)] → W p l e R s m args below meth c H locs cells slots Q (F0 m 18 ls [])) {x1 : Int32} {x2 : Int32} {x3 : Int32} {x4 : Int32} {t0 : Int32} {w : zW} {H : Heap} {locs : List Loc} {ls : Array Slot} (hf : fX12_ask_J103 k g18 x1 x2 x3 x4 t0 w) (hR : zSt D dA true ad0 al0 ad al w s H locs) (hl : lv_has ls 6 [(0, .ref (ad 200)), (1, .int x1), (2, .int x2), (3, .int x3), (4, .int x4)]) : W p l e R s m args below meth c H locs cells slots Q (F0 m 103 ls [.int t0]) := by
  have hx := X.1
  have hb := X.2.1
  have hml := X.2.2.1
  have hown := X.2.2.2.1
  have hts := X.2.2.2.2.1
  unfold fX12_ask_J103 at hf
  refine lv_istore (lv' := [(5, .int t0), (0, .ref (ad 200)), (1, .int x1), (2, .int x2), (3, .int x3), (4, .int x4)]) hx hb dX12_ask_103 hl (by decide) rfl (fun ls hl => ?_)
  refine lv_iload hx hb dX12_ask_105 (lv_at hl 0 rfl) ?_
  have kJ9 : ∀ v9 : Int32, v9 = (if t0 = 0 then x1 else x3) → W p l e R s m args below meth c H locs cells slots Q (F0 m 115 ls (.int v9 :: [])) := by
    intro v9 hv9
    replace hf := hf v9 hv9
    exact mX12_ask_J115 X hr hQ hg18 hf hR (lv_sub hl [1, 3, 4, 5, 0] rfl)
  refine lv_if_eq (tgt := 114) hx hb dX12_ask_107 (by decide) (fun c9 => ?_) (fun c9 => ?_)
  · refine lv_iload_n hx hb dX12_ask_114 rfl (lv_at hl 2 rfl) ?_
    exact kJ9 _ (if_pos c9).symm
  · refine lv_iload_n hx hb dX12_ask_110 rfl (lv_at hl 4 rfl) ?_
    refine lv_goto (tgt := 115) hx hb dX12_ask_111 (by decide) ?_
    exact kJ9 _ (if_neg c9).symm
def fX12_ask_L32 (k : Int32 → zW → Prop) (g18 : Int32 → Int32 → Int32 → zW → Prop) : Nat → Int32 → Int32 → Int32 → Int32 → Int32 → zW → Prop
  | 0 => fun _ _ _ _ _ _ => False
  | n + 1 => fun x1 x2 x3 x4 x5 w =>
    (((120 : Int32) < x5 →
      vp_in ((4 : Int32) + x3) 252 ∧ 
      ∀ v8 : Int32, v8 = (if 0 ≤ (gI w 220 ((4 : Int32) + x3).toNatClampNeg) then (0 : Int32) else (if x2 ≤ x4 then (0 : Int32) else (1 : Int32))) →
      fX12_ask_J103 k g18 x1 x2 x3 x4 v8 w) ∧
     (¬ (120 : Int32) < x5 →
      vp_in (((121 : Int32) * x3) + x5) 968 ∧ 
      (((gI w 235 (((121 : Int32) * x3) + x5).toNatClampNeg) ≤ x4 →
        fX12_ask_L32 k g18 n x1 x2 x3 x4 (x5 + (1 : Int32)) w) ∧
       (¬ (gI w 235 (((121 : Int32) * x3) + x5).toNatClampNeg) ≤ x4 →
        ∀ v14 : Int32, v14 = gI w 235 (((121 : Int32) * x3) + x5).toNatClampNeg →
        fX12_ask_L32 k g18 n x1 x2 x3 v14 (x5 + (1 : Int32)) w))))
set_option maxHeartbeats 4000000 in
set_option maxRecDepth 100000 in
theorem mX12_ask_L32 {k : Int32 → zW → Prop} {g18 : Int32 → Int32 → Int32 → zW → Prop} (X : zCx p s m args meth c cX12_ask 6 RX12 (some .int)) (hr : zRm R 4 cells slots) (hQ : zRetI p l e R s m args below meth c cells slots Q D dA true ad0 al0 ad al cX12_ask k) (hg18 : ∀ (x1 : Int32) (x2 : Int32) (x3 : Int32) (w : zW) (H : Heap) (locs : List Loc) (ls : Array Slot), g18 x1 x2 x3 w → zSt D dA true ad0 al0 ad al w s H locs → lv_has ls 6 [(0, .ref (ad 200)), (1, .int x1), (2, .int x2), (3, .int x3)] → W p l e R s m args below meth c H locs cells slots Q (F0 m 18 ls [])) : ∀ (n : Nat) (x1 : Int32) (x2 : Int32) (x3 : Int32) (x4 : Int32) (x5 : Int32) (w : zW) (H : Heap) (locs : List Loc) (ls : Array Slot), fX12_ask_L32 k g18 n x1 x2 x3 x4 x5 w → zSt D dA true ad0 al0 ad al w s H locs → lv_has ls 6 [(0, .ref (ad 200)), (1, .int x1), (2, .int x2), (3, .int x3), (4, .int x4), (5, .int x5)] → W p l e R s m args below meth c H locs cells slots Q (F0 m 32 ls []) := by
  intro n
  induction n with
  | zero => exact fun _ _ _ _ _ _ _ _ _ hf => hf.elim
  | succ n ih =>
    intro x1 x2 x3 x4 x5 w H locs ls hf hR hl
    have hx := X.1
    have hb := X.2.1
    have hml := X.2.2.1
    have hown := X.2.2.2.1
    have hts := X.2.2.2.2.1
    rw [fX12_ask_L32] at hf
    refine lv_iload hx hb dX12_ask_32 (lv_at hl 5 rfl) ?_
    refine lv_bipush (v := (120 : Int32)) hx hb dX12_ask_34 (by decide) ?_
    refine lv_icmp_gt (tgt := 81) hx hb dX12_ask_36 (by decide) (fun c6 => ?_) (fun c6 => ?_)
    · replace hf := hf.1 c6
      refine lv_aload_n hx hb dX12_ask_81 rfl (lv_at hl 0 rfl) ?_
      refine z_getS X hR (zlit hR zf_200) zs_200 (by decide) zfd_X12_103 rfl (r := 220) (by decide +kernel) dX12_ask_82 ?_
      refine lv_iconst (v := (4 : Int32)) hx hb dX12_ask_85 (by decide) ?_
      refine lv_iload_n hx hb dX12_ask_86 rfl (lv_at hl 3 rfl) ?_
      refine lv_iadd hx hb dX12_ask_87 ?_
      obtain ⟨hb7, hf⟩ := hf
      refine z_iald X hR (zlit hR zf_220) zs_220 zl_220 hb7 dX12_ask_88 ?_
      have kJ8 : ∀ v8 : Int32, v8 = (if 0 ≤ (gI w 220 ((4 : Int32) + x3).toNatClampNeg) then (0 : Int32) else (if x2 ≤ x4 then (0 : Int32) else (1 : Int32))) → W p l e R s m args below meth c H locs cells slots Q (F0 m 103 ls (.int v8 :: [])) := by
        intro v8 hv8
        replace hf := hf v8 hv8
        exact mX12_ask_J103 X hr hQ hg18 hf hR (lv_sub hl [0, 1, 2, 3, 4] rfl)
      refine lv_if_ge (tgt := 102) hx hb dX12_ask_89 (by decide) (fun c8 => ?_) (fun c8 => ?_)
      · refine lv_iconst (v := (0 : Int32)) hx hb dX12_ask_102 (by decide) ?_
        exact kJ8 _ (if_pos c8).symm
      · refine lv_iload hx hb dX12_ask_92 (lv_at hl 4 rfl) ?_
        refine lv_iload_n hx hb dX12_ask_94 rfl (lv_at hl 2 rfl) ?_
        refine lv_icmp_ge (tgt := 102) hx hb dX12_ask_95 (by decide) (fun c11 => ?_) (fun c11 => ?_)
        · refine lv_iconst (v := (0 : Int32)) hx hb dX12_ask_102 (by decide) ?_
          exact kJ8 _ ((if_neg c8).trans (if_pos c11)).symm
        · refine lv_iconst (v := (1 : Int32)) hx hb dX12_ask_98 (by decide) ?_
          refine lv_goto (tgt := 103) hx hb dX12_ask_99 (by decide) ?_
          exact kJ8 _ ((if_neg c8).trans (if_neg c11)).symm
    · replace hf := hf.2 c6
      refine lv_aload_n hx hb dX12_ask_39 rfl (lv_at hl 0 rfl) ?_
      refine z_getS X hR (zlit hR zf_200) zs_200 (by decide) zfd_X12_131 rfl (r := 235) (by decide +kernel) dX12_ask_40 ?_
      refine lv_bipush (v := (121 : Int32)) hx hb dX12_ask_43 (by decide) ?_
      refine lv_iload_n hx hb dX12_ask_45 rfl (lv_at hl 3 rfl) ?_
      refine lv_imul hx hb dX12_ask_46 ?_
      refine lv_iload hx hb dX12_ask_47 (lv_at hl 5 rfl) ?_
      refine lv_iadd hx hb dX12_ask_49 ?_
      obtain ⟨hb12, hf⟩ := hf
      refine z_iald X hR (zlit hR zf_235) zs_235 zl_235 hb12 dX12_ask_50 ?_
      refine lv_iload hx hb dX12_ask_51 (lv_at hl 4 rfl) ?_
      refine lv_icmp_le (tgt := 71) hx hb dX12_ask_53 (by decide) (fun c13 => ?_) (fun c13 => ?_)
      · replace hf := hf.1 c13
        refine lv_iload hx hb dX12_ask_71 (lv_at hl 4 rfl) ?_
        refine lv_istore (lv' := [(4, .int x4), (0, .ref (ad 200)), (1, .int x1), (2, .int x2), (3, .int x3), (5, .int x5)]) hx hb dX12_ask_73 hl (by decide) rfl (fun ls hl => ?_)
        refine lv_iinc (v := x5 + (1 : Int32)) (lv' := [(5, .int (x5 + (1 : Int32))), (4, .int x4), (0, .ref (ad 200)), (1, .int x1), (2, .int x2), (3, .int x3)]) hx hb dX12_ask_75 hl (k := 5) rfl rfl (by decide) rfl (fun ls hl => ?_)
        refine lv_goto (tgt := 32) hx hb dX12_ask_78 (by decide) ?_
        exact ih x1 x2 x3 x4 (x5 + (1 : Int32)) w _ _ _ hf hR (lv_sub hl [2, 3, 4, 5, 1, 0] rfl)
      · replace hf := hf.2 c13
        refine lv_aload_n hx hb dX12_ask_56 rfl (lv_at hl 0 rfl) ?_
        refine z_getS X hR (zlit hR zf_200) zs_200 (by decide) zfd_X12_131 rfl (r := 235) (by decide +kernel) dX12_ask_57 ?_
        refine lv_bipush (v := (121 : Int32)) hx hb dX12_ask_60 (by decide) ?_
        refine lv_iload_n hx hb dX12_ask_62 rfl (lv_at hl 3 rfl) ?_
        refine lv_imul hx hb dX12_ask_63 ?_
        refine lv_iload hx hb dX12_ask_64 (lv_at hl 5 rfl) ?_
        refine lv_iadd hx hb dX12_ask_66 ?_
        refine z_iald X hR (zlit hR zf_235) zs_235 zl_235 hb12 dX12_ask_67 ?_
        refine lv_goto (tgt := 73) hx hb dX12_ask_68 (by decide) ?_
        refine lv_topi (fun v14 hv14 => ?_)
        replace hf := hf v14 hv14
        refine lv_istore (lv' := [(4, .int v14), (0, .ref (ad 200)), (1, .int x1), (2, .int x2), (3, .int x3), (5, .int x5)]) hx hb dX12_ask_73 hl (by decide) rfl (fun ls hl => ?_)
        refine lv_iinc (v := x5 + (1 : Int32)) (lv' := [(5, .int (x5 + (1 : Int32))), (4, .int v14), (0, .ref (ad 200)), (1, .int x1), (2, .int x2), (3, .int x3)]) hx hb dX12_ask_75 hl (k := 5) rfl rfl (by decide) rfl (fun ls hl => ?_)
        refine lv_goto (tgt := 32) hx hb dX12_ask_78 (by decide) ?_
        exact ih x1 x2 x3 v14 (x5 + (1 : Int32)) w _ _ _ hf hR (lv_sub hl [2, 3, 4, 5, 1, 0] rfl)
def fX12_ask_L18 (k : Int32 → zW → Prop) : Nat → Int32 → Int32 → Int32 → zW → Prop
  | 0 => fun _ _ _ _ => False
  | n + 1 => fun x1 x2 x3 w =>
    fX12_rows  w (fun r4 w4 =>
    ((r4 ≤ x3 →
      k x1 w4) ∧
     (¬ r4 ≤ x3 →
      ∃ n9, fX12_ask_L32 k (fX12_ask_L18 k n) n9 x1 x2 x3 (0 : Int32) (0 : Int32) w4)))
set_option maxHeartbeats 4000000 in
set_option maxRecDepth 100000 in
theorem mX12_ask_L18 {k : Int32 → zW → Prop} (X : zCx p s m args meth c cX12_ask 6 RX12 (some .int)) (hr : zRm R 4 cells slots) (hQ : zRetI p l e R s m args below meth c cells slots Q D dA true ad0 al0 ad al cX12_ask k)  : ∀ (n : Nat) (x1 : Int32) (x2 : Int32) (x3 : Int32) (w : zW) (H : Heap) (locs : List Loc) (ls : Array Slot), fX12_ask_L18 k n x1 x2 x3 w → zSt D dA true ad0 al0 ad al w s H locs → lv_has ls 6 [(0, .ref (ad 200)), (1, .int x1), (2, .int x2), (3, .int x3)] → W p l e R s m args below meth c H locs cells slots Q (F0 m 18 ls []) := by
  intro n
  induction n with
  | zero => exact fun _ _ _ _ _ _ _ hf => hf.elim
  | succ n ih =>
    intro x1 x2 x3 w H locs ls hf hR hl
    have hx := X.1
    have hb := X.2.1
    have hml := X.2.2.1
    have hown := X.2.2.2.1
    have hts := X.2.2.2.2.1
    rw [fX12_ask_L18] at hf
    refine lv_iload_n hx hb dX12_ask_18 rfl (lv_at hl 3 rfl) ?_
    refine lv_aload_n hx hb dX12_ask_19 rfl (lv_at hl 0 rfl) ?_
    refine z_callVI (fr1 := 0) (b := 200) (As := []) (rest := [.int x3]) X (hr.le (by decide)) hR zy_X12_rows zq_199 (zlit hR zf_200) (by rw [zs_200]; rfl) rfl (mX12_rows  hf) rfl hl (Nat.le_of_ble_eq_true rfl) dX12_ask_20 rfl (fun r4 w4 H locs hf hR => ?_)
    refine lv_icmp_ge (tgt := 134) hx hb dX12_ask_23 (by decide) (fun c5 => ?_) (fun c5 => ?_)
    · replace hf := hf.1 c5
      refine lv_iload_n hx hb dX12_ask_134 rfl (lv_at hl 1 rfl) ?_
      exact hQ _ _ _ _ _ _ hf hR dX12_ask_135
    · replace hf := hf.2 c5
      refine lv_iconst (v := (0 : Int32)) hx hb dX12_ask_26 (by decide) ?_
      refine lv_istore (lv' := [(4, .int (0 : Int32)), (0, .ref (ad 200)), (1, .int x1), (2, .int x2), (3, .int x3)]) hx hb dX12_ask_27 hl (by decide) rfl (fun ls hl => ?_)
      refine lv_iconst (v := (0 : Int32)) hx hb dX12_ask_29 (by decide) ?_
      refine lv_istore (lv' := [(5, .int (0 : Int32)), (4, .int (0 : Int32)), (0, .ref (ad 200)), (1, .int x1), (2, .int x2), (3, .int x3)]) hx hb dX12_ask_30 hl (by decide) rfl (fun ls hl => ?_)
      obtain ⟨n9, hf⟩ := hf
      exact mX12_ask_L32 X hr hQ ih n9 x1 x2 x3 (0 : Int32) (0 : Int32) w4 _ _ _ hf hR (lv_sub hl [2, 3, 4, 5, 1, 0] rfl)
def fX12_ask (w : zW) (k : Int32 → zW → Prop) : Prop :=
  ∀ w1 : zW, w1 = sI w 200 0 (0 : Int32) →
  fX12_gathers  w1 (fun w2 =>
  ∀ v3 : Int32, v3 = gI w2 200 31 →
  ∃ n9, fX12_ask_L18 k n9 (-1 : Int32) v3 (0 : Int32) w2)
set_option maxHeartbeats 4000000 in
set_option maxRecDepth 100000 in
theorem mX12_ask {l : Launch} {D : va_G} {dA : Nat → ClassId} {ad : Nat → Nat} {al : Nat → Prop} {w : zW} {k : Int32 → zW → Prop}   (hf : fX12_ask w k) : zmetI l yX12_ask cX12_ask 6 (some .int) 4 [.ref (ad 200)] D dA true ad al w k := by
  refine zmetI_of (by decide) (Nat.le_of_ble_eq_true rfl) ?_
  intro p e R s m below meth c Q H ls args locs cells slots X hr hQ hR hl
  have hx := X.1
  have hb := X.2.1
  have hml := X.2.2.1
  have hown := X.2.2.2.1
  have hts := X.2.2.2.2.1
  unfold fX12_ask at hf
  have hl : lv_has ls 6 [(0, .ref (ad 200))] := hl
  refine lv_aload_n hx hb dX12_ask_0 rfl (lv_at hl 0 rfl) ?_
  refine lv_iconst (v := (0 : Int32)) hx hb dX12_ask_1 (by decide) ?_
  refine z_putI X hR (zlit hR zf_200) zs_200 (by decide) zfp_X12_1 rfl dX12_ask_2 (fun H locs hR => ?_)
  obtain ⟨w1, hw1⟩ : ∃ z : zW, z = sI w 200 0 (0 : Int32) := ⟨_, rfl⟩
  rw [← hw1] at hR
  replace hf := hf w1 hw1
  refine lv_aload_n hx hb dX12_ask_5 rfl (lv_at hl 0 rfl) ?_
  refine z_callVV (fr1 := 3) (b := 200) (As := []) (rest := []) X (hr.le (by decide)) hR zy_X12_gathers zq_1065 (zlit hR zf_200) (by rw [zs_200]; rfl) rfl (mX12_gathers  hf) rfl hl (Nat.le_of_ble_eq_true rfl) dX12_ask_6 rfl (fun w2 H locs hf hR => ?_)
  refine lv_iconst (v := (-1 : Int32)) hx hb dX12_ask_9 (by decide) ?_
  refine lv_istore_n (lv' := [(1, .int (-1 : Int32)), (0, .ref (ad 200))]) hx hb dX12_ask_10 rfl hl (by decide) rfl (fun ls hl => ?_)
  refine lv_aload_n hx hb dX12_ask_11 rfl (lv_at hl 1 rfl) ?_
  refine z_getI X hR (zlit hR zf_200) zs_200 (by decide) zfd_X12_346 rfl dX12_ask_12 ?_
  refine lv_topi (fun v3 hv3 => ?_)
  replace hf := hf v3 hv3
  refine lv_istore_n (lv' := [(2, .int v3), (1, .int (-1 : Int32)), (0, .ref (ad 200))]) hx hb dX12_ask_15 rfl hl (by decide) rfl (fun ls hl => ?_)
  refine lv_iconst (v := (0 : Int32)) hx hb dX12_ask_16 (by decide) ?_
  refine lv_istore_n (lv' := [(3, .int (0 : Int32)), (2, .int v3), (1, .int (-1 : Int32)), (0, .ref (ad 200))]) hx hb dX12_ask_17 rfl hl (by decide) rfl (fun ls hl => ?_)
  obtain ⟨n9, hf⟩ := hf
  exact mX12_ask_L18 X hr hQ  n9 (-1 : Int32) v3 (0 : Int32) w2 _ _ _ hf hR (lv_sub hl [3, 2, 1, 0] rfl)
/-! X12_learn -/
def fX12_learn_J113 (k : Int32 → zW → Prop) (g18 : Int32 → Int32 → Int32 → zW → Prop) (x2 : Int32) (x3 : Int32) (x4 : Int32) (x5 : Int32) (t0 : Int32) (w : zW) : Prop :=
  ∀ v10 : Int32, v10 = (if x5 = 0 then x2 else x4) →
  g18 t0 v10 (x3 + (1 : Int32)) w
set_option maxHeartbeats 4000000 in
set_option maxRecDepth 100000 in
theorem mX12_learn_J113 {k : Int32 → zW → Prop} {g18 : Int32 → Int32 → Int32 → zW → Prop} (X : zCx p s m args meth c cX12_learn 6 RX12 (some .int)) (hr : zRm R 4 cells slots) (hQ : zRetI p l e R s m args below meth c cells slots Q D dA true ad0 al0 ad al cX12_learn k) (hg18 : ∀ (x1 : Int32) (x2 : Int32) (x3 : Int32) (w : zW) (H : Heap) (locs : List Loc) (ls : Array Slot), g18 x1 x2 x3 w → zSt D dA true ad0 al0 ad al w s H locs → lv_has ls 6 [(0, .ref (ad 200)), (1, .int x1), (2, .int x2), (3, .int x3)] → W p l e R s m args below meth c H locs cells slots Q (F0 m 18 ls [])) {x2 : Int32} {x3 : Int32} {x4 : Int32} {x5 : Int32} {t0 : Int32} {w : zW} {H : Heap} {locs : List Loc} {ls : Array Slot} (hf : fX12_learn_J113 k g18 x2 x3 x4 x5 t0 w) (hR : zSt D dA true ad0 al0 ad al w s H locs) (hl : lv_has ls 6 [(0, .ref (ad 200)), (2, .int x2), (3, .int x3), (4, .int x4), (5, .int x5)]) : W p l e R s m args below meth c H locs cells slots Q (F0 m 113 ls [.int t0]) := by
  have hx := X.1
  have hb := X.2.1
  have hml := X.2.2.1
  have hown := X.2.2.2.1
  have hts := X.2.2.2.2.1
  unfold fX12_learn_J113 at hf
  refine lv_istore_n (lv' := [(1, .int t0), (0, .ref (ad 200)), (2, .int x2), (3, .int x3), (4, .int x4), (5, .int x5)]) hx hb dX12_learn_113 rfl hl (by decide) rfl (fun ls hl => ?_)
  refine lv_iload hx hb dX12_learn_114 (lv_at hl 5 rfl) ?_
  have kJ10 : ∀ v10 : Int32, v10 = (if x5 = 0 then x2 else x4) → W p l e R s m args below meth c H locs cells slots Q (F0 m 125 ls (.int v10 :: [])) := by
    intro v10 hv10
    replace hf := hf v10 hv10
    refine lv_istore_n (lv' := [(2, .int v10), (1, .int t0), (0, .ref (ad 200)), (3, .int x3), (4, .int x4), (5, .int x5)]) hx hb dX12_learn_125 rfl hl (by decide) rfl (fun ls hl => ?_)
    refine lv_iinc (v := x3 + (1 : Int32)) (lv' := [(3, .int (x3 + (1 : Int32))), (2, .int v10), (1, .int t0), (0, .ref (ad 200)), (4, .int x4), (5, .int x5)]) hx hb dX12_learn_126 hl (k := 3) rfl rfl (by decide) rfl (fun ls hl => ?_)
    refine lv_goto (tgt := 18) hx hb dX12_learn_129 (by decide) ?_
    exact hg18 t0 v10 (x3 + (1 : Int32)) w _ _ _ hf hR (lv_sub hl [3, 2, 1, 0] rfl)
  refine lv_if_eq (tgt := 124) hx hb dX12_learn_116 (by decide) (fun c10 => ?_) (fun c10 => ?_)
  · refine lv_iload_n hx hb dX12_learn_124 rfl (lv_at hl 2 rfl) ?_
    exact kJ10 _ (if_pos c10).symm
  · refine lv_iload hx hb dX12_learn_119 (lv_at hl 4 rfl) ?_
    refine lv_goto (tgt := 125) hx hb dX12_learn_121 (by decide) ?_
    exact kJ10 _ (if_neg c10).symm
def fX12_learn_J101 (k : Int32 → zW → Prop) (g18 : Int32 → Int32 → Int32 → zW → Prop) (x1 : Int32) (x2 : Int32) (x3 : Int32) (x4 : Int32) (t0 : Int32) (w : zW) : Prop :=
  ∀ v9 : Int32, v9 = (if t0 = 0 then x1 else x3) →
  fX12_learn_J113 k g18 x2 x3 x4 t0 v9 w
set_option maxHeartbeats 4000000 in
set_option maxRecDepth 100000 in
theorem mX12_learn_J101 {k : Int32 → zW → Prop} {g18 : Int32 → Int32 → Int32 → zW → Prop} (X : zCx p s m args meth c cX12_learn 6 RX12 (some .int)) (hr : zRm R 4 cells slots) (hQ : zRetI p l e R s m args below meth c cells slots Q D dA true ad0 al0 ad al cX12_learn k) (hg18 : ∀ (x1 : Int32) (x2 : Int32) (x3 : Int32) (w : zW) (H : Heap) (locs : List Loc) (ls : Array Slot), g18 x1 x2 x3 w → zSt D dA true ad0 al0 ad al w s H locs → lv_has ls 6 [(0, .ref (ad 200)), (1, .int x1), (2, .int x2), (3, .int x3)] → W p l e R s m args below meth c H locs cells slots Q (F0 m 18 ls [])) {x1 : Int32} {x2 : Int32} {x3 : Int32} {x4 : Int32} {t0 : Int32} {w : zW} {H : Heap} {locs : List Loc} {ls : Array Slot} (hf : fX12_learn_J101 k g18 x1 x2 x3 x4 t0 w) (hR : zSt D dA true ad0 al0 ad al w s H locs) (hl : lv_has ls 6 [(0, .ref (ad 200)), (1, .int x1), (2, .int x2), (3, .int x3), (4, .int x4)]) : W p l e R s m args below meth c H locs cells slots Q (F0 m 101 ls [.int t0]) := by
  have hx := X.1
  have hb := X.2.1
  have hml := X.2.2.1
  have hown := X.2.2.2.1
  have hts := X.2.2.2.2.1
  unfold fX12_learn_J101 at hf
  refine lv_istore (lv' := [(5, .int t0), (0, .ref (ad 200)), (1, .int x1), (2, .int x2), (3, .int x3), (4, .int x4)]) hx hb dX12_learn_101 hl (by decide) rfl (fun ls hl => ?_)
  refine lv_iload hx hb dX12_learn_103 (lv_at hl 0 rfl) ?_
  have kJ9 : ∀ v9 : Int32, v9 = (if t0 = 0 then x1 else x3) → W p l e R s m args below meth c H locs cells slots Q (F0 m 113 ls (.int v9 :: [])) := by
    intro v9 hv9
    replace hf := hf v9 hv9
    exact mX12_learn_J113 X hr hQ hg18 hf hR (lv_sub hl [1, 3, 4, 5, 0] rfl)
  refine lv_if_eq (tgt := 112) hx hb dX12_learn_105 (by decide) (fun c9 => ?_) (fun c9 => ?_)
  · refine lv_iload_n hx hb dX12_learn_112 rfl (lv_at hl 2 rfl) ?_
    exact kJ9 _ (if_pos c9).symm
  · refine lv_iload_n hx hb dX12_learn_108 rfl (lv_at hl 4 rfl) ?_
    refine lv_goto (tgt := 113) hx hb dX12_learn_109 (by decide) ?_
    exact kJ9 _ (if_neg c9).symm
def fX12_learn_L32 (k : Int32 → zW → Prop) (g18 : Int32 → Int32 → Int32 → zW → Prop) : Nat → Int32 → Int32 → Int32 → Int32 → Int32 → zW → Prop
  | 0 => fun _ _ _ _ _ _ => False
  | n + 1 => fun x1 x2 x3 x4 x5 w =>
    (((9 : Int32) ≤ x5 →
      vp_in x3 252 ∧ 
      ∀ v8 : Int32, v8 = (if 0 ≤ (gI w 220 x3.toNatClampNeg) then (0 : Int32) else (if x2 ≤ x4 then (0 : Int32) else (1 : Int32))) →
      fX12_learn_J101 k g18 x1 x2 x3 x4 v8 w) ∧
     (¬ (9 : Int32) ≤ x5 →
      vp_in (((9 : Int32) * x3) + x5) 36 ∧ 
      (((gI w 234 (((9 : Int32) * x3) + x5).toNatClampNeg) ≤ x4 →
        fX12_learn_L32 k g18 n x1 x2 x3 x4 (x5 + (1 : Int32)) w) ∧
       (¬ (gI w 234 (((9 : Int32) * x3) + x5).toNatClampNeg) ≤ x4 →
        ∀ v14 : Int32, v14 = gI w 234 (((9 : Int32) * x3) + x5).toNatClampNeg →
        fX12_learn_L32 k g18 n x1 x2 x3 v14 (x5 + (1 : Int32)) w))))
set_option maxHeartbeats 4000000 in
set_option maxRecDepth 100000 in
theorem mX12_learn_L32 {k : Int32 → zW → Prop} {g18 : Int32 → Int32 → Int32 → zW → Prop} (X : zCx p s m args meth c cX12_learn 6 RX12 (some .int)) (hr : zRm R 4 cells slots) (hQ : zRetI p l e R s m args below meth c cells slots Q D dA true ad0 al0 ad al cX12_learn k) (hg18 : ∀ (x1 : Int32) (x2 : Int32) (x3 : Int32) (w : zW) (H : Heap) (locs : List Loc) (ls : Array Slot), g18 x1 x2 x3 w → zSt D dA true ad0 al0 ad al w s H locs → lv_has ls 6 [(0, .ref (ad 200)), (1, .int x1), (2, .int x2), (3, .int x3)] → W p l e R s m args below meth c H locs cells slots Q (F0 m 18 ls [])) : ∀ (n : Nat) (x1 : Int32) (x2 : Int32) (x3 : Int32) (x4 : Int32) (x5 : Int32) (w : zW) (H : Heap) (locs : List Loc) (ls : Array Slot), fX12_learn_L32 k g18 n x1 x2 x3 x4 x5 w → zSt D dA true ad0 al0 ad al w s H locs → lv_has ls 6 [(0, .ref (ad 200)), (1, .int x1), (2, .int x2), (3, .int x3), (4, .int x4), (5, .int x5)] → W p l e R s m args below meth c H locs cells slots Q (F0 m 32 ls []) := by
  intro n
  induction n with
  | zero => exact fun _ _ _ _ _ _ _ _ _ hf => hf.elim
  | succ n ih =>
    intro x1 x2 x3 x4 x5 w H locs ls hf hR hl
    have hx := X.1
    have hb := X.2.1
    have hml := X.2.2.1
    have hown := X.2.2.2.1
    have hts := X.2.2.2.2.1
    rw [fX12_learn_L32] at hf
    refine lv_iload hx hb dX12_learn_32 (lv_at hl 5 rfl) ?_
    refine lv_bipush (v := (9 : Int32)) hx hb dX12_learn_34 (by decide) ?_
    refine lv_icmp_ge (tgt := 81) hx hb dX12_learn_36 (by decide) (fun c6 => ?_) (fun c6 => ?_)
    · replace hf := hf.1 c6
      refine lv_aload_n hx hb dX12_learn_81 rfl (lv_at hl 0 rfl) ?_
      refine z_getS X hR (zlit hR zf_200) zs_200 (by decide) zfd_X12_103 rfl (r := 220) (by decide +kernel) dX12_learn_82 ?_
      refine lv_iload_n hx hb dX12_learn_85 rfl (lv_at hl 3 rfl) ?_
      obtain ⟨hb7, hf⟩ := hf
      refine z_iald X hR (zlit hR zf_220) zs_220 zl_220 hb7 dX12_learn_86 ?_
      have kJ8 : ∀ v8 : Int32, v8 = (if 0 ≤ (gI w 220 x3.toNatClampNeg) then (0 : Int32) else (if x2 ≤ x4 then (0 : Int32) else (1 : Int32))) → W p l e R s m args below meth c H locs cells slots Q (F0 m 101 ls (.int v8 :: [])) := by
        intro v8 hv8
        replace hf := hf v8 hv8
        exact mX12_learn_J101 X hr hQ hg18 hf hR (lv_sub hl [0, 1, 2, 3, 4] rfl)
      refine lv_if_ge (tgt := 100) hx hb dX12_learn_87 (by decide) (fun c8 => ?_) (fun c8 => ?_)
      · refine lv_iconst (v := (0 : Int32)) hx hb dX12_learn_100 (by decide) ?_
        exact kJ8 _ (if_pos c8).symm
      · refine lv_iload hx hb dX12_learn_90 (lv_at hl 4 rfl) ?_
        refine lv_iload_n hx hb dX12_learn_92 rfl (lv_at hl 2 rfl) ?_
        refine lv_icmp_ge (tgt := 100) hx hb dX12_learn_93 (by decide) (fun c11 => ?_) (fun c11 => ?_)
        · refine lv_iconst (v := (0 : Int32)) hx hb dX12_learn_100 (by decide) ?_
          exact kJ8 _ ((if_neg c8).trans (if_pos c11)).symm
        · refine lv_iconst (v := (1 : Int32)) hx hb dX12_learn_96 (by decide) ?_
          refine lv_goto (tgt := 101) hx hb dX12_learn_97 (by decide) ?_
          exact kJ8 _ ((if_neg c8).trans (if_neg c11)).symm
    · replace hf := hf.2 c6
      refine lv_aload_n hx hb dX12_learn_39 rfl (lv_at hl 0 rfl) ?_
      refine z_getS X hR (zlit hR zf_200) zs_200 (by decide) zfd_X12_128 rfl (r := 234) (by decide +kernel) dX12_learn_40 ?_
      refine lv_bipush (v := (9 : Int32)) hx hb dX12_learn_43 (by decide) ?_
      refine lv_iload_n hx hb dX12_learn_45 rfl (lv_at hl 3 rfl) ?_
      refine lv_imul hx hb dX12_learn_46 ?_
      refine lv_iload hx hb dX12_learn_47 (lv_at hl 5 rfl) ?_
      refine lv_iadd hx hb dX12_learn_49 ?_
      obtain ⟨hb12, hf⟩ := hf
      refine z_iald X hR (zlit hR zf_234) zs_234 zl_234 hb12 dX12_learn_50 ?_
      refine lv_iload hx hb dX12_learn_51 (lv_at hl 4 rfl) ?_
      refine lv_icmp_le (tgt := 71) hx hb dX12_learn_53 (by decide) (fun c13 => ?_) (fun c13 => ?_)
      · replace hf := hf.1 c13
        refine lv_iload hx hb dX12_learn_71 (lv_at hl 4 rfl) ?_
        refine lv_istore (lv' := [(4, .int x4), (0, .ref (ad 200)), (1, .int x1), (2, .int x2), (3, .int x3), (5, .int x5)]) hx hb dX12_learn_73 hl (by decide) rfl (fun ls hl => ?_)
        refine lv_iinc (v := x5 + (1 : Int32)) (lv' := [(5, .int (x5 + (1 : Int32))), (4, .int x4), (0, .ref (ad 200)), (1, .int x1), (2, .int x2), (3, .int x3)]) hx hb dX12_learn_75 hl (k := 5) rfl rfl (by decide) rfl (fun ls hl => ?_)
        refine lv_goto (tgt := 32) hx hb dX12_learn_78 (by decide) ?_
        exact ih x1 x2 x3 x4 (x5 + (1 : Int32)) w _ _ _ hf hR (lv_sub hl [2, 3, 4, 5, 1, 0] rfl)
      · replace hf := hf.2 c13
        refine lv_aload_n hx hb dX12_learn_56 rfl (lv_at hl 0 rfl) ?_
        refine z_getS X hR (zlit hR zf_200) zs_200 (by decide) zfd_X12_128 rfl (r := 234) (by decide +kernel) dX12_learn_57 ?_
        refine lv_bipush (v := (9 : Int32)) hx hb dX12_learn_60 (by decide) ?_
        refine lv_iload_n hx hb dX12_learn_62 rfl (lv_at hl 3 rfl) ?_
        refine lv_imul hx hb dX12_learn_63 ?_
        refine lv_iload hx hb dX12_learn_64 (lv_at hl 5 rfl) ?_
        refine lv_iadd hx hb dX12_learn_66 ?_
        refine z_iald X hR (zlit hR zf_234) zs_234 zl_234 hb12 dX12_learn_67 ?_
        refine lv_goto (tgt := 73) hx hb dX12_learn_68 (by decide) ?_
        refine lv_topi (fun v14 hv14 => ?_)
        replace hf := hf v14 hv14
        refine lv_istore (lv' := [(4, .int v14), (0, .ref (ad 200)), (1, .int x1), (2, .int x2), (3, .int x3), (5, .int x5)]) hx hb dX12_learn_73 hl (by decide) rfl (fun ls hl => ?_)
        refine lv_iinc (v := x5 + (1 : Int32)) (lv' := [(5, .int (x5 + (1 : Int32))), (4, .int v14), (0, .ref (ad 200)), (1, .int x1), (2, .int x2), (3, .int x3)]) hx hb dX12_learn_75 hl (k := 5) rfl rfl (by decide) rfl (fun ls hl => ?_)
        refine lv_goto (tgt := 32) hx hb dX12_learn_78 (by decide) ?_
        exact ih x1 x2 x3 v14 (x5 + (1 : Int32)) w _ _ _ hf hR (lv_sub hl [2, 3, 4, 5, 1, 0] rfl)
def fX12_learn_L18 (k : Int32 → zW → Prop) : Nat → Int32 → Int32 → Int32 → zW → Prop
  | 0 => fun _ _ _ _ => False
  | n + 1 => fun x1 x2 x3 w =>
    fX12_wordsTold  w (fun r4 w4 =>
    ((r4 ≤ x3 →
      k x1 w4) ∧
     (¬ r4 ≤ x3 →
      ∃ n9, fX12_learn_L32 k (fX12_learn_L18 k n) n9 x1 x2 x3 (0 : Int32) (0 : Int32) w4)))
set_option maxHeartbeats 4000000 in
set_option maxRecDepth 100000 in
theorem mX12_learn_L18 {k : Int32 → zW → Prop} (X : zCx p s m args meth c cX12_learn 6 RX12 (some .int)) (hr : zRm R 4 cells slots) (hQ : zRetI p l e R s m args below meth c cells slots Q D dA true ad0 al0 ad al cX12_learn k)  : ∀ (n : Nat) (x1 : Int32) (x2 : Int32) (x3 : Int32) (w : zW) (H : Heap) (locs : List Loc) (ls : Array Slot), fX12_learn_L18 k n x1 x2 x3 w → zSt D dA true ad0 al0 ad al w s H locs → lv_has ls 6 [(0, .ref (ad 200)), (1, .int x1), (2, .int x2), (3, .int x3)] → W p l e R s m args below meth c H locs cells slots Q (F0 m 18 ls []) := by
  intro n
  induction n with
  | zero => exact fun _ _ _ _ _ _ _ hf => hf.elim
  | succ n ih =>
    intro x1 x2 x3 w H locs ls hf hR hl
    have hx := X.1
    have hb := X.2.1
    have hml := X.2.2.1
    have hown := X.2.2.2.1
    have hts := X.2.2.2.2.1
    rw [fX12_learn_L18] at hf
    refine lv_iload_n hx hb dX12_learn_18 rfl (lv_at hl 3 rfl) ?_
    refine lv_aload_n hx hb dX12_learn_19 rfl (lv_at hl 0 rfl) ?_
    refine z_callVI (fr1 := 0) (b := 200) (As := []) (rest := [.int x3]) X (hr.le (by decide)) hR zy_X12_wordsTold zq_211 (zlit hR zf_200) (by rw [zs_200]; rfl) rfl (mX12_wordsTold  hf) rfl hl (Nat.le_of_ble_eq_true rfl) dX12_learn_20 rfl (fun r4 w4 H locs hf hR => ?_)
    refine lv_icmp_ge (tgt := 132) hx hb dX12_learn_23 (by decide) (fun c5 => ?_) (fun c5 => ?_)
    · replace hf := hf.1 c5
      refine lv_iload_n hx hb dX12_learn_132 rfl (lv_at hl 1 rfl) ?_
      exact hQ _ _ _ _ _ _ hf hR dX12_learn_133
    · replace hf := hf.2 c5
      refine lv_iconst (v := (0 : Int32)) hx hb dX12_learn_26 (by decide) ?_
      refine lv_istore (lv' := [(4, .int (0 : Int32)), (0, .ref (ad 200)), (1, .int x1), (2, .int x2), (3, .int x3)]) hx hb dX12_learn_27 hl (by decide) rfl (fun ls hl => ?_)
      refine lv_iconst (v := (0 : Int32)) hx hb dX12_learn_29 (by decide) ?_
      refine lv_istore (lv' := [(5, .int (0 : Int32)), (4, .int (0 : Int32)), (0, .ref (ad 200)), (1, .int x1), (2, .int x2), (3, .int x3)]) hx hb dX12_learn_30 hl (by decide) rfl (fun ls hl => ?_)
      obtain ⟨n9, hf⟩ := hf
      exact mX12_learn_L32 X hr hQ ih n9 x1 x2 x3 (0 : Int32) (0 : Int32) w4 _ _ _ hf hR (lv_sub hl [2, 3, 4, 5, 1, 0] rfl)
def fX12_learn (w : zW) (k : Int32 → zW → Prop) : Prop :=
  ∀ w1 : zW, w1 = sI w 200 0 (0 : Int32) →
  fX12_gathers  w1 (fun w2 =>
  ∀ v3 : Int32, v3 = gI w2 200 31 →
  ∃ n9, fX12_learn_L18 k n9 (-1 : Int32) v3 (0 : Int32) w2)
set_option maxHeartbeats 4000000 in
set_option maxRecDepth 100000 in
theorem mX12_learn {l : Launch} {D : va_G} {dA : Nat → ClassId} {ad : Nat → Nat} {al : Nat → Prop} {w : zW} {k : Int32 → zW → Prop}   (hf : fX12_learn w k) : zmetI l yX12_learn cX12_learn 6 (some .int) 4 [.ref (ad 200)] D dA true ad al w k := by
  refine zmetI_of (by decide) (Nat.le_of_ble_eq_true rfl) ?_
  intro p e R s m below meth c Q H ls args locs cells slots X hr hQ hR hl
  have hx := X.1
  have hb := X.2.1
  have hml := X.2.2.1
  have hown := X.2.2.2.1
  have hts := X.2.2.2.2.1
  unfold fX12_learn at hf
  have hl : lv_has ls 6 [(0, .ref (ad 200))] := hl
  refine lv_aload_n hx hb dX12_learn_0 rfl (lv_at hl 0 rfl) ?_
  refine lv_iconst (v := (0 : Int32)) hx hb dX12_learn_1 (by decide) ?_
  refine z_putI X hR (zlit hR zf_200) zs_200 (by decide) zfp_X12_1 rfl dX12_learn_2 (fun H locs hR => ?_)
  obtain ⟨w1, hw1⟩ : ∃ z : zW, z = sI w 200 0 (0 : Int32) := ⟨_, rfl⟩
  rw [← hw1] at hR
  replace hf := hf w1 hw1
  refine lv_aload_n hx hb dX12_learn_5 rfl (lv_at hl 0 rfl) ?_
  refine z_callVV (fr1 := 3) (b := 200) (As := []) (rest := []) X (hr.le (by decide)) hR zy_X12_gathers zq_1065 (zlit hR zf_200) (by rw [zs_200]; rfl) rfl (mX12_gathers  hf) rfl hl (Nat.le_of_ble_eq_true rfl) dX12_learn_6 rfl (fun w2 H locs hf hR => ?_)
  refine lv_iconst (v := (-1 : Int32)) hx hb dX12_learn_9 (by decide) ?_
  refine lv_istore_n (lv' := [(1, .int (-1 : Int32)), (0, .ref (ad 200))]) hx hb dX12_learn_10 rfl hl (by decide) rfl (fun ls hl => ?_)
  refine lv_aload_n hx hb dX12_learn_11 rfl (lv_at hl 1 rfl) ?_
  refine z_getI X hR (zlit hR zf_200) zs_200 (by decide) zfd_X12_346 rfl dX12_learn_12 ?_
  refine lv_topi (fun v3 hv3 => ?_)
  replace hf := hf v3 hv3
  refine lv_istore_n (lv' := [(2, .int v3), (1, .int (-1 : Int32)), (0, .ref (ad 200))]) hx hb dX12_learn_15 rfl hl (by decide) rfl (fun ls hl => ?_)
  refine lv_iconst (v := (0 : Int32)) hx hb dX12_learn_16 (by decide) ?_
  refine lv_istore_n (lv' := [(3, .int (0 : Int32)), (2, .int v3), (1, .int (-1 : Int32)), (0, .ref (ad 200))]) hx hb dX12_learn_17 rfl hl (by decide) rfl (fun ls hl => ?_)
  obtain ⟨n9, hf⟩ := hf
  exact mX12_learn_L18 X hr hQ  n9 (-1 : Int32) v3 (0 : Int32) w2 _ _ _ hf hR (lv_sub hl [3, 2, 1, 0] rfl)
/-! X12_chance -/
def fX12_chance_L41 (k : Int32 → zW → Prop) : Nat → Int32 → Int64 → Int32 → zW → Prop
  | 0 => fun _ _ _ _ => False
  | n + 1 => fun x1 x3 x5 w =>
    (((120 : Int32) < x5 →
      ¬ ((gI w 200 31).toInt64) = 0 ∧
      k (((x3 * (1000000 : Int64)) / ((gI w 200 31).toInt64)).toInt32) w) ∧
     (¬ (120 : Int32) < x5 →
      vp_in (((121 : Int32) * x1) + x5) 968 ∧ 
      ∀ v11 : Int64, v11 = x3 + ((gI w 235 (((121 : Int32) * x1) + x5).toNatClampNeg).toInt64) →
      fX12_chance_L41 k n x1 v11 (x5 + (1 : Int32)) w))
set_option maxHeartbeats 4000000 in
set_option maxRecDepth 100000 in
theorem mX12_chance_L41 {k : Int32 → zW → Prop} (X : zCx p s m args meth c cX12_chance 6 RX12 (some .int)) (hr : zRm R 4 cells slots) (hQ : zRetI p l e R s m args below meth c cells slots Q D dA true ad0 al0 ad al cX12_chance k)  : ∀ (n : Nat) (x1 : Int32) (x3 : Int64) (x5 : Int32) (w : zW) (H : Heap) (locs : List Loc) (ls : Array Slot), fX12_chance_L41 k n x1 x3 x5 w → zSt D dA true ad0 al0 ad al w s H locs → lv_has ls 6 [(0, .ref (ad 200)), (1, .int x1), (3, .long x3), (5, .int x5)] → W p l e R s m args below meth c H locs cells slots Q (F0 m 41 ls []) := by
  intro n
  induction n with
  | zero => exact fun _ _ _ _ _ _ _ hf => hf.elim
  | succ n ih =>
    intro x1 x3 x5 w H locs ls hf hR hl
    have hx := X.1
    have hb := X.2.1
    have hml := X.2.2.1
    have hown := X.2.2.2.1
    have hts := X.2.2.2.2.1
    rw [fX12_chance_L41] at hf
    refine lv_iload hx hb dX12_chance_41 (lv_at hl 3 rfl) ?_
    refine lv_bipush (v := (120 : Int32)) hx hb dX12_chance_43 (by decide) ?_
    refine lv_icmp_gt (tgt := 70) hx hb dX12_chance_45 (by decide) (fun c8 => ?_) (fun c8 => ?_)
    · replace hf := hf.1 c8
      refine lv_lload_n hx hb dX12_chance_70 rfl (lv_at hl 2 rfl) ?_
      refine lv_ldc2 (v := (1000000 : Int64)) hx hb hown (hts _ zq_1530) dX12_chance_71 ?_
      refine lv_lmul hx hb dX12_chance_74 ?_
      refine lv_aload_n hx hb dX12_chance_75 rfl (lv_at hl 0 rfl) ?_
      refine z_getI X hR (zlit hR zf_200) zs_200 (by decide) zfd_X12_346 rfl dX12_chance_76 ?_
      refine lv_i2l hx hb dX12_chance_79 rfl ?_
      obtain ⟨hd9, hf⟩ := hf
      refine lv_ldiv hx hb dX12_chance_80 hd9 ?_
      refine lv_l2i hx hb dX12_chance_81 rfl ?_
      exact hQ _ _ _ _ _ _ hf hR dX12_chance_82
    · replace hf := hf.2 c8
      refine lv_lload_n hx hb dX12_chance_48 rfl (lv_at hl 2 rfl) ?_
      refine lv_aload_n hx hb dX12_chance_49 rfl (lv_at hl 0 rfl) ?_
      refine z_getS X hR (zlit hR zf_200) zs_200 (by decide) zfd_X12_131 rfl (r := 235) (by decide +kernel) dX12_chance_50 ?_
      refine lv_bipush (v := (121 : Int32)) hx hb dX12_chance_53 (by decide) ?_
      refine lv_iload_n hx hb dX12_chance_55 rfl (lv_at hl 1 rfl) ?_
      refine lv_imul hx hb dX12_chance_56 ?_
      refine lv_iload hx hb dX12_chance_57 (lv_at hl 3 rfl) ?_
      refine lv_iadd hx hb dX12_chance_59 ?_
      obtain ⟨hb10, hf⟩ := hf
      refine z_iald X hR (zlit hR zf_235) zs_235 zl_235 hb10 dX12_chance_60 ?_
      refine lv_i2l hx hb dX12_chance_61 rfl ?_
      refine lv_ladd hx hb dX12_chance_62 ?_
      refine lv_topl (fun v11 hv11 => ?_)
      replace hf := hf v11 hv11
      refine lv_lstore_n (lv' := [(3, .long v11), (0, .ref (ad 200)), (1, .int x1), (5, .int x5)]) hx hb dX12_chance_63 rfl hl (by decide) rfl (fun ls hl => ?_)
      refine lv_iinc (v := x5 + (1 : Int32)) (lv' := [(5, .int (x5 + (1 : Int32))), (3, .long v11), (0, .ref (ad 200)), (1, .int x1)]) hx hb dX12_chance_64 hl (k := 3) rfl rfl (by decide) rfl (fun ls hl => ?_)
      refine lv_goto (tgt := 41) hx hb dX12_chance_67 (by decide) ?_
      exact ih x1 v11 (x5 + (1 : Int32)) w _ _ _ hf hR (lv_sub hl [2, 3, 1, 0] rfl)
def fX12_chance (x1 : Int32) (x2 : Int32) (w : zW) (k : Int32 → zW → Prop) : Prop :=
  ∀ w1 : zW, w1 = sI w 200 0 (0 : Int32) →
  fX12_gathers  w1 (fun w2 =>
  fX12_isRow x1 w2 (fun r3 w3 =>
  ((r3 = 0 →
    k (-1 : Int32) w3) ∧
   (¬ r3 = 0 →
    fX12_within x2 (0 : Int32) (99 : Int32) w3 (fun r5 w5 =>
    ((r5 = 0 →
      k (-1 : Int32) w5) ∧
     (¬ r5 = 0 →
      ((¬ (gI w5 200 31) = 0 →
        ∃ n9, fX12_chance_L41 k n9 x1 (0 : Int64) x2 w5) ∧
       ((gI w5 200 31) = 0 →
        k (-1 : Int32) w5)))))))))
set_option maxHeartbeats 4000000 in
set_option maxRecDepth 100000 in
theorem mX12_chance {l : Launch} {D : va_G} {dA : Nat → ClassId} {ad : Nat → Nat} {al : Nat → Prop} {w : zW} {k : Int32 → zW → Prop} {x1 : Int32} {x2 : Int32}   (hf : fX12_chance x1 x2 w k) : zmetI l yX12_chance cX12_chance 6 (some .int) 4 [.ref (ad 200), .int x1, .int x2] D dA true ad al w k := by
  refine zmetI_of (by decide) (Nat.le_of_ble_eq_true rfl) ?_
  intro p e R s m below meth c Q H ls args locs cells slots X hr hQ hR hl
  have hx := X.1
  have hb := X.2.1
  have hml := X.2.2.1
  have hown := X.2.2.2.1
  have hts := X.2.2.2.2.1
  unfold fX12_chance at hf
  have hl : lv_has ls 6 [(0, .ref (ad 200)), (1, .int x1), (2, .int x2)] := hl
  refine lv_aload_n hx hb dX12_chance_0 rfl (lv_at hl 0 rfl) ?_
  refine lv_iconst (v := (0 : Int32)) hx hb dX12_chance_1 (by decide) ?_
  refine z_putI X hR (zlit hR zf_200) zs_200 (by decide) zfp_X12_1 rfl dX12_chance_2 (fun H locs hR => ?_)
  obtain ⟨w1, hw1⟩ : ∃ z : zW, z = sI w 200 0 (0 : Int32) := ⟨_, rfl⟩
  rw [← hw1] at hR
  replace hf := hf w1 hw1
  refine lv_aload_n hx hb dX12_chance_5 rfl (lv_at hl 0 rfl) ?_
  refine z_callVV (fr1 := 3) (b := 200) (As := []) (rest := []) X (hr.le (by decide)) hR zy_X12_gathers zq_1065 (zlit hR zf_200) (by rw [zs_200]; rfl) rfl (mX12_gathers  hf) rfl hl (Nat.le_of_ble_eq_true rfl) dX12_chance_6 rfl (fun w2 H locs hf hR => ?_)
  refine lv_aload_n hx hb dX12_chance_9 rfl (lv_at hl 0 rfl) ?_
  refine lv_iload_n hx hb dX12_chance_10 rfl (lv_at hl 1 rfl) ?_
  refine z_callVI (fr1 := 1) (b := 200) (As := [.int x1]) (rest := []) X (hr.le (by decide)) hR zy_X12_isRow zq_833 (zlit hR zf_200) (by rw [zs_200]; rfl) rfl (mX12_isRow  hf) rfl hl (Nat.le_of_ble_eq_true rfl) dX12_chance_11 rfl (fun r3 w3 H locs hf hR => ?_)
  refine lv_if_eq (tgt := 34) hx hb dX12_chance_14 (by decide) (fun c4 => ?_) (fun c4 => ?_)
  · replace hf := hf.1 c4
    refine lv_iconst (v := (-1 : Int32)) hx hb dX12_chance_34 (by decide) ?_
    exact hQ _ _ _ _ _ _ hf hR dX12_chance_35
  · replace hf := hf.2 c4
    refine lv_iload_n hx hb dX12_chance_17 rfl (lv_at hl 2 rfl) ?_
    refine lv_iconst (v := (0 : Int32)) hx hb dX12_chance_18 (by decide) ?_
    refine lv_bipush (v := (99 : Int32)) hx hb dX12_chance_19 (by decide) ?_
    refine z_callSI (fr1 := 0) (As := [.int x2, .int (0 : Int32), .int (99 : Int32)]) (rest := []) X (hr.le (by decide)) hR zy_X12_within zq_773 (mX12_within  hf) rfl hl (Nat.le_of_ble_eq_true rfl) dX12_chance_21 rfl (fun r5 w5 H locs hf hR => ?_)
    refine lv_if_eq (tgt := 34) hx hb dX12_chance_24 (by decide) (fun c6 => ?_) (fun c6 => ?_)
    · replace hf := hf.1 c6
      refine lv_iconst (v := (-1 : Int32)) hx hb dX12_chance_34 (by decide) ?_
      exact hQ _ _ _ _ _ _ hf hR dX12_chance_35
    · replace hf := hf.2 c6
      refine lv_aload_n hx hb dX12_chance_27 rfl (lv_at hl 0 rfl) ?_
      refine z_getI X hR (zlit hR zf_200) zs_200 (by decide) zfd_X12_346 rfl dX12_chance_28 ?_
      refine lv_if_ne (tgt := 36) hx hb dX12_chance_31 (by decide) (fun c7 => ?_) (fun c7 => ?_)
      · replace hf := hf.1 c7
        refine lv_lconst (v := (0 : Int64)) hx hb dX12_chance_36 (by decide) ?_
        refine lv_lstore_n (lv' := [(3, .long (0 : Int64)), (0, .ref (ad 200)), (1, .int x1), (2, .int x2)]) hx hb dX12_chance_37 rfl hl (by decide) rfl (fun ls hl => ?_)
        refine lv_iload_n hx hb dX12_chance_38 rfl (lv_at hl 3 rfl) ?_
        refine lv_istore (lv' := [(5, .int x2), (3, .long (0 : Int64)), (0, .ref (ad 200)), (1, .int x1), (2, .int x2)]) hx hb dX12_chance_39 hl (by decide) rfl (fun ls hl => ?_)
        obtain ⟨n9, hf⟩ := hf
        exact mX12_chance_L41 X hr hQ  n9 x1 (0 : Int64) x2 w5 _ _ _ hf hR (lv_sub hl [2, 3, 1, 0] rfl)
      · replace hf := hf.2 c7
        refine lv_iconst (v := (-1 : Int32)) hx hb dX12_chance_34 (by decide) ?_
        exact hQ _ _ _ _ _ _ hf hR dX12_chance_35
/-! X12_isGuessed -/
def fX12_isGuessed_L2 (k : Int32 → zW → Prop) : Nat → Int32 → zW → Prop
  | 0 => fun _ _ => False
  | n + 1 => fun x1 w =>
    fX12_wordsTold  w (fun r1 w1 =>
    ((r1 ≤ x1 →
      fX12_goes  w1 (fun w3 =>
      k (1 : Int32) w3)) ∧
     (¬ r1 ≤ x1 →
      vp_in x1 252 ∧ 
      ((0 ≤ (gI w1 220 x1.toNatClampNeg) →
        vp_in x1 4 ∧ 
        ∀ w7 : zW, w7 = sI w1 227 x1.toNatClampNeg (gI w1 220 x1.toNatClampNeg) →
        fX12_isGuessed_L2 k n (x1 + (1 : Int32)) w7) ∧
       (¬ 0 ≤ (gI w1 220 x1.toNatClampNeg) →
        k (0 : Int32) w1)))))
set_option maxHeartbeats 4000000 in
set_option maxRecDepth 100000 in
theorem mX12_isGuessed_L2 {k : Int32 → zW → Prop} (X : zCx p s m args meth c cX12_isGuessed 2 RX12 (some .boolean)) (hr : zRm R 2 cells slots) (hQ : zRetZ p l e R s m args below meth c cells slots Q D dA true ad0 al0 ad al cX12_isGuessed k)  : ∀ (n : Nat) (x1 : Int32) (w : zW) (H : Heap) (locs : List Loc) (ls : Array Slot), fX12_isGuessed_L2 k n x1 w → zSt D dA true ad0 al0 ad al w s H locs → lv_has ls 2 [(0, .ref (ad 200)), (1, .int x1)] → W p l e R s m args below meth c H locs cells slots Q (F0 m 2 ls []) := by
  intro n
  induction n with
  | zero => exact fun _ _ _ _ _ hf => hf.elim
  | succ n ih =>
    intro x1 w H locs ls hf hR hl
    have hx := X.1
    have hb := X.2.1
    have hml := X.2.2.1
    have hown := X.2.2.2.1
    have hts := X.2.2.2.2.1
    rw [fX12_isGuessed_L2] at hf
    refine lv_iload_n hx hb dX12_isGuessed_2 rfl (lv_at hl 1 rfl) ?_
    refine lv_aload_n hx hb dX12_isGuessed_3 rfl (lv_at hl 0 rfl) ?_
    refine z_callVI (fr1 := 0) (b := 200) (As := []) (rest := [.int x1]) X (hr.le (by decide)) hR zy_X12_wordsTold zq_211 (zlit hR zf_200) (by rw [zs_200]; rfl) rfl (mX12_wordsTold  hf) rfl hl (Nat.le_of_ble_eq_true rfl) dX12_isGuessed_4 rfl (fun r1 w1 H locs hf hR => ?_)
    refine lv_icmp_ge (tgt := 39) hx hb dX12_isGuessed_7 (by decide) (fun c2 => ?_) (fun c2 => ?_)
    · replace hf := hf.1 c2
      refine lv_aload_n hx hb dX12_isGuessed_39 rfl (lv_at hl 0 rfl) ?_
      refine z_callVV (fr1 := 1) (b := 200) (As := []) (rest := []) X (hr.le (by decide)) hR zy_X12_goes zq_1082 (zlit hR zf_200) (by rw [zs_200]; rfl) rfl (mX12_goes  hf) rfl hl (Nat.le_of_ble_eq_true rfl) dX12_isGuessed_40 rfl (fun w3 H locs hf hR => ?_)
      refine lv_iconst (v := (1 : Int32)) hx hb dX12_isGuessed_43 (by decide) ?_
      exact hQ _ _ _ _ _ _ zb01_1 hf hR dX12_isGuessed_44
    · replace hf := hf.2 c2
      refine lv_aload_n hx hb dX12_isGuessed_10 rfl (lv_at hl 0 rfl) ?_
      refine z_getS X hR (zlit hR zf_200) zs_200 (by decide) zfd_X12_103 rfl (r := 220) (by decide +kernel) dX12_isGuessed_11 ?_
      refine lv_iload_n hx hb dX12_isGuessed_14 rfl (lv_at hl 1 rfl) ?_
      obtain ⟨hb4, hf⟩ := hf
      refine z_iald X hR (zlit hR zf_220) zs_220 zl_220 hb4 dX12_isGuessed_15 ?_
      refine lv_if_ge (tgt := 21) hx hb dX12_isGuessed_16 (by decide) (fun c5 => ?_) (fun c5 => ?_)
      · replace hf := hf.1 c5
        refine lv_aload_n hx hb dX12_isGuessed_21 rfl (lv_at hl 0 rfl) ?_
        refine z_getS X hR (zlit hR zf_200) zs_200 (by decide) zfd_X12_122 rfl (r := 227) (by decide +kernel) dX12_isGuessed_22 ?_
        refine lv_iload_n hx hb dX12_isGuessed_25 rfl (lv_at hl 1 rfl) ?_
        refine lv_aload_n hx hb dX12_isGuessed_26 rfl (lv_at hl 0 rfl) ?_
        refine z_getS X hR (zlit hR zf_200) zs_200 (by decide) zfd_X12_103 rfl (r := 220) (by decide +kernel) dX12_isGuessed_27 ?_
        refine lv_iload_n hx hb dX12_isGuessed_30 rfl (lv_at hl 1 rfl) ?_
        refine z_iald X hR (zlit hR zf_220) zs_220 zl_220 hb4 dX12_isGuessed_31 ?_
        obtain ⟨hb6, hf⟩ := hf
        refine z_iast X hR (zlit hR zf_227) zs_227 zl_227 hb6 dX12_isGuessed_32 (fun H locs hR => ?_)
        obtain ⟨w7, hw7⟩ : ∃ z : zW, z = sI w1 227 x1.toNatClampNeg (gI w1 220 x1.toNatClampNeg) := ⟨_, rfl⟩
        rw [← hw7] at hR
        replace hf := hf w7 hw7
        refine lv_iinc (v := x1 + (1 : Int32)) (lv' := [(1, .int (x1 + (1 : Int32))), (0, .ref (ad 200))]) hx hb dX12_isGuessed_33 hl (k := 1) rfl rfl (by decide) rfl (fun ls hl => ?_)
        refine lv_goto (tgt := 2) hx hb dX12_isGuessed_36 (by decide) ?_
        exact ih (x1 + (1 : Int32)) w7 _ _ _ hf hR (lv_sub hl [1, 0] rfl)
      · replace hf := hf.2 c5
        refine lv_iconst (v := (0 : Int32)) hx hb dX12_isGuessed_19 (by decide) ?_
        exact hQ _ _ _ _ _ _ zb01_0 hf hR dX12_isGuessed_20
def fX12_isGuessed (w : zW) (k : Int32 → zW → Prop) : Prop :=
  ∃ n9, fX12_isGuessed_L2 k n9 (0 : Int32) w
set_option maxHeartbeats 4000000 in
set_option maxRecDepth 100000 in
theorem mX12_isGuessed {l : Launch} {D : va_G} {dA : Nat → ClassId} {ad : Nat → Nat} {al : Nat → Prop} {w : zW} {k : Int32 → zW → Prop}   (hf : fX12_isGuessed w k) : zmetI l yX12_isGuessed cX12_isGuessed 2 (some .boolean) 2 [.ref (ad 200)] D dA true ad al w k := by
  refine zmetZ_of (by decide) (Nat.le_of_ble_eq_true rfl) ?_
  intro p e R s m below meth c Q H ls args locs cells slots X hr hQ hR hl
  have hx := X.1
  have hb := X.2.1
  have hml := X.2.2.1
  have hown := X.2.2.2.1
  have hts := X.2.2.2.2.1
  unfold fX12_isGuessed at hf
  have hl : lv_has ls 2 [(0, .ref (ad 200))] := hl
  refine lv_iconst (v := (0 : Int32)) hx hb dX12_isGuessed_0 (by decide) ?_
  refine lv_istore_n (lv' := [(1, .int (0 : Int32)), (0, .ref (ad 200))]) hx hb dX12_isGuessed_1 rfl hl (by decide) rfl (fun ls hl => ?_)
  obtain ⟨n9, hf⟩ := hf
  exact mX12_isGuessed_L2 X hr hQ  n9 (0 : Int32) w _ _ _ hf hR (lv_sub hl [1, 0] rfl)
/-! X12_badNow -/
def fX12_badNow_L9 (k : Int32 → zW → Prop) : Nat → Int32 → Int32 → zW → Prop
  | 0 => fun _ _ _ => False
  | n + 1 => fun x1 x2 w =>
    ((x2 < 0 →
      k x1 w) ∧
     (¬ x2 < 0 →
      (((((gI w 200 29) >>> (x2 &&& 31)) &&& (1 : Int32)) = 0 →
        fX12_badNow_L9 k n x2 (x2 + (-1 : Int32)) w) ∧
       (¬ (((gI w 200 29) >>> (x2 &&& 31)) &&& (1 : Int32)) = 0 →
        ∀ v5 : Int32, v5 = (if ¬ (((gI w 200 30) >>> (x2 &&& 31)) &&& (1 : Int32)) = (1 : Int32) then x1 else x2) →
        fX12_badNow_L9 k n v5 (x2 + (-1 : Int32)) w))))
set_option maxHeartbeats 4000000 in
set_option maxRecDepth 100000 in
theorem mX12_badNow_L9 {k : Int32 → zW → Prop} (X : zCx p s m args meth c cX12_badNow 3 RX12 (some .int)) (hr : zRm R 1 cells slots) (hQ : zRetI p l e R s m args below meth c cells slots Q D dA true ad0 al0 ad al cX12_badNow k)  : ∀ (n : Nat) (x1 : Int32) (x2 : Int32) (w : zW) (H : Heap) (locs : List Loc) (ls : Array Slot), fX12_badNow_L9 k n x1 x2 w → zSt D dA true ad0 al0 ad al w s H locs → lv_has ls 3 [(0, .ref (ad 200)), (1, .int x1), (2, .int x2)] → W p l e R s m args below meth c H locs cells slots Q (F0 m 9 ls []) := by
  intro n
  induction n with
  | zero => exact fun _ _ _ _ _ _ hf => hf.elim
  | succ n ih =>
    intro x1 x2 w H locs ls hf hR hl
    have hx := X.1
    have hb := X.2.1
    have hml := X.2.2.1
    have hown := X.2.2.2.1
    have hts := X.2.2.2.2.1
    rw [fX12_badNow_L9] at hf
    refine lv_iload_n hx hb dX12_badNow_9 rfl (lv_at hl 2 rfl) ?_
    refine lv_if_lt (tgt := 48) hx hb dX12_badNow_10 (by decide) (fun c3 => ?_) (fun c3 => ?_)
    · replace hf := hf.1 c3
      refine lv_iload_n hx hb dX12_badNow_48 rfl (lv_at hl 1 rfl) ?_
      exact hQ _ _ _ _ _ _ hf hR dX12_badNow_49
    · replace hf := hf.2 c3
      refine lv_aload_n hx hb dX12_badNow_13 rfl (lv_at hl 0 rfl) ?_
      refine z_getI X hR (zlit hR zf_200) zs_200 (by decide) zfd_X12_349 rfl dX12_badNow_14 ?_
      refine lv_iload_n hx hb dX12_badNow_17 rfl (lv_at hl 2 rfl) ?_
      refine lv_ishr hx hb dX12_badNow_18 ?_
      refine lv_iconst (v := (1 : Int32)) hx hb dX12_badNow_19 (by decide) ?_
      refine lv_iand hx hb dX12_badNow_20 ?_
      refine lv_if_eq (tgt := 36) hx hb dX12_badNow_21 (by decide) (fun c4 => ?_) (fun c4 => ?_)
      · replace hf := hf.1 c4
        refine lv_iload_n hx hb dX12_badNow_36 rfl (lv_at hl 2 rfl) ?_
        refine lv_goto (tgt := 41) hx hb dX12_badNow_37 (by decide) ?_
        refine lv_istore_n (lv' := [(1, .int x2), (0, .ref (ad 200)), (2, .int x2)]) hx hb dX12_badNow_41 rfl hl (by decide) rfl (fun ls hl => ?_)
        refine lv_iinc (v := x2 + (-1 : Int32)) (lv' := [(2, .int (x2 + (-1 : Int32))), (1, .int x2), (0, .ref (ad 200))]) hx hb dX12_badNow_42 hl (k := 2) rfl rfl (by decide) rfl (fun ls hl => ?_)
        refine lv_goto (tgt := 9) hx hb dX12_badNow_45 (by decide) ?_
        exact ih x2 (x2 + (-1 : Int32)) w _ _ _ hf hR (lv_sub hl [2, 1, 0] rfl)
      · replace hf := hf.2 c4
        refine lv_aload_n hx hb dX12_badNow_24 rfl (lv_at hl 0 rfl) ?_
        refine z_getI X hR (zlit hR zf_200) zs_200 (by decide) zfd_X12_352 rfl dX12_badNow_25 ?_
        refine lv_iload_n hx hb dX12_badNow_28 rfl (lv_at hl 2 rfl) ?_
        refine lv_ishr hx hb dX12_badNow_29 ?_
        refine lv_iconst (v := (1 : Int32)) hx hb dX12_badNow_30 (by decide) ?_
        refine lv_iand hx hb dX12_badNow_31 ?_
        refine lv_iconst (v := (1 : Int32)) hx hb dX12_badNow_32 (by decide) ?_
        have kJ5 : ∀ v5 : Int32, v5 = (if ¬ (((gI w 200 30) >>> (x2 &&& 31)) &&& (1 : Int32)) = (1 : Int32) then x1 else x2) → W p l e R s m args below meth c H locs cells slots Q (F0 m 41 ls (.int v5 :: [])) := by
          intro v5 hv5
          replace hf := hf v5 hv5
          refine lv_istore_n (lv' := [(1, .int v5), (0, .ref (ad 200)), (2, .int x2)]) hx hb dX12_badNow_41 rfl hl (by decide) rfl (fun ls hl => ?_)
          refine lv_iinc (v := x2 + (-1 : Int32)) (lv' := [(2, .int (x2 + (-1 : Int32))), (1, .int v5), (0, .ref (ad 200))]) hx hb dX12_badNow_42 hl (k := 2) rfl rfl (by decide) rfl (fun ls hl => ?_)
          refine lv_goto (tgt := 9) hx hb dX12_badNow_45 (by decide) ?_
          exact ih v5 (x2 + (-1 : Int32)) w _ _ _ hf hR (lv_sub hl [2, 1, 0] rfl)
        refine lv_icmp_ne (tgt := 40) hx hb dX12_badNow_33 (by decide) (fun c5 => ?_) (fun c5 => ?_)
        · refine lv_iload_n hx hb dX12_badNow_40 rfl (lv_at hl 1 rfl) ?_
          exact kJ5 _ (if_pos c5).symm
        · refine lv_iload_n hx hb dX12_badNow_36 rfl (lv_at hl 2 rfl) ?_
          refine lv_goto (tgt := 41) hx hb dX12_badNow_37 (by decide) ?_
          exact kJ5 _ (if_neg (fun h9 => h9 c5)).symm
def fX12_badNow (w : zW) (k : Int32 → zW → Prop) : Prop :=
  fX12_rows  w (fun r1 w1 =>
  ∀ v2 : Int32, v2 = r1 - (1 : Int32) →
  ∃ n9, fX12_badNow_L9 k n9 (-1 : Int32) v2 w1)
set_option maxHeartbeats 4000000 in
set_option maxRecDepth 100000 in
theorem mX12_badNow {l : Launch} {D : va_G} {dA : Nat → ClassId} {ad : Nat → Nat} {al : Nat → Prop} {w : zW} {k : Int32 → zW → Prop}   (hf : fX12_badNow w k) : zmetI l yX12_badNow cX12_badNow 3 (some .int) 1 [.ref (ad 200)] D dA true ad al w k := by
  refine zmetI_of (by decide) (Nat.le_of_ble_eq_true rfl) ?_
  intro p e R s m below meth c Q H ls args locs cells slots X hr hQ hR hl
  have hx := X.1
  have hb := X.2.1
  have hml := X.2.2.1
  have hown := X.2.2.2.1
  have hts := X.2.2.2.2.1
  unfold fX12_badNow at hf
  have hl : lv_has ls 3 [(0, .ref (ad 200))] := hl
  refine lv_iconst (v := (-1 : Int32)) hx hb dX12_badNow_0 (by decide) ?_
  refine lv_istore_n (lv' := [(1, .int (-1 : Int32)), (0, .ref (ad 200))]) hx hb dX12_badNow_1 rfl hl (by decide) rfl (fun ls hl => ?_)
  refine lv_aload_n hx hb dX12_badNow_2 rfl (lv_at hl 1 rfl) ?_
  refine z_callVI (fr1 := 0) (b := 200) (As := []) (rest := []) X (hr.le (by decide)) hR zy_X12_rows zq_199 (zlit hR zf_200) (by rw [zs_200]; rfl) rfl (mX12_rows  hf) rfl hl (Nat.le_of_ble_eq_true rfl) dX12_badNow_3 rfl (fun r1 w1 H locs hf hR => ?_)
  refine lv_iconst (v := (1 : Int32)) hx hb dX12_badNow_6 (by decide) ?_
  refine lv_isub hx hb dX12_badNow_7 ?_
  refine lv_topi (fun v2 hv2 => ?_)
  replace hf := hf v2 hv2
  refine lv_istore_n (lv' := [(2, .int v2), (1, .int (-1 : Int32)), (0, .ref (ad 200))]) hx hb dX12_badNow_8 rfl hl (by decide) rfl (fun ls hl => ?_)
  obtain ⟨n9, hf⟩ := hf
  exact mX12_badNow_L9 X hr hQ  n9 (-1 : Int32) v2 w1 _ _ _ hf hR (lv_sub hl [2, 1, 0] rfl)
/-! X12_bad -/
def fX12_bad (w : zW) (k : Int32 → zW → Prop) : Prop :=
  ∀ w1 : zW, w1 = sI w 200 0 (0 : Int32) →
  fX12_isGuessed  w1 (fun r2 w2 =>
  ((r2 = 0 →
    k (-1 : Int32) w2) ∧
   (¬ r2 = 0 →
    fX12_badNow  w2 (fun r4 w4 =>
    k r4 w4))))
set_option maxHeartbeats 4000000 in
set_option maxRecDepth 100000 in
theorem mX12_bad {l : Launch} {D : va_G} {dA : Nat → ClassId} {ad : Nat → Nat} {al : Nat → Prop} {w : zW} {k : Int32 → zW → Prop}   (hf : fX12_bad w k) : zmetI l yX12_bad cX12_bad 1 (some .int) 3 [.ref (ad 200)] D dA true ad al w k := by
  refine zmetI_of (by decide) (Nat.le_of_ble_eq_true rfl) ?_
  intro p e R s m below meth c Q H ls args locs cells slots X hr hQ hR hl
  have hx := X.1
  have hb := X.2.1
  have hml := X.2.2.1
  have hown := X.2.2.2.1
  have hts := X.2.2.2.2.1
  unfold fX12_bad at hf
  have hl : lv_has ls 1 [(0, .ref (ad 200))] := hl
  refine lv_aload_n hx hb dX12_bad_0 rfl (lv_at hl 0 rfl) ?_
  refine lv_iconst (v := (0 : Int32)) hx hb dX12_bad_1 (by decide) ?_
  refine z_putI X hR (zlit hR zf_200) zs_200 (by decide) zfp_X12_1 rfl dX12_bad_2 (fun H locs hR => ?_)
  obtain ⟨w1, hw1⟩ : ∃ z : zW, z = sI w 200 0 (0 : Int32) := ⟨_, rfl⟩
  rw [← hw1] at hR
  replace hf := hf w1 hw1
  refine lv_aload_n hx hb dX12_bad_5 rfl (lv_at hl 0 rfl) ?_
  refine z_callVI (fr1 := 2) (b := 200) (As := []) (rest := []) X (hr.le (by decide)) hR zy_X12_isGuessed zq_1317 (zlit hR zf_200) (by rw [zs_200]; rfl) rfl (mX12_isGuessed  hf) rfl hl (Nat.le_of_ble_eq_true rfl) dX12_bad_6 rfl (fun r2 w2 H locs hf hR => ?_)
  refine lv_if_eq (tgt := 19) hx hb dX12_bad_9 (by decide) (fun c3 => ?_) (fun c3 => ?_)
  · replace hf := hf.1 c3
    refine lv_iconst (v := (-1 : Int32)) hx hb dX12_bad_19 (by decide) ?_
    exact hQ _ _ _ _ _ _ hf hR dX12_bad_20
  · replace hf := hf.2 c3
    refine lv_aload_n hx hb dX12_bad_12 rfl (lv_at hl 0 rfl) ?_
    refine z_callVI (fr1 := 1) (b := 200) (As := []) (rest := []) X (hr.le (by decide)) hR zy_X12_badNow zq_1321 (zlit hR zf_200) (by rw [zs_200]; rfl) rfl (mX12_badNow  hf) rfl hl (Nat.le_of_ble_eq_true rfl) dX12_bad_13 rfl (fun r4 w4 H locs hf hR => ?_)
    refine lv_goto (tgt := 20) hx hb dX12_bad_16 (by decide) ?_
    exact hQ _ _ _ _ _ _ hf hR dX12_bad_20
/-! X12_off -/
def fX12_off_L31 (k : Int32 → zW → Prop) : Nat → Int32 → Int32 → Int32 → zW → Prop
  | 0 => fun _ _ _ _ => False
  | n + 1 => fun x1 x2 x3 w =>
    fX12_wordsTold  w (fun r5 w5 =>
    ((r5 ≤ x3 →
      ((¬ x1 = 0 →
        vp_in (x1 - (1 : Int32)) 8 ∧ 
        k (x2 - (gI w5 228 (x1 - (1 : Int32)).toNatClampNeg)) w5) ∧
       (x1 = 0 →
        k (x2 - (gI w5 210 (1 : Int32).toNatClampNeg)) w5))) ∧
     (¬ r5 ≤ x3 →
      vp_in (((4 : Int32) * x1) + x3) 32 ∧ 
      vp_in x3 4 ∧ 
      ∀ v11 : Int32, v11 = x2 + ((gI w5 225 (((4 : Int32) * x1) + x3).toNatClampNeg) * ((gI w5 227 x3.toNatClampNeg) / (3 : Int32))) →
      fX12_off_L31 k n x1 v11 (x3 + (1 : Int32)) w5)))
set_option maxHeartbeats 4000000 in
set_option maxRecDepth 100000 in
theorem mX12_off_L31 {k : Int32 → zW → Prop} (X : zCx p s m args meth c cX12_off 4 RX12 (some .int)) (hr : zRm R 3 cells slots) (hQ : zRetI p l e R s m args below meth c cells slots Q D dA true ad0 al0 ad al cX12_off k)  : ∀ (n : Nat) (x1 : Int32) (x2 : Int32) (x3 : Int32) (w : zW) (H : Heap) (locs : List Loc) (ls : Array Slot), fX12_off_L31 k n x1 x2 x3 w → zSt D dA true ad0 al0 ad al w s H locs → lv_has ls 4 [(0, .ref (ad 200)), (1, .int x1), (2, .int x2), (3, .int x3)] → W p l e R s m args below meth c H locs cells slots Q (F0 m 31 ls []) := by
  intro n
  induction n with
  | zero => exact fun _ _ _ _ _ _ _ hf => hf.elim
  | succ n ih =>
    intro x1 x2 x3 w H locs ls hf hR hl
    have hx := X.1
    have hb := X.2.1
    have hml := X.2.2.1
    have hown := X.2.2.2.1
    have hts := X.2.2.2.2.1
    rw [fX12_off_L31] at hf
    refine lv_iload_n hx hb dX12_off_31 rfl (lv_at hl 3 rfl) ?_
    refine lv_aload_n hx hb dX12_off_32 rfl (lv_at hl 0 rfl) ?_
    refine z_callVI (fr1 := 0) (b := 200) (As := []) (rest := [.int x3]) X (hr.le (by decide)) hR zy_X12_wordsTold zq_211 (zlit hR zf_200) (by rw [zs_200]; rfl) rfl (mX12_wordsTold  hf) rfl hl (Nat.le_of_ble_eq_true rfl) dX12_off_33 rfl (fun r5 w5 H locs hf hR => ?_)
    refine lv_icmp_ge (tgt := 67) hx hb dX12_off_36 (by decide) (fun c6 => ?_) (fun c6 => ?_)
    · replace hf := hf.1 c6
      refine lv_iload_n hx hb dX12_off_67 rfl (lv_at hl 2 rfl) ?_
      refine lv_iload_n hx hb dX12_off_68 rfl (lv_at hl 1 rfl) ?_
      refine lv_if_ne (tgt := 81) hx hb dX12_off_69 (by decide) (fun c7 => ?_) (fun c7 => ?_)
      · replace hf := hf.1 c7
        refine lv_aload_n hx hb dX12_off_81 rfl (lv_at hl 0 rfl) ?_
        refine z_getS X hR (zlit hR zf_200) zs_200 (by decide) zfd_X12_125 rfl (r := 228) (by decide +kernel) dX12_off_82 ?_
        refine lv_iload_n hx hb dX12_off_85 rfl (lv_at hl 1 rfl) ?_
        refine lv_iconst (v := (1 : Int32)) hx hb dX12_off_86 (by decide) ?_
        refine lv_isub hx hb dX12_off_87 ?_
        obtain ⟨hb8, hf⟩ := hf
        refine z_iald X hR (zlit hR zf_228) zs_228 zl_228 hb8 dX12_off_88 ?_
        refine lv_isub hx hb dX12_off_89 ?_
        exact hQ _ _ _ _ _ _ hf hR dX12_off_90
      · replace hf := hf.2 c7
        refine lv_aload_n hx hb dX12_off_72 rfl (lv_at hl 0 rfl) ?_
        refine z_getS X hR (zlit hR zf_200) zs_200 (by decide) zfd_X12_79 rfl (r := 210) (by decide +kernel) dX12_off_73 ?_
        refine lv_iconst (v := (1 : Int32)) hx hb dX12_off_76 (by decide) ?_
        refine z_iald X hR (zlit hR zf_210) zs_210 zl_210 (zin (by decide)) dX12_off_77 ?_
        refine lv_goto (tgt := 89) hx hb dX12_off_78 (by decide) ?_
        refine lv_isub hx hb dX12_off_89 ?_
        exact hQ _ _ _ _ _ _ hf hR dX12_off_90
    · replace hf := hf.2 c6
      refine lv_iload_n hx hb dX12_off_39 rfl (lv_at hl 2 rfl) ?_
      refine lv_aload_n hx hb dX12_off_40 rfl (lv_at hl 0 rfl) ?_
      refine z_getS X hR (zlit hR zf_200) zs_200 (by decide) zfd_X12_116 rfl (r := 225) (by decide +kernel) dX12_off_41 ?_
      refine lv_iconst (v := (4 : Int32)) hx hb dX12_off_44 (by decide) ?_
      refine lv_iload_n hx hb dX12_off_45 rfl (lv_at hl 1 rfl) ?_
      refine lv_imul hx hb dX12_off_46 ?_
      refine lv_iload_n hx hb dX12_off_47 rfl (lv_at hl 3 rfl) ?_
      refine lv_iadd hx hb dX12_off_48 ?_
      obtain ⟨hb9, hf⟩ := hf
      refine z_iald X hR (zlit hR zf_225) zs_225 zl_225 hb9 dX12_off_49 ?_
      refine lv_aload_n hx hb dX12_off_50 rfl (lv_at hl 0 rfl) ?_
      refine z_getS X hR (zlit hR zf_200) zs_200 (by decide) zfd_X12_122 rfl (r := 227) (by decide +kernel) dX12_off_51 ?_
      refine lv_iload_n hx hb dX12_off_54 rfl (lv_at hl 3 rfl) ?_
      obtain ⟨hb10, hf⟩ := hf
      refine z_iald X hR (zlit hR zf_227) zs_227 zl_227 hb10 dX12_off_55 ?_
      refine lv_iconst (v := (3 : Int32)) hx hb dX12_off_56 (by decide) ?_
      refine lv_idiv hx hb dX12_off_57 (by decide) ?_
      refine lv_imul hx hb dX12_off_58 ?_
      refine lv_iadd hx hb dX12_off_59 ?_
      refine lv_topi (fun v11 hv11 => ?_)
      replace hf := hf v11 hv11
      refine lv_istore_n (lv' := [(2, .int v11), (0, .ref (ad 200)), (1, .int x1), (3, .int x3)]) hx hb dX12_off_60 rfl hl (by decide) rfl (fun ls hl => ?_)
      refine lv_iinc (v := x3 + (1 : Int32)) (lv' := [(3, .int (x3 + (1 : Int32))), (2, .int v11), (0, .ref (ad 200)), (1, .int x1)]) hx hb dX12_off_61 hl (k := 3) rfl rfl (by decide) rfl (fun ls hl => ?_)
      refine lv_goto (tgt := 31) hx hb dX12_off_64 (by decide) ?_
      exact ih x1 v11 (x3 + (1 : Int32)) w5 _ _ _ hf hR (lv_sub hl [2, 3, 1, 0] rfl)
def fX12_off_J20 (k : Int32 → zW → Prop) (t0 : Int32) (w : zW) : Prop :=
  ((0 ≤ t0 →
    ∃ n9, fX12_off_L31 k n9 t0 (0 : Int32) (0 : Int32) w) ∧
   (¬ 0 ≤ t0 →
    k (0 : Int32) w))
set_option maxHeartbeats 4000000 in
set_option maxRecDepth 100000 in
theorem mX12_off_J20 {k : Int32 → zW → Prop} (X : zCx p s m args meth c cX12_off 4 RX12 (some .int)) (hr : zRm R 3 cells slots) (hQ : zRetI p l e R s m args below meth c cells slots Q D dA true ad0 al0 ad al cX12_off k)  {t0 : Int32} {w : zW} {H : Heap} {locs : List Loc} {ls : Array Slot} (hf : fX12_off_J20 k t0 w) (hR : zSt D dA true ad0 al0 ad al w s H locs) (hl : lv_has ls 4 [(0, .ref (ad 200))]) : W p l e R s m args below meth c H locs cells slots Q (F0 m 20 ls [.int t0]) := by
  have hx := X.1
  have hb := X.2.1
  have hml := X.2.2.1
  have hown := X.2.2.2.1
  have hts := X.2.2.2.2.1
  unfold fX12_off_J20 at hf
  refine lv_istore_n (lv' := [(1, .int t0), (0, .ref (ad 200))]) hx hb dX12_off_20 rfl hl (by decide) rfl (fun ls hl => ?_)
  refine lv_iload_n hx hb dX12_off_21 rfl (lv_at hl 0 rfl) ?_
  refine lv_if_ge (tgt := 27) hx hb dX12_off_22 (by decide) (fun c4 => ?_) (fun c4 => ?_)
  · replace hf := hf.1 c4
    refine lv_iconst (v := (0 : Int32)) hx hb dX12_off_27 (by decide) ?_
    refine lv_istore_n (lv' := [(2, .int (0 : Int32)), (1, .int t0), (0, .ref (ad 200))]) hx hb dX12_off_28 rfl hl (by decide) rfl (fun ls hl => ?_)
    refine lv_iconst (v := (0 : Int32)) hx hb dX12_off_29 (by decide) ?_
    refine lv_istore_n (lv' := [(3, .int (0 : Int32)), (2, .int (0 : Int32)), (1, .int t0), (0, .ref (ad 200))]) hx hb dX12_off_30 rfl hl (by decide) rfl (fun ls hl => ?_)
    obtain ⟨n9, hf⟩ := hf
    exact mX12_off_L31 X hr hQ  n9 t0 (0 : Int32) (0 : Int32) w _ _ _ hf hR (lv_sub hl [3, 2, 1, 0] rfl)
  · replace hf := hf.2 c4
    refine lv_iconst (v := (0 : Int32)) hx hb dX12_off_25 (by decide) ?_
    exact hQ _ _ _ _ _ _ hf hR dX12_off_26
def fX12_off (w : zW) (k : Int32 → zW → Prop) : Prop :=
  ∀ w1 : zW, w1 = sI w 200 0 (0 : Int32) →
  fX12_isGuessed  w1 (fun r2 w2 =>
  ((r2 = 0 →
    fX12_off_J20 k (-1 : Int32) w2) ∧
   (¬ r2 = 0 →
    fX12_badNow  w2 (fun r12 w12 =>
    fX12_off_J20 k r12 w12))))
set_option maxHeartbeats 4000000 in
set_option maxRecDepth 100000 in
theorem mX12_off {l : Launch} {D : va_G} {dA : Nat → ClassId} {ad : Nat → Nat} {al : Nat → Prop} {w : zW} {k : Int32 → zW → Prop}   (hf : fX12_off w k) : zmetI l yX12_off cX12_off 4 (some .int) 3 [.ref (ad 200)] D dA true ad al w k := by
  refine zmetI_of (by decide) (Nat.le_of_ble_eq_true rfl) ?_
  intro p e R s m below meth c Q H ls args locs cells slots X hr hQ hR hl
  have hx := X.1
  have hb := X.2.1
  have hml := X.2.2.1
  have hown := X.2.2.2.1
  have hts := X.2.2.2.2.1
  unfold fX12_off at hf
  have hl : lv_has ls 4 [(0, .ref (ad 200))] := hl
  refine lv_aload_n hx hb dX12_off_0 rfl (lv_at hl 0 rfl) ?_
  refine lv_iconst (v := (0 : Int32)) hx hb dX12_off_1 (by decide) ?_
  refine z_putI X hR (zlit hR zf_200) zs_200 (by decide) zfp_X12_1 rfl dX12_off_2 (fun H locs hR => ?_)
  obtain ⟨w1, hw1⟩ : ∃ z : zW, z = sI w 200 0 (0 : Int32) := ⟨_, rfl⟩
  rw [← hw1] at hR
  replace hf := hf w1 hw1
  refine lv_aload_n hx hb dX12_off_5 rfl (lv_at hl 0 rfl) ?_
  refine z_callVI (fr1 := 2) (b := 200) (As := []) (rest := []) X (hr.le (by decide)) hR zy_X12_isGuessed zq_1317 (zlit hR zf_200) (by rw [zs_200]; rfl) rfl (mX12_isGuessed  hf) rfl hl (Nat.le_of_ble_eq_true rfl) dX12_off_6 rfl (fun r2 w2 H locs hf hR => ?_)
  refine lv_if_eq (tgt := 19) hx hb dX12_off_9 (by decide) (fun c3 => ?_) (fun c3 => ?_)
  · replace hf := hf.1 c3
    refine lv_iconst (v := (-1 : Int32)) hx hb dX12_off_19 (by decide) ?_
    exact mX12_off_J20 X hr hQ  hf hR (lv_sub hl [0] rfl)
  · replace hf := hf.2 c3
    refine lv_aload_n hx hb dX12_off_12 rfl (lv_at hl 0 rfl) ?_
    refine z_callVI (fr1 := 1) (b := 200) (As := []) (rest := []) X (hr.le (by decide)) hR zy_X12_badNow zq_1321 (zlit hR zf_200) (by rw [zs_200]; rfl) rfl (mX12_badNow  hf) rfl hl (Nat.le_of_ble_eq_true rfl) dX12_off_13 rfl (fun r12 w12 H locs hf hR => ?_)
    refine lv_goto (tgt := 20) hx hb dX12_off_16 (by decide) ?_
    exact mX12_off_J20 X hr hQ  hf hR (lv_sub hl [0] rfl)
/-! X12_behind -/
def fX12_behind (x1 : Int32) (w : zW) (k : Int32 → zW → Prop) : Prop :=
  ∀ w1 : zW, w1 = sI w 200 0 (0 : Int32) →
  fX12_isRow x1 w1 (fun r2 w2 =>
  ((r2 = 0 →
    k (-1 : Int32) w2) ∧
   (¬ r2 = 0 →
    fX12_isGuessed  w2 (fun r4 w4 =>
    ((r4 = 0 →
      k (-1 : Int32) w4) ∧
     (¬ r4 = 0 →
      vp_in x1 8 ∧ 
      k (gI w4 228 x1.toNatClampNeg) w4))))))
set_option maxHeartbeats 4000000 in
set_option maxRecDepth 100000 in
theorem mX12_behind {l : Launch} {D : va_G} {dA : Nat → ClassId} {ad : Nat → Nat} {al : Nat → Prop} {w : zW} {k : Int32 → zW → Prop} {x1 : Int32}   (hf : fX12_behind x1 w k) : zmetI l yX12_behind cX12_behind 2 (some .int) 3 [.ref (ad 200), .int x1] D dA true ad al w k := by
  refine zmetI_of (by decide) (Nat.le_of_ble_eq_true rfl) ?_
  intro p e R s m below meth c Q H ls args locs cells slots X hr hQ hR hl
  have hx := X.1
  have hb := X.2.1
  have hml := X.2.2.1
  have hown := X.2.2.2.1
  have hts := X.2.2.2.2.1
  unfold fX12_behind at hf
  have hl : lv_has ls 2 [(0, .ref (ad 200)), (1, .int x1)] := hl
  refine lv_aload_n hx hb dX12_behind_0 rfl (lv_at hl 0 rfl) ?_
  refine lv_iconst (v := (0 : Int32)) hx hb dX12_behind_1 (by decide) ?_
  refine z_putI X hR (zlit hR zf_200) zs_200 (by decide) zfp_X12_1 rfl dX12_behind_2 (fun H locs hR => ?_)
  obtain ⟨w1, hw1⟩ : ∃ z : zW, z = sI w 200 0 (0 : Int32) := ⟨_, rfl⟩
  rw [← hw1] at hR
  replace hf := hf w1 hw1
  refine lv_aload_n hx hb dX12_behind_5 rfl (lv_at hl 0 rfl) ?_
  refine lv_iload_n hx hb dX12_behind_6 rfl (lv_at hl 1 rfl) ?_
  refine z_callVI (fr1 := 1) (b := 200) (As := [.int x1]) (rest := []) X (hr.le (by decide)) hR zy_X12_isRow zq_833 (zlit hR zf_200) (by rw [zs_200]; rfl) rfl (mX12_isRow  hf) rfl hl (Nat.le_of_ble_eq_true rfl) dX12_behind_7 rfl (fun r2 w2 H locs hf hR => ?_)
  refine lv_if_eq (tgt := 29) hx hb dX12_behind_10 (by decide) (fun c3 => ?_) (fun c3 => ?_)
  · replace hf := hf.1 c3
    refine lv_iconst (v := (-1 : Int32)) hx hb dX12_behind_29 (by decide) ?_
    exact hQ _ _ _ _ _ _ hf hR dX12_behind_30
  · replace hf := hf.2 c3
    refine lv_aload_n hx hb dX12_behind_13 rfl (lv_at hl 0 rfl) ?_
    refine z_callVI (fr1 := 2) (b := 200) (As := []) (rest := []) X (hr.le (by decide)) hR zy_X12_isGuessed zq_1317 (zlit hR zf_200) (by rw [zs_200]; rfl) rfl (mX12_isGuessed  hf) rfl hl (Nat.le_of_ble_eq_true rfl) dX12_behind_14 rfl (fun r4 w4 H locs hf hR => ?_)
    refine lv_if_eq (tgt := 29) hx hb dX12_behind_17 (by decide) (fun c5 => ?_) (fun c5 => ?_)
    · replace hf := hf.1 c5
      refine lv_iconst (v := (-1 : Int32)) hx hb dX12_behind_29 (by decide) ?_
      exact hQ _ _ _ _ _ _ hf hR dX12_behind_30
    · replace hf := hf.2 c5
      refine lv_aload_n hx hb dX12_behind_20 rfl (lv_at hl 0 rfl) ?_
      refine z_getS X hR (zlit hR zf_200) zs_200 (by decide) zfd_X12_125 rfl (r := 228) (by decide +kernel) dX12_behind_21 ?_
      refine lv_iload_n hx hb dX12_behind_24 rfl (lv_at hl 1 rfl) ?_
      obtain ⟨hb6, hf⟩ := hf
      refine z_iald X hR (zlit hR zf_228) zs_228 zl_228 hb6 dX12_behind_25 ?_
      refine lv_goto (tgt := 30) hx hb dX12_behind_26 (by decide) ?_
      exact hQ _ _ _ _ _ _ hf hR dX12_behind_30
/-! X12_twins -/
def fX12_twins_J47 (k : Int32 → zW → Prop) (g13 : Int32 → Int32 → zW → Prop) (g23 : Int32 → Int32 → Int32 → zW → Prop) (x2 : Int32) (x3 : Int32) (t0 : Int32) (t1 : Int32) (w : zW) : Prop :=
  ∀ v8 : Int32, v8 = t1 + t0 →
  g23 v8 x2 (x3 + (1 : Int32)) w
set_option maxHeartbeats 4000000 in
set_option maxRecDepth 100000 in
theorem mX12_twins_J47 {k : Int32 → zW → Prop} {g13 : Int32 → Int32 → zW → Prop} {g23 : Int32 → Int32 → Int32 → zW → Prop} (X : zCx p s m args meth c cX12_twins 4 RX12 (some .int)) (hr : zRm R 4 cells slots) (hQ : zRetI p l e R s m args below meth c cells slots Q D dA true ad0 al0 ad al cX12_twins k) (hg13 : ∀ (x1 : Int32) (x2 : Int32) (w : zW) (H : Heap) (locs : List Loc) (ls : Array Slot), g13 x1 x2 w → zSt D dA true ad0 al0 ad al w s H locs → lv_has ls 4 [(0, .ref (ad 200)), (1, .int x1), (2, .int x2)] → W p l e R s m args below meth c H locs cells slots Q (F0 m 13 ls [])) (hg23 : ∀ (x1 : Int32) (x2 : Int32) (x3 : Int32) (w : zW) (H : Heap) (locs : List Loc) (ls : Array Slot), g23 x1 x2 x3 w → zSt D dA true ad0 al0 ad al w s H locs → lv_has ls 4 [(0, .ref (ad 200)), (1, .int x1), (2, .int x2), (3, .int x3)] → W p l e R s m args below meth c H locs cells slots Q (F0 m 23 ls [])) {x2 : Int32} {x3 : Int32} {t0 : Int32} {t1 : Int32} {w : zW} {H : Heap} {locs : List Loc} {ls : Array Slot} (hf : fX12_twins_J47 k g13 g23 x2 x3 t0 t1 w) (hR : zSt D dA true ad0 al0 ad al w s H locs) (hl : lv_has ls 4 [(0, .ref (ad 200)), (2, .int x2), (3, .int x3)]) : W p l e R s m args below meth c H locs cells slots Q (F0 m 47 ls [.int t0, .int t1]) := by
  have hx := X.1
  have hb := X.2.1
  have hml := X.2.2.1
  have hown := X.2.2.2.1
  have hts := X.2.2.2.2.1
  unfold fX12_twins_J47 at hf
  refine lv_iadd hx hb dX12_twins_47 ?_
  refine lv_topi (fun v8 hv8 => ?_)
  replace hf := hf v8 hv8
  refine lv_istore_n (lv' := [(1, .int v8), (0, .ref (ad 200)), (2, .int x2), (3, .int x3)]) hx hb dX12_twins_48 rfl hl (by decide) rfl (fun ls hl => ?_)
  refine lv_iinc (v := x3 + (1 : Int32)) (lv' := [(3, .int (x3 + (1 : Int32))), (1, .int v8), (0, .ref (ad 200)), (2, .int x2)]) hx hb dX12_twins_49 hl (k := 3) rfl rfl (by decide) rfl (fun ls hl => ?_)
  refine lv_goto (tgt := 23) hx hb dX12_twins_52 (by decide) ?_
  exact hg23 v8 x2 (x3 + (1 : Int32)) w _ _ _ hf hR (lv_sub hl [2, 1, 3, 0] rfl)
def fX12_twins_L23 (k : Int32 → zW → Prop) (g13 : Int32 → Int32 → zW → Prop) : Nat → Int32 → Int32 → Int32 → zW → Prop
  | 0 => fun _ _ _ _ => False
  | n + 1 => fun x1 x2 x3 w =>
    ((x2 ≤ x3 →
      g13 x1 (x2 + (1 : Int32)) w) ∧
     (¬ x2 ≤ x3 →
      vp_in (((4 : Int32) * x2) + x3) 16 ∧ 
      ∀ v7 : Int32, v7 = (if (gI w 237 (((4 : Int32) * x2) + x3).toNatClampNeg) = 0 then (0 : Int32) else (1 : Int32)) →
      fX12_twins_J47 k g13 (fX12_twins_L23 k g13 n) x2 x3 v7 x1 w))
set_option maxHeartbeats 4000000 in
set_option maxRecDepth 100000 in
theorem mX12_twins_L23 {k : Int32 → zW → Prop} {g13 : Int32 → Int32 → zW → Prop} (X : zCx p s m args meth c cX12_twins 4 RX12 (some .int)) (hr : zRm R 4 cells slots) (hQ : zRetI p l e R s m args below meth c cells slots Q D dA true ad0 al0 ad al cX12_twins k) (hg13 : ∀ (x1 : Int32) (x2 : Int32) (w : zW) (H : Heap) (locs : List Loc) (ls : Array Slot), g13 x1 x2 w → zSt D dA true ad0 al0 ad al w s H locs → lv_has ls 4 [(0, .ref (ad 200)), (1, .int x1), (2, .int x2)] → W p l e R s m args below meth c H locs cells slots Q (F0 m 13 ls [])) : ∀ (n : Nat) (x1 : Int32) (x2 : Int32) (x3 : Int32) (w : zW) (H : Heap) (locs : List Loc) (ls : Array Slot), fX12_twins_L23 k g13 n x1 x2 x3 w → zSt D dA true ad0 al0 ad al w s H locs → lv_has ls 4 [(0, .ref (ad 200)), (1, .int x1), (2, .int x2), (3, .int x3)] → W p l e R s m args below meth c H locs cells slots Q (F0 m 23 ls []) := by
  intro n
  induction n with
  | zero => exact fun _ _ _ _ _ _ _ hf => hf.elim
  | succ n ih =>
    intro x1 x2 x3 w H locs ls hf hR hl
    have hx := X.1
    have hb := X.2.1
    have hml := X.2.2.1
    have hown := X.2.2.2.1
    have hts := X.2.2.2.2.1
    rw [fX12_twins_L23] at hf
    refine lv_iload_n hx hb dX12_twins_23 rfl (lv_at hl 3 rfl) ?_
    refine lv_iload_n hx hb dX12_twins_24 rfl (lv_at hl 2 rfl) ?_
    refine lv_icmp_ge (tgt := 55) hx hb dX12_twins_25 (by decide) (fun c5 => ?_) (fun c5 => ?_)
    · replace hf := hf.1 c5
      refine lv_iinc (v := x2 + (1 : Int32)) (lv' := [(2, .int (x2 + (1 : Int32))), (0, .ref (ad 200)), (1, .int x1), (3, .int x3)]) hx hb dX12_twins_55 hl (k := 2) rfl rfl (by decide) rfl (fun ls hl => ?_)
      refine lv_goto (tgt := 13) hx hb dX12_twins_58 (by decide) ?_
      exact hg13 x1 (x2 + (1 : Int32)) w _ _ _ hf hR (lv_sub hl [1, 2, 0] rfl)
    · replace hf := hf.2 c5
      refine lv_iload_n hx hb dX12_twins_28 rfl (lv_at hl 1 rfl) ?_
      refine lv_aload_n hx hb dX12_twins_29 rfl (lv_at hl 0 rfl) ?_
      refine z_getS X hR (zlit hR zf_200) zs_200 (by decide) zfd_X12_137 rfl (r := 237) (by decide +kernel) dX12_twins_30 ?_
      refine lv_iconst (v := (4 : Int32)) hx hb dX12_twins_33 (by decide) ?_
      refine lv_iload_n hx hb dX12_twins_34 rfl (lv_at hl 2 rfl) ?_
      refine lv_imul hx hb dX12_twins_35 ?_
      refine lv_iload_n hx hb dX12_twins_36 rfl (lv_at hl 3 rfl) ?_
      refine lv_iadd hx hb dX12_twins_37 ?_
      obtain ⟨hb6, hf⟩ := hf
      refine z_zald X hR (zlit hR zf_237) zs_237 zl_237 hb6 dX12_twins_38 ?_
      have kJ7 : ∀ v7 : Int32, v7 = (if (gI w 237 (((4 : Int32) * x2) + x3).toNatClampNeg) = 0 then (0 : Int32) else (1 : Int32)) → W p l e R s m args below meth c H locs cells slots Q (F0 m 47 ls (.int v7 :: .int x1 :: [])) := by
        intro v7 hv7
        replace hf := hf v7 hv7
        exact mX12_twins_J47 X hr hQ hg13 ih hf hR (lv_sub hl [0, 2, 3] rfl)
      refine lv_if_eq (tgt := 46) hx hb dX12_twins_39 (by decide) (fun c7 => ?_) (fun c7 => ?_)
      · refine lv_iconst (v := (0 : Int32)) hx hb dX12_twins_46 (by decide) ?_
        exact kJ7 _ (if_pos c7).symm
      · refine lv_iconst (v := (1 : Int32)) hx hb dX12_twins_42 (by decide) ?_
        refine lv_goto (tgt := 47) hx hb dX12_twins_43 (by decide) ?_
        exact kJ7 _ (if_neg c7).symm
def fX12_twins_L13 (k : Int32 → zW → Prop) : Nat → Int32 → Int32 → zW → Prop
  | 0 => fun _ _ _ => False
  | n + 1 => fun x1 x2 w =>
    fX12_wordsTold  w (fun r3 w3 =>
    ((r3 ≤ x2 →
      k x1 w3) ∧
     (¬ r3 ≤ x2 →
      ∃ n9, fX12_twins_L23 k (fX12_twins_L13 k n) n9 x1 x2 (0 : Int32) w3)))
set_option maxHeartbeats 4000000 in
set_option maxRecDepth 100000 in
theorem mX12_twins_L13 {k : Int32 → zW → Prop} (X : zCx p s m args meth c cX12_twins 4 RX12 (some .int)) (hr : zRm R 4 cells slots) (hQ : zRetI p l e R s m args below meth c cells slots Q D dA true ad0 al0 ad al cX12_twins k)  : ∀ (n : Nat) (x1 : Int32) (x2 : Int32) (w : zW) (H : Heap) (locs : List Loc) (ls : Array Slot), fX12_twins_L13 k n x1 x2 w → zSt D dA true ad0 al0 ad al w s H locs → lv_has ls 4 [(0, .ref (ad 200)), (1, .int x1), (2, .int x2)] → W p l e R s m args below meth c H locs cells slots Q (F0 m 13 ls []) := by
  intro n
  induction n with
  | zero => exact fun _ _ _ _ _ _ hf => hf.elim
  | succ n ih =>
    intro x1 x2 w H locs ls hf hR hl
    have hx := X.1
    have hb := X.2.1
    have hml := X.2.2.1
    have hown := X.2.2.2.1
    have hts := X.2.2.2.2.1
    rw [fX12_twins_L13] at hf
    refine lv_iload_n hx hb dX12_twins_13 rfl (lv_at hl 2 rfl) ?_
    refine lv_aload_n hx hb dX12_twins_14 rfl (lv_at hl 0 rfl) ?_
    refine z_callVI (fr1 := 0) (b := 200) (As := []) (rest := [.int x2]) X (hr.le (by decide)) hR zy_X12_wordsTold zq_211 (zlit hR zf_200) (by rw [zs_200]; rfl) rfl (mX12_wordsTold  hf) rfl hl (Nat.le_of_ble_eq_true rfl) dX12_twins_15 rfl (fun r3 w3 H locs hf hR => ?_)
    refine lv_icmp_ge (tgt := 61) hx hb dX12_twins_18 (by decide) (fun c4 => ?_) (fun c4 => ?_)
    · replace hf := hf.1 c4
      refine lv_iload_n hx hb dX12_twins_61 rfl (lv_at hl 1 rfl) ?_
      exact hQ _ _ _ _ _ _ hf hR dX12_twins_62
    · replace hf := hf.2 c4
      refine lv_iconst (v := (0 : Int32)) hx hb dX12_twins_21 (by decide) ?_
      refine lv_istore_n (lv' := [(3, .int (0 : Int32)), (0, .ref (ad 200)), (1, .int x1), (2, .int x2)]) hx hb dX12_twins_22 rfl hl (by decide) rfl (fun ls hl => ?_)
      obtain ⟨n9, hf⟩ := hf
      exact mX12_twins_L23 X hr hQ ih n9 x1 x2 (0 : Int32) w3 _ _ _ hf hR (lv_sub hl [1, 2, 3, 0] rfl)
def fX12_twins (w : zW) (k : Int32 → zW → Prop) : Prop :=
  ∀ w1 : zW, w1 = sI w 200 0 (0 : Int32) →
  fX12_gathers  w1 (fun w2 =>
  ∃ n9, fX12_twins_L13 k n9 (0 : Int32) (0 : Int32) w2)
set_option maxHeartbeats 4000000 in
set_option maxRecDepth 100000 in
theorem mX12_twins {l : Launch} {D : va_G} {dA : Nat → ClassId} {ad : Nat → Nat} {al : Nat → Prop} {w : zW} {k : Int32 → zW → Prop}   (hf : fX12_twins w k) : zmetI l yX12_twins cX12_twins 4 (some .int) 4 [.ref (ad 200)] D dA true ad al w k := by
  refine zmetI_of (by decide) (Nat.le_of_ble_eq_true rfl) ?_
  intro p e R s m below meth c Q H ls args locs cells slots X hr hQ hR hl
  have hx := X.1
  have hb := X.2.1
  have hml := X.2.2.1
  have hown := X.2.2.2.1
  have hts := X.2.2.2.2.1
  unfold fX12_twins at hf
  have hl : lv_has ls 4 [(0, .ref (ad 200))] := hl
  refine lv_aload_n hx hb dX12_twins_0 rfl (lv_at hl 0 rfl) ?_
  refine lv_iconst (v := (0 : Int32)) hx hb dX12_twins_1 (by decide) ?_
  refine z_putI X hR (zlit hR zf_200) zs_200 (by decide) zfp_X12_1 rfl dX12_twins_2 (fun H locs hR => ?_)
  obtain ⟨w1, hw1⟩ : ∃ z : zW, z = sI w 200 0 (0 : Int32) := ⟨_, rfl⟩
  rw [← hw1] at hR
  replace hf := hf w1 hw1
  refine lv_aload_n hx hb dX12_twins_5 rfl (lv_at hl 0 rfl) ?_
  refine z_callVV (fr1 := 3) (b := 200) (As := []) (rest := []) X (hr.le (by decide)) hR zy_X12_gathers zq_1065 (zlit hR zf_200) (by rw [zs_200]; rfl) rfl (mX12_gathers  hf) rfl hl (Nat.le_of_ble_eq_true rfl) dX12_twins_6 rfl (fun w2 H locs hf hR => ?_)
  refine lv_iconst (v := (0 : Int32)) hx hb dX12_twins_9 (by decide) ?_
  refine lv_istore_n (lv' := [(1, .int (0 : Int32)), (0, .ref (ad 200))]) hx hb dX12_twins_10 rfl hl (by decide) rfl (fun ls hl => ?_)
  refine lv_iconst (v := (0 : Int32)) hx hb dX12_twins_11 (by decide) ?_
  refine lv_istore_n (lv' := [(2, .int (0 : Int32)), (1, .int (0 : Int32)), (0, .ref (ad 200))]) hx hb dX12_twins_12 rfl hl (by decide) rfl (fun ls hl => ?_)
  obtain ⟨n9, hf⟩ := hf
  exact mX12_twins_L13 X hr hQ  n9 (0 : Int32) (0 : Int32) w2 _ _ _ hf hR (lv_sub hl [2, 1, 0] rfl)
end ZM
