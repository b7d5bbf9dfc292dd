theorem dX12_book_0 : decode cX12_book 0 = .ok (.aload_n 0, 1) := by decide +kernel
theorem dX12_book_1 : decode cX12_book 1 = .ok (.iconst 0, 1) := by decide +kernel
theorem dX12_book_2 : decode cX12_book 2 = .ok (.putfield 1, 3) := by decide +kernel
theorem dX12_book_5 : decode cX12_book 5 = .ok (.aload_n 0, 1) := by decide +kernel
theorem dX12_book_6 : decode cX12_book 6 = .ok (.invokevirtual 211, 3) := by decide +kernel
theorem dX12_book_9 : decode cX12_book 9 = .ok (.aload_n 0, 1) := by decide +kernel
theorem dX12_book_10 : decode cX12_book 10 = .ok (.iconst 0, 1) := by decide +kernel
theorem dX12_book_11 : decode cX12_book 11 = .ok (.putfield 214, 3) := by decide +kernel
theorem dX12_book_14 : decode cX12_book 14 = .ok (.aload_n 0, 1) := by decide +kernel
theorem dX12_book_15 : decode cX12_book 15 = .ok (.bipush 30, 2) := by decide +kernel
theorem dX12_book_17 : decode cX12_book 17 = .ok (.invokevirtual 152, 3) := by decide +kernel
theorem dX12_book_20 : decode cX12_book 20 = .ok (.aload_n 0, 1) := by decide +kernel
theorem dX12_book_21 : decode cX12_book 21 = .ok (.getfield 185, 3) := by decide +kernel
theorem dX12_book_24 : decode cX12_book 24 = .ok (.ifCond .ne 28, 3) := by decide +kernel
theorem dX12_book_27 : decode cX12_book 27 = .ok (.aload_n 0, 1) := by decide +kernel
theorem dX12_book_28 : decode cX12_book 28 = .ok (.getfield 24, 3) := by decide +kernel
theorem dX12_book_31 : decode cX12_book 31 = .ok (.aload_n 0, 1) := by decide +kernel
theorem dX12_book_32 : decode cX12_book 32 = .ok (.getfield 182, 3) := by decide +kernel
theorem dX12_book_35 : decode cX12_book 35 = .ok (.iaload, 1) := by decide +kernel
theorem dX12_book_36 : decode cX12_book 36 = .ok (.ifCond .eq 16, 3) := by decide +kernel
theorem dX12_book_39 : decode cX12_book 39 = .ok (.aload_n 0, 1) := by decide +kernel
theorem dX12_book_40 : decode cX12_book 40 = .ok (.invokevirtual 217, 3) := by decide +kernel
theorem dX12_book_43 : decode cX12_book 43 = .ok (.aload_n 0, 1) := by decide +kernel
theorem dX12_book_44 : decode cX12_book 44 = .ok (.bipush 59, 2) := by decide +kernel
theorem dX12_book_46 : decode cX12_book 46 = .ok (.invokevirtual 220, 3) := by decide +kernel
theorem dX12_book_49 : decode cX12_book 49 = .ok (.goto (-29), 3) := by decide +kernel
theorem dX12_book_52 : decode cX12_book 52 = .ok (.aload_n 0, 1) := by decide +kernel
theorem dX12_book_53 : decode cX12_book 53 = .ok (.getfield 185, 3) := by decide +kernel
theorem dX12_book_56 : decode cX12_book 56 = .ok (.ifCond .le 8, 3) := by decide +kernel
theorem dX12_book_59 : decode cX12_book 59 = .ok (.aload_n 0, 1) := by decide +kernel
theorem dX12_book_60 : decode cX12_book 60 = .ok (.getfield 185, 3) := by decide +kernel
theorem dX12_book_63 : decode cX12_book 63 = .ok (.ireturn, 1) := by decide +kernel
theorem dX12_book_64 : decode cX12_book 64 = .ok (.iconst 0, 1) := by decide +kernel
theorem dX12_book_65 : decode cX12_book 65 = .ok (.istore_n 1, 1) := by decide +kernel
theorem dX12_book_66 : decode cX12_book 66 = .ok (.iload_n 1, 1) := by decide +kernel
theorem dX12_book_67 : decode cX12_book 67 = .ok (.bipush 30, 2) := by decide +kernel
theorem dX12_book_69 : decode cX12_book 69 = .ok (.if_icmp .ge 24, 3) := by decide +kernel
theorem dX12_book_72 : decode cX12_book 72 = .ok (.aload_n 0, 1) := by decide +kernel
theorem dX12_book_73 : decode cX12_book 73 = .ok (.getfield 79, 3) := by decide +kernel
theorem dX12_book_76 : decode cX12_book 76 = .ok (.iload_n 1, 1) := by decide +kernel
theorem dX12_book_77 : decode cX12_book 77 = .ok (.aload_n 0, 1) := by decide +kernel
theorem dX12_book_78 : decode cX12_book 78 = .ok (.getfield 79, 3) := by decide +kernel
theorem dX12_book_81 : decode cX12_book 81 = .ok (.bipush 30, 2) := by decide +kernel
theorem dX12_book_83 : decode cX12_book 83 = .ok (.iload_n 1, 1) := by decide +kernel
theorem dX12_book_84 : decode cX12_book 84 = .ok (.iadd, 1) := by decide +kernel
theorem dX12_book_85 : decode cX12_book 85 = .ok (.iaload, 1) := by decide +kernel
theorem dX12_book_86 : decode cX12_book 86 = .ok (.iastore, 1) := by decide +kernel
theorem dX12_book_87 : decode cX12_book 87 = .ok (.iinc 1 1, 3) := by decide +kernel
theorem dX12_book_90 : decode cX12_book 90 = .ok (.goto (-24), 3) := by decide +kernel
theorem dX12_book_93 : decode cX12_book 93 = .ok (.iconst 0, 1) := by decide +kernel
theorem dX12_book_94 : decode cX12_book 94 = .ok (.istore_n 1, 1) := by decide +kernel
theorem dX12_book_95 : decode cX12_book 95 = .ok (.iload_n 1, 1) := by decide +kernel
theorem dX12_book_96 : decode cX12_book 96 = .ok (.sipush 480, 3) := by decide +kernel
theorem dX12_book_99 : decode cX12_book 99 = .ok (.if_icmp .ge 25, 3) := by decide +kernel
theorem dX12_book_102 : decode cX12_book 102 = .ok (.aload_n 0, 1) := by decide +kernel
theorem dX12_book_103 : decode cX12_book 103 = .ok (.getfield 82, 3) := by decide +kernel
theorem dX12_book_106 : decode cX12_book 106 = .ok (.iload_n 1, 1) := by decide +kernel
theorem dX12_book_107 : decode cX12_book 107 = .ok (.aload_n 0, 1) := by decide +kernel
theorem dX12_book_108 : decode cX12_book 108 = .ok (.getfield 82, 3) := by decide +kernel
theorem dX12_book_111 : decode cX12_book 111 = .ok (.sipush 480, 3) := by decide +kernel
theorem dX12_book_114 : decode cX12_book 114 = .ok (.iload_n 1, 1) := by decide +kernel
theorem dX12_book_115 : decode cX12_book 115 = .ok (.iadd, 1) := by decide +kernel
theorem dX12_book_116 : decode cX12_book 116 = .ok (.iaload, 1) := by decide +kernel
theorem dX12_book_117 : decode cX12_book 117 = .ok (.iastore, 1) := by decide +kernel
theorem dX12_book_118 : decode cX12_book 118 = .ok (.iinc 1 1, 3) := by decide +kernel
theorem dX12_book_121 : decode cX12_book 121 = .ok (.goto (-26), 3) := by decide +kernel
theorem dX12_book_124 : decode cX12_book 124 = .ok (.iconst 0, 1) := by decide +kernel
theorem dX12_book_125 : decode cX12_book 125 = .ok (.istore_n 1, 1) := by decide +kernel
theorem dX12_book_126 : decode cX12_book 126 = .ok (.iload_n 1, 1) := by decide +kernel
theorem dX12_book_127 : decode cX12_book 127 = .ok (.aload_n 0, 1) := by decide +kernel
theorem dX12_book_128 : decode cX12_book 128 = .ok (.getfield 214, 3) := by decide +kernel
theorem dX12_book_131 : decode cX12_book 131 = .ok (.if_icmp .ge 25, 3) := by decide +kernel
theorem dX12_book_134 : decode cX12_book 134 = .ok (.aload_n 0, 1) := by decide +kernel
theorem dX12_book_135 : decode cX12_book 135 = .ok (.getfield 85, 3) := by decide +kernel
theorem dX12_book_138 : decode cX12_book 138 = .ok (.iload_n 1, 1) := by decide +kernel
theorem dX12_book_139 : decode cX12_book 139 = .ok (.aload_n 0, 1) := by decide +kernel
theorem dX12_book_140 : decode cX12_book 140 = .ok (.getfield 85, 3) := by decide +kernel
theorem dX12_book_143 : decode cX12_book 143 = .ok (.sipush 1100, 3) := by decide +kernel
theorem dX12_book_146 : decode cX12_book 146 = .ok (.iload_n 1, 1) := by decide +kernel
theorem dX12_book_147 : decode cX12_book 147 = .ok (.iadd, 1) := by decide +kernel
theorem dX12_book_148 : decode cX12_book 148 = .ok (.iaload, 1) := by decide +kernel
theorem dX12_book_149 : decode cX12_book 149 = .ok (.iastore, 1) := by decide +kernel
theorem dX12_book_150 : decode cX12_book 150 = .ok (.iinc 1 1, 3) := by decide +kernel
theorem dX12_book_153 : decode cX12_book 153 = .ok (.goto (-27), 3) := by decide +kernel
theorem dX12_book_156 : decode cX12_book 156 = .ok (.iconst 0, 1) := by decide +kernel
theorem dX12_book_157 : decode cX12_book 157 = .ok (.istore_n 1, 1) := by decide +kernel
theorem dX12_book_158 : decode cX12_book 158 = .ok (.iload_n 1, 1) := by decide +kernel
theorem dX12_book_159 : decode cX12_book 159 = .ok (.iconst 4, 1) := by decide +kernel
theorem dX12_book_160 : decode cX12_book 160 = .ok (.if_icmp .ge 23, 3) := by decide +kernel
theorem dX12_book_163 : decode cX12_book 163 = .ok (.aload_n 0, 1) := by decide +kernel
theorem dX12_book_164 : decode cX12_book 164 = .ok (.getfield 88, 3) := by decide +kernel
theorem dX12_book_167 : decode cX12_book 167 = .ok (.iload_n 1, 1) := by decide +kernel
theorem dX12_book_168 : decode cX12_book 168 = .ok (.aload_n 0, 1) := by decide +kernel
theorem dX12_book_169 : decode cX12_book 169 = .ok (.getfield 88, 3) := by decide +kernel
theorem dX12_book_172 : decode cX12_book 172 = .ok (.iconst 4, 1) := by decide +kernel
theorem dX12_book_173 : decode cX12_book 173 = .ok (.iload_n 1, 1) := by decide +kernel
theorem dX12_book_174 : decode cX12_book 174 = .ok (.iadd, 1) := by decide +kernel
theorem dX12_book_175 : decode cX12_book 175 = .ok (.laload, 1) := by decide +kernel
theorem dX12_book_176 : decode cX12_book 176 = .ok (.lastore, 1) := by decide +kernel
theorem dX12_book_177 : decode cX12_book 177 = .ok (.iinc 1 1, 3) := by decide +kernel
theorem dX12_book_180 : decode cX12_book 180 = .ok (.goto (-22), 3) := by decide +kernel
theorem dX12_book_183 : decode cX12_book 183 = .ok (.aload_n 0, 1) := by decide +kernel
theorem dX12_book_184 : decode cX12_book 184 = .ok (.invokevirtual 156, 3) := by decide +kernel
theorem dX12_book_187 : decode cX12_book 187 = .ok (.iconst 0, 1) := by decide +kernel
theorem dX12_book_188 : decode cX12_book 188 = .ok (.ireturn, 1) := by decide +kernel
theorem dX12_readNotes_0 : decode cX12_readNotes 0 = .ok (.aload_n 0, 1) := by decide +kernel
theorem dX12_readNotes_1 : decode cX12_readNotes 1 = .ok (.getfield 94, 3) := by decide +kernel
theorem dX12_readNotes_4 : decode cX12_readNotes 4 = .ok (.iload_n 1, 1) := by decide +kernel
theorem dX12_readNotes_5 : decode cX12_readNotes 5 = .ok (.iload_n 2, 1) := by decide +kernel
theorem dX12_readNotes_6 : decode cX12_readNotes 6 = .ok (.iastore, 1) := by decide +kernel
theorem dX12_readNotes_7 : decode cX12_readNotes 7 = .ok (.aload_n 0, 1) := by decide +kernel
theorem dX12_readNotes_8 : decode cX12_readNotes 8 = .ok (.getfield 94, 3) := by decide +kernel
theorem dX12_readNotes_11 : decode cX12_readNotes 11 = .ok (.iload_n 1, 1) := by decide +kernel
theorem dX12_readNotes_12 : decode cX12_readNotes 12 = .ok (.iconst 1, 1) := by decide +kernel
theorem dX12_readNotes_13 : decode cX12_readNotes 13 = .ok (.iadd, 1) := by decide +kernel
theorem dX12_readNotes_14 : decode cX12_readNotes 14 = .ok (.iload_n 2, 1) := by decide +kernel
theorem dX12_readNotes_15 : decode cX12_readNotes 15 = .ok (.iconst 2, 1) := by decide +kernel
theorem dX12_readNotes_16 : decode cX12_readNotes 16 = .ok (.if_icmp .ge 15, 3) := by decide +kernel
theorem dX12_readNotes_19 : decode cX12_readNotes 19 = .ok (.aload_n 0, 1) := by decide +kernel
theorem dX12_readNotes_20 : decode cX12_readNotes 20 = .ok (.iconst 0, 1) := by decide +kernel
theorem dX12_readNotes_21 : decode cX12_readNotes 21 = .ok (.aload_n 0, 1) := by decide +kernel
theorem dX12_readNotes_22 : decode cX12_readNotes 22 = .ok (.invokevirtual 266, 3) := by decide +kernel
theorem dX12_readNotes_25 : decode cX12_readNotes 25 = .ok (.invokevirtual 257, 3) := by decide +kernel
theorem dX12_readNotes_28 : decode cX12_readNotes 28 = .ok (.goto 14, 3) := by decide +kernel
theorem dX12_readNotes_31 : decode cX12_readNotes 31 = .ok (.aload_n 0, 1) := by decide +kernel
theorem dX12_readNotes_32 : decode cX12_readNotes 32 = .ok (.iconst 0, 1) := by decide +kernel
theorem dX12_readNotes_33 : decode cX12_readNotes 33 = .ok (.aload_n 0, 1) := by decide +kernel
theorem dX12_readNotes_34 : decode cX12_readNotes 34 = .ok (.invokevirtual 270, 3) := by decide +kernel
theorem dX12_readNotes_37 : decode cX12_readNotes 37 = .ok (.iconst 1, 1) := by decide +kernel
theorem dX12_readNotes_38 : decode cX12_readNotes 38 = .ok (.isub, 1) := by decide +kernel
theorem dX12_readNotes_39 : decode cX12_readNotes 39 = .ok (.invokevirtual 229, 3) := by decide +kernel
theorem dX12_readNotes_42 : decode cX12_readNotes 42 = .ok (.iastore, 1) := by decide +kernel
theorem dX12_readNotes_43 : decode cX12_readNotes 43 = .ok (.aload_n 0, 1) := by decide +kernel
theorem dX12_readNotes_44 : decode cX12_readNotes 44 = .ok (.getfield 94, 3) := by decide +kernel
theorem dX12_readNotes_47 : decode cX12_readNotes 47 = .ok (.iload_n 1, 1) := by decide +kernel
theorem dX12_readNotes_48 : decode cX12_readNotes 48 = .ok (.iconst 2, 1) := by decide +kernel
theorem dX12_readNotes_49 : decode cX12_readNotes 49 = .ok (.iadd, 1) := by decide +kernel
theorem dX12_readNotes_50 : decode cX12_readNotes 50 = .ok (.iload_n 2, 1) := by decide +kernel
theorem dX12_readNotes_51 : decode cX12_readNotes 51 = .ok (.ifCond .ne 12, 3) := by decide +kernel
theorem dX12_readNotes_54 : decode cX12_readNotes 54 = .ok (.aload_n 0, 1) := by decide +kernel
theorem dX12_readNotes_55 : decode cX12_readNotes 55 = .ok (.iconst 0, 1) := by decide +kernel
theorem dX12_readNotes_56 : decode cX12_readNotes 56 = .ok (.iconst 2, 1) := by decide +kernel
theorem dX12_readNotes_57 : decode cX12_readNotes 57 = .ok (.invokevirtual 229, 3) := by decide +kernel
theorem dX12_readNotes_60 : decode cX12_readNotes 60 = .ok (.goto 19, 3) := by decide +kernel
theorem dX12_readNotes_63 : decode cX12_readNotes 63 = .ok (.iload_n 2, 1) := by decide +kernel
theorem dX12_readNotes_64 : decode cX12_readNotes 64 = .ok (.iconst 2, 1) := by decide +kernel
theorem dX12_readNotes_65 : decode cX12_readNotes 65 = .ok (.if_icmp .ne 13, 3) := by decide +kernel
theorem dX12_readNotes_68 : decode cX12_readNotes 68 = .ok (.aload_n 0, 1) := by decide +kernel
theorem dX12_readNotes_69 : decode cX12_readNotes 69 = .ok (.iconst 0, 1) := by decide +kernel
theorem dX12_readNotes_70 : decode cX12_readNotes 70 = .ok (.bipush 99, 2) := by decide +kernel
theorem dX12_readNotes_72 : decode cX12_readNotes 72 = .ok (.invokevirtual 229, 3) := by decide +kernel
theorem dX12_readNotes_75 : decode cX12_readNotes 75 = .ok (.goto 4, 3) := by decide +kernel
theorem dX12_readNotes_78 : decode cX12_readNotes 78 = .ok (.iconst 0, 1) := by decide +kernel
theorem dX12_readNotes_79 : decode cX12_readNotes 79 = .ok (.iastore, 1) := by decide +kernel
theorem dX12_readNotes_80 : decode cX12_readNotes 80 = .ok (.aload_n 0, 1) := by decide +kernel
theorem dX12_readNotes_81 : decode cX12_readNotes 81 = .ok (.getfield 94, 3) := by decide +kernel
theorem dX12_readNotes_84 : decode cX12_readNotes 84 = .ok (.iload_n 1, 1) := by decide +kernel
theorem dX12_readNotes_85 : decode cX12_readNotes 85 = .ok (.iconst 3, 1) := by decide +kernel
theorem dX12_readNotes_86 : decode cX12_readNotes 86 = .ok (.iadd, 1) := by decide +kernel
theorem dX12_readNotes_87 : decode cX12_readNotes 87 = .ok (.iload_n 2, 1) := by decide +kernel
theorem dX12_readNotes_88 : decode cX12_readNotes 88 = .ok (.ifCond .ne 12, 3) := by decide +kernel
theorem dX12_readNotes_91 : decode cX12_readNotes 91 = .ok (.aload_n 0, 1) := by decide +kernel
theorem dX12_readNotes_92 : decode cX12_readNotes 92 = .ok (.iconst 0, 1) := by decide +kernel
theorem dX12_readNotes_93 : decode cX12_readNotes 93 = .ok (.iconst 2, 1) := by decide +kernel
theorem dX12_readNotes_94 : decode cX12_readNotes 94 = .ok (.invokevirtual 229, 3) := by decide +kernel
theorem dX12_readNotes_97 : decode cX12_readNotes 97 = .ok (.goto 4, 3) := by decide +kernel
theorem dX12_readNotes_100 : decode cX12_readNotes 100 = .ok (.iconst 0, 1) := by decide +kernel
theorem dX12_readNotes_101 : decode cX12_readNotes 101 = .ok (.iastore, 1) := by decide +kernel
theorem dX12_readNotes_102 : decode cX12_readNotes 102 = .ok (.return_, 1) := by decide +kernel
theorem dX12_notes_0 : decode cX12_notes 0 = .ok (.aload_n 0, 1) := by decide +kernel
theorem dX12_notes_1 : decode cX12_notes 1 = .ok (.iconst 0, 1) := by decide +kernel
theorem dX12_notes_2 : decode cX12_notes 2 = .ok (.putfield 1, 3) := by decide +kernel
theorem dX12_notes_5 : decode cX12_notes 5 = .ok (.aload_n 0, 1) := by decide +kernel
theorem dX12_notes_6 : decode cX12_notes 6 = .ok (.invokevirtual 211, 3) := by decide +kernel
theorem dX12_notes_9 : decode cX12_notes 9 = .ok (.iconst 0, 1) := by decide +kernel
theorem dX12_notes_10 : decode cX12_notes 10 = .ok (.istore_n 1, 1) := by decide +kernel
theorem dX12_notes_11 : decode cX12_notes 11 = .ok (.aload_n 0, 1) := by decide +kernel
theorem dX12_notes_12 : decode cX12_notes 12 = .ok (.getfield 185, 3) := by decide +kernel
theorem dX12_notes_15 : decode cX12_notes 15 = .ok (.ifCond .ne 83, 3) := by decide +kernel
theorem dX12_notes_18 : decode cX12_notes 18 = .ok (.aload_n 0, 1) := by decide +kernel
theorem dX12_notes_19 : decode cX12_notes 19 = .ok (.getfield 24, 3) := by decide +kernel
theorem dX12_notes_22 : decode cX12_notes 22 = .ok (.aload_n 0, 1) := by decide +kernel
theorem dX12_notes_23 : decode cX12_notes 23 = .ok (.getfield 182, 3) := by decide +kernel
theorem dX12_notes_26 : decode cX12_notes 26 = .ok (.iaload, 1) := by decide +kernel
theorem dX12_notes_27 : decode cX12_notes 27 = .ok (.ifCond .eq 71, 3) := by decide +kernel
theorem dX12_notes_30 : decode cX12_notes 30 = .ok (.aload_n 0, 1) := by decide +kernel
theorem dX12_notes_31 : decode cX12_notes 31 = .ok (.bipush 6, 2) := by decide +kernel
theorem dX12_notes_33 : decode cX12_notes 33 = .ok (.iconst 4, 1) := by decide +kernel
theorem dX12_notes_34 : decode cX12_notes 34 = .ok (.invokevirtual 200, 3) := by decide +kernel
theorem dX12_notes_37 : decode cX12_notes 37 = .ok (.istore_n 2, 1) := by decide +kernel
theorem dX12_notes_38 : decode cX12_notes 38 = .ok (.iload_n 2, 1) := by decide +kernel
theorem dX12_notes_39 : decode cX12_notes 39 = .ok (.ifCond .ge 11, 3) := by decide +kernel
theorem dX12_notes_42 : decode cX12_notes 42 = .ok (.aload_n 0, 1) := by decide +kernel
theorem dX12_notes_43 : decode cX12_notes 43 = .ok (.iconst 1, 1) := by decide +kernel
theorem dX12_notes_44 : decode cX12_notes 44 = .ok (.invokevirtual 191, 3) := by decide +kernel
theorem dX12_notes_47 : decode cX12_notes 47 = .ok (.goto 42, 3) := by decide +kernel
theorem dX12_notes_50 : decode cX12_notes 50 = .ok (.iload_n 1, 1) := by decide +kernel
theorem dX12_notes_51 : decode cX12_notes 51 = .ok (.bipush 40, 2) := by decide +kernel
theorem dX12_notes_53 : decode cX12_notes 53 = .ok (.if_icmp .ne 11, 3) := by decide +kernel
theorem dX12_notes_56 : decode cX12_notes 56 = .ok (.aload_n 0, 1) := by decide +kernel
theorem dX12_notes_57 : decode cX12_notes 57 = .ok (.iconst 5, 1) := by decide +kernel
theorem dX12_notes_58 : decode cX12_notes 58 = .ok (.invokevirtual 191, 3) := by decide +kernel
theorem dX12_notes_61 : decode cX12_notes 61 = .ok (.goto 28, 3) := by decide +kernel
theorem dX12_notes_64 : decode cX12_notes 64 = .ok (.aload_n 0, 1) := by decide +kernel
theorem dX12_notes_65 : decode cX12_notes 65 = .ok (.dup, 1) := by decide +kernel
theorem dX12_notes_66 : decode cX12_notes 66 = .ok (.getfield 182, 3) := by decide +kernel
theorem dX12_notes_69 : decode cX12_notes 69 = .ok (.iconst 1, 1) := by decide +kernel
theorem dX12_notes_70 : decode cX12_notes 70 = .ok (.iadd, 1) := by decide +kernel
theorem dX12_notes_71 : decode cX12_notes 71 = .ok (.putfield 182, 3) := by decide +kernel
theorem dX12_notes_74 : decode cX12_notes 74 = .ok (.aload_n 0, 1) := by decide +kernel
theorem dX12_notes_75 : decode cX12_notes 75 = .ok (.sipush 165, 3) := by decide +kernel
theorem dX12_notes_78 : decode cX12_notes 78 = .ok (.iconst 4, 1) := by decide +kernel
theorem dX12_notes_79 : decode cX12_notes 79 = .ok (.iload_n 1, 1) := by decide +kernel
theorem dX12_notes_80 : decode cX12_notes 80 = .ok (.imul, 1) := by decide +kernel
theorem dX12_notes_81 : decode cX12_notes 81 = .ok (.iadd, 1) := by decide +kernel
theorem dX12_notes_82 : decode cX12_notes 82 = .ok (.iload_n 2, 1) := by decide +kernel
theorem dX12_notes_83 : decode cX12_notes 83 = .ok (.invokevirtual 263, 3) := by decide +kernel
theorem dX12_notes_86 : decode cX12_notes 86 = .ok (.iinc 1 1, 3) := by decide +kernel
theorem dX12_notes_89 : decode cX12_notes 89 = .ok (.aload_n 0, 1) := by decide +kernel
theorem dX12_notes_90 : decode cX12_notes 90 = .ok (.bipush 59, 2) := by decide +kernel
theorem dX12_notes_92 : decode cX12_notes 92 = .ok (.invokevirtual 220, 3) := by decide +kernel
theorem dX12_notes_95 : decode cX12_notes 95 = .ok (.goto (-84), 3) := by decide +kernel
theorem dX12_notes_98 : decode cX12_notes 98 = .ok (.aload_n 0, 1) := by decide +kernel
theorem dX12_notes_99 : decode cX12_notes 99 = .ok (.getfield 185, 3) := by decide +kernel
theorem dX12_notes_102 : decode cX12_notes 102 = .ok (.ifCond .le 8, 3) := by decide +kernel
theorem dX12_notes_105 : decode cX12_notes 105 = .ok (.aload_n 0, 1) := by decide +kernel
theorem dX12_notes_106 : decode cX12_notes 106 = .ok (.getfield 185, 3) := by decide +kernel
theorem dX12_notes_109 : decode cX12_notes 109 = .ok (.ireturn, 1) := by decide +kernel
theorem dX12_notes_110 : decode cX12_notes 110 = .ok (.aload_n 0, 1) := by decide +kernel
theorem dX12_notes_111 : decode cX12_notes 111 = .ok (.getfield 94, 3) := by decide +kernel
theorem dX12_notes_114 : decode cX12_notes 114 = .ok (.iconst 0, 1) := by decide +kernel
theorem dX12_notes_115 : decode cX12_notes 115 = .ok (.iload_n 1, 1) := by decide +kernel
theorem dX12_notes_116 : decode cX12_notes 116 = .ok (.iastore, 1) := by decide +kernel
theorem dX12_notes_117 : decode cX12_notes 117 = .ok (.iconst 0, 1) := by decide +kernel
theorem dX12_notes_118 : decode cX12_notes 118 = .ok (.istore_n 2, 1) := by decide +kernel
theorem dX12_notes_119 : decode cX12_notes 119 = .ok (.iload_n 2, 1) := by decide +kernel
theorem dX12_notes_120 : decode cX12_notes 120 = .ok (.iconst 4, 1) := by decide +kernel
theorem dX12_notes_121 : decode cX12_notes 121 = .ok (.iload_n 1, 1) := by decide +kernel
theorem dX12_notes_122 : decode cX12_notes 122 = .ok (.imul, 1) := by decide +kernel
theorem dX12_notes_123 : decode cX12_notes 123 = .ok (.if_icmp .ge 27, 3) := by decide +kernel
theorem dX12_notes_126 : decode cX12_notes 126 = .ok (.aload_n 0, 1) := by decide +kernel
theorem dX12_notes_127 : decode cX12_notes 127 = .ok (.getfield 94, 3) := by decide +kernel
theorem dX12_notes_130 : decode cX12_notes 130 = .ok (.iconst 1, 1) := by decide +kernel
theorem dX12_notes_131 : decode cX12_notes 131 = .ok (.iload_n 2, 1) := by decide +kernel
theorem dX12_notes_132 : decode cX12_notes 132 = .ok (.iadd, 1) := by decide +kernel
theorem dX12_notes_133 : decode cX12_notes 133 = .ok (.aload_n 0, 1) := by decide +kernel
theorem dX12_notes_134 : decode cX12_notes 134 = .ok (.getfield 94, 3) := by decide +kernel
theorem dX12_notes_137 : decode cX12_notes 137 = .ok (.sipush 165, 3) := by decide +kernel
theorem dX12_notes_140 : decode cX12_notes 140 = .ok (.iload_n 2, 1) := by decide +kernel
theorem dX12_notes_141 : decode cX12_notes 141 = .ok (.iadd, 1) := by decide +kernel
theorem dX12_notes_142 : decode cX12_notes 142 = .ok (.iaload, 1) := by decide +kernel
theorem dX12_notes_143 : decode cX12_notes 143 = .ok (.iastore, 1) := by decide +kernel
theorem dX12_notes_144 : decode cX12_notes 144 = .ok (.iinc 2 1, 3) := by decide +kernel
theorem dX12_notes_147 : decode cX12_notes 147 = .ok (.goto (-28), 3) := by decide +kernel
theorem dX12_notes_150 : decode cX12_notes 150 = .ok (.iconst 0, 1) := by decide +kernel
theorem dX12_notes_151 : decode cX12_notes 151 = .ok (.ireturn, 1) := by decide +kernel
theorem dX12_copies_0 : decode cX12_copies 0 = .ok (.iconst 0, 1) := by decide +kernel
theorem dX12_copies_1 : decode cX12_copies 1 = .ok (.istore 4, 2) := by decide +kernel
theorem dX12_copies_3 : decode cX12_copies 3 = .ok (.iload 4, 2) := by decide +kernel
theorem dX12_copies_5 : decode cX12_copies 5 = .ok (.iload_n 3, 1) := by decide +kernel
theorem dX12_copies_6 : decode cX12_copies 6 = .ok (.if_icmp .ge 27, 3) := by decide +kernel
theorem dX12_copies_9 : decode cX12_copies 9 = .ok (.aload_n 0, 1) := by decide +kernel
theorem dX12_copies_10 : decode cX12_copies 10 = .ok (.getfield 103, 3) := by decide +kernel
theorem dX12_copies_13 : decode cX12_copies 13 = .ok (.iload_n 2, 1) := by decide +kernel
theorem dX12_copies_14 : decode cX12_copies 14 = .ok (.iload 4, 2) := by decide +kernel
theorem dX12_copies_16 : decode cX12_copies 16 = .ok (.iadd, 1) := by decide +kernel
theorem dX12_copies_17 : decode cX12_copies 17 = .ok (.aload_n 0, 1) := by decide +kernel
theorem dX12_copies_18 : decode cX12_copies 18 = .ok (.getfield 103, 3) := by decide +kernel
theorem dX12_copies_21 : decode cX12_copies 21 = .ok (.iload_n 1, 1) := by decide +kernel
theorem dX12_copies_22 : decode cX12_copies 22 = .ok (.iload 4, 2) := by decide +kernel
theorem dX12_copies_24 : decode cX12_copies 24 = .ok (.iadd, 1) := by decide +kernel
theorem dX12_copies_25 : decode cX12_copies 25 = .ok (.iaload, 1) := by decide +kernel
theorem dX12_copies_26 : decode cX12_copies 26 = .ok (.iastore, 1) := by decide +kernel
theorem dX12_copies_27 : decode cX12_copies 27 = .ok (.iinc 4 1, 3) := by decide +kernel
theorem dX12_copies_30 : decode cX12_copies 30 = .ok (.goto (-27), 3) := by decide +kernel
theorem dX12_copies_33 : decode cX12_copies 33 = .ok (.return_, 1) := by decide +kernel
theorem dX12_keeps_0 : decode cX12_keeps 0 = .ok (.aload_n 0, 1) := by decide +kernel
theorem dX12_keeps_1 : decode cX12_keeps 1 = .ok (.getfield 305, 3) := by decide +kernel
theorem dX12_keeps_4 : decode cX12_keeps 4 = .ok (.bipush 16, 2) := by decide +kernel
theorem dX12_keeps_6 : decode cX12_keeps 6 = .ok (.if_icmp .ne 47, 3) := by decide +kernel
theorem dX12_keeps_9 : decode cX12_keeps 9 = .ok (.iconst 1, 1) := by decide +kernel
theorem dX12_keeps_10 : decode cX12_keeps 10 = .ok (.istore_n 1, 1) := by decide +kernel
theorem dX12_keeps_11 : decode cX12_keeps 11 = .ok (.iload_n 1, 1) := by decide +kernel
theorem dX12_keeps_12 : decode cX12_keeps 12 = .ok (.bipush 16, 2) := by decide +kernel
theorem dX12_keeps_14 : decode cX12_keeps 14 = .ok (.if_icmp .ge 29, 3) := by decide +kernel
theorem dX12_keeps_17 : decode cX12_keeps 17 = .ok (.aload_n 0, 1) := by decide +kernel
theorem dX12_keeps_18 : decode cX12_keeps 18 = .ok (.bipush 12, 2) := by decide +kernel
theorem dX12_keeps_20 : decode cX12_keeps 20 = .ok (.iconst 5, 1) := by decide +kernel
theorem dX12_keeps_21 : decode cX12_keeps 21 = .ok (.iload_n 1, 1) := by decide +kernel
theorem dX12_keeps_22 : decode cX12_keeps 22 = .ok (.iadd, 1) := by decide +kernel
theorem dX12_keeps_23 : decode cX12_keeps 23 = .ok (.imul, 1) := by decide +kernel
theorem dX12_keeps_24 : decode cX12_keeps 24 = .ok (.bipush 12, 2) := by decide +kernel
theorem dX12_keeps_26 : decode cX12_keeps 26 = .ok (.iconst 5, 1) := by decide +kernel
theorem dX12_keeps_27 : decode cX12_keeps 27 = .ok (.iload_n 1, 1) := by decide +kernel
theorem dX12_keeps_28 : decode cX12_keeps 28 = .ok (.iadd, 1) := by decide +kernel
theorem dX12_keeps_29 : decode cX12_keeps 29 = .ok (.iconst 1, 1) := by decide +kernel
theorem dX12_keeps_30 : decode cX12_keeps 30 = .ok (.isub, 1) := by decide +kernel
theorem dX12_keeps_31 : decode cX12_keeps 31 = .ok (.imul, 1) := by decide +kernel
theorem dX12_keeps_32 : decode cX12_keeps 32 = .ok (.bipush 12, 2) := by decide +kernel
theorem dX12_keeps_34 : decode cX12_keeps 34 = .ok (.invokevirtual 308, 3) := by decide +kernel
theorem dX12_keeps_37 : decode cX12_keeps 37 = .ok (.iinc 1 1, 3) := by decide +kernel
theorem dX12_keeps_40 : decode cX12_keeps 40 = .ok (.goto (-29), 3) := by decide +kernel
theorem dX12_keeps_43 : decode cX12_keeps 43 = .ok (.aload_n 0, 1) := by decide +kernel
theorem dX12_keeps_44 : decode cX12_keeps 44 = .ok (.dup, 1) := by decide +kernel
theorem dX12_keeps_45 : decode cX12_keeps 45 = .ok (.getfield 305, 3) := by decide +kernel
theorem dX12_keeps_48 : decode cX12_keeps 48 = .ok (.iconst 1, 1) := by decide +kernel
theorem dX12_keeps_49 : decode cX12_keeps 49 = .ok (.isub, 1) := by decide +kernel
theorem dX12_keeps_50 : decode cX12_keeps 50 = .ok (.putfield 305, 3) := by decide +kernel
theorem dX12_keeps_53 : decode cX12_keeps 53 = .ok (.aload_n 0, 1) := by decide +kernel
theorem dX12_keeps_54 : decode cX12_keeps 54 = .ok (.iconst 0, 1) := by decide +kernel
theorem dX12_keeps_55 : decode cX12_keeps 55 = .ok (.bipush 12, 2) := by decide +kernel
theorem dX12_keeps_57 : decode cX12_keeps 57 = .ok (.iconst 5, 1) := by decide +kernel
theorem dX12_keeps_58 : decode cX12_keeps 58 = .ok (.aload_n 0, 1) := by decide +kernel
theorem dX12_keeps_59 : decode cX12_keeps 59 = .ok (.getfield 305, 3) := by decide +kernel
theorem dX12_keeps_62 : decode cX12_keeps 62 = .ok (.iadd, 1) := by decide +kernel
theorem dX12_keeps_63 : decode cX12_keeps 63 = .ok (.imul, 1) := by decide +kernel
theorem dX12_keeps_64 : decode cX12_keeps 64 = .ok (.bipush 12, 2) := by decide +kernel
theorem dX12_keeps_66 : decode cX12_keeps 66 = .ok (.invokevirtual 308, 3) := by decide +kernel
theorem dX12_keeps_69 : decode cX12_keeps 69 = .ok (.aload_n 0, 1) := by decide +kernel
theorem dX12_keeps_70 : decode cX12_keeps 70 = .ok (.dup, 1) := by decide +kernel
theorem dX12_keeps_71 : decode cX12_keeps 71 = .ok (.getfield 305, 3) := by decide +kernel
theorem dX12_keeps_74 : decode cX12_keeps 74 = .ok (.iconst 1, 1) := by decide +kernel
theorem dX12_keeps_75 : decode cX12_keeps 75 = .ok (.iadd, 1) := by decide +kernel
theorem dX12_keeps_76 : decode cX12_keeps 76 = .ok (.putfield 305, 3) := by decide +kernel
theorem dX12_keeps_79 : decode cX12_keeps 79 = .ok (.return_, 1) := by decide +kernel
theorem dX12_isTerm_0 : decode cX12_isTerm 0 = .ok (.iload_n 1, 1) := by decide +kernel
theorem dX12_isTerm_1 : decode cX12_isTerm 1 = .ok (.ifCond .lt 15, 3) := by decide +kernel
theorem dX12_isTerm_4 : decode cX12_isTerm 4 = .ok (.iload_n 1, 1) := by decide +kernel
theorem dX12_isTerm_5 : decode cX12_isTerm 5 = .ok (.aload_n 0, 1) := by decide +kernel
theorem dX12_isTerm_6 : decode cX12_isTerm 6 = .ok (.invokevirtual 266, 3) := by decide +kernel
theorem dX12_isTerm_9 : decode cX12_isTerm 9 = .ok (.if_icmp .ge 7, 3) := by decide +kernel
theorem dX12_isTerm_12 : decode cX12_isTerm 12 = .ok (.iconst 1, 1) := by decide +kernel
theorem dX12_isTerm_13 : decode cX12_isTerm 13 = .ok (.goto 4, 3) := by decide +kernel
theorem dX12_isTerm_16 : decode cX12_isTerm 16 = .ok (.iconst 0, 1) := by decide +kernel
theorem dX12_isTerm_17 : decode cX12_isTerm 17 = .ok (.ireturn, 1) := by decide +kernel
theorem dX12_isRow_0 : decode cX12_isRow 0 = .ok (.iload_n 1, 1) := by decide +kernel
theorem dX12_isRow_1 : decode cX12_isRow 1 = .ok (.ifCond .lt 15, 3) := by decide +kernel
theorem dX12_isRow_4 : decode cX12_isRow 4 = .ok (.iload_n 1, 1) := by decide +kernel
theorem dX12_isRow_5 : decode cX12_isRow 5 = .ok (.aload_n 0, 1) := by decide +kernel
theorem dX12_isRow_6 : decode cX12_isRow 6 = .ok (.invokevirtual 270, 3) := by decide +kernel
theorem dX12_isRow_9 : decode cX12_isRow 9 = .ok (.if_icmp .ge 7, 3) := by decide +kernel
theorem dX12_isRow_12 : decode cX12_isRow 12 = .ok (.iconst 1, 1) := by decide +kernel
theorem dX12_isRow_13 : decode cX12_isRow 13 = .ok (.goto 4, 3) := by decide +kernel
theorem dX12_isRow_16 : decode cX12_isRow 16 = .ok (.iconst 0, 1) := by decide +kernel
theorem dX12_isRow_17 : decode cX12_isRow 17 = .ok (.ireturn, 1) := by decide +kernel
theorem dX12_bits_0 : decode cX12_bits 0 = .ok (.iconst 0, 1) := by decide +kernel
theorem dX12_bits_1 : decode cX12_bits 1 = .ok (.istore_n 1, 1) := by decide +kernel
theorem dX12_bits_2 : decode cX12_bits 2 = .ok (.iconst 0, 1) := by decide +kernel
theorem dX12_bits_3 : decode cX12_bits 3 = .ok (.istore_n 2, 1) := by decide +kernel
theorem dX12_bits_4 : decode cX12_bits 4 = .ok (.iload_n 2, 1) := by decide +kernel
theorem dX12_bits_5 : decode cX12_bits 5 = .ok (.bipush 30, 2) := by decide +kernel
theorem dX12_bits_7 : decode cX12_bits 7 = .ok (.if_icmp .ge 17, 3) := by decide +kernel
theorem dX12_bits_10 : decode cX12_bits 10 = .ok (.iload_n 1, 1) := by decide +kernel
theorem dX12_bits_11 : decode cX12_bits 11 = .ok (.iload_n 0, 1) := by decide +kernel
theorem dX12_bits_12 : decode cX12_bits 12 = .ok (.iload_n 2, 1) := by decide +kernel
theorem dX12_bits_13 : decode cX12_bits 13 = .ok (.ishr, 1) := by decide +kernel
theorem dX12_bits_14 : decode cX12_bits 14 = .ok (.iconst 1, 1) := by decide +kernel
theorem dX12_bits_15 : decode cX12_bits 15 = .ok (.iand, 1) := by decide +kernel
theorem dX12_bits_16 : decode cX12_bits 16 = .ok (.iadd, 1) := by decide +kernel
theorem dX12_bits_17 : decode cX12_bits 17 = .ok (.istore_n 1, 1) := by decide +kernel
theorem dX12_bits_18 : decode cX12_bits 18 = .ok (.iinc 2 1, 3) := by decide +kernel
theorem dX12_bits_21 : decode cX12_bits 21 = .ok (.goto (-17), 3) := by decide +kernel
theorem dX12_bits_24 : decode cX12_bits 24 = .ok (.iload_n 1, 1) := by decide +kernel
theorem dX12_bits_25 : decode cX12_bits 25 = .ok (.ireturn, 1) := by decide +kernel
theorem dX12_term_0 : decode cX12_term 0 = .ok (.aload_n 0, 1) := by decide +kernel
theorem dX12_term_1 : decode cX12_term 1 = .ok (.iconst 0, 1) := by decide +kernel
theorem dX12_term_2 : decode cX12_term 2 = .ok (.putfield 1, 3) := by decide +kernel
theorem dX12_term_5 : decode cX12_term 5 = .ok (.aload_n 0, 1) := by decide +kernel
theorem dX12_term_6 : decode cX12_term 6 = .ok (.iload_n 1, 1) := by decide +kernel
theorem dX12_term_7 : decode cX12_term 7 = .ok (.invokevirtual 318, 3) := by decide +kernel
theorem dX12_term_10 : decode cX12_term 10 = .ok (.ifCond .eq 12, 3) := by decide +kernel
theorem dX12_term_13 : decode cX12_term 13 = .ok (.iload_n 2, 1) := by decide +kernel
theorem dX12_term_14 : decode cX12_term 14 = .ok (.iconst 0, 1) := by decide +kernel
theorem dX12_term_15 : decode cX12_term 15 = .ok (.iconst 3, 1) := by decide +kernel
theorem dX12_term_16 : decode cX12_term 16 = .ok (.invokestatic 321, 3) := by decide +kernel
theorem dX12_term_19 : decode cX12_term 19 = .ok (.ifCond .ne 6, 3) := by decide +kernel
theorem dX12_term_22 : decode cX12_term 22 = .ok (.bipush (-2), 2) := by decide +kernel
theorem dX12_term_24 : decode cX12_term 24 = .ok (.ireturn, 1) := by decide +kernel
theorem dX12_term_25 : decode cX12_term 25 = .ok (.iload_n 2, 1) := by decide +kernel
theorem dX12_term_26 : decode cX12_term 26 = .ok (.ifCond .ne 14, 3) := by decide +kernel
theorem dX12_term_29 : decode cX12_term 29 = .ok (.aload_n 0, 1) := by decide +kernel
theorem dX12_term_30 : decode cX12_term 30 = .ok (.getfield 79, 3) := by decide +kernel
theorem dX12_term_33 : decode cX12_term 33 = .ok (.iconst 4, 1) := by decide +kernel
theorem dX12_term_34 : decode cX12_term 34 = .ok (.iload_n 1, 1) := by decide +kernel
theorem dX12_term_35 : decode cX12_term 35 = .ok (.iadd, 1) := by decide +kernel
theorem dX12_term_36 : decode cX12_term 36 = .ok (.iaload, 1) := by decide +kernel
theorem dX12_term_37 : decode cX12_term 37 = .ok (.goto 36, 3) := by decide +kernel
theorem dX12_term_40 : decode cX12_term 40 = .ok (.iload_n 2, 1) := by decide +kernel
theorem dX12_term_41 : decode cX12_term 41 = .ok (.iconst 1, 1) := by decide +kernel
theorem dX12_term_42 : decode cX12_term 42 = .ok (.if_icmp .ne 12, 3) := by decide +kernel
theorem dX12_term_45 : decode cX12_term 45 = .ok (.aload_n 0, 1) := by decide +kernel
theorem dX12_term_46 : decode cX12_term 46 = .ok (.getfield 103, 3) := by decide +kernel
theorem dX12_term_49 : decode cX12_term 49 = .ok (.iload_n 1, 1) := by decide +kernel
theorem dX12_term_50 : decode cX12_term 50 = .ok (.iaload, 1) := by decide +kernel
theorem dX12_term_51 : decode cX12_term 51 = .ok (.goto 22, 3) := by decide +kernel
theorem dX12_term_54 : decode cX12_term 54 = .ok (.iload_n 2, 1) := by decide +kernel
theorem dX12_term_55 : decode cX12_term 55 = .ok (.iconst 2, 1) := by decide +kernel
theorem dX12_term_56 : decode cX12_term 56 = .ok (.if_icmp .ne 12, 3) := by decide +kernel
theorem dX12_term_59 : decode cX12_term 59 = .ok (.aload_n 0, 1) := by decide +kernel
theorem dX12_term_60 : decode cX12_term 60 = .ok (.getfield 113, 3) := by decide +kernel
theorem dX12_term_63 : decode cX12_term 63 = .ok (.iload_n 1, 1) := by decide +kernel
theorem dX12_term_64 : decode cX12_term 64 = .ok (.iaload, 1) := by decide +kernel
theorem dX12_term_65 : decode cX12_term 65 = .ok (.goto 8, 3) := by decide +kernel
theorem dX12_term_68 : decode cX12_term 68 = .ok (.aload_n 0, 1) := by decide +kernel
theorem dX12_term_69 : decode cX12_term 69 = .ok (.iload_n 1, 1) := by decide +kernel
theorem dX12_term_70 : decode cX12_term 70 = .ok (.invokevirtual 312, 3) := by decide +kernel
theorem dX12_term_73 : decode cX12_term 73 = .ok (.ireturn, 1) := by decide +kernel
theorem dX12_isAgain_0 : decode cX12_isAgain 0 = .ok (.iload_n 3, 1) := by decide +kernel
theorem dX12_isAgain_1 : decode cX12_isAgain 1 = .ok (.iload 4, 2) := by decide +kernel
theorem dX12_isAgain_3 : decode cX12_isAgain 3 = .ok (.irem, 1) := by decide +kernel
theorem dX12_isAgain_4 : decode cX12_isAgain 4 = .ok (.ifCond .ne 7, 3) := by decide +kernel
theorem dX12_isAgain_7 : decode cX12_isAgain 7 = .ok (.iconst 1, 1) := by decide +kernel
theorem dX12_isAgain_8 : decode cX12_isAgain 8 = .ok (.goto 4, 3) := by decide +kernel
theorem dX12_isAgain_11 : decode cX12_isAgain 11 = .ok (.iconst 0, 1) := by decide +kernel
theorem dX12_isAgain_12 : decode cX12_isAgain 12 = .ok (.istore 5, 2) := by decide +kernel
theorem dX12_isAgain_14 : decode cX12_isAgain 14 = .ok (.iload 4, 2) := by decide +kernel
theorem dX12_isAgain_16 : decode cX12_isAgain 16 = .ok (.istore 6, 2) := by decide +kernel
theorem dX12_isAgain_18 : decode cX12_isAgain 18 = .ok (.iload 5, 2) := by decide +kernel
theorem dX12_isAgain_20 : decode cX12_isAgain 20 = .ok (.ifCond .eq 46, 3) := by decide +kernel
theorem dX12_isAgain_23 : decode cX12_isAgain 23 = .ok (.iload 6, 2) := by decide +kernel
theorem dX12_isAgain_25 : decode cX12_isAgain 25 = .ok (.iload_n 3, 1) := by decide +kernel
theorem dX12_isAgain_26 : decode cX12_isAgain 26 = .ok (.if_icmp .ge 40, 3) := by decide +kernel
theorem dX12_isAgain_29 : decode cX12_isAgain 29 = .ok (.aload_n 0, 1) := by decide +kernel
theorem dX12_isAgain_30 : decode cX12_isAgain 30 = .ok (.iload_n 1, 1) := by decide +kernel
theorem dX12_isAgain_31 : decode cX12_isAgain 31 = .ok (.iload_n 2, 1) := by decide +kernel
theorem dX12_isAgain_32 : decode cX12_isAgain 32 = .ok (.iload 6, 2) := by decide +kernel
theorem dX12_isAgain_34 : decode cX12_isAgain 34 = .ok (.iadd, 1) := by decide +kernel
theorem dX12_isAgain_35 : decode cX12_isAgain 35 = .ok (.invokevirtual 295, 3) := by decide +kernel
theorem dX12_isAgain_38 : decode cX12_isAgain 38 = .ok (.aload_n 0, 1) := by decide +kernel
theorem dX12_isAgain_39 : decode cX12_isAgain 39 = .ok (.iload_n 1, 1) := by decide +kernel
theorem dX12_isAgain_40 : decode cX12_isAgain 40 = .ok (.iload_n 2, 1) := by decide +kernel
theorem dX12_isAgain_41 : decode cX12_isAgain 41 = .ok (.iload 6, 2) := by decide +kernel
theorem dX12_isAgain_43 : decode cX12_isAgain 43 = .ok (.iadd, 1) := by decide +kernel
theorem dX12_isAgain_44 : decode cX12_isAgain 44 = .ok (.iload 4, 2) := by decide +kernel
theorem dX12_isAgain_46 : decode cX12_isAgain 46 = .ok (.isub, 1) := by decide +kernel
theorem dX12_isAgain_47 : decode cX12_isAgain 47 = .ok (.invokevirtual 295, 3) := by decide +kernel
theorem dX12_isAgain_50 : decode cX12_isAgain 50 = .ok (.if_icmp .ne 7, 3) := by decide +kernel
theorem dX12_isAgain_53 : decode cX12_isAgain 53 = .ok (.iconst 1, 1) := by decide +kernel
theorem dX12_isAgain_54 : decode cX12_isAgain 54 = .ok (.goto 4, 3) := by decide +kernel
theorem dX12_isAgain_57 : decode cX12_isAgain 57 = .ok (.iconst 0, 1) := by decide +kernel
theorem dX12_isAgain_58 : decode cX12_isAgain 58 = .ok (.istore 5, 2) := by decide +kernel
theorem dX12_isAgain_60 : decode cX12_isAgain 60 = .ok (.iinc 6 1, 3) := by decide +kernel
theorem dX12_isAgain_63 : decode cX12_isAgain 63 = .ok (.goto (-45), 3) := by decide +kernel
theorem dX12_isAgain_66 : decode cX12_isAgain 66 = .ok (.iload 5, 2) := by decide +kernel
theorem dX12_isAgain_68 : decode cX12_isAgain 68 = .ok (.ireturn, 1) := by decide +kernel
theorem dX12_beatOf_0 : decode cX12_beatOf 0 = .ok (.iconst 1, 1) := by decide +kernel
theorem dX12_beatOf_1 : decode cX12_beatOf 1 = .ok (.istore_n 2, 1) := by decide +kernel
theorem dX12_beatOf_2 : decode cX12_beatOf 2 = .ok (.aload_n 0, 1) := by decide +kernel
theorem dX12_beatOf_3 : decode cX12_beatOf 3 = .ok (.iload_n 1, 1) := by decide +kernel
theorem dX12_beatOf_4 : decode cX12_beatOf 4 = .ok (.iconst 0, 1) := by decide +kernel
theorem dX12_beatOf_5 : decode cX12_beatOf 5 = .ok (.aload_n 0, 1) := by decide +kernel
theorem dX12_beatOf_6 : decode cX12_beatOf 6 = .ok (.iload_n 1, 1) := by decide +kernel
theorem dX12_beatOf_7 : decode cX12_beatOf 7 = .ok (.invokevirtual 292, 3) := by decide +kernel
theorem dX12_beatOf_10 : decode cX12_beatOf 10 = .ok (.iload_n 2, 1) := by decide +kernel
theorem dX12_beatOf_11 : decode cX12_beatOf 11 = .ok (.invokevirtual 408, 3) := by decide +kernel
theorem dX12_beatOf_14 : decode cX12_beatOf 14 = .ok (.ifCond .ne 9, 3) := by decide +kernel
theorem dX12_beatOf_17 : decode cX12_beatOf 17 = .ok (.iinc 2 1, 3) := by decide +kernel
theorem dX12_beatOf_20 : decode cX12_beatOf 20 = .ok (.goto (-18), 3) := by decide +kernel
theorem dX12_beatOf_23 : decode cX12_beatOf 23 = .ok (.iload_n 2, 1) := by decide +kernel
theorem dX12_beatOf_24 : decode cX12_beatOf 24 = .ok (.ireturn, 1) := by decide +kernel
theorem dX12_partAt_0 : decode cX12_partAt 0 = .ok (.iload_n 0, 1) := by decide +kernel
theorem dX12_partAt_1 : decode cX12_partAt 1 = .ok (.iload_n 1, 1) := by decide +kernel
theorem dX12_partAt_2 : decode cX12_partAt 2 = .ok (.iadd, 1) := by decide +kernel
theorem dX12_partAt_3 : decode cX12_partAt 3 = .ok (.istore_n 2, 1) := by decide +kernel
theorem dX12_partAt_4 : decode cX12_partAt 4 = .ok (.iload_n 2, 1) := by decide +kernel
theorem dX12_partAt_5 : decode cX12_partAt 5 = .ok (.iload_n 2, 1) := by decide +kernel
theorem dX12_partAt_6 : decode cX12_partAt 6 = .ok (.iconst 1, 1) := by decide +kernel
theorem dX12_partAt_7 : decode cX12_partAt 7 = .ok (.isub, 1) := by decide +kernel
theorem dX12_partAt_8 : decode cX12_partAt 8 = .ok (.imul, 1) := by decide +kernel
theorem dX12_partAt_9 : decode cX12_partAt 9 = .ok (.iconst 2, 1) := by decide +kernel
theorem dX12_partAt_10 : decode cX12_partAt 10 = .ok (.idiv, 1) := by decide +kernel
theorem dX12_partAt_11 : decode cX12_partAt 11 = .ok (.iload_n 0, 1) := by decide +kernel
theorem dX12_partAt_12 : decode cX12_partAt 12 = .ok (.iadd, 1) := by decide +kernel
theorem dX12_partAt_13 : decode cX12_partAt 13 = .ok (.ireturn, 1) := by decide +kernel
theorem dX12_tokensOf_0 : decode cX12_tokensOf 0 = .ok (.aload_n 0, 1) := by decide +kernel
theorem dX12_tokensOf_1 : decode cX12_tokensOf 1 = .ok (.getfield 149, 3) := by decide +kernel
theorem dX12_tokensOf_4 : decode cX12_tokensOf 4 = .ok (.iload_n 1, 1) := by decide +kernel
theorem dX12_tokensOf_5 : decode cX12_tokensOf 5 = .ok (.iload_n 2, 1) := by decide +kernel
theorem dX12_tokensOf_6 : decode cX12_tokensOf 6 = .ok (.invokestatic 412, 3) := by decide +kernel
theorem dX12_tokensOf_9 : decode cX12_tokensOf 9 = .ok (.iaload, 1) := by decide +kernel
theorem dX12_tokensOf_10 : decode cX12_tokensOf 10 = .ok (.bipush 6, 2) := by decide +kernel
theorem dX12_tokensOf_12 : decode cX12_tokensOf 12 = .ok (.iload_n 3, 1) := by decide +kernel
theorem dX12_tokensOf_13 : decode cX12_tokensOf 13 = .ok (.imul, 1) := by decide +kernel
theorem dX12_tokensOf_14 : decode cX12_tokensOf 14 = .ok (.ishr, 1) := by decide +kernel
theorem dX12_tokensOf_15 : decode cX12_tokensOf 15 = .ok (.bipush 63, 2) := by decide +kernel
theorem dX12_tokensOf_17 : decode cX12_tokensOf 17 = .ok (.iand, 1) := by decide +kernel
theorem dX12_tokensOf_18 : decode cX12_tokensOf 18 = .ok (.ireturn, 1) := by decide +kernel
theorem dX12_briefest_0 : decode cX12_briefest 0 = .ok (.iload_n 3, 1) := by decide +kernel
theorem dX12_briefest_1 : decode cX12_briefest 1 = .ok (.istore 5, 2) := by decide +kernel
theorem dX12_briefest_3 : decode cX12_briefest 3 = .ok (.iconst 1, 1) := by decide +kernel
theorem dX12_briefest_4 : decode cX12_briefest 4 = .ok (.istore 6, 2) := by decide +kernel
theorem dX12_briefest_6 : decode cX12_briefest 6 = .ok (.iload 6, 2) := by decide +kernel
theorem dX12_briefest_8 : decode cX12_briefest 8 = .ok (.iload_n 3, 1) := by decide +kernel
theorem dX12_briefest_9 : decode cX12_briefest 9 = .ok (.if_icmp .ge 51, 3) := by decide +kernel
theorem dX12_briefest_12 : decode cX12_briefest 12 = .ok (.aload_n 0, 1) := by decide +kernel
theorem dX12_briefest_13 : decode cX12_briefest 13 = .ok (.iload_n 2, 1) := by decide +kernel
theorem dX12_briefest_14 : decode cX12_briefest 14 = .ok (.iload 6, 2) := by decide +kernel
theorem dX12_briefest_16 : decode cX12_briefest 16 = .ok (.iload 4, 2) := by decide +kernel
theorem dX12_briefest_18 : decode cX12_briefest 18 = .ok (.invokevirtual 415, 3) := by decide +kernel
theorem dX12_briefest_21 : decode cX12_briefest 21 = .ok (.aload_n 0, 1) := by decide +kernel
theorem dX12_briefest_22 : decode cX12_briefest 22 = .ok (.iload_n 2, 1) := by decide +kernel
theorem dX12_briefest_23 : decode cX12_briefest 23 = .ok (.iload 6, 2) := by decide +kernel
theorem dX12_briefest_25 : decode cX12_briefest 25 = .ok (.iadd, 1) := by decide +kernel
theorem dX12_briefest_26 : decode cX12_briefest 26 = .ok (.iload_n 3, 1) := by decide +kernel
theorem dX12_briefest_27 : decode cX12_briefest 27 = .ok (.iload 6, 2) := by decide +kernel
theorem dX12_briefest_29 : decode cX12_briefest 29 = .ok (.isub, 1) := by decide +kernel
theorem dX12_briefest_30 : decode cX12_briefest 30 = .ok (.iload 4, 2) := by decide +kernel
theorem dX12_briefest_32 : decode cX12_briefest 32 = .ok (.invokevirtual 415, 3) := by decide +kernel
theorem dX12_briefest_35 : decode cX12_briefest 35 = .ok (.iadd, 1) := by decide +kernel
theorem dX12_briefest_36 : decode cX12_briefest 36 = .ok (.istore 7, 2) := by decide +kernel
theorem dX12_briefest_38 : decode cX12_briefest 38 = .ok (.iload 7, 2) := by decide +kernel
theorem dX12_briefest_40 : decode cX12_briefest 40 = .ok (.iload 5, 2) := by decide +kernel
theorem dX12_briefest_42 : decode cX12_briefest 42 = .ok (.if_icmp .ge 8, 3) := by decide +kernel
theorem dX12_briefest_45 : decode cX12_briefest 45 = .ok (.iload 7, 2) := by decide +kernel
theorem dX12_briefest_47 : decode cX12_briefest 47 = .ok (.goto 5, 3) := by decide +kernel
theorem dX12_briefest_50 : decode cX12_briefest 50 = .ok (.iload 5, 2) := by decide +kernel
theorem dX12_briefest_52 : decode cX12_briefest 52 = .ok (.istore 5, 2) := by decide +kernel
theorem dX12_briefest_54 : decode cX12_briefest 54 = .ok (.iinc 6 1, 3) := by decide +kernel
theorem dX12_briefest_57 : decode cX12_briefest 57 = .ok (.goto (-51), 3) := by decide +kernel
theorem dX12_briefest_60 : decode cX12_briefest 60 = .ok (.iconst 1, 1) := by decide +kernel
theorem dX12_briefest_61 : decode cX12_briefest 61 = .ok (.istore 6, 2) := by decide +kernel
theorem dX12_briefest_63 : decode cX12_briefest 63 = .ok (.iload 6, 2) := by decide +kernel
theorem dX12_briefest_65 : decode cX12_briefest 65 = .ok (.iload_n 3, 1) := by decide +kernel
theorem dX12_briefest_66 : decode cX12_briefest 66 = .ok (.if_icmp .ge 93, 3) := by decide +kernel
theorem dX12_briefest_69 : decode cX12_briefest 69 = .ok (.iload_n 3, 1) := by decide +kernel
theorem dX12_briefest_70 : decode cX12_briefest 70 = .ok (.iload 6, 2) := by decide +kernel
theorem dX12_briefest_72 : decode cX12_briefest 72 = .ok (.idiv, 1) := by decide +kernel
theorem dX12_briefest_73 : decode cX12_briefest 73 = .ok (.bipush 20, 2) := by decide +kernel
theorem dX12_briefest_75 : decode cX12_briefest 75 = .ok (.if_icmp .gt 19, 3) := by decide +kernel
theorem dX12_briefest_78 : decode cX12_briefest 78 = .ok (.aload_n 0, 1) := by decide +kernel
theorem dX12_briefest_79 : decode cX12_briefest 79 = .ok (.iload_n 1, 1) := by decide +kernel
theorem dX12_briefest_80 : decode cX12_briefest 80 = .ok (.iload_n 2, 1) := by decide +kernel
theorem dX12_briefest_81 : decode cX12_briefest 81 = .ok (.iload_n 3, 1) := by decide +kernel
theorem dX12_briefest_82 : decode cX12_briefest 82 = .ok (.iload 6, 2) := by decide +kernel
theorem dX12_briefest_84 : decode cX12_briefest 84 = .ok (.invokevirtual 408, 3) := by decide +kernel
theorem dX12_briefest_87 : decode cX12_briefest 87 = .ok (.ifCond .eq 7, 3) := by decide +kernel
theorem dX12_briefest_90 : decode cX12_briefest 90 = .ok (.iconst 1, 1) := by decide +kernel
theorem dX12_briefest_91 : decode cX12_briefest 91 = .ok (.goto 4, 3) := by decide +kernel
theorem dX12_briefest_94 : decode cX12_briefest 94 = .ok (.iconst 0, 1) := by decide +kernel
theorem dX12_briefest_95 : decode cX12_briefest 95 = .ok (.istore 7, 2) := by decide +kernel
theorem dX12_briefest_97 : decode cX12_briefest 97 = .ok (.iload 6, 2) := by decide +kernel
theorem dX12_briefest_99 : decode cX12_briefest 99 = .ok (.iconst 1, 1) := by decide +kernel
theorem dX12_briefest_100 : decode cX12_briefest 100 = .ok (.if_icmp .ne 7, 3) := by decide +kernel
theorem dX12_briefest_103 : decode cX12_briefest 103 = .ok (.iconst 2, 1) := by decide +kernel
theorem dX12_briefest_104 : decode cX12_briefest 104 = .ok (.goto 26, 3) := by decide +kernel
theorem dX12_briefest_107 : decode cX12_briefest 107 = .ok (.iload 4, 2) := by decide +kernel
theorem dX12_briefest_109 : decode cX12_briefest 109 = .ok (.ifCond .le 19, 3) := by decide +kernel
theorem dX12_briefest_112 : decode cX12_briefest 112 = .ok (.aload_n 0, 1) := by decide +kernel
theorem dX12_briefest_113 : decode cX12_briefest 113 = .ok (.iload_n 2, 1) := by decide +kernel
theorem dX12_briefest_114 : decode cX12_briefest 114 = .ok (.iload 6, 2) := by decide +kernel
theorem dX12_briefest_116 : decode cX12_briefest 116 = .ok (.iload 4, 2) := by decide +kernel
theorem dX12_briefest_118 : decode cX12_briefest 118 = .ok (.iconst 1, 1) := by decide +kernel
theorem dX12_briefest_119 : decode cX12_briefest 119 = .ok (.isub, 1) := by decide +kernel
theorem dX12_briefest_120 : decode cX12_briefest 120 = .ok (.invokevirtual 415, 3) := by decide +kernel
theorem dX12_briefest_123 : decode cX12_briefest 123 = .ok (.iconst 3, 1) := by decide +kernel
theorem dX12_briefest_124 : decode cX12_briefest 124 = .ok (.iadd, 1) := by decide +kernel
theorem dX12_briefest_125 : decode cX12_briefest 125 = .ok (.goto 5, 3) := by decide +kernel
theorem dX12_briefest_128 : decode cX12_briefest 128 = .ok (.iload 5, 2) := by decide +kernel
theorem dX12_briefest_130 : decode cX12_briefest 130 = .ok (.istore 8, 2) := by decide +kernel
theorem dX12_briefest_132 : decode cX12_briefest 132 = .ok (.iload 7, 2) := by decide +kernel
theorem dX12_briefest_134 : decode cX12_briefest 134 = .ok (.ifCond .eq 15, 3) := by decide +kernel
theorem dX12_briefest_137 : decode cX12_briefest 137 = .ok (.iload 8, 2) := by decide +kernel
theorem dX12_briefest_139 : decode cX12_briefest 139 = .ok (.iload 5, 2) := by decide +kernel
theorem dX12_briefest_141 : decode cX12_briefest 141 = .ok (.if_icmp .ge 8, 3) := by decide +kernel
theorem dX12_briefest_144 : decode cX12_briefest 144 = .ok (.iload 8, 2) := by decide +kernel
theorem dX12_briefest_146 : decode cX12_briefest 146 = .ok (.goto 5, 3) := by decide +kernel
theorem dX12_briefest_149 : decode cX12_briefest 149 = .ok (.iload 5, 2) := by decide +kernel
theorem dX12_briefest_151 : decode cX12_briefest 151 = .ok (.istore 5, 2) := by decide +kernel
theorem dX12_briefest_153 : decode cX12_briefest 153 = .ok (.iinc 6 1, 3) := by decide +kernel
theorem dX12_briefest_156 : decode cX12_briefest 156 = .ok (.goto (-93), 3) := by decide +kernel
theorem dX12_briefest_159 : decode cX12_briefest 159 = .ok (.iload 5, 2) := by decide +kernel
theorem dX12_briefest_161 : decode cX12_briefest 161 = .ok (.ireturn, 1) := by decide +kernel
theorem dX12_briefOf_0 : decode cX12_briefOf 0 = .ok (.iconst 1, 1) := by decide +kernel
theorem dX12_briefOf_1 : decode cX12_briefOf 1 = .ok (.istore_n 2, 1) := by decide +kernel
theorem dX12_briefOf_2 : decode cX12_briefOf 2 = .ok (.iload_n 2, 1) := by decide +kernel
theorem dX12_briefOf_3 : decode cX12_briefOf 3 = .ok (.aload_n 0, 1) := by decide +kernel
theorem dX12_briefOf_4 : decode cX12_briefOf 4 = .ok (.iload_n 1, 1) := by decide +kernel
theorem dX12_briefOf_5 : decode cX12_briefOf 5 = .ok (.invokevirtual 292, 3) := by decide +kernel
theorem dX12_briefOf_8 : decode cX12_briefOf 8 = .ok (.if_icmp .gt 82, 3) := by decide +kernel
theorem dX12_briefOf_11 : decode cX12_briefOf 11 = .ok (.iconst 0, 1) := by decide +kernel
theorem dX12_briefOf_12 : decode cX12_briefOf 12 = .ok (.istore_n 3, 1) := by decide +kernel
theorem dX12_briefOf_13 : decode cX12_briefOf 13 = .ok (.iload_n 3, 1) := by decide +kernel
theorem dX12_briefOf_14 : decode cX12_briefOf 14 = .ok (.iload_n 2, 1) := by decide +kernel
theorem dX12_briefOf_15 : decode cX12_briefOf 15 = .ok (.iadd, 1) := by decide +kernel
theorem dX12_briefOf_16 : decode cX12_briefOf 16 = .ok (.aload_n 0, 1) := by decide +kernel
theorem dX12_briefOf_17 : decode cX12_briefOf 17 = .ok (.iload_n 1, 1) := by decide +kernel
theorem dX12_briefOf_18 : decode cX12_briefOf 18 = .ok (.invokevirtual 292, 3) := by decide +kernel
theorem dX12_briefOf_21 : decode cX12_briefOf 21 = .ok (.if_icmp .gt 63, 3) := by decide +kernel
theorem dX12_briefOf_24 : decode cX12_briefOf 24 = .ok (.aload_n 0, 1) := by decide +kernel
theorem dX12_briefOf_25 : decode cX12_briefOf 25 = .ok (.getfield 149, 3) := by decide +kernel
theorem dX12_briefOf_28 : decode cX12_briefOf 28 = .ok (.iload_n 3, 1) := by decide +kernel
theorem dX12_briefOf_29 : decode cX12_briefOf 29 = .ok (.iload_n 2, 1) := by decide +kernel
theorem dX12_briefOf_30 : decode cX12_briefOf 30 = .ok (.invokestatic 412, 3) := by decide +kernel
theorem dX12_briefOf_33 : decode cX12_briefOf 33 = .ok (.iconst 0, 1) := by decide +kernel
theorem dX12_briefOf_34 : decode cX12_briefOf 34 = .ok (.iastore, 1) := by decide +kernel
theorem dX12_briefOf_35 : decode cX12_briefOf 35 = .ok (.iconst 0, 1) := by decide +kernel
theorem dX12_briefOf_36 : decode cX12_briefOf 36 = .ok (.istore 4, 2) := by decide +kernel
theorem dX12_briefOf_38 : decode cX12_briefOf 38 = .ok (.iload 4, 2) := by decide +kernel
theorem dX12_briefOf_40 : decode cX12_briefOf 40 = .ok (.iconst 4, 1) := by decide +kernel
theorem dX12_briefOf_41 : decode cX12_briefOf 41 = .ok (.if_icmp .ge 37, 3) := by decide +kernel
theorem dX12_briefOf_44 : decode cX12_briefOf 44 = .ok (.aload_n 0, 1) := by decide +kernel
theorem dX12_briefOf_45 : decode cX12_briefOf 45 = .ok (.getfield 149, 3) := by decide +kernel
theorem dX12_briefOf_48 : decode cX12_briefOf 48 = .ok (.iload_n 3, 1) := by decide +kernel
theorem dX12_briefOf_49 : decode cX12_briefOf 49 = .ok (.iload_n 2, 1) := by decide +kernel
theorem dX12_briefOf_50 : decode cX12_briefOf 50 = .ok (.invokestatic 412, 3) := by decide +kernel
theorem dX12_briefOf_53 : decode cX12_briefOf 53 = .ok (.dup2, 1) := by decide +kernel
theorem dX12_briefOf_54 : decode cX12_briefOf 54 = .ok (.iaload, 1) := by decide +kernel
theorem dX12_briefOf_55 : decode cX12_briefOf 55 = .ok (.aload_n 0, 1) := by decide +kernel
theorem dX12_briefOf_56 : decode cX12_briefOf 56 = .ok (.iload_n 1, 1) := by decide +kernel
theorem dX12_briefOf_57 : decode cX12_briefOf 57 = .ok (.iload_n 3, 1) := by decide +kernel
theorem dX12_briefOf_58 : decode cX12_briefOf 58 = .ok (.iload_n 2, 1) := by decide +kernel
theorem dX12_briefOf_59 : decode cX12_briefOf 59 = .ok (.iload 4, 2) := by decide +kernel
theorem dX12_briefOf_61 : decode cX12_briefOf 61 = .ok (.invokevirtual 418, 3) := by decide +kernel
theorem dX12_briefOf_64 : decode cX12_briefOf 64 = .ok (.bipush 6, 2) := by decide +kernel
theorem dX12_briefOf_66 : decode cX12_briefOf 66 = .ok (.iload 4, 2) := by decide +kernel
theorem dX12_briefOf_68 : decode cX12_briefOf 68 = .ok (.imul, 1) := by decide +kernel
theorem dX12_briefOf_69 : decode cX12_briefOf 69 = .ok (.ishl, 1) := by decide +kernel
theorem dX12_briefOf_70 : decode cX12_briefOf 70 = .ok (.ior, 1) := by decide +kernel
theorem dX12_briefOf_71 : decode cX12_briefOf 71 = .ok (.iastore, 1) := by decide +kernel
theorem dX12_briefOf_72 : decode cX12_briefOf 72 = .ok (.iinc 4 1, 3) := by decide +kernel
theorem dX12_briefOf_75 : decode cX12_briefOf 75 = .ok (.goto (-37), 3) := by decide +kernel
theorem dX12_briefOf_78 : decode cX12_briefOf 78 = .ok (.iinc 3 1, 3) := by decide +kernel
theorem dX12_briefOf_81 : decode cX12_briefOf 81 = .ok (.goto (-68), 3) := by decide +kernel
theorem dX12_briefOf_84 : decode cX12_briefOf 84 = .ok (.iinc 2 1, 3) := by decide +kernel
theorem dX12_briefOf_87 : decode cX12_briefOf 87 = .ok (.goto (-85), 3) := by decide +kernel
theorem dX12_briefOf_90 : decode cX12_briefOf 90 = .ok (.aload_n 0, 1) := by decide +kernel
theorem dX12_briefOf_91 : decode cX12_briefOf 91 = .ok (.iconst 0, 1) := by decide +kernel
theorem dX12_briefOf_92 : decode cX12_briefOf 92 = .ok (.aload_n 0, 1) := by decide +kernel
theorem dX12_briefOf_93 : decode cX12_briefOf 93 = .ok (.iload_n 1, 1) := by decide +kernel
theorem dX12_briefOf_94 : decode cX12_briefOf 94 = .ok (.invokevirtual 292, 3) := by decide +kernel
theorem dX12_briefOf_97 : decode cX12_briefOf 97 = .ok (.iconst 3, 1) := by decide +kernel
theorem dX12_briefOf_98 : decode cX12_briefOf 98 = .ok (.invokevirtual 415, 3) := by decide +kernel
theorem dX12_briefOf_101 : decode cX12_briefOf 101 = .ok (.ireturn, 1) := by decide +kernel
theorem dX12_line_0 : decode cX12_line 0 = .ok (.aload_n 0, 1) := by decide +kernel
theorem dX12_line_1 : decode cX12_line 1 = .ok (.iconst 0, 1) := by decide +kernel
theorem dX12_line_2 : decode cX12_line 2 = .ok (.putfield 1, 3) := by decide +kernel
theorem dX12_line_5 : decode cX12_line 5 = .ok (.aload_n 0, 1) := by decide +kernel
theorem dX12_line_6 : decode cX12_line 6 = .ok (.iload_n 1, 1) := by decide +kernel
theorem dX12_line_7 : decode cX12_line 7 = .ok (.invokevirtual 325, 3) := by decide +kernel
theorem dX12_line_10 : decode cX12_line 10 = .ok (.ifCond .eq 12, 3) := by decide +kernel
theorem dX12_line_13 : decode cX12_line 13 = .ok (.iload_n 2, 1) := by decide +kernel
theorem dX12_line_14 : decode cX12_line 14 = .ok (.iconst 0, 1) := by decide +kernel
theorem dX12_line_15 : decode cX12_line 15 = .ok (.iconst 3, 1) := by decide +kernel
theorem dX12_line_16 : decode cX12_line 16 = .ok (.invokestatic 321, 3) := by decide +kernel
theorem dX12_line_19 : decode cX12_line 19 = .ok (.ifCond .ne 6, 3) := by decide +kernel
theorem dX12_line_22 : decode cX12_line 22 = .ok (.bipush (-2), 2) := by decide +kernel
theorem dX12_line_24 : decode cX12_line 24 = .ok (.ireturn, 1) := by decide +kernel
theorem dX12_line_25 : decode cX12_line 25 = .ok (.iload_n 2, 1) := by decide +kernel
theorem dX12_line_26 : decode cX12_line 26 = .ok (.ifCond .ne 11, 3) := by decide +kernel
theorem dX12_line_29 : decode cX12_line 29 = .ok (.aload_n 0, 1) := by decide +kernel
theorem dX12_line_30 : decode cX12_line 30 = .ok (.iload_n 1, 1) := by decide +kernel
theorem dX12_line_31 : decode cX12_line 31 = .ok (.invokevirtual 292, 3) := by decide +kernel
theorem dX12_line_34 : decode cX12_line 34 = .ok (.goto 37, 3) := by decide +kernel
theorem dX12_line_37 : decode cX12_line 37 = .ok (.iload_n 2, 1) := by decide +kernel
theorem dX12_line_38 : decode cX12_line 38 = .ok (.iconst 1, 1) := by decide +kernel
theorem dX12_line_39 : decode cX12_line 39 = .ok (.if_icmp .ne 14, 3) := by decide +kernel
theorem dX12_line_42 : decode cX12_line 42 = .ok (.aload_n 0, 1) := by decide +kernel
theorem dX12_line_43 : decode cX12_line 43 = .ok (.getfield 103, 3) := by decide +kernel
theorem dX12_line_46 : decode cX12_line 46 = .ok (.iconst 4, 1) := by decide +kernel
theorem dX12_line_47 : decode cX12_line 47 = .ok (.iload_n 1, 1) := by decide +kernel
theorem dX12_line_48 : decode cX12_line 48 = .ok (.iadd, 1) := by decide +kernel
theorem dX12_line_49 : decode cX12_line 49 = .ok (.iaload, 1) := by decide +kernel
theorem dX12_line_50 : decode cX12_line 50 = .ok (.goto 21, 3) := by decide +kernel
theorem dX12_line_53 : decode cX12_line 53 = .ok (.iload_n 2, 1) := by decide +kernel
theorem dX12_line_54 : decode cX12_line 54 = .ok (.iconst 2, 1) := by decide +kernel
theorem dX12_line_55 : decode cX12_line 55 = .ok (.if_icmp .ne 11, 3) := by decide +kernel
theorem dX12_line_58 : decode cX12_line 58 = .ok (.aload_n 0, 1) := by decide +kernel
theorem dX12_line_59 : decode cX12_line 59 = .ok (.iload_n 1, 1) := by decide +kernel
theorem dX12_line_60 : decode cX12_line 60 = .ok (.invokevirtual 328, 3) := by decide +kernel
theorem dX12_line_63 : decode cX12_line 63 = .ok (.goto 8, 3) := by decide +kernel
theorem dX12_line_66 : decode cX12_line 66 = .ok (.aload_n 0, 1) := by decide +kernel
theorem dX12_line_67 : decode cX12_line 67 = .ok (.iload_n 1, 1) := by decide +kernel
theorem dX12_line_68 : decode cX12_line 68 = .ok (.invokevirtual 331, 3) := by decide +kernel
theorem dX12_line_71 : decode cX12_line 71 = .ok (.ireturn, 1) := by decide +kernel
theorem dX12_there_0 : decode cX12_there 0 = .ok (.aload_n 0, 1) := by decide +kernel
theorem dX12_there_1 : decode cX12_there 1 = .ok (.iconst 0, 1) := by decide +kernel
theorem dX12_there_2 : decode cX12_there 2 = .ok (.putfield 1, 3) := by decide +kernel
theorem dX12_there_5 : decode cX12_there 5 = .ok (.aload_n 0, 1) := by decide +kernel
theorem dX12_there_6 : decode cX12_there 6 = .ok (.iload_n 1, 1) := by decide +kernel
theorem dX12_there_7 : decode cX12_there 7 = .ok (.invokevirtual 325, 3) := by decide +kernel
theorem dX12_there_10 : decode cX12_there 10 = .ok (.ifCond .eq 27, 3) := by decide +kernel
theorem dX12_there_13 : decode cX12_there 13 = .ok (.iload_n 2, 1) := by decide +kernel
theorem dX12_there_14 : decode cX12_there 14 = .ok (.iconst 0, 1) := by decide +kernel
theorem dX12_there_15 : decode cX12_there 15 = .ok (.aload_n 0, 1) := by decide +kernel
theorem dX12_there_16 : decode cX12_there 16 = .ok (.iload_n 1, 1) := by decide +kernel
theorem dX12_there_17 : decode cX12_there 17 = .ok (.invokevirtual 292, 3) := by decide +kernel
theorem dX12_there_20 : decode cX12_there 20 = .ok (.iconst 1, 1) := by decide +kernel
theorem dX12_there_21 : decode cX12_there 21 = .ok (.isub, 1) := by decide +kernel
theorem dX12_there_22 : decode cX12_there 22 = .ok (.invokestatic 321, 3) := by decide +kernel
theorem dX12_there_25 : decode cX12_there 25 = .ok (.ifCond .eq 12, 3) := by decide +kernel
theorem dX12_there_28 : decode cX12_there 28 = .ok (.aload_n 0, 1) := by decide +kernel
theorem dX12_there_29 : decode cX12_there 29 = .ok (.iload_n 1, 1) := by decide +kernel
theorem dX12_there_30 : decode cX12_there 30 = .ok (.iload_n 2, 1) := by decide +kernel
theorem dX12_there_31 : decode cX12_there 31 = .ok (.invokevirtual 295, 3) := by decide +kernel
theorem dX12_there_34 : decode cX12_there 34 = .ok (.goto 4, 3) := by decide +kernel
theorem dX12_there_37 : decode cX12_there 37 = .ok (.iconst (-1), 1) := by decide +kernel
theorem dX12_there_38 : decode cX12_there 38 = .ok (.ireturn, 1) := by decide +kernel
theorem dX12_mayGuess_0 : decode cX12_mayGuess 0 = .ok (.iload_n 2, 1) := by decide +kernel
theorem dX12_mayGuess_1 : decode cX12_mayGuess 1 = .ok (.iconst 0, 1) := by decide +kernel
theorem dX12_mayGuess_2 : decode cX12_mayGuess 2 = .ok (.iconst 2, 1) := by decide +kernel
theorem dX12_mayGuess_3 : decode cX12_mayGuess 3 = .ok (.invokestatic 321, 3) := by decide +kernel
theorem dX12_mayGuess_6 : decode cX12_mayGuess 6 = .ok (.ifCond .eq 34, 3) := by decide +kernel
theorem dX12_mayGuess_9 : decode cX12_mayGuess 9 = .ok (.iload_n 3, 1) := by decide +kernel
theorem dX12_mayGuess_10 : decode cX12_mayGuess 10 = .ok (.iconst 0, 1) := by decide +kernel
theorem dX12_mayGuess_11 : decode cX12_mayGuess 11 = .ok (.iconst 2, 1) := by decide +kernel
theorem dX12_mayGuess_12 : decode cX12_mayGuess 12 = .ok (.invokestatic 321, 3) := by decide +kernel
theorem dX12_mayGuess_15 : decode cX12_mayGuess 15 = .ok (.ifCond .eq 25, 3) := by decide +kernel
theorem dX12_mayGuess_18 : decode cX12_mayGuess 18 = .ok (.aload_n 0, 1) := by decide +kernel
theorem dX12_mayGuess_19 : decode cX12_mayGuess 19 = .ok (.getfield 110, 3) := by decide +kernel
theorem dX12_mayGuess_22 : decode cX12_mayGuess 22 = .ok (.bipush 9, 2) := by decide +kernel
theorem dX12_mayGuess_24 : decode cX12_mayGuess 24 = .ok (.iload_n 1, 1) := by decide +kernel
theorem dX12_mayGuess_25 : decode cX12_mayGuess 25 = .ok (.imul, 1) := by decide +kernel
theorem dX12_mayGuess_26 : decode cX12_mayGuess 26 = .ok (.iconst 3, 1) := by decide +kernel
theorem dX12_mayGuess_27 : decode cX12_mayGuess 27 = .ok (.iload_n 2, 1) := by decide +kernel
theorem dX12_mayGuess_28 : decode cX12_mayGuess 28 = .ok (.imul, 1) := by decide +kernel
theorem dX12_mayGuess_29 : decode cX12_mayGuess 29 = .ok (.iadd, 1) := by decide +kernel
theorem dX12_mayGuess_30 : decode cX12_mayGuess 30 = .ok (.iload_n 3, 1) := by decide +kernel
theorem dX12_mayGuess_31 : decode cX12_mayGuess 31 = .ok (.iadd, 1) := by decide +kernel
theorem dX12_mayGuess_32 : decode cX12_mayGuess 32 = .ok (.baload, 1) := by decide +kernel
theorem dX12_mayGuess_33 : decode cX12_mayGuess 33 = .ok (.ifCond .eq 7, 3) := by decide +kernel
theorem dX12_mayGuess_36 : decode cX12_mayGuess 36 = .ok (.iconst 1, 1) := by decide +kernel
theorem dX12_mayGuess_37 : decode cX12_mayGuess 37 = .ok (.goto 4, 3) := by decide +kernel
theorem dX12_mayGuess_40 : decode cX12_mayGuess 40 = .ok (.iconst 0, 1) := by decide +kernel
theorem dX12_mayGuess_41 : decode cX12_mayGuess 41 = .ok (.ireturn, 1) := by decide +kernel
theorem dX12_guess_0 : decode cX12_guess 0 = .ok (.aload_n 0, 1) := by decide +kernel
theorem dX12_guess_1 : decode cX12_guess 1 = .ok (.iconst 0, 1) := by decide +kernel
theorem dX12_guess_2 : decode cX12_guess 2 = .ok (.putfield 1, 3) := by decide +kernel
theorem dX12_guess_5 : decode cX12_guess 5 = .ok (.aload_n 0, 1) := by decide +kernel
theorem dX12_guess_6 : decode cX12_guess 6 = .ok (.iload_n 1, 1) := by decide +kernel
theorem dX12_guess_7 : decode cX12_guess 7 = .ok (.invokevirtual 318, 3) := by decide +kernel
theorem dX12_guess_10 : decode cX12_guess 10 = .ok (.ifCond .eq 13, 3) := by decide +kernel
theorem dX12_guess_13 : decode cX12_guess 13 = .ok (.aload_n 0, 1) := by decide +kernel
theorem dX12_guess_14 : decode cX12_guess 14 = .ok (.iload_n 1, 1) := by decide +kernel
theorem dX12_guess_15 : decode cX12_guess 15 = .ok (.iload_n 2, 1) := by decide +kernel
theorem dX12_guess_16 : decode cX12_guess 16 = .ok (.iload_n 3, 1) := by decide +kernel
theorem dX12_guess_17 : decode cX12_guess 17 = .ok (.invokevirtual 334, 3) := by decide +kernel
theorem dX12_guess_20 : decode cX12_guess 20 = .ok (.ifCond .ne 6, 3) := by decide +kernel
theorem dX12_guess_23 : decode cX12_guess 23 = .ok (.bipush (-2), 2) := by decide +kernel
theorem dX12_guess_25 : decode cX12_guess 25 = .ok (.ireturn, 1) := by decide +kernel
theorem dX12_guess_26 : decode cX12_guess 26 = .ok (.aload_n 0, 1) := by decide +kernel
theorem dX12_guess_27 : decode cX12_guess 27 = .ok (.invokevirtual 337, 3) := by decide +kernel
theorem dX12_guess_30 : decode cX12_guess 30 = .ok (.aload_n 0, 1) := by decide +kernel
theorem dX12_guess_31 : decode cX12_guess 31 = .ok (.getfield 103, 3) := by decide +kernel
theorem dX12_guess_34 : decode cX12_guess 34 = .ok (.iload_n 1, 1) := by decide +kernel
theorem dX12_guess_35 : decode cX12_guess 35 = .ok (.iaload, 1) := by decide +kernel
theorem dX12_guess_36 : decode cX12_guess 36 = .ok (.istore 4, 2) := by decide +kernel
theorem dX12_guess_38 : decode cX12_guess 38 = .ok (.aload_n 0, 1) := by decide +kernel
theorem dX12_guess_39 : decode cX12_guess 39 = .ok (.getfield 103, 3) := by decide +kernel
theorem dX12_guess_42 : decode cX12_guess 42 = .ok (.iload_n 1, 1) := by decide +kernel
theorem dX12_guess_43 : decode cX12_guess 43 = .ok (.iconst 3, 1) := by decide +kernel
theorem dX12_guess_44 : decode cX12_guess 44 = .ok (.iload_n 2, 1) := by decide +kernel
theorem dX12_guess_45 : decode cX12_guess 45 = .ok (.imul, 1) := by decide +kernel
theorem dX12_guess_46 : decode cX12_guess 46 = .ok (.iload_n 3, 1) := by decide +kernel
theorem dX12_guess_47 : decode cX12_guess 47 = .ok (.iadd, 1) := by decide +kernel
theorem dX12_guess_48 : decode cX12_guess 48 = .ok (.iastore, 1) := by decide +kernel
theorem dX12_guess_49 : decode cX12_guess 49 = .ok (.iload 4, 2) := by decide +kernel
theorem dX12_guess_51 : decode cX12_guess 51 = .ok (.ireturn, 1) := by decide +kernel
theorem dX12_forget_0 : decode cX12_forget 0 = .ok (.aload_n 0, 1) := by decide +kernel
theorem dX12_forget_1 : decode cX12_forget 1 = .ok (.iconst 0, 1) := by decide +kernel
theorem dX12_forget_2 : decode cX12_forget 2 = .ok (.putfield 1, 3) := by decide +kernel
theorem dX12_forget_5 : decode cX12_forget 5 = .ok (.aload_n 0, 1) := by decide +kernel
theorem dX12_forget_6 : decode cX12_forget 6 = .ok (.iload_n 1, 1) := by decide +kernel
theorem dX12_forget_7 : decode cX12_forget 7 = .ok (.invokevirtual 318, 3) := by decide +kernel
theorem dX12_forget_10 : decode cX12_forget 10 = .ok (.ifCond .eq 12, 3) := by decide +kernel
theorem dX12_forget_13 : decode cX12_forget 13 = .ok (.aload_n 0, 1) := by decide +kernel
theorem dX12_forget_14 : decode cX12_forget 14 = .ok (.getfield 103, 3) := by decide +kernel
theorem dX12_forget_17 : decode cX12_forget 17 = .ok (.iload_n 1, 1) := by decide +kernel
theorem dX12_forget_18 : decode cX12_forget 18 = .ok (.iaload, 1) := by decide +kernel
theorem dX12_forget_19 : decode cX12_forget 19 = .ok (.ifCond .ge 5, 3) := by decide +kernel
theorem dX12_forget_22 : decode cX12_forget 22 = .ok (.iconst (-1), 1) := by decide +kernel
theorem dX12_forget_23 : decode cX12_forget 23 = .ok (.ireturn, 1) := by decide +kernel
theorem dX12_forget_24 : decode cX12_forget 24 = .ok (.aload_n 0, 1) := by decide +kernel
theorem dX12_forget_25 : decode cX12_forget 25 = .ok (.invokevirtual 337, 3) := by decide +kernel
theorem dX12_forget_28 : decode cX12_forget 28 = .ok (.aload_n 0, 1) := by decide +kernel
theorem dX12_forget_29 : decode cX12_forget 29 = .ok (.getfield 103, 3) := by decide +kernel
theorem dX12_forget_32 : decode cX12_forget 32 = .ok (.iload_n 1, 1) := by decide +kernel
theorem dX12_forget_33 : decode cX12_forget 33 = .ok (.iaload, 1) := by decide +kernel
theorem dX12_forget_34 : decode cX12_forget 34 = .ok (.istore_n 2, 1) := by decide +kernel
theorem dX12_forget_35 : decode cX12_forget 35 = .ok (.aload_n 0, 1) := by decide +kernel
theorem dX12_forget_36 : decode cX12_forget 36 = .ok (.getfield 103, 3) := by decide +kernel
theorem dX12_forget_39 : decode cX12_forget 39 = .ok (.iload_n 1, 1) := by decide +kernel
theorem dX12_forget_40 : decode cX12_forget 40 = .ok (.iconst (-1), 1) := by decide +kernel
theorem dX12_forget_41 : decode cX12_forget 41 = .ok (.iastore, 1) := by decide +kernel
theorem dX12_forget_42 : decode cX12_forget 42 = .ok (.iload_n 2, 1) := by decide +kernel
theorem dX12_forget_43 : decode cX12_forget 43 = .ok (.ireturn, 1) := by decide +kernel
theorem dX12_tell_0 : decode cX12_tell 0 = .ok (.aload_n 0, 1) := by decide +kernel
theorem dX12_tell_1 : decode cX12_tell 1 = .ok (.iconst 0, 1) := by decide +kernel
theorem dX12_tell_2 : decode cX12_tell 2 = .ok (.putfield 1, 3) := by decide +kernel
theorem dX12_tell_5 : decode cX12_tell 5 = .ok (.aload_n 0, 1) := by decide +kernel
theorem dX12_tell_6 : decode cX12_tell 6 = .ok (.iload_n 1, 1) := by decide +kernel
theorem dX12_tell_7 : decode cX12_tell 7 = .ok (.invokevirtual 325, 3) := by decide +kernel
theorem dX12_tell_10 : decode cX12_tell 10 = .ok (.ifCond .eq 13, 3) := by decide +kernel
theorem dX12_tell_13 : decode cX12_tell 13 = .ok (.iload_n 2, 1) := by decide +kernel
theorem dX12_tell_14 : decode cX12_tell 14 = .ok (.iconst 0, 1) := by decide +kernel
theorem dX12_tell_15 : decode cX12_tell 15 = .ok (.bipush 99, 2) := by decide +kernel
theorem dX12_tell_17 : decode cX12_tell 17 = .ok (.invokestatic 321, 3) := by decide +kernel
theorem dX12_tell_20 : decode cX12_tell 20 = .ok (.ifCond .ne 6, 3) := by decide +kernel
theorem dX12_tell_23 : decode cX12_tell 23 = .ok (.bipush (-2), 2) := by decide +kernel
theorem dX12_tell_25 : decode cX12_tell 25 = .ok (.ireturn, 1) := by decide +kernel
theorem dX12_tell_26 : decode cX12_tell 26 = .ok (.aload_n 0, 1) := by decide +kernel
theorem dX12_tell_27 : decode cX12_tell 27 = .ok (.invokevirtual 337, 3) := by decide +kernel
theorem dX12_tell_30 : decode cX12_tell 30 = .ok (.aload_n 0, 1) := by decide +kernel
theorem dX12_tell_31 : decode cX12_tell 31 = .ok (.getfield 103, 3) := by decide +kernel
theorem dX12_tell_34 : decode cX12_tell 34 = .ok (.iconst 4, 1) := by decide +kernel
theorem dX12_tell_35 : decode cX12_tell 35 = .ok (.iload_n 1, 1) := by decide +kernel
theorem dX12_tell_36 : decode cX12_tell 36 = .ok (.iadd, 1) := by decide +kernel
theorem dX12_tell_37 : decode cX12_tell 37 = .ok (.iaload, 1) := by decide +kernel
theorem dX12_tell_38 : decode cX12_tell 38 = .ok (.istore_n 3, 1) := by decide +kernel
theorem dX12_tell_39 : decode cX12_tell 39 = .ok (.aload_n 0, 1) := by decide +kernel
theorem dX12_tell_40 : decode cX12_tell 40 = .ok (.getfield 103, 3) := by decide +kernel
theorem dX12_tell_43 : decode cX12_tell 43 = .ok (.iconst 4, 1) := by decide +kernel
theorem dX12_tell_44 : decode cX12_tell 44 = .ok (.iload_n 1, 1) := by decide +kernel
theorem dX12_tell_45 : decode cX12_tell 45 = .ok (.iadd, 1) := by decide +kernel
theorem dX12_tell_46 : decode cX12_tell 46 = .ok (.iload_n 2, 1) := by decide +kernel
theorem dX12_tell_47 : decode cX12_tell 47 = .ok (.iastore, 1) := by decide +kernel
theorem dX12_tell_48 : decode cX12_tell 48 = .ok (.iload_n 3, 1) := by decide +kernel
theorem dX12_tell_49 : decode cX12_tell 49 = .ok (.ireturn, 1) := by decide +kernel
theorem dX12_drop_0 : decode cX12_drop 0 = .ok (.aload_n 0, 1) := by decide +kernel
theorem dX12_drop_1 : decode cX12_drop 1 = .ok (.iconst 0, 1) := by decide +kernel
theorem dX12_drop_2 : decode cX12_drop 2 = .ok (.putfield 1, 3) := by decide +kernel
theorem dX12_drop_5 : decode cX12_drop 5 = .ok (.aload_n 0, 1) := by decide +kernel
theorem dX12_drop_6 : decode cX12_drop 6 = .ok (.iload_n 1, 1) := by decide +kernel
theorem dX12_drop_7 : decode cX12_drop 7 = .ok (.invokevirtual 325, 3) := by decide +kernel
theorem dX12_drop_10 : decode cX12_drop 10 = .ok (.ifCond .eq 14, 3) := by decide +kernel
theorem dX12_drop_13 : decode cX12_drop 13 = .ok (.aload_n 0, 1) := by decide +kernel
theorem dX12_drop_14 : decode cX12_drop 14 = .ok (.getfield 103, 3) := by decide +kernel
theorem dX12_drop_17 : decode cX12_drop 17 = .ok (.iconst 4, 1) := by decide +kernel
theorem dX12_drop_18 : decode cX12_drop 18 = .ok (.iload_n 1, 1) := by decide +kernel
theorem dX12_drop_19 : decode cX12_drop 19 = .ok (.iadd, 1) := by decide +kernel
theorem dX12_drop_20 : decode cX12_drop 20 = .ok (.iaload, 1) := by decide +kernel
theorem dX12_drop_21 : decode cX12_drop 21 = .ok (.ifCond .ge 5, 3) := by decide +kernel
theorem dX12_drop_24 : decode cX12_drop 24 = .ok (.iconst (-1), 1) := by decide +kernel
theorem dX12_drop_25 : decode cX12_drop 25 = .ok (.ireturn, 1) := by decide +kernel
theorem dX12_drop_26 : decode cX12_drop 26 = .ok (.aload_n 0, 1) := by decide +kernel
theorem dX12_drop_27 : decode cX12_drop 27 = .ok (.invokevirtual 337, 3) := by decide +kernel
theorem dX12_drop_30 : decode cX12_drop 30 = .ok (.aload_n 0, 1) := by decide +kernel
theorem dX12_drop_31 : decode cX12_drop 31 = .ok (.getfield 103, 3) := by decide +kernel
theorem dX12_drop_34 : decode cX12_drop 34 = .ok (.iconst 4, 1) := by decide +kernel
theorem dX12_drop_35 : decode cX12_drop 35 = .ok (.iload_n 1, 1) := by decide +kernel
theorem dX12_drop_36 : decode cX12_drop 36 = .ok (.iadd, 1) := by decide +kernel
theorem dX12_drop_37 : decode cX12_drop 37 = .ok (.iaload, 1) := by decide +kernel
theorem dX12_drop_38 : decode cX12_drop 38 = .ok (.istore_n 2, 1) := by decide +kernel
theorem dX12_drop_39 : decode cX12_drop 39 = .ok (.aload_n 0, 1) := by decide +kernel
theorem dX12_drop_40 : decode cX12_drop 40 = .ok (.getfield 103, 3) := by decide +kernel
theorem dX12_drop_43 : decode cX12_drop 43 = .ok (.iconst 4, 1) := by decide +kernel
theorem dX12_drop_44 : decode cX12_drop 44 = .ok (.iload_n 1, 1) := by decide +kernel
theorem dX12_drop_45 : decode cX12_drop 45 = .ok (.iadd, 1) := by decide +kernel
theorem dX12_drop_46 : decode cX12_drop 46 = .ok (.iconst (-1), 1) := by decide +kernel
theorem dX12_drop_47 : decode cX12_drop 47 = .ok (.iastore, 1) := by decide +kernel
theorem dX12_drop_48 : decode cX12_drop 48 = .ok (.iload_n 2, 1) := by decide +kernel
theorem dX12_drop_49 : decode cX12_drop 49 = .ok (.ireturn, 1) := by decide +kernel
theorem dX12_undo_0 : decode cX12_undo 0 = .ok (.aload_n 0, 1) := by decide +kernel
theorem dX12_undo_1 : decode cX12_undo 1 = .ok (.iconst 0, 1) := by decide +kernel
theorem dX12_undo_2 : decode cX12_undo 2 = .ok (.putfield 1, 3) := by decide +kernel
theorem dX12_undo_5 : decode cX12_undo 5 = .ok (.aload_n 0, 1) := by decide +kernel
theorem dX12_undo_6 : decode cX12_undo 6 = .ok (.getfield 305, 3) := by decide +kernel
theorem dX12_undo_9 : decode cX12_undo 9 = .ok (.ifCond .ne 5, 3) := by decide +kernel
theorem dX12_undo_12 : decode cX12_undo 12 = .ok (.iconst 0, 1) := by decide +kernel
theorem dX12_undo_13 : decode cX12_undo 13 = .ok (.ireturn, 1) := by decide +kernel
theorem dX12_undo_14 : decode cX12_undo 14 = .ok (.aload_n 0, 1) := by decide +kernel
theorem dX12_undo_15 : decode cX12_undo 15 = .ok (.dup, 1) := by decide +kernel
theorem dX12_undo_16 : decode cX12_undo 16 = .ok (.getfield 305, 3) := by decide +kernel
theorem dX12_undo_19 : decode cX12_undo 19 = .ok (.iconst 1, 1) := by decide +kernel
theorem dX12_undo_20 : decode cX12_undo 20 = .ok (.isub, 1) := by decide +kernel
theorem dX12_undo_21 : decode cX12_undo 21 = .ok (.putfield 305, 3) := by decide +kernel
theorem dX12_undo_24 : decode cX12_undo 24 = .ok (.aload_n 0, 1) := by decide +kernel
theorem dX12_undo_25 : decode cX12_undo 25 = .ok (.bipush 12, 2) := by decide +kernel
theorem dX12_undo_27 : decode cX12_undo 27 = .ok (.iconst 5, 1) := by decide +kernel
theorem dX12_undo_28 : decode cX12_undo 28 = .ok (.aload_n 0, 1) := by decide +kernel
theorem dX12_undo_29 : decode cX12_undo 29 = .ok (.getfield 305, 3) := by decide +kernel
theorem dX12_undo_32 : decode cX12_undo 32 = .ok (.iadd, 1) := by decide +kernel
theorem dX12_undo_33 : decode cX12_undo 33 = .ok (.imul, 1) := by decide +kernel
theorem dX12_undo_34 : decode cX12_undo 34 = .ok (.iconst 0, 1) := by decide +kernel
theorem dX12_undo_35 : decode cX12_undo 35 = .ok (.bipush 12, 2) := by decide +kernel
theorem dX12_undo_37 : decode cX12_undo 37 = .ok (.invokevirtual 308, 3) := by decide +kernel
theorem dX12_undo_40 : decode cX12_undo 40 = .ok (.iconst 1, 1) := by decide +kernel
theorem dX12_undo_41 : decode cX12_undo 41 = .ok (.ireturn, 1) := by decide +kernel
theorem dX12_doesLine_0 : decode cX12_doesLine 0 = .ok (.aload_n 0, 1) := by decide +kernel
theorem dX12_doesLine_1 : decode cX12_doesLine 1 = .ok (.getfield 94, 3) := by decide +kernel
theorem dX12_doesLine_4 : decode cX12_doesLine 4 = .ok (.iload_n 1, 1) := by decide +kernel
theorem dX12_doesLine_5 : decode cX12_doesLine 5 = .ok (.iconst 1, 1) := by decide +kernel
theorem dX12_doesLine_6 : decode cX12_doesLine 6 = .ok (.iadd, 1) := by decide +kernel
theorem dX12_doesLine_7 : decode cX12_doesLine 7 = .ok (.iaload, 1) := by decide +kernel
theorem dX12_doesLine_8 : decode cX12_doesLine 8 = .ok (.istore_n 2, 1) := by decide +kernel
theorem dX12_doesLine_9 : decode cX12_doesLine 9 = .ok (.aload_n 0, 1) := by decide +kernel
theorem dX12_doesLine_10 : decode cX12_doesLine 10 = .ok (.getfield 94, 3) := by decide +kernel
theorem dX12_doesLine_13 : decode cX12_doesLine 13 = .ok (.iload_n 1, 1) := by decide +kernel
theorem dX12_doesLine_14 : decode cX12_doesLine 14 = .ok (.iaload, 1) := by decide +kernel
theorem dX12_doesLine_15 : decode cX12_doesLine 15 = .ok (.tableswitch 116 0 2 #[25, 78, 98], 25) := by decide +kernel
theorem dX12_doesLine_40 : decode cX12_doesLine 40 = .ok (.aload_n 0, 1) := by decide +kernel
theorem dX12_doesLine_41 : decode cX12_doesLine 41 = .ok (.iload_n 2, 1) := by decide +kernel
theorem dX12_doesLine_42 : decode cX12_doesLine 42 = .ok (.aload_n 0, 1) := by decide +kernel
theorem dX12_doesLine_43 : decode cX12_doesLine 43 = .ok (.getfield 94, 3) := by decide +kernel
theorem dX12_doesLine_46 : decode cX12_doesLine 46 = .ok (.iload_n 1, 1) := by decide +kernel
theorem dX12_doesLine_47 : decode cX12_doesLine 47 = .ok (.iconst 2, 1) := by decide +kernel
theorem dX12_doesLine_48 : decode cX12_doesLine 48 = .ok (.iadd, 1) := by decide +kernel
theorem dX12_doesLine_49 : decode cX12_doesLine 49 = .ok (.iaload, 1) := by decide +kernel
theorem dX12_doesLine_50 : decode cX12_doesLine 50 = .ok (.aload_n 0, 1) := by decide +kernel
theorem dX12_doesLine_51 : decode cX12_doesLine 51 = .ok (.getfield 94, 3) := by decide +kernel
theorem dX12_doesLine_54 : decode cX12_doesLine 54 = .ok (.iload_n 1, 1) := by decide +kernel
theorem dX12_doesLine_55 : decode cX12_doesLine 55 = .ok (.iconst 3, 1) := by decide +kernel
theorem dX12_doesLine_56 : decode cX12_doesLine 56 = .ok (.iadd, 1) := by decide +kernel
theorem dX12_doesLine_57 : decode cX12_doesLine 57 = .ok (.iaload, 1) := by decide +kernel
theorem dX12_doesLine_58 : decode cX12_doesLine 58 = .ok (.invokevirtual 334, 3) := by decide +kernel
theorem dX12_doesLine_61 : decode cX12_doesLine 61 = .ok (.ifCond .ne 5, 3) := by decide +kernel
theorem dX12_doesLine_64 : decode cX12_doesLine 64 = .ok (.iconst 0, 1) := by decide +kernel
theorem dX12_doesLine_65 : decode cX12_doesLine 65 = .ok (.ireturn, 1) := by decide +kernel
theorem dX12_doesLine_66 : decode cX12_doesLine 66 = .ok (.aload_n 0, 1) := by decide +kernel
theorem dX12_doesLine_67 : decode cX12_doesLine 67 = .ok (.getfield 103, 3) := by decide +kernel
theorem dX12_doesLine_70 : decode cX12_doesLine 70 = .ok (.iload_n 2, 1) := by decide +kernel
theorem dX12_doesLine_71 : decode cX12_doesLine 71 = .ok (.iconst 3, 1) := by decide +kernel
theorem dX12_doesLine_72 : decode cX12_doesLine 72 = .ok (.aload_n 0, 1) := by decide +kernel
theorem dX12_doesLine_73 : decode cX12_doesLine 73 = .ok (.getfield 94, 3) := by decide +kernel
theorem dX12_doesLine_76 : decode cX12_doesLine 76 = .ok (.iload_n 1, 1) := by decide +kernel
theorem dX12_doesLine_77 : decode cX12_doesLine 77 = .ok (.iconst 2, 1) := by decide +kernel
theorem dX12_doesLine_78 : decode cX12_doesLine 78 = .ok (.iadd, 1) := by decide +kernel
theorem dX12_doesLine_79 : decode cX12_doesLine 79 = .ok (.iaload, 1) := by decide +kernel
theorem dX12_doesLine_80 : decode cX12_doesLine 80 = .ok (.imul, 1) := by decide +kernel
theorem dX12_doesLine_81 : decode cX12_doesLine 81 = .ok (.aload_n 0, 1) := by decide +kernel
theorem dX12_doesLine_82 : decode cX12_doesLine 82 = .ok (.getfield 94, 3) := by decide +kernel
theorem dX12_doesLine_85 : decode cX12_doesLine 85 = .ok (.iload_n 1, 1) := by decide +kernel
theorem dX12_doesLine_86 : decode cX12_doesLine 86 = .ok (.iconst 3, 1) := by decide +kernel
theorem dX12_doesLine_87 : decode cX12_doesLine 87 = .ok (.iadd, 1) := by decide +kernel
theorem dX12_doesLine_88 : decode cX12_doesLine 88 = .ok (.iaload, 1) := by decide +kernel
theorem dX12_doesLine_89 : decode cX12_doesLine 89 = .ok (.iadd, 1) := by decide +kernel
theorem dX12_doesLine_90 : decode cX12_doesLine 90 = .ok (.iastore, 1) := by decide +kernel
theorem dX12_doesLine_91 : decode cX12_doesLine 91 = .ok (.iconst 1, 1) := by decide +kernel
theorem dX12_doesLine_92 : decode cX12_doesLine 92 = .ok (.ireturn, 1) := by decide +kernel
theorem dX12_doesLine_93 : decode cX12_doesLine 93 = .ok (.aload_n 0, 1) := by decide +kernel
theorem dX12_doesLine_94 : decode cX12_doesLine 94 = .ok (.getfield 103, 3) := by decide +kernel
theorem dX12_doesLine_97 : decode cX12_doesLine 97 = .ok (.iload_n 2, 1) := by decide +kernel
theorem dX12_doesLine_98 : decode cX12_doesLine 98 = .ok (.iaload, 1) := by decide +kernel
theorem dX12_doesLine_99 : decode cX12_doesLine 99 = .ok (.ifCond .ge 5, 3) := by decide +kernel
theorem dX12_doesLine_102 : decode cX12_doesLine 102 = .ok (.iconst 0, 1) := by decide +kernel
theorem dX12_doesLine_103 : decode cX12_doesLine 103 = .ok (.ireturn, 1) := by decide +kernel
theorem dX12_doesLine_104 : decode cX12_doesLine 104 = .ok (.aload_n 0, 1) := by decide +kernel
theorem dX12_doesLine_105 : decode cX12_doesLine 105 = .ok (.getfield 103, 3) := by decide +kernel
theorem dX12_doesLine_108 : decode cX12_doesLine 108 = .ok (.iload_n 2, 1) := by decide +kernel
theorem dX12_doesLine_109 : decode cX12_doesLine 109 = .ok (.iconst (-1), 1) := by decide +kernel
theorem dX12_doesLine_110 : decode cX12_doesLine 110 = .ok (.iastore, 1) := by decide +kernel
theorem dX12_doesLine_111 : decode cX12_doesLine 111 = .ok (.iconst 1, 1) := by decide +kernel
theorem dX12_doesLine_112 : decode cX12_doesLine 112 = .ok (.ireturn, 1) := by decide +kernel
theorem dX12_doesLine_113 : decode cX12_doesLine 113 = .ok (.aload_n 0, 1) := by decide +kernel
theorem dX12_doesLine_114 : decode cX12_doesLine 114 = .ok (.getfield 103, 3) := by decide +kernel
theorem dX12_doesLine_117 : decode cX12_doesLine 117 = .ok (.iconst 4, 1) := by decide +kernel
theorem dX12_doesLine_118 : decode cX12_doesLine 118 = .ok (.iload_n 2, 1) := by decide +kernel
theorem dX12_doesLine_119 : decode cX12_doesLine 119 = .ok (.iadd, 1) := by decide +kernel
theorem dX12_doesLine_120 : decode cX12_doesLine 120 = .ok (.aload_n 0, 1) := by decide +kernel
theorem dX12_doesLine_121 : decode cX12_doesLine 121 = .ok (.getfield 94, 3) := by decide +kernel
theorem dX12_doesLine_124 : decode cX12_doesLine 124 = .ok (.iload_n 1, 1) := by decide +kernel
theorem dX12_doesLine_125 : decode cX12_doesLine 125 = .ok (.iconst 2, 1) := by decide +kernel
theorem dX12_doesLine_126 : decode cX12_doesLine 126 = .ok (.iadd, 1) := by decide +kernel
theorem dX12_doesLine_127 : decode cX12_doesLine 127 = .ok (.iaload, 1) := by decide +kernel
theorem dX12_doesLine_128 : decode cX12_doesLine 128 = .ok (.iastore, 1) := by decide +kernel
theorem dX12_doesLine_129 : decode cX12_doesLine 129 = .ok (.iconst 1, 1) := by decide +kernel
theorem dX12_doesLine_130 : decode cX12_doesLine 130 = .ok (.ireturn, 1) := by decide +kernel
theorem dX12_doesLine_131 : decode cX12_doesLine 131 = .ok (.aload_n 0, 1) := by decide +kernel
theorem dX12_doesLine_132 : decode cX12_doesLine 132 = .ok (.getfield 103, 3) := by decide +kernel
theorem dX12_doesLine_135 : decode cX12_doesLine 135 = .ok (.iconst 4, 1) := by decide +kernel
theorem dX12_doesLine_136 : decode cX12_doesLine 136 = .ok (.iload_n 2, 1) := by decide +kernel
theorem dX12_doesLine_137 : decode cX12_doesLine 137 = .ok (.iadd, 1) := by decide +kernel
theorem dX12_doesLine_138 : decode cX12_doesLine 138 = .ok (.iaload, 1) := by decide +kernel
theorem dX12_doesLine_139 : decode cX12_doesLine 139 = .ok (.ifCond .ge 5, 3) := by decide +kernel
theorem dX12_doesLine_142 : decode cX12_doesLine 142 = .ok (.iconst 0, 1) := by decide +kernel
theorem dX12_doesLine_143 : decode cX12_doesLine 143 = .ok (.ireturn, 1) := by decide +kernel
theorem dX12_doesLine_144 : decode cX12_doesLine 144 = .ok (.aload_n 0, 1) := by decide +kernel
theorem dX12_doesLine_145 : decode cX12_doesLine 145 = .ok (.getfield 103, 3) := by decide +kernel
theorem dX12_doesLine_148 : decode cX12_doesLine 148 = .ok (.iconst 4, 1) := by decide +kernel
theorem dX12_doesLine_149 : decode cX12_doesLine 149 = .ok (.iload_n 2, 1) := by decide +kernel
theorem dX12_doesLine_150 : decode cX12_doesLine 150 = .ok (.iadd, 1) := by decide +kernel
theorem dX12_doesLine_151 : decode cX12_doesLine 151 = .ok (.iconst (-1), 1) := by decide +kernel
theorem dX12_doesLine_152 : decode cX12_doesLine 152 = .ok (.iastore, 1) := by decide +kernel
theorem dX12_doesLine_153 : decode cX12_doesLine 153 = .ok (.iconst 1, 1) := by decide +kernel
theorem dX12_doesLine_154 : decode cX12_doesLine 154 = .ok (.ireturn, 1) := by decide +kernel
theorem dX12_allDictionaries_0 : decode cX12_allDictionaries 0 = .ok (.iconst 1, 1) := by decide +kernel
theorem dX12_allDictionaries_1 : decode cX12_allDictionaries 1 = .ok (.istore_n 1, 1) := by decide +kernel
theorem dX12_allDictionaries_2 : decode cX12_allDictionaries 2 = .ok (.iconst 0, 1) := by decide +kernel
theorem dX12_allDictionaries_3 : decode cX12_allDictionaries 3 = .ok (.istore_n 2, 1) := by decide +kernel
theorem dX12_allDictionaries_4 : decode cX12_allDictionaries 4 = .ok (.iload_n 2, 1) := by decide +kernel
theorem dX12_allDictionaries_5 : decode cX12_allDictionaries 5 = .ok (.aload_n 0, 1) := by decide +kernel
theorem dX12_allDictionaries_6 : decode cX12_allDictionaries 6 = .ok (.invokevirtual 266, 3) := by decide +kernel
theorem dX12_allDictionaries_9 : decode cX12_allDictionaries 9 = .ok (.if_icmp .ge 14, 3) := by decide +kernel
theorem dX12_allDictionaries_12 : decode cX12_allDictionaries 12 = .ok (.iload_n 1, 1) := by decide +kernel
theorem dX12_allDictionaries_13 : decode cX12_allDictionaries 13 = .ok (.bipush 9, 2) := by decide +kernel
theorem dX12_allDictionaries_15 : decode cX12_allDictionaries 15 = .ok (.imul, 1) := by decide +kernel
theorem dX12_allDictionaries_16 : decode cX12_allDictionaries 16 = .ok (.istore_n 1, 1) := by decide +kernel
theorem dX12_allDictionaries_17 : decode cX12_allDictionaries 17 = .ok (.iinc 2 1, 3) := by decide +kernel
theorem dX12_allDictionaries_20 : decode cX12_allDictionaries 20 = .ok (.goto (-16), 3) := by decide +kernel
theorem dX12_allDictionaries_23 : decode cX12_allDictionaries 23 = .ok (.iload_n 1, 1) := by decide +kernel
theorem dX12_allDictionaries_24 : decode cX12_allDictionaries 24 = .ok (.ireturn, 1) := by decide +kernel
theorem dX12_clears_0 : decode cX12_clears 0 = .ok (.aload_n 0, 1) := by decide +kernel
theorem dX12_clears_1 : decode cX12_clears 1 = .ok (.iconst 0, 1) := by decide +kernel
theorem dX12_clears_2 : decode cX12_clears 2 = .ok (.putfield 346, 3) := by decide +kernel
theorem dX12_clears_5 : decode cX12_clears 5 = .ok (.aload_n 0, 1) := by decide +kernel
theorem dX12_clears_6 : decode cX12_clears 6 = .ok (.iconst (-1), 1) := by decide +kernel
theorem dX12_clears_7 : decode cX12_clears 7 = .ok (.putfield 355, 3) := by decide +kernel
theorem dX12_clears_10 : decode cX12_clears 10 = .ok (.iconst 0, 1) := by decide +kernel
theorem dX12_clears_11 : decode cX12_clears 11 = .ok (.istore_n 1, 1) := by decide +kernel
theorem dX12_clears_12 : decode cX12_clears 12 = .ok (.iload_n 1, 1) := by decide +kernel
theorem dX12_clears_13 : decode cX12_clears 13 = .ok (.bipush 36, 2) := by decide +kernel
theorem dX12_clears_15 : decode cX12_clears 15 = .ok (.if_icmp .ge 16, 3) := by decide +kernel
theorem dX12_clears_18 : decode cX12_clears 18 = .ok (.aload_n 0, 1) := by decide +kernel
theorem dX12_clears_19 : decode cX12_clears 19 = .ok (.getfield 128, 3) := by decide +kernel
theorem dX12_clears_22 : decode cX12_clears 22 = .ok (.iload_n 1, 1) := by decide +kernel
theorem dX12_clears_23 : decode cX12_clears 23 = .ok (.iconst 0, 1) := by decide +kernel
theorem dX12_clears_24 : decode cX12_clears 24 = .ok (.iastore, 1) := by decide +kernel
theorem dX12_clears_25 : decode cX12_clears 25 = .ok (.iinc 1 1, 3) := by decide +kernel
theorem dX12_clears_28 : decode cX12_clears 28 = .ok (.goto (-16), 3) := by decide +kernel
theorem dX12_clears_31 : decode cX12_clears 31 = .ok (.iconst 0, 1) := by decide +kernel
theorem dX12_clears_32 : decode cX12_clears 32 = .ok (.istore_n 1, 1) := by decide +kernel
theorem dX12_clears_33 : decode cX12_clears 33 = .ok (.iload_n 1, 1) := by decide +kernel
theorem dX12_clears_34 : decode cX12_clears 34 = .ok (.sipush 968, 3) := by decide +kernel
theorem dX12_clears_37 : decode cX12_clears 37 = .ok (.if_icmp .ge 16, 3) := by decide +kernel
theorem dX12_clears_40 : decode cX12_clears 40 = .ok (.aload_n 0, 1) := by decide +kernel
theorem dX12_clears_41 : decode cX12_clears 41 = .ok (.getfield 131, 3) := by decide +kernel
theorem dX12_clears_44 : decode cX12_clears 44 = .ok (.iload_n 1, 1) := by decide +kernel
theorem dX12_clears_45 : decode cX12_clears 45 = .ok (.iconst 0, 1) := by decide +kernel
theorem dX12_clears_46 : decode cX12_clears 46 = .ok (.iastore, 1) := by decide +kernel
theorem dX12_clears_47 : decode cX12_clears 47 = .ok (.iinc 1 1, 3) := by decide +kernel
theorem dX12_clears_50 : decode cX12_clears 50 = .ok (.goto (-17), 3) := by decide +kernel
theorem dX12_clears_53 : decode cX12_clears 53 = .ok (.iconst 0, 1) := by decide +kernel
theorem dX12_clears_54 : decode cX12_clears 54 = .ok (.istore_n 1, 1) := by decide +kernel
theorem dX12_clears_55 : decode cX12_clears 55 = .ok (.iload_n 1, 1) := by decide +kernel
theorem dX12_clears_56 : decode cX12_clears 56 = .ok (.bipush 16, 2) := by decide +kernel
theorem dX12_clears_58 : decode cX12_clears 58 = .ok (.if_icmp .ge 16, 3) := by decide +kernel
theorem dX12_clears_61 : decode cX12_clears 61 = .ok (.aload_n 0, 1) := by decide +kernel
theorem dX12_clears_62 : decode cX12_clears 62 = .ok (.getfield 137, 3) := by decide +kernel
theorem dX12_clears_65 : decode cX12_clears 65 = .ok (.iload_n 1, 1) := by decide +kernel
theorem dX12_clears_66 : decode cX12_clears 66 = .ok (.iconst 1, 1) := by decide +kernel
theorem dX12_clears_67 : decode cX12_clears 67 = .ok (.bastore, 1) := by decide +kernel
theorem dX12_clears_68 : decode cX12_clears 68 = .ok (.iinc 1 1, 3) := by decide +kernel
theorem dX12_clears_71 : decode cX12_clears 71 = .ok (.goto (-16), 3) := by decide +kernel
theorem dX12_clears_74 : decode cX12_clears 74 = .ok (.iconst 0, 1) := by decide +kernel
theorem dX12_clears_75 : decode cX12_clears 75 = .ok (.istore_n 1, 1) := by decide +kernel
theorem dX12_clears_76 : decode cX12_clears 76 = .ok (.iload_n 1, 1) := by decide +kernel
theorem dX12_clears_77 : decode cX12_clears 77 = .ok (.bipush 8, 2) := by decide +kernel
theorem dX12_clears_79 : decode cX12_clears 79 = .ok (.if_icmp .ge 23, 3) := by decide +kernel
theorem dX12_clears_82 : decode cX12_clears 82 = .ok (.aload_n 0, 1) := by decide +kernel
theorem dX12_clears_83 : decode cX12_clears 83 = .ok (.getfield 140, 3) := by decide +kernel
theorem dX12_clears_86 : decode cX12_clears 86 = .ok (.iload_n 1, 1) := by decide +kernel
theorem dX12_clears_87 : decode cX12_clears 87 = .ok (.iconst 0, 1) := by decide +kernel
theorem dX12_clears_88 : decode cX12_clears 88 = .ok (.iastore, 1) := by decide +kernel
theorem dX12_clears_89 : decode cX12_clears 89 = .ok (.aload_n 0, 1) := by decide +kernel
theorem dX12_clears_90 : decode cX12_clears 90 = .ok (.getfield 143, 3) := by decide +kernel
theorem dX12_clears_93 : decode cX12_clears 93 = .ok (.iload_n 1, 1) := by decide +kernel
theorem dX12_clears_94 : decode cX12_clears 94 = .ok (.iconst 0, 1) := by decide +kernel
theorem dX12_clears_95 : decode cX12_clears 95 = .ok (.iastore, 1) := by decide +kernel
theorem dX12_clears_96 : decode cX12_clears 96 = .ok (.iinc 1 1, 3) := by decide +kernel
theorem dX12_clears_99 : decode cX12_clears 99 = .ok (.goto (-23), 3) := by decide +kernel
theorem dX12_clears_102 : decode cX12_clears 102 = .ok (.return_, 1) := by decide +kernel
theorem dX12_goes_0 : decode cX12_goes 0 = .ok (.aload_n 0, 1) := by decide +kernel
theorem dX12_goes_1 : decode cX12_goes 1 = .ok (.getfield 79, 3) := by decide +kernel
theorem dX12_goes_4 : decode cX12_goes 4 = .ok (.iconst 1, 1) := by decide +kernel
theorem dX12_goes_5 : decode cX12_goes 5 = .ok (.iaload, 1) := by decide +kernel
theorem dX12_goes_6 : decode cX12_goes 6 = .ok (.istore_n 1, 1) := by decide +kernel
theorem dX12_goes_7 : decode cX12_goes 7 = .ok (.aload_n 0, 1) := by decide +kernel
theorem dX12_goes_8 : decode cX12_goes 8 = .ok (.iconst 0, 1) := by decide +kernel
theorem dX12_goes_9 : decode cX12_goes 9 = .ok (.putfield 349, 3) := by decide +kernel
theorem dX12_goes_12 : decode cX12_goes 12 = .ok (.aload_n 0, 1) := by decide +kernel
theorem dX12_goes_13 : decode cX12_goes 13 = .ok (.iconst 0, 1) := by decide +kernel
theorem dX12_goes_14 : decode cX12_goes 14 = .ok (.putfield 352, 3) := by decide +kernel
theorem dX12_goes_17 : decode cX12_goes 17 = .ok (.iconst 0, 1) := by decide +kernel
theorem dX12_goes_18 : decode cX12_goes 18 = .ok (.istore_n 2, 1) := by decide +kernel
theorem dX12_goes_19 : decode cX12_goes 19 = .ok (.iload_n 2, 1) := by decide +kernel
theorem dX12_goes_20 : decode cX12_goes 20 = .ok (.aload_n 0, 1) := by decide +kernel
theorem dX12_goes_21 : decode cX12_goes 21 = .ok (.invokevirtual 270, 3) := by decide +kernel
theorem dX12_goes_24 : decode cX12_goes 24 = .ok (.if_icmp .ge 152, 3) := by decide +kernel
theorem dX12_goes_27 : decode cX12_goes 27 = .ok (.iconst 0, 1) := by decide +kernel
theorem dX12_goes_28 : decode cX12_goes 28 = .ok (.istore_n 3, 1) := by decide +kernel
theorem dX12_goes_29 : decode cX12_goes 29 = .ok (.iconst 0, 1) := by decide +kernel
theorem dX12_goes_30 : decode cX12_goes 30 = .ok (.istore 4, 2) := by decide +kernel
theorem dX12_goes_32 : decode cX12_goes 32 = .ok (.iconst 0, 1) := by decide +kernel
theorem dX12_goes_33 : decode cX12_goes 33 = .ok (.istore 5, 2) := by decide +kernel
theorem dX12_goes_35 : decode cX12_goes 35 = .ok (.iload 5, 2) := by decide +kernel
theorem dX12_goes_37 : decode cX12_goes 37 = .ok (.aload_n 0, 1) := by decide +kernel
theorem dX12_goes_38 : decode cX12_goes 38 = .ok (.invokevirtual 266, 3) := by decide +kernel
theorem dX12_goes_41 : decode cX12_goes 41 = .ok (.if_icmp .ge 59, 3) := by decide +kernel
theorem dX12_goes_44 : decode cX12_goes 44 = .ok (.iload_n 3, 1) := by decide +kernel
theorem dX12_goes_45 : decode cX12_goes 45 = .ok (.aload_n 0, 1) := by decide +kernel
theorem dX12_goes_46 : decode cX12_goes 46 = .ok (.getfield 116, 3) := by decide +kernel
theorem dX12_goes_49 : decode cX12_goes 49 = .ok (.iconst 4, 1) := by decide +kernel
theorem dX12_goes_50 : decode cX12_goes 50 = .ok (.iload_n 2, 1) := by decide +kernel
theorem dX12_goes_51 : decode cX12_goes 51 = .ok (.imul, 1) := by decide +kernel
theorem dX12_goes_52 : decode cX12_goes 52 = .ok (.iload 5, 2) := by decide +kernel
theorem dX12_goes_54 : decode cX12_goes 54 = .ok (.iadd, 1) := by decide +kernel
theorem dX12_goes_55 : decode cX12_goes 55 = .ok (.iaload, 1) := by decide +kernel
theorem dX12_goes_56 : decode cX12_goes 56 = .ok (.aload_n 0, 1) := by decide +kernel
theorem dX12_goes_57 : decode cX12_goes 57 = .ok (.getfield 122, 3) := by decide +kernel
theorem dX12_goes_60 : decode cX12_goes 60 = .ok (.iload 5, 2) := by decide +kernel
theorem dX12_goes_62 : decode cX12_goes 62 = .ok (.iaload, 1) := by decide +kernel
theorem dX12_goes_63 : decode cX12_goes 63 = .ok (.iconst 3, 1) := by decide +kernel
theorem dX12_goes_64 : decode cX12_goes 64 = .ok (.idiv, 1) := by decide +kernel
theorem dX12_goes_65 : decode cX12_goes 65 = .ok (.imul, 1) := by decide +kernel
theorem dX12_goes_66 : decode cX12_goes 66 = .ok (.iadd, 1) := by decide +kernel
theorem dX12_goes_67 : decode cX12_goes 67 = .ok (.istore_n 3, 1) := by decide +kernel
theorem dX12_goes_68 : decode cX12_goes 68 = .ok (.iload 4, 2) := by decide +kernel
theorem dX12_goes_70 : decode cX12_goes 70 = .ok (.aload_n 0, 1) := by decide +kernel
theorem dX12_goes_71 : decode cX12_goes 71 = .ok (.getfield 116, 3) := by decide +kernel
theorem dX12_goes_74 : decode cX12_goes 74 = .ok (.iconst 4, 1) := by decide +kernel
theorem dX12_goes_75 : decode cX12_goes 75 = .ok (.iload_n 2, 1) := by decide +kernel
theorem dX12_goes_76 : decode cX12_goes 76 = .ok (.imul, 1) := by decide +kernel
theorem dX12_goes_77 : decode cX12_goes 77 = .ok (.iload 5, 2) := by decide +kernel
theorem dX12_goes_79 : decode cX12_goes 79 = .ok (.iadd, 1) := by decide +kernel
theorem dX12_goes_80 : decode cX12_goes 80 = .ok (.iaload, 1) := by decide +kernel
theorem dX12_goes_81 : decode cX12_goes 81 = .ok (.aload_n 0, 1) := by decide +kernel
theorem dX12_goes_82 : decode cX12_goes 82 = .ok (.getfield 122, 3) := by decide +kernel
theorem dX12_goes_85 : decode cX12_goes 85 = .ok (.iload 5, 2) := by decide +kernel
theorem dX12_goes_87 : decode cX12_goes 87 = .ok (.iaload, 1) := by decide +kernel
theorem dX12_goes_88 : decode cX12_goes 88 = .ok (.iconst 3, 1) := by decide +kernel
theorem dX12_goes_89 : decode cX12_goes 89 = .ok (.irem, 1) := by decide +kernel
theorem dX12_goes_90 : decode cX12_goes 90 = .ok (.imul, 1) := by decide +kernel
theorem dX12_goes_91 : decode cX12_goes 91 = .ok (.iadd, 1) := by decide +kernel
theorem dX12_goes_92 : decode cX12_goes 92 = .ok (.istore 4, 2) := by decide +kernel
theorem dX12_goes_94 : decode cX12_goes 94 = .ok (.iinc 5 1, 3) := by decide +kernel
theorem dX12_goes_97 : decode cX12_goes 97 = .ok (.goto (-62), 3) := by decide +kernel
theorem dX12_goes_100 : decode cX12_goes 100 = .ok (.aload_n 0, 1) := by decide +kernel
theorem dX12_goes_101 : decode cX12_goes 101 = .ok (.dup, 1) := by decide +kernel
theorem dX12_goes_102 : decode cX12_goes 102 = .ok (.getfield 349, 3) := by decide +kernel
theorem dX12_goes_105 : decode cX12_goes 105 = .ok (.iload_n 3, 1) := by decide +kernel
theorem dX12_goes_106 : decode cX12_goes 106 = .ok (.iload_n 1, 1) := by decide +kernel
theorem dX12_goes_107 : decode cX12_goes 107 = .ok (.if_icmp .ne 9, 3) := by decide +kernel
theorem dX12_goes_110 : decode cX12_goes 110 = .ok (.iconst 1, 1) := by decide +kernel
theorem dX12_goes_111 : decode cX12_goes 111 = .ok (.iload_n 2, 1) := by decide +kernel
theorem dX12_goes_112 : decode cX12_goes 112 = .ok (.ishl, 1) := by decide +kernel
theorem dX12_goes_113 : decode cX12_goes 113 = .ok (.goto 4, 3) := by decide +kernel
theorem dX12_goes_116 : decode cX12_goes 116 = .ok (.iconst 0, 1) := by decide +kernel
theorem dX12_goes_117 : decode cX12_goes 117 = .ok (.ior, 1) := by decide +kernel
theorem dX12_goes_118 : decode cX12_goes 118 = .ok (.putfield 349, 3) := by decide +kernel
theorem dX12_goes_121 : decode cX12_goes 121 = .ok (.iload 4, 2) := by decide +kernel
theorem dX12_goes_123 : decode cX12_goes 123 = .ok (.istore_n 1, 1) := by decide +kernel
theorem dX12_goes_124 : decode cX12_goes 124 = .ok (.aload_n 0, 1) := by decide +kernel
theorem dX12_goes_125 : decode cX12_goes 125 = .ok (.getfield 125, 3) := by decide +kernel
theorem dX12_goes_128 : decode cX12_goes 128 = .ok (.iload_n 2, 1) := by decide +kernel
theorem dX12_goes_129 : decode cX12_goes 129 = .ok (.iload_n 1, 1) := by decide +kernel
theorem dX12_goes_130 : decode cX12_goes 130 = .ok (.iastore, 1) := by decide +kernel
theorem dX12_goes_131 : decode cX12_goes 131 = .ok (.aload_n 0, 1) := by decide +kernel
theorem dX12_goes_132 : decode cX12_goes 132 = .ok (.dup, 1) := by decide +kernel
theorem dX12_goes_133 : decode cX12_goes 133 = .ok (.getfield 352, 3) := by decide +kernel
theorem dX12_goes_136 : decode cX12_goes 136 = .ok (.aload_n 0, 1) := by decide +kernel
theorem dX12_goes_137 : decode cX12_goes 137 = .ok (.getfield 103, 3) := by decide +kernel
theorem dX12_goes_140 : decode cX12_goes 140 = .ok (.iconst 4, 1) := by decide +kernel
theorem dX12_goes_141 : decode cX12_goes 141 = .ok (.iload_n 2, 1) := by decide +kernel
theorem dX12_goes_142 : decode cX12_goes 142 = .ok (.iadd, 1) := by decide +kernel
theorem dX12_goes_143 : decode cX12_goes 143 = .ok (.iaload, 1) := by decide +kernel
theorem dX12_goes_144 : decode cX12_goes 144 = .ok (.ifCond .lt 21, 3) := by decide +kernel
theorem dX12_goes_147 : decode cX12_goes 147 = .ok (.aload_n 0, 1) := by decide +kernel
theorem dX12_goes_148 : decode cX12_goes 148 = .ok (.getfield 103, 3) := by decide +kernel
theorem dX12_goes_151 : decode cX12_goes 151 = .ok (.iconst 4, 1) := by decide +kernel
theorem dX12_goes_152 : decode cX12_goes 152 = .ok (.iload_n 2, 1) := by decide +kernel
theorem dX12_goes_153 : decode cX12_goes 153 = .ok (.iadd, 1) := by decide +kernel
theorem dX12_goes_154 : decode cX12_goes 154 = .ok (.iaload, 1) := by decide +kernel
theorem dX12_goes_155 : decode cX12_goes 155 = .ok (.iload_n 1, 1) := by decide +kernel
theorem dX12_goes_156 : decode cX12_goes 156 = .ok (.if_icmp .eq 9, 3) := by decide +kernel
theorem dX12_goes_159 : decode cX12_goes 159 = .ok (.iconst 1, 1) := by decide +kernel
theorem dX12_goes_160 : decode cX12_goes 160 = .ok (.iload_n 2, 1) := by decide +kernel
theorem dX12_goes_161 : decode cX12_goes 161 = .ok (.ishl, 1) := by decide +kernel
theorem dX12_goes_162 : decode cX12_goes 162 = .ok (.goto 4, 3) := by decide +kernel
theorem dX12_goes_165 : decode cX12_goes 165 = .ok (.iconst 0, 1) := by decide +kernel
theorem dX12_goes_166 : decode cX12_goes 166 = .ok (.ior, 1) := by decide +kernel
theorem dX12_goes_167 : decode cX12_goes 167 = .ok (.putfield 352, 3) := by decide +kernel
theorem dX12_goes_170 : decode cX12_goes 170 = .ok (.iinc 2 1, 3) := by decide +kernel
theorem dX12_goes_173 : decode cX12_goes 173 = .ok (.goto (-154), 3) := by decide +kernel
theorem dX12_goes_176 : decode cX12_goes 176 = .ok (.return_, 1) := by decide +kernel
theorem zq_180 : Cond.fieldLink RX12 122 "ForeignKnitModel" "mean" "[I" ∈ zG := List.mem_of_getElem? (i := 180) (by decide +kernel)
theorem zq_181 : Cond.fieldLink RX12 125 "ForeignKnitModel" "back" "[I" ∈ zG := List.mem_of_getElem? (i := 181) (by decide +kernel)
theorem zq_182 : Cond.fieldLink RX12 128 "ForeignKnitModel" "withOf" "[I" ∈ zG := List.mem_of_getElem? (i := 182) (by decide +kernel)
theorem zq_183 : Cond.fieldLink RX12 131 "ForeignKnitModel" "stitches" "[I" ∈ zG := List.mem_of_getElem? (i := 183) (by decide +kernel)
theorem zq_185 : Cond.fieldLink RX12 137 "ForeignKnitModel" "isTwin" "[Z" ∈ zG := List.mem_of_getElem? (i := 185) (by decide +kernel)
theorem zq_186 : Cond.fieldLink RX12 140 "ForeignKnitModel" "moreOffs" "[I" ∈ zG := List.mem_of_getElem? (i := 186) (by decide +kernel)
theorem zq_187 : Cond.fieldLink RX12 143 "ForeignKnitModel" "moreUps" "[I" ∈ zG := List.mem_of_getElem? (i := 187) (by decide +kernel)
theorem zq_189 : Cond.fieldLink RX12 149 "ForeignKnitModel" "briefs" "[I" ∈ zG := List.mem_of_getElem? (i := 189) (by decide +kernel)
theorem zq_190 : Cond.methodLink RX12 152 yX12_standsAsAlways ∈ zG := List.mem_of_getElem? (i := 190) (by decide +kernel)
theorem zq_194 : Cond.methodLink RX12 156 yX12_begins ∈ zG := List.mem_of_getElem? (i := 194) (by decide +kernel)
theorem zq_587 : Cond.methodLink RX12 211 yX12_cutAll ∈ zG := List.mem_of_getElem? (i := 587) (by decide +kernel)
theorem zq_607 : Cond.methodLink RX12 217 yX12_readLine ∈ zG := List.mem_of_getElem? (i := 607) (by decide +kernel)
theorem zq_745 : Cond.methodLink RX12 263 yX12_readNotes ∈ zG := List.mem_of_getElem? (i := 745) (by decide +kernel)
theorem zq_769 : Cond.methodLink RX12 318 yX12_isTerm ∈ zG := List.mem_of_getElem? (i := 769) (by decide +kernel)
theorem zq_773 : Cond.methodLink RX12 321 yX12_within ∈ zG := List.mem_of_getElem? (i := 773) (by decide +kernel)
theorem zq_833 : Cond.methodLink RX12 325 yX12_isRow ∈ zG := List.mem_of_getElem? (i := 833) (by decide +kernel)
theorem zq_837 : Cond.methodLink RX12 328 yX12_beatOf ∈ zG := List.mem_of_getElem? (i := 837) (by decide +kernel)
theorem zq_841 : Cond.methodLink RX12 408 yX12_isAgain ∈ zG := List.mem_of_getElem? (i := 841) (by decide +kernel)
theorem zq_845 : Cond.methodLink RX12 331 yX12_briefOf ∈ zG := List.mem_of_getElem? (i := 845) (by decide +kernel)
theorem zq_849 : Cond.methodLink RX12 412 yX12_partAt ∈ zG := List.mem_of_getElem? (i := 849) (by decide +kernel)
theorem zq_852 : Cond.methodLink RX12 418 yX12_briefest ∈ zG := List.mem_of_getElem? (i := 852) (by decide +kernel)
theorem zq_856 : Cond.methodLink RX12 415 yX12_tokensOf ∈ zG := List.mem_of_getElem? (i := 856) (by decide +kernel)
theorem zq_906 : Cond.methodLink RX12 334 yX12_mayGuess ∈ zG := List.mem_of_getElem? (i := 906) (by decide +kernel)
theorem zq_910 : Cond.methodLink RX12 337 yX12_keeps ∈ zG := List.mem_of_getElem? (i := 910) (by decide +kernel)
theorem zq_914 : Cond.methodLink RX12 308 yX12_copies ∈ zG := List.mem_of_getElem? (i := 914) (by decide +kernel)
theorem zq_1060 : Cond.fieldLink RX12 346 "ForeignKnitModel" "fitting" "I" ∈ zG := List.mem_of_getElem? (i := 1060) (by decide +kernel)
theorem zq_1073 : Cond.fieldLink RX12 355 "ForeignKnitModel" "fewestOffs" "I" ∈ zG := List.mem_of_getElem? (i := 1073) (by decide +kernel)
theorem zq_1086 : Cond.fieldLink RX12 349 "ForeignKnitModel" "ups" "I" ∈ zG := List.mem_of_getElem? (i := 1086) (by decide +kernel)
theorem zq_1087 : Cond.fieldLink RX12 352 "ForeignKnitModel" "offs" "I" ∈ zG := List.mem_of_getElem? (i := 1087) (by decide +kernel)
theorem zfd_X12_122 : zFd RX12 122 12 27 := ⟨_, rfl, by decide, zq_180⟩
theorem zfd_X12_125 : zFd RX12 125 12 28 := ⟨_, rfl, by decide, zq_181⟩
theorem zfd_X12_128 : zFd RX12 128 12 34 := ⟨_, rfl, by decide, zq_182⟩
theorem zfd_X12_131 : zFd RX12 131 12 35 := ⟨_, rfl, by decide, zq_183⟩
theorem zfd_X12_137 : zFd RX12 137 12 37 := ⟨_, rfl, by decide, zq_185⟩
theorem zfd_X12_140 : zFd RX12 140 12 38 := ⟨_, rfl, by decide, zq_186⟩
theorem zfd_X12_143 : zFd RX12 143 12 39 := ⟨_, rfl, by decide, zq_187⟩
theorem zfd_X12_149 : zFd RX12 149 12 41 := ⟨_, rfl, by decide, zq_189⟩
theorem zfd_X12_305 : zFd RX12 305 12 21 := ⟨_, rfl, by decide, zq_198⟩
theorem zfd_X12_349 : zFd RX12 349 12 29 := ⟨_, rfl, by decide, zq_1086⟩
theorem zfd_X12_352 : zFd RX12 352 12 30 := ⟨_, rfl, by decide, zq_1087⟩
theorem zfp_X12_346 : zFp RX12 346 12 31 .int := ⟨_, rfl, by decide, zq_1060, rfl, by decide +kernel⟩
theorem zfp_X12_349 : zFp RX12 349 12 29 .int := ⟨_, rfl, by decide, zq_1086, rfl, by decide +kernel⟩
theorem zfp_X12_352 : zFp RX12 352 12 30 .int := ⟨_, rfl, by decide, zq_1087, rfl, by decide +kernel⟩
theorem zfp_X12_355 : zFp RX12 355 12 33 .int := ⟨_, rfl, by decide, zq_1073, rfl, by decide +kernel⟩
theorem zq_840 : Cond.code yX12_beatOf cX12_beatOf 3 (some .int) ∈ zG := List.mem_of_getElem? (i := 840) (by decide +kernel)
theorem zq_838 : Cond.instanceMethod yX12_beatOf ∈ zG := List.mem_of_getElem? (i := 838) (by decide +kernel)
theorem zq_839 : Cond.selects RX12 yX12_beatOf yX12_beatOf ∈ zG := List.mem_of_getElem? (i := 839) (by decide +kernel)
theorem zy_X12_beatOf : zyV yX12_beatOf cX12_beatOf 3 (some .int) 1 := ⟨zq_840, zq_838, zq_839, zq_5, ⟨by decide, by decide⟩, by decide +kernel, by decide⟩
theorem zq_197 : Cond.code yX12_begins cX12_begins 3 none ∈ zG := List.mem_of_getElem? (i := 197) (by decide +kernel)
theorem zq_195 : Cond.instanceMethod yX12_begins ∈ zG := List.mem_of_getElem? (i := 195) (by decide +kernel)
theorem zq_196 : Cond.selects RX12 yX12_begins yX12_begins ∈ zG := List.mem_of_getElem? (i := 196) (by decide +kernel)
theorem zy_X12_begins : zyV yX12_begins cX12_begins 3 none 0 := ⟨zq_197, zq_195, zq_196, zq_5, ⟨by decide, by decide⟩, by decide +kernel, by decide⟩
theorem zq_848 : Cond.code yX12_briefOf cX12_briefOf 5 (some .int) ∈ zG := List.mem_of_getElem? (i := 848) (by decide +kernel)
theorem zq_846 : Cond.instanceMethod yX12_briefOf ∈ zG := List.mem_of_getElem? (i := 846) (by decide +kernel)
theorem zq_847 : Cond.selects RX12 yX12_briefOf yX12_briefOf ∈ zG := List.mem_of_getElem? (i := 847) (by decide +kernel)
theorem zy_X12_briefOf : zyV yX12_briefOf cX12_briefOf 5 (some .int) 1 := ⟨zq_848, zq_846, zq_847, zq_5, ⟨by decide, by decide⟩, by decide +kernel, by decide⟩
theorem zq_855 : Cond.code yX12_briefest cX12_briefest 9 (some .int) ∈ zG := List.mem_of_getElem? (i := 855) (by decide +kernel)
theorem zq_853 : Cond.instanceMethod yX12_briefest ∈ zG := List.mem_of_getElem? (i := 853) (by decide +kernel)
theorem zq_854 : Cond.selects RX12 yX12_briefest yX12_briefest ∈ zG := List.mem_of_getElem? (i := 854) (by decide +kernel)
theorem zy_X12_briefest : zyV yX12_briefest cX12_briefest 9 (some .int) 4 := ⟨zq_855, zq_853, zq_854, zq_5, ⟨by decide, by decide⟩, by decide +kernel, by decide⟩
theorem zq_917 : Cond.code yX12_copies cX12_copies 5 none ∈ zG := List.mem_of_getElem? (i := 917) (by decide +kernel)
theorem zq_915 : Cond.instanceMethod yX12_copies ∈ zG := List.mem_of_getElem? (i := 915) (by decide +kernel)
theorem zq_916 : Cond.selects RX12 yX12_copies yX12_copies ∈ zG := List.mem_of_getElem? (i := 916) (by decide +kernel)
theorem zy_X12_copies : zyV yX12_copies cX12_copies 5 none 3 := ⟨zq_917, zq_915, zq_916, zq_5, ⟨by decide, by decide⟩, by decide +kernel, by decide⟩
theorem zq_590 : Cond.code yX12_cutAll cX12_cutAll 7 none ∈ zG := List.mem_of_getElem? (i := 590) (by decide +kernel)
theorem zq_588 : Cond.instanceMethod yX12_cutAll ∈ zG := List.mem_of_getElem? (i := 588) (by decide +kernel)
theorem zq_589 : Cond.selects RX12 yX12_cutAll yX12_cutAll ∈ zG := List.mem_of_getElem? (i := 589) (by decide +kernel)
theorem zy_X12_cutAll : zyV yX12_cutAll cX12_cutAll 7 none 0 := ⟨zq_590, zq_588, zq_589, zq_5, ⟨by decide, by decide⟩, by decide +kernel, by decide⟩
theorem zq_844 : Cond.code yX12_isAgain cX12_isAgain 7 (some .boolean) ∈ zG := List.mem_of_getElem? (i := 844) (by decide +kernel)
theorem zq_842 : Cond.instanceMethod yX12_isAgain ∈ zG := List.mem_of_getElem? (i := 842) (by decide +kernel)
theorem zq_843 : Cond.selects RX12 yX12_isAgain yX12_isAgain ∈ zG := List.mem_of_getElem? (i := 843) (by decide +kernel)
theorem zy_X12_isAgain : zyV yX12_isAgain cX12_isAgain 7 (some .boolean) 4 := ⟨zq_844, zq_842, zq_843, zq_5, ⟨by decide, by decide⟩, by decide +kernel, by decide⟩
theorem zq_836 : Cond.code yX12_isRow cX12_isRow 2 (some .boolean) ∈ zG := List.mem_of_getElem? (i := 836) (by decide +kernel)
theorem zq_834 : Cond.instanceMethod yX12_isRow ∈ zG := List.mem_of_getElem? (i := 834) (by decide +kernel)
theorem zq_835 : Cond.selects RX12 yX12_isRow yX12_isRow ∈ zG := List.mem_of_getElem? (i := 835) (by decide +kernel)
theorem zy_X12_isRow : zyV yX12_isRow cX12_isRow 2 (some .boolean) 1 := ⟨zq_836, zq_834, zq_835, zq_5, ⟨by decide, by decide⟩, by decide +kernel, by decide⟩
theorem zq_772 : Cond.code yX12_isTerm cX12_isTerm 2 (some .boolean) ∈ zG := List.mem_of_getElem? (i := 772) (by decide +kernel)
theorem zq_770 : Cond.instanceMethod yX12_isTerm ∈ zG := List.mem_of_getElem? (i := 770) (by decide +kernel)
theorem zq_771 : Cond.selects RX12 yX12_isTerm yX12_isTerm ∈ zG := List.mem_of_getElem? (i := 771) (by decide +kernel)
theorem zy_X12_isTerm : zyV yX12_isTerm cX12_isTerm 2 (some .boolean) 1 := ⟨zq_772, zq_770, zq_771, zq_5, ⟨by decide, by decide⟩, by decide +kernel, by decide⟩
theorem zq_913 : Cond.code yX12_keeps cX12_keeps 2 none ∈ zG := List.mem_of_getElem? (i := 913) (by decide +kernel)
theorem zq_911 : Cond.instanceMethod yX12_keeps ∈ zG := List.mem_of_getElem? (i := 911) (by decide +kernel)
theorem zq_912 : Cond.selects RX12 yX12_keeps yX12_keeps ∈ zG := List.mem_of_getElem? (i := 912) (by decide +kernel)
theorem zy_X12_keeps : zyV yX12_keeps cX12_keeps 2 none 0 := ⟨zq_913, zq_911, zq_912, zq_5, ⟨by decide, by decide⟩, by decide +kernel, by decide⟩
theorem zq_909 : Cond.code yX12_mayGuess cX12_mayGuess 4 (some .boolean) ∈ zG := List.mem_of_getElem? (i := 909) (by decide +kernel)
theorem zq_907 : Cond.instanceMethod yX12_mayGuess ∈ zG := List.mem_of_getElem? (i := 907) (by decide +kernel)
theorem zq_908 : Cond.selects RX12 yX12_mayGuess yX12_mayGuess ∈ zG := List.mem_of_getElem? (i := 908) (by decide +kernel)
theorem zy_X12_mayGuess : zyV yX12_mayGuess cX12_mayGuess 4 (some .boolean) 3 := ⟨zq_909, zq_907, zq_908, zq_5, ⟨by decide, by decide⟩, by decide +kernel, by decide⟩
theorem zq_610 : Cond.code yX12_readLine cX12_readLine 3 none ∈ zG := List.mem_of_getElem? (i := 610) (by decide +kernel)
theorem zq_608 : Cond.instanceMethod yX12_readLine ∈ zG := List.mem_of_getElem? (i := 608) (by decide +kernel)
theorem zq_609 : Cond.selects RX12 yX12_readLine yX12_readLine ∈ zG := List.mem_of_getElem? (i := 609) (by decide +kernel)
theorem zy_X12_readLine : zyV yX12_readLine cX12_readLine 3 none 0 := ⟨zq_610, zq_608, zq_609, zq_5, ⟨by decide, by decide⟩, by decide +kernel, by decide⟩
theorem zq_748 : Cond.code yX12_readNotes cX12_readNotes 3 none ∈ zG := List.mem_of_getElem? (i := 748) (by decide +kernel)
theorem zq_746 : Cond.instanceMethod yX12_readNotes ∈ zG := List.mem_of_getElem? (i := 746) (by decide +kernel)
theorem zq_747 : Cond.selects RX12 yX12_readNotes yX12_readNotes ∈ zG := List.mem_of_getElem? (i := 747) (by decide +kernel)
theorem zy_X12_readNotes : zyV yX12_readNotes cX12_readNotes 3 none 2 := ⟨zq_748, zq_746, zq_747, zq_5, ⟨by decide, by decide⟩, by decide +kernel, by decide⟩
theorem zq_193 : Cond.code yX12_standsAsAlways cX12_standsAsAlways 3 none ∈ zG := List.mem_of_getElem? (i := 193) (by decide +kernel)
theorem zq_191 : Cond.instanceMethod yX12_standsAsAlways ∈ zG := List.mem_of_getElem? (i := 191) (by decide +kernel)
theorem zq_192 : Cond.selects RX12 yX12_standsAsAlways yX12_standsAsAlways ∈ zG := List.mem_of_getElem? (i := 192) (by decide +kernel)
theorem zy_X12_standsAsAlways : zyV yX12_standsAsAlways cX12_standsAsAlways 3 none 1 := ⟨zq_193, zq_191, zq_192, zq_5, ⟨by decide, by decide⟩, by decide +kernel, by decide⟩
theorem zq_859 : Cond.code yX12_tokensOf cX12_tokensOf 4 (some .int) ∈ zG := List.mem_of_getElem? (i := 859) (by decide +kernel)
theorem zq_857 : Cond.instanceMethod yX12_tokensOf ∈ zG := List.mem_of_getElem? (i := 857) (by decide +kernel)
theorem zq_858 : Cond.selects RX12 yX12_tokensOf yX12_tokensOf ∈ zG := List.mem_of_getElem? (i := 858) (by decide +kernel)
theorem zy_X12_tokensOf : zyV yX12_tokensOf cX12_tokensOf 4 (some .int) 3 := ⟨zq_859, zq_857, zq_858, zq_5, ⟨by decide, by decide⟩, by decide +kernel, by decide⟩
theorem zq_851 : Cond.code yX12_partAt cX12_partAt 3 (some .int) ∈ zG := List.mem_of_getElem? (i := 851) (by decide +kernel)
theorem zq_850 : Cond.static yX12_partAt ∈ zG := List.mem_of_getElem? (i := 850) (by decide +kernel)
theorem zy_X12_partAt : zyS yX12_partAt cX12_partAt 3 (some .int) 2 := ⟨zq_851, zq_850, zq_5, ⟨by decide, by decide⟩, by decide +kernel, by decide⟩
theorem zq_775 : Cond.code yX12_within cX12_within 3 (some .boolean) ∈ zG := List.mem_of_getElem? (i := 775) (by decide +kernel)
theorem zq_774 : Cond.static yX12_within ∈ zG := List.mem_of_getElem? (i := 774) (by decide +kernel)
theorem zy_X12_within : zyS yX12_within cX12_within 3 (some .boolean) 3 := ⟨zq_775, zq_774, zq_5, ⟨by decide, by decide⟩, by decide +kernel, by decide⟩
theorem zf_227 : zfix 227 = true := by decide +kernel
theorem zs_227 : zsh 227 = 20 := by decide +kernel
theorem zl_227 : zln 227 = 4 := by decide +kernel
theorem zf_228 : zfix 228 = true := by decide +kernel
theorem zs_228 : zsh 228 = 20 := by decide +kernel
theorem zl_228 : zln 228 = 8 := by decide +kernel
theorem zf_234 : zfix 234 = true := by decide +kernel
theorem zs_234 : zsh 234 = 20 := by decide +kernel
theorem zl_234 : zln 234 = 36 := by decide +kernel
theorem zf_235 : zfix 235 = true := by decide +kernel
theorem zs_235 : zsh 235 = 20 := by decide +kernel
theorem zl_235 : zln 235 = 968 := by decide +kernel
theorem zf_237 : zfix 237 = true := by decide +kernel
theorem zs_237 : zsh 237 = 22 := by decide +kernel
theorem zl_237 : zln 237 = 16 := by decide +kernel
theorem zf_238 : zfix 238 = true := by decide +kernel
theorem zs_238 : zsh 238 = 20 := by decide +kernel
theorem zl_238 : zln 238 = 8 := by decide +kernel
theorem zf_239 : zfix 239 = true := by decide +kernel
theorem zs_239 : zsh 239 = 20 := by decide +kernel
theorem zl_239 : zln 239 = 8 := by decide +kernel
theorem zf_241 : zfix 241 = true := by decide +kernel
theorem zs_241 : zsh 241 = 20 := by decide +kernel
theorem zl_241 : zln 241 = 1891 := by decide +kernel
section ZM
variable {p : Program} {l : Launch} {e : Env} {R : Room} {s : State} {m : MethodId} {args : Array Value} {below : List Frame} {meth : Method} {c : Code} {cells slots : Nat} {Q : State → Prop} {D : va_G} {dA : Nat → ClassId} {ad ad0 : Nat → Nat} {al al0 : Nat → Prop}
/-! X12_book -/
def fX12_book_L158 (k : Int32 → zW → Prop) : Nat → Int32 → zW → Prop
  | 0 => fun _ _ => False
  | n + 1 => fun x1 w =>
    (((4 : Int32) ≤ x1 →
      fX12_begins  w (fun w11 =>
      k (0 : Int32) w11)) ∧
     (¬ (4 : Int32) ≤ x1 →
      vp_in ((4 : Int32) + x1) 8 ∧ 
      vp_in x1 8 ∧ 
      ∀ w14 : zW, w14 = sL w 214 x1.toNatClampNeg (gL w 214 ((4 : Int32) + x1).toNatClampNeg) →
      fX12_book_L158 k n (x1 + (1 : Int32)) w14))
set_option maxHeartbeats 4000000 in
set_option maxRecDepth 100000 in
theorem mX12_book_L158 {k : Int32 → zW → Prop} (X : zCx p s m args meth c cX12_book 2 RX12 (some .int)) (hr : zRm R 132 cells slots) (hQ : zRetI p l e R s m args below meth c cells slots Q D dA true ad0 al0 ad al cX12_book k)  : ∀ (n : Nat) (x1 : Int32) (w : zW) (H : Heap) (locs : List Loc) (ls : Array Slot), fX12_book_L158 k n x1 w → zSt D dA true ad0 al0 ad al w s H locs → lv_has ls 2 [(0, .ref (ad 200)), (1, .int x1)] → W p l e R s m args below meth c H locs cells slots Q (F0 m 158 ls []) := by
  intro n
  induction n with
  | zero => exact fun _ _ _ _ _ hf => hf.elim
  | succ n ih =>
    intro x1 w H locs ls hf hR hl
    have hx := X.1
    have hb := X.2.1
    have hml := X.2.2.1
    have hown := X.2.2.2.1
    have hts := X.2.2.2.2.1
    rw [fX12_book_L158] at hf
    refine lv_iload_n hx hb dX12_book_158 rfl (lv_at hl 1 rfl) ?_
    refine lv_iconst (v := (4 : Int32)) hx hb dX12_book_159 (by decide) ?_
    refine lv_icmp_ge (tgt := 183) hx hb dX12_book_160 (by decide) (fun c10 => ?_) (fun c10 => ?_)
    · replace hf := hf.1 c10
      refine lv_aload_n hx hb dX12_book_183 rfl (lv_at hl 0 rfl) ?_
      refine z_callVV (fr1 := 3) (b := 200) (As := []) (rest := []) X (hr.le (by decide)) hR zy_X12_begins zq_194 (zlit hR zf_200) (by rw [zs_200]; rfl) rfl (mX12_begins  hf) rfl hl (Nat.le_of_ble_eq_true rfl) dX12_book_184 rfl (fun w11 H locs hf hR => ?_)
      refine lv_iconst (v := (0 : Int32)) hx hb dX12_book_187 (by decide) ?_
      exact hQ _ _ _ _ _ _ hf hR dX12_book_188
    · replace hf := hf.2 c10
      refine lv_aload_n hx hb dX12_book_163 rfl (lv_at hl 0 rfl) ?_
      refine z_getS X hR (zlit hR zf_200) zs_200 (by decide) zfd_X12_88 rfl (r := 214) (by decide +kernel) dX12_book_164 ?_
      refine lv_iload_n hx hb dX12_book_167 rfl (lv_at hl 1 rfl) ?_
      refine lv_aload_n hx hb dX12_book_168 rfl (lv_at hl 0 rfl) ?_
      refine z_getS X hR (zlit hR zf_200) zs_200 (by decide) zfd_X12_88 rfl (r := 214) (by decide +kernel) dX12_book_169 ?_
      refine lv_iconst (v := (4 : Int32)) hx hb dX12_book_172 (by decide) ?_
      refine lv_iload_n hx hb dX12_book_173 rfl (lv_at hl 1 rfl) ?_
      refine lv_iadd hx hb dX12_book_174 ?_
      obtain ⟨hb12, hf⟩ := hf
      refine z_lald X hR (zlit hR zf_214) zs_214 zl_214 hb12 dX12_book_175 ?_
      obtain ⟨hb13, hf⟩ := hf
      refine z_last X hR (zlit hR zf_214) zs_214 zl_214 hb13 dX12_book_176 (fun H locs hR => ?_)
      obtain ⟨w14, hw14⟩ : ∃ z : zW, z = sL w 214 x1.toNatClampNeg (gL w 214 ((4 : Int32) + x1).toNatClampNeg) := ⟨_, rfl⟩
      rw [← hw14] at hR
      replace hf := hf w14 hw14
      refine lv_iinc (v := x1 + (1 : Int32)) (lv' := [(1, .int (x1 + (1 : Int32))), (0, .ref (ad 200))]) hx hb dX12_book_177 hl (k := 1) rfl rfl (by decide) rfl (fun ls hl => ?_)
      refine lv_goto (tgt := 158) hx hb dX12_book_180 (by decide) ?_
      exact ih (x1 + (1 : Int32)) w14 _ _ _ hf hR (lv_sub hl [1, 0] rfl)
def fX12_book_L126 (k : Int32 → zW → Prop) : Nat → Int32 → zW → Prop
  | 0 => fun _ _ => False
  | n + 1 => fun x1 w =>
    (((gI w 200 13) ≤ x1 →
      ∃ n9, fX12_book_L158 k n9 (0 : Int32) w) ∧
     (¬ (gI w 200 13) ≤ x1 →
      vp_in ((1100 : Int32) + x1) 2200 ∧ 
      vp_in x1 2200 ∧ 
      ∀ w17 : zW, w17 = sI w 212 x1.toNatClampNeg (gI w 212 ((1100 : Int32) + x1).toNatClampNeg) →
      fX12_book_L126 k n (x1 + (1 : Int32)) w17))
set_option maxHeartbeats 4000000 in
set_option maxRecDepth 100000 in
theorem mX12_book_L126 {k : Int32 → zW → Prop} (X : zCx p s m args meth c cX12_book 2 RX12 (some .int)) (hr : zRm R 132 cells slots) (hQ : zRetI p l e R s m args below meth c cells slots Q D dA true ad0 al0 ad al cX12_book k)  : ∀ (n : Nat) (x1 : Int32) (w : zW) (H : Heap) (locs : List Loc) (ls : Array Slot), fX12_book_L126 k n x1 w → zSt D dA true ad0 al0 ad al w s H locs → lv_has ls 2 [(0, .ref (ad 200)), (1, .int x1)] → W p l e R s m args below meth c H locs cells slots Q (F0 m 126 ls []) := by
  intro n
  induction n with
  | zero => exact fun _ _ _ _ _ hf => hf.elim
  | succ n ih =>
    intro x1 w H locs ls hf hR hl
    have hx := X.1
    have hb := X.2.1
    have hml := X.2.2.1
    have hown := X.2.2.2.1
    have hts := X.2.2.2.2.1
    rw [fX12_book_L126] at hf
    refine lv_iload_n hx hb dX12_book_126 rfl (lv_at hl 1 rfl) ?_
    refine lv_aload_n hx hb dX12_book_127 rfl (lv_at hl 0 rfl) ?_
    refine z_getI X hR (zlit hR zf_200) zs_200 (by decide) zfd_X12_214 rfl dX12_book_128 ?_
    refine lv_icmp_ge (tgt := 156) hx hb dX12_book_131 (by decide) (fun c9 => ?_) (fun c9 => ?_)
    · replace hf := hf.1 c9
      refine lv_iconst (v := (0 : Int32)) hx hb dX12_book_156 (by decide) ?_
      refine lv_istore_n (lv' := [(1, .int (0 : Int32)), (0, .ref (ad 200))]) hx hb dX12_book_157 rfl hl (by decide) rfl (fun ls hl => ?_)
      obtain ⟨n9, hf⟩ := hf
      exact mX12_book_L158 X hr hQ  n9 (0 : Int32) w _ _ _ hf hR (lv_sub hl [1, 0] rfl)
    · replace hf := hf.2 c9
      refine lv_aload_n hx hb dX12_book_134 rfl (lv_at hl 0 rfl) ?_
      refine z_getS X hR (zlit hR zf_200) zs_200 (by decide) zfd_X12_85 rfl (r := 212) (by decide +kernel) dX12_book_135 ?_
      refine lv_iload_n hx hb dX12_book_138 rfl (lv_at hl 1 rfl) ?_
      refine lv_aload_n hx hb dX12_book_139 rfl (lv_at hl 0 rfl) ?_
      refine z_getS X hR (zlit hR zf_200) zs_200 (by decide) zfd_X12_85 rfl (r := 212) (by decide +kernel) dX12_book_140 ?_
      refine lv_sipush (v := (1100 : Int32)) hx hb dX12_book_143 (by decide) ?_
      refine lv_iload_n hx hb dX12_book_146 rfl (lv_at hl 1 rfl) ?_
      refine lv_iadd hx hb dX12_book_147 ?_
      obtain ⟨hb15, hf⟩ := hf
      refine z_iald X hR (zlit hR zf_212) zs_212 zl_212 hb15 dX12_book_148 ?_
      obtain ⟨hb16, hf⟩ := hf
      refine z_iast X hR (zlit hR zf_212) zs_212 zl_212 hb16 dX12_book_149 (fun H locs hR => ?_)
      obtain ⟨w17, hw17⟩ : ∃ z : zW, z = sI w 212 x1.toNatClampNeg (gI w 212 ((1100 : Int32) + x1).toNatClampNeg) := ⟨_, rfl⟩
      rw [← hw17] at hR
      replace hf := hf w17 hw17
      refine lv_iinc (v := x1 + (1 : Int32)) (lv' := [(1, .int (x1 + (1 : Int32))), (0, .ref (ad 200))]) hx hb dX12_book_150 hl (k := 1) rfl rfl (by decide) rfl (fun ls hl => ?_)
      refine lv_goto (tgt := 126) hx hb dX12_book_153 (by decide) ?_
      exact ih (x1 + (1 : Int32)) w17 _ _ _ hf hR (lv_sub hl [1, 0] rfl)
def fX12_book_L95 (k : Int32 → zW → Prop) : Nat → Int32 → zW → Prop
  | 0 => fun _ _ => False
  | n + 1 => fun x1 w =>
    (((480 : Int32) ≤ x1 →
      ∃ n9, fX12_book_L126 k n9 (0 : Int32) w) ∧
     (¬ (480 : Int32) ≤ x1 →
      vp_in ((480 : Int32) + x1) 960 ∧ 
      vp_in x1 960 ∧ 
      ∀ w20 : zW, w20 = sI w 211 x1.toNatClampNeg (gI w 211 ((480 : Int32) + x1).toNatClampNeg) →
      fX12_book_L95 k n (x1 + (1 : Int32)) w20))
set_option maxHeartbeats 4000000 in
set_option maxRecDepth 100000 in
theorem mX12_book_L95 {k : Int32 → zW → Prop} (X : zCx p s m args meth c cX12_book 2 RX12 (some .int)) (hr : zRm R 132 cells slots) (hQ : zRetI p l e R s m args below meth c cells slots Q D dA true ad0 al0 ad al cX12_book k)  : ∀ (n : Nat) (x1 : Int32) (w : zW) (H : Heap) (locs : List Loc) (ls : Array Slot), fX12_book_L95 k n x1 w → zSt D dA true ad0 al0 ad al w s H locs → lv_has ls 2 [(0, .ref (ad 200)), (1, .int x1)] → W p l e R s m args below meth c H locs cells slots Q (F0 m 95 ls []) := by
  intro n
  induction n with
  | zero => exact fun _ _ _ _ _ hf => hf.elim
  | succ n ih =>
    intro x1 w H locs ls hf hR hl
    have hx := X.1
    have hb := X.2.1
    have hml := X.2.2.1
    have hown := X.2.2.2.1
    have hts := X.2.2.2.2.1
    rw [fX12_book_L95] at hf
    refine lv_iload_n hx hb dX12_book_95 rfl (lv_at hl 1 rfl) ?_
    refine lv_sipush (v := (480 : Int32)) hx hb dX12_book_96 (by decide) ?_
    refine lv_icmp_ge (tgt := 124) hx hb dX12_book_99 (by decide) (fun c8 => ?_) (fun c8 => ?_)
    · replace hf := hf.1 c8
      refine lv_iconst (v := (0 : Int32)) hx hb dX12_book_124 (by decide) ?_
      refine lv_istore_n (lv' := [(1, .int (0 : Int32)), (0, .ref (ad 200))]) hx hb dX12_book_125 rfl hl (by decide) rfl (fun ls hl => ?_)
      obtain ⟨n9, hf⟩ := hf
      exact mX12_book_L126 X hr hQ  n9 (0 : Int32) w _ _ _ hf hR (lv_sub hl [1, 0] rfl)
    · replace hf := hf.2 c8
      refine lv_aload_n hx hb dX12_book_102 rfl (lv_at hl 0 rfl) ?_
      refine z_getS X hR (zlit hR zf_200) zs_200 (by decide) zfd_X12_82 rfl (r := 211) (by decide +kernel) dX12_book_103 ?_
      refine lv_iload_n hx hb dX12_book_106 rfl (lv_at hl 1 rfl) ?_
      refine lv_aload_n hx hb dX12_book_107 rfl (lv_at hl 0 rfl) ?_
      refine z_getS X hR (zlit hR zf_200) zs_200 (by decide) zfd_X12_82 rfl (r := 211) (by decide +kernel) dX12_book_108 ?_
      refine lv_sipush (v := (480 : Int32)) hx hb dX12_book_111 (by decide) ?_
      refine lv_iload_n hx hb dX12_book_114 rfl (lv_at hl 1 rfl) ?_
      refine lv_iadd hx hb dX12_book_115 ?_
      obtain ⟨hb18, hf⟩ := hf
      refine z_iald X hR (zlit hR zf_211) zs_211 zl_211 hb18 dX12_book_116 ?_
      obtain ⟨hb19, hf⟩ := hf
      refine z_iast X hR (zlit hR zf_211) zs_211 zl_211 hb19 dX12_book_117 (fun H locs hR => ?_)
      obtain ⟨w20, hw20⟩ : ∃ z : zW, z = sI w 211 x1.toNatClampNeg (gI w 211 ((480 : Int32) + x1).toNatClampNeg) := ⟨_, rfl⟩
      rw [← hw20] at hR
      replace hf := hf w20 hw20
      refine lv_iinc (v := x1 + (1 : Int32)) (lv' := [(1, .int (x1 + (1 : Int32))), (0, .ref (ad 200))]) hx hb dX12_book_118 hl (k := 1) rfl rfl (by decide) rfl (fun ls hl => ?_)
      refine lv_goto (tgt := 95) hx hb dX12_book_121 (by decide) ?_
      exact ih (x1 + (1 : Int32)) w20 _ _ _ hf hR (lv_sub hl [1, 0] rfl)
def fX12_book_L66 (k : Int32 → zW → Prop) : Nat → Int32 → zW → Prop
  | 0 => fun _ _ => False
  | n + 1 => fun x1 w =>
    (((30 : Int32) ≤ x1 →
      ∃ n9, fX12_book_L95 k n9 (0 : Int32) w) ∧
     (¬ (30 : Int32) ≤ x1 →
      vp_in ((30 : Int32) + x1) 60 ∧ 
      vp_in x1 60 ∧ 
      ∀ w23 : zW, w23 = sI w 210 x1.toNatClampNeg (gI w 210 ((30 : Int32) + x1).toNatClampNeg) →
      fX12_book_L66 k n (x1 + (1 : Int32)) w23))
set_option maxHeartbeats 4000000 in
set_option maxRecDepth 100000 in
theorem mX12_book_L66 {k : Int32 → zW → Prop} (X : zCx p s m args meth c cX12_book 2 RX12 (some .int)) (hr : zRm R 132 cells slots) (hQ : zRetI p l e R s m args below meth c cells slots Q D dA true ad0 al0 ad al cX12_book k)  : ∀ (n : Nat) (x1 : Int32) (w : zW) (H : Heap) (locs : List Loc) (ls : Array Slot), fX12_book_L66 k n x1 w → zSt D dA true ad0 al0 ad al w s H locs → lv_has ls 2 [(0, .ref (ad 200)), (1, .int x1)] → W p l e R s m args below meth c H locs cells slots Q (F0 m 66 ls []) := by
  intro n
  induction n with
  | zero => exact fun _ _ _ _ _ hf => hf.elim
  | succ n ih =>
    intro x1 w H locs ls hf hR hl
    have hx := X.1
    have hb := X.2.1
    have hml := X.2.2.1
    have hown := X.2.2.2.1
    have hts := X.2.2.2.2.1
    rw [fX12_book_L66] at hf
    refine lv_iload_n hx hb dX12_book_66 rfl (lv_at hl 1 rfl) ?_
    refine lv_bipush (v := (30 : Int32)) hx hb dX12_book_67 (by decide) ?_
    refine lv_icmp_ge (tgt := 93) hx hb dX12_book_69 (by decide) (fun c7 => ?_) (fun c7 => ?_)
    · replace hf := hf.1 c7
      refine lv_iconst (v := (0 : Int32)) hx hb dX12_book_93 (by decide) ?_
      refine lv_istore_n (lv' := [(1, .int (0 : Int32)), (0, .ref (ad 200))]) hx hb dX12_book_94 rfl hl (by decide) rfl (fun ls hl => ?_)
      obtain ⟨n9, hf⟩ := hf
      exact mX12_book_L95 X hr hQ  n9 (0 : Int32) w _ _ _ hf hR (lv_sub hl [1, 0] rfl)
    · replace hf := hf.2 c7
      refine lv_aload_n hx hb dX12_book_72 rfl (lv_at hl 0 rfl) ?_
      refine z_getS X hR (zlit hR zf_200) zs_200 (by decide) zfd_X12_79 rfl (r := 210) (by decide +kernel) dX12_book_73 ?_
      refine lv_iload_n hx hb dX12_book_76 rfl (lv_at hl 1 rfl) ?_
      refine lv_aload_n hx hb dX12_book_77 rfl (lv_at hl 0 rfl) ?_
      refine z_getS X hR (zlit hR zf_200) zs_200 (by decide) zfd_X12_79 rfl (r := 210) (by decide +kernel) dX12_book_78 ?_
      refine lv_bipush (v := (30 : Int32)) hx hb dX12_book_81 (by decide) ?_
      refine lv_iload_n hx hb dX12_book_83 rfl (lv_at hl 1 rfl) ?_
      refine lv_iadd hx hb dX12_book_84 ?_
      obtain ⟨hb21, hf⟩ := hf
      refine z_iald X hR (zlit hR zf_210) zs_210 zl_210 hb21 dX12_book_85 ?_
      obtain ⟨hb22, hf⟩ := hf
      refine z_iast X hR (zlit hR zf_210) zs_210 zl_210 hb22 dX12_book_86 (fun H locs hR => ?_)
      obtain ⟨w23, hw23⟩ : ∃ z : zW, z = sI w 210 x1.toNatClampNeg (gI w 210 ((30 : Int32) + x1).toNatClampNeg) := ⟨_, rfl⟩
      rw [← hw23] at hR
      replace hf := hf w23 hw23
      refine lv_iinc (v := x1 + (1 : Int32)) (lv' := [(1, .int (x1 + (1 : Int32))), (0, .ref (ad 200))]) hx hb dX12_book_87 hl (k := 1) rfl rfl (by decide) rfl (fun ls hl => ?_)
      refine lv_goto (tgt := 66) hx hb dX12_book_90 (by decide) ?_
      exact ih (x1 + (1 : Int32)) w23 _ _ _ hf hR (lv_sub hl [1, 0] rfl)
def fX12_book_J52 (k : Int32 → zW → Prop)  (w : zW) : Prop :=
  (((gI w 200 8) ≤ 0 →
    ∃ n9, fX12_book_L66 k n9 (0 : Int32) w) ∧
   (¬ (gI w 200 8) ≤ 0 →
    k (gI w 200 8) w))
set_option maxHeartbeats 4000000 in
set_option maxRecDepth 100000 in
theorem mX12_book_J52 {k : Int32 → zW → Prop} (X : zCx p s m args meth c cX12_book 2 RX12 (some .int)) (hr : zRm R 132 cells slots) (hQ : zRetI p l e R s m args below meth c cells slots Q D dA true ad0 al0 ad al cX12_book k)   {w : zW} {H : Heap} {locs : List Loc} {ls : Array Slot} (hf : fX12_book_J52 k  w) (hR : zSt D dA true ad0 al0 ad al w s H locs) (hl : lv_has ls 2 [(0, .ref (ad 200))]) : W p l e R s m args below meth c H locs cells slots Q (F0 m 52 ls []) := by
  have hx := X.1
  have hb := X.2.1
  have hml := X.2.2.1
  have hown := X.2.2.2.1
  have hts := X.2.2.2.2.1
  unfold fX12_book_J52 at hf
  refine lv_aload_n hx hb dX12_book_52 rfl (lv_at hl 0 rfl) ?_
  refine z_getI X hR (zlit hR zf_200) zs_200 (by decide) zfd_X12_185 rfl dX12_book_53 ?_
  refine lv_if_le (tgt := 64) hx hb dX12_book_56 (by decide) (fun c6 => ?_) (fun c6 => ?_)
  · replace hf := hf.1 c6
    refine lv_iconst (v := (0 : Int32)) hx hb dX12_book_64 (by decide) ?_
    refine lv_istore_n (lv' := [(1, .int (0 : Int32)), (0, .ref (ad 200))]) hx hb dX12_book_65 rfl hl (by decide) rfl (fun ls hl => ?_)
    obtain ⟨n9, hf⟩ := hf
    exact mX12_book_L66 X hr hQ  n9 (0 : Int32) w _ _ _ hf hR (lv_sub hl [1, 0] rfl)
  · replace hf := hf.2 c6
    refine lv_aload_n hx hb dX12_book_59 rfl (lv_at hl 0 rfl) ?_
    refine z_getI X hR (zlit hR zf_200) zs_200 (by decide) zfd_X12_185 rfl dX12_book_60 ?_
    exact hQ _ _ _ _ _ _ hf hR dX12_book_63
def fX12_book_L20 (k : Int32 → zW → Prop) : Nat → zW → Prop
  | 0 => fun _ => False
  | n + 1 => fun  w =>
    ((¬ (gI w 200 8) = 0 →
      fX12_book_J52 k  w) ∧
     ((gI w 200 8) = 0 →
      vp_in (gI w 200 7) 1002 ∧ 
      (((gI w 204 (gI w 200 7).toNatClampNeg) = 0 →
        fX12_book_J52 k  w) ∧
       (¬ (gI w 204 (gI w 200 7).toNatClampNeg) = 0 →
        fX12_readLine  w (fun w26 =>
        fX12_takeSign (59 : Int32) w26 (fun w27 =>
        fX12_book_L20 k n  w27))))))
set_option maxHeartbeats 4000000 in
set_option maxRecDepth 100000 in
theorem mX12_book_L20 {k : Int32 → zW → Prop} (X : zCx p s m args meth c cX12_book 2 RX12 (some .int)) (hr : zRm R 132 cells slots) (hQ : zRetI p l e R s m args below meth c cells slots Q D dA true ad0 al0 ad al cX12_book k)  : ∀ (n : Nat)  (w : zW) (H : Heap) (locs : List Loc) (ls : Array Slot), fX12_book_L20 k n  w → zSt D dA true ad0 al0 ad al w s H locs → lv_has ls 2 [(0, .ref (ad 200))] → W p l e R s m args below meth c H locs cells slots Q (F0 m 20 ls []) := by
  intro n
  induction n with
  | zero => exact fun _ _ _ _ hf => hf.elim
  | succ n ih =>
    intro  w H locs ls hf hR hl
    have hx := X.1
    have hb := X.2.1
    have hml := X.2.2.1
    have hown := X.2.2.2.1
    have hts := X.2.2.2.2.1
    rw [fX12_book_L20] at hf
    refine lv_aload_n hx hb dX12_book_20 rfl (lv_at hl 0 rfl) ?_
    refine z_getI X hR (zlit hR zf_200) zs_200 (by decide) zfd_X12_185 rfl dX12_book_21 ?_
    refine lv_if_ne (tgt := 52) hx hb dX12_book_24 (by decide) (fun c5 => ?_) (fun c5 => ?_)
    · replace hf := hf.1 c5
      exact mX12_book_J52 X hr hQ  hf hR (lv_sub hl [0] rfl)
    · replace hf := hf.2 c5
      refine lv_aload_n hx hb dX12_book_27 rfl (lv_at hl 0 rfl) ?_
      refine z_getS X hR (zlit hR zf_200) zs_200 (by decide) zfd_X12_24 rfl (r := 204) (by decide +kernel) dX12_book_28 ?_
      refine lv_aload_n hx hb dX12_book_31 rfl (lv_at hl 0 rfl) ?_
      refine z_getI X hR (zlit hR zf_200) zs_200 (by decide) zfd_X12_182 rfl dX12_book_32 ?_
      obtain ⟨hb24, hf⟩ := hf
      refine z_iald X hR (zlit hR zf_204) zs_204 zl_204 hb24 dX12_book_35 ?_
      refine lv_if_eq (tgt := 52) hx hb dX12_book_36 (by decide) (fun c25 => ?_) (fun c25 => ?_)
      · replace hf := hf.1 c25
        exact mX12_book_J52 X hr hQ  hf hR (lv_sub hl [0] rfl)
      · replace hf := hf.2 c25
        refine lv_aload_n hx hb dX12_book_39 rfl (lv_at hl 0 rfl) ?_
        refine z_callVV (fr1 := 131) (b := 200) (As := []) (rest := []) X (hr.le (by decide)) hR zy_X12_readLine zq_607 (zlit hR zf_200) (by rw [zs_200]; rfl) rfl (mX12_readLine  hf) rfl hl (Nat.le_of_ble_eq_true rfl) dX12_book_40 rfl (fun w26 H locs hf hR => ?_)
        refine lv_aload_n hx hb dX12_book_43 rfl (lv_at hl 0 rfl) ?_
        refine lv_bipush (v := (59 : Int32)) hx hb dX12_book_44 (by decide) ?_
        refine z_callVV (fr1 := 1) (b := 200) (As := [.int (59 : Int32)]) (rest := []) X (hr.le (by decide)) hR zy_X12_takeSign zq_652 (zlit hR zf_200) (by rw [zs_200]; rfl) rfl (mX12_takeSign  hf) rfl hl (Nat.le_of_ble_eq_true rfl) dX12_book_46 rfl (fun w27 H locs hf hR => ?_)
        refine lv_goto (tgt := 20) hx hb dX12_book_49 (by decide) ?_
        exact ih  w27 _ _ _ hf hR (lv_sub hl [0] rfl)
def fX12_book (w : zW) (k : Int32 → zW → Prop) : Prop :=
  ∀ w1 : zW, w1 = sI w 200 0 (0 : Int32) →
  fX12_cutAll  w1 (fun w2 =>
  ∀ w3 : zW, w3 = sI w2 200 13 (0 : Int32) →
  fX12_standsAsAlways (30 : Int32) w3 (fun w4 =>
  ∃ n9, fX12_book_L20 k n9  w4))
set_option maxHeartbeats 4000000 in
set_option maxRecDepth 100000 in
theorem mX12_book {l : Launch} {D : va_G} {dA : Nat → ClassId} {ad : Nat → Nat} {al : Nat → Prop} {w : zW} {k : Int32 → zW → Prop}   (hf : fX12_book w k) : zmetI l yX12_book cX12_book 2 (some .int) 132 [.ref (ad 200)] D dA true ad al w k := by
  refine zmetI_of (by decide) (Nat.le_of_ble_eq_true rfl) ?_
  intro p e R s m below meth c Q H ls args locs cells slots X hr hQ hR hl
  have hx := X.1
  have hb := X.2.1
  have hml := X.2.2.1
  have hown := X.2.2.2.1
  have hts := X.2.2.2.2.1
  unfold fX12_book at hf
  have hl : lv_has ls 2 [(0, .ref (ad 200))] := hl
  refine lv_aload_n hx hb dX12_book_0 rfl (lv_at hl 0 rfl) ?_
  refine lv_iconst (v := (0 : Int32)) hx hb dX12_book_1 (by decide) ?_
  refine z_putI X hR (zlit hR zf_200) zs_200 (by decide) zfp_X12_1 rfl dX12_book_2 (fun H locs hR => ?_)
  obtain ⟨w1, hw1⟩ : ∃ z : zW, z = sI w 200 0 (0 : Int32) := ⟨_, rfl⟩
  rw [← hw1] at hR
  replace hf := hf w1 hw1
  refine lv_aload_n hx hb dX12_book_5 rfl (lv_at hl 0 rfl) ?_
  refine z_callVV (fr1 := 2) (b := 200) (As := []) (rest := []) X (hr.le (by decide)) hR zy_X12_cutAll zq_587 (zlit hR zf_200) (by rw [zs_200]; rfl) rfl (mX12_cutAll  hf) rfl hl (Nat.le_of_ble_eq_true rfl) dX12_book_6 rfl (fun w2 H locs hf hR => ?_)
  refine lv_aload_n hx hb dX12_book_9 rfl (lv_at hl 0 rfl) ?_
  refine lv_iconst (v := (0 : Int32)) hx hb dX12_book_10 (by decide) ?_
  refine z_putI X hR (zlit hR zf_200) zs_200 (by decide) zfp_X12_214 rfl dX12_book_11 (fun H locs hR => ?_)
  obtain ⟨w3, hw3⟩ : ∃ z : zW, z = sI w2 200 13 (0 : Int32) := ⟨_, rfl⟩
  rw [← hw3] at hR
  replace hf := hf w3 hw3
  refine lv_aload_n hx hb dX12_book_14 rfl (lv_at hl 0 rfl) ?_
  refine lv_bipush (v := (30 : Int32)) hx hb dX12_book_15 (by decide) ?_
  refine z_callVV (fr1 := 0) (b := 200) (As := [.int (30 : Int32)]) (rest := []) X (hr.le (by decide)) hR zy_X12_standsAsAlways zq_190 (zlit hR zf_200) (by rw [zs_200]; rfl) rfl (mX12_standsAsAlways  hf) rfl hl (Nat.le_of_ble_eq_true rfl) dX12_book_17 rfl (fun w4 H locs hf hR => ?_)
  obtain ⟨n9, hf⟩ := hf
  exact mX12_book_L20 X hr hQ  n9  w4 _ _ _ hf hR (lv_sub hl [0] rfl)
/-! X12_readNotes -/
def fX12_readNotes_J101 (k : zW → Prop) (t0 : Int32) (t1 : Int32) (w : zW) : Prop :=
  vp_in t1 330 ∧ 
  ∀ w14 : zW, w14 = sI w 217 t1.toNatClampNeg t0 →
  k w14
set_option maxHeartbeats 4000000 in
set_option maxRecDepth 100000 in
theorem mX12_readNotes_J101 {k : zW → Prop} (X : zCx p s m args meth c cX12_readNotes 3 RX12 none) (hr : zRm R 4 cells slots) (hQ : zRetV p l e R s m args below meth c cells slots Q D dA true ad0 al0 ad al cX12_readNotes k)  {t0 : Int32} {t1 : Int32} {w : zW} {H : Heap} {locs : List Loc} {ls : Array Slot} (hf : fX12_readNotes_J101 k t0 t1 w) (hR : zSt D dA true ad0 al0 ad al w s H locs) (hl : lv_has ls 3 []) : W p l e R s m args below meth c H locs cells slots Q (F0 m 101 ls [.int t0, .int t1, .ref (ad 217)]) := by
  have hx := X.1
  have hb := X.2.1
  have hml := X.2.2.1
  have hown := X.2.2.2.1
  have hts := X.2.2.2.2.1
  unfold fX12_readNotes_J101 at hf
  obtain ⟨hb13, hf⟩ := hf
  refine z_iast X hR (zlit hR zf_217) zs_217 zl_217 hb13 dX12_readNotes_101 (fun H locs hR => ?_)
  obtain ⟨w14, hw14⟩ : ∃ z : zW, z = sI w 217 t1.toNatClampNeg t0 := ⟨_, rfl⟩
  rw [← hw14] at hR
  replace hf := hf w14 hw14
  exact hQ _ _ _ _ _ hf hR dX12_readNotes_102
def fX12_readNotes_J79 (k : zW → Prop) (x1 : Int32) (x2 : Int32) (t0 : Int32) (t1 : Int32) (w : zW) : Prop :=
  vp_in t1 330 ∧ 
  ∀ w11 : zW, w11 = sI w 217 t1.toNatClampNeg t0 →
  ((¬ x2 = 0 →
    fX12_readNotes_J101 k (0 : Int32) (x1 + (3 : Int32)) w11) ∧
   (x2 = 0 →
    fX12_takeNumber (0 : Int32) (2 : Int32) w11 (fun r15 w15 =>
    fX12_readNotes_J101 k r15 (x1 + (3 : Int32)) w15)))
set_option maxHeartbeats 4000000 in
set_option maxRecDepth 100000 in
theorem mX12_readNotes_J79 {k : zW → Prop} (X : zCx p s m args meth c cX12_readNotes 3 RX12 none) (hr : zRm R 4 cells slots) (hQ : zRetV p l e R s m args below meth c cells slots Q D dA true ad0 al0 ad al cX12_readNotes k)  {x1 : Int32} {x2 : Int32} {t0 : Int32} {t1 : Int32} {w : zW} {H : Heap} {locs : List Loc} {ls : Array Slot} (hf : fX12_readNotes_J79 k x1 x2 t0 t1 w) (hR : zSt D dA true ad0 al0 ad al w s H locs) (hl : lv_has ls 3 [(0, .ref (ad 200)), (1, .int x1), (2, .int x2)]) : W p l e R s m args below meth c H locs cells slots Q (F0 m 79 ls [.int t0, .int t1, .ref (ad 217)]) := by
  have hx := X.1
  have hb := X.2.1
  have hml := X.2.2.1
  have hown := X.2.2.2.1
  have hts := X.2.2.2.2.1
  unfold fX12_readNotes_J79 at hf
  obtain ⟨hb10, hf⟩ := hf
  refine z_iast X hR (zlit hR zf_217) zs_217 zl_217 hb10 dX12_readNotes_79 (fun H locs hR => ?_)
  obtain ⟨w11, hw11⟩ : ∃ z : zW, z = sI w 217 t1.toNatClampNeg t0 := ⟨_, rfl⟩
  rw [← hw11] at hR
  replace hf := hf w11 hw11
  refine lv_aload_n hx hb dX12_readNotes_80 rfl (lv_at hl 0 rfl) ?_
  refine z_getS X hR (zlit hR zf_200) zs_200 (by decide) zfd_X12_94 rfl (r := 217) (by decide +kernel) dX12_readNotes_81 ?_
  refine lv_iload_n hx hb dX12_readNotes_84 rfl (lv_at hl 1 rfl) ?_
  refine lv_iconst (v := (3 : Int32)) hx hb dX12_readNotes_85 (by decide) ?_
  refine lv_iadd hx hb dX12_readNotes_86 ?_
  refine lv_iload_n hx hb dX12_readNotes_87 rfl (lv_at hl 2 rfl) ?_
  refine lv_if_ne (tgt := 100) hx hb dX12_readNotes_88 (by decide) (fun c12 => ?_) (fun c12 => ?_)
  · replace hf := hf.1 c12
    refine lv_iconst (v := (0 : Int32)) hx hb dX12_readNotes_100 (by decide) ?_
    exact mX12_readNotes_J101 X hr hQ  hf hR (lv_sub hl [] rfl)
  · replace hf := hf.2 c12
    refine lv_aload_n hx hb dX12_readNotes_91 rfl (lv_at hl 0 rfl) ?_
    refine lv_iconst (v := (0 : Int32)) hx hb dX12_readNotes_92 (by decide) ?_
    refine lv_iconst (v := (2 : Int32)) hx hb dX12_readNotes_93 (by decide) ?_
    refine z_callVI (fr1 := 1) (b := 200) (As := [.int (0 : Int32), .int (2 : Int32)]) (rest := [.int (x1 + (3 : Int32)), .ref (ad 217)]) X (hr.le (by decide)) hR zy_X12_takeNumber zq_656 (zlit hR zf_200) (by rw [zs_200]; rfl) rfl (mX12_takeNumber  hf) rfl hl (Nat.le_of_ble_eq_true rfl) dX12_readNotes_94 rfl (fun r15 w15 H locs hf hR => ?_)
    refine lv_goto (tgt := 101) hx hb dX12_readNotes_97 (by decide) ?_
    exact mX12_readNotes_J101 X hr hQ  hf hR (lv_sub hl [] rfl)
def fX12_readNotes_J42 (k : zW → Prop) (x1 : Int32) (x2 : Int32) (t0 : Int32) (t1 : Int32) (w : zW) : Prop :=
  vp_in t1 330 ∧ 
  ∀ w7 : zW, w7 = sI w 217 t1.toNatClampNeg t0 →
  ((¬ x2 = 0 →
    ((¬ x2 = (2 : Int32) →
      fX12_readNotes_J79 k x1 x2 (0 : Int32) (x1 + (2 : Int32)) w7) ∧
     (x2 = (2 : Int32) →
      fX12_takeNumber (0 : Int32) (99 : Int32) w7 (fun r16 w16 =>
      fX12_readNotes_J79 k x1 x2 r16 (x1 + (2 : Int32)) w16)))) ∧
   (x2 = 0 →
    fX12_takeNumber (0 : Int32) (2 : Int32) w7 (fun r17 w17 =>
    fX12_readNotes_J79 k x1 x2 r17 (x1 + (2 : Int32)) w17)))
set_option maxHeartbeats 4000000 in
set_option maxRecDepth 100000 in
theorem mX12_readNotes_J42 {k : zW → Prop} (X : zCx p s m args meth c cX12_readNotes 3 RX12 none) (hr : zRm R 4 cells slots) (hQ : zRetV p l e R s m args below meth c cells slots Q D dA true ad0 al0 ad al cX12_readNotes k)  {x1 : Int32} {x2 : Int32} {t0 : Int32} {t1 : Int32} {w : zW} {H : Heap} {locs : List Loc} {ls : Array Slot} (hf : fX12_readNotes_J42 k x1 x2 t0 t1 w) (hR : zSt D dA true ad0 al0 ad al w s H locs) (hl : lv_has ls 3 [(0, .ref (ad 200)), (1, .int x1), (2, .int x2)]) : W p l e R s m args below meth c H locs cells slots Q (F0 m 42 ls [.int t0, .int t1, .ref (ad 217)]) := by
  have hx := X.1
  have hb := X.2.1
  have hml := X.2.2.1
  have hown := X.2.2.2.1
  have hts := X.2.2.2.2.1
  unfold fX12_readNotes_J42 at hf
  obtain ⟨hb6, hf⟩ := hf
  refine z_iast X hR (zlit hR zf_217) zs_217 zl_217 hb6 dX12_readNotes_42 (fun H locs hR => ?_)
  obtain ⟨w7, hw7⟩ : ∃ z : zW, z = sI w 217 t1.toNatClampNeg t0 := ⟨_, rfl⟩
  rw [← hw7] at hR
  replace hf := hf w7 hw7
  refine lv_aload_n hx hb dX12_readNotes_43 rfl (lv_at hl 0 rfl) ?_
  refine z_getS X hR (zlit hR zf_200) zs_200 (by decide) zfd_X12_94 rfl (r := 217) (by decide +kernel) dX12_readNotes_44 ?_
  refine lv_iload_n hx hb dX12_readNotes_47 rfl (lv_at hl 1 rfl) ?_
  refine lv_iconst (v := (2 : Int32)) hx hb dX12_readNotes_48 (by decide) ?_
  refine lv_iadd hx hb dX12_readNotes_49 ?_
  refine lv_iload_n hx hb dX12_readNotes_50 rfl (lv_at hl 2 rfl) ?_
  refine lv_if_ne (tgt := 63) hx hb dX12_readNotes_51 (by decide) (fun c8 => ?_) (fun c8 => ?_)
  · replace hf := hf.1 c8
    refine lv_iload_n hx hb dX12_readNotes_63 rfl (lv_at hl 2 rfl) ?_
    refine lv_iconst (v := (2 : Int32)) hx hb dX12_readNotes_64 (by decide) ?_
    refine lv_icmp_ne (tgt := 78) hx hb dX12_readNotes_65 (by decide) (fun c9 => ?_) (fun c9 => ?_)
    · replace hf := hf.1 c9
      refine lv_iconst (v := (0 : Int32)) hx hb dX12_readNotes_78 (by decide) ?_
      exact mX12_readNotes_J79 X hr hQ  hf hR (lv_sub hl [0, 1, 2] rfl)
    · replace hf := hf.2 c9
      refine lv_aload_n hx hb dX12_readNotes_68 rfl (lv_at hl 0 rfl) ?_
      refine lv_iconst (v := (0 : Int32)) hx hb dX12_readNotes_69 (by decide) ?_
      refine lv_bipush (v := (99 : Int32)) hx hb dX12_readNotes_70 (by decide) ?_
      refine z_callVI (fr1 := 1) (b := 200) (As := [.int (0 : Int32), .int (99 : Int32)]) (rest := [.int (x1 + (2 : Int32)), .ref (ad 217)]) X (hr.le (by decide)) hR zy_X12_takeNumber zq_656 (zlit hR zf_200) (by rw [zs_200]; rfl) rfl (mX12_takeNumber  hf) rfl hl (Nat.le_of_ble_eq_true rfl) dX12_readNotes_72 rfl (fun r16 w16 H locs hf hR => ?_)
      refine lv_goto (tgt := 79) hx hb dX12_readNotes_75 (by decide) ?_
      exact mX12_readNotes_J79 X hr hQ  hf hR (lv_sub hl [0, 1, 2] rfl)
  · replace hf := hf.2 c8
    refine lv_aload_n hx hb dX12_readNotes_54 rfl (lv_at hl 0 rfl) ?_
    refine lv_iconst (v := (0 : Int32)) hx hb dX12_readNotes_55 (by decide) ?_
    refine lv_iconst (v := (2 : Int32)) hx hb dX12_readNotes_56 (by decide) ?_
    refine z_callVI (fr1 := 1) (b := 200) (As := [.int (0 : Int32), .int (2 : Int32)]) (rest := [.int (x1 + (2 : Int32)), .ref (ad 217)]) X (hr.le (by decide)) hR zy_X12_takeNumber zq_656 (zlit hR zf_200) (by rw [zs_200]; rfl) rfl (mX12_takeNumber  hf) rfl hl (Nat.le_of_ble_eq_true rfl) dX12_readNotes_57 rfl (fun r17 w17 H locs hf hR => ?_)
    refine lv_goto (tgt := 79) hx hb dX12_readNotes_60 (by decide) ?_
    exact mX12_readNotes_J79 X hr hQ  hf hR (lv_sub hl [0, 1, 2] rfl)
def fX12_readNotes (x1 : Int32) (x2 : Int32) (w : zW) (k : zW → Prop) : Prop :=
  vp_in x1 330 ∧ 
  ∀ w2 : zW, w2 = sI w 217 x1.toNatClampNeg x2 →
  (((2 : Int32) ≤ x2 →
    fX12_rows  w2 (fun r4 w4 =>
    fX12_takeNumber (0 : Int32) (r4 - (1 : Int32)) w4 (fun r5 w5 =>
    fX12_readNotes_J42 k x1 x2 r5 (x1 + (1 : Int32)) w5))) ∧
   (¬ (2 : Int32) ≤ x2 →
    fX12_wordsTold  w2 (fun r18 w18 =>
    fX12_takeTold (0 : Int32) r18 w18 (fun r19 w19 =>
    fX12_readNotes_J42 k x1 x2 r19 (x1 + (1 : Int32)) w19))))
set_option maxHeartbeats 4000000 in
set_option maxRecDepth 100000 in
theorem mX12_readNotes {l : Launch} {D : va_G} {dA : Nat → ClassId} {ad : Nat → Nat} {al : Nat → Prop} {w : zW} {k : zW → Prop} {x1 : Int32} {x2 : Int32}   (hf : fX12_readNotes x1 x2 w k) : zmetV l yX12_readNotes cX12_readNotes 3 none 4 [.ref (ad 200), .int x1, .int x2] D dA true ad al w k := by
  refine zmetV_of (by decide) (Nat.le_of_ble_eq_true rfl) ?_
  intro p e R s m below meth c Q H ls args locs cells slots X hr hQ hR hl
  have hx := X.1
  have hb := X.2.1
  have hml := X.2.2.1
  have hown := X.2.2.2.1
  have hts := X.2.2.2.2.1
  unfold fX12_readNotes at hf
  have hl : lv_has ls 3 [(0, .ref (ad 200)), (1, .int x1), (2, .int x2)] := hl
  refine lv_aload_n hx hb dX12_readNotes_0 rfl (lv_at hl 0 rfl) ?_
  refine z_getS X hR (zlit hR zf_200) zs_200 (by decide) zfd_X12_94 rfl (r := 217) (by decide +kernel) dX12_readNotes_1 ?_
  refine lv_iload_n hx hb dX12_readNotes_4 rfl (lv_at hl 1 rfl) ?_
  refine lv_iload_n hx hb dX12_readNotes_5 rfl (lv_at hl 2 rfl) ?_
  obtain ⟨hb1, hf⟩ := hf
  refine z_iast X hR (zlit hR zf_217) zs_217 zl_217 hb1 dX12_readNotes_6 (fun H locs hR => ?_)
  obtain ⟨w2, hw2⟩ : ∃ z : zW, z = sI w 217 x1.toNatClampNeg x2 := ⟨_, rfl⟩
  rw [← hw2] at hR
  replace hf := hf w2 hw2
  refine lv_aload_n hx hb dX12_readNotes_7 rfl (lv_at hl 0 rfl) ?_
  refine z_getS X hR (zlit hR zf_200) zs_200 (by decide) zfd_X12_94 rfl (r := 217) (by decide +kernel) dX12_readNotes_8 ?_
  refine lv_iload_n hx hb dX12_readNotes_11 rfl (lv_at hl 1 rfl) ?_
  refine lv_iconst (v := (1 : Int32)) hx hb dX12_readNotes_12 (by decide) ?_
  refine lv_iadd hx hb dX12_readNotes_13 ?_
  refine lv_iload_n hx hb dX12_readNotes_14 rfl (lv_at hl 2 rfl) ?_
  refine lv_iconst (v := (2 : Int32)) hx hb dX12_readNotes_15 (by decide) ?_
  refine lv_icmp_ge (tgt := 31) hx hb dX12_readNotes_16 (by decide) (fun c3 => ?_) (fun c3 => ?_)
  · replace hf := hf.1 c3
    refine lv_aload_n hx hb dX12_readNotes_31 rfl (lv_at hl 0 rfl) ?_
    refine lv_iconst (v := (0 : Int32)) hx hb dX12_readNotes_32 (by decide) ?_
    refine lv_aload_n hx hb dX12_readNotes_33 rfl (lv_at hl 0 rfl) ?_
    refine z_callVI (fr1 := 0) (b := 200) (As := []) (rest := [.int (0 : Int32), .ref (ad 200), .int (x1 + (1 : Int32)), .ref (ad 217)]) X (hr.le (by decide)) hR zy_X12_rows zq_199 (zlit hR zf_200) (by rw [zs_200]; rfl) rfl (mX12_rows  hf) rfl hl (Nat.le_of_ble_eq_true rfl) dX12_readNotes_34 rfl (fun r4 w4 H locs hf hR => ?_)
    refine lv_iconst (v := (1 : Int32)) hx hb dX12_readNotes_37 (by decide) ?_
    refine lv_isub hx hb dX12_readNotes_38 ?_
    refine z_callVI (fr1 := 1) (b := 200) (As := [.int (0 : Int32), .int (r4 - (1 : Int32))]) (rest := [.int (x1 + (1 : Int32)), .ref (ad 217)]) X (hr.le (by decide)) hR zy_X12_takeNumber zq_656 (zlit hR zf_200) (by rw [zs_200]; rfl) rfl (mX12_takeNumber  hf) rfl hl (Nat.le_of_ble_eq_true rfl) dX12_readNotes_39 rfl (fun r5 w5 H locs hf hR => ?_)
    exact mX12_readNotes_J42 X hr hQ  hf hR (lv_sub hl [0, 1, 2] rfl)
  · replace hf := hf.2 c3
    refine lv_aload_n hx hb dX12_readNotes_19 rfl (lv_at hl 0 rfl) ?_
    refine lv_iconst (v := (0 : Int32)) hx hb dX12_readNotes_20 (by decide) ?_
    refine lv_aload_n hx hb dX12_readNotes_21 rfl (lv_at hl 0 rfl) ?_
    refine z_callVI (fr1 := 0) (b := 200) (As := []) (rest := [.int (0 : Int32), .ref (ad 200), .int (x1 + (1 : Int32)), .ref (ad 217)]) X (hr.le (by decide)) hR zy_X12_wordsTold zq_211 (zlit hR zf_200) (by rw [zs_200]; rfl) rfl (mX12_wordsTold  hf) rfl hl (Nat.le_of_ble_eq_true rfl) dX12_readNotes_22 rfl (fun r18 w18 H locs hf hR => ?_)
    refine z_callVI (fr1 := 3) (b := 200) (As := [.int (0 : Int32), .int r18]) (rest := [.int (x1 + (1 : Int32)), .ref (ad 217)]) X (hr.le (by decide)) hR zy_X12_takeTold zq_668 (zlit hR zf_200) (by rw [zs_200]; rfl) rfl (mX12_takeTold  hf) rfl hl (Nat.le_of_ble_eq_true rfl) dX12_readNotes_25 rfl (fun r19 w19 H locs hf hR => ?_)
    refine lv_goto (tgt := 42) hx hb dX12_readNotes_28 (by decide) ?_
    exact mX12_readNotes_J42 X hr hQ  hf hR (lv_sub hl [0, 1, 2] rfl)
/-! X12_notes -/
def fX12_notes_L119 (k : Int32 → zW → Prop) : Nat → Int32 → Int32 → zW → Prop
  | 0 => fun _ _ _ => False
  | n + 1 => fun x1 x2 w =>
    ((((4 : Int32) * x1) ≤ x2 →
      k (0 : Int32) w) ∧
     (¬ ((4 : Int32) * x1) ≤ x2 →
      vp_in ((165 : Int32) + x2) 330 ∧ 
      vp_in ((1 : Int32) + x2) 330 ∧ 
      ∀ w9 : zW, w9 = sI w 217 ((1 : Int32) + x2).toNatClampNeg (gI w 217 ((165 : Int32) + x2).toNatClampNeg) →
      fX12_notes_L119 k n x1 (x2 + (1 : Int32)) w9))
set_option maxHeartbeats 4000000 in
set_option maxRecDepth 100000 in
theorem mX12_notes_L119 {k : Int32 → zW → Prop} (X : zCx p s m args meth c cX12_notes 3 RX12 (some .int)) (hr : zRm R 5 cells slots) (hQ : zRetI p l e R s m args below meth c cells slots Q D dA true ad0 al0 ad al cX12_notes k)  : ∀ (n : Nat) (x1 : Int32) (x2 : Int32) (w : zW) (H : Heap) (locs : List Loc) (ls : Array Slot), fX12_notes_L119 k n x1 x2 w → zSt D dA true ad0 al0 ad al w s H locs → lv_has ls 3 [(0, .ref (ad 200)), (1, .int x1), (2, .int x2)] → W p l e R s m args below meth c H locs cells slots Q (F0 m 119 ls []) := by
  intro n
  induction n with
  | zero => exact fun _ _ _ _ _ _ hf => hf.elim
  | succ n ih =>
    intro x1 x2 w H locs ls hf hR hl
    have hx := X.1
    have hb := X.2.1
    have hml := X.2.2.1
    have hown := X.2.2.2.1
    have hts := X.2.2.2.2.1
    rw [fX12_notes_L119] at hf
    refine lv_iload_n hx hb dX12_notes_119 rfl (lv_at hl 2 rfl) ?_
    refine lv_iconst (v := (4 : Int32)) hx hb dX12_notes_120 (by decide) ?_
    refine lv_iload_n hx hb dX12_notes_121 rfl (lv_at hl 1 rfl) ?_
    refine lv_imul hx hb dX12_notes_122 ?_
    refine lv_icmp_ge (tgt := 150) hx hb dX12_notes_123 (by decide) (fun c6 => ?_) (fun c6 => ?_)
    · replace hf := hf.1 c6
      refine lv_iconst (v := (0 : Int32)) hx hb dX12_notes_150 (by decide) ?_
      exact hQ _ _ _ _ _ _ hf hR dX12_notes_151
    · replace hf := hf.2 c6
      refine lv_aload_n hx hb dX12_notes_126 rfl (lv_at hl 0 rfl) ?_
      refine z_getS X hR (zlit hR zf_200) zs_200 (by decide) zfd_X12_94 rfl (r := 217) (by decide +kernel) dX12_notes_127 ?_
      refine lv_iconst (v := (1 : Int32)) hx hb dX12_notes_130 (by decide) ?_
      refine lv_iload_n hx hb dX12_notes_131 rfl (lv_at hl 2 rfl) ?_
      refine lv_iadd hx hb dX12_notes_132 ?_
      refine lv_aload_n hx hb dX12_notes_133 rfl (lv_at hl 0 rfl) ?_
      refine z_getS X hR (zlit hR zf_200) zs_200 (by decide) zfd_X12_94 rfl (r := 217) (by decide +kernel) dX12_notes_134 ?_
      refine lv_sipush (v := (165 : Int32)) hx hb dX12_notes_137 (by decide) ?_
      refine lv_iload_n hx hb dX12_notes_140 rfl (lv_at hl 2 rfl) ?_
      refine lv_iadd hx hb dX12_notes_141 ?_
      obtain ⟨hb7, hf⟩ := hf
      refine z_iald X hR (zlit hR zf_217) zs_217 zl_217 hb7 dX12_notes_142 ?_
      obtain ⟨hb8, hf⟩ := hf
      refine z_iast X hR (zlit hR zf_217) zs_217 zl_217 hb8 dX12_notes_143 (fun H locs hR => ?_)
      obtain ⟨w9, hw9⟩ : ∃ z : zW, z = sI w 217 ((1 : Int32) + x2).toNatClampNeg (gI w 217 ((165 : Int32) + x2).toNatClampNeg) := ⟨_, rfl⟩
      rw [← hw9] at hR
      replace hf := hf w9 hw9
      refine lv_iinc (v := x2 + (1 : Int32)) (lv' := [(2, .int (x2 + (1 : Int32))), (0, .ref (ad 200)), (1, .int x1)]) hx hb dX12_notes_144 hl (k := 2) rfl rfl (by decide) rfl (fun ls hl => ?_)
      refine lv_goto (tgt := 119) hx hb dX12_notes_147 (by decide) ?_
      exact ih x1 (x2 + (1 : Int32)) w9 _ _ _ hf hR (lv_sub hl [1, 2, 0] rfl)
def fX12_notes_J98 (k : Int32 → zW → Prop) (x1 : Int32) (w : zW) : Prop :=
  (((gI w 200 8) ≤ 0 →
    ∀ w5 : zW, w5 = sI w 217 (0 : Int32).toNatClampNeg x1 →
    ∃ n9, fX12_notes_L119 k n9 x1 (0 : Int32) w5) ∧
   (¬ (gI w 200 8) ≤ 0 →
    k (gI w 200 8) w))
set_option maxHeartbeats 4000000 in
set_option maxRecDepth 100000 in
theorem mX12_notes_J98 {k : Int32 → zW → Prop} (X : zCx p s m args meth c cX12_notes 3 RX12 (some .int)) (hr : zRm R 5 cells slots) (hQ : zRetI p l e R s m args below meth c cells slots Q D dA true ad0 al0 ad al cX12_notes k)  {x1 : Int32} {w : zW} {H : Heap} {locs : List Loc} {ls : Array Slot} (hf : fX12_notes_J98 k x1 w) (hR : zSt D dA true ad0 al0 ad al w s H locs) (hl : lv_has ls 3 [(0, .ref (ad 200)), (1, .int x1)]) : W p l e R s m args below meth c H locs cells slots Q (F0 m 98 ls []) := by
  have hx := X.1
  have hb := X.2.1
  have hml := X.2.2.1
  have hown := X.2.2.2.1
  have hts := X.2.2.2.2.1
  unfold fX12_notes_J98 at hf
  refine lv_aload_n hx hb dX12_notes_98 rfl (lv_at hl 0 rfl) ?_
  refine z_getI X hR (zlit hR zf_200) zs_200 (by decide) zfd_X12_185 rfl dX12_notes_99 ?_
  refine lv_if_le (tgt := 110) hx hb dX12_notes_102 (by decide) (fun c4 => ?_) (fun c4 => ?_)
  · replace hf := hf.1 c4
    refine lv_aload_n hx hb dX12_notes_110 rfl (lv_at hl 0 rfl) ?_
    refine z_getS X hR (zlit hR zf_200) zs_200 (by decide) zfd_X12_94 rfl (r := 217) (by decide +kernel) dX12_notes_111 ?_
    refine lv_iconst (v := (0 : Int32)) hx hb dX12_notes_114 (by decide) ?_
    refine lv_iload_n hx hb dX12_notes_115 rfl (lv_at hl 1 rfl) ?_
    refine z_iast X hR (zlit hR zf_217) zs_217 zl_217 (zin (by decide)) dX12_notes_116 (fun H locs hR => ?_)
    obtain ⟨w5, hw5⟩ : ∃ z : zW, z = sI w 217 (0 : Int32).toNatClampNeg x1 := ⟨_, rfl⟩
    rw [← hw5] at hR
    replace hf := hf w5 hw5
    refine lv_iconst (v := (0 : Int32)) hx hb dX12_notes_117 (by decide) ?_
    refine lv_istore_n (lv' := [(2, .int (0 : Int32)), (0, .ref (ad 200)), (1, .int x1)]) hx hb dX12_notes_118 rfl hl (by decide) rfl (fun ls hl => ?_)
    obtain ⟨n9, hf⟩ := hf
    exact mX12_notes_L119 X hr hQ  n9 x1 (0 : Int32) w5 _ _ _ hf hR (lv_sub hl [1, 2, 0] rfl)
  · replace hf := hf.2 c4
    refine lv_aload_n hx hb dX12_notes_105 rfl (lv_at hl 0 rfl) ?_
    refine z_getI X hR (zlit hR zf_200) zs_200 (by decide) zfd_X12_185 rfl dX12_notes_106 ?_
    exact hQ _ _ _ _ _ _ hf hR dX12_notes_109
def fX12_notes_J89 (k : Int32 → zW → Prop) (g11 : Int32 → zW → Prop) (x1 : Int32) (w : zW) : Prop :=
  fX12_takeSign (59 : Int32) w (fun w17 =>
  g11 x1 w17)
set_option maxHeartbeats 4000000 in
set_option maxRecDepth 100000 in
theorem mX12_notes_J89 {k : Int32 → zW → Prop} {g11 : Int32 → zW → Prop} (X : zCx p s m args meth c cX12_notes 3 RX12 (some .int)) (hr : zRm R 5 cells slots) (hQ : zRetI p l e R s m args below meth c cells slots Q D dA true ad0 al0 ad al cX12_notes k) (hg11 : ∀ (x1 : Int32) (w : zW) (H : Heap) (locs : List Loc) (ls : Array Slot), g11 x1 w → zSt D dA true ad0 al0 ad al w s H locs → lv_has ls 3 [(0, .ref (ad 200)), (1, .int x1)] → W p l e R s m args below meth c H locs cells slots Q (F0 m 11 ls [])) {x1 : Int32} {w : zW} {H : Heap} {locs : List Loc} {ls : Array Slot} (hf : fX12_notes_J89 k g11 x1 w) (hR : zSt D dA true ad0 al0 ad al w s H locs) (hl : lv_has ls 3 [(0, .ref (ad 200)), (1, .int x1)]) : W p l e R s m args below meth c H locs cells slots Q (F0 m 89 ls []) := by
  have hx := X.1
  have hb := X.2.1
  have hml := X.2.2.1
  have hown := X.2.2.2.1
  have hts := X.2.2.2.2.1
  unfold fX12_notes_J89 at hf
  refine lv_aload_n hx hb dX12_notes_89 rfl (lv_at hl 0 rfl) ?_
  refine lv_bipush (v := (59 : Int32)) hx hb dX12_notes_90 (by decide) ?_
  refine z_callVV (fr1 := 1) (b := 200) (As := [.int (59 : Int32)]) (rest := []) X (hr.le (by decide)) hR zy_X12_takeSign zq_652 (zlit hR zf_200) (by rw [zs_200]; rfl) rfl (mX12_takeSign  hf) rfl hl (Nat.le_of_ble_eq_true rfl) dX12_notes_92 rfl (fun w17 H locs hf hR => ?_)
  refine lv_goto (tgt := 11) hx hb dX12_notes_95 (by decide) ?_
  exact hg11 x1 w17 _ _ _ hf hR (lv_sub hl [0, 1] rfl)
def fX12_notes_L11 (k : Int32 → zW → Prop) : Nat → Int32 → zW → Prop
  | 0 => fun _ _ => False
  | n + 1 => fun x1 w =>
    ((¬ (gI w 200 8) = 0 →
      fX12_notes_J98 k x1 w) ∧
     ((gI w 200 8) = 0 →
      vp_in (gI w 200 7) 1002 ∧ 
      (((gI w 204 (gI w 200 7).toNatClampNeg) = 0 →
        fX12_notes_J98 k x1 w) ∧
       (¬ (gI w 204 (gI w 200 7).toNatClampNeg) = 0 →
        fX12_wordHere (6 : Int32) (4 : Int32) w (fun r12 w12 =>
        ((0 ≤ r12 →
          ((¬ x1 = (40 : Int32) →
            ∀ w15 : zW, w15 = sI w12 200 7 ((gI w12 200 7) + (1 : Int32)) →
            fX12_readNotes ((165 : Int32) + ((4 : Int32) * x1)) r12 w15 (fun w16 =>
            fX12_notes_J89 k (fX12_notes_L11 k n) (x1 + (1 : Int32)) w16)) ∧
           (x1 = (40 : Int32) →
            fX12_wrong (5 : Int32) w12 (fun w18 =>
            fX12_notes_J89 k (fX12_notes_L11 k n) x1 w18)))) ∧
         (¬ 0 ≤ r12 →
          fX12_wrong (1 : Int32) w12 (fun w19 =>
          fX12_notes_J89 k (fX12_notes_L11 k n) x1 w19))))))))
set_option maxHeartbeats 4000000 in
set_option maxRecDepth 100000 in
theorem mX12_notes_L11 {k : Int32 → zW → Prop} (X : zCx p s m args meth c cX12_notes 3 RX12 (some .int)) (hr : zRm R 5 cells slots) (hQ : zRetI p l e R s m args below meth c cells slots Q D dA true ad0 al0 ad al cX12_notes k)  : ∀ (n : Nat) (x1 : Int32) (w : zW) (H : Heap) (locs : List Loc) (ls : Array Slot), fX12_notes_L11 k n x1 w → zSt D dA true ad0 al0 ad al w s H locs → lv_has ls 3 [(0, .ref (ad 200)), (1, .int x1)] → W p l e R s m args below meth c H locs cells slots Q (F0 m 11 ls []) := by
  intro n
  induction n with
  | zero => exact fun _ _ _ _ _ hf => hf.elim
  | succ n ih =>
    intro x1 w H locs ls hf hR hl
    have hx := X.1
    have hb := X.2.1
    have hml := X.2.2.1
    have hown := X.2.2.2.1
    have hts := X.2.2.2.2.1
    rw [fX12_notes_L11] at hf
    refine lv_aload_n hx hb dX12_notes_11 rfl (lv_at hl 0 rfl) ?_
    refine z_getI X hR (zlit hR zf_200) zs_200 (by decide) zfd_X12_185 rfl dX12_notes_12 ?_
    refine lv_if_ne (tgt := 98) hx hb dX12_notes_15 (by decide) (fun c3 => ?_) (fun c3 => ?_)
    · replace hf := hf.1 c3
      exact mX12_notes_J98 X hr hQ  hf hR (lv_sub hl [0, 1] rfl)
    · replace hf := hf.2 c3
      refine lv_aload_n hx hb dX12_notes_18 rfl (lv_at hl 0 rfl) ?_
      refine z_getS X hR (zlit hR zf_200) zs_200 (by decide) zfd_X12_24 rfl (r := 204) (by decide +kernel) dX12_notes_19 ?_
      refine lv_aload_n hx hb dX12_notes_22 rfl (lv_at hl 0 rfl) ?_
      refine z_getI X hR (zlit hR zf_200) zs_200 (by decide) zfd_X12_182 rfl dX12_notes_23 ?_
      obtain ⟨hb10, hf⟩ := hf
      refine z_iald X hR (zlit hR zf_204) zs_204 zl_204 hb10 dX12_notes_26 ?_
      refine lv_if_eq (tgt := 98) hx hb dX12_notes_27 (by decide) (fun c11 => ?_) (fun c11 => ?_)
      · replace hf := hf.1 c11
        exact mX12_notes_J98 X hr hQ  hf hR (lv_sub hl [0, 1] rfl)
      · replace hf := hf.2 c11
        refine lv_aload_n hx hb dX12_notes_30 rfl (lv_at hl 0 rfl) ?_
        refine lv_bipush (v := (6 : Int32)) hx hb dX12_notes_31 (by decide) ?_
        refine lv_iconst (v := (4 : Int32)) hx hb dX12_notes_33 (by decide) ?_
        refine z_callVI (fr1 := 1) (b := 200) (As := [.int (6 : Int32), .int (4 : Int32)]) (rest := []) X (hr.le (by decide)) hR zy_X12_wordHere zq_627 (zlit hR zf_200) (by rw [zs_200]; rfl) rfl (mX12_wordHere  hf) rfl hl (Nat.le_of_ble_eq_true rfl) dX12_notes_34 rfl (fun r12 w12 H locs hf hR => ?_)
        refine lv_istore_n (lv' := [(2, .int r12), (0, .ref (ad 200)), (1, .int x1)]) hx hb dX12_notes_37 rfl hl (by decide) rfl (fun ls hl => ?_)
        refine lv_iload_n hx hb dX12_notes_38 rfl (lv_at hl 0 rfl) ?_
        refine lv_if_ge (tgt := 50) hx hb dX12_notes_39 (by decide) (fun c13 => ?_) (fun c13 => ?_)
        · replace hf := hf.1 c13
          refine lv_iload_n hx hb dX12_notes_50 rfl (lv_at hl 2 rfl) ?_
          refine lv_bipush (v := (40 : Int32)) hx hb dX12_notes_51 (by decide) ?_
          refine lv_icmp_ne (tgt := 64) hx hb dX12_notes_53 (by decide) (fun c14 => ?_) (fun c14 => ?_)
          · replace hf := hf.1 c14
            refine lv_aload_n hx hb dX12_notes_64 rfl (lv_at hl 1 rfl) ?_
            refine lv_dup hx hb dX12_notes_65 rfl ?_
            refine z_getI X hR (zlit hR zf_200) zs_200 (by decide) zfd_X12_182 rfl dX12_notes_66 ?_
            refine lv_iconst (v := (1 : Int32)) hx hb dX12_notes_69 (by decide) ?_
            refine lv_iadd hx hb dX12_notes_70 ?_
            refine z_putI X hR (zlit hR zf_200) zs_200 (by decide) zfp_X12_182 rfl dX12_notes_71 (fun H locs hR => ?_)
            obtain ⟨w15, hw15⟩ : ∃ z : zW, z = sI w12 200 7 ((gI w12 200 7) + (1 : Int32)) := ⟨_, rfl⟩
            rw [← hw15] at hR
            replace hf := hf w15 hw15
            refine lv_aload_n hx hb dX12_notes_74 rfl (lv_at hl 1 rfl) ?_
            refine lv_sipush (v := (165 : Int32)) hx hb dX12_notes_75 (by decide) ?_
            refine lv_iconst (v := (4 : Int32)) hx hb dX12_notes_78 (by decide) ?_
            refine lv_iload_n hx hb dX12_notes_79 rfl (lv_at hl 2 rfl) ?_
            refine lv_imul hx hb dX12_notes_80 ?_
            refine lv_iadd hx hb dX12_notes_81 ?_
            refine lv_iload_n hx hb dX12_notes_82 rfl (lv_at hl 0 rfl) ?_
            refine z_callVV (fr1 := 4) (b := 200) (As := [.int ((165 : Int32) + ((4 : Int32) * x1)), .int r12]) (rest := []) X (hr.le (by decide)) hR zy_X12_readNotes zq_745 (zlit hR zf_200) (by rw [zs_200]; rfl) rfl (mX12_readNotes  hf) rfl hl (Nat.le_of_ble_eq_true rfl) dX12_notes_83 rfl (fun w16 H locs hf hR => ?_)
            refine lv_iinc (v := x1 + (1 : Int32)) (lv' := [(1, .int (x1 + (1 : Int32))), (2, .int r12), (0, .ref (ad 200))]) hx hb dX12_notes_86 hl (k := 2) rfl rfl (by decide) rfl (fun ls hl => ?_)
            exact mX12_notes_J89 X hr hQ ih hf hR (lv_sub hl [2, 0] rfl)
          · replace hf := hf.2 c14
            refine lv_aload_n hx hb dX12_notes_56 rfl (lv_at hl 1 rfl) ?_
            refine lv_iconst (v := (5 : Int32)) hx hb dX12_notes_57 (by decide) ?_
            refine z_callVV (fr1 := 0) (b := 200) (As := [.int (5 : Int32)]) (rest := []) X (hr.le (by decide)) hR zy_X12_wrong zq_619 (zlit hR zf_200) (by rw [zs_200]; rfl) rfl (mX12_wrong  hf) rfl hl (Nat.le_of_ble_eq_true rfl) dX12_notes_58 rfl (fun w18 H locs hf hR => ?_)
            refine lv_goto (tgt := 89) hx hb dX12_notes_61 (by decide) ?_
            exact mX12_notes_J89 X hr hQ ih hf hR (lv_sub hl [1, 2] rfl)
        · replace hf := hf.2 c13
          refine lv_aload_n hx hb dX12_notes_42 rfl (lv_at hl 1 rfl) ?_
          refine lv_iconst (v := (1 : Int32)) hx hb dX12_notes_43 (by decide) ?_
          refine z_callVV (fr1 := 0) (b := 200) (As := [.int (1 : Int32)]) (rest := []) X (hr.le (by decide)) hR zy_X12_wrong zq_619 (zlit hR zf_200) (by rw [zs_200]; rfl) rfl (mX12_wrong  hf) rfl hl (Nat.le_of_ble_eq_true rfl) dX12_notes_44 rfl (fun w19 H locs hf hR => ?_)
          refine lv_goto (tgt := 89) hx hb dX12_notes_47 (by decide) ?_
          exact mX12_notes_J89 X hr hQ ih hf hR (lv_sub hl [1, 2] rfl)
def fX12_notes (w : zW) (k : Int32 → zW → Prop) : Prop :=
  ∀ w1 : zW, w1 = sI w 200 0 (0 : Int32) →
  fX12_cutAll  w1 (fun w2 =>
  ∃ n9, fX12_notes_L11 k n9 (0 : Int32) w2)
set_option maxHeartbeats 4000000 in
set_option maxRecDepth 100000 in
theorem mX12_notes {l : Launch} {D : va_G} {dA : Nat → ClassId} {ad : Nat → Nat} {al : Nat → Prop} {w : zW} {k : Int32 → zW → Prop}   (hf : fX12_notes w k) : zmetI l yX12_notes cX12_notes 3 (some .int) 5 [.ref (ad 200)] D dA true ad al w k := by
  refine zmetI_of (by decide) (Nat.le_of_ble_eq_true rfl) ?_
  intro p e R s m below meth c Q H ls args locs cells slots X hr hQ hR hl
  have hx := X.1
  have hb := X.2.1
  have hml := X.2.2.1
  have hown := X.2.2.2.1
  have hts := X.2.2.2.2.1
  unfold fX12_notes at hf
  have hl : lv_has ls 3 [(0, .ref (ad 200))] := hl
  refine lv_aload_n hx hb dX12_notes_0 rfl (lv_at hl 0 rfl) ?_
  refine lv_iconst (v := (0 : Int32)) hx hb dX12_notes_1 (by decide) ?_
  refine z_putI X hR (zlit hR zf_200) zs_200 (by decide) zfp_X12_1 rfl dX12_notes_2 (fun H locs hR => ?_)
  obtain ⟨w1, hw1⟩ : ∃ z : zW, z = sI w 200 0 (0 : Int32) := ⟨_, rfl⟩
  rw [← hw1] at hR
  replace hf := hf w1 hw1
  refine lv_aload_n hx hb dX12_notes_5 rfl (lv_at hl 0 rfl) ?_
  refine z_callVV (fr1 := 2) (b := 200) (As := []) (rest := []) X (hr.le (by decide)) hR zy_X12_cutAll zq_587 (zlit hR zf_200) (by rw [zs_200]; rfl) rfl (mX12_cutAll  hf) rfl hl (Nat.le_of_ble_eq_true rfl) dX12_notes_6 rfl (fun w2 H locs hf hR => ?_)
  refine lv_iconst (v := (0 : Int32)) hx hb dX12_notes_9 (by decide) ?_
  refine lv_istore_n (lv' := [(1, .int (0 : Int32)), (0, .ref (ad 200))]) hx hb dX12_notes_10 rfl hl (by decide) rfl (fun ls hl => ?_)
  obtain ⟨n9, hf⟩ := hf
  exact mX12_notes_L11 X hr hQ  n9 (0 : Int32) w2 _ _ _ hf hR (lv_sub hl [1, 0] rfl)
/-! X12_copies -/
def fX12_copies_L3 (k : zW → Prop) : Nat → Int32 → Int32 → Int32 → Int32 → zW → Prop
  | 0 => fun _ _ _ _ _ => False
  | n + 1 => fun x1 x2 x3 x4 w =>
    ((x3 ≤ x4 →
      k w) ∧
     (¬ x3 ≤ x4 →
      vp_in (x1 + x4) 252 ∧ 
      vp_in (x2 + x4) 252 ∧ 
      ∀ w4 : zW, w4 = sI w 220 (x2 + x4).toNatClampNeg (gI w 220 (x1 + x4).toNatClampNeg) →
      fX12_copies_L3 k n x1 x2 x3 (x4 + (1 : Int32)) w4))
set_option maxHeartbeats 4000000 in
set_option maxRecDepth 100000 in
theorem mX12_copies_L3 {k : zW → Prop} (X : zCx p s m args meth c cX12_copies 5 RX12 none) (hr : zRm R 0 cells slots) (hQ : zRetV p l e R s m args below meth c cells slots Q D dA true ad0 al0 ad al cX12_copies k)  : ∀ (n : Nat) (x1 : Int32) (x2 : Int32) (x3 : Int32) (x4 : Int32) (w : zW) (H : Heap) (locs : List Loc) (ls : Array Slot), fX12_copies_L3 k n x1 x2 x3 x4 w → zSt D dA true ad0 al0 ad al w s H locs → lv_has ls 5 [(0, .ref (ad 200)), (1, .int x1), (2, .int x2), (3, .int x3), (4, .int x4)] → W p l e R s m args below meth c H locs cells slots Q (F0 m 3 ls []) := by
  intro n
  induction n with
  | zero => exact fun _ _ _ _ _ _ _ _ hf => hf.elim
  | succ n ih =>
    intro x1 x2 x3 x4 w H locs ls hf hR hl
    have hx := X.1
    have hb := X.2.1
    have hml := X.2.2.1
    have hown := X.2.2.2.1
    have hts := X.2.2.2.2.1
    rw [fX12_copies_L3] at hf
    refine lv_iload hx hb dX12_copies_3 (lv_at hl 4 rfl) ?_
    refine lv_iload_n hx hb dX12_copies_5 rfl (lv_at hl 3 rfl) ?_
    refine lv_icmp_ge (tgt := 33) hx hb dX12_copies_6 (by decide) (fun c1 => ?_) (fun c1 => ?_)
    · replace hf := hf.1 c1
      exact hQ _ _ _ _ _ hf hR dX12_copies_33
    · replace hf := hf.2 c1
      refine lv_aload_n hx hb dX12_copies_9 rfl (lv_at hl 0 rfl) ?_
      refine z_getS X hR (zlit hR zf_200) zs_200 (by decide) zfd_X12_103 rfl (r := 220) (by decide +kernel) dX12_copies_10 ?_
      refine lv_iload_n hx hb dX12_copies_13 rfl (lv_at hl 2 rfl) ?_
      refine lv_iload hx hb dX12_copies_14 (lv_at hl 4 rfl) ?_
      refine lv_iadd hx hb dX12_copies_16 ?_
      refine lv_aload_n hx hb dX12_copies_17 rfl (lv_at hl 0 rfl) ?_
      refine z_getS X hR (zlit hR zf_200) zs_200 (by decide) zfd_X12_103 rfl (r := 220) (by decide +kernel) dX12_copies_18 ?_
      refine lv_iload_n hx hb dX12_copies_21 rfl (lv_at hl 1 rfl) ?_
      refine lv_iload hx hb dX12_copies_22 (lv_at hl 4 rfl) ?_
      refine lv_iadd hx hb dX12_copies_24 ?_
      obtain ⟨hb2, hf⟩ := hf
      refine z_iald X hR (zlit hR zf_220) zs_220 zl_220 hb2 dX12_copies_25 ?_
      obtain ⟨hb3, hf⟩ := hf
      refine z_iast X hR (zlit hR zf_220) zs_220 zl_220 hb3 dX12_copies_26 (fun H locs hR => ?_)
      obtain ⟨w4, hw4⟩ : ∃ z : zW, z = sI w 220 (x2 + x4).toNatClampNeg (gI w 220 (x1 + x4).toNatClampNeg) := ⟨_, rfl⟩
      rw [← hw4] at hR
      replace hf := hf w4 hw4
      refine lv_iinc (v := x4 + (1 : Int32)) (lv' := [(4, .int (x4 + (1 : Int32))), (0, .ref (ad 200)), (1, .int x1), (2, .int x2), (3, .int x3)]) hx hb dX12_copies_27 hl (k := 4) rfl rfl (by decide) rfl (fun ls hl => ?_)
      refine lv_goto (tgt := 3) hx hb dX12_copies_30 (by decide) ?_
      exact ih x1 x2 x3 (x4 + (1 : Int32)) w4 _ _ _ hf hR (lv_sub hl [1, 2, 3, 4, 0] rfl)
def fX12_copies (x1 : Int32) (x2 : Int32) (x3 : Int32) (w : zW) (k : zW → Prop) : Prop :=
  ∃ n9, fX12_copies_L3 k n9 x1 x2 x3 (0 : Int32) w
set_option maxHeartbeats 4000000 in
set_option maxRecDepth 100000 in
theorem mX12_copies {l : Launch} {D : va_G} {dA : Nat → ClassId} {ad : Nat → Nat} {al : Nat → Prop} {w : zW} {k : zW → Prop} {x1 : Int32} {x2 : Int32} {x3 : Int32}   (hf : fX12_copies x1 x2 x3 w k) : zmetV l yX12_copies cX12_copies 5 none 0 [.ref (ad 200), .int x1, .int x2, .int x3] D dA true ad al w k := by
  refine zmetV_of (by decide) (Nat.le_of_ble_eq_true rfl) ?_
  intro p e R s m below meth c Q H ls args locs cells slots X hr hQ hR hl
  have hx := X.1
  have hb := X.2.1
  have hml := X.2.2.1
  have hown := X.2.2.2.1
  have hts := X.2.2.2.2.1
  unfold fX12_copies at hf
  have hl : lv_has ls 5 [(0, .ref (ad 200)), (1, .int x1), (2, .int x2), (3, .int x3)] := hl
  refine lv_iconst (v := (0 : Int32)) hx hb dX12_copies_0 (by decide) ?_
  refine lv_istore (lv' := [(4, .int (0 : Int32)), (0, .ref (ad 200)), (1, .int x1), (2, .int x2), (3, .int x3)]) hx hb dX12_copies_1 hl (by decide) rfl (fun ls hl => ?_)
  obtain ⟨n9, hf⟩ := hf
  exact mX12_copies_L3 X hr hQ  n9 x1 x2 x3 (0 : Int32) w _ _ _ hf hR (lv_sub hl [1, 2, 3, 4, 0] rfl)
/-! X12_keeps -/
def fX12_keeps_J53 (k : zW → Prop)  (w : zW) : Prop :=
  fX12_copies (0 : Int32) ((12 : Int32) * ((5 : Int32) + (gI w 200 21))) (12 : Int32) w (fun w2 =>
  ∀ w3 : zW, w3 = sI w2 200 21 ((gI w2 200 21) + (1 : Int32)) →
  k w3)
set_option maxHeartbeats 4000000 in
set_option maxRecDepth 100000 in
theorem mX12_keeps_J53 {k : zW → Prop} (X : zCx p s m args meth c cX12_keeps 2 RX12 none) (hr : zRm R 1 cells slots) (hQ : zRetV p l e R s m args below meth c cells slots Q D dA true ad0 al0 ad al cX12_keeps k)   {w : zW} {H : Heap} {locs : List Loc} {ls : Array Slot} (hf : fX12_keeps_J53 k  w) (hR : zSt D dA true ad0 al0 ad al w s H locs) (hl : lv_has ls 2 [(0, .ref (ad 200))]) : W p l e R s m args below meth c H locs cells slots Q (F0 m 53 ls []) := by
  have hx := X.1
  have hb := X.2.1
  have hml := X.2.2.1
  have hown := X.2.2.2.1
  have hts := X.2.2.2.2.1
  unfold fX12_keeps_J53 at hf
  refine lv_aload_n hx hb dX12_keeps_53 rfl (lv_at hl 0 rfl) ?_
  refine lv_iconst (v := (0 : Int32)) hx hb dX12_keeps_54 (by decide) ?_
  refine lv_bipush (v := (12 : Int32)) hx hb dX12_keeps_55 (by decide) ?_
  refine lv_iconst (v := (5 : Int32)) hx hb dX12_keeps_57 (by decide) ?_
  refine lv_aload_n hx hb dX12_keeps_58 rfl (lv_at hl 0 rfl) ?_
  refine z_getI X hR (zlit hR zf_200) zs_200 (by decide) zfd_X12_305 rfl dX12_keeps_59 ?_
  refine lv_iadd hx hb dX12_keeps_62 ?_
  refine lv_imul hx hb dX12_keeps_63 ?_
  refine lv_bipush (v := (12 : Int32)) hx hb dX12_keeps_64 (by decide) ?_
  refine z_callVV (fr1 := 0) (b := 200) (As := [.int (0 : Int32), .int ((12 : Int32) * ((5 : Int32) + (gI w 200 21))), .int (12 : Int32)]) (rest := []) X (hr.le (by decide)) hR zy_X12_copies zq_914 (zlit hR zf_200) (by rw [zs_200]; rfl) rfl (mX12_copies  hf) rfl hl (Nat.le_of_ble_eq_true rfl) dX12_keeps_66 rfl (fun w2 H locs hf hR => ?_)
  refine lv_aload_n hx hb dX12_keeps_69 rfl (lv_at hl 0 rfl) ?_
  refine lv_dup hx hb dX12_keeps_70 rfl ?_
  refine z_getI X hR (zlit hR zf_200) zs_200 (by decide) zfd_X12_305 rfl dX12_keeps_71 ?_
  refine lv_iconst (v := (1 : Int32)) hx hb dX12_keeps_74 (by decide) ?_
  refine lv_iadd hx hb dX12_keeps_75 ?_
  refine z_putI X hR (zlit hR zf_200) zs_200 (by decide) zfp_X12_305 rfl dX12_keeps_76 (fun H locs hR => ?_)
  obtain ⟨w3, hw3⟩ : ∃ z : zW, z = sI w2 200 21 ((gI w2 200 21) + (1 : Int32)) := ⟨_, rfl⟩
  rw [← hw3] at hR
  replace hf := hf w3 hw3
  exact hQ _ _ _ _ _ hf hR dX12_keeps_79
def fX12_keeps_L11 (k : zW → Prop) : Nat → Int32 → zW → Prop
  | 0 => fun _ _ => False
  | n + 1 => fun x1 w =>
    (((16 : Int32) ≤ x1 →
      ∀ w5 : zW, w5 = sI w 200 21 ((gI w 200 21) - (1 : Int32)) →
      fX12_keeps_J53 k  w5) ∧
     (¬ (16 : Int32) ≤ x1 →
      fX12_copies ((12 : Int32) * ((5 : Int32) + x1)) ((12 : Int32) * (((5 : Int32) + x1) - (1 : Int32))) (12 : Int32) w (fun w6 =>
      fX12_keeps_L11 k n (x1 + (1 : Int32)) w6)))
set_option maxHeartbeats 4000000 in
set_option maxRecDepth 100000 in
theorem mX12_keeps_L11 {k : zW → Prop} (X : zCx p s m args meth c cX12_keeps 2 RX12 none) (hr : zRm R 1 cells slots) (hQ : zRetV p l e R s m args below meth c cells slots Q D dA true ad0 al0 ad al cX12_keeps k)  : ∀ (n : Nat) (x1 : Int32) (w : zW) (H : Heap) (locs : List Loc) (ls : Array Slot), fX12_keeps_L11 k n x1 w → zSt D dA true ad0 al0 ad al w s H locs → lv_has ls 2 [(0, .ref (ad 200)), (1, .int x1)] → W p l e R s m args below meth c H locs cells slots Q (F0 m 11 ls []) := by
  intro n
  induction n with
  | zero => exact fun _ _ _ _ _ hf => hf.elim
  | succ n ih =>
    intro x1 w H locs ls hf hR hl
    have hx := X.1
    have hb := X.2.1
    have hml := X.2.2.1
    have hown := X.2.2.2.1
    have hts := X.2.2.2.2.1
    rw [fX12_keeps_L11] at hf
    refine lv_iload_n hx hb dX12_keeps_11 rfl (lv_at hl 1 rfl) ?_
    refine lv_bipush (v := (16 : Int32)) hx hb dX12_keeps_12 (by decide) ?_
    refine lv_icmp_ge (tgt := 43) hx hb dX12_keeps_14 (by decide) (fun c4 => ?_) (fun c4 => ?_)
    · replace hf := hf.1 c4
      refine lv_aload_n hx hb dX12_keeps_43 rfl (lv_at hl 0 rfl) ?_
      refine lv_dup hx hb dX12_keeps_44 rfl ?_
      refine z_getI X hR (zlit hR zf_200) zs_200 (by decide) zfd_X12_305 rfl dX12_keeps_45 ?_
      refine lv_iconst (v := (1 : Int32)) hx hb dX12_keeps_48 (by decide) ?_
      refine lv_isub hx hb dX12_keeps_49 ?_
      refine z_putI X hR (zlit hR zf_200) zs_200 (by decide) zfp_X12_305 rfl dX12_keeps_50 (fun H locs hR => ?_)
      obtain ⟨w5, hw5⟩ : ∃ z : zW, z = sI w 200 21 ((gI w 200 21) - (1 : Int32)) := ⟨_, rfl⟩
      rw [← hw5] at hR
      replace hf := hf w5 hw5
      exact mX12_keeps_J53 X hr hQ  hf hR (lv_sub hl [0] rfl)
    · replace hf := hf.2 c4
      refine lv_aload_n hx hb dX12_keeps_17 rfl (lv_at hl 0 rfl) ?_
      refine lv_bipush (v := (12 : Int32)) hx hb dX12_keeps_18 (by decide) ?_
      refine lv_iconst (v := (5 : Int32)) hx hb dX12_keeps_20 (by decide) ?_
      refine lv_iload_n hx hb dX12_keeps_21 rfl (lv_at hl 1 rfl) ?_
      refine lv_iadd hx hb dX12_keeps_22 ?_
      refine lv_imul hx hb dX12_keeps_23 ?_
      refine lv_bipush (v := (12 : Int32)) hx hb dX12_keeps_24 (by decide) ?_
      refine lv_iconst (v := (5 : Int32)) hx hb dX12_keeps_26 (by decide) ?_
      refine lv_iload_n hx hb dX12_keeps_27 rfl (lv_at hl 1 rfl) ?_
      refine lv_iadd hx hb dX12_keeps_28 ?_
      refine lv_iconst (v := (1 : Int32)) hx hb dX12_keeps_29 (by decide) ?_
      refine lv_isub hx hb dX12_keeps_30 ?_
      refine lv_imul hx hb dX12_keeps_31 ?_
      refine lv_bipush (v := (12 : Int32)) hx hb dX12_keeps_32 (by decide) ?_
      refine z_callVV (fr1 := 0) (b := 200) (As := [.int ((12 : Int32) * ((5 : Int32) + x1)), .int ((12 : Int32) * (((5 : Int32) + x1) - (1 : Int32))), .int (12 : Int32)]) (rest := []) X (hr.le (by decide)) hR zy_X12_copies zq_914 (zlit hR zf_200) (by rw [zs_200]; rfl) rfl (mX12_copies  hf) rfl hl (Nat.le_of_ble_eq_true rfl) dX12_keeps_34 rfl (fun w6 H locs hf hR => ?_)
      refine lv_iinc (v := x1 + (1 : Int32)) (lv' := [(1, .int (x1 + (1 : Int32))), (0, .ref (ad 200))]) hx hb dX12_keeps_37 hl (k := 1) rfl rfl (by decide) rfl (fun ls hl => ?_)
      refine lv_goto (tgt := 11) hx hb dX12_keeps_40 (by decide) ?_
      exact ih (x1 + (1 : Int32)) w6 _ _ _ hf hR (lv_sub hl [1, 0] rfl)
def fX12_keeps (w : zW) (k : zW → Prop) : Prop :=
  ((¬ (gI w 200 21) = (16 : Int32) →
    fX12_keeps_J53 k  w) ∧
   ((gI w 200 21) = (16 : Int32) →
    ∃ n9, fX12_keeps_L11 k n9 (1 : Int32) w))
set_option maxHeartbeats 4000000 in
set_option maxRecDepth 100000 in
theorem mX12_keeps {l : Launch} {D : va_G} {dA : Nat → ClassId} {ad : Nat → Nat} {al : Nat → Prop} {w : zW} {k : zW → Prop}   (hf : fX12_keeps w k) : zmetV l yX12_keeps cX12_keeps 2 none 1 [.ref (ad 200)] D dA true ad al w k := by
  refine zmetV_of (by decide) (Nat.le_of_ble_eq_true rfl) ?_
  intro p e R s m below meth c Q H ls args locs cells slots X hr hQ hR hl
  have hx := X.1
  have hb := X.2.1
  have hml := X.2.2.1
  have hown := X.2.2.2.1
  have hts := X.2.2.2.2.1
  unfold fX12_keeps at hf
  have hl : lv_has ls 2 [(0, .ref (ad 200))] := hl
  refine lv_aload_n hx hb dX12_keeps_0 rfl (lv_at hl 0 rfl) ?_
  refine z_getI X hR (zlit hR zf_200) zs_200 (by decide) zfd_X12_305 rfl dX12_keeps_1 ?_
  refine lv_bipush (v := (16 : Int32)) hx hb dX12_keeps_4 (by decide) ?_
  refine lv_icmp_ne (tgt := 53) hx hb dX12_keeps_6 (by decide) (fun c1 => ?_) (fun c1 => ?_)
  · replace hf := hf.1 c1
    exact mX12_keeps_J53 X hr hQ  hf hR (lv_sub hl [0] rfl)
  · replace hf := hf.2 c1
    refine lv_iconst (v := (1 : Int32)) hx hb dX12_keeps_9 (by decide) ?_
    refine lv_istore_n (lv' := [(1, .int (1 : Int32)), (0, .ref (ad 200))]) hx hb dX12_keeps_10 rfl hl (by decide) rfl (fun ls hl => ?_)
    obtain ⟨n9, hf⟩ := hf
    exact mX12_keeps_L11 X hr hQ  n9 (1 : Int32) w _ _ _ hf hR (lv_sub hl [1, 0] rfl)
/-! X12_isTerm -/
def fX12_isTerm (x1 : Int32) (w : zW) (k : Int32 → zW → Prop) : Prop :=
  ((x1 < 0 →
    k (0 : Int32) w) ∧
   (¬ x1 < 0 →
    fX12_wordsTold  w (fun r2 w2 =>
    ∀ v3 : Int32, v3 = (if r2 ≤ x1 then (0 : Int32) else (1 : Int32)) →
    zb01 v3 ∧ k v3 w2)))
set_option maxHeartbeats 4000000 in
set_option maxRecDepth 100000 in
theorem mX12_isTerm {l : Launch} {D : va_G} {dA : Nat → ClassId} {ad : Nat → Nat} {al : Nat → Prop} {w : zW} {k : Int32 → zW → Prop} {x1 : Int32}   (hf : fX12_isTerm x1 w k) : zmetI l yX12_isTerm cX12_isTerm 2 (some .boolean) 1 [.ref (ad 200), .int x1] D dA true ad al w k := by
  refine zmetZ_of (by decide) (Nat.le_of_ble_eq_true rfl) ?_
  intro p e R s m below meth c Q H ls args locs cells slots X hr hQ hR hl
  have hx := X.1
  have hb := X.2.1
  have hml := X.2.2.1
  have hown := X.2.2.2.1
  have hts := X.2.2.2.2.1
  unfold fX12_isTerm at hf
  have hl : lv_has ls 2 [(0, .ref (ad 200)), (1, .int x1)] := hl
  refine lv_iload_n hx hb dX12_isTerm_0 rfl (lv_at hl 1 rfl) ?_
  refine lv_if_lt (tgt := 16) hx hb dX12_isTerm_1 (by decide) (fun c1 => ?_) (fun c1 => ?_)
  · replace hf := hf.1 c1
    refine lv_iconst (v := (0 : Int32)) hx hb dX12_isTerm_16 (by decide) ?_
    exact hQ _ _ _ _ _ _ zb01_0 hf hR dX12_isTerm_17
  · replace hf := hf.2 c1
    refine lv_iload_n hx hb dX12_isTerm_4 rfl (lv_at hl 1 rfl) ?_
    refine lv_aload_n hx hb dX12_isTerm_5 rfl (lv_at hl 0 rfl) ?_
    refine z_callVI (fr1 := 0) (b := 200) (As := []) (rest := [.int x1]) X (hr.le (by decide)) hR zy_X12_wordsTold zq_211 (zlit hR zf_200) (by rw [zs_200]; rfl) rfl (mX12_wordsTold  hf) rfl hl (Nat.le_of_ble_eq_true rfl) dX12_isTerm_6 rfl (fun r2 w2 H locs hf hR => ?_)
    have kJ3 : ∀ v3 : Int32, v3 = (if r2 ≤ x1 then (0 : Int32) else (1 : Int32)) → W p l e R s m args below meth c H locs cells slots Q (F0 m 17 ls (.int v3 :: [])) := by
      intro v3 hv3
      replace hf := hf v3 hv3
      obtain ⟨h01, hf⟩ := hf
      exact hQ _ _ _ _ _ _ h01 hf hR dX12_isTerm_17
    refine lv_icmp_ge (tgt := 16) hx hb dX12_isTerm_9 (by decide) (fun c3 => ?_) (fun c3 => ?_)
    · refine lv_iconst (v := (0 : Int32)) hx hb dX12_isTerm_16 (by decide) ?_
      exact kJ3 _ (if_pos c3).symm
    · refine lv_iconst (v := (1 : Int32)) hx hb dX12_isTerm_12 (by decide) ?_
      refine lv_goto (tgt := 17) hx hb dX12_isTerm_13 (by decide) ?_
      exact kJ3 _ (if_neg c3).symm
/-! X12_isRow -/
def fX12_isRow (x1 : Int32) (w : zW) (k : Int32 → zW → Prop) : Prop :=
  ((x1 < 0 →
    k (0 : Int32) w) ∧
   (¬ x1 < 0 →
    fX12_rows  w (fun r2 w2 =>
    ∀ v3 : Int32, v3 = (if r2 ≤ x1 then (0 : Int32) else (1 : Int32)) →
    zb01 v3 ∧ k v3 w2)))
set_option maxHeartbeats 4000000 in
set_option maxRecDepth 100000 in
theorem mX12_isRow {l : Launch} {D : va_G} {dA : Nat → ClassId} {ad : Nat → Nat} {al : Nat → Prop} {w : zW} {k : Int32 → zW → Prop} {x1 : Int32}   (hf : fX12_isRow x1 w k) : zmetI l yX12_isRow cX12_isRow 2 (some .boolean) 1 [.ref (ad 200), .int x1] D dA true ad al w k := by
  refine zmetZ_of (by decide) (Nat.le_of_ble_eq_true rfl) ?_
  intro p e R s m below meth c Q H ls args locs cells slots X hr hQ hR hl
  have hx := X.1
  have hb := X.2.1
  have hml := X.2.2.1
  have hown := X.2.2.2.1
  have hts := X.2.2.2.2.1
  unfold fX12_isRow at hf
  have hl : lv_has ls 2 [(0, .ref (ad 200)), (1, .int x1)] := hl
  refine lv_iload_n hx hb dX12_isRow_0 rfl (lv_at hl 1 rfl) ?_
  refine lv_if_lt (tgt := 16) hx hb dX12_isRow_1 (by decide) (fun c1 => ?_) (fun c1 => ?_)
  · replace hf := hf.1 c1
    refine lv_iconst (v := (0 : Int32)) hx hb dX12_isRow_16 (by decide) ?_
    exact hQ _ _ _ _ _ _ zb01_0 hf hR dX12_isRow_17
  · replace hf := hf.2 c1
    refine lv_iload_n hx hb dX12_isRow_4 rfl (lv_at hl 1 rfl) ?_
    refine lv_aload_n hx hb dX12_isRow_5 rfl (lv_at hl 0 rfl) ?_
    refine z_callVI (fr1 := 0) (b := 200) (As := []) (rest := [.int x1]) X (hr.le (by decide)) hR zy_X12_rows zq_199 (zlit hR zf_200) (by rw [zs_200]; rfl) rfl (mX12_rows  hf) rfl hl (Nat.le_of_ble_eq_true rfl) dX12_isRow_6 rfl (fun r2 w2 H locs hf hR => ?_)
    have kJ3 : ∀ v3 : Int32, v3 = (if r2 ≤ x1 then (0 : Int32) else (1 : Int32)) → W p l e R s m args below meth c H locs cells slots Q (F0 m 17 ls (.int v3 :: [])) := by
      intro v3 hv3
      replace hf := hf v3 hv3
      obtain ⟨h01, hf⟩ := hf
      exact hQ _ _ _ _ _ _ h01 hf hR dX12_isRow_17
    refine lv_icmp_ge (tgt := 16) hx hb dX12_isRow_9 (by decide) (fun c3 => ?_) (fun c3 => ?_)
    · refine lv_iconst (v := (0 : Int32)) hx hb dX12_isRow_16 (by decide) ?_
      exact kJ3 _ (if_pos c3).symm
    · refine lv_iconst (v := (1 : Int32)) hx hb dX12_isRow_12 (by decide) ?_
      refine lv_goto (tgt := 17) hx hb dX12_isRow_13 (by decide) ?_
      exact kJ3 _ (if_neg c3).symm
/-! X12_bits -/
def fX12_bits_L4 (k : Int32 → zW → Prop) : Nat → Int32 → Int32 → Int32 → zW → Prop
  | 0 => fun _ _ _ _ => False
  | n + 1 => fun x0 x1 x2 w =>
    (((30 : Int32) ≤ x2 →
      k x1 w) ∧
     (¬ (30 : Int32) ≤ x2 →
      ∀ v2 : Int32, v2 = x1 + ((x0 >>> (x2 &&& 31)) &&& (1 : Int32)) →
      fX12_bits_L4 k n x0 v2 (x2 + (1 : Int32)) w))
set_option maxHeartbeats 4000000 in
set_option maxRecDepth 100000 in
theorem mX12_bits_L4 {k : Int32 → zW → Prop} (X : zCx p s m args meth c cX12_bits 3 RX12 (some .int)) (hr : zRm R 0 cells slots) (hQ : zRetI p l e R s m args below meth c cells slots Q D dA true ad0 al0 ad al cX12_bits k)  : ∀ (n : Nat) (x0 : Int32) (x1 : Int32) (x2 : Int32) (w : zW) (H : Heap) (locs : List Loc) (ls : Array Slot), fX12_bits_L4 k n x0 x1 x2 w → zSt D dA true ad0 al0 ad al w s H locs → lv_has ls 3 [(0, .int x0), (1, .int x1), (2, .int x2)] → W p l e R s m args below meth c H locs cells slots Q (F0 m 4 ls []) := by
  intro n
  induction n with
  | zero => exact fun _ _ _ _ _ _ _ hf => hf.elim
  | succ n ih =>
    intro x0 x1 x2 w H locs ls hf hR hl
    have hx := X.1
    have hb := X.2.1
    have hml := X.2.2.1
    have hown := X.2.2.2.1
    have hts := X.2.2.2.2.1
    rw [fX12_bits_L4] at hf
    refine lv_iload_n hx hb dX12_bits_4 rfl (lv_at hl 2 rfl) ?_
    refine lv_bipush (v := (30 : Int32)) hx hb dX12_bits_5 (by decide) ?_
    refine lv_icmp_ge (tgt := 24) hx hb dX12_bits_7 (by decide) (fun c1 => ?_) (fun c1 => ?_)
    · replace hf := hf.1 c1
      refine lv_iload_n hx hb dX12_bits_24 rfl (lv_at hl 1 rfl) ?_
      exact hQ _ _ _ _ _ _ hf hR dX12_bits_25
    · replace hf := hf.2 c1
      refine lv_iload_n hx hb dX12_bits_10 rfl (lv_at hl 1 rfl) ?_
      refine lv_iload_n hx hb dX12_bits_11 rfl (lv_at hl 0 rfl) ?_
      refine lv_iload_n hx hb dX12_bits_12 rfl (lv_at hl 2 rfl) ?_
      refine lv_ishr hx hb dX12_bits_13 ?_
      refine lv_iconst (v := (1 : Int32)) hx hb dX12_bits_14 (by decide) ?_
      refine lv_iand hx hb dX12_bits_15 ?_
      refine lv_iadd hx hb dX12_bits_16 ?_
      refine lv_topi (fun v2 hv2 => ?_)
      replace hf := hf v2 hv2
      refine lv_istore_n (lv' := [(1, .int v2), (0, .int x0), (2, .int x2)]) hx hb dX12_bits_17 rfl hl (by decide) rfl (fun ls hl => ?_)
      refine lv_iinc (v := x2 + (1 : Int32)) (lv' := [(2, .int (x2 + (1 : Int32))), (1, .int v2), (0, .int x0)]) hx hb dX12_bits_18 hl (k := 2) rfl rfl (by decide) rfl (fun ls hl => ?_)
      refine lv_goto (tgt := 4) hx hb dX12_bits_21 (by decide) ?_
      exact ih x0 v2 (x2 + (1 : Int32)) w _ _ _ hf hR (lv_sub hl [2, 1, 0] rfl)
def fX12_bits (x0 : Int32) (w : zW) (k : Int32 → zW → Prop) : Prop :=
  ∃ n9, fX12_bits_L4 k n9 x0 (0 : Int32) (0 : Int32) w
set_option maxHeartbeats 4000000 in
set_option maxRecDepth 100000 in
theorem mX12_bits {l : Launch} {D : va_G} {dA : Nat → ClassId} {ad : Nat → Nat} {al : Nat → Prop} {w : zW} {k : Int32 → zW → Prop} {x0 : Int32}   (hf : fX12_bits x0 w k) : zmetI l yX12_bits cX12_bits 3 (some .int) 0 [.int x0] D dA true ad al w k := by
  refine zmetI_of (by decide) (Nat.le_of_ble_eq_true rfl) ?_
  intro p e R s m below meth c Q H ls args locs cells slots X hr hQ hR hl
  have hx := X.1
  have hb := X.2.1
  have hml := X.2.2.1
  have hown := X.2.2.2.1
  have hts := X.2.2.2.2.1
  unfold fX12_bits at hf
  have hl : lv_has ls 3 [(0, .int x0)] := hl
  refine lv_iconst (v := (0 : Int32)) hx hb dX12_bits_0 (by decide) ?_
  refine lv_istore_n (lv' := [(1, .int (0 : Int32)), (0, .int x0)]) hx hb dX12_bits_1 rfl hl (by decide) rfl (fun ls hl => ?_)
  refine lv_iconst (v := (0 : Int32)) hx hb dX12_bits_2 (by decide) ?_
  refine lv_istore_n (lv' := [(2, .int (0 : Int32)), (1, .int (0 : Int32)), (0, .int x0)]) hx hb dX12_bits_3 rfl hl (by decide) rfl (fun ls hl => ?_)
  obtain ⟨n9, hf⟩ := hf
  exact mX12_bits_L4 X hr hQ  n9 x0 (0 : Int32) (0 : Int32) w _ _ _ hf hR (lv_sub hl [2, 1, 0] rfl)
/-! X12_term -/
def fX12_term (x1 : Int32) (x2 : Int32) (w : zW) (k : Int32 → zW → Prop) : Prop :=
  ∀ w1 : zW, w1 = sI w 200 0 (0 : Int32) →
  fX12_isTerm x1 w1 (fun r2 w2 =>
  ((r2 = 0 →
    k (-2 : Int32) w2) ∧
   (¬ r2 = 0 →
    fX12_within x2 (0 : Int32) (3 : Int32) w2 (fun r4 w4 =>
    ((¬ r4 = 0 →
      ((¬ x2 = 0 →
        ((¬ x2 = (1 : Int32) →
          ((¬ x2 = (2 : Int32) →
            fX12_usesOf x1 w4 (fun r9 w9 =>
            k r9 w9)) ∧
           (x2 = (2 : Int32) →
            vp_in x1 4 ∧ 
            k (gI w4 224 x1.toNatClampNeg) w4))) ∧
         (x2 = (1 : Int32) →
          vp_in x1 252 ∧ 
          k (gI w4 220 x1.toNatClampNeg) w4))) ∧
       (x2 = 0 →
        vp_in ((4 : Int32) + x1) 60 ∧ 
        k (gI w4 210 ((4 : Int32) + x1).toNatClampNeg) w4))) ∧
     (r4 = 0 →
      k (-2 : Int32) w4))))))
set_option maxHeartbeats 4000000 in
set_option maxRecDepth 100000 in
theorem mX12_term {l : Launch} {D : va_G} {dA : Nat → ClassId} {ad : Nat → Nat} {al : Nat → Prop} {w : zW} {k : Int32 → zW → Prop} {x1 : Int32} {x2 : Int32}   (hf : fX12_term x1 x2 w k) : zmetI l yX12_term cX12_term 3 (some .int) 2 [.ref (ad 200), .int x1, .int x2] D dA true ad al w k := by
  refine zmetI_of (by decide) (Nat.le_of_ble_eq_true rfl) ?_
  intro p e R s m below meth c Q H ls args locs cells slots X hr hQ hR hl
  have hx := X.1
  have hb := X.2.1
  have hml := X.2.2.1
  have hown := X.2.2.2.1
  have hts := X.2.2.2.2.1
  unfold fX12_term at hf
  have hl : lv_has ls 3 [(0, .ref (ad 200)), (1, .int x1), (2, .int x2)] := hl
  refine lv_aload_n hx hb dX12_term_0 rfl (lv_at hl 0 rfl) ?_
  refine lv_iconst (v := (0 : Int32)) hx hb dX12_term_1 (by decide) ?_
  refine z_putI X hR (zlit hR zf_200) zs_200 (by decide) zfp_X12_1 rfl dX12_term_2 (fun H locs hR => ?_)
  obtain ⟨w1, hw1⟩ : ∃ z : zW, z = sI w 200 0 (0 : Int32) := ⟨_, rfl⟩
  rw [← hw1] at hR
  replace hf := hf w1 hw1
  refine lv_aload_n hx hb dX12_term_5 rfl (lv_at hl 0 rfl) ?_
  refine lv_iload_n hx hb dX12_term_6 rfl (lv_at hl 1 rfl) ?_
  refine z_callVI (fr1 := 1) (b := 200) (As := [.int x1]) (rest := []) X (hr.le (by decide)) hR zy_X12_isTerm zq_769 (zlit hR zf_200) (by rw [zs_200]; rfl) rfl (mX12_isTerm  hf) rfl hl (Nat.le_of_ble_eq_true rfl) dX12_term_7 rfl (fun r2 w2 H locs hf hR => ?_)
  refine lv_if_eq (tgt := 22) hx hb dX12_term_10 (by decide) (fun c3 => ?_) (fun c3 => ?_)
  · replace hf := hf.1 c3
    refine lv_bipush (v := (-2 : Int32)) hx hb dX12_term_22 (by decide) ?_
    exact hQ _ _ _ _ _ _ hf hR dX12_term_24
  · replace hf := hf.2 c3
    refine lv_iload_n hx hb dX12_term_13 rfl (lv_at hl 2 rfl) ?_
    refine lv_iconst (v := (0 : Int32)) hx hb dX12_term_14 (by decide) ?_
    refine lv_iconst (v := (3 : Int32)) hx hb dX12_term_15 (by decide) ?_
    refine z_callSI (fr1 := 0) (As := [.int x2, .int (0 : Int32), .int (3 : Int32)]) (rest := []) X (hr.le (by decide)) hR zy_X12_within zq_773 (mX12_within  hf) rfl hl (Nat.le_of_ble_eq_true rfl) dX12_term_16 rfl (fun r4 w4 H locs hf hR => ?_)
    refine lv_if_ne (tgt := 25) hx hb dX12_term_19 (by decide) (fun c5 => ?_) (fun c5 => ?_)
    · replace hf := hf.1 c5
      refine lv_iload_n hx hb dX12_term_25 rfl (lv_at hl 2 rfl) ?_
      refine lv_if_ne (tgt := 40) hx hb dX12_term_26 (by decide) (fun c6 => ?_) (fun c6 => ?_)
      · replace hf := hf.1 c6
        refine lv_iload_n hx hb dX12_term_40 rfl (lv_at hl 2 rfl) ?_
        refine lv_iconst (v := (1 : Int32)) hx hb dX12_term_41 (by decide) ?_
        refine lv_icmp_ne (tgt := 54) hx hb dX12_term_42 (by decide) (fun c7 => ?_) (fun c7 => ?_)
        · replace hf := hf.1 c7
          refine lv_iload_n hx hb dX12_term_54 rfl (lv_at hl 2 rfl) ?_
          refine lv_iconst (v := (2 : Int32)) hx hb dX12_term_55 (by decide) ?_
          refine lv_icmp_ne (tgt := 68) hx hb dX12_term_56 (by decide) (fun c8 => ?_) (fun c8 => ?_)
          · replace hf := hf.1 c8
            refine lv_aload_n hx hb dX12_term_68 rfl (lv_at hl 0 rfl) ?_
            refine lv_iload_n hx hb dX12_term_69 rfl (lv_at hl 1 rfl) ?_
            refine z_callVI (fr1 := 1) (b := 200) (As := [.int x1]) (rest := []) X (hr.le (by decide)) hR zy_X12_usesOf zq_219 (zlit hR zf_200) (by rw [zs_200]; rfl) rfl (mX12_usesOf  hf) rfl hl (Nat.le_of_ble_eq_true rfl) dX12_term_70 rfl (fun r9 w9 H locs hf hR => ?_)
            exact hQ _ _ _ _ _ _ hf hR dX12_term_73
          · replace hf := hf.2 c8
            refine lv_aload_n hx hb dX12_term_59 rfl (lv_at hl 0 rfl) ?_
            refine z_getS X hR (zlit hR zf_200) zs_200 (by decide) zfd_X12_113 rfl (r := 224) (by decide +kernel) dX12_term_60 ?_
            refine lv_iload_n hx hb dX12_term_63 rfl (lv_at hl 1 rfl) ?_
            obtain ⟨hb10, hf⟩ := hf
            refine z_iald X hR (zlit hR zf_224) zs_224 zl_224 hb10 dX12_term_64 ?_
            refine lv_goto (tgt := 73) hx hb dX12_term_65 (by decide) ?_
            exact hQ _ _ _ _ _ _ hf hR dX12_term_73
        · replace hf := hf.2 c7
          refine lv_aload_n hx hb dX12_term_45 rfl (lv_at hl 0 rfl) ?_
          refine z_getS X hR (zlit hR zf_200) zs_200 (by decide) zfd_X12_103 rfl (r := 220) (by decide +kernel) dX12_term_46 ?_
          refine lv_iload_n hx hb dX12_term_49 rfl (lv_at hl 1 rfl) ?_
          obtain ⟨hb11, hf⟩ := hf
          refine z_iald X hR (zlit hR zf_220) zs_220 zl_220 hb11 dX12_term_50 ?_
          refine lv_goto (tgt := 73) hx hb dX12_term_51 (by decide) ?_
          exact hQ _ _ _ _ _ _ hf hR dX12_term_73
      · replace hf := hf.2 c6
        refine lv_aload_n hx hb dX12_term_29 rfl (lv_at hl 0 rfl) ?_
        refine z_getS X hR (zlit hR zf_200) zs_200 (by decide) zfd_X12_79 rfl (r := 210) (by decide +kernel) dX12_term_30 ?_
        refine lv_iconst (v := (4 : Int32)) hx hb dX12_term_33 (by decide) ?_
        refine lv_iload_n hx hb dX12_term_34 rfl (lv_at hl 1 rfl) ?_
        refine lv_iadd hx hb dX12_term_35 ?_
        obtain ⟨hb12, hf⟩ := hf
        refine z_iald X hR (zlit hR zf_210) zs_210 zl_210 hb12 dX12_term_36 ?_
        refine lv_goto (tgt := 73) hx hb dX12_term_37 (by decide) ?_
        exact hQ _ _ _ _ _ _ hf hR dX12_term_73
    · replace hf := hf.2 c5
      refine lv_bipush (v := (-2 : Int32)) hx hb dX12_term_22 (by decide) ?_
      exact hQ _ _ _ _ _ _ hf hR dX12_term_24
/-! X12_isAgain -/
def fX12_isAgain_L18 (k : Int32 → zW → Prop) : Nat → Int32 → Int32 → Int32 → Int32 → Int32 → Int32 → zW → Prop
  | 0 => fun _ _ _ _ _ _ _ => False
  | n + 1 => fun x1 x2 x3 x4 x5 x6 w =>
    ((x5 = 0 →
      zb01 x5 ∧ k x5 w) ∧
     (¬ x5 = 0 →
      ((x3 ≤ x6 →
        zb01 x5 ∧ k x5 w) ∧
       (¬ x3 ≤ x6 →
        fX12_itemOf x1 (x2 + x6) w (fun r5 w5 =>
        fX12_itemOf x1 ((x2 + x6) - x4) w5 (fun r6 w6 =>
        ∀ v7 : Int32, v7 = (if ¬ r5 = r6 then (0 : Int32) else (1 : Int32)) →
        fX12_isAgain_L18 k n x1 x2 x3 x4 v7 (x6 + (1 : Int32)) w6))))))
set_option maxHeartbeats 4000000 in
set_option maxRecDepth 100000 in
theorem mX12_isAgain_L18 {k : Int32 → zW → Prop} (X : zCx p s m args meth c cX12_isAgain 7 RX12 (some .boolean)) (hr : zRm R 1 cells slots) (hQ : zRetZ p l e R s m args below meth c cells slots Q D dA true ad0 al0 ad al cX12_isAgain k)  : ∀ (n : Nat) (x1 : Int32) (x2 : Int32) (x3 : Int32) (x4 : Int32) (x5 : Int32) (x6 : Int32) (w : zW) (H : Heap) (locs : List Loc) (ls : Array Slot), fX12_isAgain_L18 k n x1 x2 x3 x4 x5 x6 w → zSt D dA true ad0 al0 ad al w s H locs → lv_has ls 7 [(0, .ref (ad 200)), (1, .int x1), (2, .int x2), (3, .int x3), (4, .int x4), (5, .int x5), (6, .int x6)] → W p l e R s m args below meth c H locs cells slots Q (F0 m 18 ls []) := by
  intro n
  induction n with
  | zero => exact fun _ _ _ _ _ _ _ _ _ _ hf => hf.elim
  | succ n ih =>
    intro x1 x2 x3 x4 x5 x6 w H locs ls hf hR hl
    have hx := X.1
    have hb := X.2.1
    have hml := X.2.2.1
    have hown := X.2.2.2.1
    have hts := X.2.2.2.2.1
    rw [fX12_isAgain_L18] at hf
    refine lv_iload hx hb dX12_isAgain_18 (lv_at hl 5 rfl) ?_
    refine lv_if_eq (tgt := 66) hx hb dX12_isAgain_20 (by decide) (fun c3 => ?_) (fun c3 => ?_)
    · replace hf := hf.1 c3
      refine lv_iload hx hb dX12_isAgain_66 (lv_at hl 5 rfl) ?_
      obtain ⟨h01, hf⟩ := hf
      exact hQ _ _ _ _ _ _ h01 hf hR dX12_isAgain_68
    · replace hf := hf.2 c3
      refine lv_iload hx hb dX12_isAgain_23 (lv_at hl 6 rfl) ?_
      refine lv_iload_n hx hb dX12_isAgain_25 rfl (lv_at hl 3 rfl) ?_
      refine lv_icmp_ge (tgt := 66) hx hb dX12_isAgain_26 (by decide) (fun c4 => ?_) (fun c4 => ?_)
      · replace hf := hf.1 c4
        refine lv_iload hx hb dX12_isAgain_66 (lv_at hl 5 rfl) ?_
        obtain ⟨h01, hf⟩ := hf
        exact hQ _ _ _ _ _ _ h01 hf hR dX12_isAgain_68
      · replace hf := hf.2 c4
        refine lv_aload_n hx hb dX12_isAgain_29 rfl (lv_at hl 0 rfl) ?_
        refine lv_iload_n hx hb dX12_isAgain_30 rfl (lv_at hl 1 rfl) ?_
        refine lv_iload_n hx hb dX12_isAgain_31 rfl (lv_at hl 2 rfl) ?_
        refine lv_iload hx hb dX12_isAgain_32 (lv_at hl 6 rfl) ?_
        refine lv_iadd hx hb dX12_isAgain_34 ?_
        refine z_callVI (fr1 := 0) (b := 200) (As := [.int x1, .int (x2 + x6)]) (rest := []) X (hr.le (by decide)) hR zy_X12_itemOf zq_207 (zlit hR zf_200) (by rw [zs_200]; rfl) rfl (mX12_itemOf  hf) rfl hl (Nat.le_of_ble_eq_true rfl) dX12_isAgain_35 rfl (fun r5 w5 H locs hf hR => ?_)
        refine lv_aload_n hx hb dX12_isAgain_38 rfl (lv_at hl 0 rfl) ?_
        refine lv_iload_n hx hb dX12_isAgain_39 rfl (lv_at hl 1 rfl) ?_
        refine lv_iload_n hx hb dX12_isAgain_40 rfl (lv_at hl 2 rfl) ?_
        refine lv_iload hx hb dX12_isAgain_41 (lv_at hl 6 rfl) ?_
        refine lv_iadd hx hb dX12_isAgain_43 ?_
        refine lv_iload hx hb dX12_isAgain_44 (lv_at hl 4 rfl) ?_
        refine lv_isub hx hb dX12_isAgain_46 ?_
        refine z_callVI (fr1 := 0) (b := 200) (As := [.int x1, .int ((x2 + x6) - x4)]) (rest := [.int r5]) X (hr.le (by decide)) hR zy_X12_itemOf zq_207 (zlit hR zf_200) (by rw [zs_200]; rfl) rfl (mX12_itemOf  hf) rfl hl (Nat.le_of_ble_eq_true rfl) dX12_isAgain_47 rfl (fun r6 w6 H locs hf hR => ?_)
        have kJ7 : ∀ v7 : Int32, v7 = (if ¬ r5 = r6 then (0 : Int32) else (1 : Int32)) → W p l e R s m args below meth c H locs cells slots Q (F0 m 58 ls (.int v7 :: [])) := by
          intro v7 hv7
          replace hf := hf v7 hv7
          refine lv_istore (lv' := [(5, .int v7), (0, .ref (ad 200)), (1, .int x1), (2, .int x2), (3, .int x3), (4, .int x4), (6, .int x6)]) hx hb dX12_isAgain_58 hl (by decide) rfl (fun ls hl => ?_)
          refine lv_iinc (v := x6 + (1 : Int32)) (lv' := [(6, .int (x6 + (1 : Int32))), (5, .int v7), (0, .ref (ad 200)), (1, .int x1), (2, .int x2), (3, .int x3), (4, .int x4)]) hx hb dX12_isAgain_60 hl (k := 6) rfl rfl (by decide) rfl (fun ls hl => ?_)
          refine lv_goto (tgt := 18) hx hb dX12_isAgain_63 (by decide) ?_
          exact ih x1 x2 x3 x4 v7 (x6 + (1 : Int32)) w6 _ _ _ hf hR (lv_sub hl [2, 3, 4, 5, 6, 1, 0] rfl)
        refine lv_icmp_ne (tgt := 57) hx hb dX12_isAgain_50 (by decide) (fun c7 => ?_) (fun c7 => ?_)
        · refine lv_iconst (v := (0 : Int32)) hx hb dX12_isAgain_57 (by decide) ?_
          exact kJ7 _ (if_pos c7).symm
        · refine lv_iconst (v := (1 : Int32)) hx hb dX12_isAgain_53 (by decide) ?_
          refine lv_goto (tgt := 58) hx hb dX12_isAgain_54 (by decide) ?_
          exact kJ7 _ (if_neg (fun h9 => h9 c7)).symm
def fX12_isAgain_J12 (k : Int32 → zW → Prop) (x1 : Int32) (x2 : Int32) (x3 : Int32) (x4 : Int32) (t0 : Int32) (w : zW) : Prop :=
  ∃ n9, fX12_isAgain_L18 k n9 x1 x2 x3 x4 t0 x4 w
set_option maxHeartbeats 4000000 in
set_option maxRecDepth 100000 in
theorem mX12_isAgain_J12 {k : Int32 → zW → Prop} (X : zCx p s m args meth c cX12_isAgain 7 RX12 (some .boolean)) (hr : zRm R 1 cells slots) (hQ : zRetZ p l e R s m args below meth c cells slots Q D dA true ad0 al0 ad al cX12_isAgain k)  {x1 : Int32} {x2 : Int32} {x3 : Int32} {x4 : Int32} {t0 : Int32} {w : zW} {H : Heap} {locs : List Loc} {ls : Array Slot} (hf : fX12_isAgain_J12 k x1 x2 x3 x4 t0 w) (hR : zSt D dA true ad0 al0 ad al w s H locs) (hl : lv_has ls 7 [(0, .ref (ad 200)), (1, .int x1), (2, .int x2), (3, .int x3), (4, .int x4)]) : W p l e R s m args below meth c H locs cells slots Q (F0 m 12 ls [.int t0]) := by
  have hx := X.1
  have hb := X.2.1
  have hml := X.2.2.1
  have hown := X.2.2.2.1
  have hts := X.2.2.2.2.1
  unfold fX12_isAgain_J12 at hf
  refine lv_istore (lv' := [(5, .int t0), (0, .ref (ad 200)), (1, .int x1), (2, .int x2), (3, .int x3), (4, .int x4)]) hx hb dX12_isAgain_12 hl (by decide) rfl (fun ls hl => ?_)
  refine lv_iload hx hb dX12_isAgain_14 (lv_at hl 5 rfl) ?_
  refine lv_istore (lv' := [(6, .int x4), (5, .int t0), (0, .ref (ad 200)), (1, .int x1), (2, .int x2), (3, .int x3), (4, .int x4)]) hx hb dX12_isAgain_16 hl (by decide) rfl (fun ls hl => ?_)
  obtain ⟨n9, hf⟩ := hf
  exact mX12_isAgain_L18 X hr hQ  n9 x1 x2 x3 x4 t0 x4 w _ _ _ hf hR (lv_sub hl [2, 3, 4, 5, 6, 1, 0] rfl)
def fX12_isAgain (x1 : Int32) (x2 : Int32) (x3 : Int32) (x4 : Int32) (w : zW) (k : Int32 → zW → Prop) : Prop :=
  ¬ x4 = 0 ∧
  ∀ v2 : Int32, v2 = (if ¬ (x3 % x4) = 0 then (0 : Int32) else (1 : Int32)) →
  fX12_isAgain_J12 k x1 x2 x3 x4 v2 w
set_option maxHeartbeats 4000000 in
set_option maxRecDepth 100000 in
theorem mX12_isAgain {l : Launch} {D : va_G} {dA : Nat → ClassId} {ad : Nat → Nat} {al : Nat → Prop} {w : zW} {k : Int32 → zW → Prop} {x1 : Int32} {x2 : Int32} {x3 : Int32} {x4 : Int32}   (hf : fX12_isAgain x1 x2 x3 x4 w k) : zmetI l yX12_isAgain cX12_isAgain 7 (some .boolean) 1 [.ref (ad 200), .int x1, .int x2, .int x3, .int x4] D dA true ad al w k := by
  refine zmetZ_of (by decide) (Nat.le_of_ble_eq_true rfl) ?_
  intro p e R s m below meth c Q H ls args locs cells slots X hr hQ hR hl
  have hx := X.1
  have hb := X.2.1
  have hml := X.2.2.1
  have hown := X.2.2.2.1
  have hts := X.2.2.2.2.1
  unfold fX12_isAgain at hf
  have hl : lv_has ls 7 [(0, .ref (ad 200)), (1, .int x1), (2, .int x2), (3, .int x3), (4, .int x4)] := hl
  refine lv_iload_n hx hb dX12_isAgain_0 rfl (lv_at hl 3 rfl) ?_
  refine lv_iload hx hb dX12_isAgain_1 (lv_at hl 4 rfl) ?_
  obtain ⟨hd1, hf⟩ := hf
  refine z_irem X dX12_isAgain_3 hd1 ?_
  have kJ2 : ∀ v2 : Int32, v2 = (if ¬ (x3 % x4) = 0 then (0 : Int32) else (1 : Int32)) → W p l e R s m args below meth c H locs cells slots Q (F0 m 12 ls (.int v2 :: [])) := by
    intro v2 hv2
    replace hf := hf v2 hv2
    exact mX12_isAgain_J12 X hr hQ  hf hR (lv_sub hl [0, 1, 2, 3, 4] rfl)
  refine lv_if_ne (tgt := 11) hx hb dX12_isAgain_4 (by decide) (fun c2 => ?_) (fun c2 => ?_)
  · refine lv_iconst (v := (0 : Int32)) hx hb dX12_isAgain_11 (by decide) ?_
    exact kJ2 _ (if_pos c2).symm
  · refine lv_iconst (v := (1 : Int32)) hx hb dX12_isAgain_7 (by decide) ?_
    refine lv_goto (tgt := 12) hx hb dX12_isAgain_8 (by decide) ?_
    exact kJ2 _ (if_neg (fun h9 => h9 c2)).symm
/-! X12_beatOf -/
def fX12_beatOf_L2 (k : Int32 → zW → Prop) : Nat → Int32 → Int32 → zW → Prop
  | 0 => fun _ _ _ => False
  | n + 1 => fun x1 x2 w =>
    fX12_longOf x1 w (fun r1 w1 =>
    fX12_isAgain x1 (0 : Int32) r1 x2 w1 (fun r2 w2 =>
    ((¬ r2 = 0 →
      k x2 w2) ∧
     (r2 = 0 →
      fX12_beatOf_L2 k n x1 (x2 + (1 : Int32)) w2))))
set_option maxHeartbeats 4000000 in
set_option maxRecDepth 100000 in
theorem mX12_beatOf_L2 {k : Int32 → zW → Prop} (X : zCx p s m args meth c cX12_beatOf 3 RX12 (some .int)) (hr : zRm R 2 cells slots) (hQ : zRetI p l e R s m args below meth c cells slots Q D dA true ad0 al0 ad al cX12_beatOf k)  : ∀ (n : Nat) (x1 : Int32) (x2 : Int32) (w : zW) (H : Heap) (locs : List Loc) (ls : Array Slot), fX12_beatOf_L2 k n x1 x2 w → zSt D dA true ad0 al0 ad al w s H locs → lv_has ls 3 [(0, .ref (ad 200)), (1, .int x1), (2, .int x2)] → W p l e R s m args below meth c H locs cells slots Q (F0 m 2 ls []) := by
  intro n
  induction n with
  | zero => exact fun _ _ _ _ _ _ hf => hf.elim
  | succ n ih =>
    intro x1 x2 w H locs ls hf hR hl
    have hx := X.1
    have hb := X.2.1
    have hml := X.2.2.1
    have hown := X.2.2.2.1
    have hts := X.2.2.2.2.1
    rw [fX12_beatOf_L2] at hf
    refine lv_aload_n hx hb dX12_beatOf_2 rfl (lv_at hl 0 rfl) ?_
    refine lv_iload_n hx hb dX12_beatOf_3 rfl (lv_at hl 1 rfl) ?_
    refine lv_iconst (v := (0 : Int32)) hx hb dX12_beatOf_4 (by decide) ?_
    refine lv_aload_n hx hb dX12_beatOf_5 rfl (lv_at hl 0 rfl) ?_
    refine lv_iload_n hx hb dX12_beatOf_6 rfl (lv_at hl 1 rfl) ?_
    refine z_callVI (fr1 := 0) (b := 200) (As := [.int x1]) (rest := [.int (0 : Int32), .int x1, .ref (ad 200)]) X (hr.le (by decide)) hR zy_X12_longOf zq_203 (zlit hR zf_200) (by rw [zs_200]; rfl) rfl (mX12_longOf  hf) rfl hl (Nat.le_of_ble_eq_true rfl) dX12_beatOf_7 rfl (fun r1 w1 H locs hf hR => ?_)
    refine lv_iload_n hx hb dX12_beatOf_10 rfl (lv_at hl 2 rfl) ?_
    refine z_callVI (fr1 := 1) (b := 200) (As := [.int x1, .int (0 : Int32), .int r1, .int x2]) (rest := []) X (hr.le (by decide)) hR zy_X12_isAgain zq_841 (zlit hR zf_200) (by rw [zs_200]; rfl) rfl (mX12_isAgain  hf) rfl hl (Nat.le_of_ble_eq_true rfl) dX12_beatOf_11 rfl (fun r2 w2 H locs hf hR => ?_)
    refine lv_if_ne (tgt := 23) hx hb dX12_beatOf_14 (by decide) (fun c3 => ?_) (fun c3 => ?_)
    · replace hf := hf.1 c3
      refine lv_iload_n hx hb dX12_beatOf_23 rfl (lv_at hl 2 rfl) ?_
      exact hQ _ _ _ _ _ _ hf hR dX12_beatOf_24
    · replace hf := hf.2 c3
      refine lv_iinc (v := x2 + (1 : Int32)) (lv' := [(2, .int (x2 + (1 : Int32))), (0, .ref (ad 200)), (1, .int x1)]) hx hb dX12_beatOf_17 hl (k := 2) rfl rfl (by decide) rfl (fun ls hl => ?_)
      refine lv_goto (tgt := 2) hx hb dX12_beatOf_20 (by decide) ?_
      exact ih x1 (x2 + (1 : Int32)) w2 _ _ _ hf hR (lv_sub hl [1, 2, 0] rfl)
def fX12_beatOf (x1 : Int32) (w : zW) (k : Int32 → zW → Prop) : Prop :=
  ∃ n9, fX12_beatOf_L2 k n9 x1 (1 : Int32) w
set_option maxHeartbeats 4000000 in
set_option maxRecDepth 100000 in
theorem mX12_beatOf {l : Launch} {D : va_G} {dA : Nat → ClassId} {ad : Nat → Nat} {al : Nat → Prop} {w : zW} {k : Int32 → zW → Prop} {x1 : Int32}   (hf : fX12_beatOf x1 w k) : zmetI l yX12_beatOf cX12_beatOf 3 (some .int) 2 [.ref (ad 200), .int x1] D dA true ad al w k := by
  refine zmetI_of (by decide) (Nat.le_of_ble_eq_true rfl) ?_
  intro p e R s m below meth c Q H ls args locs cells slots X hr hQ hR hl
  have hx := X.1
  have hb := X.2.1
  have hml := X.2.2.1
  have hown := X.2.2.2.1
  have hts := X.2.2.2.2.1
  unfold fX12_beatOf at hf
  have hl : lv_has ls 3 [(0, .ref (ad 200)), (1, .int x1)] := hl
  refine lv_iconst (v := (1 : Int32)) hx hb dX12_beatOf_0 (by decide) ?_
  refine lv_istore_n (lv' := [(2, .int (1 : Int32)), (0, .ref (ad 200)), (1, .int x1)]) hx hb dX12_beatOf_1 rfl hl (by decide) rfl (fun ls hl => ?_)
  obtain ⟨n9, hf⟩ := hf
  exact mX12_beatOf_L2 X hr hQ  n9 x1 (1 : Int32) w _ _ _ hf hR (lv_sub hl [1, 2, 0] rfl)
/-! X12_partAt -/
def fX12_partAt (x0 : Int32) (x1 : Int32) (w : zW) (k : Int32 → zW → Prop) : Prop :=
  ∀ v1 : Int32, v1 = x0 + x1 →
  k (((v1 * (v1 - (1 : Int32))) / (2 : Int32)) + x0) w
set_option maxHeartbeats 4000000 in
set_option maxRecDepth 100000 in
theorem mX12_partAt {l : Launch} {D : va_G} {dA : Nat → ClassId} {ad : Nat → Nat} {al : Nat → Prop} {w : zW} {k : Int32 → zW → Prop} {x0 : Int32} {x1 : Int32}   (hf : fX12_partAt x0 x1 w k) : zmetI l yX12_partAt cX12_partAt 3 (some .int) 0 [.int x0, .int x1] D dA true ad al w k := by
  refine zmetI_of (by decide) (Nat.le_of_ble_eq_true rfl) ?_
  intro p e R s m below meth c Q H ls args locs cells slots X hr hQ hR hl
  have hx := X.1
  have hb := X.2.1
  have hml := X.2.2.1
  have hown := X.2.2.2.1
  have hts := X.2.2.2.2.1
  unfold fX12_partAt at hf
  have hl : lv_has ls 3 [(0, .int x0), (1, .int x1)] := hl
  refine lv_iload_n hx hb dX12_partAt_0 rfl (lv_at hl 0 rfl) ?_
  refine lv_iload_n hx hb dX12_partAt_1 rfl (lv_at hl 1 rfl) ?_
  refine lv_iadd hx hb dX12_partAt_2 ?_
  refine lv_topi (fun v1 hv1 => ?_)
  replace hf := hf v1 hv1
  refine lv_istore_n (lv' := [(2, .int v1), (0, .int x0), (1, .int x1)]) hx hb dX12_partAt_3 rfl hl (by decide) rfl (fun ls hl => ?_)
  refine lv_iload_n hx hb dX12_partAt_4 rfl (lv_at hl 0 rfl) ?_
  refine lv_iload_n hx hb dX12_partAt_5 rfl (lv_at hl 0 rfl) ?_
  refine lv_iconst (v := (1 : Int32)) hx hb dX12_partAt_6 (by decide) ?_
  refine lv_isub hx hb dX12_partAt_7 ?_
  refine lv_imul hx hb dX12_partAt_8 ?_
  refine lv_iconst (v := (2 : Int32)) hx hb dX12_partAt_9 (by decide) ?_
  refine lv_idiv hx hb dX12_partAt_10 (by decide) ?_
  refine lv_iload_n hx hb dX12_partAt_11 rfl (lv_at hl 1 rfl) ?_
  refine lv_iadd hx hb dX12_partAt_12 ?_
  exact hQ _ _ _ _ _ _ hf hR dX12_partAt_13
/-! X12_tokensOf -/
def fX12_tokensOf (x1 : Int32) (x2 : Int32) (x3 : Int32) (w : zW) (k : Int32 → zW → Prop) : Prop :=
  fX12_partAt x1 x2 w (fun r1 w1 =>
  vp_in r1 1891 ∧ 
  k (((gI w1 241 r1.toNatClampNeg) >>> (((6 : Int32) * x3) &&& 31)) &&& (63 : Int32)) w1)
set_option maxHeartbeats 4000000 in
set_option maxRecDepth 100000 in
theorem mX12_tokensOf {l : Launch} {D : va_G} {dA : Nat → ClassId} {ad : Nat → Nat} {al : Nat → Prop} {w : zW} {k : Int32 → zW → Prop} {x1 : Int32} {x2 : Int32} {x3 : Int32}   (hf : fX12_tokensOf x1 x2 x3 w k) : zmetI l yX12_tokensOf cX12_tokensOf 4 (some .int) 1 [.ref (ad 200), .int x1, .int x2, .int x3] D dA true ad al w k := by
  refine zmetI_of (by decide) (Nat.le_of_ble_eq_true rfl) ?_
  intro p e R s m below meth c Q H ls args locs cells slots X hr hQ hR hl
  have hx := X.1
  have hb := X.2.1
  have hml := X.2.2.1
  have hown := X.2.2.2.1
  have hts := X.2.2.2.2.1
  unfold fX12_tokensOf at hf
  have hl : lv_has ls 4 [(0, .ref (ad 200)), (1, .int x1), (2, .int x2), (3, .int x3)] := hl
  refine lv_aload_n hx hb dX12_tokensOf_0 rfl (lv_at hl 0 rfl) ?_
  refine z_getS X hR (zlit hR zf_200) zs_200 (by decide) zfd_X12_149 rfl (r := 241) (by decide +kernel) dX12_tokensOf_1 ?_
  refine lv_iload_n hx hb dX12_tokensOf_4 rfl (lv_at hl 1 rfl) ?_
  refine lv_iload_n hx hb dX12_tokensOf_5 rfl (lv_at hl 2 rfl) ?_
  refine z_callSI (fr1 := 0) (As := [.int x1, .int x2]) (rest := [.ref (ad 241)]) X (hr.le (by decide)) hR zy_X12_partAt zq_849 (mX12_partAt  hf) rfl hl (Nat.le_of_ble_eq_true rfl) dX12_tokensOf_6 rfl (fun r1 w1 H locs hf hR => ?_)
  obtain ⟨hb2, hf⟩ := hf
  refine z_iald X hR (zlit hR zf_241) zs_241 zl_241 hb2 dX12_tokensOf_9 ?_
  refine lv_bipush (v := (6 : Int32)) hx hb dX12_tokensOf_10 (by decide) ?_
  refine lv_iload_n hx hb dX12_tokensOf_12 rfl (lv_at hl 3 rfl) ?_
  refine lv_imul hx hb dX12_tokensOf_13 ?_
  refine lv_ishr hx hb dX12_tokensOf_14 ?_
  refine lv_bipush (v := (63 : Int32)) hx hb dX12_tokensOf_15 (by decide) ?_
  refine lv_iand hx hb dX12_tokensOf_17 ?_
  exact hQ _ _ _ _ _ _ hf hR dX12_tokensOf_18
/-! X12_briefest -/
def fX12_briefest_J130 (k : Int32 → zW → Prop) (g63 : Int32 → Int32 → Int32 → Int32 → Int32 → Int32 → zW → Prop) (x1 : Int32) (x2 : Int32) (x3 : Int32) (x4 : Int32) (x5 : Int32) (x6 : Int32) (x7 : Int32) (t0 : Int32) (w : zW) : Prop :=
  ∀ v7 : Int32, v7 = (if x7 = 0 then x5 else (if x5 ≤ t0 then x5 else t0)) →
  g63 x1 x2 x3 x4 v7 (x6 + (1 : Int32)) w
set_option maxHeartbeats 4000000 in
set_option maxRecDepth 100000 in
theorem mX12_briefest_J130 {k : Int32 → zW → Prop} {g63 : Int32 → Int32 → Int32 → Int32 → Int32 → Int32 → zW → Prop} (X : zCx p s m args meth c cX12_briefest 9 RX12 (some .int)) (hr : zRm R 2 cells slots) (hQ : zRetI p l e R s m args below meth c cells slots Q D dA true ad0 al0 ad al cX12_briefest k) (hg63 : ∀ (x1 : Int32) (x2 : Int32) (x3 : Int32) (x4 : Int32) (x5 : Int32) (x6 : Int32) (w : zW) (H : Heap) (locs : List Loc) (ls : Array Slot), g63 x1 x2 x3 x4 x5 x6 w → zSt D dA true ad0 al0 ad al w s H locs → lv_has ls 9 [(0, .ref (ad 200)), (1, .int x1), (2, .int x2), (3, .int x3), (4, .int x4), (5, .int x5), (6, .int x6)] → W p l e R s m args below meth c H locs cells slots Q (F0 m 63 ls [])) {x1 : Int32} {x2 : Int32} {x3 : Int32} {x4 : Int32} {x5 : Int32} {x6 : Int32} {x7 : Int32} {t0 : Int32} {w : zW} {H : Heap} {locs : List Loc} {ls : Array Slot} (hf : fX12_briefest_J130 k g63 x1 x2 x3 x4 x5 x6 x7 t0 w) (hR : zSt D dA true ad0 al0 ad al w s H locs) (hl : lv_has ls 9 [(0, .ref (ad 200)), (1, .int x1), (2, .int x2), (3, .int x3), (4, .int x4), (5, .int x5), (6, .int x6), (7, .int x7)]) : W p l e R s m args below meth c H locs cells slots Q (F0 m 130 ls [.int t0]) := by
  have hx := X.1
  have hb := X.2.1
  have hml := X.2.2.1
  have hown := X.2.2.2.1
  have hts := X.2.2.2.2.1
  unfold fX12_briefest_J130 at hf
  refine lv_istore (lv' := [(8, .int t0), (0, .ref (ad 200)), (1, .int x1), (2, .int x2), (3, .int x3), (4, .int x4), (5, .int x5), (6, .int x6), (7, .int x7)]) hx hb dX12_briefest_130 hl (by decide) rfl (fun ls hl => ?_)
  refine lv_iload hx hb dX12_briefest_132 (lv_at hl 8 rfl) ?_
  have kJ7 : ∀ v7 : Int32, v7 = (if x7 = 0 then x5 else (if x5 ≤ t0 then x5 else t0)) → W p l e R s m args below meth c H locs cells slots Q (F0 m 151 ls (.int v7 :: [])) := by
    intro v7 hv7
    replace hf := hf v7 hv7
    refine lv_istore (lv' := [(5, .int v7), (8, .int t0), (0, .ref (ad 200)), (1, .int x1), (2, .int x2), (3, .int x3), (4, .int x4), (6, .int x6), (7, .int x7)]) hx hb dX12_briefest_151 hl (by decide) rfl (fun ls hl => ?_)
    refine lv_iinc (v := x6 + (1 : Int32)) (lv' := [(6, .int (x6 + (1 : Int32))), (5, .int v7), (8, .int t0), (0, .ref (ad 200)), (1, .int x1), (2, .int x2), (3, .int x3), (4, .int x4), (7, .int x7)]) hx hb dX12_briefest_153 hl (k := 7) rfl rfl (by decide) rfl (fun ls hl => ?_)
    refine lv_goto (tgt := 63) hx hb dX12_briefest_156 (by decide) ?_
    exact hg63 x1 x2 x3 x4 v7 (x6 + (1 : Int32)) w _ _ _ hf hR (lv_sub hl [3, 4, 5, 6, 7, 1, 0] rfl)
  refine lv_if_eq (tgt := 149) hx hb dX12_briefest_134 (by decide) (fun c7 => ?_) (fun c7 => ?_)
  · refine lv_iload hx hb dX12_briefest_149 (lv_at hl 6 rfl) ?_
    exact kJ7 _ (if_pos c7).symm
  · refine lv_iload hx hb dX12_briefest_137 (lv_at hl 0 rfl) ?_
    refine lv_iload hx hb dX12_briefest_139 (lv_at hl 6 rfl) ?_
    refine lv_icmp_ge (tgt := 149) hx hb dX12_briefest_141 (by decide) (fun c8 => ?_) (fun c8 => ?_)
    · refine lv_iload hx hb dX12_briefest_149 (lv_at hl 6 rfl) ?_
      exact kJ7 _ ((if_neg c7).trans (if_pos c8)).symm
    · refine lv_iload hx hb dX12_briefest_144 (lv_at hl 0 rfl) ?_
      refine lv_goto (tgt := 151) hx hb dX12_briefest_146 (by decide) ?_
      exact kJ7 _ ((if_neg c7).trans (if_neg c8)).symm
def fX12_briefest_J95 (k : Int32 → zW → Prop) (g63 : Int32 → Int32 → Int32 → Int32 → Int32 → Int32 → zW → Prop) (x1 : Int32) (x2 : Int32) (x3 : Int32) (x4 : Int32) (x5 : Int32) (x6 : Int32) (t0 : Int32) (w : zW) : Prop :=
  ((¬ x6 = (1 : Int32) →
    ((x4 ≤ 0 →
      fX12_briefest_J130 k g63 x1 x2 x3 x4 x5 x6 t0 x5 w) ∧
     (¬ x4 ≤ 0 →
      fX12_tokensOf x2 x6 (x4 - (1 : Int32)) w (fun r9 w9 =>
      fX12_briefest_J130 k g63 x1 x2 x3 x4 x5 x6 t0 (r9 + (3 : Int32)) w9)))) ∧
   (x6 = (1 : Int32) →
    fX12_briefest_J130 k g63 x1 x2 x3 x4 x5 x6 t0 (2 : Int32) w))
set_option maxHeartbeats 4000000 in
set_option maxRecDepth 100000 in
theorem mX12_briefest_J95 {k : Int32 → zW → Prop} {g63 : Int32 → Int32 → Int32 → Int32 → Int32 → Int32 → zW → Prop} (X : zCx p s m args meth c cX12_briefest 9 RX12 (some .int)) (hr : zRm R 2 cells slots) (hQ : zRetI p l e R s m args below meth c cells slots Q D dA true ad0 al0 ad al cX12_briefest k) (hg63 : ∀ (x1 : Int32) (x2 : Int32) (x3 : Int32) (x4 : Int32) (x5 : Int32) (x6 : Int32) (w : zW) (H : Heap) (locs : List Loc) (ls : Array Slot), g63 x1 x2 x3 x4 x5 x6 w → zSt D dA true ad0 al0 ad al w s H locs → lv_has ls 9 [(0, .ref (ad 200)), (1, .int x1), (2, .int x2), (3, .int x3), (4, .int x4), (5, .int x5), (6, .int x6)] → W p l e R s m args below meth c H locs cells slots Q (F0 m 63 ls [])) {x1 : Int32} {x2 : Int32} {x3 : Int32} {x4 : Int32} {x5 : Int32} {x6 : Int32} {t0 : Int32} {w : zW} {H : Heap} {locs : List Loc} {ls : Array Slot} (hf : fX12_briefest_J95 k g63 x1 x2 x3 x4 x5 x6 t0 w) (hR : zSt D dA true ad0 al0 ad al w s H locs) (hl : lv_has ls 9 [(0, .ref (ad 200)), (1, .int x1), (2, .int x2), (3, .int x3), (4, .int x4), (5, .int x5), (6, .int x6)]) : W p l e R s m args below meth c H locs cells slots Q (F0 m 95 ls [.int t0]) := by
  have hx := X.1
  have hb := X.2.1
  have hml := X.2.2.1
  have hown := X.2.2.2.1
  have hts := X.2.2.2.2.1
  unfold fX12_briefest_J95 at hf
  refine lv_istore (lv' := [(7, .int t0), (0, .ref (ad 200)), (1, .int x1), (2, .int x2), (3, .int x3), (4, .int x4), (5, .int x5), (6, .int x6)]) hx hb dX12_briefest_95 hl (by decide) rfl (fun ls hl => ?_)
  refine lv_iload hx hb dX12_briefest_97 (lv_at hl 7 rfl) ?_
  refine lv_iconst (v := (1 : Int32)) hx hb dX12_briefest_99 (by decide) ?_
  refine lv_icmp_ne (tgt := 107) hx hb dX12_briefest_100 (by decide) (fun c5 => ?_) (fun c5 => ?_)
  · replace hf := hf.1 c5
    refine lv_iload hx hb dX12_briefest_107 (lv_at hl 5 rfl) ?_
    refine lv_if_le (tgt := 128) hx hb dX12_briefest_109 (by decide) (fun c6 => ?_) (fun c6 => ?_)
    · replace hf := hf.1 c6
      refine lv_iload hx hb dX12_briefest_128 (lv_at hl 6 rfl) ?_
      exact mX12_briefest_J130 X hr hQ hg63 hf hR (lv_sub hl [1, 2, 3, 4, 5, 6, 7, 0] rfl)
    · replace hf := hf.2 c6
      refine lv_aload_n hx hb dX12_briefest_112 rfl (lv_at hl 1 rfl) ?_
      refine lv_iload_n hx hb dX12_briefest_113 rfl (lv_at hl 3 rfl) ?_
      refine lv_iload hx hb dX12_briefest_114 (lv_at hl 7 rfl) ?_
      refine lv_iload hx hb dX12_briefest_116 (lv_at hl 5 rfl) ?_
      refine lv_iconst (v := (1 : Int32)) hx hb dX12_briefest_118 (by decide) ?_
      refine lv_isub hx hb dX12_briefest_119 ?_
      refine z_callVI (fr1 := 1) (b := 200) (As := [.int x2, .int x6, .int (x4 - (1 : Int32))]) (rest := []) X (hr.le (by decide)) hR zy_X12_tokensOf zq_856 (zlit hR zf_200) (by rw [zs_200]; rfl) rfl (mX12_tokensOf  hf) rfl hl (Nat.le_of_ble_eq_true rfl) dX12_briefest_120 rfl (fun r9 w9 H locs hf hR => ?_)
      refine lv_iconst (v := (3 : Int32)) hx hb dX12_briefest_123 (by decide) ?_
      refine lv_iadd hx hb dX12_briefest_124 ?_
      refine lv_goto (tgt := 130) hx hb dX12_briefest_125 (by decide) ?_
      exact mX12_briefest_J130 X hr hQ hg63 hf hR (lv_sub hl [1, 2, 3, 4, 5, 6, 7, 0] rfl)
  · replace hf := hf.2 c5
    refine lv_iconst (v := (2 : Int32)) hx hb dX12_briefest_103 (by decide) ?_
    refine lv_goto (tgt := 130) hx hb dX12_briefest_104 (by decide) ?_
    exact mX12_briefest_J130 X hr hQ hg63 hf hR (lv_sub hl [1, 2, 3, 4, 5, 6, 7, 0] rfl)
def fX12_briefest_L63 (k : Int32 → zW → Prop) : Nat → Int32 → Int32 → Int32 → Int32 → Int32 → Int32 → zW → Prop
  | 0 => fun _ _ _ _ _ _ _ => False
  | n + 1 => fun x1 x2 x3 x4 x5 x6 w =>
    ((x3 ≤ x6 →
      k x5 w) ∧
     (¬ x3 ≤ x6 →
      ¬ x6 = 0 ∧
      (((20 : Int32) < (x3 / x6) →
        fX12_briefest_J95 k (fX12_briefest_L63 k n) x1 x2 x3 x4 x5 x6 (0 : Int32) w) ∧
       (¬ (20 : Int32) < (x3 / x6) →
        fX12_isAgain x1 x2 x3 x6 w (fun r10 w10 =>
        ∀ v11 : Int32, v11 = (if r10 = 0 then (0 : Int32) else (1 : Int32)) →
        fX12_briefest_J95 k (fX12_briefest_L63 k n) x1 x2 x3 x4 x5 x6 v11 w10)))))
set_option maxHeartbeats 4000000 in
set_option maxRecDepth 100000 in
theorem mX12_briefest_L63 {k : Int32 → zW → Prop} (X : zCx p s m args meth c cX12_briefest 9 RX12 (some .int)) (hr : zRm R 2 cells slots) (hQ : zRetI p l e R s m args below meth c cells slots Q D dA true ad0 al0 ad al cX12_briefest k)  : ∀ (n : Nat) (x1 : Int32) (x2 : Int32) (x3 : Int32) (x4 : Int32) (x5 : Int32) (x6 : Int32) (w : zW) (H : Heap) (locs : List Loc) (ls : Array Slot), fX12_briefest_L63 k n x1 x2 x3 x4 x5 x6 w → zSt D dA true ad0 al0 ad al w s H locs → lv_has ls 9 [(0, .ref (ad 200)), (1, .int x1), (2, .int x2), (3, .int x3), (4, .int x4), (5, .int x5), (6, .int x6)] → W p l e R s m args below meth c H locs cells slots Q (F0 m 63 ls []) := by
  intro n
  induction n with
  | zero => exact fun _ _ _ _ _ _ _ _ _ _ hf => hf.elim
  | succ n ih =>
    intro x1 x2 x3 x4 x5 x6 w H locs ls hf hR hl
    have hx := X.1
    have hb := X.2.1
    have hml := X.2.2.1
    have hown := X.2.2.2.1
    have hts := X.2.2.2.2.1
    rw [fX12_briefest_L63] at hf
    refine lv_iload hx hb dX12_briefest_63 (lv_at hl 6 rfl) ?_
    refine lv_iload_n hx hb dX12_briefest_65 rfl (lv_at hl 3 rfl) ?_
    refine lv_icmp_ge (tgt := 159) hx hb dX12_briefest_66 (by decide) (fun c2 => ?_) (fun c2 => ?_)
    · replace hf := hf.1 c2
      refine lv_iload hx hb dX12_briefest_159 (lv_at hl 5 rfl) ?_
      exact hQ _ _ _ _ _ _ hf hR dX12_briefest_161
    · replace hf := hf.2 c2
      refine lv_iload_n hx hb dX12_briefest_69 rfl (lv_at hl 3 rfl) ?_
      refine lv_iload hx hb dX12_briefest_70 (lv_at hl 6 rfl) ?_
      obtain ⟨hd3, hf⟩ := hf
      refine lv_idiv hx hb dX12_briefest_72 hd3 ?_
      refine lv_bipush (v := (20 : Int32)) hx hb dX12_briefest_73 (by decide) ?_
      refine lv_icmp_gt (tgt := 94) hx hb dX12_briefest_75 (by decide) (fun c4 => ?_) (fun c4 => ?_)
      · replace hf := hf.1 c4
        refine lv_iconst (v := (0 : Int32)) hx hb dX12_briefest_94 (by decide) ?_
        exact mX12_briefest_J95 X hr hQ ih hf hR (lv_sub hl [0, 1, 2, 3, 4, 5, 6] rfl)
      · replace hf := hf.2 c4
        refine lv_aload_n hx hb dX12_briefest_78 rfl (lv_at hl 0 rfl) ?_
        refine lv_iload_n hx hb dX12_briefest_79 rfl (lv_at hl 1 rfl) ?_
        refine lv_iload_n hx hb dX12_briefest_80 rfl (lv_at hl 2 rfl) ?_
        refine lv_iload_n hx hb dX12_briefest_81 rfl (lv_at hl 3 rfl) ?_
        refine lv_iload hx hb dX12_briefest_82 (lv_at hl 6 rfl) ?_
        refine z_callVI (fr1 := 1) (b := 200) (As := [.int x1, .int x2, .int x3, .int x6]) (rest := []) X (hr.le (by decide)) hR zy_X12_isAgain zq_841 (zlit hR zf_200) (by rw [zs_200]; rfl) rfl (mX12_isAgain  hf) rfl hl (Nat.le_of_ble_eq_true rfl) dX12_briefest_84 rfl (fun r10 w10 H locs hf hR => ?_)
        have kJ11 : ∀ v11 : Int32, v11 = (if r10 = 0 then (0 : Int32) else (1 : Int32)) → W p l e R s m args below meth c H locs cells slots Q (F0 m 95 ls (.int v11 :: [])) := by
          intro v11 hv11
          replace hf := hf v11 hv11
          exact mX12_briefest_J95 X hr hQ ih hf hR (lv_sub hl [0, 1, 2, 3, 4, 5, 6] rfl)
        refine lv_if_eq (tgt := 94) hx hb dX12_briefest_87 (by decide) (fun c11 => ?_) (fun c11 => ?_)
        · refine lv_iconst (v := (0 : Int32)) hx hb dX12_briefest_94 (by decide) ?_
          exact kJ11 _ (if_pos c11).symm
        · refine lv_iconst (v := (1 : Int32)) hx hb dX12_briefest_90 (by decide) ?_
          refine lv_goto (tgt := 95) hx hb dX12_briefest_91 (by decide) ?_
          exact kJ11 _ (if_neg c11).symm
def fX12_briefest_L6 (k : Int32 → zW → Prop) : Nat → Int32 → Int32 → Int32 → Int32 → Int32 → Int32 → zW → Prop
  | 0 => fun _ _ _ _ _ _ _ => False
  | n + 1 => fun x1 x2 x3 x4 x5 x6 w =>
    ((x3 ≤ x6 →
      ∃ n9, fX12_briefest_L63 k n9 x1 x2 x3 x4 x5 (1 : Int32) w) ∧
     (¬ x3 ≤ x6 →
      fX12_tokensOf x2 x6 x4 w (fun r12 w12 =>
      fX12_tokensOf (x2 + x6) (x3 - x6) x4 w12 (fun r13 w13 =>
      ∀ v14 : Int32, v14 = r12 + r13 →
      ∀ v15 : Int32, v15 = (if x5 ≤ v14 then x5 else v14) →
      fX12_briefest_L6 k n x1 x2 x3 x4 v15 (x6 + (1 : Int32)) w13))))
set_option maxHeartbeats 4000000 in
set_option maxRecDepth 100000 in
theorem mX12_briefest_L6 {k : Int32 → zW → Prop} (X : zCx p s m args meth c cX12_briefest 9 RX12 (some .int)) (hr : zRm R 2 cells slots) (hQ : zRetI p l e R s m args below meth c cells slots Q D dA true ad0 al0 ad al cX12_briefest k)  : ∀ (n : Nat) (x1 : Int32) (x2 : Int32) (x3 : Int32) (x4 : Int32) (x5 : Int32) (x6 : Int32) (w : zW) (H : Heap) (locs : List Loc) (ls : Array Slot), fX12_briefest_L6 k n x1 x2 x3 x4 x5 x6 w → zSt D dA true ad0 al0 ad al w s H locs → lv_has ls 9 [(0, .ref (ad 200)), (1, .int x1), (2, .int x2), (3, .int x3), (4, .int x4), (5, .int x5), (6, .int x6)] → W p l e R s m args below meth c H locs cells slots Q (F0 m 6 ls []) := by
  intro n
  induction n with
  | zero => exact fun _ _ _ _ _ _ _ _ _ _ hf => hf.elim
  | succ n ih =>
    intro x1 x2 x3 x4 x5 x6 w H locs ls hf hR hl
    have hx := X.1
    have hb := X.2.1
    have hml := X.2.2.1
    have hown := X.2.2.2.1
    have hts := X.2.2.2.2.1
    rw [fX12_briefest_L6] at hf
    refine lv_iload hx hb dX12_briefest_6 (lv_at hl 6 rfl) ?_
    refine lv_iload_n hx hb dX12_briefest_8 rfl (lv_at hl 3 rfl) ?_
    refine lv_icmp_ge (tgt := 60) hx hb dX12_briefest_9 (by decide) (fun c1 => ?_) (fun c1 => ?_)
    · replace hf := hf.1 c1
      refine lv_iconst (v := (1 : Int32)) hx hb dX12_briefest_60 (by decide) ?_
      refine lv_istore (lv' := [(6, .int (1 : Int32)), (0, .ref (ad 200)), (1, .int x1), (2, .int x2), (3, .int x3), (4, .int x4), (5, .int x5)]) hx hb dX12_briefest_61 hl (by decide) rfl (fun ls hl => ?_)
      obtain ⟨n9, hf⟩ := hf
      exact mX12_briefest_L63 X hr hQ  n9 x1 x2 x3 x4 x5 (1 : Int32) w _ _ _ hf hR (lv_sub hl [1, 2, 3, 4, 5, 6, 0] rfl)
    · replace hf := hf.2 c1
      refine lv_aload_n hx hb dX12_briefest_12 rfl (lv_at hl 0 rfl) ?_
      refine lv_iload_n hx hb dX12_briefest_13 rfl (lv_at hl 2 rfl) ?_
      refine lv_iload hx hb dX12_briefest_14 (lv_at hl 6 rfl) ?_
      refine lv_iload hx hb dX12_briefest_16 (lv_at hl 4 rfl) ?_
      refine z_callVI (fr1 := 1) (b := 200) (As := [.int x2, .int x6, .int x4]) (rest := []) X (hr.le (by decide)) hR zy_X12_tokensOf zq_856 (zlit hR zf_200) (by rw [zs_200]; rfl) rfl (mX12_tokensOf  hf) rfl hl (Nat.le_of_ble_eq_true rfl) dX12_briefest_18 rfl (fun r12 w12 H locs hf hR => ?_)
      refine lv_aload_n hx hb dX12_briefest_21 rfl (lv_at hl 0 rfl) ?_
      refine lv_iload_n hx hb dX12_briefest_22 rfl (lv_at hl 2 rfl) ?_
      refine lv_iload hx hb dX12_briefest_23 (lv_at hl 6 rfl) ?_
      refine lv_iadd hx hb dX12_briefest_25 ?_
      refine lv_iload_n hx hb dX12_briefest_26 rfl (lv_at hl 3 rfl) ?_
      refine lv_iload hx hb dX12_briefest_27 (lv_at hl 6 rfl) ?_
      refine lv_isub hx hb dX12_briefest_29 ?_
      refine lv_iload hx hb dX12_briefest_30 (lv_at hl 4 rfl) ?_
      refine z_callVI (fr1 := 1) (b := 200) (As := [.int (x2 + x6), .int (x3 - x6), .int x4]) (rest := [.int r12]) X (hr.le (by decide)) hR zy_X12_tokensOf zq_856 (zlit hR zf_200) (by rw [zs_200]; rfl) rfl (mX12_tokensOf  hf) rfl hl (Nat.le_of_ble_eq_true rfl) dX12_briefest_32 rfl (fun r13 w13 H locs hf hR => ?_)
      refine lv_iadd hx hb dX12_briefest_35 ?_
      refine lv_topi (fun v14 hv14 => ?_)
      replace hf := hf v14 hv14
      refine lv_istore (lv' := [(7, .int v14), (0, .ref (ad 200)), (1, .int x1), (2, .int x2), (3, .int x3), (4, .int x4), (5, .int x5), (6, .int x6)]) hx hb dX12_briefest_36 hl (by decide) rfl (fun ls hl => ?_)
      refine lv_iload hx hb dX12_briefest_38 (lv_at hl 0 rfl) ?_
      refine lv_iload hx hb dX12_briefest_40 (lv_at hl 6 rfl) ?_
      have kJ15 : ∀ v15 : Int32, v15 = (if x5 ≤ v14 then x5 else v14) → W p l e R s m args below meth c H locs cells slots Q (F0 m 52 ls (.int v15 :: [])) := by
        intro v15 hv15
        replace hf := hf v15 hv15
        refine lv_istore (lv' := [(5, .int v15), (7, .int v14), (0, .ref (ad 200)), (1, .int x1), (2, .int x2), (3, .int x3), (4, .int x4), (6, .int x6)]) hx hb dX12_briefest_52 hl (by decide) rfl (fun ls hl => ?_)
        refine lv_iinc (v := x6 + (1 : Int32)) (lv' := [(6, .int (x6 + (1 : Int32))), (5, .int v15), (7, .int v14), (0, .ref (ad 200)), (1, .int x1), (2, .int x2), (3, .int x3), (4, .int x4)]) hx hb dX12_briefest_54 hl (k := 7) rfl rfl (by decide) rfl (fun ls hl => ?_)
        refine lv_goto (tgt := 6) hx hb dX12_briefest_57 (by decide) ?_
        exact ih x1 x2 x3 x4 v15 (x6 + (1 : Int32)) w13 _ _ _ hf hR (lv_sub hl [3, 4, 5, 6, 7, 1, 0] rfl)
      refine lv_icmp_ge (tgt := 50) hx hb dX12_briefest_42 (by decide) (fun c15 => ?_) (fun c15 => ?_)
      · refine lv_iload hx hb dX12_briefest_50 (lv_at hl 6 rfl) ?_
        exact kJ15 _ (if_pos c15).symm
      · refine lv_iload hx hb dX12_briefest_45 (lv_at hl 0 rfl) ?_
        refine lv_goto (tgt := 52) hx hb dX12_briefest_47 (by decide) ?_
        exact kJ15 _ (if_neg c15).symm
def fX12_briefest (x1 : Int32) (x2 : Int32) (x3 : Int32) (x4 : Int32) (w : zW) (k : Int32 → zW → Prop) : Prop :=
  ∃ n9, fX12_briefest_L6 k n9 x1 x2 x3 x4 x3 (1 : Int32) w
set_option maxHeartbeats 4000000 in
set_option maxRecDepth 100000 in
theorem mX12_briefest {l : Launch} {D : va_G} {dA : Nat → ClassId} {ad : Nat → Nat} {al : Nat → Prop} {w : zW} {k : Int32 → zW → Prop} {x1 : Int32} {x2 : Int32} {x3 : Int32} {x4 : Int32}   (hf : fX12_briefest x1 x2 x3 x4 w k) : zmetI l yX12_briefest cX12_briefest 9 (some .int) 2 [.ref (ad 200), .int x1, .int x2, .int x3, .int x4] D dA true ad al w k := by
  refine zmetI_of (by decide) (Nat.le_of_ble_eq_true rfl) ?_
  intro p e R s m below meth c Q H ls args locs cells slots X hr hQ hR hl
  have hx := X.1
  have hb := X.2.1
  have hml := X.2.2.1
  have hown := X.2.2.2.1
  have hts := X.2.2.2.2.1
  unfold fX12_briefest at hf
  have hl : lv_has ls 9 [(0, .ref (ad 200)), (1, .int x1), (2, .int x2), (3, .int x3), (4, .int x4)] := hl
  refine lv_iload_n hx hb dX12_briefest_0 rfl (lv_at hl 3 rfl) ?_
  refine lv_istore (lv' := [(5, .int x3), (0, .ref (ad 200)), (1, .int x1), (2, .int x2), (3, .int x3), (4, .int x4)]) hx hb dX12_briefest_1 hl (by decide) rfl (fun ls hl => ?_)
  refine lv_iconst (v := (1 : Int32)) hx hb dX12_briefest_3 (by decide) ?_
  refine lv_istore (lv' := [(6, .int (1 : Int32)), (5, .int x3), (0, .ref (ad 200)), (1, .int x1), (2, .int x2), (3, .int x3), (4, .int x4)]) hx hb dX12_briefest_4 hl (by decide) rfl (fun ls hl => ?_)
  obtain ⟨n9, hf⟩ := hf
  exact mX12_briefest_L6 X hr hQ  n9 x1 x2 x3 x4 x3 (1 : Int32) w _ _ _ hf hR (lv_sub hl [2, 3, 4, 5, 6, 1, 0] rfl)
/-! X12_briefOf -/
def fX12_briefOf_L38 (k : Int32 → zW → Prop) (g2 : Int32 → Int32 → zW → Prop) (g13 : Int32 → Int32 → Int32 → zW → Prop) : Nat → Int32 → Int32 → Int32 → Int32 → zW → Prop
  | 0 => fun _ _ _ _ _ => False
  | n + 1 => fun x1 x2 x3 x4 w =>
    (((4 : Int32) ≤ x4 →
      g13 x1 x2 (x3 + (1 : Int32)) w) ∧
     (¬ (4 : Int32) ≤ x4 →
      fX12_partAt x3 x2 w (fun r11 w11 =>
      vp_in r11 1891 ∧ 
      fX12_briefest x1 x3 x2 x4 w11 (fun r13 w13 =>
      ∀ w14 : zW, w14 = sI w13 241 r11.toNatClampNeg ((gI w11 241 r11.toNatClampNeg) ||| (r13 <<< (((6 : Int32) * x4) &&& 31))) →
      fX12_briefOf_L38 k g2 g13 n x1 x2 x3 (x4 + (1 : Int32)) w14))))
set_option maxHeartbeats 4000000 in
set_option maxRecDepth 100000 in
theorem mX12_briefOf_L38 {k : Int32 → zW → Prop} {g2 : Int32 → Int32 → zW → Prop} {g13 : Int32 → Int32 → Int32 → zW → Prop} (X : zCx p s m args meth c cX12_briefOf 5 RX12 (some .int)) (hr : zRm R 3 cells slots) (hQ : zRetI p l e R s m args below meth c cells slots Q D dA true ad0 al0 ad al cX12_briefOf k) (hg2 : ∀ (x1 : Int32) (x2 : Int32) (w : zW) (H : Heap) (locs : List Loc) (ls : Array Slot), g2 x1 x2 w → zSt D dA true ad0 al0 ad al w s H locs → lv_has ls 5 [(0, .ref (ad 200)), (1, .int x1), (2, .int x2)] → W p l e R s m args below meth c H locs cells slots Q (F0 m 2 ls [])) (hg13 : ∀ (x1 : Int32) (x2 : Int32) (x3 : Int32) (w : zW) (H : Heap) (locs : List Loc) (ls : Array Slot), g13 x1 x2 x3 w → zSt D dA true ad0 al0 ad al w s H locs → lv_has ls 5 [(0, .ref (ad 200)), (1, .int x1), (2, .int x2), (3, .int x3)] → W p l e R s m args below meth c H locs cells slots Q (F0 m 13 ls [])) : ∀ (n : Nat) (x1 : Int32) (x2 : Int32) (x3 : Int32) (x4 : Int32) (w : zW) (H : Heap) (locs : List Loc) (ls : Array Slot), fX12_briefOf_L38 k g2 g13 n x1 x2 x3 x4 w → zSt D dA true ad0 al0 ad al w s H locs → lv_has ls 5 [(0, .ref (ad 200)), (1, .int x1), (2, .int x2), (3, .int x3), (4, .int x4)] → W p l e R s m args below meth c H locs cells slots Q (F0 m 38 ls []) := by
  intro n
  induction n with
  | zero => exact fun _ _ _ _ _ _ _ _ hf => hf.elim
  | succ n ih =>
    intro x1 x2 x3 x4 w H locs ls hf hR hl
    have hx := X.1
    have hb := X.2.1
    have hml := X.2.2.1
    have hown := X.2.2.2.1
    have hts := X.2.2.2.2.1
    rw [fX12_briefOf_L38] at hf
    refine lv_iload hx hb dX12_briefOf_38 (lv_at hl 4 rfl) ?_
    refine lv_iconst (v := (4 : Int32)) hx hb dX12_briefOf_40 (by decide) ?_
    refine lv_icmp_ge (tgt := 78) hx hb dX12_briefOf_41 (by decide) (fun c10 => ?_) (fun c10 => ?_)
    · replace hf := hf.1 c10
      refine lv_iinc (v := x3 + (1 : Int32)) (lv' := [(3, .int (x3 + (1 : Int32))), (0, .ref (ad 200)), (1, .int x1), (2, .int x2), (4, .int x4)]) hx hb dX12_briefOf_78 hl (k := 3) rfl rfl (by decide) rfl (fun ls hl => ?_)
      refine lv_goto (tgt := 13) hx hb dX12_briefOf_81 (by decide) ?_
      exact hg13 x1 x2 (x3 + (1 : Int32)) w _ _ _ hf hR (lv_sub hl [1, 2, 3, 0] rfl)
    · replace hf := hf.2 c10
      refine lv_aload_n hx hb dX12_briefOf_44 rfl (lv_at hl 0 rfl) ?_
      refine z_getS X hR (zlit hR zf_200) zs_200 (by decide) zfd_X12_149 rfl (r := 241) (by decide +kernel) dX12_briefOf_45 ?_
      refine lv_iload_n hx hb dX12_briefOf_48 rfl (lv_at hl 3 rfl) ?_
      refine lv_iload_n hx hb dX12_briefOf_49 rfl (lv_at hl 2 rfl) ?_
      refine z_callSI (fr1 := 0) (As := [.int x3, .int x2]) (rest := [.ref (ad 241)]) X (hr.le (by decide)) hR zy_X12_partAt zq_849 (mX12_partAt  hf) rfl hl (Nat.le_of_ble_eq_true rfl) dX12_briefOf_50 rfl (fun r11 w11 H locs hf hR => ?_)
      refine lv_dup2_11 hx hb dX12_briefOf_53 rfl rfl ?_
      obtain ⟨hb12, hf⟩ := hf
      refine z_iald X hR (zlit hR zf_241) zs_241 zl_241 hb12 dX12_briefOf_54 ?_
      refine lv_aload_n hx hb dX12_briefOf_55 rfl (lv_at hl 0 rfl) ?_
      refine lv_iload_n hx hb dX12_briefOf_56 rfl (lv_at hl 1 rfl) ?_
      refine lv_iload_n hx hb dX12_briefOf_57 rfl (lv_at hl 3 rfl) ?_
      refine lv_iload_n hx hb dX12_briefOf_58 rfl (lv_at hl 2 rfl) ?_
      refine lv_iload hx hb dX12_briefOf_59 (lv_at hl 4 rfl) ?_
      refine z_callVI (fr1 := 2) (b := 200) (As := [.int x1, .int x3, .int x2, .int x4]) (rest := [.int (gI w11 241 r11.toNatClampNeg), .int r11, .ref (ad 241)]) X (hr.le (by decide)) hR zy_X12_briefest zq_852 (zlit hR zf_200) (by rw [zs_200]; rfl) rfl (mX12_briefest  hf) rfl hl (Nat.le_of_ble_eq_true rfl) dX12_briefOf_61 rfl (fun r13 w13 H locs hf hR => ?_)
      refine lv_bipush (v := (6 : Int32)) hx hb dX12_briefOf_64 (by decide) ?_
      refine lv_iload hx hb dX12_briefOf_66 (lv_at hl 4 rfl) ?_
      refine lv_imul hx hb dX12_briefOf_68 ?_
      refine lv_ishl hx hb dX12_briefOf_69 ?_
      refine lv_ior hx hb dX12_briefOf_70 ?_
      refine z_iast X hR (zlit hR zf_241) zs_241 zl_241 hb12 dX12_briefOf_71 (fun H locs hR => ?_)
      obtain ⟨w14, hw14⟩ : ∃ z : zW, z = sI w13 241 r11.toNatClampNeg ((gI w11 241 r11.toNatClampNeg) ||| (r13 <<< (((6 : Int32) * x4) &&& 31))) := ⟨_, rfl⟩
      rw [← hw14] at hR
      replace hf := hf w14 hw14
      refine lv_iinc (v := x4 + (1 : Int32)) (lv' := [(4, .int (x4 + (1 : Int32))), (0, .ref (ad 200)), (1, .int x1), (2, .int x2), (3, .int x3)]) hx hb dX12_briefOf_72 hl (k := 4) rfl rfl (by decide) rfl (fun ls hl => ?_)
      refine lv_goto (tgt := 38) hx hb dX12_briefOf_75 (by decide) ?_
      exact ih x1 x2 x3 (x4 + (1 : Int32)) w14 _ _ _ hf hR (lv_sub hl [1, 2, 3, 4, 0] rfl)
def fX12_briefOf_L13 (k : Int32 → zW → Prop) (g2 : Int32 → Int32 → zW → Prop) : Nat → Int32 → Int32 → Int32 → zW → Prop
  | 0 => fun _ _ _ _ => False
  | n + 1 => fun x1 x2 x3 w =>
    fX12_longOf x1 w (fun r5 w5 =>
    ((r5 < (x3 + x2) →
      g2 x1 (x2 + (1 : Int32)) w5) ∧
     (¬ r5 < (x3 + x2) →
      fX12_partAt x3 x2 w5 (fun r7 w7 =>
      vp_in r7 1891 ∧ 
      ∀ w9 : zW, w9 = sI w7 241 r7.toNatClampNeg (0 : Int32) →
      ∃ n9, fX12_briefOf_L38 k g2 (fX12_briefOf_L13 k g2 n) n9 x1 x2 x3 (0 : Int32) w9))))
set_option maxHeartbeats 4000000 in
set_option maxRecDepth 100000 in
theorem mX12_briefOf_L13 {k : Int32 → zW → Prop} {g2 : Int32 → Int32 → zW → Prop} (X : zCx p s m args meth c cX12_briefOf 5 RX12 (some .int)) (hr : zRm R 3 cells slots) (hQ : zRetI p l e R s m args below meth c cells slots Q D dA true ad0 al0 ad al cX12_briefOf k) (hg2 : ∀ (x1 : Int32) (x2 : Int32) (w : zW) (H : Heap) (locs : List Loc) (ls : Array Slot), g2 x1 x2 w → zSt D dA true ad0 al0 ad al w s H locs → lv_has ls 5 [(0, .ref (ad 200)), (1, .int x1), (2, .int x2)] → W p l e R s m args below meth c H locs cells slots Q (F0 m 2 ls [])) : ∀ (n : Nat) (x1 : Int32) (x2 : Int32) (x3 : Int32) (w : zW) (H : Heap) (locs : List Loc) (ls : Array Slot), fX12_briefOf_L13 k g2 n x1 x2 x3 w → zSt D dA true ad0 al0 ad al w s H locs → lv_has ls 5 [(0, .ref (ad 200)), (1, .int x1), (2, .int x2), (3, .int x3)] → W p l e R s m args below meth c H locs cells slots Q (F0 m 13 ls []) := by
  intro n
  induction n with
  | zero => exact fun _ _ _ _ _ _ _ hf => hf.elim
  | succ n ih =>
    intro x1 x2 x3 w H locs ls hf hR hl
    have hx := X.1
    have hb := X.2.1
    have hml := X.2.2.1
    have hown := X.2.2.2.1
    have hts := X.2.2.2.2.1
    rw [fX12_briefOf_L13] at hf
    refine lv_iload_n hx hb dX12_briefOf_13 rfl (lv_at hl 3 rfl) ?_
    refine lv_iload_n hx hb dX12_briefOf_14 rfl (lv_at hl 2 rfl) ?_
    refine lv_iadd hx hb dX12_briefOf_15 ?_
    refine lv_aload_n hx hb dX12_briefOf_16 rfl (lv_at hl 0 rfl) ?_
    refine lv_iload_n hx hb dX12_briefOf_17 rfl (lv_at hl 1 rfl) ?_
    refine z_callVI (fr1 := 0) (b := 200) (As := [.int x1]) (rest := [.int (x3 + x2)]) X (hr.le (by decide)) hR zy_X12_longOf zq_203 (zlit hR zf_200) (by rw [zs_200]; rfl) rfl (mX12_longOf  hf) rfl hl (Nat.le_of_ble_eq_true rfl) dX12_briefOf_18 rfl (fun r5 w5 H locs hf hR => ?_)
    refine lv_icmp_gt (tgt := 84) hx hb dX12_briefOf_21 (by decide) (fun c6 => ?_) (fun c6 => ?_)
    · replace hf := hf.1 c6
      refine lv_iinc (v := x2 + (1 : Int32)) (lv' := [(2, .int (x2 + (1 : Int32))), (0, .ref (ad 200)), (1, .int x1), (3, .int x3)]) hx hb dX12_briefOf_84 hl (k := 2) rfl rfl (by decide) rfl (fun ls hl => ?_)
      refine lv_goto (tgt := 2) hx hb dX12_briefOf_87 (by decide) ?_
      exact hg2 x1 (x2 + (1 : Int32)) w5 _ _ _ hf hR (lv_sub hl [1, 2, 0] rfl)
    · replace hf := hf.2 c6
      refine lv_aload_n hx hb dX12_briefOf_24 rfl (lv_at hl 0 rfl) ?_
      refine z_getS X hR (zlit hR zf_200) zs_200 (by decide) zfd_X12_149 rfl (r := 241) (by decide +kernel) dX12_briefOf_25 ?_
      refine lv_iload_n hx hb dX12_briefOf_28 rfl (lv_at hl 3 rfl) ?_
      refine lv_iload_n hx hb dX12_briefOf_29 rfl (lv_at hl 2 rfl) ?_
      refine z_callSI (fr1 := 0) (As := [.int x3, .int x2]) (rest := [.ref (ad 241)]) X (hr.le (by decide)) hR zy_X12_partAt zq_849 (mX12_partAt  hf) rfl hl (Nat.le_of_ble_eq_true rfl) dX12_briefOf_30 rfl (fun r7 w7 H locs hf hR => ?_)
      refine lv_iconst (v := (0 : Int32)) hx hb dX12_briefOf_33 (by decide) ?_
      obtain ⟨hb8, hf⟩ := hf
      refine z_iast X hR (zlit hR zf_241) zs_241 zl_241 hb8 dX12_briefOf_34 (fun H locs hR => ?_)
      obtain ⟨w9, hw9⟩ : ∃ z : zW, z = sI w7 241 r7.toNatClampNeg (0 : Int32) := ⟨_, rfl⟩
      rw [← hw9] at hR
      replace hf := hf w9 hw9
      refine lv_iconst (v := (0 : Int32)) hx hb dX12_briefOf_35 (by decide) ?_
      refine lv_istore (lv' := [(4, .int (0 : Int32)), (0, .ref (ad 200)), (1, .int x1), (2, .int x2), (3, .int x3)]) hx hb dX12_briefOf_36 hl (by decide) rfl (fun ls hl => ?_)
      obtain ⟨n9, hf⟩ := hf
      exact mX12_briefOf_L38 X hr hQ hg2 ih n9 x1 x2 x3 (0 : Int32) w9 _ _ _ hf hR (lv_sub hl [1, 2, 3, 4, 0] rfl)
def fX12_briefOf_L2 (k : Int32 → zW → Prop) : Nat → Int32 → Int32 → zW → Prop
  | 0 => fun _ _ _ => False
  | n + 1 => fun x1 x2 w =>
    fX12_longOf x1 w (fun r1 w1 =>
    ((r1 < x2 →
      fX12_longOf x1 w1 (fun r3 w3 =>
      fX12_tokensOf (0 : Int32) r3 (3 : Int32) w3 (fun r4 w4 =>
      k r4 w4))) ∧
     (¬ r1 < x2 →
      ∃ n9, fX12_briefOf_L13 k (fX12_briefOf_L2 k n) n9 x1 x2 (0 : Int32) w1)))
set_option maxHeartbeats 4000000 in
set_option maxRecDepth 100000 in
theorem mX12_briefOf_L2 {k : Int32 → zW → Prop} (X : zCx p s m args meth c cX12_briefOf 5 RX12 (some .int)) (hr : zRm R 3 cells slots) (hQ : zRetI p l e R s m args below meth c cells slots Q D dA true ad0 al0 ad al cX12_briefOf k)  : ∀ (n : Nat) (x1 : Int32) (x2 : Int32) (w : zW) (H : Heap) (locs : List Loc) (ls : Array Slot), fX12_briefOf_L2 k n x1 x2 w → zSt D dA true ad0 al0 ad al w s H locs → lv_has ls 5 [(0, .ref (ad 200)), (1, .int x1), (2, .int x2)] → W p l e R s m args below meth c H locs cells slots Q (F0 m 2 ls []) := by
  intro n
  induction n with
  | zero => exact fun _ _ _ _ _ _ hf => hf.elim
  | succ n ih =>
    intro x1 x2 w H locs ls hf hR hl
    have hx := X.1
    have hb := X.2.1
    have hml := X.2.2.1
    have hown := X.2.2.2.1
    have hts := X.2.2.2.2.1
    rw [fX12_briefOf_L2] at hf
    refine lv_iload_n hx hb dX12_briefOf_2 rfl (lv_at hl 2 rfl) ?_
    refine lv_aload_n hx hb dX12_briefOf_3 rfl (lv_at hl 0 rfl) ?_
    refine lv_iload_n hx hb dX12_briefOf_4 rfl (lv_at hl 1 rfl) ?_
    refine z_callVI (fr1 := 0) (b := 200) (As := [.int x1]) (rest := [.int x2]) X (hr.le (by decide)) hR zy_X12_longOf zq_203 (zlit hR zf_200) (by rw [zs_200]; rfl) rfl (mX12_longOf  hf) rfl hl (Nat.le_of_ble_eq_true rfl) dX12_briefOf_5 rfl (fun r1 w1 H locs hf hR => ?_)
    refine lv_icmp_gt (tgt := 90) hx hb dX12_briefOf_8 (by decide) (fun c2 => ?_) (fun c2 => ?_)
    · replace hf := hf.1 c2
      refine lv_aload_n hx hb dX12_briefOf_90 rfl (lv_at hl 0 rfl) ?_
      refine lv_iconst (v := (0 : Int32)) hx hb dX12_briefOf_91 (by decide) ?_
      refine lv_aload_n hx hb dX12_briefOf_92 rfl (lv_at hl 0 rfl) ?_
      refine lv_iload_n hx hb dX12_briefOf_93 rfl (lv_at hl 1 rfl) ?_
      refine z_callVI (fr1 := 0) (b := 200) (As := [.int x1]) (rest := [.int (0 : Int32), .ref (ad 200)]) X (hr.le (by decide)) hR zy_X12_longOf zq_203 (zlit hR zf_200) (by rw [zs_200]; rfl) rfl (mX12_longOf  hf) rfl hl (Nat.le_of_ble_eq_true rfl) dX12_briefOf_94 rfl (fun r3 w3 H locs hf hR => ?_)
      refine lv_iconst (v := (3 : Int32)) hx hb dX12_briefOf_97 (by decide) ?_
      refine z_callVI (fr1 := 1) (b := 200) (As := [.int (0 : Int32), .int r3, .int (3 : Int32)]) (rest := []) X (hr.le (by decide)) hR zy_X12_tokensOf zq_856 (zlit hR zf_200) (by rw [zs_200]; rfl) rfl (mX12_tokensOf  hf) rfl hl (Nat.le_of_ble_eq_true rfl) dX12_briefOf_98 rfl (fun r4 w4 H locs hf hR => ?_)
      exact hQ _ _ _ _ _ _ hf hR dX12_briefOf_101
    · replace hf := hf.2 c2
      refine lv_iconst (v := (0 : Int32)) hx hb dX12_briefOf_11 (by decide) ?_
      refine lv_istore_n (lv' := [(3, .int (0 : Int32)), (0, .ref (ad 200)), (1, .int x1), (2, .int x2)]) hx hb dX12_briefOf_12 rfl hl (by decide) rfl (fun ls hl => ?_)
      obtain ⟨n9, hf⟩ := hf
      exact mX12_briefOf_L13 X hr hQ ih n9 x1 x2 (0 : Int32) w1 _ _ _ hf hR (lv_sub hl [1, 2, 3, 0] rfl)
def fX12_briefOf (x1 : Int32) (w : zW) (k : Int32 → zW → Prop) : Prop :=
  ∃ n9, fX12_briefOf_L2 k n9 x1 (1 : Int32) w
set_option maxHeartbeats 4000000 in
set_option maxRecDepth 100000 in
theorem mX12_briefOf {l : Launch} {D : va_G} {dA : Nat → ClassId} {ad : Nat → Nat} {al : Nat → Prop} {w : zW} {k : Int32 → zW → Prop} {x1 : Int32}   (hf : fX12_briefOf x1 w k) : zmetI l yX12_briefOf cX12_briefOf 5 (some .int) 3 [.ref (ad 200), .int x1] D dA true ad al w k := by
  refine zmetI_of (by decide) (Nat.le_of_ble_eq_true rfl) ?_
  intro p e R s m below meth c Q H ls args locs cells slots X hr hQ hR hl
  have hx := X.1
  have hb := X.2.1
  have hml := X.2.2.1
  have hown := X.2.2.2.1
  have hts := X.2.2.2.2.1
  unfold fX12_briefOf at hf
  have hl : lv_has ls 5 [(0, .ref (ad 200)), (1, .int x1)] := hl
  refine lv_iconst (v := (1 : Int32)) hx hb dX12_briefOf_0 (by decide) ?_
  refine lv_istore_n (lv' := [(2, .int (1 : Int32)), (0, .ref (ad 200)), (1, .int x1)]) hx hb dX12_briefOf_1 rfl hl (by decide) rfl (fun ls hl => ?_)
  obtain ⟨n9, hf⟩ := hf
  exact mX12_briefOf_L2 X hr hQ  n9 x1 (1 : Int32) w _ _ _ hf hR (lv_sub hl [1, 2, 0] rfl)
/-! X12_line -/
def fX12_line (x1 : Int32) (x2 : Int32) (w : zW) (k : Int32 → zW → Prop) : Prop :=
  ∀ w1 : zW, w1 = sI w 200 0 (0 : Int32) →
  fX12_isRow x1 w1 (fun r2 w2 =>
  ((r2 = 0 →
    k (-2 : Int32) w2) ∧
   (¬ r2 = 0 →
    fX12_within x2 (0 : Int32) (3 : Int32) w2 (fun r4 w4 =>
    ((¬ r4 = 0 →
      ((¬ x2 = 0 →
        ((¬ x2 = (1 : Int32) →
          ((¬ x2 = (2 : Int32) →
            fX12_briefOf x1 w4 (fun r9 w9 =>
            k r9 w9)) ∧
           (x2 = (2 : Int32) →
            fX12_beatOf x1 w4 (fun r10 w10 =>
            k r10 w10)))) ∧
         (x2 = (1 : Int32) →
          vp_in ((4 : Int32) + x1) 252 ∧ 
          k (gI w4 220 ((4 : Int32) + x1).toNatClampNeg) w4))) ∧
       (x2 = 0 →
        fX12_longOf x1 w4 (fun r12 w12 =>
        k r12 w12)))) ∧
     (r4 = 0 →
      k (-2 : Int32) w4))))))
set_option maxHeartbeats 4000000 in
set_option maxRecDepth 100000 in
theorem mX12_line {l : Launch} {D : va_G} {dA : Nat → ClassId} {ad : Nat → Nat} {al : Nat → Prop} {w : zW} {k : Int32 → zW → Prop} {x1 : Int32} {x2 : Int32}   (hf : fX12_line x1 x2 w k) : zmetI l yX12_line cX12_line 3 (some .int) 4 [.ref (ad 200), .int x1, .int x2] D dA true ad al w k := by
  refine zmetI_of (by decide) (Nat.le_of_ble_eq_true rfl) ?_
  intro p e R s m below meth c Q H ls args locs cells slots X hr hQ hR hl
  have hx := X.1
  have hb := X.2.1
  have hml := X.2.2.1
  have hown := X.2.2.2.1
  have hts := X.2.2.2.2.1
  unfold fX12_line at hf
  have hl : lv_has ls 3 [(0, .ref (ad 200)), (1, .int x1), (2, .int x2)] := hl
  refine lv_aload_n hx hb dX12_line_0 rfl (lv_at hl 0 rfl) ?_
  refine lv_iconst (v := (0 : Int32)) hx hb dX12_line_1 (by decide) ?_
  refine z_putI X hR (zlit hR zf_200) zs_200 (by decide) zfp_X12_1 rfl dX12_line_2 (fun H locs hR => ?_)
  obtain ⟨w1, hw1⟩ : ∃ z : zW, z = sI w 200 0 (0 : Int32) := ⟨_, rfl⟩
  rw [← hw1] at hR
  replace hf := hf w1 hw1
  refine lv_aload_n hx hb dX12_line_5 rfl (lv_at hl 0 rfl) ?_
  refine lv_iload_n hx hb dX12_line_6 rfl (lv_at hl 1 rfl) ?_
  refine z_callVI (fr1 := 1) (b := 200) (As := [.int x1]) (rest := []) X (hr.le (by decide)) hR zy_X12_isRow zq_833 (zlit hR zf_200) (by rw [zs_200]; rfl) rfl (mX12_isRow  hf) rfl hl (Nat.le_of_ble_eq_true rfl) dX12_line_7 rfl (fun r2 w2 H locs hf hR => ?_)
  refine lv_if_eq (tgt := 22) hx hb dX12_line_10 (by decide) (fun c3 => ?_) (fun c3 => ?_)
  · replace hf := hf.1 c3
    refine lv_bipush (v := (-2 : Int32)) hx hb dX12_line_22 (by decide) ?_
    exact hQ _ _ _ _ _ _ hf hR dX12_line_24
  · replace hf := hf.2 c3
    refine lv_iload_n hx hb dX12_line_13 rfl (lv_at hl 2 rfl) ?_
    refine lv_iconst (v := (0 : Int32)) hx hb dX12_line_14 (by decide) ?_
    refine lv_iconst (v := (3 : Int32)) hx hb dX12_line_15 (by decide) ?_
    refine z_callSI (fr1 := 0) (As := [.int x2, .int (0 : Int32), .int (3 : Int32)]) (rest := []) X (hr.le (by decide)) hR zy_X12_within zq_773 (mX12_within  hf) rfl hl (Nat.le_of_ble_eq_true rfl) dX12_line_16 rfl (fun r4 w4 H locs hf hR => ?_)
    refine lv_if_ne (tgt := 25) hx hb dX12_line_19 (by decide) (fun c5 => ?_) (fun c5 => ?_)
    · replace hf := hf.1 c5
      refine lv_iload_n hx hb dX12_line_25 rfl (lv_at hl 2 rfl) ?_
      refine lv_if_ne (tgt := 37) hx hb dX12_line_26 (by decide) (fun c6 => ?_) (fun c6 => ?_)
      · replace hf := hf.1 c6
        refine lv_iload_n hx hb dX12_line_37 rfl (lv_at hl 2 rfl) ?_
        refine lv_iconst (v := (1 : Int32)) hx hb dX12_line_38 (by decide) ?_
        refine lv_icmp_ne (tgt := 53) hx hb dX12_line_39 (by decide) (fun c7 => ?_) (fun c7 => ?_)
        · replace hf := hf.1 c7
          refine lv_iload_n hx hb dX12_line_53 rfl (lv_at hl 2 rfl) ?_
          refine lv_iconst (v := (2 : Int32)) hx hb dX12_line_54 (by decide) ?_
          refine lv_icmp_ne (tgt := 66) hx hb dX12_line_55 (by decide) (fun c8 => ?_) (fun c8 => ?_)
          · replace hf := hf.1 c8
            refine lv_aload_n hx hb dX12_line_66 rfl (lv_at hl 0 rfl) ?_
            refine lv_iload_n hx hb dX12_line_67 rfl (lv_at hl 1 rfl) ?_
            refine z_callVI (fr1 := 3) (b := 200) (As := [.int x1]) (rest := []) X (hr.le (by decide)) hR zy_X12_briefOf zq_845 (zlit hR zf_200) (by rw [zs_200]; rfl) rfl (mX12_briefOf  hf) rfl hl (Nat.le_of_ble_eq_true rfl) dX12_line_68 rfl (fun r9 w9 H locs hf hR => ?_)
            exact hQ _ _ _ _ _ _ hf hR dX12_line_71
          · replace hf := hf.2 c8
            refine lv_aload_n hx hb dX12_line_58 rfl (lv_at hl 0 rfl) ?_
            refine lv_iload_n hx hb dX12_line_59 rfl (lv_at hl 1 rfl) ?_
            refine z_callVI (fr1 := 2) (b := 200) (As := [.int x1]) (rest := []) X (hr.le (by decide)) hR zy_X12_beatOf zq_837 (zlit hR zf_200) (by rw [zs_200]; rfl) rfl (mX12_beatOf  hf) rfl hl (Nat.le_of_ble_eq_true rfl) dX12_line_60 rfl (fun r10 w10 H locs hf hR => ?_)
            refine lv_goto (tgt := 71) hx hb dX12_line_63 (by decide) ?_
            exact hQ _ _ _ _ _ _ hf hR dX12_line_71
        · replace hf := hf.2 c7
          refine lv_aload_n hx hb dX12_line_42 rfl (lv_at hl 0 rfl) ?_
          refine z_getS X hR (zlit hR zf_200) zs_200 (by decide) zfd_X12_103 rfl (r := 220) (by decide +kernel) dX12_line_43 ?_
          refine lv_iconst (v := (4 : Int32)) hx hb dX12_line_46 (by decide) ?_
          refine lv_iload_n hx hb dX12_line_47 rfl (lv_at hl 1 rfl) ?_
          refine lv_iadd hx hb dX12_line_48 ?_
          obtain ⟨hb11, hf⟩ := hf
          refine z_iald X hR (zlit hR zf_220) zs_220 zl_220 hb11 dX12_line_49 ?_
          refine lv_goto (tgt := 71) hx hb dX12_line_50 (by decide) ?_
          exact hQ _ _ _ _ _ _ hf hR dX12_line_71
      · replace hf := hf.2 c6
        refine lv_aload_n hx hb dX12_line_29 rfl (lv_at hl 0 rfl) ?_
        refine lv_iload_n hx hb dX12_line_30 rfl (lv_at hl 1 rfl) ?_
        refine z_callVI (fr1 := 0) (b := 200) (As := [.int x1]) (rest := []) X (hr.le (by decide)) hR zy_X12_longOf zq_203 (zlit hR zf_200) (by rw [zs_200]; rfl) rfl (mX12_longOf  hf) rfl hl (Nat.le_of_ble_eq_true rfl) dX12_line_31 rfl (fun r12 w12 H locs hf hR => ?_)
        refine lv_goto (tgt := 71) hx hb dX12_line_34 (by decide) ?_
        exact hQ _ _ _ _ _ _ hf hR dX12_line_71
    · replace hf := hf.2 c5
      refine lv_bipush (v := (-2 : Int32)) hx hb dX12_line_22 (by decide) ?_
      exact hQ _ _ _ _ _ _ hf hR dX12_line_24
/-! X12_there -/
def fX12_there (x1 : Int32) (x2 : Int32) (w : zW) (k : Int32 → zW → Prop) : Prop :=
  ∀ w1 : zW, w1 = sI w 200 0 (0 : Int32) →
  fX12_isRow x1 w1 (fun r2 w2 =>
  ((r2 = 0 →
    k (-1 : Int32) w2) ∧
   (¬ r2 = 0 →
    fX12_longOf x1 w2 (fun r4 w4 =>
    fX12_within x2 (0 : Int32) (r4 - (1 : Int32)) w4 (fun r5 w5 =>
    ((r5 = 0 →
      k (-1 : Int32) w5) ∧
     (¬ r5 = 0 →
      fX12_itemOf x1 x2 w5 (fun r7 w7 =>
      k r7 w7))))))))
set_option maxHeartbeats 4000000 in
set_option maxRecDepth 100000 in
theorem mX12_there {l : Launch} {D : va_G} {dA : Nat → ClassId} {ad : Nat → Nat} {al : Nat → Prop} {w : zW} {k : Int32 → zW → Prop} {x1 : Int32} {x2 : Int32}   (hf : fX12_there x1 x2 w k) : zmetI l yX12_there cX12_there 3 (some .int) 2 [.ref (ad 200), .int x1, .int x2] D dA true ad al w k := by
  refine zmetI_of (by decide) (Nat.le_of_ble_eq_true rfl) ?_
  intro p e R s m below meth c Q H ls args locs cells slots X hr hQ hR hl
  have hx := X.1
  have hb := X.2.1
  have hml := X.2.2.1
  have hown := X.2.2.2.1
  have hts := X.2.2.2.2.1
  unfold fX12_there at hf
  have hl : lv_has ls 3 [(0, .ref (ad 200)), (1, .int x1), (2, .int x2)] := hl
  refine lv_aload_n hx hb dX12_there_0 rfl (lv_at hl 0 rfl) ?_
  refine lv_iconst (v := (0 : Int32)) hx hb dX12_there_1 (by decide) ?_
  refine z_putI X hR (zlit hR zf_200) zs_200 (by decide) zfp_X12_1 rfl dX12_there_2 (fun H locs hR => ?_)
  obtain ⟨w1, hw1⟩ : ∃ z : zW, z = sI w 200 0 (0 : Int32) := ⟨_, rfl⟩
  rw [← hw1] at hR
  replace hf := hf w1 hw1
  refine lv_aload_n hx hb dX12_there_5 rfl (lv_at hl 0 rfl) ?_
  refine lv_iload_n hx hb dX12_there_6 rfl (lv_at hl 1 rfl) ?_
  refine z_callVI (fr1 := 1) (b := 200) (As := [.int x1]) (rest := []) X (hr.le (by decide)) hR zy_X12_isRow zq_833 (zlit hR zf_200) (by rw [zs_200]; rfl) rfl (mX12_isRow  hf) rfl hl (Nat.le_of_ble_eq_true rfl) dX12_there_7 rfl (fun r2 w2 H locs hf hR => ?_)
  refine lv_if_eq (tgt := 37) hx hb dX12_there_10 (by decide) (fun c3 => ?_) (fun c3 => ?_)
  · replace hf := hf.1 c3
    refine lv_iconst (v := (-1 : Int32)) hx hb dX12_there_37 (by decide) ?_
    exact hQ _ _ _ _ _ _ hf hR dX12_there_38
  · replace hf := hf.2 c3
    refine lv_iload_n hx hb dX12_there_13 rfl (lv_at hl 2 rfl) ?_
    refine lv_iconst (v := (0 : Int32)) hx hb dX12_there_14 (by decide) ?_
    refine lv_aload_n hx hb dX12_there_15 rfl (lv_at hl 0 rfl) ?_
    refine lv_iload_n hx hb dX12_there_16 rfl (lv_at hl 1 rfl) ?_
    refine z_callVI (fr1 := 0) (b := 200) (As := [.int x1]) (rest := [.int (0 : Int32), .int x2]) X (hr.le (by decide)) hR zy_X12_longOf zq_203 (zlit hR zf_200) (by rw [zs_200]; rfl) rfl (mX12_longOf  hf) rfl hl (Nat.le_of_ble_eq_true rfl) dX12_there_17 rfl (fun r4 w4 H locs hf hR => ?_)
    refine lv_iconst (v := (1 : Int32)) hx hb dX12_there_20 (by decide) ?_
    refine lv_isub hx hb dX12_there_21 ?_
    refine z_callSI (fr1 := 0) (As := [.int x2, .int (0 : Int32), .int (r4 - (1 : Int32))]) (rest := []) X (hr.le (by decide)) hR zy_X12_within zq_773 (mX12_within  hf) rfl hl (Nat.le_of_ble_eq_true rfl) dX12_there_22 rfl (fun r5 w5 H locs hf hR => ?_)
    refine lv_if_eq (tgt := 37) hx hb dX12_there_25 (by decide) (fun c6 => ?_) (fun c6 => ?_)
    · replace hf := hf.1 c6
      refine lv_iconst (v := (-1 : Int32)) hx hb dX12_there_37 (by decide) ?_
      exact hQ _ _ _ _ _ _ hf hR dX12_there_38
    · replace hf := hf.2 c6
      refine lv_aload_n hx hb dX12_there_28 rfl (lv_at hl 0 rfl) ?_
      refine lv_iload_n hx hb dX12_there_29 rfl (lv_at hl 1 rfl) ?_
      refine lv_iload_n hx hb dX12_there_30 rfl (lv_at hl 2 rfl) ?_
      refine z_callVI (fr1 := 0) (b := 200) (As := [.int x1, .int x2]) (rest := []) X (hr.le (by decide)) hR zy_X12_itemOf zq_207 (zlit hR zf_200) (by rw [zs_200]; rfl) rfl (mX12_itemOf  hf) rfl hl (Nat.le_of_ble_eq_true rfl) dX12_there_31 rfl (fun r7 w7 H locs hf hR => ?_)
      refine lv_goto (tgt := 38) hx hb dX12_there_34 (by decide) ?_
      exact hQ _ _ _ _ _ _ hf hR dX12_there_38
/-! X12_mayGuess -/
def fX12_mayGuess (x1 : Int32) (x2 : Int32) (x3 : Int32) (w : zW) (k : Int32 → zW → Prop) : Prop :=
  fX12_within x2 (0 : Int32) (2 : Int32) w (fun r1 w1 =>
  ((r1 = 0 →
    k (0 : Int32) w1) ∧
   (¬ r1 = 0 →
    fX12_within x3 (0 : Int32) (2 : Int32) w1 (fun r3 w3 =>
    ((r3 = 0 →
      k (0 : Int32) w3) ∧
     (¬ r3 = 0 →
      vp_in ((((9 : Int32) * x1) + ((3 : Int32) * x2)) + x3) 36 ∧ 
      ∀ v6 : Int32, v6 = (if (gI w3 223 ((((9 : Int32) * x1) + ((3 : Int32) * x2)) + x3).toNatClampNeg) = 0 then (0 : Int32) else (1 : Int32)) →
      zb01 v6 ∧ k v6 w3))))))
set_option maxHeartbeats 4000000 in
set_option maxRecDepth 100000 in
theorem mX12_mayGuess {l : Launch} {D : va_G} {dA : Nat → ClassId} {ad : Nat → Nat} {al : Nat → Prop} {w : zW} {k : Int32 → zW → Prop} {x1 : Int32} {x2 : Int32} {x3 : Int32}   (hf : fX12_mayGuess x1 x2 x3 w k) : zmetI l yX12_mayGuess cX12_mayGuess 4 (some .boolean) 1 [.ref (ad 200), .int x1, .int x2, .int x3] D dA true ad al w k := by
  refine zmetZ_of (by decide) (Nat.le_of_ble_eq_true rfl) ?_
  intro p e R s m below meth c Q H ls args locs cells slots X hr hQ hR hl
  have hx := X.1
  have hb := X.2.1
  have hml := X.2.2.1
  have hown := X.2.2.2.1
  have hts := X.2.2.2.2.1
  unfold fX12_mayGuess at hf
  have hl : lv_has ls 4 [(0, .ref (ad 200)), (1, .int x1), (2, .int x2), (3, .int x3)] := hl
  refine lv_iload_n hx hb dX12_mayGuess_0 rfl (lv_at hl 2 rfl) ?_
  refine lv_iconst (v := (0 : Int32)) hx hb dX12_mayGuess_1 (by decide) ?_
  refine lv_iconst (v := (2 : Int32)) hx hb dX12_mayGuess_2 (by decide) ?_
  refine z_callSI (fr1 := 0) (As := [.int x2, .int (0 : Int32), .int (2 : Int32)]) (rest := []) X (hr.le (by decide)) hR zy_X12_within zq_773 (mX12_within  hf) rfl hl (Nat.le_of_ble_eq_true rfl) dX12_mayGuess_3 rfl (fun r1 w1 H locs hf hR => ?_)
  refine lv_if_eq (tgt := 40) hx hb dX12_mayGuess_6 (by decide) (fun c2 => ?_) (fun c2 => ?_)
  · replace hf := hf.1 c2
    refine lv_iconst (v := (0 : Int32)) hx hb dX12_mayGuess_40 (by decide) ?_
    exact hQ _ _ _ _ _ _ zb01_0 hf hR dX12_mayGuess_41
  · replace hf := hf.2 c2
    refine lv_iload_n hx hb dX12_mayGuess_9 rfl (lv_at hl 3 rfl) ?_
    refine lv_iconst (v := (0 : Int32)) hx hb dX12_mayGuess_10 (by decide) ?_
    refine lv_iconst (v := (2 : Int32)) hx hb dX12_mayGuess_11 (by decide) ?_
    refine z_callSI (fr1 := 0) (As := [.int x3, .int (0 : Int32), .int (2 : Int32)]) (rest := []) X (hr.le (by decide)) hR zy_X12_within zq_773 (mX12_within  hf) rfl hl (Nat.le_of_ble_eq_true rfl) dX12_mayGuess_12 rfl (fun r3 w3 H locs hf hR => ?_)
    refine lv_if_eq (tgt := 40) hx hb dX12_mayGuess_15 (by decide) (fun c4 => ?_) (fun c4 => ?_)
    · replace hf := hf.1 c4
      refine lv_iconst (v := (0 : Int32)) hx hb dX12_mayGuess_40 (by decide) ?_
      exact hQ _ _ _ _ _ _ zb01_0 hf hR dX12_mayGuess_41
    · replace hf := hf.2 c4
      refine lv_aload_n hx hb dX12_mayGuess_18 rfl (lv_at hl 0 rfl) ?_
      refine z_getS X hR (zlit hR zf_200) zs_200 (by decide) zfd_X12_110 rfl (r := 223) (by decide +kernel) dX12_mayGuess_19 ?_
      refine lv_bipush (v := (9 : Int32)) hx hb dX12_mayGuess_22 (by decide) ?_
      refine lv_iload_n hx hb dX12_mayGuess_24 rfl (lv_at hl 1 rfl) ?_
      refine lv_imul hx hb dX12_mayGuess_25 ?_
      refine lv_iconst (v := (3 : Int32)) hx hb dX12_mayGuess_26 (by decide) ?_
      refine lv_iload_n hx hb dX12_mayGuess_27 rfl (lv_at hl 2 rfl) ?_
      refine lv_imul hx hb dX12_mayGuess_28 ?_
      refine lv_iadd hx hb dX12_mayGuess_29 ?_
      refine lv_iload_n hx hb dX12_mayGuess_30 rfl (lv_at hl 3 rfl) ?_
      refine lv_iadd hx hb dX12_mayGuess_31 ?_
      obtain ⟨hb5, hf⟩ := hf
      refine z_zald X hR (zlit hR zf_223) zs_223 zl_223 hb5 dX12_mayGuess_32 ?_
      have kJ6 : ∀ v6 : Int32, v6 = (if (gI w3 223 ((((9 : Int32) * x1) + ((3 : Int32) * x2)) + x3).toNatClampNeg) = 0 then (0 : Int32) else (1 : Int32)) → W p l e R s m args below meth c H locs cells slots Q (F0 m 41 ls (.int v6 :: [])) := by
        intro v6 hv6
        replace hf := hf v6 hv6
        obtain ⟨h01, hf⟩ := hf
        exact hQ _ _ _ _ _ _ h01 hf hR dX12_mayGuess_41
      refine lv_if_eq (tgt := 40) hx hb dX12_mayGuess_33 (by decide) (fun c6 => ?_) (fun c6 => ?_)
      · refine lv_iconst (v := (0 : Int32)) hx hb dX12_mayGuess_40 (by decide) ?_
        exact kJ6 _ (if_pos c6).symm
      · refine lv_iconst (v := (1 : Int32)) hx hb dX12_mayGuess_36 (by decide) ?_
        refine lv_goto (tgt := 41) hx hb dX12_mayGuess_37 (by decide) ?_
        exact kJ6 _ (if_neg c6).symm
/-! X12_guess -/
def fX12_guess (x1 : Int32) (x2 : Int32) (x3 : Int32) (w : zW) (k : Int32 → zW → Prop) : Prop :=
  ∀ w1 : zW, w1 = sI w 200 0 (0 : Int32) →
  fX12_isTerm x1 w1 (fun r2 w2 =>
  ((r2 = 0 →
    k (-2 : Int32) w2) ∧
   (¬ r2 = 0 →
    fX12_mayGuess x1 x2 x3 w2 (fun r4 w4 =>
    ((¬ r4 = 0 →
      fX12_keeps  w4 (fun w6 =>
      vp_in x1 252 ∧ 
      ∀ v8 : Int32, v8 = gI w6 220 x1.toNatClampNeg →
      ∀ w9 : zW, w9 = sI w6 220 x1.toNatClampNeg (((3 : Int32) * x2) + x3) →
      k v8 w9)) ∧
     (r4 = 0 →
      k (-2 : Int32) w4))))))
set_option maxHeartbeats 4000000 in
set_option maxRecDepth 100000 in
theorem mX12_guess {l : Launch} {D : va_G} {dA : Nat → ClassId} {ad : Nat → Nat} {al : Nat → Prop} {w : zW} {k : Int32 → zW → Prop} {x1 : Int32} {x2 : Int32} {x3 : Int32}   (hf : fX12_guess x1 x2 x3 w k) : zmetI l yX12_guess cX12_guess 5 (some .int) 2 [.ref (ad 200), .int x1, .int x2, .int x3] D dA true ad al w k := by
  refine zmetI_of (by decide) (Nat.le_of_ble_eq_true rfl) ?_
  intro p e R s m below meth c Q H ls args locs cells slots X hr hQ hR hl
  have hx := X.1
  have hb := X.2.1
  have hml := X.2.2.1
  have hown := X.2.2.2.1
  have hts := X.2.2.2.2.1
  unfold fX12_guess at hf
  have hl : lv_has ls 5 [(0, .ref (ad 200)), (1, .int x1), (2, .int x2), (3, .int x3)] := hl
  refine lv_aload_n hx hb dX12_guess_0 rfl (lv_at hl 0 rfl) ?_
  refine lv_iconst (v := (0 : Int32)) hx hb dX12_guess_1 (by decide) ?_
  refine z_putI X hR (zlit hR zf_200) zs_200 (by decide) zfp_X12_1 rfl dX12_guess_2 (fun H locs hR => ?_)
  obtain ⟨w1, hw1⟩ : ∃ z : zW, z = sI w 200 0 (0 : Int32) := ⟨_, rfl⟩
  rw [← hw1] at hR
  replace hf := hf w1 hw1
  refine lv_aload_n hx hb dX12_guess_5 rfl (lv_at hl 0 rfl) ?_
  refine lv_iload_n hx hb dX12_guess_6 rfl (lv_at hl 1 rfl) ?_
  refine z_callVI (fr1 := 1) (b := 200) (As := [.int x1]) (rest := []) X (hr.le (by decide)) hR zy_X12_isTerm zq_769 (zlit hR zf_200) (by rw [zs_200]; rfl) rfl (mX12_isTerm  hf) rfl hl (Nat.le_of_ble_eq_true rfl) dX12_guess_7 rfl (fun r2 w2 H locs hf hR => ?_)
  refine lv_if_eq (tgt := 23) hx hb dX12_guess_10 (by decide) (fun c3 => ?_) (fun c3 => ?_)
  · replace hf := hf.1 c3
    refine lv_bipush (v := (-2 : Int32)) hx hb dX12_guess_23 (by decide) ?_
    exact hQ _ _ _ _ _ _ hf hR dX12_guess_25
  · replace hf := hf.2 c3
    refine lv_aload_n hx hb dX12_guess_13 rfl (lv_at hl 0 rfl) ?_
    refine lv_iload_n hx hb dX12_guess_14 rfl (lv_at hl 1 rfl) ?_
    refine lv_iload_n hx hb dX12_guess_15 rfl (lv_at hl 2 rfl) ?_
    refine lv_iload_n hx hb dX12_guess_16 rfl (lv_at hl 3 rfl) ?_
    refine z_callVI (fr1 := 1) (b := 200) (As := [.int x1, .int x2, .int x3]) (rest := []) X (hr.le (by decide)) hR zy_X12_mayGuess zq_906 (zlit hR zf_200) (by rw [zs_200]; rfl) rfl (mX12_mayGuess  hf) rfl hl (Nat.le_of_ble_eq_true rfl) dX12_guess_17 rfl (fun r4 w4 H locs hf hR => ?_)
    refine lv_if_ne (tgt := 26) hx hb dX12_guess_20 (by decide) (fun c5 => ?_) (fun c5 => ?_)
    · replace hf := hf.1 c5
      refine lv_aload_n hx hb dX12_guess_26 rfl (lv_at hl 0 rfl) ?_
      refine z_callVV (fr1 := 1) (b := 200) (As := []) (rest := []) X (hr.le (by decide)) hR zy_X12_keeps zq_910 (zlit hR zf_200) (by rw [zs_200]; rfl) rfl (mX12_keeps  hf) rfl hl (Nat.le_of_ble_eq_true rfl) dX12_guess_27 rfl (fun w6 H locs hf hR => ?_)
      refine lv_aload_n hx hb dX12_guess_30 rfl (lv_at hl 0 rfl) ?_
      refine z_getS X hR (zlit hR zf_200) zs_200 (by decide) zfd_X12_103 rfl (r := 220) (by decide +kernel) dX12_guess_31 ?_
      refine lv_iload_n hx hb dX12_guess_34 rfl (lv_at hl 1 rfl) ?_
      obtain ⟨hb7, hf⟩ := hf
      refine z_iald X hR (zlit hR zf_220) zs_220 zl_220 hb7 dX12_guess_35 ?_
      refine lv_topi (fun v8 hv8 => ?_)
      replace hf := hf v8 hv8
      refine lv_istore (lv' := [(4, .int v8), (0, .ref (ad 200)), (1, .int x1), (2, .int x2), (3, .int x3)]) hx hb dX12_guess_36 hl (by decide) rfl (fun ls hl => ?_)
      refine lv_aload_n hx hb dX12_guess_38 rfl (lv_at hl 1 rfl) ?_
      refine z_getS X hR (zlit hR zf_200) zs_200 (by decide) zfd_X12_103 rfl (r := 220) (by decide +kernel) dX12_guess_39 ?_
      refine lv_iload_n hx hb dX12_guess_42 rfl (lv_at hl 2 rfl) ?_
      refine lv_iconst (v := (3 : Int32)) hx hb dX12_guess_43 (by decide) ?_
      refine lv_iload_n hx hb dX12_guess_44 rfl (lv_at hl 3 rfl) ?_
      refine lv_imul hx hb dX12_guess_45 ?_
      refine lv_iload_n hx hb dX12_guess_46 rfl (lv_at hl 4 rfl) ?_
      refine lv_iadd hx hb dX12_guess_47 ?_
      refine z_iast X hR (zlit hR zf_220) zs_220 zl_220 hb7 dX12_guess_48 (fun H locs hR => ?_)
      obtain ⟨w9, hw9⟩ : ∃ z : zW, z = sI w6 220 x1.toNatClampNeg (((3 : Int32) * x2) + x3) := ⟨_, rfl⟩
      rw [← hw9] at hR
      replace hf := hf w9 hw9
      refine lv_iload hx hb dX12_guess_49 (lv_at hl 0 rfl) ?_
      exact hQ _ _ _ _ _ _ hf hR dX12_guess_51
    · replace hf := hf.2 c5
      refine lv_bipush (v := (-2 : Int32)) hx hb dX12_guess_23 (by decide) ?_
      exact hQ _ _ _ _ _ _ hf hR dX12_guess_25
/-! X12_forget -/
def fX12_forget (x1 : Int32) (w : zW) (k : Int32 → zW → Prop) : Prop :=
  ∀ w1 : zW, w1 = sI w 200 0 (0 : Int32) →
  fX12_isTerm x1 w1 (fun r2 w2 =>
  ((r2 = 0 →
    k (-1 : Int32) w2) ∧
   (¬ r2 = 0 →
    vp_in x1 252 ∧ 
    ((0 ≤ (gI w2 220 x1.toNatClampNeg) →
      fX12_keeps  w2 (fun w6 =>
      ∀ v7 : Int32, v7 = gI w6 220 x1.toNatClampNeg →
      ∀ w8 : zW, w8 = sI w6 220 x1.toNatClampNeg (-1 : Int32) →
      k v7 w8)) ∧
     (¬ 0 ≤ (gI w2 220 x1.toNatClampNeg) →
      k (-1 : Int32) w2)))))
set_option maxHeartbeats 4000000 in
set_option maxRecDepth 100000 in
theorem mX12_forget {l : Launch} {D : va_G} {dA : Nat → ClassId} {ad : Nat → Nat} {al : Nat → Prop} {w : zW} {k : Int32 → zW → Prop} {x1 : Int32}   (hf : fX12_forget x1 w k) : zmetI l yX12_forget cX12_forget 3 (some .int) 2 [.ref (ad 200), .int x1] D dA true ad al w k := by
  refine zmetI_of (by decide) (Nat.le_of_ble_eq_true rfl) ?_
  intro p e R s m below meth c Q H ls args locs cells slots X hr hQ hR hl
  have hx := X.1
  have hb := X.2.1
  have hml := X.2.2.1
  have hown := X.2.2.2.1
  have hts := X.2.2.2.2.1
  unfold fX12_forget at hf
  have hl : lv_has ls 3 [(0, .ref (ad 200)), (1, .int x1)] := hl
  refine lv_aload_n hx hb dX12_forget_0 rfl (lv_at hl 0 rfl) ?_
  refine lv_iconst (v := (0 : Int32)) hx hb dX12_forget_1 (by decide) ?_
  refine z_putI X hR (zlit hR zf_200) zs_200 (by decide) zfp_X12_1 rfl dX12_forget_2 (fun H locs hR => ?_)
  obtain ⟨w1, hw1⟩ : ∃ z : zW, z = sI w 200 0 (0 : Int32) := ⟨_, rfl⟩
  rw [← hw1] at hR
  replace hf := hf w1 hw1
  refine lv_aload_n hx hb dX12_forget_5 rfl (lv_at hl 0 rfl) ?_
  refine lv_iload_n hx hb dX12_forget_6 rfl (lv_at hl 1 rfl) ?_
  refine z_callVI (fr1 := 1) (b := 200) (As := [.int x1]) (rest := []) X (hr.le (by decide)) hR zy_X12_isTerm zq_769 (zlit hR zf_200) (by rw [zs_200]; rfl) rfl (mX12_isTerm  hf) rfl hl (Nat.le_of_ble_eq_true rfl) dX12_forget_7 rfl (fun r2 w2 H locs hf hR => ?_)
  refine lv_if_eq (tgt := 22) hx hb dX12_forget_10 (by decide) (fun c3 => ?_) (fun c3 => ?_)
  · replace hf := hf.1 c3
    refine lv_iconst (v := (-1 : Int32)) hx hb dX12_forget_22 (by decide) ?_
    exact hQ _ _ _ _ _ _ hf hR dX12_forget_23
  · replace hf := hf.2 c3
    refine lv_aload_n hx hb dX12_forget_13 rfl (lv_at hl 0 rfl) ?_
    refine z_getS X hR (zlit hR zf_200) zs_200 (by decide) zfd_X12_103 rfl (r := 220) (by decide +kernel) dX12_forget_14 ?_
    refine lv_iload_n hx hb dX12_forget_17 rfl (lv_at hl 1 rfl) ?_
    obtain ⟨hb4, hf⟩ := hf
    refine z_iald X hR (zlit hR zf_220) zs_220 zl_220 hb4 dX12_forget_18 ?_
    refine lv_if_ge (tgt := 24) hx hb dX12_forget_19 (by decide) (fun c5 => ?_) (fun c5 => ?_)
    · replace hf := hf.1 c5
      refine lv_aload_n hx hb dX12_forget_24 rfl (lv_at hl 0 rfl) ?_
      refine z_callVV (fr1 := 1) (b := 200) (As := []) (rest := []) X (hr.le (by decide)) hR zy_X12_keeps zq_910 (zlit hR zf_200) (by rw [zs_200]; rfl) rfl (mX12_keeps  hf) rfl hl (Nat.le_of_ble_eq_true rfl) dX12_forget_25 rfl (fun w6 H locs hf hR => ?_)
      refine lv_aload_n hx hb dX12_forget_28 rfl (lv_at hl 0 rfl) ?_
      refine z_getS X hR (zlit hR zf_200) zs_200 (by decide) zfd_X12_103 rfl (r := 220) (by decide +kernel) dX12_forget_29 ?_
      refine lv_iload_n hx hb dX12_forget_32 rfl (lv_at hl 1 rfl) ?_
      refine z_iald X hR (zlit hR zf_220) zs_220 zl_220 hb4 dX12_forget_33 ?_
      refine lv_topi (fun v7 hv7 => ?_)
      replace hf := hf v7 hv7
      refine lv_istore_n (lv' := [(2, .int v7), (0, .ref (ad 200)), (1, .int x1)]) hx hb dX12_forget_34 rfl hl (by decide) rfl (fun ls hl => ?_)
      refine lv_aload_n hx hb dX12_forget_35 rfl (lv_at hl 1 rfl) ?_
      refine z_getS X hR (zlit hR zf_200) zs_200 (by decide) zfd_X12_103 rfl (r := 220) (by decide +kernel) dX12_forget_36 ?_
      refine lv_iload_n hx hb dX12_forget_39 rfl (lv_at hl 2 rfl) ?_
      refine lv_iconst (v := (-1 : Int32)) hx hb dX12_forget_40 (by decide) ?_
      refine z_iast X hR (zlit hR zf_220) zs_220 zl_220 hb4 dX12_forget_41 (fun H locs hR => ?_)
      obtain ⟨w8, hw8⟩ : ∃ z : zW, z = sI w6 220 x1.toNatClampNeg (-1 : Int32) := ⟨_, rfl⟩
      rw [← hw8] at hR
      replace hf := hf w8 hw8
      refine lv_iload_n hx hb dX12_forget_42 rfl (lv_at hl 0 rfl) ?_
      exact hQ _ _ _ _ _ _ hf hR dX12_forget_43
    · replace hf := hf.2 c5
      refine lv_iconst (v := (-1 : Int32)) hx hb dX12_forget_22 (by decide) ?_
      exact hQ _ _ _ _ _ _ hf hR dX12_forget_23
/-! X12_tell -/
def fX12_tell (x1 : Int32) (x2 : Int32) (w : zW) (k : Int32 → zW → Prop) : Prop :=
  ∀ w1 : zW, w1 = sI w 200 0 (0 : Int32) →
  fX12_isRow x1 w1 (fun r2 w2 =>
  ((r2 = 0 →
    k (-2 : Int32) w2) ∧
   (¬ r2 = 0 →
    fX12_within x2 (0 : Int32) (99 : Int32) w2 (fun r4 w4 =>
    ((¬ r4 = 0 →
      fX12_keeps  w4 (fun w6 =>
      vp_in ((4 : Int32) + x1) 252 ∧ 
      ∀ v8 : Int32, v8 = gI w6 220 ((4 : Int32) + x1).toNatClampNeg →
      ∀ w9 : zW, w9 = sI w6 220 ((4 : Int32) + x1).toNatClampNeg x2 →
      k v8 w9)) ∧
     (r4 = 0 →
      k (-2 : Int32) w4))))))
set_option maxHeartbeats 4000000 in
set_option maxRecDepth 100000 in
theorem mX12_tell {l : Launch} {D : va_G} {dA : Nat → ClassId} {ad : Nat → Nat} {al : Nat → Prop} {w : zW} {k : Int32 → zW → Prop} {x1 : Int32} {x2 : Int32}   (hf : fX12_tell x1 x2 w k) : zmetI l yX12_tell cX12_tell 4 (some .int) 2 [.ref (ad 200), .int x1, .int x2] D dA true ad al w k := by
  refine zmetI_of (by decide) (Nat.le_of_ble_eq_true rfl) ?_
  intro p e R s m below meth c Q H ls args locs cells slots X hr hQ hR hl
  have hx := X.1
  have hb := X.2.1
  have hml := X.2.2.1
  have hown := X.2.2.2.1
  have hts := X.2.2.2.2.1
  unfold fX12_tell at hf
  have hl : lv_has ls 4 [(0, .ref (ad 200)), (1, .int x1), (2, .int x2)] := hl
  refine lv_aload_n hx hb dX12_tell_0 rfl (lv_at hl 0 rfl) ?_
  refine lv_iconst (v := (0 : Int32)) hx hb dX12_tell_1 (by decide) ?_
  refine z_putI X hR (zlit hR zf_200) zs_200 (by decide) zfp_X12_1 rfl dX12_tell_2 (fun H locs hR => ?_)
  obtain ⟨w1, hw1⟩ : ∃ z : zW, z = sI w 200 0 (0 : Int32) := ⟨_, rfl⟩
  rw [← hw1] at hR
  replace hf := hf w1 hw1
  refine lv_aload_n hx hb dX12_tell_5 rfl (lv_at hl 0 rfl) ?_
  refine lv_iload_n hx hb dX12_tell_6 rfl (lv_at hl 1 rfl) ?_
  refine z_callVI (fr1 := 1) (b := 200) (As := [.int x1]) (rest := []) X (hr.le (by decide)) hR zy_X12_isRow zq_833 (zlit hR zf_200) (by rw [zs_200]; rfl) rfl (mX12_isRow  hf) rfl hl (Nat.le_of_ble_eq_true rfl) dX12_tell_7 rfl (fun r2 w2 H locs hf hR => ?_)
  refine lv_if_eq (tgt := 23) hx hb dX12_tell_10 (by decide) (fun c3 => ?_) (fun c3 => ?_)
  · replace hf := hf.1 c3
    refine lv_bipush (v := (-2 : Int32)) hx hb dX12_tell_23 (by decide) ?_
    exact hQ _ _ _ _ _ _ hf hR dX12_tell_25
  · replace hf := hf.2 c3
    refine lv_iload_n hx hb dX12_tell_13 rfl (lv_at hl 2 rfl) ?_
    refine lv_iconst (v := (0 : Int32)) hx hb dX12_tell_14 (by decide) ?_
    refine lv_bipush (v := (99 : Int32)) hx hb dX12_tell_15 (by decide) ?_
    refine z_callSI (fr1 := 0) (As := [.int x2, .int (0 : Int32), .int (99 : Int32)]) (rest := []) X (hr.le (by decide)) hR zy_X12_within zq_773 (mX12_within  hf) rfl hl (Nat.le_of_ble_eq_true rfl) dX12_tell_17 rfl (fun r4 w4 H locs hf hR => ?_)
    refine lv_if_ne (tgt := 26) hx hb dX12_tell_20 (by decide) (fun c5 => ?_) (fun c5 => ?_)
    · replace hf := hf.1 c5
      refine lv_aload_n hx hb dX12_tell_26 rfl (lv_at hl 0 rfl) ?_
      refine z_callVV (fr1 := 1) (b := 200) (As := []) (rest := []) X (hr.le (by decide)) hR zy_X12_keeps zq_910 (zlit hR zf_200) (by rw [zs_200]; rfl) rfl (mX12_keeps  hf) rfl hl (Nat.le_of_ble_eq_true rfl) dX12_tell_27 rfl (fun w6 H locs hf hR => ?_)
      refine lv_aload_n hx hb dX12_tell_30 rfl (lv_at hl 0 rfl) ?_
      refine z_getS X hR (zlit hR zf_200) zs_200 (by decide) zfd_X12_103 rfl (r := 220) (by decide +kernel) dX12_tell_31 ?_
      refine lv_iconst (v := (4 : Int32)) hx hb dX12_tell_34 (by decide) ?_
      refine lv_iload_n hx hb dX12_tell_35 rfl (lv_at hl 1 rfl) ?_
      refine lv_iadd hx hb dX12_tell_36 ?_
      obtain ⟨hb7, hf⟩ := hf
      refine z_iald X hR (zlit hR zf_220) zs_220 zl_220 hb7 dX12_tell_37 ?_
      refine lv_topi (fun v8 hv8 => ?_)
      replace hf := hf v8 hv8
      refine lv_istore_n (lv' := [(3, .int v8), (0, .ref (ad 200)), (1, .int x1), (2, .int x2)]) hx hb dX12_tell_38 rfl hl (by decide) rfl (fun ls hl => ?_)
      refine lv_aload_n hx hb dX12_tell_39 rfl (lv_at hl 1 rfl) ?_
      refine z_getS X hR (zlit hR zf_200) zs_200 (by decide) zfd_X12_103 rfl (r := 220) (by decide +kernel) dX12_tell_40 ?_
      refine lv_iconst (v := (4 : Int32)) hx hb dX12_tell_43 (by decide) ?_
      refine lv_iload_n hx hb dX12_tell_44 rfl (lv_at hl 2 rfl) ?_
      refine lv_iadd hx hb dX12_tell_45 ?_
      refine lv_iload_n hx hb dX12_tell_46 rfl (lv_at hl 3 rfl) ?_
      refine z_iast X hR (zlit hR zf_220) zs_220 zl_220 hb7 dX12_tell_47 (fun H locs hR => ?_)
      obtain ⟨w9, hw9⟩ : ∃ z : zW, z = sI w6 220 ((4 : Int32) + x1).toNatClampNeg x2 := ⟨_, rfl⟩
      rw [← hw9] at hR
      replace hf := hf w9 hw9
      refine lv_iload_n hx hb dX12_tell_48 rfl (lv_at hl 0 rfl) ?_
      exact hQ _ _ _ _ _ _ hf hR dX12_tell_49
    · replace hf := hf.2 c5
      refine lv_bipush (v := (-2 : Int32)) hx hb dX12_tell_23 (by decide) ?_
      exact hQ _ _ _ _ _ _ hf hR dX12_tell_25
/-! X12_drop -/
def fX12_drop (x1 : Int32) (w : zW) (k : Int32 → zW → Prop) : Prop :=
  ∀ w1 : zW, w1 = sI w 200 0 (0 : Int32) →
  fX12_isRow x1 w1 (fun r2 w2 =>
  ((r2 = 0 →
    k (-1 : Int32) w2) ∧
   (¬ r2 = 0 →
    vp_in ((4 : Int32) + x1) 252 ∧ 
    ((0 ≤ (gI w2 220 ((4 : Int32) + x1).toNatClampNeg) →
      fX12_keeps  w2 (fun w6 =>
      ∀ v7 : Int32, v7 = gI w6 220 ((4 : Int32) + x1).toNatClampNeg →
      ∀ w8 : zW, w8 = sI w6 220 ((4 : Int32) + x1).toNatClampNeg (-1 : Int32) →
      k v7 w8)) ∧
     (¬ 0 ≤ (gI w2 220 ((4 : Int32) + x1).toNatClampNeg) →
      k (-1 : Int32) w2)))))
set_option maxHeartbeats 4000000 in
set_option maxRecDepth 100000 in
theorem mX12_drop {l : Launch} {D : va_G} {dA : Nat → ClassId} {ad : Nat → Nat} {al : Nat → Prop} {w : zW} {k : Int32 → zW → Prop} {x1 : Int32}   (hf : fX12_drop x1 w k) : zmetI l yX12_drop cX12_drop 3 (some .int) 2 [.ref (ad 200), .int x1] D dA true ad al w k := by
  refine zmetI_of (by decide) (Nat.le_of_ble_eq_true rfl) ?_
  intro p e R s m below meth c Q H ls args locs cells slots X hr hQ hR hl
  have hx := X.1
  have hb := X.2.1
  have hml := X.2.2.1
  have hown := X.2.2.2.1
  have hts := X.2.2.2.2.1
  unfold fX12_drop at hf
  have hl : lv_has ls 3 [(0, .ref (ad 200)), (1, .int x1)] := hl
  refine lv_aload_n hx hb dX12_drop_0 rfl (lv_at hl 0 rfl) ?_
  refine lv_iconst (v := (0 : Int32)) hx hb dX12_drop_1 (by decide) ?_
  refine z_putI X hR (zlit hR zf_200) zs_200 (by decide) zfp_X12_1 rfl dX12_drop_2 (fun H locs hR => ?_)
  obtain ⟨w1, hw1⟩ : ∃ z : zW, z = sI w 200 0 (0 : Int32) := ⟨_, rfl⟩
  rw [← hw1] at hR
  replace hf := hf w1 hw1
  refine lv_aload_n hx hb dX12_drop_5 rfl (lv_at hl 0 rfl) ?_
  refine lv_iload_n hx hb dX12_drop_6 rfl (lv_at hl 1 rfl) ?_
  refine z_callVI (fr1 := 1) (b := 200) (As := [.int x1]) (rest := []) X (hr.le (by decide)) hR zy_X12_isRow zq_833 (zlit hR zf_200) (by rw [zs_200]; rfl) rfl (mX12_isRow  hf) rfl hl (Nat.le_of_ble_eq_true rfl) dX12_drop_7 rfl (fun r2 w2 H locs hf hR => ?_)
  refine lv_if_eq (tgt := 24) hx hb dX12_drop_10 (by decide) (fun c3 => ?_) (fun c3 => ?_)
  · replace hf := hf.1 c3
    refine lv_iconst (v := (-1 : Int32)) hx hb dX12_drop_24 (by decide) ?_
    exact hQ _ _ _ _ _ _ hf hR dX12_drop_25
  · replace hf := hf.2 c3
    refine lv_aload_n hx hb dX12_drop_13 rfl (lv_at hl 0 rfl) ?_
    refine z_getS X hR (zlit hR zf_200) zs_200 (by decide) zfd_X12_103 rfl (r := 220) (by decide +kernel) dX12_drop_14 ?_
    refine lv_iconst (v := (4 : Int32)) hx hb dX12_drop_17 (by decide) ?_
    refine lv_iload_n hx hb dX12_drop_18 rfl (lv_at hl 1 rfl) ?_
    refine lv_iadd hx hb dX12_drop_19 ?_
    obtain ⟨hb4, hf⟩ := hf
    refine z_iald X hR (zlit hR zf_220) zs_220 zl_220 hb4 dX12_drop_20 ?_
    refine lv_if_ge (tgt := 26) hx hb dX12_drop_21 (by decide) (fun c5 => ?_) (fun c5 => ?_)
    · replace hf := hf.1 c5
      refine lv_aload_n hx hb dX12_drop_26 rfl (lv_at hl 0 rfl) ?_
      refine z_callVV (fr1 := 1) (b := 200) (As := []) (rest := []) X (hr.le (by decide)) hR zy_X12_keeps zq_910 (zlit hR zf_200) (by rw [zs_200]; rfl) rfl (mX12_keeps  hf) rfl hl (Nat.le_of_ble_eq_true rfl) dX12_drop_27 rfl (fun w6 H locs hf hR => ?_)
      refine lv_aload_n hx hb dX12_drop_30 rfl (lv_at hl 0 rfl) ?_
      refine z_getS X hR (zlit hR zf_200) zs_200 (by decide) zfd_X12_103 rfl (r := 220) (by decide +kernel) dX12_drop_31 ?_
      refine lv_iconst (v := (4 : Int32)) hx hb dX12_drop_34 (by decide) ?_
      refine lv_iload_n hx hb dX12_drop_35 rfl (lv_at hl 1 rfl) ?_
      refine lv_iadd hx hb dX12_drop_36 ?_
      refine z_iald X hR (zlit hR zf_220) zs_220 zl_220 hb4 dX12_drop_37 ?_
      refine lv_topi (fun v7 hv7 => ?_)
      replace hf := hf v7 hv7
      refine lv_istore_n (lv' := [(2, .int v7), (0, .ref (ad 200)), (1, .int x1)]) hx hb dX12_drop_38 rfl hl (by decide) rfl (fun ls hl => ?_)
      refine lv_aload_n hx hb dX12_drop_39 rfl (lv_at hl 1 rfl) ?_
      refine z_getS X hR (zlit hR zf_200) zs_200 (by decide) zfd_X12_103 rfl (r := 220) (by decide +kernel) dX12_drop_40 ?_
      refine lv_iconst (v := (4 : Int32)) hx hb dX12_drop_43 (by decide) ?_
      refine lv_iload_n hx hb dX12_drop_44 rfl (lv_at hl 2 rfl) ?_
      refine lv_iadd hx hb dX12_drop_45 ?_
      refine lv_iconst (v := (-1 : Int32)) hx hb dX12_drop_46 (by decide) ?_
      refine z_iast X hR (zlit hR zf_220) zs_220 zl_220 hb4 dX12_drop_47 (fun H locs hR => ?_)
      obtain ⟨w8, hw8⟩ : ∃ z : zW, z = sI w6 220 ((4 : Int32) + x1).toNatClampNeg (-1 : Int32) := ⟨_, rfl⟩
      rw [← hw8] at hR
      replace hf := hf w8 hw8
      refine lv_iload_n hx hb dX12_drop_48 rfl (lv_at hl 0 rfl) ?_
      exact hQ _ _ _ _ _ _ hf hR dX12_drop_49
    · replace hf := hf.2 c5
      refine lv_iconst (v := (-1 : Int32)) hx hb dX12_drop_24 (by decide) ?_
      exact hQ _ _ _ _ _ _ hf hR dX12_drop_25
/-! X12_undo -/
def fX12_undo (w : zW) (k : Int32 → zW → Prop) : Prop :=
  ∀ w1 : zW, w1 = sI w 200 0 (0 : Int32) →
  ((¬ (gI w1 200 21) = 0 →
    ∀ w3 : zW, w3 = sI w1 200 21 ((gI w1 200 21) - (1 : Int32)) →
    fX12_copies ((12 : Int32) * ((5 : Int32) + (gI w3 200 21))) (0 : Int32) (12 : Int32) w3 (fun w4 =>
    k (1 : Int32) w4)) ∧
   ((gI w1 200 21) = 0 →
    k (0 : Int32) w1))
set_option maxHeartbeats 4000000 in
set_option maxRecDepth 100000 in
theorem mX12_undo {l : Launch} {D : va_G} {dA : Nat → ClassId} {ad : Nat → Nat} {al : Nat → Prop} {w : zW} {k : Int32 → zW → Prop}   (hf : fX12_undo w k) : zmetI l yX12_undo cX12_undo 1 (some .boolean) 1 [.ref (ad 200)] D dA true ad al w k := by
  refine zmetZ_of (by decide) (Nat.le_of_ble_eq_true rfl) ?_
  intro p e R s m below meth c Q H ls args locs cells slots X hr hQ hR hl
  have hx := X.1
  have hb := X.2.1
  have hml := X.2.2.1
  have hown := X.2.2.2.1
  have hts := X.2.2.2.2.1
  unfold fX12_undo at hf
  have hl : lv_has ls 1 [(0, .ref (ad 200))] := hl
  refine lv_aload_n hx hb dX12_undo_0 rfl (lv_at hl 0 rfl) ?_
  refine lv_iconst (v := (0 : Int32)) hx hb dX12_undo_1 (by decide) ?_
  refine z_putI X hR (zlit hR zf_200) zs_200 (by decide) zfp_X12_1 rfl dX12_undo_2 (fun H locs hR => ?_)
  obtain ⟨w1, hw1⟩ : ∃ z : zW, z = sI w 200 0 (0 : Int32) := ⟨_, rfl⟩
  rw [← hw1] at hR
  replace hf := hf w1 hw1
  refine lv_aload_n hx hb dX12_undo_5 rfl (lv_at hl 0 rfl) ?_
  refine z_getI X hR (zlit hR zf_200) zs_200 (by decide) zfd_X12_305 rfl dX12_undo_6 ?_
  refine lv_if_ne (tgt := 14) hx hb dX12_undo_9 (by decide) (fun c2 => ?_) (fun c2 => ?_)
  · replace hf := hf.1 c2
    refine lv_aload_n hx hb dX12_undo_14 rfl (lv_at hl 0 rfl) ?_
    refine lv_dup hx hb dX12_undo_15 rfl ?_
    refine z_getI X hR (zlit hR zf_200) zs_200 (by decide) zfd_X12_305 rfl dX12_undo_16 ?_
    refine lv_iconst (v := (1 : Int32)) hx hb dX12_undo_19 (by decide) ?_
    refine lv_isub hx hb dX12_undo_20 ?_
    refine z_putI X hR (zlit hR zf_200) zs_200 (by decide) zfp_X12_305 rfl dX12_undo_21 (fun H locs hR => ?_)
    obtain ⟨w3, hw3⟩ : ∃ z : zW, z = sI w1 200 21 ((gI w1 200 21) - (1 : Int32)) := ⟨_, rfl⟩
    rw [← hw3] at hR
    replace hf := hf w3 hw3
    refine lv_aload_n hx hb dX12_undo_24 rfl (lv_at hl 0 rfl) ?_
    refine lv_bipush (v := (12 : Int32)) hx hb dX12_undo_25 (by decide) ?_
    refine lv_iconst (v := (5 : Int32)) hx hb dX12_undo_27 (by decide) ?_
    refine lv_aload_n hx hb dX12_undo_28 rfl (lv_at hl 0 rfl) ?_
    refine z_getI X hR (zlit hR zf_200) zs_200 (by decide) zfd_X12_305 rfl dX12_undo_29 ?_
    refine lv_iadd hx hb dX12_undo_32 ?_
    refine lv_imul hx hb dX12_undo_33 ?_
    refine lv_iconst (v := (0 : Int32)) hx hb dX12_undo_34 (by decide) ?_
    refine lv_bipush (v := (12 : Int32)) hx hb dX12_undo_35 (by decide) ?_
    refine z_callVV (fr1 := 0) (b := 200) (As := [.int ((12 : Int32) * ((5 : Int32) + (gI w3 200 21))), .int (0 : Int32), .int (12 : Int32)]) (rest := []) X (hr.le (by decide)) hR zy_X12_copies zq_914 (zlit hR zf_200) (by rw [zs_200]; rfl) rfl (mX12_copies  hf) rfl hl (Nat.le_of_ble_eq_true rfl) dX12_undo_37 rfl (fun w4 H locs hf hR => ?_)
    refine lv_iconst (v := (1 : Int32)) hx hb dX12_undo_40 (by decide) ?_
    exact hQ _ _ _ _ _ _ zb01_1 hf hR dX12_undo_41
  · replace hf := hf.2 c2
    refine lv_iconst (v := (0 : Int32)) hx hb dX12_undo_12 (by decide) ?_
    exact hQ _ _ _ _ _ _ zb01_0 hf hR dX12_undo_13
/-! X12_doesLine -/
def fX12_doesLine (x1 : Int32) (w : zW) (k : Int32 → zW → Prop) : Prop :=
  vp_in (x1 + (1 : Int32)) 330 ∧ 
  ∀ v2 : Int32, v2 = gI w 217 (x1 + (1 : Int32)).toNatClampNeg →
  vp_in x1 330 ∧ 
  ∀ sv4 : Int32, sv4 = gI w 217 x1.toNatClampNeg →
  ((sv4 = (0 : Int32) →
    vp_in (x1 + (2 : Int32)) 330 ∧ 
    vp_in (x1 + (3 : Int32)) 330 ∧ 
    fX12_mayGuess v2 (gI w 217 (x1 + (2 : Int32)).toNatClampNeg) (gI w 217 (x1 + (3 : Int32)).toNatClampNeg) w (fun r8 w8 =>
    ((¬ r8 = 0 →
      vp_in v2 252 ∧ 
      ∀ w11 : zW, w11 = sI w8 220 v2.toNatClampNeg (((3 : Int32) * (gI w8 217 (x1 + (2 : Int32)).toNatClampNeg)) + (gI w8 217 (x1 + (3 : Int32)).toNatClampNeg)) →
      k (1 : Int32) w11) ∧
     (r8 = 0 →
      k (0 : Int32) w8)))) ∧
  (¬ sv4 = (0 : Int32) →
  ((sv4 = (1 : Int32) →
    vp_in v2 252 ∧ 
    ((0 ≤ (gI w 220 v2.toNatClampNeg) →
      ∀ w15 : zW, w15 = sI w 220 v2.toNatClampNeg (-1 : Int32) →
      k (1 : Int32) w15) ∧
     (¬ 0 ≤ (gI w 220 v2.toNatClampNeg) →
      k (0 : Int32) w))) ∧
  (¬ sv4 = (1 : Int32) →
  ((sv4 = (2 : Int32) →
    vp_in (x1 + (2 : Int32)) 330 ∧ 
    vp_in ((4 : Int32) + v2) 252 ∧ 
    ∀ w19 : zW, w19 = sI w 220 ((4 : Int32) + v2).toNatClampNeg (gI w 217 (x1 + (2 : Int32)).toNatClampNeg) →
    k (1 : Int32) w19) ∧
  (¬ sv4 = (2 : Int32) →
  
  vp_in ((4 : Int32) + v2) 252 ∧ 
  ((0 ≤ (gI w 220 ((4 : Int32) + v2).toNatClampNeg) →
    ∀ w22 : zW, w22 = sI w 220 ((4 : Int32) + v2).toNatClampNeg (-1 : Int32) →
    k (1 : Int32) w22) ∧
   (¬ 0 ≤ (gI w 220 ((4 : Int32) + v2).toNatClampNeg) →
    k (0 : Int32) w))))))))
set_option maxHeartbeats 4000000 in
set_option maxRecDepth 100000 in
theorem mX12_doesLine {l : Launch} {D : va_G} {dA : Nat → ClassId} {ad : Nat → Nat} {al : Nat → Prop} {w : zW} {k : Int32 → zW → Prop} {x1 : Int32}   (hf : fX12_doesLine x1 w k) : zmetI l yX12_doesLine cX12_doesLine 3 (some .boolean) 2 [.ref (ad 200), .int x1] D dA true ad al w k := by
  refine zmetZ_of (by decide) (Nat.le_of_ble_eq_true rfl) ?_
  intro p e R s m below meth c Q H ls args locs cells slots X hr hQ hR hl
  have hx := X.1
  have hb := X.2.1
  have hml := X.2.2.1
  have hown := X.2.2.2.1
  have hts := X.2.2.2.2.1
  unfold fX12_doesLine at hf
  have hl : lv_has ls 3 [(0, .ref (ad 200)), (1, .int x1)] := hl
  refine lv_aload_n hx hb dX12_doesLine_0 rfl (lv_at hl 0 rfl) ?_
  refine z_getS X hR (zlit hR zf_200) zs_200 (by decide) zfd_X12_94 rfl (r := 217) (by decide +kernel) dX12_doesLine_1 ?_
  refine lv_iload_n hx hb dX12_doesLine_4 rfl (lv_at hl 1 rfl) ?_
  refine lv_iconst (v := (1 : Int32)) hx hb dX12_doesLine_5 (by decide) ?_
  refine lv_iadd hx hb dX12_doesLine_6 ?_
  obtain ⟨hb1, hf⟩ := hf
  refine z_iald X hR (zlit hR zf_217) zs_217 zl_217 hb1 dX12_doesLine_7 ?_
  refine lv_topi (fun v2 hv2 => ?_)
  replace hf := hf v2 hv2
  refine lv_istore_n (lv' := [(2, .int v2), (0, .ref (ad 200)), (1, .int x1)]) hx hb dX12_doesLine_8 rfl hl (by decide) rfl (fun ls hl => ?_)
  refine lv_aload_n hx hb dX12_doesLine_9 rfl (lv_at hl 1 rfl) ?_
  refine z_getS X hR (zlit hR zf_200) zs_200 (by decide) zfd_X12_94 rfl (r := 217) (by decide +kernel) dX12_doesLine_10 ?_
  refine lv_iload_n hx hb dX12_doesLine_13 rfl (lv_at hl 2 rfl) ?_
  obtain ⟨hb3, hf⟩ := hf
  refine z_iald X hR (zlit hR zf_217) zs_217 zl_217 hb3 dX12_doesLine_14 ?_
  refine lv_topi (fun sv4 hsv4 => ?_)
  replace hf := hf sv4 hsv4
  by_cases c5 : sv4 = (0 : Int32)
  · replace hf := hf.1 c5
    refine lv_tableIn (off := 25) (tgt := 40) hx hb dX12_doesLine_15 (by rw [c5]; decide) (by rw [c5]; decide) (by rw [c5]; decide) (by decide) ?_
    refine lv_aload_n hx hb dX12_doesLine_40 rfl (lv_at hl 1 rfl) ?_
    refine lv_iload_n hx hb dX12_doesLine_41 rfl (lv_at hl 0 rfl) ?_
    refine lv_aload_n hx hb dX12_doesLine_42 rfl (lv_at hl 1 rfl) ?_
    refine z_getS X hR (zlit hR zf_200) zs_200 (by decide) zfd_X12_94 rfl (r := 217) (by decide +kernel) dX12_doesLine_43 ?_
    refine lv_iload_n hx hb dX12_doesLine_46 rfl (lv_at hl 2 rfl) ?_
    refine lv_iconst (v := (2 : Int32)) hx hb dX12_doesLine_47 (by decide) ?_
    refine lv_iadd hx hb dX12_doesLine_48 ?_
    obtain ⟨hb6, hf⟩ := hf
    refine z_iald X hR (zlit hR zf_217) zs_217 zl_217 hb6 dX12_doesLine_49 ?_
    refine lv_aload_n hx hb dX12_doesLine_50 rfl (lv_at hl 1 rfl) ?_
    refine z_getS X hR (zlit hR zf_200) zs_200 (by decide) zfd_X12_94 rfl (r := 217) (by decide +kernel) dX12_doesLine_51 ?_
    refine lv_iload_n hx hb dX12_doesLine_54 rfl (lv_at hl 2 rfl) ?_
    refine lv_iconst (v := (3 : Int32)) hx hb dX12_doesLine_55 (by decide) ?_
    refine lv_iadd hx hb dX12_doesLine_56 ?_
    obtain ⟨hb7, hf⟩ := hf
    refine z_iald X hR (zlit hR zf_217) zs_217 zl_217 hb7 dX12_doesLine_57 ?_
    refine z_callVI (fr1 := 1) (b := 200) (As := [.int v2, .int (gI w 217 (x1 + (2 : Int32)).toNatClampNeg), .int (gI w 217 (x1 + (3 : Int32)).toNatClampNeg)]) (rest := []) X (hr.le (by decide)) hR zy_X12_mayGuess zq_906 (zlit hR zf_200) (by rw [zs_200]; rfl) rfl (mX12_mayGuess  hf) rfl hl (Nat.le_of_ble_eq_true rfl) dX12_doesLine_58 rfl (fun r8 w8 H locs hf hR => ?_)
    refine lv_if_ne (tgt := 66) hx hb dX12_doesLine_61 (by decide) (fun c9 => ?_) (fun c9 => ?_)
    · replace hf := hf.1 c9
      refine lv_aload_n hx hb dX12_doesLine_66 rfl (lv_at hl 1 rfl) ?_
      refine z_getS X hR (zlit hR zf_200) zs_200 (by decide) zfd_X12_103 rfl (r := 220) (by decide +kernel) dX12_doesLine_67 ?_
      refine lv_iload_n hx hb dX12_doesLine_70 rfl (lv_at hl 0 rfl) ?_
      refine lv_iconst (v := (3 : Int32)) hx hb dX12_doesLine_71 (by decide) ?_
      refine lv_aload_n hx hb dX12_doesLine_72 rfl (lv_at hl 1 rfl) ?_
      refine z_getS X hR (zlit hR zf_200) zs_200 (by decide) zfd_X12_94 rfl (r := 217) (by decide +kernel) dX12_doesLine_73 ?_
      refine lv_iload_n hx hb dX12_doesLine_76 rfl (lv_at hl 2 rfl) ?_
      refine lv_iconst (v := (2 : Int32)) hx hb dX12_doesLine_77 (by decide) ?_
      refine lv_iadd hx hb dX12_doesLine_78 ?_
      refine z_iald X hR (zlit hR zf_217) zs_217 zl_217 hb6 dX12_doesLine_79 ?_
      refine lv_imul hx hb dX12_doesLine_80 ?_
      refine lv_aload_n hx hb dX12_doesLine_81 rfl (lv_at hl 1 rfl) ?_
      refine z_getS X hR (zlit hR zf_200) zs_200 (by decide) zfd_X12_94 rfl (r := 217) (by decide +kernel) dX12_doesLine_82 ?_
      refine lv_iload_n hx hb dX12_doesLine_85 rfl (lv_at hl 2 rfl) ?_
      refine lv_iconst (v := (3 : Int32)) hx hb dX12_doesLine_86 (by decide) ?_
      refine lv_iadd hx hb dX12_doesLine_87 ?_
      refine z_iald X hR (zlit hR zf_217) zs_217 zl_217 hb7 dX12_doesLine_88 ?_
      refine lv_iadd hx hb dX12_doesLine_89 ?_
      obtain ⟨hb10, hf⟩ := hf
      refine z_iast X hR (zlit hR zf_220) zs_220 zl_220 hb10 dX12_doesLine_90 (fun H locs hR => ?_)
      obtain ⟨w11, hw11⟩ : ∃ z : zW, z = sI w8 220 v2.toNatClampNeg (((3 : Int32) * (gI w8 217 (x1 + (2 : Int32)).toNatClampNeg)) + (gI w8 217 (x1 + (3 : Int32)).toNatClampNeg)) := ⟨_, rfl⟩
      rw [← hw11] at hR
      replace hf := hf w11 hw11
      refine lv_iconst (v := (1 : Int32)) hx hb dX12_doesLine_91 (by decide) ?_
      exact hQ _ _ _ _ _ _ zb01_1 hf hR dX12_doesLine_92
    · replace hf := hf.2 c9
      refine lv_iconst (v := (0 : Int32)) hx hb dX12_doesLine_64 (by decide) ?_
      exact hQ _ _ _ _ _ _ zb01_0 hf hR dX12_doesLine_65
  replace hf := hf.2 c5
  by_cases c12 : sv4 = (1 : Int32)
  · replace hf := hf.1 c12
    refine lv_tableIn (off := 78) (tgt := 93) hx hb dX12_doesLine_15 (by rw [c12]; decide) (by rw [c12]; decide) (by rw [c12]; decide) (by decide) ?_
    refine lv_aload_n hx hb dX12_doesLine_93 rfl (lv_at hl 1 rfl) ?_
    refine z_getS X hR (zlit hR zf_200) zs_200 (by decide) zfd_X12_103 rfl (r := 220) (by decide +kernel) dX12_doesLine_94 ?_
    refine lv_iload_n hx hb dX12_doesLine_97 rfl (lv_at hl 0 rfl) ?_
    obtain ⟨hb13, hf⟩ := hf
    refine z_iald X hR (zlit hR zf_220) zs_220 zl_220 hb13 dX12_doesLine_98 ?_
    refine lv_if_ge (tgt := 104) hx hb dX12_doesLine_99 (by decide) (fun c14 => ?_) (fun c14 => ?_)
    · replace hf := hf.1 c14
      refine lv_aload_n hx hb dX12_doesLine_104 rfl (lv_at hl 1 rfl) ?_
      refine z_getS X hR (zlit hR zf_200) zs_200 (by decide) zfd_X12_103 rfl (r := 220) (by decide +kernel) dX12_doesLine_105 ?_
      refine lv_iload_n hx hb dX12_doesLine_108 rfl (lv_at hl 0 rfl) ?_
      refine lv_iconst (v := (-1 : Int32)) hx hb dX12_doesLine_109 (by decide) ?_
      refine z_iast X hR (zlit hR zf_220) zs_220 zl_220 hb13 dX12_doesLine_110 (fun H locs hR => ?_)
      obtain ⟨w15, hw15⟩ : ∃ z : zW, z = sI w 220 v2.toNatClampNeg (-1 : Int32) := ⟨_, rfl⟩
      rw [← hw15] at hR
      replace hf := hf w15 hw15
      refine lv_iconst (v := (1 : Int32)) hx hb dX12_doesLine_111 (by decide) ?_
      exact hQ _ _ _ _ _ _ zb01_1 hf hR dX12_doesLine_112
    · replace hf := hf.2 c14
      refine lv_iconst (v := (0 : Int32)) hx hb dX12_doesLine_102 (by decide) ?_
      exact hQ _ _ _ _ _ _ zb01_0 hf hR dX12_doesLine_103
  replace hf := hf.2 c12
  by_cases c16 : sv4 = (2 : Int32)
  · replace hf := hf.1 c16
    refine lv_tableIn (off := 98) (tgt := 113) hx hb dX12_doesLine_15 (by rw [c16]; decide) (by rw [c16]; decide) (by rw [c16]; decide) (by decide) ?_
    refine lv_aload_n hx hb dX12_doesLine_113 rfl (lv_at hl 1 rfl) ?_
    refine z_getS X hR (zlit hR zf_200) zs_200 (by decide) zfd_X12_103 rfl (r := 220) (by decide +kernel) dX12_doesLine_114 ?_
    refine lv_iconst (v := (4 : Int32)) hx hb dX12_doesLine_117 (by decide) ?_
    refine lv_iload_n hx hb dX12_doesLine_118 rfl (lv_at hl 0 rfl) ?_
    refine lv_iadd hx hb dX12_doesLine_119 ?_
    refine lv_aload_n hx hb dX12_doesLine_120 rfl (lv_at hl 1 rfl) ?_
    refine z_getS X hR (zlit hR zf_200) zs_200 (by decide) zfd_X12_94 rfl (r := 217) (by decide +kernel) dX12_doesLine_121 ?_
    refine lv_iload_n hx hb dX12_doesLine_124 rfl (lv_at hl 2 rfl) ?_
    refine lv_iconst (v := (2 : Int32)) hx hb dX12_doesLine_125 (by decide) ?_
    refine lv_iadd hx hb dX12_doesLine_126 ?_
    obtain ⟨hb17, hf⟩ := hf
    refine z_iald X hR (zlit hR zf_217) zs_217 zl_217 hb17 dX12_doesLine_127 ?_
    obtain ⟨hb18, hf⟩ := hf
    refine z_iast X hR (zlit hR zf_220) zs_220 zl_220 hb18 dX12_doesLine_128 (fun H locs hR => ?_)
    obtain ⟨w19, hw19⟩ : ∃ z : zW, z = sI w 220 ((4 : Int32) + v2).toNatClampNeg (gI w 217 (x1 + (2 : Int32)).toNatClampNeg) := ⟨_, rfl⟩
    rw [← hw19] at hR
    replace hf := hf w19 hw19
    refine lv_iconst (v := (1 : Int32)) hx hb dX12_doesLine_129 (by decide) ?_
    exact hQ _ _ _ _ _ _ zb01_1 hf hR dX12_doesLine_130
  replace hf := hf.2 c16
  have ho15 : sv4.toInt < 0 ∨ 2 < sv4.toInt := by
    have := z_i32ne (k := (0 : Int32)) c5
    have := z_i32ne (k := (1 : Int32)) c12
    have := z_i32ne (k := (2 : Int32)) c16
    simp only [show ((0 : Int32)).toInt = 0 from by decide, show ((1 : Int32)).toInt = 1 from by decide, show ((2 : Int32)).toInt = 2 from by decide] at *
    omega
  refine lv_tableOut (tgt := 131) hx hb dX12_doesLine_15 ho15 (by decide) ?_
  refine lv_aload_n hx hb dX12_doesLine_131 rfl (lv_at hl 1 rfl) ?_
  refine z_getS X hR (zlit hR zf_200) zs_200 (by decide) zfd_X12_103 rfl (r := 220) (by decide +kernel) dX12_doesLine_132 ?_
  refine lv_iconst (v := (4 : Int32)) hx hb dX12_doesLine_135 (by decide) ?_
  refine lv_iload_n hx hb dX12_doesLine_136 rfl (lv_at hl 0 rfl) ?_
  refine lv_iadd hx hb dX12_doesLine_137 ?_
  obtain ⟨hb20, hf⟩ := hf
  refine z_iald X hR (zlit hR zf_220) zs_220 zl_220 hb20 dX12_doesLine_138 ?_
  refine lv_if_ge (tgt := 144) hx hb dX12_doesLine_139 (by decide) (fun c21 => ?_) (fun c21 => ?_)
  · replace hf := hf.1 c21
    refine lv_aload_n hx hb dX12_doesLine_144 rfl (lv_at hl 1 rfl) ?_
    refine z_getS X hR (zlit hR zf_200) zs_200 (by decide) zfd_X12_103 rfl (r := 220) (by decide +kernel) dX12_doesLine_145 ?_
    refine lv_iconst (v := (4 : Int32)) hx hb dX12_doesLine_148 (by decide) ?_
    refine lv_iload_n hx hb dX12_doesLine_149 rfl (lv_at hl 0 rfl) ?_
    refine lv_iadd hx hb dX12_doesLine_150 ?_
    refine lv_iconst (v := (-1 : Int32)) hx hb dX12_doesLine_151 (by decide) ?_
    refine z_iast X hR (zlit hR zf_220) zs_220 zl_220 hb20 dX12_doesLine_152 (fun H locs hR => ?_)
    obtain ⟨w22, hw22⟩ : ∃ z : zW, z = sI w 220 ((4 : Int32) + v2).toNatClampNeg (-1 : Int32) := ⟨_, rfl⟩
    rw [← hw22] at hR
    replace hf := hf w22 hw22
    refine lv_iconst (v := (1 : Int32)) hx hb dX12_doesLine_153 (by decide) ?_
    exact hQ _ _ _ _ _ _ zb01_1 hf hR dX12_doesLine_154
  · replace hf := hf.2 c21
    refine lv_iconst (v := (0 : Int32)) hx hb dX12_doesLine_142 (by decide) ?_
    exact hQ _ _ _ _ _ _ zb01_0 hf hR dX12_doesLine_143
/-! X12_allDictionaries -/
def fX12_allDictionaries_L4 (k : Int32 → zW → Prop) : Nat → Int32 → Int32 → zW → Prop
  | 0 => fun _ _ _ => False
  | n + 1 => fun x1 x2 w =>
    fX12_wordsTold  w (fun r1 w1 =>
    ((r1 ≤ x2 →
      k x1 w1) ∧
     (¬ r1 ≤ x2 →
      ∀ v3 : Int32, v3 = x1 * (9 : Int32) →
      fX12_allDictionaries_L4 k n v3 (x2 + (1 : Int32)) w1)))
set_option maxHeartbeats 4000000 in
set_option maxRecDepth 100000 in
theorem mX12_allDictionaries_L4 {k : Int32 → zW → Prop} (X : zCx p s m args meth c cX12_allDictionaries 3 RX12 (some .int)) (hr : zRm R 1 cells slots) (hQ : zRetI p l e R s m args below meth c cells slots Q D dA true ad0 al0 ad al cX12_allDictionaries k)  : ∀ (n : Nat) (x1 : Int32) (x2 : Int32) (w : zW) (H : Heap) (locs : List Loc) (ls : Array Slot), fX12_allDictionaries_L4 k n x1 x2 w → zSt D dA true ad0 al0 ad al w s H locs → lv_has ls 3 [(0, .ref (ad 200)), (1, .int x1), (2, .int x2)] → W p l e R s m args below meth c H locs cells slots Q (F0 m 4 ls []) := by
  intro n
  induction n with
  | zero => exact fun _ _ _ _ _ _ hf => hf.elim
  | succ n ih =>
    intro x1 x2 w H locs ls hf hR hl
    have hx := X.1
    have hb := X.2.1
    have hml := X.2.2.1
    have hown := X.2.2.2.1
    have hts := X.2.2.2.2.1
    rw [fX12_allDictionaries_L4] at hf
    refine lv_iload_n hx hb dX12_allDictionaries_4 rfl (lv_at hl 2 rfl) ?_
    refine lv_aload_n hx hb dX12_allDictionaries_5 rfl (lv_at hl 0 rfl) ?_
    refine z_callVI (fr1 := 0) (b := 200) (As := []) (rest := [.int x2]) X (hr.le (by decide)) hR zy_X12_wordsTold zq_211 (zlit hR zf_200) (by rw [zs_200]; rfl) rfl (mX12_wordsTold  hf) rfl hl (Nat.le_of_ble_eq_true rfl) dX12_allDictionaries_6 rfl (fun r1 w1 H locs hf hR => ?_)
    refine lv_icmp_ge (tgt := 23) hx hb dX12_allDictionaries_9 (by decide) (fun c2 => ?_) (fun c2 => ?_)
    · replace hf := hf.1 c2
      refine lv_iload_n hx hb dX12_allDictionaries_23 rfl (lv_at hl 1 rfl) ?_
      exact hQ _ _ _ _ _ _ hf hR dX12_allDictionaries_24
    · replace hf := hf.2 c2
      refine lv_iload_n hx hb dX12_allDictionaries_12 rfl (lv_at hl 1 rfl) ?_
      refine lv_bipush (v := (9 : Int32)) hx hb dX12_allDictionaries_13 (by decide) ?_
      refine lv_imul hx hb dX12_allDictionaries_15 ?_
      refine lv_topi (fun v3 hv3 => ?_)
      replace hf := hf v3 hv3
      refine lv_istore_n (lv' := [(1, .int v3), (0, .ref (ad 200)), (2, .int x2)]) hx hb dX12_allDictionaries_16 rfl hl (by decide) rfl (fun ls hl => ?_)
      refine lv_iinc (v := x2 + (1 : Int32)) (lv' := [(2, .int (x2 + (1 : Int32))), (1, .int v3), (0, .ref (ad 200))]) hx hb dX12_allDictionaries_17 hl (k := 2) rfl rfl (by decide) rfl (fun ls hl => ?_)
      refine lv_goto (tgt := 4) hx hb dX12_allDictionaries_20 (by decide) ?_
      exact ih v3 (x2 + (1 : Int32)) w1 _ _ _ hf hR (lv_sub hl [2, 1, 0] rfl)
def fX12_allDictionaries (w : zW) (k : Int32 → zW → Prop) : Prop :=
  ∃ n9, fX12_allDictionaries_L4 k n9 (1 : Int32) (0 : Int32) w
set_option maxHeartbeats 4000000 in
set_option maxRecDepth 100000 in
theorem mX12_allDictionaries {l : Launch} {D : va_G} {dA : Nat → ClassId} {ad : Nat → Nat} {al : Nat → Prop} {w : zW} {k : Int32 → zW → Prop}   (hf : fX12_allDictionaries w k) : zmetI l yX12_allDictionaries cX12_allDictionaries 3 (some .int) 1 [.ref (ad 200)] D dA true ad al w k := by
  refine zmetI_of (by decide) (Nat.le_of_ble_eq_true rfl) ?_
  intro p e R s m below meth c Q H ls args locs cells slots X hr hQ hR hl
  have hx := X.1
  have hb := X.2.1
  have hml := X.2.2.1
  have hown := X.2.2.2.1
  have hts := X.2.2.2.2.1
  unfold fX12_allDictionaries at hf
  have hl : lv_has ls 3 [(0, .ref (ad 200))] := hl
  refine lv_iconst (v := (1 : Int32)) hx hb dX12_allDictionaries_0 (by decide) ?_
  refine lv_istore_n (lv' := [(1, .int (1 : Int32)), (0, .ref (ad 200))]) hx hb dX12_allDictionaries_1 rfl hl (by decide) rfl (fun ls hl => ?_)
  refine lv_iconst (v := (0 : Int32)) hx hb dX12_allDictionaries_2 (by decide) ?_
  refine lv_istore_n (lv' := [(2, .int (0 : Int32)), (1, .int (1 : Int32)), (0, .ref (ad 200))]) hx hb dX12_allDictionaries_3 rfl hl (by decide) rfl (fun ls hl => ?_)
  obtain ⟨n9, hf⟩ := hf
  exact mX12_allDictionaries_L4 X hr hQ  n9 (1 : Int32) (0 : Int32) w _ _ _ hf hR (lv_sub hl [2, 1, 0] rfl)
/-! X12_clears -/
def fX12_clears_L76 (k : zW → Prop) : Nat → Int32 → zW → Prop
  | 0 => fun _ _ => False
  | n + 1 => fun x1 w =>
    (((8 : Int32) ≤ x1 →
      k w) ∧
     (¬ (8 : Int32) ≤ x1 →
      vp_in x1 8 ∧ 
      ∀ w8 : zW, w8 = sI w 238 x1.toNatClampNeg (0 : Int32) →
      ∀ w9 : zW, w9 = sI w8 239 x1.toNatClampNeg (0 : Int32) →
      fX12_clears_L76 k n (x1 + (1 : Int32)) w9))
set_option maxHeartbeats 4000000 in
set_option maxRecDepth 100000 in
theorem mX12_clears_L76 {k : zW → Prop} (X : zCx p s m args meth c cX12_clears 2 RX12 none) (hr : zRm R 0 cells slots) (hQ : zRetV p l e R s m args below meth c cells slots Q D dA true ad0 al0 ad al cX12_clears k)  : ∀ (n : Nat) (x1 : Int32) (w : zW) (H : Heap) (locs : List Loc) (ls : Array Slot), fX12_clears_L76 k n x1 w → zSt D dA true ad0 al0 ad al w s H locs → lv_has ls 2 [(0, .ref (ad 200)), (1, .int x1)] → W p l e R s m args below meth c H locs cells slots Q (F0 m 76 ls []) := by
  intro n
  induction n with
  | zero => exact fun _ _ _ _ _ hf => hf.elim
  | succ n ih =>
    intro x1 w H locs ls hf hR hl
    have hx := X.1
    have hb := X.2.1
    have hml := X.2.2.1
    have hown := X.2.2.2.1
    have hts := X.2.2.2.2.1
    rw [fX12_clears_L76] at hf
    refine lv_iload_n hx hb dX12_clears_76 rfl (lv_at hl 1 rfl) ?_
    refine lv_bipush (v := (8 : Int32)) hx hb dX12_clears_77 (by decide) ?_
    refine lv_icmp_ge (tgt := 102) hx hb dX12_clears_79 (by decide) (fun c6 => ?_) (fun c6 => ?_)
    · replace hf := hf.1 c6
      exact hQ _ _ _ _ _ hf hR dX12_clears_102
    · replace hf := hf.2 c6
      refine lv_aload_n hx hb dX12_clears_82 rfl (lv_at hl 0 rfl) ?_
      refine z_getS X hR (zlit hR zf_200) zs_200 (by decide) zfd_X12_140 rfl (r := 238) (by decide +kernel) dX12_clears_83 ?_
      refine lv_iload_n hx hb dX12_clears_86 rfl (lv_at hl 1 rfl) ?_
      refine lv_iconst (v := (0 : Int32)) hx hb dX12_clears_87 (by decide) ?_
      obtain ⟨hb7, hf⟩ := hf
      refine z_iast X hR (zlit hR zf_238) zs_238 zl_238 hb7 dX12_clears_88 (fun H locs hR => ?_)
      obtain ⟨w8, hw8⟩ : ∃ z : zW, z = sI w 238 x1.toNatClampNeg (0 : Int32) := ⟨_, rfl⟩
      rw [← hw8] at hR
      replace hf := hf w8 hw8
      refine lv_aload_n hx hb dX12_clears_89 rfl (lv_at hl 0 rfl) ?_
      refine z_getS X hR (zlit hR zf_200) zs_200 (by decide) zfd_X12_143 rfl (r := 239) (by decide +kernel) dX12_clears_90 ?_
      refine lv_iload_n hx hb dX12_clears_93 rfl (lv_at hl 1 rfl) ?_
      refine lv_iconst (v := (0 : Int32)) hx hb dX12_clears_94 (by decide) ?_
      refine z_iast X hR (zlit hR zf_239) zs_239 zl_239 hb7 dX12_clears_95 (fun H locs hR => ?_)
      obtain ⟨w9, hw9⟩ : ∃ z : zW, z = sI w8 239 x1.toNatClampNeg (0 : Int32) := ⟨_, rfl⟩
      rw [← hw9] at hR
      replace hf := hf w9 hw9
      refine lv_iinc (v := x1 + (1 : Int32)) (lv' := [(1, .int (x1 + (1 : Int32))), (0, .ref (ad 200))]) hx hb dX12_clears_96 hl (k := 1) rfl rfl (by decide) rfl (fun ls hl => ?_)
      refine lv_goto (tgt := 76) hx hb dX12_clears_99 (by decide) ?_
      exact ih (x1 + (1 : Int32)) w9 _ _ _ hf hR (lv_sub hl [1, 0] rfl)
def fX12_clears_L55 (k : zW → Prop) : Nat → Int32 → zW → Prop
  | 0 => fun _ _ => False
  | n + 1 => fun x1 w =>
    (((16 : Int32) ≤ x1 →
      ∃ n9, fX12_clears_L76 k n9 (0 : Int32) w) ∧
     (¬ (16 : Int32) ≤ x1 →
      vp_in x1 16 ∧ 
      ∀ w11 : zW, w11 = sI w 237 x1.toNatClampNeg ((1 : Int32) &&& 1) →
      fX12_clears_L55 k n (x1 + (1 : Int32)) w11))
set_option maxHeartbeats 4000000 in
set_option maxRecDepth 100000 in
theorem mX12_clears_L55 {k : zW → Prop} (X : zCx p s m args meth c cX12_clears 2 RX12 none) (hr : zRm R 0 cells slots) (hQ : zRetV p l e R s m args below meth c cells slots Q D dA true ad0 al0 ad al cX12_clears k)  : ∀ (n : Nat) (x1 : Int32) (w : zW) (H : Heap) (locs : List Loc) (ls : Array Slot), fX12_clears_L55 k n x1 w → zSt D dA true ad0 al0 ad al w s H locs → lv_has ls 2 [(0, .ref (ad 200)), (1, .int x1)] → W p l e R s m args below meth c H locs cells slots Q (F0 m 55 ls []) := by
  intro n
  induction n with
  | zero => exact fun _ _ _ _ _ hf => hf.elim
  | succ n ih =>
    intro x1 w H locs ls hf hR hl
    have hx := X.1
    have hb := X.2.1
    have hml := X.2.2.1
    have hown := X.2.2.2.1
    have hts := X.2.2.2.2.1
    rw [fX12_clears_L55] at hf
    refine lv_iload_n hx hb dX12_clears_55 rfl (lv_at hl 1 rfl) ?_
    refine lv_bipush (v := (16 : Int32)) hx hb dX12_clears_56 (by decide) ?_
    refine lv_icmp_ge (tgt := 74) hx hb dX12_clears_58 (by decide) (fun c5 => ?_) (fun c5 => ?_)
    · replace hf := hf.1 c5
      refine lv_iconst (v := (0 : Int32)) hx hb dX12_clears_74 (by decide) ?_
      refine lv_istore_n (lv' := [(1, .int (0 : Int32)), (0, .ref (ad 200))]) hx hb dX12_clears_75 rfl hl (by decide) rfl (fun ls hl => ?_)
      obtain ⟨n9, hf⟩ := hf
      exact mX12_clears_L76 X hr hQ  n9 (0 : Int32) w _ _ _ hf hR (lv_sub hl [1, 0] rfl)
    · replace hf := hf.2 c5
      refine lv_aload_n hx hb dX12_clears_61 rfl (lv_at hl 0 rfl) ?_
      refine z_getS X hR (zlit hR zf_200) zs_200 (by decide) zfd_X12_137 rfl (r := 237) (by decide +kernel) dX12_clears_62 ?_
      refine lv_iload_n hx hb dX12_clears_65 rfl (lv_at hl 1 rfl) ?_
      refine lv_iconst (v := (1 : Int32)) hx hb dX12_clears_66 (by decide) ?_
      obtain ⟨hb10, hf⟩ := hf
      refine z_zast X hR (zlit hR zf_237) zs_237 zl_237 hb10 dX12_clears_67 (fun H locs hR => ?_)
      obtain ⟨w11, hw11⟩ : ∃ z : zW, z = sI w 237 x1.toNatClampNeg ((1 : Int32) &&& 1) := ⟨_, rfl⟩
      rw [← hw11] at hR
      replace hf := hf w11 hw11
      refine lv_iinc (v := x1 + (1 : Int32)) (lv' := [(1, .int (x1 + (1 : Int32))), (0, .ref (ad 200))]) hx hb dX12_clears_68 hl (k := 1) rfl rfl (by decide) rfl (fun ls hl => ?_)
      refine lv_goto (tgt := 55) hx hb dX12_clears_71 (by decide) ?_
      exact ih (x1 + (1 : Int32)) w11 _ _ _ hf hR (lv_sub hl [1, 0] rfl)
def fX12_clears_L33 (k : zW → Prop) : Nat → Int32 → zW → Prop
  | 0 => fun _ _ => False
  | n + 1 => fun x1 w =>
    (((968 : Int32) ≤ x1 →
      ∃ n9, fX12_clears_L55 k n9 (0 : Int32) w) ∧
     (¬ (968 : Int32) ≤ x1 →
      vp_in x1 968 ∧ 
      ∀ w13 : zW, w13 = sI w 235 x1.toNatClampNeg (0 : Int32) →
      fX12_clears_L33 k n (x1 + (1 : Int32)) w13))
set_option maxHeartbeats 4000000 in
set_option maxRecDepth 100000 in
theorem mX12_clears_L33 {k : zW → Prop} (X : zCx p s m args meth c cX12_clears 2 RX12 none) (hr : zRm R 0 cells slots) (hQ : zRetV p l e R s m args below meth c cells slots Q D dA true ad0 al0 ad al cX12_clears k)  : ∀ (n : Nat) (x1 : Int32) (w : zW) (H : Heap) (locs : List Loc) (ls : Array Slot), fX12_clears_L33 k n x1 w → zSt D dA true ad0 al0 ad al w s H locs → lv_has ls 2 [(0, .ref (ad 200)), (1, .int x1)] → W p l e R s m args below meth c H locs cells slots Q (F0 m 33 ls []) := by
  intro n
  induction n with
  | zero => exact fun _ _ _ _ _ hf => hf.elim
  | succ n ih =>
    intro x1 w H locs ls hf hR hl
    have hx := X.1
    have hb := X.2.1
    have hml := X.2.2.1
    have hown := X.2.2.2.1
    have hts := X.2.2.2.2.1
    rw [fX12_clears_L33] at hf
    refine lv_iload_n hx hb dX12_clears_33 rfl (lv_at hl 1 rfl) ?_
    refine lv_sipush (v := (968 : Int32)) hx hb dX12_clears_34 (by decide) ?_
    refine lv_icmp_ge (tgt := 53) hx hb dX12_clears_37 (by decide) (fun c4 => ?_) (fun c4 => ?_)
    · replace hf := hf.1 c4
      refine lv_iconst (v := (0 : Int32)) hx hb dX12_clears_53 (by decide) ?_
      refine lv_istore_n (lv' := [(1, .int (0 : Int32)), (0, .ref (ad 200))]) hx hb dX12_clears_54 rfl hl (by decide) rfl (fun ls hl => ?_)
      obtain ⟨n9, hf⟩ := hf
      exact mX12_clears_L55 X hr hQ  n9 (0 : Int32) w _ _ _ hf hR (lv_sub hl [1, 0] rfl)
    · replace hf := hf.2 c4
      refine lv_aload_n hx hb dX12_clears_40 rfl (lv_at hl 0 rfl) ?_
      refine z_getS X hR (zlit hR zf_200) zs_200 (by decide) zfd_X12_131 rfl (r := 235) (by decide +kernel) dX12_clears_41 ?_
      refine lv_iload_n hx hb dX12_clears_44 rfl (lv_at hl 1 rfl) ?_
      refine lv_iconst (v := (0 : Int32)) hx hb dX12_clears_45 (by decide) ?_
      obtain ⟨hb12, hf⟩ := hf
      refine z_iast X hR (zlit hR zf_235) zs_235 zl_235 hb12 dX12_clears_46 (fun H locs hR => ?_)
      obtain ⟨w13, hw13⟩ : ∃ z : zW, z = sI w 235 x1.toNatClampNeg (0 : Int32) := ⟨_, rfl⟩
      rw [← hw13] at hR
      replace hf := hf w13 hw13
      refine lv_iinc (v := x1 + (1 : Int32)) (lv' := [(1, .int (x1 + (1 : Int32))), (0, .ref (ad 200))]) hx hb dX12_clears_47 hl (k := 1) rfl rfl (by decide) rfl (fun ls hl => ?_)
      refine lv_goto (tgt := 33) hx hb dX12_clears_50 (by decide) ?_
      exact ih (x1 + (1 : Int32)) w13 _ _ _ hf hR (lv_sub hl [1, 0] rfl)
def fX12_clears_L12 (k : zW → Prop) : Nat → Int32 → zW → Prop
  | 0 => fun _ _ => False
  | n + 1 => fun x1 w =>
    (((36 : Int32) ≤ x1 →
      ∃ n9, fX12_clears_L33 k n9 (0 : Int32) w) ∧
     (¬ (36 : Int32) ≤ x1 →
      vp_in x1 36 ∧ 
      ∀ w15 : zW, w15 = sI w 234 x1.toNatClampNeg (0 : Int32) →
      fX12_clears_L12 k n (x1 + (1 : Int32)) w15))
set_option maxHeartbeats 4000000 in
set_option maxRecDepth 100000 in
theorem mX12_clears_L12 {k : zW → Prop} (X : zCx p s m args meth c cX12_clears 2 RX12 none) (hr : zRm R 0 cells slots) (hQ : zRetV p l e R s m args below meth c cells slots Q D dA true ad0 al0 ad al cX12_clears k)  : ∀ (n : Nat) (x1 : Int32) (w : zW) (H : Heap) (locs : List Loc) (ls : Array Slot), fX12_clears_L12 k n x1 w → zSt D dA true ad0 al0 ad al w s H locs → lv_has ls 2 [(0, .ref (ad 200)), (1, .int x1)] → W p l e R s m args below meth c H locs cells slots Q (F0 m 12 ls []) := by
  intro n
  induction n with
  | zero => exact fun _ _ _ _ _ hf => hf.elim
  | succ n ih =>
    intro x1 w H locs ls hf hR hl
    have hx := X.1
    have hb := X.2.1
    have hml := X.2.2.1
    have hown := X.2.2.2.1
    have hts := X.2.2.2.2.1
    rw [fX12_clears_L12] at hf
    refine lv_iload_n hx hb dX12_clears_12 rfl (lv_at hl 1 rfl) ?_
    refine lv_bipush (v := (36 : Int32)) hx hb dX12_clears_13 (by decide) ?_
    refine lv_icmp_ge (tgt := 31) hx hb dX12_clears_15 (by decide) (fun c3 => ?_) (fun c3 => ?_)
    · replace hf := hf.1 c3
      refine lv_iconst (v := (0 : Int32)) hx hb dX12_clears_31 (by decide) ?_
      refine lv_istore_n (lv' := [(1, .int (0 : Int32)), (0, .ref (ad 200))]) hx hb dX12_clears_32 rfl hl (by decide) rfl (fun ls hl => ?_)
      obtain ⟨n9, hf⟩ := hf
      exact mX12_clears_L33 X hr hQ  n9 (0 : Int32) w _ _ _ hf hR (lv_sub hl [1, 0] rfl)
    · replace hf := hf.2 c3
      refine lv_aload_n hx hb dX12_clears_18 rfl (lv_at hl 0 rfl) ?_
      refine z_getS X hR (zlit hR zf_200) zs_200 (by decide) zfd_X12_128 rfl (r := 234) (by decide +kernel) dX12_clears_19 ?_
      refine lv_iload_n hx hb dX12_clears_22 rfl (lv_at hl 1 rfl) ?_
      refine lv_iconst (v := (0 : Int32)) hx hb dX12_clears_23 (by decide) ?_
      obtain ⟨hb14, hf⟩ := hf
      refine z_iast X hR (zlit hR zf_234) zs_234 zl_234 hb14 dX12_clears_24 (fun H locs hR => ?_)
      obtain ⟨w15, hw15⟩ : ∃ z : zW, z = sI w 234 x1.toNatClampNeg (0 : Int32) := ⟨_, rfl⟩
      rw [← hw15] at hR
      replace hf := hf w15 hw15
      refine lv_iinc (v := x1 + (1 : Int32)) (lv' := [(1, .int (x1 + (1 : Int32))), (0, .ref (ad 200))]) hx hb dX12_clears_25 hl (k := 1) rfl rfl (by decide) rfl (fun ls hl => ?_)
      refine lv_goto (tgt := 12) hx hb dX12_clears_28 (by decide) ?_
      exact ih (x1 + (1 : Int32)) w15 _ _ _ hf hR (lv_sub hl [1, 0] rfl)
def fX12_clears (w : zW) (k : zW → Prop) : Prop :=
  ∀ w1 : zW, w1 = sI w 200 31 (0 : Int32) →
  ∀ w2 : zW, w2 = sI w1 200 33 (-1 : Int32) →
  ∃ n9, fX12_clears_L12 k n9 (0 : Int32) w2
set_option maxHeartbeats 4000000 in
set_option maxRecDepth 100000 in
theorem mX12_clears {l : Launch} {D : va_G} {dA : Nat → ClassId} {ad : Nat → Nat} {al : Nat → Prop} {w : zW} {k : zW → Prop}   (hf : fX12_clears w k) : zmetV l yX12_clears cX12_clears 2 none 0 [.ref (ad 200)] D dA true ad al w k := by
  refine zmetV_of (by decide) (Nat.le_of_ble_eq_true rfl) ?_
  intro p e R s m below meth c Q H ls args locs cells slots X hr hQ hR hl
  have hx := X.1
  have hb := X.2.1
  have hml := X.2.2.1
  have hown := X.2.2.2.1
  have hts := X.2.2.2.2.1
  unfold fX12_clears at hf
  have hl : lv_has ls 2 [(0, .ref (ad 200))] := hl
  refine lv_aload_n hx hb dX12_clears_0 rfl (lv_at hl 0 rfl) ?_
  refine lv_iconst (v := (0 : Int32)) hx hb dX12_clears_1 (by decide) ?_
  refine z_putI X hR (zlit hR zf_200) zs_200 (by decide) zfp_X12_346 rfl dX12_clears_2 (fun H locs hR => ?_)
  obtain ⟨w1, hw1⟩ : ∃ z : zW, z = sI w 200 31 (0 : Int32) := ⟨_, rfl⟩
  rw [← hw1] at hR
  replace hf := hf w1 hw1
  refine lv_aload_n hx hb dX12_clears_5 rfl (lv_at hl 0 rfl) ?_
  refine lv_iconst (v := (-1 : Int32)) hx hb dX12_clears_6 (by decide) ?_
  refine z_putI X hR (zlit hR zf_200) zs_200 (by decide) zfp_X12_355 rfl dX12_clears_7 (fun H locs hR => ?_)
  obtain ⟨w2, hw2⟩ : ∃ z : zW, z = sI w1 200 33 (-1 : Int32) := ⟨_, rfl⟩
  rw [← hw2] at hR
  replace hf := hf w2 hw2
  refine lv_iconst (v := (0 : Int32)) hx hb dX12_clears_10 (by decide) ?_
  refine lv_istore_n (lv' := [(1, .int (0 : Int32)), (0, .ref (ad 200))]) hx hb dX12_clears_11 rfl hl (by decide) rfl (fun ls hl => ?_)
  obtain ⟨n9, hf⟩ := hf
  exact mX12_clears_L12 X hr hQ  n9 (0 : Int32) w2 _ _ _ hf hR (lv_sub hl [1, 0] rfl)
/-! X12_goes -/
def fX12_goes_J166 (k : zW → Prop) (g19 : Int32 → Int32 → zW → Prop) (x1 : Int32) (x2 : Int32) (t0 : Int32) (t1 : Int32) (w : zW) : Prop :=
  ∀ w14 : zW, w14 = sI w 200 30 (t1 ||| t0) →
  g19 x1 (x2 + (1 : Int32)) w14
set_option maxHeartbeats 4000000 in
set_option maxRecDepth 100000 in
theorem mX12_goes_J166 {k : zW → Prop} {g19 : Int32 → Int32 → zW → Prop} (X : zCx p s m args meth c cX12_goes 6 RX12 none) (hr : zRm R 1 cells slots) (hQ : zRetV p l e R s m args below meth c cells slots Q D dA true ad0 al0 ad al cX12_goes k) (hg19 : ∀ (x1 : Int32) (x2 : Int32) (w : zW) (H : Heap) (locs : List Loc) (ls : Array Slot), g19 x1 x2 w → zSt D dA true ad0 al0 ad al w s H locs → lv_has ls 6 [(0, .ref (ad 200)), (1, .int x1), (2, .int x2)] → W p l e R s m args below meth c H locs cells slots Q (F0 m 19 ls [])) {x1 : Int32} {x2 : Int32} {t0 : Int32} {t1 : Int32} {w : zW} {H : Heap} {locs : List Loc} {ls : Array Slot} (hf : fX12_goes_J166 k g19 x1 x2 t0 t1 w) (hR : zSt D dA true ad0 al0 ad al w s H locs) (hl : lv_has ls 6 [(0, .ref (ad 200)), (1, .int x1), (2, .int x2)]) : W p l e R s m args below meth c H locs cells slots Q (F0 m 166 ls [.int t0, .int t1, .ref (ad 200)]) := by
  have hx := X.1
  have hb := X.2.1
  have hml := X.2.2.1
  have hown := X.2.2.2.1
  have hts := X.2.2.2.2.1
  unfold fX12_goes_J166 at hf
  refine lv_ior hx hb dX12_goes_166 ?_
  refine z_putI X hR (zlit hR zf_200) zs_200 (by decide) zfp_X12_352 rfl dX12_goes_167 (fun H locs hR => ?_)
  obtain ⟨w14, hw14⟩ : ∃ z : zW, z = sI w 200 30 (t1 ||| t0) := ⟨_, rfl⟩
  rw [← hw14] at hR
  replace hf := hf w14 hw14
  refine lv_iinc (v := x2 + (1 : Int32)) (lv' := [(2, .int (x2 + (1 : Int32))), (0, .ref (ad 200)), (1, .int x1)]) hx hb dX12_goes_170 hl (k := 2) rfl rfl (by decide) rfl (fun ls hl => ?_)
  refine lv_goto (tgt := 19) hx hb dX12_goes_173 (by decide) ?_
  exact hg19 x1 (x2 + (1 : Int32)) w14 _ _ _ hf hR (lv_sub hl [1, 2, 0] rfl)
def fX12_goes_J117 (k : zW → Prop) (g19 : Int32 → Int32 → zW → Prop) (x2 : Int32) (x4 : Int32) (t0 : Int32) (t1 : Int32) (w : zW) : Prop :=
  ∀ w9 : zW, w9 = sI w 200 29 (t1 ||| t0) →
  vp_in x2 8 ∧ 
  ∀ w11 : zW, w11 = sI w9 228 x2.toNatClampNeg x4 →
  vp_in ((4 : Int32) + x2) 252 ∧ 
  (((gI w11 220 ((4 : Int32) + x2).toNatClampNeg) < 0 →
    fX12_goes_J166 k g19 x4 x2 (0 : Int32) (gI w11 200 30) w11) ∧
   (¬ (gI w11 220 ((4 : Int32) + x2).toNatClampNeg) < 0 →
    ∀ v15 : Int32, v15 = (if (gI w11 220 ((4 : Int32) + x2).toNatClampNeg) = x4 then (0 : Int32) else ((1 : Int32) <<< (x2 &&& 31))) →
    fX12_goes_J166 k g19 x4 x2 v15 (gI w11 200 30) w11))
set_option maxHeartbeats 4000000 in
set_option maxRecDepth 100000 in
theorem mX12_goes_J117 {k : zW → Prop} {g19 : Int32 → Int32 → zW → Prop} (X : zCx p s m args meth c cX12_goes 6 RX12 none) (hr : zRm R 1 cells slots) (hQ : zRetV p l e R s m args below meth c cells slots Q D dA true ad0 al0 ad al cX12_goes k) (hg19 : ∀ (x1 : Int32) (x2 : Int32) (w : zW) (H : Heap) (locs : List Loc) (ls : Array Slot), g19 x1 x2 w → zSt D dA true ad0 al0 ad al w s H locs → lv_has ls 6 [(0, .ref (ad 200)), (1, .int x1), (2, .int x2)] → W p l e R s m args below meth c H locs cells slots Q (F0 m 19 ls [])) {x2 : Int32} {x4 : Int32} {t0 : Int32} {t1 : Int32} {w : zW} {H : Heap} {locs : List Loc} {ls : Array Slot} (hf : fX12_goes_J117 k g19 x2 x4 t0 t1 w) (hR : zSt D dA true ad0 al0 ad al w s H locs) (hl : lv_has ls 6 [(0, .ref (ad 200)), (2, .int x2), (4, .int x4)]) : W p l e R s m args below meth c H locs cells slots Q (F0 m 117 ls [.int t0, .int t1, .ref (ad 200)]) := by
  have hx := X.1
  have hb := X.2.1
  have hml := X.2.2.1
  have hown := X.2.2.2.1
  have hts := X.2.2.2.2.1
  unfold fX12_goes_J117 at hf
  refine lv_ior hx hb dX12_goes_117 ?_
  refine z_putI X hR (zlit hR zf_200) zs_200 (by decide) zfp_X12_349 rfl dX12_goes_118 (fun H locs hR => ?_)
  obtain ⟨w9, hw9⟩ : ∃ z : zW, z = sI w 200 29 (t1 ||| t0) := ⟨_, rfl⟩
  rw [← hw9] at hR
  replace hf := hf w9 hw9
  refine lv_iload hx hb dX12_goes_121 (lv_at hl 2 rfl) ?_
  refine lv_istore_n (lv' := [(1, .int x4), (0, .ref (ad 200)), (2, .int x2), (4, .int x4)]) hx hb dX12_goes_123 rfl hl (by decide) rfl (fun ls hl => ?_)
  refine lv_aload_n hx hb dX12_goes_124 rfl (lv_at hl 1 rfl) ?_
  refine z_getS X hR (zlit hR zf_200) zs_200 (by decide) zfd_X12_125 rfl (r := 228) (by decide +kernel) dX12_goes_125 ?_
  refine lv_iload_n hx hb dX12_goes_128 rfl (lv_at hl 2 rfl) ?_
  refine lv_iload_n hx hb dX12_goes_129 rfl (lv_at hl 0 rfl) ?_
  obtain ⟨hb10, hf⟩ := hf
  refine z_iast X hR (zlit hR zf_228) zs_228 zl_228 hb10 dX12_goes_130 (fun H locs hR => ?_)
  obtain ⟨w11, hw11⟩ : ∃ z : zW, z = sI w9 228 x2.toNatClampNeg x4 := ⟨_, rfl⟩
  rw [← hw11] at hR
  replace hf := hf w11 hw11
  refine lv_aload_n hx hb dX12_goes_131 rfl (lv_at hl 1 rfl) ?_
  refine lv_dup hx hb dX12_goes_132 rfl ?_
  refine z_getI X hR (zlit hR zf_200) zs_200 (by decide) zfd_X12_352 rfl dX12_goes_133 ?_
  refine lv_aload_n hx hb dX12_goes_136 rfl (lv_at hl 1 rfl) ?_
  refine z_getS X hR (zlit hR zf_200) zs_200 (by decide) zfd_X12_103 rfl (r := 220) (by decide +kernel) dX12_goes_137 ?_
  refine lv_iconst (v := (4 : Int32)) hx hb dX12_goes_140 (by decide) ?_
  refine lv_iload_n hx hb dX12_goes_141 rfl (lv_at hl 2 rfl) ?_
  refine lv_iadd hx hb dX12_goes_142 ?_
  obtain ⟨hb12, hf⟩ := hf
  refine z_iald X hR (zlit hR zf_220) zs_220 zl_220 hb12 dX12_goes_143 ?_
  refine lv_if_lt (tgt := 165) hx hb dX12_goes_144 (by decide) (fun c13 => ?_) (fun c13 => ?_)
  · replace hf := hf.1 c13
    refine lv_iconst (v := (0 : Int32)) hx hb dX12_goes_165 (by decide) ?_
    exact mX12_goes_J166 X hr hQ hg19 hf hR (lv_sub hl [1, 0, 2] rfl)
  · replace hf := hf.2 c13
    refine lv_aload_n hx hb dX12_goes_147 rfl (lv_at hl 1 rfl) ?_
    refine z_getS X hR (zlit hR zf_200) zs_200 (by decide) zfd_X12_103 rfl (r := 220) (by decide +kernel) dX12_goes_148 ?_
    refine lv_iconst (v := (4 : Int32)) hx hb dX12_goes_151 (by decide) ?_
    refine lv_iload_n hx hb dX12_goes_152 rfl (lv_at hl 2 rfl) ?_
    refine lv_iadd hx hb dX12_goes_153 ?_
    refine z_iald X hR (zlit hR zf_220) zs_220 zl_220 hb12 dX12_goes_154 ?_
    refine lv_iload_n hx hb dX12_goes_155 rfl (lv_at hl 0 rfl) ?_
    have kJ15 : ∀ v15 : Int32, v15 = (if (gI w11 220 ((4 : Int32) + x2).toNatClampNeg) = x4 then (0 : Int32) else ((1 : Int32) <<< (x2 &&& 31))) → W p l e R s m args below meth c H locs cells slots Q (F0 m 166 ls (.int v15 :: .int (gI w11 200 30) :: .ref (ad 200) :: [])) := by
      intro v15 hv15
      replace hf := hf v15 hv15
      exact mX12_goes_J166 X hr hQ hg19 hf hR (lv_sub hl [1, 0, 2] rfl)
    refine lv_icmp_eq (tgt := 165) hx hb dX12_goes_156 (by decide) (fun c15 => ?_) (fun c15 => ?_)
    · refine lv_iconst (v := (0 : Int32)) hx hb dX12_goes_165 (by decide) ?_
      exact kJ15 _ (if_pos c15).symm
    · refine lv_iconst (v := (1 : Int32)) hx hb dX12_goes_159 (by decide) ?_
      refine lv_iload_n hx hb dX12_goes_160 rfl (lv_at hl 2 rfl) ?_
      refine lv_ishl hx hb dX12_goes_161 ?_
      refine lv_goto (tgt := 166) hx hb dX12_goes_162 (by decide) ?_
      exact kJ15 _ (if_neg c15).symm
def fX12_goes_L35 (k : zW → Prop) (g19 : Int32 → Int32 → zW → Prop) : Nat → Int32 → Int32 → Int32 → Int32 → Int32 → zW → Prop
  | 0 => fun _ _ _ _ _ _ => False
  | n + 1 => fun x1 x2 x3 x4 x5 w =>
    fX12_wordsTold  w (fun r6 w6 =>
    ((r6 ≤ x5 →
      ∀ v8 : Int32, v8 = (if ¬ x3 = x1 then (0 : Int32) else ((1 : Int32) <<< (x2 &&& 31))) →
      fX12_goes_J117 k g19 x2 x4 v8 (gI w6 200 29) w6) ∧
     (¬ r6 ≤ x5 →
      vp_in (((4 : Int32) * x2) + x5) 32 ∧ 
      vp_in x5 4 ∧ 
      ∀ v18 : Int32, v18 = x3 + ((gI w6 225 (((4 : Int32) * x2) + x5).toNatClampNeg) * ((gI w6 227 x5.toNatClampNeg) / (3 : Int32))) →
      ∀ v19 : Int32, v19 = x4 + ((gI w6 225 (((4 : Int32) * x2) + x5).toNatClampNeg) * ((gI w6 227 x5.toNatClampNeg) % (3 : Int32))) →
      fX12_goes_L35 k g19 n x1 x2 v18 v19 (x5 + (1 : Int32)) w6)))
set_option maxHeartbeats 4000000 in
set_option maxRecDepth 100000 in
theorem mX12_goes_L35 {k : zW → Prop} {g19 : Int32 → Int32 → zW → Prop} (X : zCx p s m args meth c cX12_goes 6 RX12 none) (hr : zRm R 1 cells slots) (hQ : zRetV p l e R s m args below meth c cells slots Q D dA true ad0 al0 ad al cX12_goes k) (hg19 : ∀ (x1 : Int32) (x2 : Int32) (w : zW) (H : Heap) (locs : List Loc) (ls : Array Slot), g19 x1 x2 w → zSt D dA true ad0 al0 ad al w s H locs → lv_has ls 6 [(0, .ref (ad 200)), (1, .int x1), (2, .int x2)] → W p l e R s m args below meth c H locs cells slots Q (F0 m 19 ls [])) : ∀ (n : Nat) (x1 : Int32) (x2 : Int32) (x3 : Int32) (x4 : Int32) (x5 : Int32) (w : zW) (H : Heap) (locs : List Loc) (ls : Array Slot), fX12_goes_L35 k g19 n x1 x2 x3 x4 x5 w → zSt D dA true ad0 al0 ad al w s H locs → lv_has ls 6 [(0, .ref (ad 200)), (1, .int x1), (2, .int x2), (3, .int x3), (4, .int x4), (5, .int x5)] → W p l e R s m args below meth c H locs cells slots Q (F0 m 35 ls []) := by
  intro n
  induction n with
  | zero => exact fun _ _ _ _ _ _ _ _ _ hf => hf.elim
  | succ n ih =>
    intro x1 x2 x3 x4 x5 w H locs ls hf hR hl
    have hx := X.1
    have hb := X.2.1
    have hml := X.2.2.1
    have hown := X.2.2.2.1
    have hts := X.2.2.2.2.1
    rw [fX12_goes_L35] at hf
    refine lv_iload hx hb dX12_goes_35 (lv_at hl 5 rfl) ?_
    refine lv_aload_n hx hb dX12_goes_37 rfl (lv_at hl 0 rfl) ?_
    refine z_callVI (fr1 := 0) (b := 200) (As := []) (rest := [.int x5]) X (hr.le (by decide)) hR zy_X12_wordsTold zq_211 (zlit hR zf_200) (by rw [zs_200]; rfl) rfl (mX12_wordsTold  hf) rfl hl (Nat.le_of_ble_eq_true rfl) dX12_goes_38 rfl (fun r6 w6 H locs hf hR => ?_)
    refine lv_icmp_ge (tgt := 100) hx hb dX12_goes_41 (by decide) (fun c7 => ?_) (fun c7 => ?_)
    · replace hf := hf.1 c7
      refine lv_aload_n hx hb dX12_goes_100 rfl (lv_at hl 0 rfl) ?_
      refine lv_dup hx hb dX12_goes_101 rfl ?_
      refine z_getI X hR (zlit hR zf_200) zs_200 (by decide) zfd_X12_349 rfl dX12_goes_102 ?_
      refine lv_iload_n hx hb dX12_goes_105 rfl (lv_at hl 3 rfl) ?_
      refine lv_iload_n hx hb dX12_goes_106 rfl (lv_at hl 1 rfl) ?_
      have kJ8 : ∀ v8 : Int32, v8 = (if ¬ x3 = x1 then (0 : Int32) else ((1 : Int32) <<< (x2 &&& 31))) → W p l e R s m args below meth c H locs cells slots Q (F0 m 117 ls (.int v8 :: .int (gI w6 200 29) :: .ref (ad 200) :: [])) := by
        intro v8 hv8
        replace hf := hf v8 hv8
        exact mX12_goes_J117 X hr hQ hg19 hf hR (lv_sub hl [0, 2, 4] rfl)
      refine lv_icmp_ne (tgt := 116) hx hb dX12_goes_107 (by decide) (fun c8 => ?_) (fun c8 => ?_)
      · refine lv_iconst (v := (0 : Int32)) hx hb dX12_goes_116 (by decide) ?_
        exact kJ8 _ (if_pos c8).symm
      · refine lv_iconst (v := (1 : Int32)) hx hb dX12_goes_110 (by decide) ?_
        refine lv_iload_n hx hb dX12_goes_111 rfl (lv_at hl 2 rfl) ?_
        refine lv_ishl hx hb dX12_goes_112 ?_
        refine lv_goto (tgt := 117) hx hb dX12_goes_113 (by decide) ?_
        exact kJ8 _ (if_neg (fun h9 => h9 c8)).symm
    · replace hf := hf.2 c7
      refine lv_iload_n hx hb dX12_goes_44 rfl (lv_at hl 3 rfl) ?_
      refine lv_aload_n hx hb dX12_goes_45 rfl (lv_at hl 0 rfl) ?_
      refine z_getS X hR (zlit hR zf_200) zs_200 (by decide) zfd_X12_116 rfl (r := 225) (by decide +kernel) dX12_goes_46 ?_
      refine lv_iconst (v := (4 : Int32)) hx hb dX12_goes_49 (by decide) ?_
      refine lv_iload_n hx hb dX12_goes_50 rfl (lv_at hl 2 rfl) ?_
      refine lv_imul hx hb dX12_goes_51 ?_
      refine lv_iload hx hb dX12_goes_52 (lv_at hl 5 rfl) ?_
      refine lv_iadd hx hb dX12_goes_54 ?_
      obtain ⟨hb16, hf⟩ := hf
      refine z_iald X hR (zlit hR zf_225) zs_225 zl_225 hb16 dX12_goes_55 ?_
      refine lv_aload_n hx hb dX12_goes_56 rfl (lv_at hl 0 rfl) ?_
      refine z_getS X hR (zlit hR zf_200) zs_200 (by decide) zfd_X12_122 rfl (r := 227) (by decide +kernel) dX12_goes_57 ?_
      refine lv_iload hx hb dX12_goes_60 (lv_at hl 5 rfl) ?_
      obtain ⟨hb17, hf⟩ := hf
      refine z_iald X hR (zlit hR zf_227) zs_227 zl_227 hb17 dX12_goes_62 ?_
      refine lv_iconst (v := (3 : Int32)) hx hb dX12_goes_63 (by decide) ?_
      refine lv_idiv hx hb dX12_goes_64 (by decide) ?_
      refine lv_imul hx hb dX12_goes_65 ?_
      refine lv_iadd hx hb dX12_goes_66 ?_
      refine lv_topi (fun v18 hv18 => ?_)
      replace hf := hf v18 hv18
      refine lv_istore_n (lv' := [(3, .int v18), (0, .ref (ad 200)), (1, .int x1), (2, .int x2), (4, .int x4), (5, .int x5)]) hx hb dX12_goes_67 rfl hl (by decide) rfl (fun ls hl => ?_)
      refine lv_iload hx hb dX12_goes_68 (lv_at hl 4 rfl) ?_
      refine lv_aload_n hx hb dX12_goes_70 rfl (lv_at hl 1 rfl) ?_
      refine z_getS X hR (zlit hR zf_200) zs_200 (by decide) zfd_X12_116 rfl (r := 225) (by decide +kernel) dX12_goes_71 ?_
      refine lv_iconst (v := (4 : Int32)) hx hb dX12_goes_74 (by decide) ?_
      refine lv_iload_n hx hb dX12_goes_75 rfl (lv_at hl 3 rfl) ?_
      refine lv_imul hx hb dX12_goes_76 ?_
      refine lv_iload hx hb dX12_goes_77 (lv_at hl 5 rfl) ?_
      refine lv_iadd hx hb dX12_goes_79 ?_
      refine z_iald X hR (zlit hR zf_225) zs_225 zl_225 hb16 dX12_goes_80 ?_
      refine lv_aload_n hx hb dX12_goes_81 rfl (lv_at hl 1 rfl) ?_
      refine z_getS X hR (zlit hR zf_200) zs_200 (by decide) zfd_X12_122 rfl (r := 227) (by decide +kernel) dX12_goes_82 ?_
      refine lv_iload hx hb dX12_goes_85 (lv_at hl 5 rfl) ?_
      refine z_iald X hR (zlit hR zf_227) zs_227 zl_227 hb17 dX12_goes_87 ?_
      refine lv_iconst (v := (3 : Int32)) hx hb dX12_goes_88 (by decide) ?_
      refine z_irem X dX12_goes_89 (by decide) ?_
      refine lv_imul hx hb dX12_goes_90 ?_
      refine lv_iadd hx hb dX12_goes_91 ?_
      refine lv_topi (fun v19 hv19 => ?_)
      replace hf := hf v19 hv19
      refine lv_istore (lv' := [(4, .int v19), (3, .int v18), (0, .ref (ad 200)), (1, .int x1), (2, .int x2), (5, .int x5)]) hx hb dX12_goes_92 hl (by decide) rfl (fun ls hl => ?_)
      refine lv_iinc (v := x5 + (1 : Int32)) (lv' := [(5, .int (x5 + (1 : Int32))), (4, .int v19), (3, .int v18), (0, .ref (ad 200)), (1, .int x1), (2, .int x2)]) hx hb dX12_goes_94 hl (k := 5) rfl rfl (by decide) rfl (fun ls hl => ?_)
      refine lv_goto (tgt := 35) hx hb dX12_goes_97 (by decide) ?_
      exact ih x1 x2 v18 v19 (x5 + (1 : Int32)) w6 _ _ _ hf hR (lv_sub hl [3, 4, 5, 2, 1, 0] rfl)
def fX12_goes_L19 (k : zW → Prop) : Nat → Int32 → Int32 → zW → Prop
  | 0 => fun _ _ _ => False
  | n + 1 => fun x1 x2 w =>
    fX12_rows  w (fun r4 w4 =>
    ((r4 ≤ x2 →
      k w4) ∧
     (¬ r4 ≤ x2 →
      ∃ n9, fX12_goes_L35 k (fX12_goes_L19 k n) n9 x1 x2 (0 : Int32) (0 : Int32) (0 : Int32) w4)))
set_option maxHeartbeats 4000000 in
set_option maxRecDepth 100000 in
theorem mX12_goes_L19 {k : zW → Prop} (X : zCx p s m args meth c cX12_goes 6 RX12 none) (hr : zRm R 1 cells slots) (hQ : zRetV p l e R s m args below meth c cells slots Q D dA true ad0 al0 ad al cX12_goes k)  : ∀ (n : Nat) (x1 : Int32) (x2 : Int32) (w : zW) (H : Heap) (locs : List Loc) (ls : Array Slot), fX12_goes_L19 k n x1 x2 w → zSt D dA true ad0 al0 ad al w s H locs → lv_has ls 6 [(0, .ref (ad 200)), (1, .int x1), (2, .int x2)] → W p l e R s m args below meth c H locs cells slots Q (F0 m 19 ls []) := by
  intro n
  induction n with
  | zero => exact fun _ _ _ _ _ _ hf => hf.elim
  | succ n ih =>
    intro x1 x2 w H locs ls hf hR hl
    have hx := X.1
    have hb := X.2.1
    have hml := X.2.2.1
    have hown := X.2.2.2.1
    have hts := X.2.2.2.2.1
    rw [fX12_goes_L19] at hf
    refine lv_iload_n hx hb dX12_goes_19 rfl (lv_at hl 2 rfl) ?_
    refine lv_aload_n hx hb dX12_goes_20 rfl (lv_at hl 0 rfl) ?_
    refine z_callVI (fr1 := 0) (b := 200) (As := []) (rest := [.int x2]) X (hr.le (by decide)) hR zy_X12_rows zq_199 (zlit hR zf_200) (by rw [zs_200]; rfl) rfl (mX12_rows  hf) rfl hl (Nat.le_of_ble_eq_true rfl) dX12_goes_21 rfl (fun r4 w4 H locs hf hR => ?_)
    refine lv_icmp_ge (tgt := 176) hx hb dX12_goes_24 (by decide) (fun c5 => ?_) (fun c5 => ?_)
    · replace hf := hf.1 c5
      exact hQ _ _ _ _ _ hf hR dX12_goes_176
    · replace hf := hf.2 c5
      refine lv_iconst (v := (0 : Int32)) hx hb dX12_goes_27 (by decide) ?_
      refine lv_istore_n (lv' := [(3, .int (0 : Int32)), (0, .ref (ad 200)), (1, .int x1), (2, .int x2)]) hx hb dX12_goes_28 rfl hl (by decide) rfl (fun ls hl => ?_)
      refine lv_iconst (v := (0 : Int32)) hx hb dX12_goes_29 (by decide) ?_
      refine lv_istore (lv' := [(4, .int (0 : Int32)), (3, .int (0 : Int32)), (0, .ref (ad 200)), (1, .int x1), (2, .int x2)]) hx hb dX12_goes_30 hl (by decide) rfl (fun ls hl => ?_)
      refine lv_iconst (v := (0 : Int32)) hx hb dX12_goes_32 (by decide) ?_
      refine lv_istore (lv' := [(5, .int (0 : Int32)), (4, .int (0 : Int32)), (3, .int (0 : Int32)), (0, .ref (ad 200)), (1, .int x1), (2, .int x2)]) hx hb dX12_goes_33 hl (by decide) rfl (fun ls hl => ?_)
      obtain ⟨n9, hf⟩ := hf
      exact mX12_goes_L35 X hr hQ ih n9 x1 x2 (0 : Int32) (0 : Int32) (0 : Int32) w4 _ _ _ hf hR (lv_sub hl [3, 4, 5, 2, 1, 0] rfl)
def fX12_goes (w : zW) (k : zW → Prop) : Prop :=
  ∀ v1 : Int32, v1 = gI w 210 (1 : Int32).toNatClampNeg →
  ∀ w2 : zW, w2 = sI w 200 29 (0 : Int32) →
  ∀ w3 : zW, w3 = sI w2 200 30 (0 : Int32) →
  ∃ n9, fX12_goes_L19 k n9 v1 (0 : Int32) w3
set_option maxHeartbeats 4000000 in
set_option maxRecDepth 100000 in
theorem mX12_goes {l : Launch} {D : va_G} {dA : Nat → ClassId} {ad : Nat → Nat} {al : Nat → Prop} {w : zW} {k : zW → Prop}   (hf : fX12_goes w k) : zmetV l yX12_goes cX12_goes 6 none 1 [.ref (ad 200)] D dA true ad al w k := by
  refine zmetV_of (by decide) (Nat.le_of_ble_eq_true rfl) ?_
  intro p e R s m below meth c Q H ls args locs cells slots X hr hQ hR hl
  have hx := X.1
  have hb := X.2.1
  have hml := X.2.2.1
  have hown := X.2.2.2.1
  have hts := X.2.2.2.2.1
  unfold fX12_goes at hf
  have hl : lv_has ls 6 [(0, .ref (ad 200))] := hl
  refine lv_aload_n hx hb dX12_goes_0 rfl (lv_at hl 0 rfl) ?_
  refine z_getS X hR (zlit hR zf_200) zs_200 (by decide) zfd_X12_79 rfl (r := 210) (by decide +kernel) dX12_goes_1 ?_
  refine lv_iconst (v := (1 : Int32)) hx hb dX12_goes_4 (by decide) ?_
  refine z_iald X hR (zlit hR zf_210) zs_210 zl_210 (zin (by decide)) dX12_goes_5 ?_
  refine lv_topi (fun v1 hv1 => ?_)
  replace hf := hf v1 hv1
  refine lv_istore_n (lv' := [(1, .int v1), (0, .ref (ad 200))]) hx hb dX12_goes_6 rfl hl (by decide) rfl (fun ls hl => ?_)
  refine lv_aload_n hx hb dX12_goes_7 rfl (lv_at hl 1 rfl) ?_
  refine lv_iconst (v := (0 : Int32)) hx hb dX12_goes_8 (by decide) ?_
  refine z_putI X hR (zlit hR zf_200) zs_200 (by decide) zfp_X12_349 rfl dX12_goes_9 (fun H locs hR => ?_)
  obtain ⟨w2, hw2⟩ : ∃ z : zW, z = sI w 200 29 (0 : Int32) := ⟨_, rfl⟩
  rw [← hw2] at hR
  replace hf := hf w2 hw2
  refine lv_aload_n hx hb dX12_goes_12 rfl (lv_at hl 1 rfl) ?_
  refine lv_iconst (v := (0 : Int32)) hx hb dX12_goes_13 (by decide) ?_
  refine z_putI X hR (zlit hR zf_200) zs_200 (by decide) zfp_X12_352 rfl dX12_goes_14 (fun H locs hR => ?_)
  obtain ⟨w3, hw3⟩ : ∃ z : zW, z = sI w2 200 30 (0 : Int32) := ⟨_, rfl⟩
  rw [← hw3] at hR
  replace hf := hf w3 hw3
  refine lv_iconst (v := (0 : Int32)) hx hb dX12_goes_17 (by decide) ?_
  refine lv_istore_n (lv' := [(2, .int (0 : Int32)), (1, .int v1), (0, .ref (ad 200))]) hx hb dX12_goes_18 rfl hl (by decide) rfl (fun ls hl => ?_)
  obtain ⟨n9, hf⟩ := hf
  exact mX12_goes_L19 X hr hQ  n9 v1 (0 : Int32) w3 _ _ _ hf hR (lv_sub hl [2, 1, 0] rfl)
end ZM
