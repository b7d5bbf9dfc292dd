theorem dX12_isLetter_0 : decode cX12_isLetter 0 = .ok (.iload_n 0, 1) := by decide +kernel
theorem dX12_isLetter_1 : decode cX12_isLetter 1 = .ok (.bipush 97, 2) := by decide +kernel
theorem dX12_isLetter_3 : decode cX12_isLetter 3 = .ok (.if_icmp .lt 13, 3) := by decide +kernel
theorem dX12_isLetter_6 : decode cX12_isLetter 6 = .ok (.iload_n 0, 1) := by decide +kernel
theorem dX12_isLetter_7 : decode cX12_isLetter 7 = .ok (.bipush 122, 2) := by decide +kernel
theorem dX12_isLetter_9 : decode cX12_isLetter 9 = .ok (.if_icmp .gt 7, 3) := by decide +kernel
theorem dX12_isLetter_12 : decode cX12_isLetter 12 = .ok (.iconst 1, 1) := by decide +kernel
theorem dX12_isLetter_13 : decode cX12_isLetter 13 = .ok (.goto 4, 3) := by decide +kernel
theorem dX12_isLetter_16 : decode cX12_isLetter 16 = .ok (.iconst 0, 1) := by decide +kernel
theorem dX12_isLetter_17 : decode cX12_isLetter 17 = .ok (.ireturn, 1) := by decide +kernel
theorem dX12_isDigit_0 : decode cX12_isDigit 0 = .ok (.iload_n 0, 1) := by decide +kernel
theorem dX12_isDigit_1 : decode cX12_isDigit 1 = .ok (.bipush 48, 2) := by decide +kernel
theorem dX12_isDigit_3 : decode cX12_isDigit 3 = .ok (.if_icmp .lt 13, 3) := by decide +kernel
theorem dX12_isDigit_6 : decode cX12_isDigit 6 = .ok (.iload_n 0, 1) := by decide +kernel
theorem dX12_isDigit_7 : decode cX12_isDigit 7 = .ok (.bipush 57, 2) := by decide +kernel
theorem dX12_isDigit_9 : decode cX12_isDigit 9 = .ok (.if_icmp .gt 7, 3) := by decide +kernel
theorem dX12_isDigit_12 : decode cX12_isDigit 12 = .ok (.iconst 1, 1) := by decide +kernel
theorem dX12_isDigit_13 : decode cX12_isDigit 13 = .ok (.goto 4, 3) := by decide +kernel
theorem dX12_isDigit_16 : decode cX12_isDigit 16 = .ok (.iconst 0, 1) := by decide +kernel
theorem dX12_isDigit_17 : decode cX12_isDigit 17 = .ok (.ireturn, 1) := by decide +kernel
theorem dX12_rank_0 : decode cX12_rank 0 = .ok (.iload_n 0, 1) := by decide +kernel
theorem dX12_rank_1 : decode cX12_rank 1 = .ok (.invokestatic 159, 3) := by decide +kernel
theorem dX12_rank_4 : decode cX12_rank 4 = .ok (.ifCond .eq 10, 3) := by decide +kernel
theorem dX12_rank_7 : decode cX12_rank 7 = .ok (.iload_n 0, 1) := by decide +kernel
theorem dX12_rank_8 : decode cX12_rank 8 = .ok (.bipush 96, 2) := by decide +kernel
theorem dX12_rank_10 : decode cX12_rank 10 = .ok (.isub, 1) := by decide +kernel
theorem dX12_rank_11 : decode cX12_rank 11 = .ok (.goto 7, 3) := by decide +kernel
theorem dX12_rank_14 : decode cX12_rank 14 = .ok (.iload_n 0, 1) := by decide +kernel
theorem dX12_rank_15 : decode cX12_rank 15 = .ok (.bipush 21, 2) := by decide +kernel
theorem dX12_rank_17 : decode cX12_rank 17 = .ok (.isub, 1) := by decide +kernel
theorem dX12_rank_18 : decode cX12_rank 18 = .ok (.ireturn, 1) := by decide +kernel
theorem dX12_isSignOf_0 : decode cX12_isSignOf 0 = .ok (.iload_n 0, 1) := by decide +kernel
theorem dX12_isSignOf_1 : decode cX12_isSignOf 1 = .ok (.bipush 40, 2) := by decide +kernel
theorem dX12_isSignOf_3 : decode cX12_isSignOf 3 = .ok (.if_icmp .eq 45, 3) := by decide +kernel
theorem dX12_isSignOf_6 : decode cX12_isSignOf 6 = .ok (.iload_n 0, 1) := by decide +kernel
theorem dX12_isSignOf_7 : decode cX12_isSignOf 7 = .ok (.bipush 41, 2) := by decide +kernel
theorem dX12_isSignOf_9 : decode cX12_isSignOf 9 = .ok (.if_icmp .eq 39, 3) := by decide +kernel
theorem dX12_isSignOf_12 : decode cX12_isSignOf 12 = .ok (.iload_n 0, 1) := by decide +kernel
theorem dX12_isSignOf_13 : decode cX12_isSignOf 13 = .ok (.bipush 59, 2) := by decide +kernel
theorem dX12_isSignOf_15 : decode cX12_isSignOf 15 = .ok (.if_icmp .eq 33, 3) := by decide +kernel
theorem dX12_isSignOf_18 : decode cX12_isSignOf 18 = .ok (.iload_n 0, 1) := by decide +kernel
theorem dX12_isSignOf_19 : decode cX12_isSignOf 19 = .ok (.bipush 61, 2) := by decide +kernel
theorem dX12_isSignOf_21 : decode cX12_isSignOf 21 = .ok (.if_icmp .eq 27, 3) := by decide +kernel
theorem dX12_isSignOf_24 : decode cX12_isSignOf 24 = .ok (.iload_n 0, 1) := by decide +kernel
theorem dX12_isSignOf_25 : decode cX12_isSignOf 25 = .ok (.bipush 60, 2) := by decide +kernel
theorem dX12_isSignOf_27 : decode cX12_isSignOf 27 = .ok (.if_icmp .eq 21, 3) := by decide +kernel
theorem dX12_isSignOf_30 : decode cX12_isSignOf 30 = .ok (.iload_n 0, 1) := by decide +kernel
theorem dX12_isSignOf_31 : decode cX12_isSignOf 31 = .ok (.bipush 43, 2) := by decide +kernel
theorem dX12_isSignOf_33 : decode cX12_isSignOf 33 = .ok (.if_icmp .eq 15, 3) := by decide +kernel
theorem dX12_isSignOf_36 : decode cX12_isSignOf 36 = .ok (.iload_n 0, 1) := by decide +kernel
theorem dX12_isSignOf_37 : decode cX12_isSignOf 37 = .ok (.bipush 45, 2) := by decide +kernel
theorem dX12_isSignOf_39 : decode cX12_isSignOf 39 = .ok (.if_icmp .eq 9, 3) := by decide +kernel
theorem dX12_isSignOf_42 : decode cX12_isSignOf 42 = .ok (.iload_n 0, 1) := by decide +kernel
theorem dX12_isSignOf_43 : decode cX12_isSignOf 43 = .ok (.bipush 42, 2) := by decide +kernel
theorem dX12_isSignOf_45 : decode cX12_isSignOf 45 = .ok (.if_icmp .ne 7, 3) := by decide +kernel
theorem dX12_isSignOf_48 : decode cX12_isSignOf 48 = .ok (.iconst 1, 1) := by decide +kernel
theorem dX12_isSignOf_49 : decode cX12_isSignOf 49 = .ok (.goto 4, 3) := by decide +kernel
theorem dX12_isSignOf_52 : decode cX12_isSignOf 52 = .ok (.iconst 0, 1) := by decide +kernel
theorem dX12_isSignOf_53 : decode cX12_isSignOf 53 = .ok (.ireturn, 1) := by decide +kernel
theorem dX12_lay_0 : decode cX12_lay 0 = .ok (.bipush 56, 2) := by decide +kernel
theorem dX12_lay_2 : decode cX12_lay 2 = .ok (.istore_n 3, 1) := by decide +kernel
theorem dX12_lay_3 : decode cX12_lay 3 = .ok (.iload_n 3, 1) := by decide +kernel
theorem dX12_lay_4 : decode cX12_lay 4 = .ok (.ifCond .lt 71, 3) := by decide +kernel
theorem dX12_lay_7 : decode cX12_lay 7 = .ok (.lload_n 1, 1) := by decide +kernel
theorem dX12_lay_8 : decode cX12_lay 8 = .ok (.iload_n 3, 1) := by decide +kernel
theorem dX12_lay_9 : decode cX12_lay 9 = .ok (.lshr, 1) := by decide +kernel
theorem dX12_lay_10 : decode cX12_lay 10 = .ok (.l2i, 1) := by decide +kernel
theorem dX12_lay_11 : decode cX12_lay 11 = .ok (.sipush 255, 3) := by decide +kernel
theorem dX12_lay_14 : decode cX12_lay 14 = .ok (.iand, 1) := by decide +kernel
theorem dX12_lay_15 : decode cX12_lay 15 = .ok (.istore 4, 2) := by decide +kernel
theorem dX12_lay_17 : decode cX12_lay 17 = .ok (.iload 4, 2) := by decide +kernel
theorem dX12_lay_19 : decode cX12_lay 19 = .ok (.bipush 10, 2) := by decide +kernel
theorem dX12_lay_21 : decode cX12_lay 21 = .ok (.if_icmp .eq 17, 3) := by decide +kernel
theorem dX12_lay_24 : decode cX12_lay 24 = .ok (.iload 4, 2) := by decide +kernel
theorem dX12_lay_26 : decode cX12_lay 26 = .ok (.bipush 32, 2) := by decide +kernel
theorem dX12_lay_28 : decode cX12_lay 28 = .ok (.if_icmp .lt 41, 3) := by decide +kernel
theorem dX12_lay_31 : decode cX12_lay 31 = .ok (.iload 4, 2) := by decide +kernel
theorem dX12_lay_33 : decode cX12_lay 33 = .ok (.bipush 126, 2) := by decide +kernel
theorem dX12_lay_35 : decode cX12_lay 35 = .ok (.if_icmp .gt 34, 3) := by decide +kernel
theorem dX12_lay_38 : decode cX12_lay 38 = .ok (.aload_n 0, 1) := by decide +kernel
theorem dX12_lay_39 : decode cX12_lay 39 = .ok (.getfield 11, 3) := by decide +kernel
theorem dX12_lay_42 : decode cX12_lay 42 = .ok (.sipush 1000, 3) := by decide +kernel
theorem dX12_lay_45 : decode cX12_lay 45 = .ok (.if_icmp .ge 24, 3) := by decide +kernel
theorem dX12_lay_48 : decode cX12_lay 48 = .ok (.aload_n 0, 1) := by decide +kernel
theorem dX12_lay_49 : decode cX12_lay 49 = .ok (.getfield 14, 3) := by decide +kernel
theorem dX12_lay_52 : decode cX12_lay 52 = .ok (.aload_n 0, 1) := by decide +kernel
theorem dX12_lay_53 : decode cX12_lay 53 = .ok (.getfield 11, 3) := by decide +kernel
theorem dX12_lay_56 : decode cX12_lay 56 = .ok (.iload 4, 2) := by decide +kernel
theorem dX12_lay_58 : decode cX12_lay 58 = .ok (.iastore, 1) := by decide +kernel
theorem dX12_lay_59 : decode cX12_lay 59 = .ok (.aload_n 0, 1) := by decide +kernel
theorem dX12_lay_60 : decode cX12_lay 60 = .ok (.dup, 1) := by decide +kernel
theorem dX12_lay_61 : decode cX12_lay 61 = .ok (.getfield 11, 3) := by decide +kernel
theorem dX12_lay_64 : decode cX12_lay 64 = .ok (.iconst 1, 1) := by decide +kernel
theorem dX12_lay_65 : decode cX12_lay 65 = .ok (.iadd, 1) := by decide +kernel
theorem dX12_lay_66 : decode cX12_lay 66 = .ok (.putfield 11, 3) := by decide +kernel
theorem dX12_lay_69 : decode cX12_lay 69 = .ok (.iinc 3 (-8), 3) := by decide +kernel
theorem dX12_lay_72 : decode cX12_lay 72 = .ok (.goto (-69), 3) := by decide +kernel
theorem dX12_lay_75 : decode cX12_lay 75 = .ok (.return_, 1) := by decide +kernel
theorem dX12_wordsTold_0 : decode cX12_wordsTold 0 = .ok (.aload_n 0, 1) := by decide +kernel
theorem dX12_wordsTold_1 : decode cX12_wordsTold 1 = .ok (.getfield 79, 3) := by decide +kernel
theorem dX12_wordsTold_4 : decode cX12_wordsTold 4 = .ok (.iconst 0, 1) := by decide +kernel
theorem dX12_wordsTold_5 : decode cX12_wordsTold 5 = .ok (.iaload, 1) := by decide +kernel
theorem dX12_wordsTold_6 : decode cX12_wordsTold 6 = .ok (.ireturn, 1) := by decide +kernel
theorem dX12_rows_0 : decode cX12_rows 0 = .ok (.aload_n 0, 1) := by decide +kernel
theorem dX12_rows_1 : decode cX12_rows 1 = .ok (.getfield 79, 3) := by decide +kernel
theorem dX12_rows_4 : decode cX12_rows 4 = .ok (.iconst 2, 1) := by decide +kernel
theorem dX12_rows_5 : decode cX12_rows 5 = .ok (.iaload, 1) := by decide +kernel
theorem dX12_rows_6 : decode cX12_rows 6 = .ok (.ireturn, 1) := by decide +kernel
theorem dX12_goes_0 : decode cX12_goes 0 = .ok (.aload_n 0, 1) := by decide +kernel
theorem dX12_goes_1 : decode cX12_goes 1 = .ok (.getfield 79, 3) := by decide +kernel
theorem dX12_goes_4 : decode cX12_goes 4 = .ok (.iconst 1, 1) := by decide +kernel
theorem dX12_goes_5 : decode cX12_goes 5 = .ok (.iaload, 1) := by decide +kernel
theorem dX12_goes_6 : decode cX12_goes 6 = .ok (.istore_n 1, 1) := by decide +kernel
theorem dX12_goes_7 : decode cX12_goes 7 = .ok (.aload_n 0, 1) := by decide +kernel
theorem dX12_goes_8 : decode cX12_goes 8 = .ok (.iconst 0, 1) := by decide +kernel
theorem dX12_goes_9 : decode cX12_goes 9 = .ok (.putfield 349, 3) := by decide +kernel
theorem dX12_goes_12 : decode cX12_goes 12 = .ok (.aload_n 0, 1) := by decide +kernel
theorem dX12_goes_13 : decode cX12_goes 13 = .ok (.iconst 0, 1) := by decide +kernel
theorem dX12_goes_14 : decode cX12_goes 14 = .ok (.putfield 352, 3) := by decide +kernel
theorem dX12_goes_17 : decode cX12_goes 17 = .ok (.iconst 0, 1) := by decide +kernel
theorem dX12_goes_18 : decode cX12_goes 18 = .ok (.istore_n 2, 1) := by decide +kernel
theorem dX12_goes_19 : decode cX12_goes 19 = .ok (.iload_n 2, 1) := by decide +kernel
theorem dX12_goes_20 : decode cX12_goes 20 = .ok (.aload_n 0, 1) := by decide +kernel
theorem dX12_goes_21 : decode cX12_goes 21 = .ok (.invokevirtual 270, 3) := by decide +kernel
theorem dX12_goes_24 : decode cX12_goes 24 = .ok (.if_icmp .ge 152, 3) := by decide +kernel
theorem dX12_goes_27 : decode cX12_goes 27 = .ok (.iconst 0, 1) := by decide +kernel
theorem dX12_goes_28 : decode cX12_goes 28 = .ok (.istore_n 3, 1) := by decide +kernel
theorem dX12_goes_29 : decode cX12_goes 29 = .ok (.iconst 0, 1) := by decide +kernel
theorem dX12_goes_30 : decode cX12_goes 30 = .ok (.istore 4, 2) := by decide +kernel
theorem dX12_goes_32 : decode cX12_goes 32 = .ok (.iconst 0, 1) := by decide +kernel
theorem dX12_goes_33 : decode cX12_goes 33 = .ok (.istore 5, 2) := by decide +kernel
theorem dX12_goes_35 : decode cX12_goes 35 = .ok (.iload 5, 2) := by decide +kernel
theorem dX12_goes_37 : decode cX12_goes 37 = .ok (.aload_n 0, 1) := by decide +kernel
theorem dX12_goes_38 : decode cX12_goes 38 = .ok (.invokevirtual 266, 3) := by decide +kernel
theorem dX12_goes_41 : decode cX12_goes 41 = .ok (.if_icmp .ge 59, 3) := by decide +kernel
theorem dX12_goes_44 : decode cX12_goes 44 = .ok (.iload_n 3, 1) := by decide +kernel
theorem dX12_goes_45 : decode cX12_goes 45 = .ok (.aload_n 0, 1) := by decide +kernel
theorem dX12_goes_46 : decode cX12_goes 46 = .ok (.getfield 116, 3) := by decide +kernel
theorem dX12_goes_49 : decode cX12_goes 49 = .ok (.iconst 4, 1) := by decide +kernel
theorem dX12_goes_50 : decode cX12_goes 50 = .ok (.iload_n 2, 1) := by decide +kernel
theorem dX12_goes_51 : decode cX12_goes 51 = .ok (.imul, 1) := by decide +kernel
theorem dX12_goes_52 : decode cX12_goes 52 = .ok (.iload 5, 2) := by decide +kernel
theorem dX12_goes_54 : decode cX12_goes 54 = .ok (.iadd, 1) := by decide +kernel
theorem dX12_goes_55 : decode cX12_goes 55 = .ok (.iaload, 1) := by decide +kernel
theorem dX12_goes_56 : decode cX12_goes 56 = .ok (.aload_n 0, 1) := by decide +kernel
theorem dX12_goes_57 : decode cX12_goes 57 = .ok (.getfield 122, 3) := by decide +kernel
theorem dX12_goes_60 : decode cX12_goes 60 = .ok (.iload 5, 2) := by decide +kernel
theorem dX12_goes_62 : decode cX12_goes 62 = .ok (.iaload, 1) := by decide +kernel
theorem dX12_goes_63 : decode cX12_goes 63 = .ok (.iconst 3, 1) := by decide +kernel
theorem dX12_goes_64 : decode cX12_goes 64 = .ok (.idiv, 1) := by decide +kernel
theorem dX12_goes_65 : decode cX12_goes 65 = .ok (.imul, 1) := by decide +kernel
theorem dX12_goes_66 : decode cX12_goes 66 = .ok (.iadd, 1) := by decide +kernel
theorem dX12_goes_67 : decode cX12_goes 67 = .ok (.istore_n 3, 1) := by decide +kernel
theorem dX12_goes_68 : decode cX12_goes 68 = .ok (.iload 4, 2) := by decide +kernel
theorem dX12_goes_70 : decode cX12_goes 70 = .ok (.aload_n 0, 1) := by decide +kernel
theorem dX12_goes_71 : decode cX12_goes 71 = .ok (.getfield 116, 3) := by decide +kernel
theorem dX12_goes_74 : decode cX12_goes 74 = .ok (.iconst 4, 1) := by decide +kernel
theorem dX12_goes_75 : decode cX12_goes 75 = .ok (.iload_n 2, 1) := by decide +kernel
theorem dX12_goes_76 : decode cX12_goes 76 = .ok (.imul, 1) := by decide +kernel
theorem dX12_goes_77 : decode cX12_goes 77 = .ok (.iload 5, 2) := by decide +kernel
theorem dX12_goes_79 : decode cX12_goes 79 = .ok (.iadd, 1) := by decide +kernel
theorem dX12_goes_80 : decode cX12_goes 80 = .ok (.iaload, 1) := by decide +kernel
theorem dX12_goes_81 : decode cX12_goes 81 = .ok (.aload_n 0, 1) := by decide +kernel
theorem dX12_goes_82 : decode cX12_goes 82 = .ok (.getfield 122, 3) := by decide +kernel
theorem dX12_goes_85 : decode cX12_goes 85 = .ok (.iload 5, 2) := by decide +kernel
theorem dX12_goes_87 : decode cX12_goes 87 = .ok (.iaload, 1) := by decide +kernel
theorem dX12_goes_88 : decode cX12_goes 88 = .ok (.iconst 3, 1) := by decide +kernel
theorem dX12_goes_89 : decode cX12_goes 89 = .ok (.irem, 1) := by decide +kernel
theorem dX12_goes_90 : decode cX12_goes 90 = .ok (.imul, 1) := by decide +kernel
theorem dX12_goes_91 : decode cX12_goes 91 = .ok (.iadd, 1) := by decide +kernel
theorem dX12_goes_92 : decode cX12_goes 92 = .ok (.istore 4, 2) := by decide +kernel
theorem dX12_goes_94 : decode cX12_goes 94 = .ok (.iinc 5 1, 3) := by decide +kernel
theorem dX12_goes_97 : decode cX12_goes 97 = .ok (.goto (-62), 3) := by decide +kernel
theorem dX12_goes_100 : decode cX12_goes 100 = .ok (.aload_n 0, 1) := by decide +kernel
theorem dX12_goes_101 : decode cX12_goes 101 = .ok (.dup, 1) := by decide +kernel
theorem dX12_goes_102 : decode cX12_goes 102 = .ok (.getfield 349, 3) := by decide +kernel
theorem dX12_goes_105 : decode cX12_goes 105 = .ok (.iload_n 3, 1) := by decide +kernel
theorem dX12_goes_106 : decode cX12_goes 106 = .ok (.iload_n 1, 1) := by decide +kernel
theorem dX12_goes_107 : decode cX12_goes 107 = .ok (.if_icmp .ne 9, 3) := by decide +kernel
theorem dX12_goes_110 : decode cX12_goes 110 = .ok (.iconst 1, 1) := by decide +kernel
theorem dX12_goes_111 : decode cX12_goes 111 = .ok (.iload_n 2, 1) := by decide +kernel
theorem dX12_goes_112 : decode cX12_goes 112 = .ok (.ishl, 1) := by decide +kernel
theorem dX12_goes_113 : decode cX12_goes 113 = .ok (.goto 4, 3) := by decide +kernel
theorem dX12_goes_116 : decode cX12_goes 116 = .ok (.iconst 0, 1) := by decide +kernel
theorem dX12_goes_117 : decode cX12_goes 117 = .ok (.ior, 1) := by decide +kernel
theorem dX12_goes_118 : decode cX12_goes 118 = .ok (.putfield 349, 3) := by decide +kernel
theorem dX12_goes_121 : decode cX12_goes 121 = .ok (.iload 4, 2) := by decide +kernel
theorem dX12_goes_123 : decode cX12_goes 123 = .ok (.istore_n 1, 1) := by decide +kernel
theorem dX12_goes_124 : decode cX12_goes 124 = .ok (.aload_n 0, 1) := by decide +kernel
theorem dX12_goes_125 : decode cX12_goes 125 = .ok (.getfield 125, 3) := by decide +kernel
theorem dX12_goes_128 : decode cX12_goes 128 = .ok (.iload_n 2, 1) := by decide +kernel
theorem dX12_goes_129 : decode cX12_goes 129 = .ok (.iload_n 1, 1) := by decide +kernel
theorem dX12_goes_130 : decode cX12_goes 130 = .ok (.iastore, 1) := by decide +kernel
theorem dX12_goes_131 : decode cX12_goes 131 = .ok (.aload_n 0, 1) := by decide +kernel
theorem dX12_goes_132 : decode cX12_goes 132 = .ok (.dup, 1) := by decide +kernel
theorem dX12_goes_133 : decode cX12_goes 133 = .ok (.getfield 352, 3) := by decide +kernel
theorem dX12_goes_136 : decode cX12_goes 136 = .ok (.aload_n 0, 1) := by decide +kernel
theorem dX12_goes_137 : decode cX12_goes 137 = .ok (.getfield 103, 3) := by decide +kernel
theorem dX12_goes_140 : decode cX12_goes 140 = .ok (.iconst 4, 1) := by decide +kernel
theorem dX12_goes_141 : decode cX12_goes 141 = .ok (.iload_n 2, 1) := by decide +kernel
theorem dX12_goes_142 : decode cX12_goes 142 = .ok (.iadd, 1) := by decide +kernel
theorem dX12_goes_143 : decode cX12_goes 143 = .ok (.iaload, 1) := by decide +kernel
theorem dX12_goes_144 : decode cX12_goes 144 = .ok (.ifCond .lt 21, 3) := by decide +kernel
theorem dX12_goes_147 : decode cX12_goes 147 = .ok (.aload_n 0, 1) := by decide +kernel
theorem dX12_goes_148 : decode cX12_goes 148 = .ok (.getfield 103, 3) := by decide +kernel
theorem dX12_goes_151 : decode cX12_goes 151 = .ok (.iconst 4, 1) := by decide +kernel
theorem dX12_goes_152 : decode cX12_goes 152 = .ok (.iload_n 2, 1) := by decide +kernel
theorem dX12_goes_153 : decode cX12_goes 153 = .ok (.iadd, 1) := by decide +kernel
theorem dX12_goes_154 : decode cX12_goes 154 = .ok (.iaload, 1) := by decide +kernel
theorem dX12_goes_155 : decode cX12_goes 155 = .ok (.iload_n 1, 1) := by decide +kernel
theorem dX12_goes_156 : decode cX12_goes 156 = .ok (.if_icmp .eq 9, 3) := by decide +kernel
theorem dX12_goes_159 : decode cX12_goes 159 = .ok (.iconst 1, 1) := by decide +kernel
theorem dX12_goes_160 : decode cX12_goes 160 = .ok (.iload_n 2, 1) := by decide +kernel
theorem dX12_goes_161 : decode cX12_goes 161 = .ok (.ishl, 1) := by decide +kernel
theorem dX12_goes_162 : decode cX12_goes 162 = .ok (.goto 4, 3) := by decide +kernel
theorem dX12_goes_165 : decode cX12_goes 165 = .ok (.iconst 0, 1) := by decide +kernel
theorem dX12_goes_166 : decode cX12_goes 166 = .ok (.ior, 1) := by decide +kernel
theorem dX12_goes_167 : decode cX12_goes 167 = .ok (.putfield 352, 3) := by decide +kernel
theorem dX12_goes_170 : decode cX12_goes 170 = .ok (.iinc 2 1, 3) := by decide +kernel
theorem dX12_goes_173 : decode cX12_goes 173 = .ok (.goto (-154), 3) := by decide +kernel
theorem dX12_goes_176 : decode cX12_goes 176 = .ok (.return_, 1) := by decide +kernel
theorem dX12_within_0 : decode cX12_within 0 = .ok (.iload_n 0, 1) := by decide +kernel
theorem dX12_within_1 : decode cX12_within 1 = .ok (.iload_n 1, 1) := by decide +kernel
theorem dX12_within_2 : decode cX12_within 2 = .ok (.if_icmp .lt 12, 3) := by decide +kernel
theorem dX12_within_5 : decode cX12_within 5 = .ok (.iload_n 0, 1) := by decide +kernel
theorem dX12_within_6 : decode cX12_within 6 = .ok (.iload_n 2, 1) := by decide +kernel
theorem dX12_within_7 : decode cX12_within 7 = .ok (.if_icmp .gt 7, 3) := by decide +kernel
theorem dX12_within_10 : decode cX12_within 10 = .ok (.iconst 1, 1) := by decide +kernel
theorem dX12_within_11 : decode cX12_within 11 = .ok (.goto 4, 3) := by decide +kernel
theorem dX12_within_14 : decode cX12_within 14 = .ok (.iconst 0, 1) := by decide +kernel
theorem dX12_within_15 : decode cX12_within 15 = .ok (.ireturn, 1) := by decide +kernel
theorem dX12_feed_0 : decode cX12_feed 0 = .ok (.aload_n 0, 1) := by decide +kernel
theorem dX12_feed_1 : decode cX12_feed 1 = .ok (.iconst 0, 1) := by decide +kernel
theorem dX12_feed_2 : decode cX12_feed 2 = .ok (.putfield 1, 3) := by decide +kernel
theorem dX12_feed_5 : decode cX12_feed 5 = .ok (.aload_n 0, 1) := by decide +kernel
theorem dX12_feed_6 : decode cX12_feed 6 = .ok (.lload_n 1, 1) := by decide +kernel
theorem dX12_feed_7 : decode cX12_feed 7 = .ok (.invokevirtual 7, 3) := by decide +kernel
theorem dX12_feed_10 : decode cX12_feed 10 = .ok (.aload_n 0, 1) := by decide +kernel
theorem dX12_feed_11 : decode cX12_feed 11 = .ok (.lload_n 3, 1) := by decide +kernel
theorem dX12_feed_12 : decode cX12_feed 12 = .ok (.invokevirtual 7, 3) := by decide +kernel
theorem dX12_feed_15 : decode cX12_feed 15 = .ok (.aload_n 0, 1) := by decide +kernel
theorem dX12_feed_16 : decode cX12_feed 16 = .ok (.lload 5, 2) := by decide +kernel
theorem dX12_feed_18 : decode cX12_feed 18 = .ok (.invokevirtual 7, 3) := by decide +kernel
theorem dX12_feed_21 : decode cX12_feed 21 = .ok (.aload_n 0, 1) := by decide +kernel
theorem dX12_feed_22 : decode cX12_feed 22 = .ok (.getfield 11, 3) := by decide +kernel
theorem dX12_feed_25 : decode cX12_feed 25 = .ok (.ireturn, 1) := by decide +kernel
theorem dX12_bits_0 : decode cX12_bits 0 = .ok (.iconst 0, 1) := by decide +kernel
theorem dX12_bits_1 : decode cX12_bits 1 = .ok (.istore_n 1, 1) := by decide +kernel
theorem dX12_bits_2 : decode cX12_bits 2 = .ok (.iconst 0, 1) := by decide +kernel
theorem dX12_bits_3 : decode cX12_bits 3 = .ok (.istore_n 2, 1) := by decide +kernel
theorem dX12_bits_4 : decode cX12_bits 4 = .ok (.iload_n 2, 1) := by decide +kernel
theorem dX12_bits_5 : decode cX12_bits 5 = .ok (.bipush 30, 2) := by decide +kernel
theorem dX12_bits_7 : decode cX12_bits 7 = .ok (.if_icmp .ge 17, 3) := by decide +kernel
theorem dX12_bits_10 : decode cX12_bits 10 = .ok (.iload_n 1, 1) := by decide +kernel
theorem dX12_bits_11 : decode cX12_bits 11 = .ok (.iload_n 0, 1) := by decide +kernel
theorem dX12_bits_12 : decode cX12_bits 12 = .ok (.iload_n 2, 1) := by decide +kernel
theorem dX12_bits_13 : decode cX12_bits 13 = .ok (.ishr, 1) := by decide +kernel
theorem dX12_bits_14 : decode cX12_bits 14 = .ok (.iconst 1, 1) := by decide +kernel
theorem dX12_bits_15 : decode cX12_bits 15 = .ok (.iand, 1) := by decide +kernel
theorem dX12_bits_16 : decode cX12_bits 16 = .ok (.iadd, 1) := by decide +kernel
theorem dX12_bits_17 : decode cX12_bits 17 = .ok (.istore_n 1, 1) := by decide +kernel
theorem dX12_bits_18 : decode cX12_bits 18 = .ok (.iinc 2 1, 3) := by decide +kernel
theorem dX12_bits_21 : decode cX12_bits 21 = .ok (.goto (-17), 3) := by decide +kernel
theorem dX12_bits_24 : decode cX12_bits 24 = .ok (.iload_n 1, 1) := by decide +kernel
theorem dX12_bits_25 : decode cX12_bits 25 = .ok (.ireturn, 1) := by decide +kernel
theorem zq_140 : Cond.fieldLink RX12 14 "ForeignKnitModel" "tape" "[I" ∈ zG := List.mem_of_getElem? (i := 140) (by decide +kernel)
theorem zq_166 : Cond.fieldLink RX12 79 "ForeignKnitModel" "books" "[I" ∈ zG := List.mem_of_getElem? (i := 166) (by decide +kernel)
theorem zq_174 : Cond.fieldLink RX12 103 "ForeignKnitModel" "state" "[I" ∈ zG := List.mem_of_getElem? (i := 174) (by decide +kernel)
theorem zq_178 : Cond.fieldLink RX12 116 "ForeignKnitModel" "uses" "[I" ∈ zG := List.mem_of_getElem? (i := 178) (by decide +kernel)
theorem zq_180 : Cond.fieldLink RX12 122 "ForeignKnitModel" "mean" "[I" ∈ zG := List.mem_of_getElem? (i := 180) (by decide +kernel)
theorem zq_181 : Cond.fieldLink RX12 125 "ForeignKnitModel" "back" "[I" ∈ zG := List.mem_of_getElem? (i := 181) (by decide +kernel)
theorem zq_199 : Cond.methodLink RX12 270 yX12_rows ∈ zG := List.mem_of_getElem? (i := 199) (by decide +kernel)
theorem zq_211 : Cond.methodLink RX12 266 yX12_wordsTold ∈ zG := List.mem_of_getElem? (i := 211) (by decide +kernel)
theorem zq_248 : Cond.fieldLink RX12 1 "ForeignKnitModel" "thrown" "I" ∈ zG := List.mem_of_getElem? (i := 248) (by decide +kernel)
theorem zq_249 : Cond.fieldLink RX12 11 "ForeignKnitModel" "taped" "I" ∈ zG := List.mem_of_getElem? (i := 249) (by decide +kernel)
theorem zq_250 : Cond.methodLink RX12 7 yX12_lay ∈ zG := List.mem_of_getElem? (i := 250) (by decide +kernel)
theorem zq_595 : Cond.methodLink RX12 159 yX12_isLetter ∈ zG := List.mem_of_getElem? (i := 595) (by decide +kernel)
theorem zq_1085 : Cond.fieldLink RX12 349 "ForeignKnitModel" "ups" "I" ∈ zG := List.mem_of_getElem? (i := 1085) (by decide +kernel)
theorem zq_1086 : Cond.fieldLink RX12 352 "ForeignKnitModel" "offs" "I" ∈ zG := List.mem_of_getElem? (i := 1086) (by decide +kernel)
theorem zfd_X12_11 : zFd RX12 11 12 2 := ⟨_, rfl, by decide, zq_249⟩
theorem zfd_X12_14 : zFd RX12 14 12 1 := ⟨_, rfl, by decide, zq_140⟩
theorem zfd_X12_79 : zFd RX12 79 12 10 := ⟨_, rfl, by decide, zq_166⟩
theorem zfd_X12_103 : zFd RX12 103 12 20 := ⟨_, rfl, by decide, zq_174⟩
theorem zfd_X12_116 : zFd RX12 116 12 25 := ⟨_, rfl, by decide, zq_178⟩
theorem zfd_X12_122 : zFd RX12 122 12 27 := ⟨_, rfl, by decide, zq_180⟩
theorem zfd_X12_125 : zFd RX12 125 12 28 := ⟨_, rfl, by decide, zq_181⟩
theorem zfd_X12_349 : zFd RX12 349 12 29 := ⟨_, rfl, by decide, zq_1085⟩
theorem zfd_X12_352 : zFd RX12 352 12 30 := ⟨_, rfl, by decide, zq_1086⟩
theorem zfp_X12_1 : zFp RX12 1 12 0 .int := ⟨_, rfl, by decide, zq_248, rfl, by decide +kernel⟩
theorem zfp_X12_11 : zFp RX12 11 12 2 .int := ⟨_, rfl, by decide, zq_249, rfl, by decide +kernel⟩
theorem zfp_X12_349 : zFp RX12 349 12 29 .int := ⟨_, rfl, by decide, zq_1085, rfl, by decide +kernel⟩
theorem zfp_X12_352 : zFp RX12 352 12 30 .int := ⟨_, rfl, by decide, zq_1086, rfl, by decide +kernel⟩
theorem zq_253 : Cond.code yX12_lay cX12_lay 5 none ∈ zG := List.mem_of_getElem? (i := 253) (by decide +kernel)
theorem zq_251 : Cond.instanceMethod yX12_lay ∈ zG := List.mem_of_getElem? (i := 251) (by decide +kernel)
theorem zq_252 : Cond.selects RX12 yX12_lay yX12_lay ∈ zG := List.mem_of_getElem? (i := 252) (by decide +kernel)
theorem zq_5 : Cond.initialized RX12 ∈ zG := List.mem_of_getElem? (i := 5) (by decide +kernel)
theorem zy_X12_lay : zyV yX12_lay cX12_lay 5 none 1 := ⟨zq_253, zq_251, zq_252, zq_5, ⟨by decide, by decide⟩, by decide +kernel, by decide⟩
theorem zq_202 : Cond.code yX12_rows cX12_rows 1 (some .int) ∈ zG := List.mem_of_getElem? (i := 202) (by decide +kernel)
theorem zq_200 : Cond.instanceMethod yX12_rows ∈ zG := List.mem_of_getElem? (i := 200) (by decide +kernel)
theorem zq_201 : Cond.selects RX12 yX12_rows yX12_rows ∈ zG := List.mem_of_getElem? (i := 201) (by decide +kernel)
theorem zy_X12_rows : zyV yX12_rows cX12_rows 1 (some .int) 0 := ⟨zq_202, zq_200, zq_201, zq_5, ⟨by decide, by decide⟩, by decide +kernel, by decide⟩
theorem zq_214 : Cond.code yX12_wordsTold cX12_wordsTold 1 (some .int) ∈ zG := List.mem_of_getElem? (i := 214) (by decide +kernel)
theorem zq_212 : Cond.instanceMethod yX12_wordsTold ∈ zG := List.mem_of_getElem? (i := 212) (by decide +kernel)
theorem zq_213 : Cond.selects RX12 yX12_wordsTold yX12_wordsTold ∈ zG := List.mem_of_getElem? (i := 213) (by decide +kernel)
theorem zy_X12_wordsTold : zyV yX12_wordsTold cX12_wordsTold 1 (some .int) 0 := ⟨zq_214, zq_212, zq_213, zq_5, ⟨by decide, by decide⟩, by decide +kernel, by decide⟩
theorem zq_597 : Cond.code yX12_isLetter cX12_isLetter 1 (some .boolean) ∈ zG := List.mem_of_getElem? (i := 597) (by decide +kernel)
theorem zq_596 : Cond.static yX12_isLetter ∈ zG := List.mem_of_getElem? (i := 596) (by decide +kernel)
theorem zy_X12_isLetter : zyS yX12_isLetter cX12_isLetter 1 (some .boolean) 1 := ⟨zq_597, zq_596, zq_5, ⟨by decide, by decide⟩, by decide +kernel, by decide⟩
theorem zf_200 : zfix 200 = true := by decide +kernel
theorem zs_200 : zsh 200 = 12 := by decide +kernel
theorem zl_200 : zln 200 = 0 := by decide +kernel
theorem zf_201 : zfix 201 = true := by decide +kernel
theorem zs_201 : zsh 201 = 20 := by decide +kernel
theorem zl_201 : zln 201 = 1000 := by decide +kernel
theorem zf_210 : zfix 210 = true := by decide +kernel
theorem zs_210 : zsh 210 = 20 := by decide +kernel
theorem zl_210 : zln 210 = 60 := by decide +kernel
theorem zf_220 : zfix 220 = true := by decide +kernel
theorem zs_220 : zsh 220 = 20 := by decide +kernel
theorem zl_220 : zln 220 = 252 := by decide +kernel
theorem zf_225 : zfix 225 = true := by decide +kernel
theorem zs_225 : zsh 225 = 20 := by decide +kernel
theorem zl_225 : zln 225 = 32 := by decide +kernel
theorem zf_227 : zfix 227 = true := by decide +kernel
theorem zs_227 : zsh 227 = 20 := by decide +kernel
theorem zl_227 : zln 227 = 4 := by decide +kernel
theorem zf_228 : zfix 228 = true := by decide +kernel
theorem zs_228 : zsh 228 = 20 := by decide +kernel
theorem zl_228 : zln 228 = 8 := by decide +kernel
section ZM
variable {p : Program} {l : Launch} {e : Env} {R : Room} {s : State} {m : MethodId} {args : Array Value} {below : List Frame} {meth : Method} {c : Code} {cells slots : Nat} {Q : State → Prop} {D : va_G} {dA : Nat → ClassId} {ad ad0 : Nat → Nat} {al al0 : Nat → Prop}
/-! X12_isLetter -/
def fX12_isLetter (x0 : Int32) (w : zW) (k : Int32 → zW → Prop) : Prop :=
  ∀ v1 : Int32, v1 = (if x0 < (97 : Int32) then (0 : Int32) else (if (122 : Int32) < x0 then (0 : Int32) else (1 : Int32))) →
  zb01 v1 ∧ k v1 w
set_option maxHeartbeats 4000000 in
set_option maxRecDepth 100000 in
theorem mX12_isLetter {l : Launch} {D : va_G} {dA : Nat → ClassId} {ad : Nat → Nat} {al : Nat → Prop} {w : zW} {k : Int32 → zW → Prop} {x0 : Int32}   (hf : fX12_isLetter x0 w k) : zmetI l yX12_isLetter cX12_isLetter 1 (some .boolean) 0 [.int x0] D dA true ad al w k := by
  refine zmetZ_of (by decide) (Nat.le_of_ble_eq_true rfl) ?_
  intro p e R s m below meth c Q H ls args locs cells slots X hr hQ hR hl
  have hx := X.1
  have hb := X.2.1
  have hml := X.2.2.1
  have hown := X.2.2.2.1
  have hts := X.2.2.2.2.1
  unfold fX12_isLetter at hf
  have hl : lv_has ls 1 [(0, .int x0)] := hl
  refine lv_iload_n hx hb dX12_isLetter_0 rfl (lv_at hl 0 rfl) ?_
  refine lv_bipush (v := (97 : Int32)) hx hb dX12_isLetter_1 (by decide) ?_
  have kJ1 : ∀ v1 : Int32, v1 = (if x0 < (97 : Int32) then (0 : Int32) else (if (122 : Int32) < x0 then (0 : Int32) else (1 : Int32))) → W p l e R s m args below meth c H locs cells slots Q (F0 m 17 ls (.int v1 :: [])) := by
    intro v1 hv1
    replace hf := hf v1 hv1
    obtain ⟨h01, hf⟩ := hf
    exact hQ _ _ _ _ _ _ h01 hf hR dX12_isLetter_17
  refine lv_icmp_lt (tgt := 16) hx hb dX12_isLetter_3 (by decide) (fun c1 => ?_) (fun c1 => ?_)
  · refine lv_iconst (v := (0 : Int32)) hx hb dX12_isLetter_16 (by decide) ?_
    exact kJ1 _ (if_pos c1).symm
  · refine lv_iload_n hx hb dX12_isLetter_6 rfl (lv_at hl 0 rfl) ?_
    refine lv_bipush (v := (122 : Int32)) hx hb dX12_isLetter_7 (by decide) ?_
    refine lv_icmp_gt (tgt := 16) hx hb dX12_isLetter_9 (by decide) (fun c2 => ?_) (fun c2 => ?_)
    · refine lv_iconst (v := (0 : Int32)) hx hb dX12_isLetter_16 (by decide) ?_
      exact kJ1 _ ((if_neg c1).trans (if_pos c2)).symm
    · refine lv_iconst (v := (1 : Int32)) hx hb dX12_isLetter_12 (by decide) ?_
      refine lv_goto (tgt := 17) hx hb dX12_isLetter_13 (by decide) ?_
      exact kJ1 _ ((if_neg c1).trans (if_neg c2)).symm
/-! X12_isDigit -/
def fX12_isDigit (x0 : Int32) (w : zW) (k : Int32 → zW → Prop) : Prop :=
  ∀ v1 : Int32, v1 = (if x0 < (48 : Int32) then (0 : Int32) else (if (57 : Int32) < x0 then (0 : Int32) else (1 : Int32))) →
  zb01 v1 ∧ k v1 w
set_option maxHeartbeats 4000000 in
set_option maxRecDepth 100000 in
theorem mX12_isDigit {l : Launch} {D : va_G} {dA : Nat → ClassId} {ad : Nat → Nat} {al : Nat → Prop} {w : zW} {k : Int32 → zW → Prop} {x0 : Int32}   (hf : fX12_isDigit x0 w k) : zmetI l yX12_isDigit cX12_isDigit 1 (some .boolean) 0 [.int x0] D dA true ad al w k := by
  refine zmetZ_of (by decide) (Nat.le_of_ble_eq_true rfl) ?_
  intro p e R s m below meth c Q H ls args locs cells slots X hr hQ hR hl
  have hx := X.1
  have hb := X.2.1
  have hml := X.2.2.1
  have hown := X.2.2.2.1
  have hts := X.2.2.2.2.1
  unfold fX12_isDigit at hf
  have hl : lv_has ls 1 [(0, .int x0)] := hl
  refine lv_iload_n hx hb dX12_isDigit_0 rfl (lv_at hl 0 rfl) ?_
  refine lv_bipush (v := (48 : Int32)) hx hb dX12_isDigit_1 (by decide) ?_
  have kJ1 : ∀ v1 : Int32, v1 = (if x0 < (48 : Int32) then (0 : Int32) else (if (57 : Int32) < x0 then (0 : Int32) else (1 : Int32))) → W p l e R s m args below meth c H locs cells slots Q (F0 m 17 ls (.int v1 :: [])) := by
    intro v1 hv1
    replace hf := hf v1 hv1
    obtain ⟨h01, hf⟩ := hf
    exact hQ _ _ _ _ _ _ h01 hf hR dX12_isDigit_17
  refine lv_icmp_lt (tgt := 16) hx hb dX12_isDigit_3 (by decide) (fun c1 => ?_) (fun c1 => ?_)
  · refine lv_iconst (v := (0 : Int32)) hx hb dX12_isDigit_16 (by decide) ?_
    exact kJ1 _ (if_pos c1).symm
  · refine lv_iload_n hx hb dX12_isDigit_6 rfl (lv_at hl 0 rfl) ?_
    refine lv_bipush (v := (57 : Int32)) hx hb dX12_isDigit_7 (by decide) ?_
    refine lv_icmp_gt (tgt := 16) hx hb dX12_isDigit_9 (by decide) (fun c2 => ?_) (fun c2 => ?_)
    · refine lv_iconst (v := (0 : Int32)) hx hb dX12_isDigit_16 (by decide) ?_
      exact kJ1 _ ((if_neg c1).trans (if_pos c2)).symm
    · refine lv_iconst (v := (1 : Int32)) hx hb dX12_isDigit_12 (by decide) ?_
      refine lv_goto (tgt := 17) hx hb dX12_isDigit_13 (by decide) ?_
      exact kJ1 _ ((if_neg c1).trans (if_neg c2)).symm
/-! X12_rank -/
def fX12_rank (x0 : Int32) (w : zW) (k : Int32 → zW → Prop) : Prop :=
  fX12_isLetter x0 w (fun r1 w1 =>
  ∀ v2 : Int32, v2 = (if r1 = 0 then (x0 - (21 : Int32)) else (x0 - (96 : Int32))) →
  k v2 w1)
set_option maxHeartbeats 4000000 in
set_option maxRecDepth 100000 in
theorem mX12_rank {l : Launch} {D : va_G} {dA : Nat → ClassId} {ad : Nat → Nat} {al : Nat → Prop} {w : zW} {k : Int32 → zW → Prop} {x0 : Int32}   (hf : fX12_rank x0 w k) : zmetI l yX12_rank cX12_rank 1 (some .int) 1 [.int x0] D dA true ad al w k := by
  refine zmetI_of (by decide) (Nat.le_of_ble_eq_true rfl) ?_
  intro p e R s m below meth c Q H ls args locs cells slots X hr hQ hR hl
  have hx := X.1
  have hb := X.2.1
  have hml := X.2.2.1
  have hown := X.2.2.2.1
  have hts := X.2.2.2.2.1
  unfold fX12_rank at hf
  have hl : lv_has ls 1 [(0, .int x0)] := hl
  refine lv_iload_n hx hb dX12_rank_0 rfl (lv_at hl 0 rfl) ?_
  refine z_callSI (fr1 := 0) (As := [.int x0]) (rest := []) X (hr.le (by decide)) hR zy_X12_isLetter zq_595 (mX12_isLetter  hf) rfl hl (Nat.le_of_ble_eq_true rfl) dX12_rank_1 rfl (fun r1 w1 H locs hf hR => ?_)
  have kJ2 : ∀ v2 : Int32, v2 = (if r1 = 0 then (x0 - (21 : Int32)) else (x0 - (96 : Int32))) → W p l e R s m args below meth c H locs cells slots Q (F0 m 18 ls (.int v2 :: [])) := by
    intro v2 hv2
    replace hf := hf v2 hv2
    exact hQ _ _ _ _ _ _ hf hR dX12_rank_18
  refine lv_if_eq (tgt := 14) hx hb dX12_rank_4 (by decide) (fun c2 => ?_) (fun c2 => ?_)
  · refine lv_iload_n hx hb dX12_rank_14 rfl (lv_at hl 0 rfl) ?_
    refine lv_bipush (v := (21 : Int32)) hx hb dX12_rank_15 (by decide) ?_
    refine lv_isub hx hb dX12_rank_17 ?_
    exact kJ2 _ (if_pos c2).symm
  · refine lv_iload_n hx hb dX12_rank_7 rfl (lv_at hl 0 rfl) ?_
    refine lv_bipush (v := (96 : Int32)) hx hb dX12_rank_8 (by decide) ?_
    refine lv_isub hx hb dX12_rank_10 ?_
    refine lv_goto (tgt := 18) hx hb dX12_rank_11 (by decide) ?_
    exact kJ2 _ (if_neg c2).symm
/-! X12_isSignOf -/
def fX12_isSignOf (x0 : Int32) (w : zW) (k : Int32 → zW → Prop) : Prop :=
  ∀ v1 : Int32, v1 = (if x0 = (40 : Int32) then (1 : Int32) else (if x0 = (41 : Int32) then (1 : Int32) else (if x0 = (59 : Int32) then (1 : Int32) else (if x0 = (61 : Int32) then (1 : Int32) else (if x0 = (60 : Int32) then (1 : Int32) else (if x0 = (43 : Int32) then (1 : Int32) else (if x0 = (45 : Int32) then (1 : Int32) else (if ¬ x0 = (42 : Int32) then (0 : Int32) else (1 : Int32))))))))) →
  zb01 v1 ∧ k v1 w
set_option maxHeartbeats 4000000 in
set_option maxRecDepth 100000 in
theorem mX12_isSignOf {l : Launch} {D : va_G} {dA : Nat → ClassId} {ad : Nat → Nat} {al : Nat → Prop} {w : zW} {k : Int32 → zW → Prop} {x0 : Int32}   (hf : fX12_isSignOf x0 w k) : zmetI l yX12_isSignOf cX12_isSignOf 1 (some .boolean) 0 [.int x0] D dA true ad al w k := by
  refine zmetZ_of (by decide) (Nat.le_of_ble_eq_true rfl) ?_
  intro p e R s m below meth c Q H ls args locs cells slots X hr hQ hR hl
  have hx := X.1
  have hb := X.2.1
  have hml := X.2.2.1
  have hown := X.2.2.2.1
  have hts := X.2.2.2.2.1
  unfold fX12_isSignOf at hf
  have hl : lv_has ls 1 [(0, .int x0)] := hl
  refine lv_iload_n hx hb dX12_isSignOf_0 rfl (lv_at hl 0 rfl) ?_
  refine lv_bipush (v := (40 : Int32)) hx hb dX12_isSignOf_1 (by decide) ?_
  have kJ1 : ∀ v1 : Int32, v1 = (if x0 = (40 : Int32) then (1 : Int32) else (if x0 = (41 : Int32) then (1 : Int32) else (if x0 = (59 : Int32) then (1 : Int32) else (if x0 = (61 : Int32) then (1 : Int32) else (if x0 = (60 : Int32) then (1 : Int32) else (if x0 = (43 : Int32) then (1 : Int32) else (if x0 = (45 : Int32) then (1 : Int32) else (if ¬ x0 = (42 : Int32) then (0 : Int32) else (1 : Int32))))))))) → W p l e R s m args below meth c H locs cells slots Q (F0 m 53 ls (.int v1 :: [])) := by
    intro v1 hv1
    replace hf := hf v1 hv1
    obtain ⟨h01, hf⟩ := hf
    exact hQ _ _ _ _ _ _ h01 hf hR dX12_isSignOf_53
  refine lv_icmp_eq (tgt := 48) hx hb dX12_isSignOf_3 (by decide) (fun c1 => ?_) (fun c1 => ?_)
  · refine lv_iconst (v := (1 : Int32)) hx hb dX12_isSignOf_48 (by decide) ?_
    refine lv_goto (tgt := 53) hx hb dX12_isSignOf_49 (by decide) ?_
    exact kJ1 _ (if_pos c1).symm
  · refine lv_iload_n hx hb dX12_isSignOf_6 rfl (lv_at hl 0 rfl) ?_
    refine lv_bipush (v := (41 : Int32)) hx hb dX12_isSignOf_7 (by decide) ?_
    refine lv_icmp_eq (tgt := 48) hx hb dX12_isSignOf_9 (by decide) (fun c2 => ?_) (fun c2 => ?_)
    · refine lv_iconst (v := (1 : Int32)) hx hb dX12_isSignOf_48 (by decide) ?_
      refine lv_goto (tgt := 53) hx hb dX12_isSignOf_49 (by decide) ?_
      exact kJ1 _ ((if_neg c1).trans (if_pos c2)).symm
    · refine lv_iload_n hx hb dX12_isSignOf_12 rfl (lv_at hl 0 rfl) ?_
      refine lv_bipush (v := (59 : Int32)) hx hb dX12_isSignOf_13 (by decide) ?_
      refine lv_icmp_eq (tgt := 48) hx hb dX12_isSignOf_15 (by decide) (fun c3 => ?_) (fun c3 => ?_)
      · refine lv_iconst (v := (1 : Int32)) hx hb dX12_isSignOf_48 (by decide) ?_
        refine lv_goto (tgt := 53) hx hb dX12_isSignOf_49 (by decide) ?_
        exact kJ1 _ ((if_neg c1).trans ((if_neg c2).trans (if_pos c3))).symm
      · refine lv_iload_n hx hb dX12_isSignOf_18 rfl (lv_at hl 0 rfl) ?_
        refine lv_bipush (v := (61 : Int32)) hx hb dX12_isSignOf_19 (by decide) ?_
        refine lv_icmp_eq (tgt := 48) hx hb dX12_isSignOf_21 (by decide) (fun c4 => ?_) (fun c4 => ?_)
        · refine lv_iconst (v := (1 : Int32)) hx hb dX12_isSignOf_48 (by decide) ?_
          refine lv_goto (tgt := 53) hx hb dX12_isSignOf_49 (by decide) ?_
          exact kJ1 _ ((if_neg c1).trans ((if_neg c2).trans ((if_neg c3).trans (if_pos c4)))).symm
        · refine lv_iload_n hx hb dX12_isSignOf_24 rfl (lv_at hl 0 rfl) ?_
          refine lv_bipush (v := (60 : Int32)) hx hb dX12_isSignOf_25 (by decide) ?_
          refine lv_icmp_eq (tgt := 48) hx hb dX12_isSignOf_27 (by decide) (fun c5 => ?_) (fun c5 => ?_)
          · refine lv_iconst (v := (1 : Int32)) hx hb dX12_isSignOf_48 (by decide) ?_
            refine lv_goto (tgt := 53) hx hb dX12_isSignOf_49 (by decide) ?_
            exact kJ1 _ ((if_neg c1).trans ((if_neg c2).trans ((if_neg c3).trans ((if_neg c4).trans (if_pos c5))))).symm
          · refine lv_iload_n hx hb dX12_isSignOf_30 rfl (lv_at hl 0 rfl) ?_
            refine lv_bipush (v := (43 : Int32)) hx hb dX12_isSignOf_31 (by decide) ?_
            refine lv_icmp_eq (tgt := 48) hx hb dX12_isSignOf_33 (by decide) (fun c6 => ?_) (fun c6 => ?_)
            · refine lv_iconst (v := (1 : Int32)) hx hb dX12_isSignOf_48 (by decide) ?_
              refine lv_goto (tgt := 53) hx hb dX12_isSignOf_49 (by decide) ?_
              exact kJ1 _ ((if_neg c1).trans ((if_neg c2).trans ((if_neg c3).trans ((if_neg c4).trans ((if_neg c5).trans (if_pos c6)))))).symm
            · refine lv_iload_n hx hb dX12_isSignOf_36 rfl (lv_at hl 0 rfl) ?_
              refine lv_bipush (v := (45 : Int32)) hx hb dX12_isSignOf_37 (by decide) ?_
              refine lv_icmp_eq (tgt := 48) hx hb dX12_isSignOf_39 (by decide) (fun c7 => ?_) (fun c7 => ?_)
              · refine lv_iconst (v := (1 : Int32)) hx hb dX12_isSignOf_48 (by decide) ?_
                refine lv_goto (tgt := 53) hx hb dX12_isSignOf_49 (by decide) ?_
                exact kJ1 _ ((if_neg c1).trans ((if_neg c2).trans ((if_neg c3).trans ((if_neg c4).trans ((if_neg c5).trans ((if_neg c6).trans (if_pos c7))))))).symm
              · refine lv_iload_n hx hb dX12_isSignOf_42 rfl (lv_at hl 0 rfl) ?_
                refine lv_bipush (v := (42 : Int32)) hx hb dX12_isSignOf_43 (by decide) ?_
                refine lv_icmp_ne (tgt := 52) hx hb dX12_isSignOf_45 (by decide) (fun c8 => ?_) (fun c8 => ?_)
                · refine lv_iconst (v := (0 : Int32)) hx hb dX12_isSignOf_52 (by decide) ?_
                  exact kJ1 _ ((if_neg c1).trans ((if_neg c2).trans ((if_neg c3).trans ((if_neg c4).trans ((if_neg c5).trans ((if_neg c6).trans ((if_neg c7).trans (if_pos c8)))))))).symm
                · refine lv_iconst (v := (1 : Int32)) hx hb dX12_isSignOf_48 (by decide) ?_
                  refine lv_goto (tgt := 53) hx hb dX12_isSignOf_49 (by decide) ?_
                  exact kJ1 _ ((if_neg c1).trans ((if_neg c2).trans ((if_neg c3).trans ((if_neg c4).trans ((if_neg c5).trans ((if_neg c6).trans ((if_neg c7).trans (if_neg (fun h9 => h9 c8))))))))).symm
/-! X12_lay -/
def fX12_lay_J38 (k : zW → Prop) (g3 : Int64 → Int32 → zW → Prop) (x1 : Int64) (x3 : Int32) (x4 : Int32) (w : zW) : Prop :=
  (((1000 : Int32) ≤ (gI w 200 2) →
    g3 x1 (x3 + (-8 : Int32)) w) ∧
   (¬ (1000 : Int32) ≤ (gI w 200 2) →
    vp_in (gI w 200 2) 1000 ∧ 
    ∀ w6 : zW, w6 = sI w 201 (gI w 200 2).toNatClampNeg x4 →
    ∀ w7 : zW, w7 = sI w6 200 2 ((gI w6 200 2) + (1 : Int32)) →
    g3 x1 (x3 + (-8 : Int32)) w7))
set_option maxHeartbeats 4000000 in
set_option maxRecDepth 100000 in
theorem mX12_lay_J38 {k : zW → Prop} {g3 : Int64 → Int32 → zW → Prop} (X : zCx p s m args meth c cX12_lay 5 RX12 none) (hr : zRm R 0 cells slots) (hQ : zRetV p l e R s m args below meth c cells slots Q D dA true ad0 al0 ad al cX12_lay k) (hg3 : ∀ (x1 : Int64) (x3 : Int32) (w : zW) (H : Heap) (locs : List Loc) (ls : Array Slot), g3 x1 x3 w → zSt D dA true ad0 al0 ad al w s H locs → lv_has ls 5 [(0, .ref (ad 200)), (1, .long x1), (3, .int x3)] → W p l e R s m args below meth c H locs cells slots Q (F0 m 3 ls [])) {x1 : Int64} {x3 : Int32} {x4 : Int32} {w : zW} {H : Heap} {locs : List Loc} {ls : Array Slot} (hf : fX12_lay_J38 k g3 x1 x3 x4 w) (hR : zSt D dA true ad0 al0 ad al w s H locs) (hl : lv_has ls 5 [(0, .ref (ad 200)), (1, .long x1), (3, .int x3), (4, .int x4)]) : W p l e R s m args below meth c H locs cells slots Q (F0 m 38 ls []) := by
  have hx := X.1
  have hb := X.2.1
  have hml := X.2.2.1
  have hown := X.2.2.2.1
  have hts := X.2.2.2.2.1
  unfold fX12_lay_J38 at hf
  refine lv_aload_n hx hb dX12_lay_38 rfl (lv_at hl 0 rfl) ?_
  refine z_getI X hR (zlit hR zf_200) zs_200 (by decide) zfd_X12_11 rfl dX12_lay_39 ?_
  refine lv_sipush (v := (1000 : Int32)) hx hb dX12_lay_42 (by decide) ?_
  refine lv_icmp_ge (tgt := 69) hx hb dX12_lay_45 (by decide) (fun c4 => ?_) (fun c4 => ?_)
  · replace hf := hf.1 c4
    refine lv_iinc (v := x3 + (-8 : Int32)) (lv' := [(3, .int (x3 + (-8 : Int32))), (0, .ref (ad 200)), (1, .long x1), (4, .int x4)]) hx hb dX12_lay_69 hl (k := 2) rfl rfl (by decide) rfl (fun ls hl => ?_)
    refine lv_goto (tgt := 3) hx hb dX12_lay_72 (by decide) ?_
    exact hg3 x1 (x3 + (-8 : Int32)) w _ _ _ hf hR (lv_sub hl [1, 2, 0] rfl)
  · replace hf := hf.2 c4
    refine lv_aload_n hx hb dX12_lay_48 rfl (lv_at hl 0 rfl) ?_
    refine z_getS X hR (zlit hR zf_200) zs_200 (by decide) zfd_X12_14 rfl (r := 201) (by decide +kernel) dX12_lay_49 ?_
    refine lv_aload_n hx hb dX12_lay_52 rfl (lv_at hl 0 rfl) ?_
    refine z_getI X hR (zlit hR zf_200) zs_200 (by decide) zfd_X12_11 rfl dX12_lay_53 ?_
    refine lv_iload hx hb dX12_lay_56 (lv_at hl 3 rfl) ?_
    obtain ⟨hb5, hf⟩ := hf
    refine z_iast X hR (zlit hR zf_201) zs_201 zl_201 hb5 dX12_lay_58 (fun H locs hR => ?_)
    obtain ⟨w6, hw6⟩ : ∃ z : zW, z = sI w 201 (gI w 200 2).toNatClampNeg x4 := ⟨_, rfl⟩
    rw [← hw6] at hR
    replace hf := hf w6 hw6
    refine lv_aload_n hx hb dX12_lay_59 rfl (lv_at hl 0 rfl) ?_
    refine lv_dup hx hb dX12_lay_60 rfl ?_
    refine z_getI X hR (zlit hR zf_200) zs_200 (by decide) zfd_X12_11 rfl dX12_lay_61 ?_
    refine lv_iconst (v := (1 : Int32)) hx hb dX12_lay_64 (by decide) ?_
    refine lv_iadd hx hb dX12_lay_65 ?_
    refine z_putI X hR (zlit hR zf_200) zs_200 (by decide) zfp_X12_11 rfl dX12_lay_66 (fun H locs hR => ?_)
    obtain ⟨w7, hw7⟩ : ∃ z : zW, z = sI w6 200 2 ((gI w6 200 2) + (1 : Int32)) := ⟨_, rfl⟩
    rw [← hw7] at hR
    replace hf := hf w7 hw7
    refine lv_iinc (v := x3 + (-8 : Int32)) (lv' := [(3, .int (x3 + (-8 : Int32))), (0, .ref (ad 200)), (1, .long x1), (4, .int x4)]) hx hb dX12_lay_69 hl (k := 2) rfl rfl (by decide) rfl (fun ls hl => ?_)
    refine lv_goto (tgt := 3) hx hb dX12_lay_72 (by decide) ?_
    exact hg3 x1 (x3 + (-8 : Int32)) w7 _ _ _ hf hR (lv_sub hl [1, 2, 0] rfl)
def fX12_lay_L3 (k : zW → Prop) : Nat → Int64 → Int32 → zW → Prop
  | 0 => fun _ _ _ => False
  | n + 1 => fun x1 x3 w =>
    ((x3 < 0 →
      k w) ∧
     (¬ x3 < 0 →
      ∀ v2 : Int32, v2 = ((x1 >>> (x3.toInt64 &&& 63)).toInt32) &&& (255 : Int32) →
      ((v2 = (10 : Int32) →
        fX12_lay_J38 k (fX12_lay_L3 k n) x1 x3 v2 w) ∧
       (¬ v2 = (10 : Int32) →
        ((v2 < (32 : Int32) →
          fX12_lay_L3 k n x1 (x3 + (-8 : Int32)) w) ∧
         (¬ v2 < (32 : Int32) →
          (((126 : Int32) < v2 →
            fX12_lay_L3 k n x1 (x3 + (-8 : Int32)) w) ∧
           (¬ (126 : Int32) < v2 →
            fX12_lay_J38 k (fX12_lay_L3 k n) x1 x3 v2 w))))))))
set_option maxHeartbeats 4000000 in
set_option maxRecDepth 100000 in
theorem mX12_lay_L3 {k : zW → Prop} (X : zCx p s m args meth c cX12_lay 5 RX12 none) (hr : zRm R 0 cells slots) (hQ : zRetV p l e R s m args below meth c cells slots Q D dA true ad0 al0 ad al cX12_lay k)  : ∀ (n : Nat) (x1 : Int64) (x3 : Int32) (w : zW) (H : Heap) (locs : List Loc) (ls : Array Slot), fX12_lay_L3 k n x1 x3 w → zSt D dA true ad0 al0 ad al w s H locs → lv_has ls 5 [(0, .ref (ad 200)), (1, .long x1), (3, .int x3)] → W p l e R s m args below meth c H locs cells slots Q (F0 m 3 ls []) := by
  intro n
  induction n with
  | zero => exact fun _ _ _ _ _ _ hf => hf.elim
  | succ n ih =>
    intro x1 x3 w H locs ls hf hR hl
    have hx := X.1
    have hb := X.2.1
    have hml := X.2.2.1
    have hown := X.2.2.2.1
    have hts := X.2.2.2.2.1
    rw [fX12_lay_L3] at hf
    refine lv_iload_n hx hb dX12_lay_3 rfl (lv_at hl 2 rfl) ?_
    refine lv_if_lt (tgt := 75) hx hb dX12_lay_4 (by decide) (fun c1 => ?_) (fun c1 => ?_)
    · replace hf := hf.1 c1
      exact hQ _ _ _ _ _ hf hR dX12_lay_75
    · replace hf := hf.2 c1
      refine lv_lload_n hx hb dX12_lay_7 rfl (lv_at hl 1 rfl) ?_
      refine lv_iload_n hx hb dX12_lay_8 rfl (lv_at hl 2 rfl) ?_
      refine lv_lshr hx hb dX12_lay_9 rfl ?_
      refine lv_l2i hx hb dX12_lay_10 rfl ?_
      refine lv_sipush (v := (255 : Int32)) hx hb dX12_lay_11 (by decide) ?_
      refine lv_iand hx hb dX12_lay_14 ?_
      refine lv_topi (fun v2 hv2 => ?_)
      replace hf := hf v2 hv2
      refine lv_istore (lv' := [(4, .int v2), (0, .ref (ad 200)), (1, .long x1), (3, .int x3)]) hx hb dX12_lay_15 hl (by decide) rfl (fun ls hl => ?_)
      refine lv_iload hx hb dX12_lay_17 (lv_at hl 0 rfl) ?_
      refine lv_bipush (v := (10 : Int32)) hx hb dX12_lay_19 (by decide) ?_
      refine lv_icmp_eq (tgt := 38) hx hb dX12_lay_21 (by decide) (fun c3 => ?_) (fun c3 => ?_)
      · replace hf := hf.1 c3
        exact mX12_lay_J38 X hr hQ ih hf hR (lv_sub hl [1, 2, 3, 0] rfl)
      · replace hf := hf.2 c3
        refine lv_iload hx hb dX12_lay_24 (lv_at hl 0 rfl) ?_
        refine lv_bipush (v := (32 : Int32)) hx hb dX12_lay_26 (by decide) ?_
        refine lv_icmp_lt (tgt := 69) hx hb dX12_lay_28 (by decide) (fun c8 => ?_) (fun c8 => ?_)
        · replace hf := hf.1 c8
          refine lv_iinc (v := x3 + (-8 : Int32)) (lv' := [(3, .int (x3 + (-8 : Int32))), (4, .int v2), (0, .ref (ad 200)), (1, .long x1)]) hx hb dX12_lay_69 hl (k := 3) rfl rfl (by decide) rfl (fun ls hl => ?_)
          refine lv_goto (tgt := 3) hx hb dX12_lay_72 (by decide) ?_
          exact ih x1 (x3 + (-8 : Int32)) w _ _ _ hf hR (lv_sub hl [2, 3, 0] rfl)
        · replace hf := hf.2 c8
          refine lv_iload hx hb dX12_lay_31 (lv_at hl 0 rfl) ?_
          refine lv_bipush (v := (126 : Int32)) hx hb dX12_lay_33 (by decide) ?_
          refine lv_icmp_gt (tgt := 69) hx hb dX12_lay_35 (by decide) (fun c9 => ?_) (fun c9 => ?_)
          · replace hf := hf.1 c9
            refine lv_iinc (v := x3 + (-8 : Int32)) (lv' := [(3, .int (x3 + (-8 : Int32))), (4, .int v2), (0, .ref (ad 200)), (1, .long x1)]) hx hb dX12_lay_69 hl (k := 3) rfl rfl (by decide) rfl (fun ls hl => ?_)
            refine lv_goto (tgt := 3) hx hb dX12_lay_72 (by decide) ?_
            exact ih x1 (x3 + (-8 : Int32)) w _ _ _ hf hR (lv_sub hl [2, 3, 0] rfl)
          · replace hf := hf.2 c9
            exact mX12_lay_J38 X hr hQ ih hf hR (lv_sub hl [1, 2, 3, 0] rfl)
def fX12_lay (x1 : Int64) (w : zW) (k : zW → Prop) : Prop :=
  ∃ n9, fX12_lay_L3 k n9 x1 (56 : Int32) w
set_option maxHeartbeats 4000000 in
set_option maxRecDepth 100000 in
theorem mX12_lay {l : Launch} {D : va_G} {dA : Nat → ClassId} {ad : Nat → Nat} {al : Nat → Prop} {w : zW} {k : zW → Prop} {x1 : Int64}   (hf : fX12_lay x1 w k) : zmetV l yX12_lay cX12_lay 5 none 0 [.ref (ad 200), .long x1] D dA true ad al w k := by
  refine zmetV_of (by decide) (Nat.le_of_ble_eq_true rfl) ?_
  intro p e R s m below meth c Q H ls args locs cells slots X hr hQ hR hl
  have hx := X.1
  have hb := X.2.1
  have hml := X.2.2.1
  have hown := X.2.2.2.1
  have hts := X.2.2.2.2.1
  unfold fX12_lay at hf
  have hl : lv_has ls 5 [(0, .ref (ad 200)), (1, .long x1)] := hl
  refine lv_bipush (v := (56 : Int32)) hx hb dX12_lay_0 (by decide) ?_
  refine lv_istore_n (lv' := [(3, .int (56 : Int32)), (0, .ref (ad 200)), (1, .long x1)]) hx hb dX12_lay_2 rfl hl (by decide) rfl (fun ls hl => ?_)
  obtain ⟨n9, hf⟩ := hf
  exact mX12_lay_L3 X hr hQ  n9 x1 (56 : Int32) w _ _ _ hf hR (lv_sub hl [1, 2, 0] rfl)
/-! X12_wordsTold -/
def fX12_wordsTold (w : zW) (k : Int32 → zW → Prop) : Prop :=
  k (gI w 210 (0 : Int32).toNatClampNeg) w
set_option maxHeartbeats 4000000 in
set_option maxRecDepth 100000 in
theorem mX12_wordsTold {l : Launch} {D : va_G} {dA : Nat → ClassId} {ad : Nat → Nat} {al : Nat → Prop} {w : zW} {k : Int32 → zW → Prop}   (hf : fX12_wordsTold w k) : zmetI l yX12_wordsTold cX12_wordsTold 1 (some .int) 0 [.ref (ad 200)] D dA true ad al w k := by
  refine zmetI_of (by decide) (Nat.le_of_ble_eq_true rfl) ?_
  intro p e R s m below meth c Q H ls args locs cells slots X hr hQ hR hl
  have hx := X.1
  have hb := X.2.1
  have hml := X.2.2.1
  have hown := X.2.2.2.1
  have hts := X.2.2.2.2.1
  unfold fX12_wordsTold at hf
  have hl : lv_has ls 1 [(0, .ref (ad 200))] := hl
  refine lv_aload_n hx hb dX12_wordsTold_0 rfl (lv_at hl 0 rfl) ?_
  refine z_getS X hR (zlit hR zf_200) zs_200 (by decide) zfd_X12_79 rfl (r := 210) (by decide +kernel) dX12_wordsTold_1 ?_
  refine lv_iconst (v := (0 : Int32)) hx hb dX12_wordsTold_4 (by decide) ?_
  refine z_iald X hR (zlit hR zf_210) zs_210 zl_210 (zin (by decide)) dX12_wordsTold_5 ?_
  exact hQ _ _ _ _ _ _ hf hR dX12_wordsTold_6
/-! X12_rows -/
def fX12_rows (w : zW) (k : Int32 → zW → Prop) : Prop :=
  k (gI w 210 (2 : Int32).toNatClampNeg) w
set_option maxHeartbeats 4000000 in
set_option maxRecDepth 100000 in
theorem mX12_rows {l : Launch} {D : va_G} {dA : Nat → ClassId} {ad : Nat → Nat} {al : Nat → Prop} {w : zW} {k : Int32 → zW → Prop}   (hf : fX12_rows w k) : zmetI l yX12_rows cX12_rows 1 (some .int) 0 [.ref (ad 200)] D dA true ad al w k := by
  refine zmetI_of (by decide) (Nat.le_of_ble_eq_true rfl) ?_
  intro p e R s m below meth c Q H ls args locs cells slots X hr hQ hR hl
  have hx := X.1
  have hb := X.2.1
  have hml := X.2.2.1
  have hown := X.2.2.2.1
  have hts := X.2.2.2.2.1
  unfold fX12_rows at hf
  have hl : lv_has ls 1 [(0, .ref (ad 200))] := hl
  refine lv_aload_n hx hb dX12_rows_0 rfl (lv_at hl 0 rfl) ?_
  refine z_getS X hR (zlit hR zf_200) zs_200 (by decide) zfd_X12_79 rfl (r := 210) (by decide +kernel) dX12_rows_1 ?_
  refine lv_iconst (v := (2 : Int32)) hx hb dX12_rows_4 (by decide) ?_
  refine z_iald X hR (zlit hR zf_210) zs_210 zl_210 (zin (by decide)) dX12_rows_5 ?_
  exact hQ _ _ _ _ _ _ hf hR dX12_rows_6
/-! X12_goes -/
def fX12_goes_J166 (k : zW → Prop) (g19 : Int32 → Int32 → zW → Prop) (x1 : Int32) (x2 : Int32) (t0 : Int32) (t1 : Int32) (w : zW) : Prop :=
  ∀ w14 : zW, w14 = sI w 200 30 (t1 ||| t0) →
  g19 x1 (x2 + (1 : Int32)) w14
set_option maxHeartbeats 4000000 in
set_option maxRecDepth 100000 in
theorem mX12_goes_J166 {k : zW → Prop} {g19 : Int32 → Int32 → zW → Prop} (X : zCx p s m args meth c cX12_goes 6 RX12 none) (hr : zRm R 1 cells slots) (hQ : zRetV p l e R s m args below meth c cells slots Q D dA true ad0 al0 ad al cX12_goes k) (hg19 : ∀ (x1 : Int32) (x2 : Int32) (w : zW) (H : Heap) (locs : List Loc) (ls : Array Slot), g19 x1 x2 w → zSt D dA true ad0 al0 ad al w s H locs → lv_has ls 6 [(0, .ref (ad 200)), (1, .int x1), (2, .int x2)] → W p l e R s m args below meth c H locs cells slots Q (F0 m 19 ls [])) {x1 : Int32} {x2 : Int32} {t0 : Int32} {t1 : Int32} {w : zW} {H : Heap} {locs : List Loc} {ls : Array Slot} (hf : fX12_goes_J166 k g19 x1 x2 t0 t1 w) (hR : zSt D dA true ad0 al0 ad al w s H locs) (hl : lv_has ls 6 [(0, .ref (ad 200)), (1, .int x1), (2, .int x2)]) : W p l e R s m args below meth c H locs cells slots Q (F0 m 166 ls [.int t0, .int t1, .ref (ad 200)]) := by
  have hx := X.1
  have hb := X.2.1
  have hml := X.2.2.1
  have hown := X.2.2.2.1
  have hts := X.2.2.2.2.1
  unfold fX12_goes_J166 at hf
  refine lv_ior hx hb dX12_goes_166 ?_
  refine z_putI X hR (zlit hR zf_200) zs_200 (by decide) zfp_X12_352 rfl dX12_goes_167 (fun H locs hR => ?_)
  obtain ⟨w14, hw14⟩ : ∃ z : zW, z = sI w 200 30 (t1 ||| t0) := ⟨_, rfl⟩
  rw [← hw14] at hR
  replace hf := hf w14 hw14
  refine lv_iinc (v := x2 + (1 : Int32)) (lv' := [(2, .int (x2 + (1 : Int32))), (0, .ref (ad 200)), (1, .int x1)]) hx hb dX12_goes_170 hl (k := 2) rfl rfl (by decide) rfl (fun ls hl => ?_)
  refine lv_goto (tgt := 19) hx hb dX12_goes_173 (by decide) ?_
  exact hg19 x1 (x2 + (1 : Int32)) w14 _ _ _ hf hR (lv_sub hl [1, 2, 0] rfl)
def fX12_goes_J117 (k : zW → Prop) (g19 : Int32 → Int32 → zW → Prop) (x2 : Int32) (x4 : Int32) (t0 : Int32) (t1 : Int32) (w : zW) : Prop :=
  ∀ w9 : zW, w9 = sI w 200 29 (t1 ||| t0) →
  vp_in x2 8 ∧ 
  ∀ w11 : zW, w11 = sI w9 228 x2.toNatClampNeg x4 →
  vp_in ((4 : Int32) + x2) 252 ∧ 
  (((gI w11 220 ((4 : Int32) + x2).toNatClampNeg) < 0 →
    fX12_goes_J166 k g19 x4 x2 (0 : Int32) (gI w11 200 30) w11) ∧
   (¬ (gI w11 220 ((4 : Int32) + x2).toNatClampNeg) < 0 →
    ∀ v15 : Int32, v15 = (if (gI w11 220 ((4 : Int32) + x2).toNatClampNeg) = x4 then (0 : Int32) else ((1 : Int32) <<< (x2 &&& 31))) →
    fX12_goes_J166 k g19 x4 x2 v15 (gI w11 200 30) w11))
set_option maxHeartbeats 4000000 in
set_option maxRecDepth 100000 in
theorem mX12_goes_J117 {k : zW → Prop} {g19 : Int32 → Int32 → zW → Prop} (X : zCx p s m args meth c cX12_goes 6 RX12 none) (hr : zRm R 1 cells slots) (hQ : zRetV p l e R s m args below meth c cells slots Q D dA true ad0 al0 ad al cX12_goes k) (hg19 : ∀ (x1 : Int32) (x2 : Int32) (w : zW) (H : Heap) (locs : List Loc) (ls : Array Slot), g19 x1 x2 w → zSt D dA true ad0 al0 ad al w s H locs → lv_has ls 6 [(0, .ref (ad 200)), (1, .int x1), (2, .int x2)] → W p l e R s m args below meth c H locs cells slots Q (F0 m 19 ls [])) {x2 : Int32} {x4 : Int32} {t0 : Int32} {t1 : Int32} {w : zW} {H : Heap} {locs : List Loc} {ls : Array Slot} (hf : fX12_goes_J117 k g19 x2 x4 t0 t1 w) (hR : zSt D dA true ad0 al0 ad al w s H locs) (hl : lv_has ls 6 [(0, .ref (ad 200)), (2, .int x2), (4, .int x4)]) : W p l e R s m args below meth c H locs cells slots Q (F0 m 117 ls [.int t0, .int t1, .ref (ad 200)]) := by
  have hx := X.1
  have hb := X.2.1
  have hml := X.2.2.1
  have hown := X.2.2.2.1
  have hts := X.2.2.2.2.1
  unfold fX12_goes_J117 at hf
  refine lv_ior hx hb dX12_goes_117 ?_
  refine z_putI X hR (zlit hR zf_200) zs_200 (by decide) zfp_X12_349 rfl dX12_goes_118 (fun H locs hR => ?_)
  obtain ⟨w9, hw9⟩ : ∃ z : zW, z = sI w 200 29 (t1 ||| t0) := ⟨_, rfl⟩
  rw [← hw9] at hR
  replace hf := hf w9 hw9
  refine lv_iload hx hb dX12_goes_121 (lv_at hl 2 rfl) ?_
  refine lv_istore_n (lv' := [(1, .int x4), (0, .ref (ad 200)), (2, .int x2), (4, .int x4)]) hx hb dX12_goes_123 rfl hl (by decide) rfl (fun ls hl => ?_)
  refine lv_aload_n hx hb dX12_goes_124 rfl (lv_at hl 1 rfl) ?_
  refine z_getS X hR (zlit hR zf_200) zs_200 (by decide) zfd_X12_125 rfl (r := 228) (by decide +kernel) dX12_goes_125 ?_
  refine lv_iload_n hx hb dX12_goes_128 rfl (lv_at hl 2 rfl) ?_
  refine lv_iload_n hx hb dX12_goes_129 rfl (lv_at hl 0 rfl) ?_
  obtain ⟨hb10, hf⟩ := hf
  refine z_iast X hR (zlit hR zf_228) zs_228 zl_228 hb10 dX12_goes_130 (fun H locs hR => ?_)
  obtain ⟨w11, hw11⟩ : ∃ z : zW, z = sI w9 228 x2.toNatClampNeg x4 := ⟨_, rfl⟩
  rw [← hw11] at hR
  replace hf := hf w11 hw11
  refine lv_aload_n hx hb dX12_goes_131 rfl (lv_at hl 1 rfl) ?_
  refine lv_dup hx hb dX12_goes_132 rfl ?_
  refine z_getI X hR (zlit hR zf_200) zs_200 (by decide) zfd_X12_352 rfl dX12_goes_133 ?_
  refine lv_aload_n hx hb dX12_goes_136 rfl (lv_at hl 1 rfl) ?_
  refine z_getS X hR (zlit hR zf_200) zs_200 (by decide) zfd_X12_103 rfl (r := 220) (by decide +kernel) dX12_goes_137 ?_
  refine lv_iconst (v := (4 : Int32)) hx hb dX12_goes_140 (by decide) ?_
  refine lv_iload_n hx hb dX12_goes_141 rfl (lv_at hl 2 rfl) ?_
  refine lv_iadd hx hb dX12_goes_142 ?_
  obtain ⟨hb12, hf⟩ := hf
  refine z_iald X hR (zlit hR zf_220) zs_220 zl_220 hb12 dX12_goes_143 ?_
  refine lv_if_lt (tgt := 165) hx hb dX12_goes_144 (by decide) (fun c13 => ?_) (fun c13 => ?_)
  · replace hf := hf.1 c13
    refine lv_iconst (v := (0 : Int32)) hx hb dX12_goes_165 (by decide) ?_
    exact mX12_goes_J166 X hr hQ hg19 hf hR (lv_sub hl [1, 0, 2] rfl)
  · replace hf := hf.2 c13
    refine lv_aload_n hx hb dX12_goes_147 rfl (lv_at hl 1 rfl) ?_
    refine z_getS X hR (zlit hR zf_200) zs_200 (by decide) zfd_X12_103 rfl (r := 220) (by decide +kernel) dX12_goes_148 ?_
    refine lv_iconst (v := (4 : Int32)) hx hb dX12_goes_151 (by decide) ?_
    refine lv_iload_n hx hb dX12_goes_152 rfl (lv_at hl 2 rfl) ?_
    refine lv_iadd hx hb dX12_goes_153 ?_
    refine z_iald X hR (zlit hR zf_220) zs_220 zl_220 hb12 dX12_goes_154 ?_
    refine lv_iload_n hx hb dX12_goes_155 rfl (lv_at hl 0 rfl) ?_
    have kJ15 : ∀ v15 : Int32, v15 = (if (gI w11 220 ((4 : Int32) + x2).toNatClampNeg) = x4 then (0 : Int32) else ((1 : Int32) <<< (x2 &&& 31))) → W p l e R s m args below meth c H locs cells slots Q (F0 m 166 ls (.int v15 :: .int (gI w11 200 30) :: .ref (ad 200) :: [])) := by
      intro v15 hv15
      replace hf := hf v15 hv15
      exact mX12_goes_J166 X hr hQ hg19 hf hR (lv_sub hl [1, 0, 2] rfl)
    refine lv_icmp_eq (tgt := 165) hx hb dX12_goes_156 (by decide) (fun c15 => ?_) (fun c15 => ?_)
    · refine lv_iconst (v := (0 : Int32)) hx hb dX12_goes_165 (by decide) ?_
      exact kJ15 _ (if_pos c15).symm
    · refine lv_iconst (v := (1 : Int32)) hx hb dX12_goes_159 (by decide) ?_
      refine lv_iload_n hx hb dX12_goes_160 rfl (lv_at hl 2 rfl) ?_
      refine lv_ishl hx hb dX12_goes_161 ?_
      refine lv_goto (tgt := 166) hx hb dX12_goes_162 (by decide) ?_
      exact kJ15 _ (if_neg c15).symm
def fX12_goes_L35 (k : zW → Prop) (g19 : Int32 → Int32 → zW → Prop) : Nat → Int32 → Int32 → Int32 → Int32 → Int32 → zW → Prop
  | 0 => fun _ _ _ _ _ _ => False
  | n + 1 => fun x1 x2 x3 x4 x5 w =>
    fX12_wordsTold  w (fun r6 w6 =>
    ((r6 ≤ x5 →
      ∀ v8 : Int32, v8 = (if ¬ x3 = x1 then (0 : Int32) else ((1 : Int32) <<< (x2 &&& 31))) →
      fX12_goes_J117 k g19 x2 x4 v8 (gI w6 200 29) w6) ∧
     (¬ r6 ≤ x5 →
      vp_in (((4 : Int32) * x2) + x5) 32 ∧ 
      vp_in x5 4 ∧ 
      ∀ v18 : Int32, v18 = x3 + ((gI w6 225 (((4 : Int32) * x2) + x5).toNatClampNeg) * ((gI w6 227 x5.toNatClampNeg) / (3 : Int32))) →
      ∀ v19 : Int32, v19 = x4 + ((gI w6 225 (((4 : Int32) * x2) + x5).toNatClampNeg) * ((gI w6 227 x5.toNatClampNeg) % (3 : Int32))) →
      fX12_goes_L35 k g19 n x1 x2 v18 v19 (x5 + (1 : Int32)) w6)))
set_option maxHeartbeats 4000000 in
set_option maxRecDepth 100000 in
theorem mX12_goes_L35 {k : zW → Prop} {g19 : Int32 → Int32 → zW → Prop} (X : zCx p s m args meth c cX12_goes 6 RX12 none) (hr : zRm R 1 cells slots) (hQ : zRetV p l e R s m args below meth c cells slots Q D dA true ad0 al0 ad al cX12_goes k) (hg19 : ∀ (x1 : Int32) (x2 : Int32) (w : zW) (H : Heap) (locs : List Loc) (ls : Array Slot), g19 x1 x2 w → zSt D dA true ad0 al0 ad al w s H locs → lv_has ls 6 [(0, .ref (ad 200)), (1, .int x1), (2, .int x2)] → W p l e R s m args below meth c H locs cells slots Q (F0 m 19 ls [])) : ∀ (n : Nat) (x1 : Int32) (x2 : Int32) (x3 : Int32) (x4 : Int32) (x5 : Int32) (w : zW) (H : Heap) (locs : List Loc) (ls : Array Slot), fX12_goes_L35 k g19 n x1 x2 x3 x4 x5 w → zSt D dA true ad0 al0 ad al w s H locs → lv_has ls 6 [(0, .ref (ad 200)), (1, .int x1), (2, .int x2), (3, .int x3), (4, .int x4), (5, .int x5)] → W p l e R s m args below meth c H locs cells slots Q (F0 m 35 ls []) := by
  intro n
  induction n with
  | zero => exact fun _ _ _ _ _ _ _ _ _ hf => hf.elim
  | succ n ih =>
    intro x1 x2 x3 x4 x5 w H locs ls hf hR hl
    have hx := X.1
    have hb := X.2.1
    have hml := X.2.2.1
    have hown := X.2.2.2.1
    have hts := X.2.2.2.2.1
    rw [fX12_goes_L35] at hf
    refine lv_iload hx hb dX12_goes_35 (lv_at hl 5 rfl) ?_
    refine lv_aload_n hx hb dX12_goes_37 rfl (lv_at hl 0 rfl) ?_
    refine z_callVI (fr1 := 0) (b := 200) (As := []) (rest := [.int x5]) X (hr.le (by decide)) hR zy_X12_wordsTold zq_211 (zlit hR zf_200) (by rw [zs_200]; rfl) rfl (mX12_wordsTold  hf) rfl hl (Nat.le_of_ble_eq_true rfl) dX12_goes_38 rfl (fun r6 w6 H locs hf hR => ?_)
    refine lv_icmp_ge (tgt := 100) hx hb dX12_goes_41 (by decide) (fun c7 => ?_) (fun c7 => ?_)
    · replace hf := hf.1 c7
      refine lv_aload_n hx hb dX12_goes_100 rfl (lv_at hl 0 rfl) ?_
      refine lv_dup hx hb dX12_goes_101 rfl ?_
      refine z_getI X hR (zlit hR zf_200) zs_200 (by decide) zfd_X12_349 rfl dX12_goes_102 ?_
      refine lv_iload_n hx hb dX12_goes_105 rfl (lv_at hl 3 rfl) ?_
      refine lv_iload_n hx hb dX12_goes_106 rfl (lv_at hl 1 rfl) ?_
      have kJ8 : ∀ v8 : Int32, v8 = (if ¬ x3 = x1 then (0 : Int32) else ((1 : Int32) <<< (x2 &&& 31))) → W p l e R s m args below meth c H locs cells slots Q (F0 m 117 ls (.int v8 :: .int (gI w6 200 29) :: .ref (ad 200) :: [])) := by
        intro v8 hv8
        replace hf := hf v8 hv8
        exact mX12_goes_J117 X hr hQ hg19 hf hR (lv_sub hl [0, 2, 4] rfl)
      refine lv_icmp_ne (tgt := 116) hx hb dX12_goes_107 (by decide) (fun c8 => ?_) (fun c8 => ?_)
      · refine lv_iconst (v := (0 : Int32)) hx hb dX12_goes_116 (by decide) ?_
        exact kJ8 _ (if_pos c8).symm
      · refine lv_iconst (v := (1 : Int32)) hx hb dX12_goes_110 (by decide) ?_
        refine lv_iload_n hx hb dX12_goes_111 rfl (lv_at hl 2 rfl) ?_
        refine lv_ishl hx hb dX12_goes_112 ?_
        refine lv_goto (tgt := 117) hx hb dX12_goes_113 (by decide) ?_
        exact kJ8 _ (if_neg (fun h9 => h9 c8)).symm
    · replace hf := hf.2 c7
      refine lv_iload_n hx hb dX12_goes_44 rfl (lv_at hl 3 rfl) ?_
      refine lv_aload_n hx hb dX12_goes_45 rfl (lv_at hl 0 rfl) ?_
      refine z_getS X hR (zlit hR zf_200) zs_200 (by decide) zfd_X12_116 rfl (r := 225) (by decide +kernel) dX12_goes_46 ?_
      refine lv_iconst (v := (4 : Int32)) hx hb dX12_goes_49 (by decide) ?_
      refine lv_iload_n hx hb dX12_goes_50 rfl (lv_at hl 2 rfl) ?_
      refine lv_imul hx hb dX12_goes_51 ?_
      refine lv_iload hx hb dX12_goes_52 (lv_at hl 5 rfl) ?_
      refine lv_iadd hx hb dX12_goes_54 ?_
      obtain ⟨hb16, hf⟩ := hf
      refine z_iald X hR (zlit hR zf_225) zs_225 zl_225 hb16 dX12_goes_55 ?_
      refine lv_aload_n hx hb dX12_goes_56 rfl (lv_at hl 0 rfl) ?_
      refine z_getS X hR (zlit hR zf_200) zs_200 (by decide) zfd_X12_122 rfl (r := 227) (by decide +kernel) dX12_goes_57 ?_
      refine lv_iload hx hb dX12_goes_60 (lv_at hl 5 rfl) ?_
      obtain ⟨hb17, hf⟩ := hf
      refine z_iald X hR (zlit hR zf_227) zs_227 zl_227 hb17 dX12_goes_62 ?_
      refine lv_iconst (v := (3 : Int32)) hx hb dX12_goes_63 (by decide) ?_
      refine lv_idiv hx hb dX12_goes_64 (by decide) ?_
      refine lv_imul hx hb dX12_goes_65 ?_
      refine lv_iadd hx hb dX12_goes_66 ?_
      refine lv_topi (fun v18 hv18 => ?_)
      replace hf := hf v18 hv18
      refine lv_istore_n (lv' := [(3, .int v18), (0, .ref (ad 200)), (1, .int x1), (2, .int x2), (4, .int x4), (5, .int x5)]) hx hb dX12_goes_67 rfl hl (by decide) rfl (fun ls hl => ?_)
      refine lv_iload hx hb dX12_goes_68 (lv_at hl 4 rfl) ?_
      refine lv_aload_n hx hb dX12_goes_70 rfl (lv_at hl 1 rfl) ?_
      refine z_getS X hR (zlit hR zf_200) zs_200 (by decide) zfd_X12_116 rfl (r := 225) (by decide +kernel) dX12_goes_71 ?_
      refine lv_iconst (v := (4 : Int32)) hx hb dX12_goes_74 (by decide) ?_
      refine lv_iload_n hx hb dX12_goes_75 rfl (lv_at hl 3 rfl) ?_
      refine lv_imul hx hb dX12_goes_76 ?_
      refine lv_iload hx hb dX12_goes_77 (lv_at hl 5 rfl) ?_
      refine lv_iadd hx hb dX12_goes_79 ?_
      refine z_iald X hR (zlit hR zf_225) zs_225 zl_225 hb16 dX12_goes_80 ?_
      refine lv_aload_n hx hb dX12_goes_81 rfl (lv_at hl 1 rfl) ?_
      refine z_getS X hR (zlit hR zf_200) zs_200 (by decide) zfd_X12_122 rfl (r := 227) (by decide +kernel) dX12_goes_82 ?_
      refine lv_iload hx hb dX12_goes_85 (lv_at hl 5 rfl) ?_
      refine z_iald X hR (zlit hR zf_227) zs_227 zl_227 hb17 dX12_goes_87 ?_
      refine lv_iconst (v := (3 : Int32)) hx hb dX12_goes_88 (by decide) ?_
      refine z_irem X dX12_goes_89 (by decide) ?_
      refine lv_imul hx hb dX12_goes_90 ?_
      refine lv_iadd hx hb dX12_goes_91 ?_
      refine lv_topi (fun v19 hv19 => ?_)
      replace hf := hf v19 hv19
      refine lv_istore (lv' := [(4, .int v19), (3, .int v18), (0, .ref (ad 200)), (1, .int x1), (2, .int x2), (5, .int x5)]) hx hb dX12_goes_92 hl (by decide) rfl (fun ls hl => ?_)
      refine lv_iinc (v := x5 + (1 : Int32)) (lv' := [(5, .int (x5 + (1 : Int32))), (4, .int v19), (3, .int v18), (0, .ref (ad 200)), (1, .int x1), (2, .int x2)]) hx hb dX12_goes_94 hl (k := 5) rfl rfl (by decide) rfl (fun ls hl => ?_)
      refine lv_goto (tgt := 35) hx hb dX12_goes_97 (by decide) ?_
      exact ih x1 x2 v18 v19 (x5 + (1 : Int32)) w6 _ _ _ hf hR (lv_sub hl [3, 4, 5, 2, 1, 0] rfl)
def fX12_goes_L19 (k : zW → Prop) : Nat → Int32 → Int32 → zW → Prop
  | 0 => fun _ _ _ => False
  | n + 1 => fun x1 x2 w =>
    fX12_rows  w (fun r4 w4 =>
    ((r4 ≤ x2 →
      k w4) ∧
     (¬ r4 ≤ x2 →
      ∃ n9, fX12_goes_L35 k (fX12_goes_L19 k n) n9 x1 x2 (0 : Int32) (0 : Int32) (0 : Int32) w4)))
set_option maxHeartbeats 4000000 in
set_option maxRecDepth 100000 in
theorem mX12_goes_L19 {k : zW → Prop} (X : zCx p s m args meth c cX12_goes 6 RX12 none) (hr : zRm R 1 cells slots) (hQ : zRetV p l e R s m args below meth c cells slots Q D dA true ad0 al0 ad al cX12_goes k)  : ∀ (n : Nat) (x1 : Int32) (x2 : Int32) (w : zW) (H : Heap) (locs : List Loc) (ls : Array Slot), fX12_goes_L19 k n x1 x2 w → zSt D dA true ad0 al0 ad al w s H locs → lv_has ls 6 [(0, .ref (ad 200)), (1, .int x1), (2, .int x2)] → W p l e R s m args below meth c H locs cells slots Q (F0 m 19 ls []) := by
  intro n
  induction n with
  | zero => exact fun _ _ _ _ _ _ hf => hf.elim
  | succ n ih =>
    intro x1 x2 w H locs ls hf hR hl
    have hx := X.1
    have hb := X.2.1
    have hml := X.2.2.1
    have hown := X.2.2.2.1
    have hts := X.2.2.2.2.1
    rw [fX12_goes_L19] at hf
    refine lv_iload_n hx hb dX12_goes_19 rfl (lv_at hl 2 rfl) ?_
    refine lv_aload_n hx hb dX12_goes_20 rfl (lv_at hl 0 rfl) ?_
    refine z_callVI (fr1 := 0) (b := 200) (As := []) (rest := [.int x2]) X (hr.le (by decide)) hR zy_X12_rows zq_199 (zlit hR zf_200) (by rw [zs_200]; rfl) rfl (mX12_rows  hf) rfl hl (Nat.le_of_ble_eq_true rfl) dX12_goes_21 rfl (fun r4 w4 H locs hf hR => ?_)
    refine lv_icmp_ge (tgt := 176) hx hb dX12_goes_24 (by decide) (fun c5 => ?_) (fun c5 => ?_)
    · replace hf := hf.1 c5
      exact hQ _ _ _ _ _ hf hR dX12_goes_176
    · replace hf := hf.2 c5
      refine lv_iconst (v := (0 : Int32)) hx hb dX12_goes_27 (by decide) ?_
      refine lv_istore_n (lv' := [(3, .int (0 : Int32)), (0, .ref (ad 200)), (1, .int x1), (2, .int x2)]) hx hb dX12_goes_28 rfl hl (by decide) rfl (fun ls hl => ?_)
      refine lv_iconst (v := (0 : Int32)) hx hb dX12_goes_29 (by decide) ?_
      refine lv_istore (lv' := [(4, .int (0 : Int32)), (3, .int (0 : Int32)), (0, .ref (ad 200)), (1, .int x1), (2, .int x2)]) hx hb dX12_goes_30 hl (by decide) rfl (fun ls hl => ?_)
      refine lv_iconst (v := (0 : Int32)) hx hb dX12_goes_32 (by decide) ?_
      refine lv_istore (lv' := [(5, .int (0 : Int32)), (4, .int (0 : Int32)), (3, .int (0 : Int32)), (0, .ref (ad 200)), (1, .int x1), (2, .int x2)]) hx hb dX12_goes_33 hl (by decide) rfl (fun ls hl => ?_)
      obtain ⟨n9, hf⟩ := hf
      exact mX12_goes_L35 X hr hQ ih n9 x1 x2 (0 : Int32) (0 : Int32) (0 : Int32) w4 _ _ _ hf hR (lv_sub hl [3, 4, 5, 2, 1, 0] rfl)
def fX12_goes (w : zW) (k : zW → Prop) : Prop :=
  ∀ v1 : Int32, v1 = gI w 210 (1 : Int32).toNatClampNeg →
  ∀ w2 : zW, w2 = sI w 200 29 (0 : Int32) →
  ∀ w3 : zW, w3 = sI w2 200 30 (0 : Int32) →
  ∃ n9, fX12_goes_L19 k n9 v1 (0 : Int32) w3
set_option maxHeartbeats 4000000 in
set_option maxRecDepth 100000 in
theorem mX12_goes {l : Launch} {D : va_G} {dA : Nat → ClassId} {ad : Nat → Nat} {al : Nat → Prop} {w : zW} {k : zW → Prop}   (hf : fX12_goes w k) : zmetV l yX12_goes cX12_goes 6 none 1 [.ref (ad 200)] D dA true ad al w k := by
  refine zmetV_of (by decide) (Nat.le_of_ble_eq_true rfl) ?_
  intro p e R s m below meth c Q H ls args locs cells slots X hr hQ hR hl
  have hx := X.1
  have hb := X.2.1
  have hml := X.2.2.1
  have hown := X.2.2.2.1
  have hts := X.2.2.2.2.1
  unfold fX12_goes at hf
  have hl : lv_has ls 6 [(0, .ref (ad 200))] := hl
  refine lv_aload_n hx hb dX12_goes_0 rfl (lv_at hl 0 rfl) ?_
  refine z_getS X hR (zlit hR zf_200) zs_200 (by decide) zfd_X12_79 rfl (r := 210) (by decide +kernel) dX12_goes_1 ?_
  refine lv_iconst (v := (1 : Int32)) hx hb dX12_goes_4 (by decide) ?_
  refine z_iald X hR (zlit hR zf_210) zs_210 zl_210 (zin (by decide)) dX12_goes_5 ?_
  refine lv_topi (fun v1 hv1 => ?_)
  replace hf := hf v1 hv1
  refine lv_istore_n (lv' := [(1, .int v1), (0, .ref (ad 200))]) hx hb dX12_goes_6 rfl hl (by decide) rfl (fun ls hl => ?_)
  refine lv_aload_n hx hb dX12_goes_7 rfl (lv_at hl 1 rfl) ?_
  refine lv_iconst (v := (0 : Int32)) hx hb dX12_goes_8 (by decide) ?_
  refine z_putI X hR (zlit hR zf_200) zs_200 (by decide) zfp_X12_349 rfl dX12_goes_9 (fun H locs hR => ?_)
  obtain ⟨w2, hw2⟩ : ∃ z : zW, z = sI w 200 29 (0 : Int32) := ⟨_, rfl⟩
  rw [← hw2] at hR
  replace hf := hf w2 hw2
  refine lv_aload_n hx hb dX12_goes_12 rfl (lv_at hl 1 rfl) ?_
  refine lv_iconst (v := (0 : Int32)) hx hb dX12_goes_13 (by decide) ?_
  refine z_putI X hR (zlit hR zf_200) zs_200 (by decide) zfp_X12_352 rfl dX12_goes_14 (fun H locs hR => ?_)
  obtain ⟨w3, hw3⟩ : ∃ z : zW, z = sI w2 200 30 (0 : Int32) := ⟨_, rfl⟩
  rw [← hw3] at hR
  replace hf := hf w3 hw3
  refine lv_iconst (v := (0 : Int32)) hx hb dX12_goes_17 (by decide) ?_
  refine lv_istore_n (lv' := [(2, .int (0 : Int32)), (1, .int v1), (0, .ref (ad 200))]) hx hb dX12_goes_18 rfl hl (by decide) rfl (fun ls hl => ?_)
  obtain ⟨n9, hf⟩ := hf
  exact mX12_goes_L19 X hr hQ  n9 v1 (0 : Int32) w3 _ _ _ hf hR (lv_sub hl [2, 1, 0] rfl)
/-! X12_within -/
def fX12_within (x0 : Int32) (x1 : Int32) (x2 : Int32) (w : zW) (k : Int32 → zW → Prop) : Prop :=
  ∀ v1 : Int32, v1 = (if x0 < x1 then (0 : Int32) else (if x2 < x0 then (0 : Int32) else (1 : Int32))) →
  zb01 v1 ∧ k v1 w
set_option maxHeartbeats 4000000 in
set_option maxRecDepth 100000 in
theorem mX12_within {l : Launch} {D : va_G} {dA : Nat → ClassId} {ad : Nat → Nat} {al : Nat → Prop} {w : zW} {k : Int32 → zW → Prop} {x0 : Int32} {x1 : Int32} {x2 : Int32}   (hf : fX12_within x0 x1 x2 w k) : zmetI l yX12_within cX12_within 3 (some .boolean) 0 [.int x0, .int x1, .int x2] D dA true ad al w k := by
  refine zmetZ_of (by decide) (Nat.le_of_ble_eq_true rfl) ?_
  intro p e R s m below meth c Q H ls args locs cells slots X hr hQ hR hl
  have hx := X.1
  have hb := X.2.1
  have hml := X.2.2.1
  have hown := X.2.2.2.1
  have hts := X.2.2.2.2.1
  unfold fX12_within at hf
  have hl : lv_has ls 3 [(0, .int x0), (1, .int x1), (2, .int x2)] := hl
  refine lv_iload_n hx hb dX12_within_0 rfl (lv_at hl 0 rfl) ?_
  refine lv_iload_n hx hb dX12_within_1 rfl (lv_at hl 1 rfl) ?_
  have kJ1 : ∀ v1 : Int32, v1 = (if x0 < x1 then (0 : Int32) else (if x2 < x0 then (0 : Int32) else (1 : Int32))) → W p l e R s m args below meth c H locs cells slots Q (F0 m 15 ls (.int v1 :: [])) := by
    intro v1 hv1
    replace hf := hf v1 hv1
    obtain ⟨h01, hf⟩ := hf
    exact hQ _ _ _ _ _ _ h01 hf hR dX12_within_15
  refine lv_icmp_lt (tgt := 14) hx hb dX12_within_2 (by decide) (fun c1 => ?_) (fun c1 => ?_)
  · refine lv_iconst (v := (0 : Int32)) hx hb dX12_within_14 (by decide) ?_
    exact kJ1 _ (if_pos c1).symm
  · refine lv_iload_n hx hb dX12_within_5 rfl (lv_at hl 0 rfl) ?_
    refine lv_iload_n hx hb dX12_within_6 rfl (lv_at hl 2 rfl) ?_
    refine lv_icmp_gt (tgt := 14) hx hb dX12_within_7 (by decide) (fun c2 => ?_) (fun c2 => ?_)
    · refine lv_iconst (v := (0 : Int32)) hx hb dX12_within_14 (by decide) ?_
      exact kJ1 _ ((if_neg c1).trans (if_pos c2)).symm
    · refine lv_iconst (v := (1 : Int32)) hx hb dX12_within_10 (by decide) ?_
      refine lv_goto (tgt := 15) hx hb dX12_within_11 (by decide) ?_
      exact kJ1 _ ((if_neg c1).trans (if_neg c2)).symm
/-! X12_feed -/
def fX12_feed (x1 : Int64) (x3 : Int64) (x5 : Int64) (w : zW) (k : Int32 → zW → Prop) : Prop :=
  ∀ w1 : zW, w1 = sI w 200 0 (0 : Int32) →
  fX12_lay x1 w1 (fun w2 =>
  fX12_lay x3 w2 (fun w3 =>
  fX12_lay x5 w3 (fun w4 =>
  k (gI w4 200 2) w4)))
set_option maxHeartbeats 4000000 in
set_option maxRecDepth 100000 in
theorem mX12_feed {l : Launch} {D : va_G} {dA : Nat → ClassId} {ad : Nat → Nat} {al : Nat → Prop} {w : zW} {k : Int32 → zW → Prop} {x1 : Int64} {x3 : Int64} {x5 : Int64}   (hf : fX12_feed x1 x3 x5 w k) : zmetI l yX12_feed cX12_feed 7 (some .int) 1 [.ref (ad 200), .long x1, .long x3, .long x5] D dA true ad al w k := by
  refine zmetI_of (by decide) (Nat.le_of_ble_eq_true rfl) ?_
  intro p e R s m below meth c Q H ls args locs cells slots X hr hQ hR hl
  have hx := X.1
  have hb := X.2.1
  have hml := X.2.2.1
  have hown := X.2.2.2.1
  have hts := X.2.2.2.2.1
  unfold fX12_feed at hf
  have hl : lv_has ls 7 [(0, .ref (ad 200)), (1, .long x1), (3, .long x3), (5, .long x5)] := hl
  refine lv_aload_n hx hb dX12_feed_0 rfl (lv_at hl 0 rfl) ?_
  refine lv_iconst (v := (0 : Int32)) hx hb dX12_feed_1 (by decide) ?_
  refine z_putI X hR (zlit hR zf_200) zs_200 (by decide) zfp_X12_1 rfl dX12_feed_2 (fun H locs hR => ?_)
  obtain ⟨w1, hw1⟩ : ∃ z : zW, z = sI w 200 0 (0 : Int32) := ⟨_, rfl⟩
  rw [← hw1] at hR
  replace hf := hf w1 hw1
  refine lv_aload_n hx hb dX12_feed_5 rfl (lv_at hl 0 rfl) ?_
  refine lv_lload_n hx hb dX12_feed_6 rfl (lv_at hl 1 rfl) ?_
  refine z_callVV (fr1 := 0) (b := 200) (As := [.long x1]) (rest := []) X (hr.le (by decide)) hR zy_X12_lay zq_250 (zlit hR zf_200) (by rw [zs_200]; rfl) rfl (mX12_lay  hf) rfl hl (Nat.le_of_ble_eq_true rfl) dX12_feed_7 rfl (fun w2 H locs hf hR => ?_)
  refine lv_aload_n hx hb dX12_feed_10 rfl (lv_at hl 0 rfl) ?_
  refine lv_lload_n hx hb dX12_feed_11 rfl (lv_at hl 2 rfl) ?_
  refine z_callVV (fr1 := 0) (b := 200) (As := [.long x3]) (rest := []) X (hr.le (by decide)) hR zy_X12_lay zq_250 (zlit hR zf_200) (by rw [zs_200]; rfl) rfl (mX12_lay  hf) rfl hl (Nat.le_of_ble_eq_true rfl) dX12_feed_12 rfl (fun w3 H locs hf hR => ?_)
  refine lv_aload_n hx hb dX12_feed_15 rfl (lv_at hl 0 rfl) ?_
  refine lv_lload hx hb dX12_feed_16 (lv_at hl 3 rfl) ?_
  refine z_callVV (fr1 := 0) (b := 200) (As := [.long x5]) (rest := []) X (hr.le (by decide)) hR zy_X12_lay zq_250 (zlit hR zf_200) (by rw [zs_200]; rfl) rfl (mX12_lay  hf) rfl hl (Nat.le_of_ble_eq_true rfl) dX12_feed_18 rfl (fun w4 H locs hf hR => ?_)
  refine lv_aload_n hx hb dX12_feed_21 rfl (lv_at hl 0 rfl) ?_
  refine z_getI X hR (zlit hR zf_200) zs_200 (by decide) zfd_X12_11 rfl dX12_feed_22 ?_
  exact hQ _ _ _ _ _ _ hf hR dX12_feed_25
/-! X12_bits -/
def fX12_bits_L4 (k : Int32 → zW → Prop) : Nat → Int32 → Int32 → Int32 → zW → Prop
  | 0 => fun _ _ _ _ => False
  | n + 1 => fun x0 x1 x2 w =>
    (((30 : Int32) ≤ x2 →
      k x1 w) ∧
     (¬ (30 : Int32) ≤ x2 →
      ∀ v2 : Int32, v2 = x1 + ((x0 >>> (x2 &&& 31)) &&& (1 : Int32)) →
      fX12_bits_L4 k n x0 v2 (x2 + (1 : Int32)) w))
set_option maxHeartbeats 4000000 in
set_option maxRecDepth 100000 in
theorem mX12_bits_L4 {k : Int32 → zW → Prop} (X : zCx p s m args meth c cX12_bits 3 RX12 (some .int)) (hr : zRm R 0 cells slots) (hQ : zRetI p l e R s m args below meth c cells slots Q D dA true ad0 al0 ad al cX12_bits k)  : ∀ (n : Nat) (x0 : Int32) (x1 : Int32) (x2 : Int32) (w : zW) (H : Heap) (locs : List Loc) (ls : Array Slot), fX12_bits_L4 k n x0 x1 x2 w → zSt D dA true ad0 al0 ad al w s H locs → lv_has ls 3 [(0, .int x0), (1, .int x1), (2, .int x2)] → W p l e R s m args below meth c H locs cells slots Q (F0 m 4 ls []) := by
  intro n
  induction n with
  | zero => exact fun _ _ _ _ _ _ _ hf => hf.elim
  | succ n ih =>
    intro x0 x1 x2 w H locs ls hf hR hl
    have hx := X.1
    have hb := X.2.1
    have hml := X.2.2.1
    have hown := X.2.2.2.1
    have hts := X.2.2.2.2.1
    rw [fX12_bits_L4] at hf
    refine lv_iload_n hx hb dX12_bits_4 rfl (lv_at hl 2 rfl) ?_
    refine lv_bipush (v := (30 : Int32)) hx hb dX12_bits_5 (by decide) ?_
    refine lv_icmp_ge (tgt := 24) hx hb dX12_bits_7 (by decide) (fun c1 => ?_) (fun c1 => ?_)
    · replace hf := hf.1 c1
      refine lv_iload_n hx hb dX12_bits_24 rfl (lv_at hl 1 rfl) ?_
      exact hQ _ _ _ _ _ _ hf hR dX12_bits_25
    · replace hf := hf.2 c1
      refine lv_iload_n hx hb dX12_bits_10 rfl (lv_at hl 1 rfl) ?_
      refine lv_iload_n hx hb dX12_bits_11 rfl (lv_at hl 0 rfl) ?_
      refine lv_iload_n hx hb dX12_bits_12 rfl (lv_at hl 2 rfl) ?_
      refine lv_ishr hx hb dX12_bits_13 ?_
      refine lv_iconst (v := (1 : Int32)) hx hb dX12_bits_14 (by decide) ?_
      refine lv_iand hx hb dX12_bits_15 ?_
      refine lv_iadd hx hb dX12_bits_16 ?_
      refine lv_topi (fun v2 hv2 => ?_)
      replace hf := hf v2 hv2
      refine lv_istore_n (lv' := [(1, .int v2), (0, .int x0), (2, .int x2)]) hx hb dX12_bits_17 rfl hl (by decide) rfl (fun ls hl => ?_)
      refine lv_iinc (v := x2 + (1 : Int32)) (lv' := [(2, .int (x2 + (1 : Int32))), (1, .int v2), (0, .int x0)]) hx hb dX12_bits_18 hl (k := 2) rfl rfl (by decide) rfl (fun ls hl => ?_)
      refine lv_goto (tgt := 4) hx hb dX12_bits_21 (by decide) ?_
      exact ih x0 v2 (x2 + (1 : Int32)) w _ _ _ hf hR (lv_sub hl [2, 1, 0] rfl)
def fX12_bits (x0 : Int32) (w : zW) (k : Int32 → zW → Prop) : Prop :=
  ∃ n9, fX12_bits_L4 k n9 x0 (0 : Int32) (0 : Int32) w
set_option maxHeartbeats 4000000 in
set_option maxRecDepth 100000 in
theorem mX12_bits {l : Launch} {D : va_G} {dA : Nat → ClassId} {ad : Nat → Nat} {al : Nat → Prop} {w : zW} {k : Int32 → zW → Prop} {x0 : Int32}   (hf : fX12_bits x0 w k) : zmetI l yX12_bits cX12_bits 3 (some .int) 0 [.int x0] D dA true ad al w k := by
  refine zmetI_of (by decide) (Nat.le_of_ble_eq_true rfl) ?_
  intro p e R s m below meth c Q H ls args locs cells slots X hr hQ hR hl
  have hx := X.1
  have hb := X.2.1
  have hml := X.2.2.1
  have hown := X.2.2.2.1
  have hts := X.2.2.2.2.1
  unfold fX12_bits at hf
  have hl : lv_has ls 3 [(0, .int x0)] := hl
  refine lv_iconst (v := (0 : Int32)) hx hb dX12_bits_0 (by decide) ?_
  refine lv_istore_n (lv' := [(1, .int (0 : Int32)), (0, .int x0)]) hx hb dX12_bits_1 rfl hl (by decide) rfl (fun ls hl => ?_)
  refine lv_iconst (v := (0 : Int32)) hx hb dX12_bits_2 (by decide) ?_
  refine lv_istore_n (lv' := [(2, .int (0 : Int32)), (1, .int (0 : Int32)), (0, .int x0)]) hx hb dX12_bits_3 rfl hl (by decide) rfl (fun ls hl => ?_)
  obtain ⟨n9, hf⟩ := hf
  exact mX12_bits_L4 X hr hQ  n9 x0 (0 : Int32) (0 : Int32) w _ _ _ hf hR (lv_sub hl [2, 1, 0] rfl)
end ZM
