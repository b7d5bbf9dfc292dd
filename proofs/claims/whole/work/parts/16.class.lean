theorem dX11_isWord_0 : decode cX11_isWord 0 = .ok (.iload_n 1, 1) := by decide +kernel
theorem dX11_isWord_1 : decode cX11_isWord 1 = .ok (.ifCond .lt 23, 3) := by decide +kernel
theorem dX11_isWord_4 : decode cX11_isWord 4 = .ok (.iload_n 1, 1) := by decide +kernel
theorem dX11_isWord_5 : decode cX11_isWord 5 = .ok (.aload_n 0, 1) := by decide +kernel
theorem dX11_isWord_6 : decode cX11_isWord 6 = .ok (.getfield 71, 3) := by decide +kernel
theorem dX11_isWord_9 : decode cX11_isWord 9 = .ok (.getfield 221, 3) := by decide +kernel
theorem dX11_isWord_12 : decode cX11_isWord 12 = .ok (.if_icmp .ge 12, 3) := by decide +kernel
theorem dX11_isWord_15 : decode cX11_isWord 15 = .ok (.iload_n 1, 1) := by decide +kernel
theorem dX11_isWord_16 : decode cX11_isWord 16 = .ok (.iconst 4, 1) := by decide +kernel
theorem dX11_isWord_17 : decode cX11_isWord 17 = .ok (.if_icmp .ge 7, 3) := by decide +kernel
theorem dX11_isWord_20 : decode cX11_isWord 20 = .ok (.iconst 1, 1) := by decide +kernel
theorem dX11_isWord_21 : decode cX11_isWord 21 = .ok (.goto 4, 3) := by decide +kernel
theorem dX11_isWord_24 : decode cX11_isWord 24 = .ok (.iconst 0, 1) := by decide +kernel
theorem dX11_isWord_25 : decode cX11_isWord 25 = .ok (.ireturn, 1) := by decide +kernel
theorem dX11_term_0 : decode cX11_term 0 = .ok (.aload_n 0, 1) := by decide +kernel
theorem dX11_term_1 : decode cX11_term 1 = .ok (.iload_n 1, 1) := by decide +kernel
theorem dX11_term_2 : decode cX11_term 2 = .ok (.invokevirtual 123, 3) := by decide +kernel
theorem dX11_term_5 : decode cX11_term 5 = .ok (.ifCond .ne 6, 3) := by decide +kernel
theorem dX11_term_8 : decode cX11_term 8 = .ok (.bipush (-2), 2) := by decide +kernel
theorem dX11_term_10 : decode cX11_term 10 = .ok (.ireturn, 1) := by decide +kernel
theorem dX11_term_11 : decode cX11_term 11 = .ok (.iload_n 2, 1) := by decide +kernel
theorem dX11_term_12 : decode cX11_term 12 = .ok (.tableswitch 71 0 3 #[32, 42, 51, 61], 32) := by decide +kernel
theorem dX11_term_44 : decode cX11_term 44 = .ok (.aload_n 0, 1) := by decide +kernel
theorem dX11_term_45 : decode cX11_term 45 = .ok (.getfield 71, 3) := by decide +kernel
theorem dX11_term_48 : decode cX11_term 48 = .ok (.getfield 127, 3) := by decide +kernel
theorem dX11_term_51 : decode cX11_term 51 = .ok (.iload_n 1, 1) := by decide +kernel
theorem dX11_term_52 : decode cX11_term 52 = .ok (.iaload, 1) := by decide +kernel
theorem dX11_term_53 : decode cX11_term 53 = .ok (.ireturn, 1) := by decide +kernel
theorem dX11_term_54 : decode cX11_term 54 = .ok (.aload_n 0, 1) := by decide +kernel
theorem dX11_term_55 : decode cX11_term 55 = .ok (.getfield 28, 3) := by decide +kernel
theorem dX11_term_58 : decode cX11_term 58 = .ok (.iload_n 1, 1) := by decide +kernel
theorem dX11_term_59 : decode cX11_term 59 = .ok (.invokevirtual 131, 3) := by decide +kernel
theorem dX11_term_62 : decode cX11_term 62 = .ok (.ireturn, 1) := by decide +kernel
theorem dX11_term_63 : decode cX11_term 63 = .ok (.aload_n 0, 1) := by decide +kernel
theorem dX11_term_64 : decode cX11_term 64 = .ok (.getfield 71, 3) := by decide +kernel
theorem dX11_term_67 : decode cX11_term 67 = .ok (.getfield 135, 3) := by decide +kernel
theorem dX11_term_70 : decode cX11_term 70 = .ok (.iload_n 1, 1) := by decide +kernel
theorem dX11_term_71 : decode cX11_term 71 = .ok (.iaload, 1) := by decide +kernel
theorem dX11_term_72 : decode cX11_term 72 = .ok (.ireturn, 1) := by decide +kernel
theorem dX11_term_73 : decode cX11_term 73 = .ok (.aload_n 0, 1) := by decide +kernel
theorem dX11_term_74 : decode cX11_term 74 = .ok (.getfield 71, 3) := by decide +kernel
theorem dX11_term_77 : decode cX11_term 77 = .ok (.getfield 138, 3) := by decide +kernel
theorem dX11_term_80 : decode cX11_term 80 = .ok (.iload_n 1, 1) := by decide +kernel
theorem dX11_term_81 : decode cX11_term 81 = .ok (.iaload, 1) := by decide +kernel
theorem dX11_term_82 : decode cX11_term 82 = .ok (.ireturn, 1) := by decide +kernel
theorem dX11_term_83 : decode cX11_term 83 = .ok (.bipush (-2), 2) := by decide +kernel
theorem dX11_term_85 : decode cX11_term 85 = .ok (.ireturn, 1) := by decide +kernel
theorem dX11_briefOf_0 : decode cX11_briefOf 0 = .ok (.aload_n 0, 1) := by decide +kernel
theorem dX11_briefOf_1 : decode cX11_briefOf 1 = .ok (.getfield 71, 3) := by decide +kernel
theorem dX11_briefOf_4 : decode cX11_briefOf 4 = .ok (.getfield 382, 3) := by decide +kernel
theorem dX11_briefOf_7 : decode cX11_briefOf 7 = .ok (.iload_n 1, 1) := by decide +kernel
theorem dX11_briefOf_8 : decode cX11_briefOf 8 = .ok (.iaload, 1) := by decide +kernel
theorem dX11_briefOf_9 : decode cX11_briefOf 9 = .ok (.ifCond .ne 55, 3) := by decide +kernel
theorem dX11_briefOf_12 : decode cX11_briefOf 12 = .ok (.aload_n 0, 1) := by decide +kernel
theorem dX11_briefOf_13 : decode cX11_briefOf 13 = .ok (.getfield 385, 3) := by decide +kernel
theorem dX11_briefOf_16 : decode cX11_briefOf 16 = .ok (.ifnonnull 14, 3) := by decide +kernel
theorem dX11_briefOf_19 : decode cX11_briefOf 19 = .ok (.aload_n 0, 1) := by decide +kernel
theorem dX11_briefOf_20 : decode cX11_briefOf 20 = .ok (.new 389, 3) := by decide +kernel
theorem dX11_briefOf_23 : decode cX11_briefOf 23 = .ok (.dup, 1) := by decide +kernel
theorem dX11_briefOf_24 : decode cX11_briefOf 24 = .ok (.invokespecial 391, 3) := by decide +kernel
theorem dX11_briefOf_27 : decode cX11_briefOf 27 = .ok (.putfield 385, 3) := by decide +kernel
theorem dX11_briefOf_30 : decode cX11_briefOf 30 = .ok (.aload_n 0, 1) := by decide +kernel
theorem dX11_briefOf_31 : decode cX11_briefOf 31 = .ok (.getfield 71, 3) := by decide +kernel
theorem dX11_briefOf_34 : decode cX11_briefOf 34 = .ok (.getfield 382, 3) := by decide +kernel
theorem dX11_briefOf_37 : decode cX11_briefOf 37 = .ok (.iload_n 1, 1) := by decide +kernel
theorem dX11_briefOf_38 : decode cX11_briefOf 38 = .ok (.aload_n 0, 1) := by decide +kernel
theorem dX11_briefOf_39 : decode cX11_briefOf 39 = .ok (.getfield 385, 3) := by decide +kernel
theorem dX11_briefOf_42 : decode cX11_briefOf 42 = .ok (.aload_n 0, 1) := by decide +kernel
theorem dX11_briefOf_43 : decode cX11_briefOf 43 = .ok (.getfield 71, 3) := by decide +kernel
theorem dX11_briefOf_46 : decode cX11_briefOf 46 = .ok (.getfield 392, 3) := by decide +kernel
theorem dX11_briefOf_49 : decode cX11_briefOf 49 = .ok (.iload_n 1, 1) := by decide +kernel
theorem dX11_briefOf_50 : decode cX11_briefOf 50 = .ok (.aaload, 1) := by decide +kernel
theorem dX11_briefOf_51 : decode cX11_briefOf 51 = .ok (.aload_n 0, 1) := by decide +kernel
theorem dX11_briefOf_52 : decode cX11_briefOf 52 = .ok (.getfield 71, 3) := by decide +kernel
theorem dX11_briefOf_55 : decode cX11_briefOf 55 = .ok (.getfield 144, 3) := by decide +kernel
theorem dX11_briefOf_58 : decode cX11_briefOf 58 = .ok (.iload_n 1, 1) := by decide +kernel
theorem dX11_briefOf_59 : decode cX11_briefOf 59 = .ok (.iaload, 1) := by decide +kernel
theorem dX11_briefOf_60 : decode cX11_briefOf 60 = .ok (.invokevirtual 396, 3) := by decide +kernel
theorem dX11_briefOf_63 : decode cX11_briefOf 63 = .ok (.iastore, 1) := by decide +kernel
theorem dX11_briefOf_64 : decode cX11_briefOf 64 = .ok (.aload_n 0, 1) := by decide +kernel
theorem dX11_briefOf_65 : decode cX11_briefOf 65 = .ok (.getfield 71, 3) := by decide +kernel
theorem dX11_briefOf_68 : decode cX11_briefOf 68 = .ok (.getfield 382, 3) := by decide +kernel
theorem dX11_briefOf_71 : decode cX11_briefOf 71 = .ok (.iload_n 1, 1) := by decide +kernel
theorem dX11_briefOf_72 : decode cX11_briefOf 72 = .ok (.iaload, 1) := by decide +kernel
theorem dX11_briefOf_73 : decode cX11_briefOf 73 = .ok (.ireturn, 1) := by decide +kernel
theorem dX11_isRow_0 : decode cX11_isRow 0 = .ok (.iload_n 1, 1) := by decide +kernel
theorem dX11_isRow_1 : decode cX11_isRow 1 = .ok (.ifCond .lt 24, 3) := by decide +kernel
theorem dX11_isRow_4 : decode cX11_isRow 4 = .ok (.iload_n 1, 1) := by decide +kernel
theorem dX11_isRow_5 : decode cX11_isRow 5 = .ok (.aload_n 0, 1) := by decide +kernel
theorem dX11_isRow_6 : decode cX11_isRow 6 = .ok (.getfield 71, 3) := by decide +kernel
theorem dX11_isRow_9 : decode cX11_isRow 9 = .ok (.getfield 239, 3) := by decide +kernel
theorem dX11_isRow_12 : decode cX11_isRow 12 = .ok (.if_icmp .ge 13, 3) := by decide +kernel
theorem dX11_isRow_15 : decode cX11_isRow 15 = .ok (.iload_n 1, 1) := by decide +kernel
theorem dX11_isRow_16 : decode cX11_isRow 16 = .ok (.bipush 8, 2) := by decide +kernel
theorem dX11_isRow_18 : decode cX11_isRow 18 = .ok (.if_icmp .ge 7, 3) := by decide +kernel
theorem dX11_isRow_21 : decode cX11_isRow 21 = .ok (.iconst 1, 1) := by decide +kernel
theorem dX11_isRow_22 : decode cX11_isRow 22 = .ok (.goto 4, 3) := by decide +kernel
theorem dX11_isRow_25 : decode cX11_isRow 25 = .ok (.iconst 0, 1) := by decide +kernel
theorem dX11_isRow_26 : decode cX11_isRow 26 = .ok (.ireturn, 1) := by decide +kernel
theorem dX11_line_0 : decode cX11_line 0 = .ok (.aload_n 0, 1) := by decide +kernel
theorem dX11_line_1 : decode cX11_line 1 = .ok (.iload_n 1, 1) := by decide +kernel
theorem dX11_line_2 : decode cX11_line 2 = .ok (.invokevirtual 141, 3) := by decide +kernel
theorem dX11_line_5 : decode cX11_line 5 = .ok (.ifCond .ne 6, 3) := by decide +kernel
theorem dX11_line_8 : decode cX11_line 8 = .ok (.bipush (-2), 2) := by decide +kernel
theorem dX11_line_10 : decode cX11_line 10 = .ok (.ireturn, 1) := by decide +kernel
theorem dX11_line_11 : decode cX11_line 11 = .ok (.iload_n 2, 1) := by decide +kernel
theorem dX11_line_12 : decode cX11_line 12 = .ok (.tableswitch 66 0 3 #[32, 42, 51, 60], 32) := by decide +kernel
theorem dX11_line_44 : decode cX11_line 44 = .ok (.aload_n 0, 1) := by decide +kernel
theorem dX11_line_45 : decode cX11_line 45 = .ok (.getfield 71, 3) := by decide +kernel
theorem dX11_line_48 : decode cX11_line 48 = .ok (.getfield 144, 3) := by decide +kernel
theorem dX11_line_51 : decode cX11_line 51 = .ok (.iload_n 1, 1) := by decide +kernel
theorem dX11_line_52 : decode cX11_line 52 = .ok (.iaload, 1) := by decide +kernel
theorem dX11_line_53 : decode cX11_line 53 = .ok (.ireturn, 1) := by decide +kernel
theorem dX11_line_54 : decode cX11_line 54 = .ok (.aload_n 0, 1) := by decide +kernel
theorem dX11_line_55 : decode cX11_line 55 = .ok (.getfield 28, 3) := by decide +kernel
theorem dX11_line_58 : decode cX11_line 58 = .ok (.iload_n 1, 1) := by decide +kernel
theorem dX11_line_59 : decode cX11_line 59 = .ok (.invokevirtual 147, 3) := by decide +kernel
theorem dX11_line_62 : decode cX11_line 62 = .ok (.ireturn, 1) := by decide +kernel
theorem dX11_line_63 : decode cX11_line 63 = .ok (.aload_n 0, 1) := by decide +kernel
theorem dX11_line_64 : decode cX11_line 64 = .ok (.getfield 71, 3) := by decide +kernel
theorem dX11_line_67 : decode cX11_line 67 = .ok (.iload_n 1, 1) := by decide +kernel
theorem dX11_line_68 : decode cX11_line 68 = .ok (.invokevirtual 150, 3) := by decide +kernel
theorem dX11_line_71 : decode cX11_line 71 = .ok (.ireturn, 1) := by decide +kernel
theorem dX11_line_72 : decode cX11_line 72 = .ok (.aload_n 0, 1) := by decide +kernel
theorem dX11_line_73 : decode cX11_line 73 = .ok (.iload_n 1, 1) := by decide +kernel
theorem dX11_line_74 : decode cX11_line 74 = .ok (.invokevirtual 153, 3) := by decide +kernel
theorem dX11_line_77 : decode cX11_line 77 = .ok (.ireturn, 1) := by decide +kernel
theorem dX11_line_78 : decode cX11_line 78 = .ok (.bipush (-2), 2) := by decide +kernel
theorem dX11_line_80 : decode cX11_line 80 = .ok (.ireturn, 1) := by decide +kernel
theorem dX11_there_0 : decode cX11_there 0 = .ok (.aload_n 0, 1) := by decide +kernel
theorem dX11_there_1 : decode cX11_there 1 = .ok (.iload_n 1, 1) := by decide +kernel
theorem dX11_there_2 : decode cX11_there 2 = .ok (.invokevirtual 141, 3) := by decide +kernel
theorem dX11_there_5 : decode cX11_there 5 = .ok (.ifCond .eq 15, 3) := by decide +kernel
theorem dX11_there_8 : decode cX11_there 8 = .ok (.aload_n 0, 1) := by decide +kernel
theorem dX11_there_9 : decode cX11_there 9 = .ok (.getfield 71, 3) := by decide +kernel
theorem dX11_there_12 : decode cX11_there 12 = .ok (.iload_n 1, 1) := by decide +kernel
theorem dX11_there_13 : decode cX11_there 13 = .ok (.iload_n 2, 1) := by decide +kernel
theorem dX11_there_14 : decode cX11_there 14 = .ok (.invokevirtual 156, 3) := by decide +kernel
theorem dX11_there_17 : decode cX11_there 17 = .ok (.goto 4, 3) := by decide +kernel
theorem dX11_there_20 : decode cX11_there 20 = .ok (.iconst (-1), 1) := by decide +kernel
theorem dX11_there_21 : decode cX11_there 21 = .ok (.ireturn, 1) := by decide +kernel
theorem dX11_handChanged_0 : decode cX11_handChanged 0 = .ok (.aload_n 0, 1) := by decide +kernel
theorem dX11_handChanged_1 : decode cX11_handChanged 1 = .ok (.getfield 50, 3) := by decide +kernel
theorem dX11_handChanged_4 : decode cX11_handChanged 4 = .ok (.iconst 1, 1) := by decide +kernel
theorem dX11_handChanged_5 : decode cX11_handChanged 5 = .ok (.putfield 114, 3) := by decide +kernel
theorem dX11_handChanged_8 : decode cX11_handChanged 8 = .ok (.aload_n 0, 1) := by decide +kernel
theorem dX11_handChanged_9 : decode cX11_handChanged 9 = .ok (.getfield 64, 3) := by decide +kernel
theorem dX11_handChanged_12 : decode cX11_handChanged 12 = .ok (.iconst 1, 1) := by decide +kernel
theorem dX11_handChanged_13 : decode cX11_handChanged 13 = .ok (.putfield 117, 3) := by decide +kernel
theorem dX11_handChanged_16 : decode cX11_handChanged 16 = .ok (.return_, 1) := by decide +kernel
theorem dX11_change_0 : decode cX11_change 0 = .ok (.aload_n 0, 1) := by decide +kernel
theorem dX11_change_1 : decode cX11_change 1 = .ok (.getfield 28, 3) := by decide +kernel
theorem dX11_change_4 : decode cX11_change 4 = .ok (.iload_n 1, 1) := by decide +kernel
theorem dX11_change_5 : decode cX11_change 5 = .ok (.iload_n 2, 1) := by decide +kernel
theorem dX11_change_6 : decode cX11_change 6 = .ok (.invokevirtual 358, 3) := by decide +kernel
theorem dX11_change_9 : decode cX11_change 9 = .ok (.istore_n 3, 1) := by decide +kernel
theorem dX11_change_10 : decode cX11_change 10 = .ok (.aload_n 0, 1) := by decide +kernel
theorem dX11_change_11 : decode cX11_change 11 = .ok (.getfield 43, 3) := by decide +kernel
theorem dX11_change_14 : decode cX11_change 14 = .ok (.iload_n 1, 1) := by decide +kernel
theorem dX11_change_15 : decode cX11_change 15 = .ok (.iload_n 3, 1) := by decide +kernel
theorem dX11_change_16 : decode cX11_change 16 = .ok (.invokevirtual 361, 3) := by decide +kernel
theorem dX11_change_19 : decode cX11_change 19 = .ok (.aload_n 0, 1) := by decide +kernel
theorem dX11_change_20 : decode cX11_change 20 = .ok (.invokevirtual 177, 3) := by decide +kernel
theorem dX11_change_23 : decode cX11_change 23 = .ok (.iload_n 3, 1) := by decide +kernel
theorem dX11_change_24 : decode cX11_change 24 = .ok (.ireturn, 1) := by decide +kernel
theorem dX11_isMeaning_0 : decode cX11_isMeaning 0 = .ok (.iload_n 0, 1) := by decide +kernel
theorem dX11_isMeaning_1 : decode cX11_isMeaning 1 = .ok (.ifCond .lt 21, 3) := by decide +kernel
theorem dX11_isMeaning_4 : decode cX11_isMeaning 4 = .ok (.iload_n 0, 1) := by decide +kernel
theorem dX11_isMeaning_5 : decode cX11_isMeaning 5 = .ok (.iconst 2, 1) := by decide +kernel
theorem dX11_isMeaning_6 : decode cX11_isMeaning 6 = .ok (.if_icmp .gt 16, 3) := by decide +kernel
theorem dX11_isMeaning_9 : decode cX11_isMeaning 9 = .ok (.iload_n 1, 1) := by decide +kernel
theorem dX11_isMeaning_10 : decode cX11_isMeaning 10 = .ok (.ifCond .lt 12, 3) := by decide +kernel
theorem dX11_isMeaning_13 : decode cX11_isMeaning 13 = .ok (.iload_n 1, 1) := by decide +kernel
theorem dX11_isMeaning_14 : decode cX11_isMeaning 14 = .ok (.iconst 2, 1) := by decide +kernel
theorem dX11_isMeaning_15 : decode cX11_isMeaning 15 = .ok (.if_icmp .gt 7, 3) := by decide +kernel
theorem dX11_isMeaning_18 : decode cX11_isMeaning 18 = .ok (.iconst 1, 1) := by decide +kernel
theorem dX11_isMeaning_19 : decode cX11_isMeaning 19 = .ok (.goto 4, 3) := by decide +kernel
theorem dX11_isMeaning_22 : decode cX11_isMeaning 22 = .ok (.iconst 0, 1) := by decide +kernel
theorem dX11_isMeaning_23 : decode cX11_isMeaning 23 = .ok (.ireturn, 1) := by decide +kernel
theorem dX11_guess_0 : decode cX11_guess 0 = .ok (.aload_n 0, 1) := by decide +kernel
theorem dX11_guess_1 : decode cX11_guess 1 = .ok (.iload_n 1, 1) := by decide +kernel
theorem dX11_guess_2 : decode cX11_guess 2 = .ok (.invokevirtual 123, 3) := by decide +kernel
theorem dX11_guess_5 : decode cX11_guess 5 = .ok (.ifCond .eq 11, 3) := by decide +kernel
theorem dX11_guess_8 : decode cX11_guess 8 = .ok (.iload_n 2, 1) := by decide +kernel
theorem dX11_guess_9 : decode cX11_guess 9 = .ok (.iload_n 3, 1) := by decide +kernel
theorem dX11_guess_10 : decode cX11_guess 10 = .ok (.invokestatic 160, 3) := by decide +kernel
theorem dX11_guess_13 : decode cX11_guess 13 = .ok (.ifCond .ne 6, 3) := by decide +kernel
theorem dX11_guess_16 : decode cX11_guess 16 = .ok (.bipush (-2), 2) := by decide +kernel
theorem dX11_guess_18 : decode cX11_guess 18 = .ok (.ireturn, 1) := by decide +kernel
theorem dX11_guess_19 : decode cX11_guess 19 = .ok (.iconst 3, 1) := by decide +kernel
theorem dX11_guess_20 : decode cX11_guess 20 = .ok (.iload_n 2, 1) := by decide +kernel
theorem dX11_guess_21 : decode cX11_guess 21 = .ok (.imul, 1) := by decide +kernel
theorem dX11_guess_22 : decode cX11_guess 22 = .ok (.iload_n 3, 1) := by decide +kernel
theorem dX11_guess_23 : decode cX11_guess 23 = .ok (.iadd, 1) := by decide +kernel
theorem dX11_guess_24 : decode cX11_guess 24 = .ok (.istore 4, 2) := by decide +kernel
theorem dX11_guess_26 : decode cX11_guess 26 = .ok (.aload_n 0, 1) := by decide +kernel
theorem dX11_guess_27 : decode cX11_guess 27 = .ok (.getfield 71, 3) := by decide +kernel
theorem dX11_guess_30 : decode cX11_guess 30 = .ok (.iload_n 1, 1) := by decide +kernel
theorem dX11_guess_31 : decode cX11_guess 31 = .ok (.iload 4, 2) := by decide +kernel
theorem dX11_guess_33 : decode cX11_guess 33 = .ok (.invokevirtual 164, 3) := by decide +kernel
theorem dX11_guess_36 : decode cX11_guess 36 = .ok (.ifCond .eq 13, 3) := by decide +kernel
theorem dX11_guess_39 : decode cX11_guess 39 = .ok (.aload_n 0, 1) := by decide +kernel
theorem dX11_guess_40 : decode cX11_guess 40 = .ok (.iload_n 1, 1) := by decide +kernel
theorem dX11_guess_41 : decode cX11_guess 41 = .ok (.iload 4, 2) := by decide +kernel
theorem dX11_guess_43 : decode cX11_guess 43 = .ok (.invokevirtual 167, 3) := by decide +kernel
theorem dX11_guess_46 : decode cX11_guess 46 = .ok (.goto 5, 3) := by decide +kernel
theorem dX11_guess_49 : decode cX11_guess 49 = .ok (.bipush (-2), 2) := by decide +kernel
theorem dX11_guess_51 : decode cX11_guess 51 = .ok (.ireturn, 1) := by decide +kernel
theorem dX11_forget_0 : decode cX11_forget 0 = .ok (.aload_n 0, 1) := by decide +kernel
theorem dX11_forget_1 : decode cX11_forget 1 = .ok (.iload_n 1, 1) := by decide +kernel
theorem dX11_forget_2 : decode cX11_forget 2 = .ok (.invokevirtual 123, 3) := by decide +kernel
theorem dX11_forget_5 : decode cX11_forget 5 = .ok (.ifCond .eq 19, 3) := by decide +kernel
theorem dX11_forget_8 : decode cX11_forget 8 = .ok (.aload_n 0, 1) := by decide +kernel
theorem dX11_forget_9 : decode cX11_forget 9 = .ok (.getfield 28, 3) := by decide +kernel
theorem dX11_forget_12 : decode cX11_forget 12 = .ok (.iload_n 1, 1) := by decide +kernel
theorem dX11_forget_13 : decode cX11_forget 13 = .ok (.invokevirtual 131, 3) := by decide +kernel
theorem dX11_forget_16 : decode cX11_forget 16 = .ok (.iconst (-1), 1) := by decide +kernel
theorem dX11_forget_17 : decode cX11_forget 17 = .ok (.if_icmp .eq 7, 3) := by decide +kernel
theorem dX11_forget_20 : decode cX11_forget 20 = .ok (.iconst 1, 1) := by decide +kernel
theorem dX11_forget_21 : decode cX11_forget 21 = .ok (.goto 4, 3) := by decide +kernel
theorem dX11_forget_24 : decode cX11_forget 24 = .ok (.iconst 0, 1) := by decide +kernel
theorem dX11_forget_25 : decode cX11_forget 25 = .ok (.istore_n 2, 1) := by decide +kernel
theorem dX11_forget_26 : decode cX11_forget 26 = .ok (.iload_n 2, 1) := by decide +kernel
theorem dX11_forget_27 : decode cX11_forget 27 = .ok (.ifCond .eq 12, 3) := by decide +kernel
theorem dX11_forget_30 : decode cX11_forget 30 = .ok (.aload_n 0, 1) := by decide +kernel
theorem dX11_forget_31 : decode cX11_forget 31 = .ok (.iload_n 1, 1) := by decide +kernel
theorem dX11_forget_32 : decode cX11_forget 32 = .ok (.iconst (-1), 1) := by decide +kernel
theorem dX11_forget_33 : decode cX11_forget 33 = .ok (.invokevirtual 167, 3) := by decide +kernel
theorem dX11_forget_36 : decode cX11_forget 36 = .ok (.goto 4, 3) := by decide +kernel
theorem dX11_forget_39 : decode cX11_forget 39 = .ok (.iconst (-1), 1) := by decide +kernel
theorem dX11_forget_40 : decode cX11_forget 40 = .ok (.ireturn, 1) := by decide +kernel
theorem dX11_isCount_0 : decode cX11_isCount 0 = .ok (.iload_n 0, 1) := by decide +kernel
theorem dX11_isCount_1 : decode cX11_isCount 1 = .ok (.ifCond .lt 13, 3) := by decide +kernel
theorem dX11_isCount_4 : decode cX11_isCount 4 = .ok (.iload_n 0, 1) := by decide +kernel
theorem dX11_isCount_5 : decode cX11_isCount 5 = .ok (.bipush 99, 2) := by decide +kernel
theorem dX11_isCount_7 : decode cX11_isCount 7 = .ok (.if_icmp .gt 7, 3) := by decide +kernel
theorem dX11_isCount_10 : decode cX11_isCount 10 = .ok (.iconst 1, 1) := by decide +kernel
theorem dX11_isCount_11 : decode cX11_isCount 11 = .ok (.goto 4, 3) := by decide +kernel
theorem dX11_isCount_14 : decode cX11_isCount 14 = .ok (.iconst 0, 1) := by decide +kernel
theorem dX11_isCount_15 : decode cX11_isCount 15 = .ok (.ireturn, 1) := by decide +kernel
theorem dX11_tell_0 : decode cX11_tell 0 = .ok (.aload_n 0, 1) := by decide +kernel
theorem dX11_tell_1 : decode cX11_tell 1 = .ok (.iload_n 1, 1) := by decide +kernel
theorem dX11_tell_2 : decode cX11_tell 2 = .ok (.invokevirtual 141, 3) := by decide +kernel
theorem dX11_tell_5 : decode cX11_tell 5 = .ok (.ifCond .eq 14, 3) := by decide +kernel
theorem dX11_tell_8 : decode cX11_tell 8 = .ok (.iload_n 2, 1) := by decide +kernel
theorem dX11_tell_9 : decode cX11_tell 9 = .ok (.invokestatic 170, 3) := by decide +kernel
theorem dX11_tell_12 : decode cX11_tell 12 = .ok (.ifCond .eq 7, 3) := by decide +kernel
theorem dX11_tell_15 : decode cX11_tell 15 = .ok (.iconst 1, 1) := by decide +kernel
theorem dX11_tell_16 : decode cX11_tell 16 = .ok (.goto 4, 3) := by decide +kernel
theorem dX11_tell_19 : decode cX11_tell 19 = .ok (.iconst 0, 1) := by decide +kernel
theorem dX11_tell_20 : decode cX11_tell 20 = .ok (.istore_n 3, 1) := by decide +kernel
theorem dX11_tell_21 : decode cX11_tell 21 = .ok (.iload_n 3, 1) := by decide +kernel
theorem dX11_tell_22 : decode cX11_tell 22 = .ok (.ifCond .eq 14, 3) := by decide +kernel
theorem dX11_tell_25 : decode cX11_tell 25 = .ok (.aload_n 0, 1) := by decide +kernel
theorem dX11_tell_26 : decode cX11_tell 26 = .ok (.iconst 4, 1) := by decide +kernel
theorem dX11_tell_27 : decode cX11_tell 27 = .ok (.iload_n 1, 1) := by decide +kernel
theorem dX11_tell_28 : decode cX11_tell 28 = .ok (.iadd, 1) := by decide +kernel
theorem dX11_tell_29 : decode cX11_tell 29 = .ok (.iload_n 2, 1) := by decide +kernel
theorem dX11_tell_30 : decode cX11_tell 30 = .ok (.invokevirtual 167, 3) := by decide +kernel
theorem dX11_tell_33 : decode cX11_tell 33 = .ok (.goto 5, 3) := by decide +kernel
theorem dX11_tell_36 : decode cX11_tell 36 = .ok (.bipush (-2), 2) := by decide +kernel
theorem dX11_tell_38 : decode cX11_tell 38 = .ok (.ireturn, 1) := by decide +kernel
theorem dX11_drop_0 : decode cX11_drop 0 = .ok (.aload_n 0, 1) := by decide +kernel
theorem dX11_drop_1 : decode cX11_drop 1 = .ok (.iload_n 1, 1) := by decide +kernel
theorem dX11_drop_2 : decode cX11_drop 2 = .ok (.invokevirtual 141, 3) := by decide +kernel
theorem dX11_drop_5 : decode cX11_drop 5 = .ok (.ifCond .eq 19, 3) := by decide +kernel
theorem dX11_drop_8 : decode cX11_drop 8 = .ok (.aload_n 0, 1) := by decide +kernel
theorem dX11_drop_9 : decode cX11_drop 9 = .ok (.getfield 28, 3) := by decide +kernel
theorem dX11_drop_12 : decode cX11_drop 12 = .ok (.iload_n 1, 1) := by decide +kernel
theorem dX11_drop_13 : decode cX11_drop 13 = .ok (.invokevirtual 147, 3) := by decide +kernel
theorem dX11_drop_16 : decode cX11_drop 16 = .ok (.iconst (-1), 1) := by decide +kernel
theorem dX11_drop_17 : decode cX11_drop 17 = .ok (.if_icmp .eq 7, 3) := by decide +kernel
theorem dX11_drop_20 : decode cX11_drop 20 = .ok (.iconst 1, 1) := by decide +kernel
theorem dX11_drop_21 : decode cX11_drop 21 = .ok (.goto 4, 3) := by decide +kernel
theorem dX11_drop_24 : decode cX11_drop 24 = .ok (.iconst 0, 1) := by decide +kernel
theorem dX11_drop_25 : decode cX11_drop 25 = .ok (.istore_n 2, 1) := by decide +kernel
theorem dX11_drop_26 : decode cX11_drop 26 = .ok (.iload_n 2, 1) := by decide +kernel
theorem dX11_drop_27 : decode cX11_drop 27 = .ok (.ifCond .eq 14, 3) := by decide +kernel
theorem dX11_drop_30 : decode cX11_drop 30 = .ok (.aload_n 0, 1) := by decide +kernel
theorem dX11_drop_31 : decode cX11_drop 31 = .ok (.iconst 4, 1) := by decide +kernel
theorem dX11_drop_32 : decode cX11_drop 32 = .ok (.iload_n 1, 1) := by decide +kernel
theorem dX11_drop_33 : decode cX11_drop 33 = .ok (.iadd, 1) := by decide +kernel
theorem dX11_drop_34 : decode cX11_drop 34 = .ok (.iconst (-1), 1) := by decide +kernel
theorem dX11_drop_35 : decode cX11_drop 35 = .ok (.invokevirtual 167, 3) := by decide +kernel
theorem dX11_drop_38 : decode cX11_drop 38 = .ok (.goto 4, 3) := by decide +kernel
theorem dX11_drop_41 : decode cX11_drop 41 = .ok (.iconst (-1), 1) := by decide +kernel
theorem dX11_drop_42 : decode cX11_drop 42 = .ok (.ireturn, 1) := by decide +kernel
theorem dX11_undo_0 : decode cX11_undo 0 = .ok (.aload_n 0, 1) := by decide +kernel
theorem dX11_undo_1 : decode cX11_undo 1 = .ok (.getfield 43, 3) := by decide +kernel
theorem dX11_undo_4 : decode cX11_undo 4 = .ok (.aload_n 0, 1) := by decide +kernel
theorem dX11_undo_5 : decode cX11_undo 5 = .ok (.getfield 28, 3) := by decide +kernel
theorem dX11_undo_8 : decode cX11_undo 8 = .ok (.invokevirtual 173, 3) := by decide +kernel
theorem dX11_undo_11 : decode cX11_undo 11 = .ok (.istore_n 1, 1) := by decide +kernel
theorem dX11_undo_12 : decode cX11_undo 12 = .ok (.iload_n 1, 1) := by decide +kernel
theorem dX11_undo_13 : decode cX11_undo 13 = .ok (.ifCond .eq 7, 3) := by decide +kernel
theorem dX11_undo_16 : decode cX11_undo 16 = .ok (.aload_n 0, 1) := by decide +kernel
theorem dX11_undo_17 : decode cX11_undo 17 = .ok (.invokevirtual 177, 3) := by decide +kernel
theorem dX11_undo_20 : decode cX11_undo 20 = .ok (.iload_n 1, 1) := by decide +kernel
theorem dX11_undo_21 : decode cX11_undo 21 = .ok (.ireturn, 1) := by decide +kernel
theorem dX11_laidShelf_0 : decode cX11_laidShelf 0 = .ok (.aload_n 0, 1) := by decide +kernel
theorem dX11_laidShelf_1 : decode cX11_laidShelf 1 = .ok (.getfield 50, 3) := by decide +kernel
theorem dX11_laidShelf_4 : decode cX11_laidShelf 4 = .ok (.getfield 110, 3) := by decide +kernel
theorem dX11_laidShelf_7 : decode cX11_laidShelf 7 = .ok (.ifCond .eq 14, 3) := by decide +kernel
theorem dX11_laidShelf_10 : decode cX11_laidShelf 10 = .ok (.aload_n 0, 1) := by decide +kernel
theorem dX11_laidShelf_11 : decode cX11_laidShelf 11 = .ok (.getfield 50, 3) := by decide +kernel
theorem dX11_laidShelf_14 : decode cX11_laidShelf 14 = .ok (.aload_n 0, 1) := by decide +kernel
theorem dX11_laidShelf_15 : decode cX11_laidShelf 15 = .ok (.getfield 71, 3) := by decide +kernel
theorem dX11_laidShelf_18 : decode cX11_laidShelf 18 = .ok (.invokevirtual 365, 3) := by decide +kernel
theorem dX11_laidShelf_21 : decode cX11_laidShelf 21 = .ok (.aload_n 0, 1) := by decide +kernel
theorem dX11_laidShelf_22 : decode cX11_laidShelf 22 = .ok (.getfield 50, 3) := by decide +kernel
theorem dX11_laidShelf_25 : decode cX11_laidShelf 25 = .ok (.areturn, 1) := by decide +kernel
theorem dX11_judged_0 : decode cX11_judged 0 = .ok (.iload_n 1, 1) := by decide +kernel
theorem dX11_judged_1 : decode cX11_judged 1 = .ok (.ifCond .lt 8, 3) := by decide +kernel
theorem dX11_judged_4 : decode cX11_judged 4 = .ok (.iload_n 1, 1) := by decide +kernel
theorem dX11_judged_5 : decode cX11_judged 5 = .ok (.iconst 2, 1) := by decide +kernel
theorem dX11_judged_6 : decode cX11_judged 6 = .ok (.if_icmp .le 6, 3) := by decide +kernel
theorem dX11_judged_9 : decode cX11_judged 9 = .ok (.bipush (-2), 2) := by decide +kernel
theorem dX11_judged_11 : decode cX11_judged 11 = .ok (.ireturn, 1) := by decide +kernel
theorem dX11_judged_12 : decode cX11_judged 12 = .ok (.aload_n 0, 1) := by decide +kernel
theorem dX11_judged_13 : decode cX11_judged 13 = .ok (.getfield 81, 3) := by decide +kernel
theorem dX11_judged_16 : decode cX11_judged 16 = .ok (.getfield 180, 3) := by decide +kernel
theorem dX11_judged_19 : decode cX11_judged 19 = .ok (.ifCond .eq 18, 3) := by decide +kernel
theorem dX11_judged_22 : decode cX11_judged 22 = .ok (.aload_n 0, 1) := by decide +kernel
theorem dX11_judged_23 : decode cX11_judged 23 = .ok (.getfield 81, 3) := by decide +kernel
theorem dX11_judged_26 : decode cX11_judged 26 = .ok (.aload_n 0, 1) := by decide +kernel
theorem dX11_judged_27 : decode cX11_judged 27 = .ok (.getfield 71, 3) := by decide +kernel
theorem dX11_judged_30 : decode cX11_judged 30 = .ok (.aload_n 0, 1) := by decide +kernel
theorem dX11_judged_31 : decode cX11_judged 31 = .ok (.invokevirtual 181, 3) := by decide +kernel
theorem dX11_judged_34 : decode cX11_judged 34 = .ok (.invokevirtual 185, 3) := by decide +kernel
theorem dX11_judged_37 : decode cX11_judged 37 = .ok (.iload_n 1, 1) := by decide +kernel
theorem dX11_judged_38 : decode cX11_judged 38 = .ok (.ifCond .ne 13, 3) := by decide +kernel
theorem dX11_judged_41 : decode cX11_judged 41 = .ok (.aload_n 0, 1) := by decide +kernel
theorem dX11_judged_42 : decode cX11_judged 42 = .ok (.getfield 81, 3) := by decide +kernel
theorem dX11_judged_45 : decode cX11_judged 45 = .ok (.getfield 189, 3) := by decide +kernel
theorem dX11_judged_48 : decode cX11_judged 48 = .ok (.goto 25, 3) := by decide +kernel
theorem dX11_judged_51 : decode cX11_judged 51 = .ok (.iload_n 1, 1) := by decide +kernel
theorem dX11_judged_52 : decode cX11_judged 52 = .ok (.iconst 1, 1) := by decide +kernel
theorem dX11_judged_53 : decode cX11_judged 53 = .ok (.if_icmp .ne 13, 3) := by decide +kernel
theorem dX11_judged_56 : decode cX11_judged 56 = .ok (.aload_n 0, 1) := by decide +kernel
theorem dX11_judged_57 : decode cX11_judged 57 = .ok (.getfield 81, 3) := by decide +kernel
theorem dX11_judged_60 : decode cX11_judged 60 = .ok (.getfield 192, 3) := by decide +kernel
theorem dX11_judged_63 : decode cX11_judged 63 = .ok (.goto 10, 3) := by decide +kernel
theorem dX11_judged_66 : decode cX11_judged 66 = .ok (.aload_n 0, 1) := by decide +kernel
theorem dX11_judged_67 : decode cX11_judged 67 = .ok (.getfield 81, 3) := by decide +kernel
theorem dX11_judged_70 : decode cX11_judged 70 = .ok (.getfield 195, 3) := by decide +kernel
theorem dX11_judged_73 : decode cX11_judged 73 = .ok (.ireturn, 1) := by decide +kernel
theorem dX11_readyShelf_0 : decode cX11_readyShelf 0 = .ok (.aload_n 0, 1) := by decide +kernel
theorem dX11_readyShelf_1 : decode cX11_readyShelf 1 = .ok (.invokevirtual 181, 3) := by decide +kernel
theorem dX11_readyShelf_4 : decode cX11_readyShelf 4 = .ok (.astore_n 1, 1) := by decide +kernel
theorem dX11_readyShelf_5 : decode cX11_readyShelf 5 = .ok (.aload_n 1, 1) := by decide +kernel
theorem dX11_readyShelf_6 : decode cX11_readyShelf 6 = .ok (.getfield 114, 3) := by decide +kernel
theorem dX11_readyShelf_9 : decode cX11_readyShelf 9 = .ok (.ifCond .eq 11, 3) := by decide +kernel
theorem dX11_readyShelf_12 : decode cX11_readyShelf 12 = .ok (.aload_n 1, 1) := by decide +kernel
theorem dX11_readyShelf_13 : decode cX11_readyShelf 13 = .ok (.aload_n 0, 1) := by decide +kernel
theorem dX11_readyShelf_14 : decode cX11_readyShelf 14 = .ok (.getfield 28, 3) := by decide +kernel
theorem dX11_readyShelf_17 : decode cX11_readyShelf 17 = .ok (.invokevirtual 368, 3) := by decide +kernel
theorem dX11_readyShelf_20 : decode cX11_readyShelf 20 = .ok (.aload_n 1, 1) := by decide +kernel
theorem dX11_readyShelf_21 : decode cX11_readyShelf 21 = .ok (.areturn, 1) := by decide +kernel
theorem dX11_fits_0 : decode cX11_fits 0 = .ok (.aload_n 0, 1) := by decide +kernel
theorem dX11_fits_1 : decode cX11_fits 1 = .ok (.invokevirtual 198, 3) := by decide +kernel
theorem dX11_fits_4 : decode cX11_fits 4 = .ok (.getfield 201, 3) := by decide +kernel
theorem dX11_fits_7 : decode cX11_fits 7 = .ok (.ireturn, 1) := by decide +kernel
theorem dX11_entry_0 : decode cX11_entry 0 = .ok (.aload_n 0, 1) := by decide +kernel
theorem dX11_entry_1 : decode cX11_entry 1 = .ok (.invokevirtual 198, 3) := by decide +kernel
theorem dX11_entry_4 : decode cX11_entry 4 = .ok (.astore_n 3, 1) := by decide +kernel
theorem dX11_entry_5 : decode cX11_entry 5 = .ok (.aload_n 0, 1) := by decide +kernel
theorem dX11_entry_6 : decode cX11_entry 6 = .ok (.iload_n 2, 1) := by decide +kernel
theorem dX11_entry_7 : decode cX11_entry 7 = .ok (.invokevirtual 123, 3) := by decide +kernel
theorem dX11_entry_10 : decode cX11_entry 10 = .ok (.ifCond .eq 24, 3) := by decide +kernel
theorem dX11_entry_13 : decode cX11_entry 13 = .ok (.iload_n 1, 1) := by decide +kernel
theorem dX11_entry_14 : decode cX11_entry 14 = .ok (.ifCond .lt 20, 3) := by decide +kernel
theorem dX11_entry_17 : decode cX11_entry 17 = .ok (.iload_n 1, 1) := by decide +kernel
theorem dX11_entry_18 : decode cX11_entry 18 = .ok (.aload_n 3, 1) := by decide +kernel
theorem dX11_entry_19 : decode cX11_entry 19 = .ok (.getfield 201, 3) := by decide +kernel
theorem dX11_entry_22 : decode cX11_entry 22 = .ok (.if_icmp .ge 12, 3) := by decide +kernel
theorem dX11_entry_25 : decode cX11_entry 25 = .ok (.iload_n 1, 1) := by decide +kernel
theorem dX11_entry_26 : decode cX11_entry 26 = .ok (.aload_n 3, 1) := by decide +kernel
theorem dX11_entry_27 : decode cX11_entry 27 = .ok (.getfield 204, 3) := by decide +kernel
theorem dX11_entry_30 : decode cX11_entry 30 = .ok (.arraylength, 1) := by decide +kernel
theorem dX11_entry_31 : decode cX11_entry 31 = .ok (.if_icmp .lt 5, 3) := by decide +kernel
theorem dX11_entry_34 : decode cX11_entry 34 = .ok (.iconst (-1), 1) := by decide +kernel
theorem dX11_entry_35 : decode cX11_entry 35 = .ok (.ireturn, 1) := by decide +kernel
theorem dX11_entry_36 : decode cX11_entry 36 = .ok (.aload_n 3, 1) := by decide +kernel
theorem dX11_entry_37 : decode cX11_entry 37 = .ok (.getfield 204, 3) := by decide +kernel
theorem dX11_entry_40 : decode cX11_entry 40 = .ok (.iload_n 1, 1) := by decide +kernel
theorem dX11_entry_41 : decode cX11_entry 41 = .ok (.iaload, 1) := by decide +kernel
theorem dX11_entry_42 : decode cX11_entry 42 = .ok (.iload_n 2, 1) := by decide +kernel
theorem dX11_entry_43 : decode cX11_entry 43 = .ok (.invokestatic 207, 3) := by decide +kernel
theorem dX11_entry_46 : decode cX11_entry 46 = .ok (.ireturn, 1) := by decide +kernel
theorem dX11_talliedWord_0 : decode cX11_talliedWord 0 = .ok (.aload_n 0, 1) := by decide +kernel
theorem dX11_talliedWord_1 : decode cX11_talliedWord 1 = .ok (.invokevirtual 198, 3) := by decide +kernel
theorem dX11_talliedWord_4 : decode cX11_talliedWord 4 = .ok (.iload_n 1, 1) := by decide +kernel
theorem dX11_talliedWord_5 : decode cX11_talliedWord 5 = .ok (.aload_n 0, 1) := by decide +kernel
theorem dX11_talliedWord_6 : decode cX11_talliedWord 6 = .ok (.getfield 57, 3) := by decide +kernel
theorem dX11_talliedWord_9 : decode cX11_talliedWord 9 = .ok (.invokevirtual 371, 3) := by decide +kernel
theorem dX11_talliedWord_12 : decode cX11_talliedWord 12 = .ok (.aload_n 0, 1) := by decide +kernel
theorem dX11_talliedWord_13 : decode cX11_talliedWord 13 = .ok (.getfield 57, 3) := by decide +kernel
theorem dX11_talliedWord_16 : decode cX11_talliedWord 16 = .ok (.areturn, 1) := by decide +kernel
theorem dX11_could_0 : decode cX11_could 0 = .ok (.aload_n 0, 1) := by decide +kernel
theorem dX11_could_1 : decode cX11_could 1 = .ok (.iload_n 1, 1) := by decide +kernel
theorem dX11_could_2 : decode cX11_could 2 = .ok (.invokevirtual 123, 3) := by decide +kernel
theorem dX11_could_5 : decode cX11_could 5 = .ok (.ifCond .eq 14, 3) := by decide +kernel
theorem dX11_could_8 : decode cX11_could 8 = .ok (.aload_n 0, 1) := by decide +kernel
theorem dX11_could_9 : decode cX11_could 9 = .ok (.iload_n 1, 1) := by decide +kernel
theorem dX11_could_10 : decode cX11_could 10 = .ok (.invokevirtual 210, 3) := by decide +kernel
theorem dX11_could_13 : decode cX11_could 13 = .ok (.invokevirtual 214, 3) := by decide +kernel
theorem dX11_could_16 : decode cX11_could 16 = .ok (.goto 4, 3) := by decide +kernel
theorem dX11_could_19 : decode cX11_could 19 = .ok (.iconst (-1), 1) := by decide +kernel
theorem dX11_could_20 : decode cX11_could 20 = .ok (.ireturn, 1) := by decide +kernel
theorem dX11_sure_0 : decode cX11_sure 0 = .ok (.aload_n 0, 1) := by decide +kernel
theorem dX11_sure_1 : decode cX11_sure 1 = .ok (.iload_n 1, 1) := by decide +kernel
theorem dX11_sure_2 : decode cX11_sure 2 = .ok (.invokevirtual 123, 3) := by decide +kernel
theorem dX11_sure_5 : decode cX11_sure 5 = .ok (.ifCond .eq 14, 3) := by decide +kernel
theorem dX11_sure_8 : decode cX11_sure 8 = .ok (.aload_n 0, 1) := by decide +kernel
theorem dX11_sure_9 : decode cX11_sure 9 = .ok (.iload_n 1, 1) := by decide +kernel
theorem dX11_sure_10 : decode cX11_sure 10 = .ok (.invokevirtual 210, 3) := by decide +kernel
theorem dX11_sure_13 : decode cX11_sure 13 = .ok (.invokevirtual 218, 3) := by decide +kernel
theorem dX11_sure_16 : decode cX11_sure 16 = .ok (.goto 4, 3) := by decide +kernel
theorem dX11_sure_19 : decode cX11_sure 19 = .ok (.iconst (-1), 1) := by decide +kernel
theorem dX11_sure_20 : decode cX11_sure 20 = .ok (.ireturn, 1) := by decide +kernel
theorem dX11_fixed_0 : decode cX11_fixed 0 = .ok (.iconst 0, 1) := by decide +kernel
theorem dX11_fixed_1 : decode cX11_fixed 1 = .ok (.istore_n 1, 1) := by decide +kernel
theorem dX11_fixed_2 : decode cX11_fixed 2 = .ok (.iconst 0, 1) := by decide +kernel
theorem dX11_fixed_3 : decode cX11_fixed 3 = .ok (.istore_n 2, 1) := by decide +kernel
theorem dX11_fixed_4 : decode cX11_fixed 4 = .ok (.iload_n 2, 1) := by decide +kernel
theorem dX11_fixed_5 : decode cX11_fixed 5 = .ok (.aload_n 0, 1) := by decide +kernel
theorem dX11_fixed_6 : decode cX11_fixed 6 = .ok (.getfield 71, 3) := by decide +kernel
theorem dX11_fixed_9 : decode cX11_fixed 9 = .ok (.getfield 221, 3) := by decide +kernel
theorem dX11_fixed_12 : decode cX11_fixed 12 = .ok (.if_icmp .ge 27, 3) := by decide +kernel
theorem dX11_fixed_15 : decode cX11_fixed 15 = .ok (.aload_n 0, 1) := by decide +kernel
theorem dX11_fixed_16 : decode cX11_fixed 16 = .ok (.iload_n 2, 1) := by decide +kernel
theorem dX11_fixed_17 : decode cX11_fixed 17 = .ok (.invokevirtual 210, 3) := by decide +kernel
theorem dX11_fixed_20 : decode cX11_fixed 20 = .ok (.invokevirtual 218, 3) := by decide +kernel
theorem dX11_fixed_23 : decode cX11_fixed 23 = .ok (.iconst (-1), 1) := by decide +kernel
theorem dX11_fixed_24 : decode cX11_fixed 24 = .ok (.if_icmp .eq 9, 3) := by decide +kernel
theorem dX11_fixed_27 : decode cX11_fixed 27 = .ok (.iload_n 1, 1) := by decide +kernel
theorem dX11_fixed_28 : decode cX11_fixed 28 = .ok (.iconst 1, 1) := by decide +kernel
theorem dX11_fixed_29 : decode cX11_fixed 29 = .ok (.iload_n 2, 1) := by decide +kernel
theorem dX11_fixed_30 : decode cX11_fixed 30 = .ok (.ishl, 1) := by decide +kernel
theorem dX11_fixed_31 : decode cX11_fixed 31 = .ok (.ior, 1) := by decide +kernel
theorem dX11_fixed_32 : decode cX11_fixed 32 = .ok (.istore_n 1, 1) := by decide +kernel
theorem dX11_fixed_33 : decode cX11_fixed 33 = .ok (.iinc 2 1, 3) := by decide +kernel
theorem dX11_fixed_36 : decode cX11_fixed 36 = .ok (.goto (-32), 3) := by decide +kernel
theorem dX11_fixed_39 : decode cX11_fixed 39 = .ok (.iload_n 1, 1) := by decide +kernel
theorem dX11_fixed_40 : decode cX11_fixed 40 = .ok (.ireturn, 1) := by decide +kernel
theorem dX11_with_0 : decode cX11_with 0 = .ok (.aload_n 0, 1) := by decide +kernel
theorem dX11_with_1 : decode cX11_with 1 = .ok (.iload_n 1, 1) := by decide +kernel
theorem dX11_with_2 : decode cX11_with 2 = .ok (.invokevirtual 123, 3) := by decide +kernel
theorem dX11_with_5 : decode cX11_with 5 = .ok (.ifCond .eq 11, 3) := by decide +kernel
theorem dX11_with_8 : decode cX11_with 8 = .ok (.iload_n 2, 1) := by decide +kernel
theorem dX11_with_9 : decode cX11_with 9 = .ok (.iload_n 3, 1) := by decide +kernel
theorem dX11_with_10 : decode cX11_with 10 = .ok (.invokestatic 160, 3) := by decide +kernel
theorem dX11_with_13 : decode cX11_with 13 = .ok (.ifCond .ne 5, 3) := by decide +kernel
theorem dX11_with_16 : decode cX11_with 16 = .ok (.iconst (-1), 1) := by decide +kernel
theorem dX11_with_17 : decode cX11_with 17 = .ok (.ireturn, 1) := by decide +kernel
theorem dX11_with_18 : decode cX11_with 18 = .ok (.aload_n 0, 1) := by decide +kernel
theorem dX11_with_19 : decode cX11_with 19 = .ok (.iload_n 1, 1) := by decide +kernel
theorem dX11_with_20 : decode cX11_with 20 = .ok (.invokevirtual 210, 3) := by decide +kernel
theorem dX11_with_23 : decode cX11_with 23 = .ok (.iconst 3, 1) := by decide +kernel
theorem dX11_with_24 : decode cX11_with 24 = .ok (.iload_n 2, 1) := by decide +kernel
theorem dX11_with_25 : decode cX11_with 25 = .ok (.imul, 1) := by decide +kernel
theorem dX11_with_26 : decode cX11_with 26 = .ok (.iload_n 3, 1) := by decide +kernel
theorem dX11_with_27 : decode cX11_with 27 = .ok (.iadd, 1) := by decide +kernel
theorem dX11_with_28 : decode cX11_with 28 = .ok (.invokevirtual 224, 3) := by decide +kernel
theorem dX11_with_31 : decode cX11_with 31 = .ok (.ireturn, 1) := by decide +kernel
theorem dX11_talliedRow_0 : decode cX11_talliedRow 0 = .ok (.aload_n 0, 1) := by decide +kernel
theorem dX11_talliedRow_1 : decode cX11_talliedRow 1 = .ok (.invokevirtual 198, 3) := by decide +kernel
theorem dX11_talliedRow_4 : decode cX11_talliedRow 4 = .ok (.iload_n 1, 1) := by decide +kernel
theorem dX11_talliedRow_5 : decode cX11_talliedRow 5 = .ok (.aload_n 0, 1) := by decide +kernel
theorem dX11_talliedRow_6 : decode cX11_talliedRow 6 = .ok (.getfield 57, 3) := by decide +kernel
theorem dX11_talliedRow_9 : decode cX11_talliedRow 9 = .ok (.invokevirtual 375, 3) := by decide +kernel
theorem dX11_talliedRow_12 : decode cX11_talliedRow 12 = .ok (.aload_n 0, 1) := by decide +kernel
theorem dX11_talliedRow_13 : decode cX11_talliedRow 13 = .ok (.getfield 57, 3) := by decide +kernel
theorem dX11_talliedRow_16 : decode cX11_talliedRow 16 = .ok (.areturn, 1) := by decide +kernel
theorem dX11_least_0 : decode cX11_least 0 = .ok (.aload_n 0, 1) := by decide +kernel
theorem dX11_least_1 : decode cX11_least 1 = .ok (.iload_n 1, 1) := by decide +kernel
theorem dX11_least_2 : decode cX11_least 2 = .ok (.invokevirtual 141, 3) := by decide +kernel
theorem dX11_least_5 : decode cX11_least 5 = .ok (.ifCond .eq 14, 3) := by decide +kernel
theorem dX11_least_8 : decode cX11_least 8 = .ok (.aload_n 0, 1) := by decide +kernel
theorem dX11_least_9 : decode cX11_least 9 = .ok (.iload_n 1, 1) := by decide +kernel
theorem dX11_least_10 : decode cX11_least 10 = .ok (.invokevirtual 227, 3) := by decide +kernel
theorem dX11_least_13 : decode cX11_least 13 = .ok (.invokevirtual 230, 3) := by decide +kernel
theorem dX11_least_16 : decode cX11_least 16 = .ok (.goto 4, 3) := by decide +kernel
theorem dX11_least_19 : decode cX11_least 19 = .ok (.iconst (-1), 1) := by decide +kernel
theorem dX11_least_20 : decode cX11_least 20 = .ok (.ireturn, 1) := by decide +kernel
theorem dX11_most_0 : decode cX11_most 0 = .ok (.aload_n 0, 1) := by decide +kernel
theorem dX11_most_1 : decode cX11_most 1 = .ok (.iload_n 1, 1) := by decide +kernel
theorem dX11_most_2 : decode cX11_most 2 = .ok (.invokevirtual 141, 3) := by decide +kernel
theorem dX11_most_5 : decode cX11_most 5 = .ok (.ifCond .eq 14, 3) := by decide +kernel
theorem dX11_most_8 : decode cX11_most 8 = .ok (.aload_n 0, 1) := by decide +kernel
theorem dX11_most_9 : decode cX11_most 9 = .ok (.iload_n 1, 1) := by decide +kernel
theorem dX11_most_10 : decode cX11_most 10 = .ok (.invokevirtual 227, 3) := by decide +kernel
theorem dX11_most_13 : decode cX11_most 13 = .ok (.invokevirtual 233, 3) := by decide +kernel
theorem dX11_most_16 : decode cX11_most 16 = .ok (.goto 4, 3) := by decide +kernel
theorem dX11_most_19 : decode cX11_most 19 = .ok (.iconst (-1), 1) := by decide +kernel
theorem dX11_most_20 : decode cX11_most 20 = .ok (.ireturn, 1) := by decide +kernel
theorem dX11_kinds_0 : decode cX11_kinds 0 = .ok (.aload_n 0, 1) := by decide +kernel
theorem dX11_kinds_1 : decode cX11_kinds 1 = .ok (.iload_n 1, 1) := by decide +kernel
theorem dX11_kinds_2 : decode cX11_kinds 2 = .ok (.invokevirtual 141, 3) := by decide +kernel
theorem dX11_kinds_5 : decode cX11_kinds 5 = .ok (.ifCond .eq 14, 3) := by decide +kernel
theorem dX11_kinds_8 : decode cX11_kinds 8 = .ok (.aload_n 0, 1) := by decide +kernel
theorem dX11_kinds_9 : decode cX11_kinds 9 = .ok (.iload_n 1, 1) := by decide +kernel
theorem dX11_kinds_10 : decode cX11_kinds 10 = .ok (.invokevirtual 227, 3) := by decide +kernel
theorem dX11_kinds_13 : decode cX11_kinds 13 = .ok (.invokevirtual 236, 3) := by decide +kernel
theorem dX11_kinds_16 : decode cX11_kinds 16 = .ok (.goto 4, 3) := by decide +kernel
theorem dX11_kinds_19 : decode cX11_kinds 19 = .ok (.iconst (-1), 1) := by decide +kernel
theorem dX11_kinds_20 : decode cX11_kinds 20 = .ok (.ireturn, 1) := by decide +kernel
theorem dX11_open_0 : decode cX11_open 0 = .ok (.iconst 0, 1) := by decide +kernel
theorem dX11_open_1 : decode cX11_open 1 = .ok (.istore_n 1, 1) := by decide +kernel
theorem dX11_open_2 : decode cX11_open 2 = .ok (.iconst 0, 1) := by decide +kernel
theorem dX11_open_3 : decode cX11_open 3 = .ok (.istore_n 2, 1) := by decide +kernel
theorem dX11_open_4 : decode cX11_open 4 = .ok (.iload_n 2, 1) := by decide +kernel
theorem dX11_open_5 : decode cX11_open 5 = .ok (.aload_n 0, 1) := by decide +kernel
theorem dX11_open_6 : decode cX11_open 6 = .ok (.getfield 71, 3) := by decide +kernel
theorem dX11_open_9 : decode cX11_open 9 = .ok (.getfield 239, 3) := by decide +kernel
theorem dX11_open_12 : decode cX11_open 12 = .ok (.if_icmp .ge 27, 3) := by decide +kernel
theorem dX11_open_15 : decode cX11_open 15 = .ok (.aload_n 0, 1) := by decide +kernel
theorem dX11_open_16 : decode cX11_open 16 = .ok (.iload_n 2, 1) := by decide +kernel
theorem dX11_open_17 : decode cX11_open 17 = .ok (.invokevirtual 227, 3) := by decide +kernel
theorem dX11_open_20 : decode cX11_open 20 = .ok (.invokevirtual 236, 3) := by decide +kernel
theorem dX11_open_23 : decode cX11_open 23 = .ok (.iconst 1, 1) := by decide +kernel
theorem dX11_open_24 : decode cX11_open 24 = .ok (.if_icmp .le 9, 3) := by decide +kernel
theorem dX11_open_27 : decode cX11_open 27 = .ok (.iload_n 1, 1) := by decide +kernel
theorem dX11_open_28 : decode cX11_open 28 = .ok (.iconst 1, 1) := by decide +kernel
theorem dX11_open_29 : decode cX11_open 29 = .ok (.iload_n 2, 1) := by decide +kernel
theorem dX11_open_30 : decode cX11_open 30 = .ok (.ishl, 1) := by decide +kernel
theorem dX11_open_31 : decode cX11_open 31 = .ok (.ior, 1) := by decide +kernel
theorem dX11_open_32 : decode cX11_open 32 = .ok (.istore_n 1, 1) := by decide +kernel
theorem dX11_open_33 : decode cX11_open 33 = .ok (.iinc 2 1, 3) := by decide +kernel
theorem dX11_open_36 : decode cX11_open 36 = .ok (.goto (-32), 3) := by decide +kernel
theorem dX11_open_39 : decode cX11_open 39 = .ok (.iload_n 1, 1) := by decide +kernel
theorem dX11_open_40 : decode cX11_open 40 = .ok (.ireturn, 1) := by decide +kernel
theorem dX11_has_0 : decode cX11_has 0 = .ok (.aload_n 0, 1) := by decide +kernel
theorem dX11_has_1 : decode cX11_has 1 = .ok (.iload_n 1, 1) := by decide +kernel
theorem dX11_has_2 : decode cX11_has 2 = .ok (.invokevirtual 141, 3) := by decide +kernel
theorem dX11_has_5 : decode cX11_has 5 = .ok (.ifCond .eq 22, 3) := by decide +kernel
theorem dX11_has_8 : decode cX11_has 8 = .ok (.iload_n 2, 1) := by decide +kernel
theorem dX11_has_9 : decode cX11_has 9 = .ok (.invokestatic 170, 3) := by decide +kernel
theorem dX11_has_12 : decode cX11_has 12 = .ok (.ifCond .eq 15, 3) := by decide +kernel
theorem dX11_has_15 : decode cX11_has 15 = .ok (.aload_n 0, 1) := by decide +kernel
theorem dX11_has_16 : decode cX11_has 16 = .ok (.iload_n 1, 1) := by decide +kernel
theorem dX11_has_17 : decode cX11_has 17 = .ok (.invokevirtual 227, 3) := by decide +kernel
theorem dX11_has_20 : decode cX11_has 20 = .ok (.iload_n 2, 1) := by decide +kernel
theorem dX11_has_21 : decode cX11_has 21 = .ok (.invokevirtual 224, 3) := by decide +kernel
theorem dX11_has_24 : decode cX11_has 24 = .ok (.goto 4, 3) := by decide +kernel
theorem dX11_has_27 : decode cX11_has 27 = .ok (.iconst (-1), 1) := by decide +kernel
theorem dX11_has_28 : decode cX11_has 28 = .ok (.ireturn, 1) := by decide +kernel
theorem dX11_ask_0 : decode cX11_ask 0 = .ok (.aload_n 0, 1) := by decide +kernel
theorem dX11_ask_1 : decode cX11_ask 1 = .ok (.invokevirtual 198, 3) := by decide +kernel
theorem dX11_ask_4 : decode cX11_ask 4 = .ok (.getfield 201, 3) := by decide +kernel
theorem dX11_ask_7 : decode cX11_ask 7 = .ok (.istore_n 1, 1) := by decide +kernel
theorem dX11_ask_8 : decode cX11_ask 8 = .ok (.iconst (-1), 1) := by decide +kernel
theorem dX11_ask_9 : decode cX11_ask 9 = .ok (.istore_n 2, 1) := by decide +kernel
theorem dX11_ask_10 : decode cX11_ask 10 = .ok (.iconst 0, 1) := by decide +kernel
theorem dX11_ask_11 : decode cX11_ask 11 = .ok (.istore_n 3, 1) := by decide +kernel
theorem dX11_ask_12 : decode cX11_ask 12 = .ok (.iload_n 3, 1) := by decide +kernel
theorem dX11_ask_13 : decode cX11_ask 13 = .ok (.aload_n 0, 1) := by decide +kernel
theorem dX11_ask_14 : decode cX11_ask 14 = .ok (.getfield 71, 3) := by decide +kernel
theorem dX11_ask_17 : decode cX11_ask 17 = .ok (.getfield 239, 3) := by decide +kernel
theorem dX11_ask_20 : decode cX11_ask 20 = .ok (.if_icmp .ge 43, 3) := by decide +kernel
theorem dX11_ask_23 : decode cX11_ask 23 = .ok (.aload_n 0, 1) := by decide +kernel
theorem dX11_ask_24 : decode cX11_ask 24 = .ok (.getfield 28, 3) := by decide +kernel
theorem dX11_ask_27 : decode cX11_ask 27 = .ok (.iload_n 3, 1) := by decide +kernel
theorem dX11_ask_28 : decode cX11_ask 28 = .ok (.invokevirtual 147, 3) := by decide +kernel
theorem dX11_ask_31 : decode cX11_ask 31 = .ok (.iconst (-1), 1) := by decide +kernel
theorem dX11_ask_32 : decode cX11_ask 32 = .ok (.if_icmp .ne 25, 3) := by decide +kernel
theorem dX11_ask_35 : decode cX11_ask 35 = .ok (.aload_n 0, 1) := by decide +kernel
theorem dX11_ask_36 : decode cX11_ask 36 = .ok (.iload_n 3, 1) := by decide +kernel
theorem dX11_ask_37 : decode cX11_ask 37 = .ok (.invokevirtual 227, 3) := by decide +kernel
theorem dX11_ask_40 : decode cX11_ask 40 = .ok (.invokevirtual 242, 3) := by decide +kernel
theorem dX11_ask_43 : decode cX11_ask 43 = .ok (.iload_n 1, 1) := by decide +kernel
theorem dX11_ask_44 : decode cX11_ask 44 = .ok (.if_icmp .ge 13, 3) := by decide +kernel
theorem dX11_ask_47 : decode cX11_ask 47 = .ok (.aload_n 0, 1) := by decide +kernel
theorem dX11_ask_48 : decode cX11_ask 48 = .ok (.getfield 57, 3) := by decide +kernel
theorem dX11_ask_51 : decode cX11_ask 51 = .ok (.invokevirtual 242, 3) := by decide +kernel
theorem dX11_ask_54 : decode cX11_ask 54 = .ok (.istore_n 1, 1) := by decide +kernel
theorem dX11_ask_55 : decode cX11_ask 55 = .ok (.iload_n 3, 1) := by decide +kernel
theorem dX11_ask_56 : decode cX11_ask 56 = .ok (.istore_n 2, 1) := by decide +kernel
theorem dX11_ask_57 : decode cX11_ask 57 = .ok (.iinc 3 1, 3) := by decide +kernel
theorem dX11_ask_60 : decode cX11_ask 60 = .ok (.goto (-48), 3) := by decide +kernel
theorem dX11_ask_63 : decode cX11_ask 63 = .ok (.iload_n 2, 1) := by decide +kernel
theorem dX11_ask_64 : decode cX11_ask 64 = .ok (.ireturn, 1) := by decide +kernel
theorem dX11_learn_0 : decode cX11_learn 0 = .ok (.aload_n 0, 1) := by decide +kernel
theorem dX11_learn_1 : decode cX11_learn 1 = .ok (.invokevirtual 198, 3) := by decide +kernel
theorem dX11_learn_4 : decode cX11_learn 4 = .ok (.getfield 201, 3) := by decide +kernel
theorem dX11_learn_7 : decode cX11_learn 7 = .ok (.istore_n 1, 1) := by decide +kernel
theorem dX11_learn_8 : decode cX11_learn 8 = .ok (.iconst (-1), 1) := by decide +kernel
theorem dX11_learn_9 : decode cX11_learn 9 = .ok (.istore_n 2, 1) := by decide +kernel
theorem dX11_learn_10 : decode cX11_learn 10 = .ok (.iconst 0, 1) := by decide +kernel
theorem dX11_learn_11 : decode cX11_learn 11 = .ok (.istore_n 3, 1) := by decide +kernel
theorem dX11_learn_12 : decode cX11_learn 12 = .ok (.iload_n 3, 1) := by decide +kernel
theorem dX11_learn_13 : decode cX11_learn 13 = .ok (.aload_n 0, 1) := by decide +kernel
theorem dX11_learn_14 : decode cX11_learn 14 = .ok (.getfield 71, 3) := by decide +kernel
theorem dX11_learn_17 : decode cX11_learn 17 = .ok (.getfield 221, 3) := by decide +kernel
theorem dX11_learn_20 : decode cX11_learn 20 = .ok (.if_icmp .ge 43, 3) := by decide +kernel
theorem dX11_learn_23 : decode cX11_learn 23 = .ok (.aload_n 0, 1) := by decide +kernel
theorem dX11_learn_24 : decode cX11_learn 24 = .ok (.getfield 28, 3) := by decide +kernel
theorem dX11_learn_27 : decode cX11_learn 27 = .ok (.iload_n 3, 1) := by decide +kernel
theorem dX11_learn_28 : decode cX11_learn 28 = .ok (.invokevirtual 131, 3) := by decide +kernel
theorem dX11_learn_31 : decode cX11_learn 31 = .ok (.iconst (-1), 1) := by decide +kernel
theorem dX11_learn_32 : decode cX11_learn 32 = .ok (.if_icmp .ne 25, 3) := by decide +kernel
theorem dX11_learn_35 : decode cX11_learn 35 = .ok (.aload_n 0, 1) := by decide +kernel
theorem dX11_learn_36 : decode cX11_learn 36 = .ok (.iload_n 3, 1) := by decide +kernel
theorem dX11_learn_37 : decode cX11_learn 37 = .ok (.invokevirtual 210, 3) := by decide +kernel
theorem dX11_learn_40 : decode cX11_learn 40 = .ok (.invokevirtual 242, 3) := by decide +kernel
theorem dX11_learn_43 : decode cX11_learn 43 = .ok (.iload_n 1, 1) := by decide +kernel
theorem dX11_learn_44 : decode cX11_learn 44 = .ok (.if_icmp .ge 13, 3) := by decide +kernel
theorem dX11_learn_47 : decode cX11_learn 47 = .ok (.aload_n 0, 1) := by decide +kernel
theorem dX11_learn_48 : decode cX11_learn 48 = .ok (.getfield 57, 3) := by decide +kernel
theorem dX11_learn_51 : decode cX11_learn 51 = .ok (.invokevirtual 242, 3) := by decide +kernel
theorem dX11_learn_54 : decode cX11_learn 54 = .ok (.istore_n 1, 1) := by decide +kernel
theorem dX11_learn_55 : decode cX11_learn 55 = .ok (.iload_n 3, 1) := by decide +kernel
theorem dX11_learn_56 : decode cX11_learn 56 = .ok (.istore_n 2, 1) := by decide +kernel
theorem dX11_learn_57 : decode cX11_learn 57 = .ok (.iinc 3 1, 3) := by decide +kernel
theorem dX11_learn_60 : decode cX11_learn 60 = .ok (.goto (-48), 3) := by decide +kernel
theorem dX11_learn_63 : decode cX11_learn 63 = .ok (.iload_n 2, 1) := by decide +kernel
theorem dX11_learn_64 : decode cX11_learn 64 = .ok (.ireturn, 1) := by decide +kernel
theorem dX11_bad_0 : decode cX11_bad 0 = .ok (.aload_n 0, 1) := by decide +kernel
theorem dX11_bad_1 : decode cX11_bad 1 = .ok (.getfield 28, 3) := by decide +kernel
theorem dX11_bad_4 : decode cX11_bad 4 = .ok (.aload_n 0, 1) := by decide +kernel
theorem dX11_bad_5 : decode cX11_bad 5 = .ok (.getfield 71, 3) := by decide +kernel
theorem dX11_bad_8 : decode cX11_bad 8 = .ok (.getfield 221, 3) := by decide +kernel
theorem dX11_bad_11 : decode cX11_bad 11 = .ok (.invokevirtual 245, 3) := by decide +kernel
theorem dX11_bad_14 : decode cX11_bad 14 = .ok (.ifCond .ne 5, 3) := by decide +kernel
theorem dX11_bad_17 : decode cX11_bad 17 = .ok (.iconst (-1), 1) := by decide +kernel
theorem dX11_bad_18 : decode cX11_bad 18 = .ok (.ireturn, 1) := by decide +kernel
theorem dX11_bad_19 : decode cX11_bad 19 = .ok (.aload_n 0, 1) := by decide +kernel
theorem dX11_bad_20 : decode cX11_bad 20 = .ok (.getfield 28, 3) := by decide +kernel
theorem dX11_bad_23 : decode cX11_bad 23 = .ok (.invokevirtual 248, 3) := by decide +kernel
theorem dX11_bad_26 : decode cX11_bad 26 = .ok (.istore_n 1, 1) := by decide +kernel
theorem dX11_bad_27 : decode cX11_bad 27 = .ok (.iconst 0, 1) := by decide +kernel
theorem dX11_bad_28 : decode cX11_bad 28 = .ok (.istore_n 2, 1) := by decide +kernel
theorem dX11_bad_29 : decode cX11_bad 29 = .ok (.iload_n 2, 1) := by decide +kernel
theorem dX11_bad_30 : decode cX11_bad 30 = .ok (.aload_n 0, 1) := by decide +kernel
theorem dX11_bad_31 : decode cX11_bad 31 = .ok (.getfield 71, 3) := by decide +kernel
theorem dX11_bad_34 : decode cX11_bad 34 = .ok (.getfield 239, 3) := by decide +kernel
theorem dX11_bad_37 : decode cX11_bad 37 = .ok (.if_icmp .ge 62, 3) := by decide +kernel
theorem dX11_bad_40 : decode cX11_bad 40 = .ok (.aload_n 0, 1) := by decide +kernel
theorem dX11_bad_41 : decode cX11_bad 41 = .ok (.getfield 28, 3) := by decide +kernel
theorem dX11_bad_44 : decode cX11_bad 44 = .ok (.iload_n 2, 1) := by decide +kernel
theorem dX11_bad_45 : decode cX11_bad 45 = .ok (.invokevirtual 147, 3) := by decide +kernel
theorem dX11_bad_48 : decode cX11_bad 48 = .ok (.istore_n 3, 1) := by decide +kernel
theorem dX11_bad_49 : decode cX11_bad 49 = .ok (.iload_n 3, 1) := by decide +kernel
theorem dX11_bad_50 : decode cX11_bad 50 = .ok (.iconst (-1), 1) := by decide +kernel
theorem dX11_bad_51 : decode cX11_bad 51 = .ok (.if_icmp .eq 20, 3) := by decide +kernel
theorem dX11_bad_54 : decode cX11_bad 54 = .ok (.aload_n 0, 1) := by decide +kernel
theorem dX11_bad_55 : decode cX11_bad 55 = .ok (.getfield 71, 3) := by decide +kernel
theorem dX11_bad_58 : decode cX11_bad 58 = .ok (.iload_n 2, 1) := by decide +kernel
theorem dX11_bad_59 : decode cX11_bad 59 = .ok (.iload_n 1, 1) := by decide +kernel
theorem dX11_bad_60 : decode cX11_bad 60 = .ok (.invokevirtual 251, 3) := by decide +kernel
theorem dX11_bad_63 : decode cX11_bad 63 = .ok (.iload_n 3, 1) := by decide +kernel
theorem dX11_bad_64 : decode cX11_bad 64 = .ok (.if_icmp .eq 7, 3) := by decide +kernel
theorem dX11_bad_67 : decode cX11_bad 67 = .ok (.iconst 1, 1) := by decide +kernel
theorem dX11_bad_68 : decode cX11_bad 68 = .ok (.goto 4, 3) := by decide +kernel
theorem dX11_bad_71 : decode cX11_bad 71 = .ok (.iconst 0, 1) := by decide +kernel
theorem dX11_bad_72 : decode cX11_bad 72 = .ok (.istore 4, 2) := by decide +kernel
theorem dX11_bad_74 : decode cX11_bad 74 = .ok (.iload 4, 2) := by decide +kernel
theorem dX11_bad_76 : decode cX11_bad 76 = .ok (.ifCond .ne 15, 3) := by decide +kernel
theorem dX11_bad_79 : decode cX11_bad 79 = .ok (.aload_n 0, 1) := by decide +kernel
theorem dX11_bad_80 : decode cX11_bad 80 = .ok (.getfield 71, 3) := by decide +kernel
theorem dX11_bad_83 : decode cX11_bad 83 = .ok (.iload_n 2, 1) := by decide +kernel
theorem dX11_bad_84 : decode cX11_bad 84 = .ok (.iload_n 1, 1) := by decide +kernel
theorem dX11_bad_85 : decode cX11_bad 85 = .ok (.invokevirtual 254, 3) := by decide +kernel
theorem dX11_bad_88 : decode cX11_bad 88 = .ok (.ifCond .eq 5, 3) := by decide +kernel
theorem dX11_bad_91 : decode cX11_bad 91 = .ok (.iload_n 2, 1) := by decide +kernel
theorem dX11_bad_92 : decode cX11_bad 92 = .ok (.ireturn, 1) := by decide +kernel
theorem dX11_bad_93 : decode cX11_bad 93 = .ok (.iinc 2 1, 3) := by decide +kernel
theorem dX11_bad_96 : decode cX11_bad 96 = .ok (.goto (-67), 3) := by decide +kernel
theorem dX11_bad_99 : decode cX11_bad 99 = .ok (.iconst (-1), 1) := by decide +kernel
theorem dX11_bad_100 : decode cX11_bad 100 = .ok (.ireturn, 1) := by decide +kernel
theorem dX11_off_0 : decode cX11_off 0 = .ok (.aload_n 0, 1) := by decide +kernel
theorem dX11_off_1 : decode cX11_off 1 = .ok (.invokevirtual 257, 3) := by decide +kernel
theorem dX11_off_4 : decode cX11_off 4 = .ok (.istore_n 1, 1) := by decide +kernel
theorem dX11_off_5 : decode cX11_off 5 = .ok (.iload_n 1, 1) := by decide +kernel
theorem dX11_off_6 : decode cX11_off 6 = .ok (.iconst (-1), 1) := by decide +kernel
theorem dX11_off_7 : decode cX11_off 7 = .ok (.if_icmp .ne 7, 3) := by decide +kernel
theorem dX11_off_10 : decode cX11_off 10 = .ok (.iconst 0, 1) := by decide +kernel
theorem dX11_off_11 : decode cX11_off 11 = .ok (.goto 18, 3) := by decide +kernel
theorem dX11_off_14 : decode cX11_off 14 = .ok (.aload_n 0, 1) := by decide +kernel
theorem dX11_off_15 : decode cX11_off 15 = .ok (.getfield 71, 3) := by decide +kernel
theorem dX11_off_18 : decode cX11_off 18 = .ok (.iload_n 1, 1) := by decide +kernel
theorem dX11_off_19 : decode cX11_off 19 = .ok (.aload_n 0, 1) := by decide +kernel
theorem dX11_off_20 : decode cX11_off 20 = .ok (.getfield 28, 3) := by decide +kernel
theorem dX11_off_23 : decode cX11_off 23 = .ok (.invokevirtual 248, 3) := by decide +kernel
theorem dX11_off_26 : decode cX11_off 26 = .ok (.invokevirtual 254, 3) := by decide +kernel
theorem dX11_off_29 : decode cX11_off 29 = .ok (.ireturn, 1) := by decide +kernel
theorem dX11_behind_0 : decode cX11_behind 0 = .ok (.aload_n 0, 1) := by decide +kernel
theorem dX11_behind_1 : decode cX11_behind 1 = .ok (.iload_n 1, 1) := by decide +kernel
theorem dX11_behind_2 : decode cX11_behind 2 = .ok (.invokevirtual 141, 3) := by decide +kernel
theorem dX11_behind_5 : decode cX11_behind 5 = .ok (.ifCond .eq 24, 3) := by decide +kernel
theorem dX11_behind_8 : decode cX11_behind 8 = .ok (.aload_n 0, 1) := by decide +kernel
theorem dX11_behind_9 : decode cX11_behind 9 = .ok (.getfield 28, 3) := by decide +kernel
theorem dX11_behind_12 : decode cX11_behind 12 = .ok (.aload_n 0, 1) := by decide +kernel
theorem dX11_behind_13 : decode cX11_behind 13 = .ok (.getfield 71, 3) := by decide +kernel
theorem dX11_behind_16 : decode cX11_behind 16 = .ok (.getfield 221, 3) := by decide +kernel
theorem dX11_behind_19 : decode cX11_behind 19 = .ok (.invokevirtual 245, 3) := by decide +kernel
theorem dX11_behind_22 : decode cX11_behind 22 = .ok (.ifCond .eq 7, 3) := by decide +kernel
theorem dX11_behind_25 : decode cX11_behind 25 = .ok (.iconst 1, 1) := by decide +kernel
theorem dX11_behind_26 : decode cX11_behind 26 = .ok (.goto 4, 3) := by decide +kernel
theorem dX11_behind_29 : decode cX11_behind 29 = .ok (.iconst 0, 1) := by decide +kernel
theorem dX11_behind_30 : decode cX11_behind 30 = .ok (.istore_n 2, 1) := by decide +kernel
theorem dX11_behind_31 : decode cX11_behind 31 = .ok (.iload_n 2, 1) := by decide +kernel
theorem dX11_behind_32 : decode cX11_behind 32 = .ok (.ifCond .eq 21, 3) := by decide +kernel
theorem dX11_behind_35 : decode cX11_behind 35 = .ok (.aload_n 0, 1) := by decide +kernel
theorem dX11_behind_36 : decode cX11_behind 36 = .ok (.getfield 71, 3) := by decide +kernel
theorem dX11_behind_39 : decode cX11_behind 39 = .ok (.iload_n 1, 1) := by decide +kernel
theorem dX11_behind_40 : decode cX11_behind 40 = .ok (.aload_n 0, 1) := by decide +kernel
theorem dX11_behind_41 : decode cX11_behind 41 = .ok (.getfield 28, 3) := by decide +kernel
theorem dX11_behind_44 : decode cX11_behind 44 = .ok (.invokevirtual 248, 3) := by decide +kernel
theorem dX11_behind_47 : decode cX11_behind 47 = .ok (.invokevirtual 251, 3) := by decide +kernel
theorem dX11_behind_50 : decode cX11_behind 50 = .ok (.goto 4, 3) := by decide +kernel
theorem dX11_behind_53 : decode cX11_behind 53 = .ok (.iconst (-1), 1) := by decide +kernel
theorem dX11_behind_54 : decode cX11_behind 54 = .ok (.ireturn, 1) := by decide +kernel
theorem dX11_twins_0 : decode cX11_twins 0 = .ok (.aload_n 0, 1) := by decide +kernel
theorem dX11_twins_1 : decode cX11_twins 1 = .ok (.invokevirtual 198, 3) := by decide +kernel
theorem dX11_twins_4 : decode cX11_twins 4 = .ok (.astore_n 1, 1) := by decide +kernel
theorem dX11_twins_5 : decode cX11_twins 5 = .ok (.iconst 0, 1) := by decide +kernel
theorem dX11_twins_6 : decode cX11_twins 6 = .ok (.istore_n 2, 1) := by decide +kernel
theorem dX11_twins_7 : decode cX11_twins 7 = .ok (.iconst 0, 1) := by decide +kernel
theorem dX11_twins_8 : decode cX11_twins 8 = .ok (.istore_n 3, 1) := by decide +kernel
theorem dX11_twins_9 : decode cX11_twins 9 = .ok (.iload_n 3, 1) := by decide +kernel
theorem dX11_twins_10 : decode cX11_twins 10 = .ok (.aload_n 0, 1) := by decide +kernel
theorem dX11_twins_11 : decode cX11_twins 11 = .ok (.getfield 71, 3) := by decide +kernel
theorem dX11_twins_14 : decode cX11_twins 14 = .ok (.getfield 221, 3) := by decide +kernel
theorem dX11_twins_17 : decode cX11_twins 17 = .ok (.if_icmp .ge 45, 3) := by decide +kernel
theorem dX11_twins_20 : decode cX11_twins 20 = .ok (.iload_n 3, 1) := by decide +kernel
theorem dX11_twins_21 : decode cX11_twins 21 = .ok (.iconst 1, 1) := by decide +kernel
theorem dX11_twins_22 : decode cX11_twins 22 = .ok (.iadd, 1) := by decide +kernel
theorem dX11_twins_23 : decode cX11_twins 23 = .ok (.istore 4, 2) := by decide +kernel
theorem dX11_twins_25 : decode cX11_twins 25 = .ok (.iload 4, 2) := by decide +kernel
theorem dX11_twins_27 : decode cX11_twins 27 = .ok (.aload_n 0, 1) := by decide +kernel
theorem dX11_twins_28 : decode cX11_twins 28 = .ok (.getfield 71, 3) := by decide +kernel
theorem dX11_twins_31 : decode cX11_twins 31 = .ok (.getfield 221, 3) := by decide +kernel
theorem dX11_twins_34 : decode cX11_twins 34 = .ok (.if_icmp .ge 22, 3) := by decide +kernel
theorem dX11_twins_37 : decode cX11_twins 37 = .ok (.aload_n 1, 1) := by decide +kernel
theorem dX11_twins_38 : decode cX11_twins 38 = .ok (.iload_n 3, 1) := by decide +kernel
theorem dX11_twins_39 : decode cX11_twins 39 = .ok (.iload 4, 2) := by decide +kernel
theorem dX11_twins_41 : decode cX11_twins 41 = .ok (.invokevirtual 260, 3) := by decide +kernel
theorem dX11_twins_44 : decode cX11_twins 44 = .ok (.ifCond .eq 6, 3) := by decide +kernel
theorem dX11_twins_47 : decode cX11_twins 47 = .ok (.iinc 2 1, 3) := by decide +kernel
theorem dX11_twins_50 : decode cX11_twins 50 = .ok (.iinc 4 1, 3) := by decide +kernel
theorem dX11_twins_53 : decode cX11_twins 53 = .ok (.goto (-28), 3) := by decide +kernel
theorem dX11_twins_56 : decode cX11_twins 56 = .ok (.iinc 3 1, 3) := by decide +kernel
theorem dX11_twins_59 : decode cX11_twins 59 = .ok (.goto (-50), 3) := by decide +kernel
theorem dX11_twins_62 : decode cX11_twins 62 = .ok (.iload_n 2, 1) := by decide +kernel
theorem dX11_twins_63 : decode cX11_twins 63 = .ok (.ireturn, 1) := by decide +kernel
theorem dX11_idle_0 : decode cX11_idle 0 = .ok (.iconst 0, 1) := by decide +kernel
theorem dX11_idle_1 : decode cX11_idle 1 = .ok (.istore_n 1, 1) := by decide +kernel
theorem dX11_idle_2 : decode cX11_idle 2 = .ok (.iconst 0, 1) := by decide +kernel
theorem dX11_idle_3 : decode cX11_idle 3 = .ok (.istore_n 2, 1) := by decide +kernel
theorem dX11_idle_4 : decode cX11_idle 4 = .ok (.iload_n 2, 1) := by decide +kernel
theorem dX11_idle_5 : decode cX11_idle 5 = .ok (.aload_n 0, 1) := by decide +kernel
theorem dX11_idle_6 : decode cX11_idle 6 = .ok (.getfield 71, 3) := by decide +kernel
theorem dX11_idle_9 : decode cX11_idle 9 = .ok (.getfield 221, 3) := by decide +kernel
theorem dX11_idle_12 : decode cX11_idle 12 = .ok (.if_icmp .ge 27, 3) := by decide +kernel
theorem dX11_idle_15 : decode cX11_idle 15 = .ok (.aload_n 0, 1) := by decide +kernel
theorem dX11_idle_16 : decode cX11_idle 16 = .ok (.getfield 71, 3) := by decide +kernel
theorem dX11_idle_19 : decode cX11_idle 19 = .ok (.getfield 138, 3) := by decide +kernel
theorem dX11_idle_22 : decode cX11_idle 22 = .ok (.iload_n 2, 1) := by decide +kernel
theorem dX11_idle_23 : decode cX11_idle 23 = .ok (.iaload, 1) := by decide +kernel
theorem dX11_idle_24 : decode cX11_idle 24 = .ok (.ifCond .ne 9, 3) := by decide +kernel
theorem dX11_idle_27 : decode cX11_idle 27 = .ok (.iload_n 1, 1) := by decide +kernel
theorem dX11_idle_28 : decode cX11_idle 28 = .ok (.iconst 1, 1) := by decide +kernel
theorem dX11_idle_29 : decode cX11_idle 29 = .ok (.iload_n 2, 1) := by decide +kernel
theorem dX11_idle_30 : decode cX11_idle 30 = .ok (.ishl, 1) := by decide +kernel
theorem dX11_idle_31 : decode cX11_idle 31 = .ok (.ior, 1) := by decide +kernel
theorem dX11_idle_32 : decode cX11_idle 32 = .ok (.istore_n 1, 1) := by decide +kernel
theorem dX11_idle_33 : decode cX11_idle 33 = .ok (.iinc 2 1, 3) := by decide +kernel
theorem dX11_idle_36 : decode cX11_idle 36 = .ok (.goto (-32), 3) := by decide +kernel
theorem dX11_idle_39 : decode cX11_idle 39 = .ok (.iload_n 1, 1) := by decide +kernel
theorem dX11_idle_40 : decode cX11_idle 40 = .ok (.ireturn, 1) := by decide +kernel
theorem dX11_drops_0 : decode cX11_drops 0 = .ok (.aload_n 0, 1) := by decide +kernel
theorem dX11_drops_1 : decode cX11_drops 1 = .ok (.invokevirtual 181, 3) := by decide +kernel
theorem dX11_drops_4 : decode cX11_drops 4 = .ok (.aload_n 0, 1) := by decide +kernel
theorem dX11_drops_5 : decode cX11_drops 5 = .ok (.getfield 28, 3) := by decide +kernel
theorem dX11_drops_8 : decode cX11_drops 8 = .ok (.invokevirtual 263, 3) := by decide +kernel
theorem dX11_drops_11 : decode cX11_drops 11 = .ok (.ireturn, 1) := by decide +kernel
theorem dX11_knownSlips_0 : decode cX11_knownSlips 0 = .ok (.aload_n 0, 1) := by decide +kernel
theorem dX11_knownSlips_1 : decode cX11_knownSlips 1 = .ok (.getfield 64, 3) := by decide +kernel
theorem dX11_knownSlips_4 : decode cX11_knownSlips 4 = .ok (.getfield 117, 3) := by decide +kernel
theorem dX11_knownSlips_7 : decode cX11_knownSlips 7 = .ok (.ifCond .eq 22, 3) := by decide +kernel
theorem dX11_knownSlips_10 : decode cX11_knownSlips 10 = .ok (.aload_n 0, 1) := by decide +kernel
theorem dX11_knownSlips_11 : decode cX11_knownSlips 11 = .ok (.getfield 64, 3) := by decide +kernel
theorem dX11_knownSlips_14 : decode cX11_knownSlips 14 = .ok (.aload_n 0, 1) := by decide +kernel
theorem dX11_knownSlips_15 : decode cX11_knownSlips 15 = .ok (.getfield 71, 3) := by decide +kernel
theorem dX11_knownSlips_18 : decode cX11_knownSlips 18 = .ok (.aload_n 0, 1) := by decide +kernel
theorem dX11_knownSlips_19 : decode cX11_knownSlips 19 = .ok (.invokevirtual 181, 3) := by decide +kernel
theorem dX11_knownSlips_22 : decode cX11_knownSlips 22 = .ok (.aload_n 0, 1) := by decide +kernel
theorem dX11_knownSlips_23 : decode cX11_knownSlips 23 = .ok (.getfield 28, 3) := by decide +kernel
theorem dX11_knownSlips_26 : decode cX11_knownSlips 26 = .ok (.invokevirtual 378, 3) := by decide +kernel
theorem dX11_knownSlips_29 : decode cX11_knownSlips 29 = .ok (.aload_n 0, 1) := by decide +kernel
theorem dX11_knownSlips_30 : decode cX11_knownSlips 30 = .ok (.getfield 64, 3) := by decide +kernel
theorem dX11_knownSlips_33 : decode cX11_knownSlips 33 = .ok (.areturn, 1) := by decide +kernel
theorem dX11_misprints_0 : decode cX11_misprints 0 = .ok (.aload_n 0, 1) := by decide +kernel
theorem dX11_misprints_1 : decode cX11_misprints 1 = .ok (.invokevirtual 267, 3) := by decide +kernel
theorem dX11_misprints_4 : decode cX11_misprints 4 = .ok (.getfield 271, 3) := by decide +kernel
theorem dX11_misprints_7 : decode cX11_misprints 7 = .ok (.ireturn, 1) := by decide +kernel
theorem dX11_misprint_0 : decode cX11_misprint 0 = .ok (.aload_n 0, 1) := by decide +kernel
theorem dX11_misprint_1 : decode cX11_misprint 1 = .ok (.invokevirtual 267, 3) := by decide +kernel
theorem dX11_misprint_4 : decode cX11_misprint 4 = .ok (.astore_n 2, 1) := by decide +kernel
theorem dX11_misprint_5 : decode cX11_misprint 5 = .ok (.iload_n 1, 1) := by decide +kernel
theorem dX11_misprint_6 : decode cX11_misprint 6 = .ok (.tableswitch 41 0 2 #[26, 31, 36], 26) := by decide +kernel
theorem dX11_misprint_32 : decode cX11_misprint 32 = .ok (.aload_n 2, 1) := by decide +kernel
theorem dX11_misprint_33 : decode cX11_misprint 33 = .ok (.getfield 274, 3) := by decide +kernel
theorem dX11_misprint_36 : decode cX11_misprint 36 = .ok (.ireturn, 1) := by decide +kernel
theorem dX11_misprint_37 : decode cX11_misprint 37 = .ok (.aload_n 2, 1) := by decide +kernel
theorem dX11_misprint_38 : decode cX11_misprint 38 = .ok (.getfield 277, 3) := by decide +kernel
theorem dX11_misprint_41 : decode cX11_misprint 41 = .ok (.ireturn, 1) := by decide +kernel
theorem dX11_misprint_42 : decode cX11_misprint 42 = .ok (.aload_n 2, 1) := by decide +kernel
theorem dX11_misprint_43 : decode cX11_misprint 43 = .ok (.getfield 280, 3) := by decide +kernel
theorem dX11_misprint_46 : decode cX11_misprint 46 = .ok (.ireturn, 1) := by decide +kernel
theorem dX11_misprint_47 : decode cX11_misprint 47 = .ok (.iconst (-1), 1) := by decide +kernel
theorem dX11_misprint_48 : decode cX11_misprint 48 = .ok (.ireturn, 1) := by decide +kernel
theorem dX11_turned_0 : decode cX11_turned 0 = .ok (.aload_n 0, 1) := by decide +kernel
theorem dX11_turned_1 : decode cX11_turned 1 = .ok (.iload_n 1, 1) := by decide +kernel
theorem dX11_turned_2 : decode cX11_turned 2 = .ok (.invokevirtual 141, 3) := by decide +kernel
theorem dX11_turned_5 : decode cX11_turned 5 = .ok (.ifCond .eq 18, 3) := by decide +kernel
theorem dX11_turned_8 : decode cX11_turned 8 = .ok (.aload_n 0, 1) := by decide +kernel
theorem dX11_turned_9 : decode cX11_turned 9 = .ok (.getfield 71, 3) := by decide +kernel
theorem dX11_turned_12 : decode cX11_turned 12 = .ok (.iload_n 1, 1) := by decide +kernel
theorem dX11_turned_13 : decode cX11_turned 13 = .ok (.invokevirtual 283, 3) := by decide +kernel
theorem dX11_turned_16 : decode cX11_turned 16 = .ok (.ifCond .eq 7, 3) := by decide +kernel
theorem dX11_turned_19 : decode cX11_turned 19 = .ok (.iconst 1, 1) := by decide +kernel
theorem dX11_turned_20 : decode cX11_turned 20 = .ok (.goto 4, 3) := by decide +kernel
theorem dX11_turned_23 : decode cX11_turned 23 = .ok (.iconst 0, 1) := by decide +kernel
theorem dX11_turned_24 : decode cX11_turned 24 = .ok (.ireturn, 1) := by decide +kernel
theorem dX11_alike_0 : decode cX11_alike 0 = .ok (.aload_n 0, 1) := by decide +kernel
theorem dX11_alike_1 : decode cX11_alike 1 = .ok (.iload_n 1, 1) := by decide +kernel
theorem dX11_alike_2 : decode cX11_alike 2 = .ok (.invokevirtual 141, 3) := by decide +kernel
theorem dX11_alike_5 : decode cX11_alike 5 = .ok (.ifCond .eq 32, 3) := by decide +kernel
theorem dX11_alike_8 : decode cX11_alike 8 = .ok (.aload_n 0, 1) := by decide +kernel
theorem dX11_alike_9 : decode cX11_alike 9 = .ok (.iload_n 2, 1) := by decide +kernel
theorem dX11_alike_10 : decode cX11_alike 10 = .ok (.invokevirtual 141, 3) := by decide +kernel
theorem dX11_alike_13 : decode cX11_alike 13 = .ok (.ifCond .eq 24, 3) := by decide +kernel
theorem dX11_alike_16 : decode cX11_alike 16 = .ok (.iload_n 1, 1) := by decide +kernel
theorem dX11_alike_17 : decode cX11_alike 17 = .ok (.iload_n 2, 1) := by decide +kernel
theorem dX11_alike_18 : decode cX11_alike 18 = .ok (.if_icmp .eq 19, 3) := by decide +kernel
theorem dX11_alike_21 : decode cX11_alike 21 = .ok (.aload_n 0, 1) := by decide +kernel
theorem dX11_alike_22 : decode cX11_alike 22 = .ok (.getfield 71, 3) := by decide +kernel
theorem dX11_alike_25 : decode cX11_alike 25 = .ok (.iload_n 1, 1) := by decide +kernel
theorem dX11_alike_26 : decode cX11_alike 26 = .ok (.iload_n 2, 1) := by decide +kernel
theorem dX11_alike_27 : decode cX11_alike 27 = .ok (.invokevirtual 286, 3) := by decide +kernel
theorem dX11_alike_30 : decode cX11_alike 30 = .ok (.ifCond .eq 7, 3) := by decide +kernel
theorem dX11_alike_33 : decode cX11_alike 33 = .ok (.iconst 1, 1) := by decide +kernel
theorem dX11_alike_34 : decode cX11_alike 34 = .ok (.goto 4, 3) := by decide +kernel
theorem dX11_alike_37 : decode cX11_alike 37 = .ok (.iconst 0, 1) := by decide +kernel
theorem dX11_alike_38 : decode cX11_alike 38 = .ok (.ireturn, 1) := by decide +kernel
theorem dX11_spare_0 : decode cX11_spare 0 = .ok (.aload_n 0, 1) := by decide +kernel
theorem dX11_spare_1 : decode cX11_spare 1 = .ok (.invokevirtual 181, 3) := by decide +kernel
theorem dX11_spare_4 : decode cX11_spare 4 = .ok (.aload_n 0, 1) := by decide +kernel
theorem dX11_spare_5 : decode cX11_spare 5 = .ok (.getfield 28, 3) := by decide +kernel
theorem dX11_spare_8 : decode cX11_spare 8 = .ok (.invokevirtual 289, 3) := by decide +kernel
theorem dX11_spare_11 : decode cX11_spare 11 = .ok (.istore_n 1, 1) := by decide +kernel
theorem dX11_spare_12 : decode cX11_spare 12 = .ok (.aload_n 0, 1) := by decide +kernel
theorem dX11_spare_13 : decode cX11_spare 13 = .ok (.getfield 28, 3) := by decide +kernel
theorem dX11_spare_16 : decode cX11_spare 16 = .ok (.invokevirtual 292, 3) := by decide +kernel
theorem dX11_spare_19 : decode cX11_spare 19 = .ok (.iload_n 1, 1) := by decide +kernel
theorem dX11_spare_20 : decode cX11_spare 20 = .ok (.iconst (-1), 1) := by decide +kernel
theorem dX11_spare_21 : decode cX11_spare 21 = .ok (.ixor, 1) := by decide +kernel
theorem dX11_spare_22 : decode cX11_spare 22 = .ok (.iand, 1) := by decide +kernel
theorem dX11_spare_23 : decode cX11_spare 23 = .ok (.invokestatic 295, 3) := by decide +kernel
theorem dX11_spare_26 : decode cX11_spare 26 = .ok (.ireturn, 1) := by decide +kernel
theorem dX11_strict_0 : decode cX11_strict 0 = .ok (.aload_n 0, 1) := by decide +kernel
theorem dX11_strict_1 : decode cX11_strict 1 = .ok (.iload_n 1, 1) := by decide +kernel
theorem dX11_strict_2 : decode cX11_strict 2 = .ok (.invokevirtual 141, 3) := by decide +kernel
theorem dX11_strict_5 : decode cX11_strict 5 = .ok (.ifCond .eq 18, 3) := by decide +kernel
theorem dX11_strict_8 : decode cX11_strict 8 = .ok (.aload_n 0, 1) := by decide +kernel
theorem dX11_strict_9 : decode cX11_strict 9 = .ok (.invokevirtual 181, 3) := by decide +kernel
theorem dX11_strict_12 : decode cX11_strict 12 = .ok (.iload_n 1, 1) := by decide +kernel
theorem dX11_strict_13 : decode cX11_strict 13 = .ok (.aload_n 0, 1) := by decide +kernel
theorem dX11_strict_14 : decode cX11_strict 14 = .ok (.getfield 28, 3) := by decide +kernel
theorem dX11_strict_17 : decode cX11_strict 17 = .ok (.invokevirtual 300, 3) := by decide +kernel
theorem dX11_strict_20 : decode cX11_strict 20 = .ok (.goto 4, 3) := by decide +kernel
theorem dX11_strict_23 : decode cX11_strict 23 = .ok (.iconst (-1), 1) := by decide +kernel
theorem dX11_strict_24 : decode cX11_strict 24 = .ok (.ireturn, 1) := by decide +kernel
theorem dX11_chance_0 : decode cX11_chance 0 = .ok (.aload_n 0, 1) := by decide +kernel
theorem dX11_chance_1 : decode cX11_chance 1 = .ok (.invokevirtual 198, 3) := by decide +kernel
theorem dX11_chance_4 : decode cX11_chance 4 = .ok (.getfield 201, 3) := by decide +kernel
theorem dX11_chance_7 : decode cX11_chance 7 = .ok (.istore_n 3, 1) := by decide +kernel
theorem dX11_chance_8 : decode cX11_chance 8 = .ok (.aload_n 0, 1) := by decide +kernel
theorem dX11_chance_9 : decode cX11_chance 9 = .ok (.iload_n 1, 1) := by decide +kernel
theorem dX11_chance_10 : decode cX11_chance 10 = .ok (.invokevirtual 141, 3) := by decide +kernel
theorem dX11_chance_13 : decode cX11_chance 13 = .ok (.ifCond .eq 14, 3) := by decide +kernel
theorem dX11_chance_16 : decode cX11_chance 16 = .ok (.iload_n 2, 1) := by decide +kernel
theorem dX11_chance_17 : decode cX11_chance 17 = .ok (.invokestatic 170, 3) := by decide +kernel
theorem dX11_chance_20 : decode cX11_chance 20 = .ok (.ifCond .eq 7, 3) := by decide +kernel
theorem dX11_chance_23 : decode cX11_chance 23 = .ok (.iload_n 3, 1) := by decide +kernel
theorem dX11_chance_24 : decode cX11_chance 24 = .ok (.ifCond .gt 5, 3) := by decide +kernel
theorem dX11_chance_27 : decode cX11_chance 27 = .ok (.iconst (-1), 1) := by decide +kernel
theorem dX11_chance_28 : decode cX11_chance 28 = .ok (.ireturn, 1) := by decide +kernel
theorem dX11_chance_29 : decode cX11_chance 29 = .ok (.aload_n 0, 1) := by decide +kernel
theorem dX11_chance_30 : decode cX11_chance 30 = .ok (.iload_n 1, 1) := by decide +kernel
theorem dX11_chance_31 : decode cX11_chance 31 = .ok (.invokevirtual 227, 3) := by decide +kernel
theorem dX11_chance_34 : decode cX11_chance 34 = .ok (.iload_n 2, 1) := by decide +kernel
theorem dX11_chance_35 : decode cX11_chance 35 = .ok (.invokevirtual 304, 3) := by decide +kernel
theorem dX11_chance_38 : decode cX11_chance 38 = .ok (.i2l, 1) := by decide +kernel
theorem dX11_chance_39 : decode cX11_chance 39 = .ok (.lstore 4, 2) := by decide +kernel
theorem dX11_chance_41 : decode cX11_chance 41 = .ok (.lload 4, 2) := by decide +kernel
theorem dX11_chance_43 : decode cX11_chance 43 = .ok (.ldc2_w 307, 3) := by decide +kernel
theorem dX11_chance_46 : decode cX11_chance 46 = .ok (.lmul, 1) := by decide +kernel
theorem dX11_chance_47 : decode cX11_chance 47 = .ok (.iload_n 3, 1) := by decide +kernel
theorem dX11_chance_48 : decode cX11_chance 48 = .ok (.i2l, 1) := by decide +kernel
theorem dX11_chance_49 : decode cX11_chance 49 = .ok (.ldiv, 1) := by decide +kernel
theorem dX11_chance_50 : decode cX11_chance 50 = .ok (.l2i, 1) := by decide +kernel
theorem dX11_chance_51 : decode cX11_chance 51 = .ok (.ireturn, 1) := by decide +kernel
theorem dX11_gain_0 : decode cX11_gain 0 = .ok (.iload_n 3, 1) := by decide +kernel
theorem dX11_gain_1 : decode cX11_gain 1 = .ok (.iconst 1, 1) := by decide +kernel
theorem dX11_gain_2 : decode cX11_gain 2 = .ok (.if_icmp .ne 16, 3) := by decide +kernel
theorem dX11_gain_5 : decode cX11_gain 5 = .ok (.iload 4, 2) := by decide +kernel
theorem dX11_gain_7 : decode cX11_gain 7 = .ok (.iconst 1, 1) := by decide +kernel
theorem dX11_gain_8 : decode cX11_gain 8 = .ok (.if_icmp .ne 8, 3) := by decide +kernel
theorem dX11_gain_11 : decode cX11_gain 11 = .ok (.iload_n 0, 1) := by decide +kernel
theorem dX11_gain_12 : decode cX11_gain 12 = .ok (.ineg, 1) := by decide +kernel
theorem dX11_gain_13 : decode cX11_gain 13 = .ok (.goto 4, 3) := by decide +kernel
theorem dX11_gain_16 : decode cX11_gain 16 = .ok (.iload_n 1, 1) := by decide +kernel
theorem dX11_gain_17 : decode cX11_gain 17 = .ok (.ireturn, 1) := by decide +kernel
theorem dX11_gain_18 : decode cX11_gain 18 = .ok (.iload 4, 2) := by decide +kernel
theorem dX11_gain_20 : decode cX11_gain 20 = .ok (.iconst 1, 1) := by decide +kernel
theorem dX11_gain_21 : decode cX11_gain 21 = .ok (.if_icmp .ne 7, 3) := by decide +kernel
theorem dX11_gain_24 : decode cX11_gain 24 = .ok (.iload_n 2, 1) := by decide +kernel
theorem dX11_gain_25 : decode cX11_gain 25 = .ok (.goto 4, 3) := by decide +kernel
theorem dX11_gain_28 : decode cX11_gain 28 = .ok (.iconst 0, 1) := by decide +kernel
theorem dX11_gain_29 : decode cX11_gain 29 = .ok (.ireturn, 1) := by decide +kernel
theorem dX11_isBest_0 : decode cX11_isBest 0 = .ok (.iload_n 0, 1) := by decide +kernel
theorem dX11_isBest_1 : decode cX11_isBest 1 = .ok (.iload_n 1, 1) := by decide +kernel
theorem dX11_isBest_2 : decode cX11_isBest 2 = .ok (.iload_n 2, 1) := by decide +kernel
theorem dX11_isBest_3 : decode cX11_isBest 3 = .ok (.iload_n 3, 1) := by decide +kernel
theorem dX11_isBest_4 : decode cX11_isBest 4 = .ok (.iload 4, 2) := by decide +kernel
theorem dX11_isBest_6 : decode cX11_isBest 6 = .ok (.invokestatic 400, 3) := by decide +kernel
theorem dX11_isBest_9 : decode cX11_isBest 9 = .ok (.iload_n 0, 1) := by decide +kernel
theorem dX11_isBest_10 : decode cX11_isBest 10 = .ok (.iload_n 1, 1) := by decide +kernel
theorem dX11_isBest_11 : decode cX11_isBest 11 = .ok (.iload_n 2, 1) := by decide +kernel
theorem dX11_isBest_12 : decode cX11_isBest 12 = .ok (.iconst 1, 1) := by decide +kernel
theorem dX11_isBest_13 : decode cX11_isBest 13 = .ok (.iload_n 3, 1) := by decide +kernel
theorem dX11_isBest_14 : decode cX11_isBest 14 = .ok (.isub, 1) := by decide +kernel
theorem dX11_isBest_15 : decode cX11_isBest 15 = .ok (.iload 4, 2) := by decide +kernel
theorem dX11_isBest_17 : decode cX11_isBest 17 = .ok (.invokestatic 400, 3) := by decide +kernel
theorem dX11_isBest_20 : decode cX11_isBest 20 = .ok (.if_icmp .lt 7, 3) := by decide +kernel
theorem dX11_isBest_23 : decode cX11_isBest 23 = .ok (.iconst 1, 1) := by decide +kernel
theorem dX11_isBest_24 : decode cX11_isBest 24 = .ok (.goto 4, 3) := by decide +kernel
theorem dX11_isBest_27 : decode cX11_isBest 27 = .ok (.iconst 0, 1) := by decide +kernel
theorem dX11_isBest_28 : decode cX11_isBest 28 = .ok (.ireturn, 1) := by decide +kernel
theorem dX11_isDigit_0 : decode cX11_isDigit 0 = .ok (.iload_n 0, 1) := by decide +kernel
theorem dX11_isDigit_1 : decode cX11_isDigit 1 = .ok (.ifCond .lt 13, 3) := by decide +kernel
theorem dX11_isDigit_4 : decode cX11_isDigit 4 = .ok (.iload_n 0, 1) := by decide +kernel
theorem dX11_isDigit_5 : decode cX11_isDigit 5 = .ok (.bipush 9, 2) := by decide +kernel
theorem dX11_isDigit_7 : decode cX11_isDigit 7 = .ok (.if_icmp .gt 7, 3) := by decide +kernel
theorem dX11_isDigit_10 : decode cX11_isDigit 10 = .ok (.iconst 1, 1) := by decide +kernel
theorem dX11_isDigit_11 : decode cX11_isDigit 11 = .ok (.goto 4, 3) := by decide +kernel
theorem dX11_isDigit_14 : decode cX11_isDigit 14 = .ok (.iconst 0, 1) := by decide +kernel
theorem dX11_isDigit_15 : decode cX11_isDigit 15 = .ok (.ireturn, 1) := by decide +kernel
theorem dX11_drafts_0 : decode cX11_drafts 0 = .ok (.iload_n 1, 1) := by decide +kernel
theorem dX11_drafts_1 : decode cX11_drafts 1 = .ok (.ifCond .lt 30, 3) := by decide +kernel
theorem dX11_drafts_4 : decode cX11_drafts 4 = .ok (.iload_n 1, 1) := by decide +kernel
theorem dX11_drafts_5 : decode cX11_drafts 5 = .ok (.sipush 9999, 3) := by decide +kernel
theorem dX11_drafts_8 : decode cX11_drafts 8 = .ok (.if_icmp .gt 23, 3) := by decide +kernel
theorem dX11_drafts_11 : decode cX11_drafts 11 = .ok (.iload_n 2, 1) := by decide +kernel
theorem dX11_drafts_12 : decode cX11_drafts 12 = .ok (.iconst 1, 1) := by decide +kernel
theorem dX11_drafts_13 : decode cX11_drafts 13 = .ok (.if_icmp .lt 18, 3) := by decide +kernel
theorem dX11_drafts_16 : decode cX11_drafts 16 = .ok (.iload_n 2, 1) := by decide +kernel
theorem dX11_drafts_17 : decode cX11_drafts 17 = .ok (.bipush 99, 2) := by decide +kernel
theorem dX11_drafts_19 : decode cX11_drafts 19 = .ok (.if_icmp .gt 12, 3) := by decide +kernel
theorem dX11_drafts_22 : decode cX11_drafts 22 = .ok (.iload_n 3, 1) := by decide +kernel
theorem dX11_drafts_23 : decode cX11_drafts 23 = .ok (.ifCond .lt 8, 3) := by decide +kernel
theorem dX11_drafts_26 : decode cX11_drafts 26 = .ok (.iload_n 3, 1) := by decide +kernel
theorem dX11_drafts_27 : decode cX11_drafts 27 = .ok (.iconst 2, 1) := by decide +kernel
theorem dX11_drafts_28 : decode cX11_drafts 28 = .ok (.if_icmp .le 6, 3) := by decide +kernel
theorem dX11_drafts_31 : decode cX11_drafts 31 = .ok (.bipush (-2), 2) := by decide +kernel
theorem dX11_drafts_33 : decode cX11_drafts 33 = .ok (.ireturn, 1) := by decide +kernel
theorem dX11_drafts_34 : decode cX11_drafts 34 = .ok (.aload_n 0, 1) := by decide +kernel
theorem dX11_drafts_35 : decode cX11_drafts 35 = .ok (.getfield 71, 3) := by decide +kernel
theorem dX11_drafts_38 : decode cX11_drafts 38 = .ok (.invokevirtual 323, 3) := by decide +kernel
theorem dX11_drafts_41 : decode cX11_drafts 41 = .ok (.ifCond .ne 14, 3) := by decide +kernel
theorem dX11_drafts_44 : decode cX11_drafts 44 = .ok (.iload_n 3, 1) := by decide +kernel
theorem dX11_drafts_45 : decode cX11_drafts 45 = .ok (.iconst 2, 1) := by decide +kernel
theorem dX11_drafts_46 : decode cX11_drafts 46 = .ok (.if_icmp .ne 7, 3) := by decide +kernel
theorem dX11_drafts_49 : decode cX11_drafts 49 = .ok (.iconst (-1), 1) := by decide +kernel
theorem dX11_drafts_50 : decode cX11_drafts 50 = .ok (.goto 4, 3) := by decide +kernel
theorem dX11_drafts_53 : decode cX11_drafts 53 = .ok (.iconst 0, 1) := by decide +kernel
theorem dX11_drafts_54 : decode cX11_drafts 54 = .ok (.ireturn, 1) := by decide +kernel
theorem dX11_drafts_55 : decode cX11_drafts 55 = .ok (.iconst 0, 1) := by decide +kernel
theorem dX11_drafts_56 : decode cX11_drafts 56 = .ok (.istore 4, 2) := by decide +kernel
theorem dX11_drafts_58 : decode cX11_drafts 58 = .ok (.iconst 0, 1) := by decide +kernel
theorem dX11_drafts_59 : decode cX11_drafts 59 = .ok (.istore 5, 2) := by decide +kernel
theorem dX11_drafts_61 : decode cX11_drafts 61 = .ok (.iconst (-1), 1) := by decide +kernel
theorem dX11_drafts_62 : decode cX11_drafts 62 = .ok (.istore 6, 2) := by decide +kernel
theorem dX11_drafts_64 : decode cX11_drafts 64 = .ok (.iload_n 1, 1) := by decide +kernel
theorem dX11_drafts_65 : decode cX11_drafts 65 = .ok (.i2l, 1) := by decide +kernel
theorem dX11_drafts_66 : decode cX11_drafts 66 = .ok (.lstore 7, 2) := by decide +kernel
theorem dX11_drafts_68 : decode cX11_drafts 68 = .ok (.iconst 0, 1) := by decide +kernel
theorem dX11_drafts_69 : decode cX11_drafts 69 = .ok (.istore 9, 2) := by decide +kernel
theorem dX11_drafts_71 : decode cX11_drafts 71 = .ok (.iload 9, 2) := by decide +kernel
theorem dX11_drafts_73 : decode cX11_drafts 73 = .ok (.iload_n 2, 1) := by decide +kernel
theorem dX11_drafts_74 : decode cX11_drafts 74 = .ok (.if_icmp .ge 144, 3) := by decide +kernel
theorem dX11_drafts_77 : decode cX11_drafts 77 = .ok (.iconst 0, 1) := by decide +kernel
theorem dX11_drafts_78 : decode cX11_drafts 78 = .ok (.istore 10, 2) := by decide +kernel
theorem dX11_drafts_80 : decode cX11_drafts 80 = .ok (.iconst 0, 1) := by decide +kernel
theorem dX11_drafts_81 : decode cX11_drafts 81 = .ok (.istore 11, 2) := by decide +kernel
theorem dX11_drafts_83 : decode cX11_drafts 83 = .ok (.iload 11, 2) := by decide +kernel
theorem dX11_drafts_85 : decode cX11_drafts 85 = .ok (.aload_n 0, 1) := by decide +kernel
theorem dX11_drafts_86 : decode cX11_drafts 86 = .ok (.getfield 71, 3) := by decide +kernel
theorem dX11_drafts_89 : decode cX11_drafts 89 = .ok (.getfield 221, 3) := by decide +kernel
theorem dX11_drafts_92 : decode cX11_drafts 92 = .ok (.if_icmp .ge 50, 3) := by decide +kernel
theorem dX11_drafts_95 : decode cX11_drafts 95 = .ok (.lload 7, 2) := by decide +kernel
theorem dX11_drafts_97 : decode cX11_drafts 97 = .ok (.ldc2_w 326, 3) := by decide +kernel
theorem dX11_drafts_100 : decode cX11_drafts 100 = .ok (.lmul, 1) := by decide +kernel
theorem dX11_drafts_101 : decode cX11_drafts 101 = .ok (.ldc2_w 328, 3) := by decide +kernel
theorem dX11_drafts_104 : decode cX11_drafts 104 = .ok (.ladd, 1) := by decide +kernel
theorem dX11_drafts_105 : decode cX11_drafts 105 = .ok (.ldc2_w 330, 3) := by decide +kernel
theorem dX11_drafts_108 : decode cX11_drafts 108 = .ok (.lrem, 1) := by decide +kernel
theorem dX11_drafts_109 : decode cX11_drafts 109 = .ok (.lstore 7, 2) := by decide +kernel
theorem dX11_drafts_111 : decode cX11_drafts 111 = .ok (.iload 10, 2) := by decide +kernel
theorem dX11_drafts_113 : decode cX11_drafts 113 = .ok (.aload_n 0, 1) := by decide +kernel
theorem dX11_drafts_114 : decode cX11_drafts 114 = .ok (.getfield 71, 3) := by decide +kernel
theorem dX11_drafts_117 : decode cX11_drafts 117 = .ok (.iload 11, 2) := by decide +kernel
theorem dX11_drafts_119 : decode cX11_drafts 119 = .ok (.lload 7, 2) := by decide +kernel
theorem dX11_drafts_121 : decode cX11_drafts 121 = .ok (.ldc2_w 332, 3) := by decide +kernel
theorem dX11_drafts_124 : decode cX11_drafts 124 = .ok (.ldiv, 1) := by decide +kernel
theorem dX11_drafts_125 : decode cX11_drafts 125 = .ok (.invokevirtual 334, 3) := by decide +kernel
theorem dX11_drafts_128 : decode cX11_drafts 128 = .ok (.iconst 4, 1) := by decide +kernel
theorem dX11_drafts_129 : decode cX11_drafts 129 = .ok (.iload 11, 2) := by decide +kernel
theorem dX11_drafts_131 : decode cX11_drafts 131 = .ok (.imul, 1) := by decide +kernel
theorem dX11_drafts_132 : decode cX11_drafts 132 = .ok (.ishl, 1) := by decide +kernel
theorem dX11_drafts_133 : decode cX11_drafts 133 = .ok (.ior, 1) := by decide +kernel
theorem dX11_drafts_134 : decode cX11_drafts 134 = .ok (.istore 10, 2) := by decide +kernel
theorem dX11_drafts_136 : decode cX11_drafts 136 = .ok (.iinc 11 1, 3) := by decide +kernel
theorem dX11_drafts_139 : decode cX11_drafts 139 = .ok (.goto (-56), 3) := by decide +kernel
theorem dX11_drafts_142 : decode cX11_drafts 142 = .ok (.aload_n 0, 1) := by decide +kernel
theorem dX11_drafts_143 : decode cX11_drafts 143 = .ok (.getfield 71, 3) := by decide +kernel
theorem dX11_drafts_146 : decode cX11_drafts 146 = .ok (.iload 10, 2) := by decide +kernel
theorem dX11_drafts_148 : decode cX11_drafts 148 = .ok (.bipush 8, 2) := by decide +kernel
theorem dX11_drafts_150 : decode cX11_drafts 150 = .ok (.invokevirtual 338, 3) := by decide +kernel
theorem dX11_drafts_153 : decode cX11_drafts 153 = .ok (.istore 11, 2) := by decide +kernel
theorem dX11_drafts_155 : decode cX11_drafts 155 = .ok (.iload 5, 2) := by decide +kernel
theorem dX11_drafts_157 : decode cX11_drafts 157 = .ok (.aload_n 0, 1) := by decide +kernel
theorem dX11_drafts_158 : decode cX11_drafts 158 = .ok (.getfield 71, 3) := by decide +kernel
theorem dX11_drafts_161 : decode cX11_drafts 161 = .ok (.getfield 239, 3) := by decide +kernel
theorem dX11_drafts_164 : decode cX11_drafts 164 = .ok (.iload 11, 2) := by decide +kernel
theorem dX11_drafts_166 : decode cX11_drafts 166 = .ok (.invokestatic 295, 3) := by decide +kernel
theorem dX11_drafts_169 : decode cX11_drafts 169 = .ok (.isub, 1) := by decide +kernel
theorem dX11_drafts_170 : decode cX11_drafts 170 = .ok (.iadd, 1) := by decide +kernel
theorem dX11_drafts_171 : decode cX11_drafts 171 = .ok (.istore 5, 2) := by decide +kernel
theorem dX11_drafts_173 : decode cX11_drafts 173 = .ok (.iload 11, 2) := by decide +kernel
theorem dX11_drafts_175 : decode cX11_drafts 175 = .ok (.ifCond .ne 37, 3) := by decide +kernel
theorem dX11_drafts_178 : decode cX11_drafts 178 = .ok (.aload_n 0, 1) := by decide +kernel
theorem dX11_drafts_179 : decode cX11_drafts 179 = .ok (.getfield 28, 3) := by decide +kernel
theorem dX11_drafts_182 : decode cX11_drafts 182 = .ok (.iload 10, 2) := by decide +kernel
theorem dX11_drafts_184 : decode cX11_drafts 184 = .ok (.aload_n 0, 1) := by decide +kernel
theorem dX11_drafts_185 : decode cX11_drafts 185 = .ok (.getfield 71, 3) := by decide +kernel
theorem dX11_drafts_188 : decode cX11_drafts 188 = .ok (.invokevirtual 341, 3) := by decide +kernel
theorem dX11_drafts_191 : decode cX11_drafts 191 = .ok (.ifCond .eq 21, 3) := by decide +kernel
theorem dX11_drafts_194 : decode cX11_drafts 194 = .ok (.iinc 4 1, 3) := by decide +kernel
theorem dX11_drafts_197 : decode cX11_drafts 197 = .ok (.iload 6, 2) := by decide +kernel
theorem dX11_drafts_199 : decode cX11_drafts 199 = .ok (.iconst (-1), 1) := by decide +kernel
theorem dX11_drafts_200 : decode cX11_drafts 200 = .ok (.if_icmp .ne 8, 3) := by decide +kernel
theorem dX11_drafts_203 : decode cX11_drafts 203 = .ok (.iload 9, 2) := by decide +kernel
theorem dX11_drafts_205 : decode cX11_drafts 205 = .ok (.goto 5, 3) := by decide +kernel
theorem dX11_drafts_208 : decode cX11_drafts 208 = .ok (.iload 6, 2) := by decide +kernel
theorem dX11_drafts_210 : decode cX11_drafts 210 = .ok (.istore 6, 2) := by decide +kernel
theorem dX11_drafts_212 : decode cX11_drafts 212 = .ok (.iinc 9 1, 3) := by decide +kernel
theorem dX11_drafts_215 : decode cX11_drafts 215 = .ok (.goto (-144), 3) := by decide +kernel
theorem dX11_drafts_218 : decode cX11_drafts 218 = .ok (.iload_n 3, 1) := by decide +kernel
theorem dX11_drafts_219 : decode cX11_drafts 219 = .ok (.ifCond .ne 8, 3) := by decide +kernel
theorem dX11_drafts_222 : decode cX11_drafts 222 = .ok (.iload 4, 2) := by decide +kernel
theorem dX11_drafts_224 : decode cX11_drafts 224 = .ok (.goto 15, 3) := by decide +kernel
theorem dX11_drafts_227 : decode cX11_drafts 227 = .ok (.iload_n 3, 1) := by decide +kernel
theorem dX11_drafts_228 : decode cX11_drafts 228 = .ok (.iconst 1, 1) := by decide +kernel
theorem dX11_drafts_229 : decode cX11_drafts 229 = .ok (.if_icmp .ne 8, 3) := by decide +kernel
theorem dX11_drafts_232 : decode cX11_drafts 232 = .ok (.iload 5, 2) := by decide +kernel
theorem dX11_drafts_234 : decode cX11_drafts 234 = .ok (.goto 5, 3) := by decide +kernel
theorem dX11_drafts_237 : decode cX11_drafts 237 = .ok (.iload 6, 2) := by decide +kernel
theorem dX11_drafts_239 : decode cX11_drafts 239 = .ok (.ireturn, 1) := by decide +kernel
theorem dX11_mark_0 : decode cX11_mark 0 = .ok (.iload_n 1, 1) := by decide +kernel
theorem dX11_mark_1 : decode cX11_mark 1 = .ok (.ifCond .lt 21, 3) := by decide +kernel
theorem dX11_mark_4 : decode cX11_mark 4 = .ok (.iload_n 1, 1) := by decide +kernel
theorem dX11_mark_5 : decode cX11_mark 5 = .ok (.iconst 4, 1) := by decide +kernel
theorem dX11_mark_6 : decode cX11_mark 6 = .ok (.if_icmp .ge 16, 3) := by decide +kernel
theorem dX11_mark_9 : decode cX11_mark 9 = .ok (.iload_n 2, 1) := by decide +kernel
theorem dX11_mark_10 : decode cX11_mark 10 = .ok (.ifCond .eq 14, 3) := by decide +kernel
theorem dX11_mark_13 : decode cX11_mark 13 = .ok (.aload_n 0, 1) := by decide +kernel
theorem dX11_mark_14 : decode cX11_mark 14 = .ok (.getfield 36, 3) := by decide +kernel
theorem dX11_mark_17 : decode cX11_mark 17 = .ok (.iload_n 1, 1) := by decide +kernel
theorem dX11_mark_18 : decode cX11_mark 18 = .ok (.baload, 1) := by decide +kernel
theorem dX11_mark_19 : decode cX11_mark 19 = .ok (.ifCond .ne 5, 3) := by decide +kernel
theorem dX11_mark_22 : decode cX11_mark 22 = .ok (.iconst 0, 1) := by decide +kernel
theorem dX11_mark_23 : decode cX11_mark 23 = .ok (.ireturn, 1) := by decide +kernel
theorem dX11_mark_24 : decode cX11_mark 24 = .ok (.iload_n 2, 1) := by decide +kernel
theorem dX11_mark_25 : decode cX11_mark 25 = .ok (.ifCond .eq 31, 3) := by decide +kernel
theorem dX11_mark_28 : decode cX11_mark 28 = .ok (.aload_n 0, 1) := by decide +kernel
theorem dX11_mark_29 : decode cX11_mark 29 = .ok (.getfield 28, 3) := by decide +kernel
theorem dX11_mark_32 : decode cX11_mark 32 = .ok (.aload_n 0, 1) := by decide +kernel
theorem dX11_mark_33 : decode cX11_mark 33 = .ok (.getfield 32, 3) := by decide +kernel
theorem dX11_mark_36 : decode cX11_mark 36 = .ok (.iload_n 1, 1) := by decide +kernel
theorem dX11_mark_37 : decode cX11_mark 37 = .ok (.aaload, 1) := by decide +kernel
theorem dX11_mark_38 : decode cX11_mark 38 = .ok (.invokevirtual 345, 3) := by decide +kernel
theorem dX11_mark_41 : decode cX11_mark 41 = .ok (.aload_n 0, 1) := by decide +kernel
theorem dX11_mark_42 : decode cX11_mark 42 = .ok (.getfield 43, 3) := by decide +kernel
theorem dX11_mark_45 : decode cX11_mark 45 = .ok (.iconst 0, 1) := by decide +kernel
theorem dX11_mark_46 : decode cX11_mark 46 = .ok (.putfield 107, 3) := by decide +kernel
theorem dX11_mark_49 : decode cX11_mark 49 = .ok (.aload_n 0, 1) := by decide +kernel
theorem dX11_mark_50 : decode cX11_mark 50 = .ok (.invokevirtual 177, 3) := by decide +kernel
theorem dX11_mark_53 : decode cX11_mark 53 = .ok (.goto 23, 3) := by decide +kernel
theorem dX11_mark_56 : decode cX11_mark 56 = .ok (.aload_n 0, 1) := by decide +kernel
theorem dX11_mark_57 : decode cX11_mark 57 = .ok (.getfield 32, 3) := by decide +kernel
theorem dX11_mark_60 : decode cX11_mark 60 = .ok (.iload_n 1, 1) := by decide +kernel
theorem dX11_mark_61 : decode cX11_mark 61 = .ok (.aaload, 1) := by decide +kernel
theorem dX11_mark_62 : decode cX11_mark 62 = .ok (.aload_n 0, 1) := by decide +kernel
theorem dX11_mark_63 : decode cX11_mark 63 = .ok (.getfield 28, 3) := by decide +kernel
theorem dX11_mark_66 : decode cX11_mark 66 = .ok (.invokevirtual 345, 3) := by decide +kernel
theorem dX11_mark_69 : decode cX11_mark 69 = .ok (.aload_n 0, 1) := by decide +kernel
theorem dX11_mark_70 : decode cX11_mark 70 = .ok (.getfield 36, 3) := by decide +kernel
theorem dX11_mark_73 : decode cX11_mark 73 = .ok (.iload_n 1, 1) := by decide +kernel
theorem dX11_mark_74 : decode cX11_mark 74 = .ok (.iconst 1, 1) := by decide +kernel
theorem dX11_mark_75 : decode cX11_mark 75 = .ok (.bastore, 1) := by decide +kernel
theorem dX11_mark_76 : decode cX11_mark 76 = .ok (.iconst 1, 1) := by decide +kernel
theorem dX11_mark_77 : decode cX11_mark 77 = .ok (.ireturn, 1) := by decide +kernel
theorem zq_753 : Cond.fieldLink RX11 127 "ForeignKnit$Book" "kinds" "[I" ∈ zG := List.mem_of_getElem? (i := 753) (by decide +kernel)
theorem zq_754 : Cond.fieldLink RX11 135 "ForeignKnit$Book" "sizes" "[I" ∈ zG := List.mem_of_getElem? (i := 754) (by decide +kernel)
theorem zq_755 : Cond.fieldLink RX11 138 "ForeignKnit$Book" "uses" "[I" ∈ zG := List.mem_of_getElem? (i := 755) (by decide +kernel)
theorem zq_756 : Cond.methodLink RX11 123 yX11_isWord ∈ zG := List.mem_of_getElem? (i := 756) (by decide +kernel)
theorem zq_760 : Cond.fieldLink RX11 221 "ForeignKnit$Book" "words" "I" ∈ zG := List.mem_of_getElem? (i := 760) (by decide +kernel)
theorem zq_761 : Cond.methodLink RX11 131 yX3_guessOf ∈ zG := List.mem_of_getElem? (i := 761) (by decide +kernel)
theorem zq_780 : Cond.fieldLink RX11 144 "ForeignKnit$Book" "lengths" "[I" ∈ zG := List.mem_of_getElem? (i := 780) (by decide +kernel)
theorem zq_781 : Cond.methodLink RX11 141 yX11_isRow ∈ zG := List.mem_of_getElem? (i := 781) (by decide +kernel)
theorem zq_785 : Cond.fieldLink RX11 239 "ForeignKnit$Book" "rows" "I" ∈ zG := List.mem_of_getElem? (i := 785) (by decide +kernel)
theorem zq_786 : Cond.methodLink RX11 147 yX3_countOf ∈ zG := List.mem_of_getElem? (i := 786) (by decide +kernel)
theorem zq_790 : Cond.methodLink RX11 150 yX0_beat ∈ zG := List.mem_of_getElem? (i := 790) (by decide +kernel)
theorem zq_797 : Cond.methodLink RX11 153 yX11_briefOf ∈ zG := List.mem_of_getElem? (i := 797) (by decide +kernel)
theorem zq_801 : Cond.fieldLink RX11 382 "ForeignKnit$Book" "briefs" "[I" ∈ zG := List.mem_of_getElem? (i := 801) (by decide +kernel)
theorem zq_802 : Cond.fieldLink RX11 385 "ForeignKnit" "shortener" "LForeignKnit$Brief;" ∈ zG := List.mem_of_getElem? (i := 802) (by decide +kernel)
theorem zq_803 : Cond.classLink RX11 389 RX2 ∈ zG := List.mem_of_getElem? (i := 803) (by decide +kernel)
theorem zq_804 : Cond.instantiable RX2 2 ∈ zG := List.mem_of_getElem? (i := 804) (by decide +kernel)
theorem zq_806 : Cond.fieldLink RX11 392 "ForeignKnit$Book" "places" "[[I" ∈ zG := List.mem_of_getElem? (i := 806) (by decide +kernel)
theorem zq_807 : Cond.instanceMethod yX2_init ∈ zG := List.mem_of_getElem? (i := 807) (by decide +kernel)
theorem zq_808 : Cond.code yX2_init cX2_init 1 none ∈ zG := List.mem_of_getElem? (i := 808) (by decide +kernel)
theorem zq_812 : Cond.methodLink RX11 396 yX2_fewest ∈ zG := List.mem_of_getElem? (i := 812) (by decide +kernel)
theorem zq_864 : Cond.methodLink RX11 156 yX0_wordAt ∈ zG := List.mem_of_getElem? (i := 864) (by decide +kernel)
theorem zq_873 : Cond.methodLink RX11 160 yX11_isMeaning ∈ zG := List.mem_of_getElem? (i := 873) (by decide +kernel)
theorem zq_876 : Cond.methodLink RX11 164 yX0_means ∈ zG := List.mem_of_getElem? (i := 876) (by decide +kernel)
theorem zq_880 : Cond.methodLink RX11 167 yX11_change ∈ zG := List.mem_of_getElem? (i := 880) (by decide +kernel)
theorem zq_884 : Cond.methodLink RX11 358 yX3_put ∈ zG := List.mem_of_getElem? (i := 884) (by decide +kernel)
theorem zq_892 : Cond.methodLink RX11 361 yX6_keep ∈ zG := List.mem_of_getElem? (i := 892) (by decide +kernel)
theorem zq_898 : Cond.methodLink RX11 177 yX11_handChanged ∈ zG := List.mem_of_getElem? (i := 898) (by decide +kernel)
theorem zq_930 : Cond.methodLink RX11 170 yX11_isCount ∈ zG := List.mem_of_getElem? (i := 930) (by decide +kernel)
theorem zq_949 : Cond.methodLink RX11 173 yX6_takeBack ∈ zG := List.mem_of_getElem? (i := 949) (by decide +kernel)
theorem zq_962 : Cond.fieldLink RX11 180 "ForeignKnit$Notes" "stale" "Z" ∈ zG := List.mem_of_getElem? (i := 962) (by decide +kernel)
theorem zq_963 : Cond.fieldLink RX11 189 "ForeignKnit$Notes" "impossible" "I" ∈ zG := List.mem_of_getElem? (i := 963) (by decide +kernel)
theorem zq_964 : Cond.fieldLink RX11 192 "ForeignKnit$Notes" "stuck" "I" ∈ zG := List.mem_of_getElem? (i := 964) (by decide +kernel)
theorem zq_965 : Cond.fieldLink RX11 195 "ForeignKnit$Notes" "left" "I" ∈ zG := List.mem_of_getElem? (i := 965) (by decide +kernel)
theorem zq_966 : Cond.methodLink RX11 181 yX11_laidShelf ∈ zG := List.mem_of_getElem? (i := 966) (by decide +kernel)
theorem zq_970 : Cond.methodLink RX11 365 yX8_lay ∈ zG := List.mem_of_getElem? (i := 970) (by decide +kernel)
theorem zq_1018 : Cond.methodLink RX11 185 yX5_judge ∈ zG := List.mem_of_getElem? (i := 1018) (by decide +kernel)
theorem zq_1104 : Cond.fieldLink RX11 201 "ForeignKnit$Shelf" "fitting" "I" ∈ zG := List.mem_of_getElem? (i := 1104) (by decide +kernel)
theorem zq_1105 : Cond.methodLink RX11 198 yX11_readyShelf ∈ zG := List.mem_of_getElem? (i := 1105) (by decide +kernel)
theorem zq_1109 : Cond.methodLink RX11 368 yX8_choose ∈ zG := List.mem_of_getElem? (i := 1109) (by decide +kernel)
theorem zq_1122 : Cond.fieldLink RX11 204 "ForeignKnit$Shelf" "fit" "[I" ∈ zG := List.mem_of_getElem? (i := 1122) (by decide +kernel)
theorem zq_1123 : Cond.methodLink RX11 207 yX8_meaningIn ∈ zG := List.mem_of_getElem? (i := 1123) (by decide +kernel)
theorem zq_1132 : Cond.methodLink RX11 210 yX11_talliedWord ∈ zG := List.mem_of_getElem? (i := 1132) (by decide +kernel)
theorem zq_1136 : Cond.methodLink RX11 371 yX8_tallyWord ∈ zG := List.mem_of_getElem? (i := 1136) (by decide +kernel)
theorem zq_1150 : Cond.methodLink RX11 214 yX9_bits ∈ zG := List.mem_of_getElem? (i := 1150) (by decide +kernel)
theorem zq_1162 : Cond.methodLink RX11 218 yX9_only ∈ zG := List.mem_of_getElem? (i := 1162) (by decide +kernel)
theorem zq_1194 : Cond.methodLink RX11 224 yX9_of ∈ zG := List.mem_of_getElem? (i := 1194) (by decide +kernel)
theorem zq_1206 : Cond.methodLink RX11 227 yX11_talliedRow ∈ zG := List.mem_of_getElem? (i := 1206) (by decide +kernel)
theorem zq_1210 : Cond.methodLink RX11 375 yX8_tallyRow ∈ zG := List.mem_of_getElem? (i := 1210) (by decide +kernel)
theorem zq_1215 : Cond.methodLink RX11 230 yX9_lowest ∈ zG := List.mem_of_getElem? (i := 1215) (by decide +kernel)
theorem zq_1228 : Cond.methodLink RX11 233 yX9_highest ∈ zG := List.mem_of_getElem? (i := 1228) (by decide +kernel)
theorem zq_1241 : Cond.methodLink RX11 236 yX9_differing ∈ zG := List.mem_of_getElem? (i := 1241) (by decide +kernel)
theorem zq_1273 : Cond.methodLink RX11 242 yX9_greatest ∈ zG := List.mem_of_getElem? (i := 1273) (by decide +kernel)
theorem zq_1294 : Cond.methodLink RX11 245 yX3_allGuessed ∈ zG := List.mem_of_getElem? (i := 1294) (by decide +kernel)
theorem zq_1303 : Cond.methodLink RX11 248 yX3_packed ∈ zG := List.mem_of_getElem? (i := 1303) (by decide +kernel)
theorem zq_1308 : Cond.methodLink RX11 251 yX0_leavesOf ∈ zG := List.mem_of_getElem? (i := 1308) (by decide +kernel)
theorem zq_1309 : Cond.methodLink RX11 254 yX0_excess ∈ zG := List.mem_of_getElem? (i := 1309) (by decide +kernel)
theorem zq_1329 : Cond.methodLink RX11 257 yX11_bad ∈ zG := List.mem_of_getElem? (i := 1329) (by decide +kernel)
theorem zq_1346 : Cond.methodLink RX11 260 yX8_alwaysSame ∈ zG := List.mem_of_getElem? (i := 1346) (by decide +kernel)
theorem zq_1366 : Cond.methodLink RX11 263 yX8_fewestMissed ∈ zG := List.mem_of_getElem? (i := 1366) (by decide +kernel)
theorem zq_1384 : Cond.fieldLink RX11 271 "ForeignKnit$Misprints" "ways" "I" ∈ zG := List.mem_of_getElem? (i := 1384) (by decide +kernel)
theorem zq_1385 : Cond.methodLink RX11 267 yX11_knownSlips ∈ zG := List.mem_of_getElem? (i := 1385) (by decide +kernel)
theorem zq_1389 : Cond.methodLink RX11 378 yX4_find ∈ zG := List.mem_of_getElem? (i := 1389) (by decide +kernel)
theorem zq_1456 : Cond.fieldLink RX11 274 "ForeignKnit$Misprints" "row" "I" ∈ zG := List.mem_of_getElem? (i := 1456) (by decide +kernel)
theorem zq_1457 : Cond.fieldLink RX11 277 "ForeignKnit$Misprints" "place" "I" ∈ zG := List.mem_of_getElem? (i := 1457) (by decide +kernel)
theorem zq_1458 : Cond.fieldLink RX11 280 "ForeignKnit$Misprints" "word" "I" ∈ zG := List.mem_of_getElem? (i := 1458) (by decide +kernel)
theorem zq_1467 : Cond.methodLink RX11 283 yX0_sameTurned ∈ zG := List.mem_of_getElem? (i := 1467) (by decide +kernel)
theorem zq_1479 : Cond.methodLink RX11 286 yX0_sameShape ∈ zG := List.mem_of_getElem? (i := 1479) (by decide +kernel)
theorem zq_1491 : Cond.methodLink RX11 289 yX8_neededCounts ∈ zG := List.mem_of_getElem? (i := 1491) (by decide +kernel)
theorem zq_1495 : Cond.methodLink RX11 292 yX3_countBits ∈ zG := List.mem_of_getElem? (i := 1495) (by decide +kernel)
theorem zq_1499 : Cond.methodLink RX11 295 yJ6_bitCount_0f7a4 ∈ zG := List.mem_of_getElem? (i := 1499) (by decide +kernel)
theorem zq_1508 : Cond.methodLink RX11 300 yX8_heldBackBy ∈ zG := List.mem_of_getElem? (i := 1508) (by decide +kernel)
theorem zq_1521 : Cond.constantLong RX11 307 (1000000) ∈ zG := List.mem_of_getElem? (i := 1521) (by decide +kernel)
theorem zq_1522 : Cond.methodLink RX11 304 yX9_from ∈ zG := List.mem_of_getElem? (i := 1522) (by decide +kernel)
theorem zq_1548 : Cond.methodLink RX11 400 yX11_gain ∈ zG := List.mem_of_getElem? (i := 1548) (by decide +kernel)
theorem zq_1566 : Cond.constantLong RX11 326 (1103515245) ∈ zG := List.mem_of_getElem? (i := 1566) (by decide +kernel)
theorem zq_1567 : Cond.constantLong RX11 328 (12345) ∈ zG := List.mem_of_getElem? (i := 1567) (by decide +kernel)
theorem zq_1568 : Cond.constantLong RX11 330 (2147483648) ∈ zG := List.mem_of_getElem? (i := 1568) (by decide +kernel)
theorem zq_1569 : Cond.constantLong RX11 332 (65536) ∈ zG := List.mem_of_getElem? (i := 1569) (by decide +kernel)
theorem zq_1570 : Cond.methodLink RX11 323 yX0_dictionaries ∈ zG := List.mem_of_getElem? (i := 1570) (by decide +kernel)
theorem zq_1571 : Cond.methodLink RX11 334 yX0_meaningBelow ∈ zG := List.mem_of_getElem? (i := 1571) (by decide +kernel)
theorem zq_1575 : Cond.methodLink RX11 338 yX0_rowsDown ∈ zG := List.mem_of_getElem? (i := 1575) (by decide +kernel)
theorem zq_1576 : Cond.methodLink RX11 341 yX3_agrees ∈ zG := List.mem_of_getElem? (i := 1576) (by decide +kernel)
theorem zq_1602 : Cond.methodLink RX11 345 yX3_copy ∈ zG := List.mem_of_getElem? (i := 1602) (by decide +kernel)
theorem zfd_X11_57 : zFd RX11 57 11 7 := ⟨_, rfl, by decide, zq_40⟩
theorem zfd_X11_110 : zFd RX11 110 8 0 := ⟨_, rfl, by decide, zq_259⟩
theorem zfd_X11_114 : zFd RX11 114 8 1 := ⟨_, rfl, by decide, zq_260⟩
theorem zfd_X11_117 : zFd RX11 117 4 0 := ⟨_, rfl, by decide, zq_261⟩
theorem zfd_X11_127 : zFd RX11 127 0 2 := ⟨_, rfl, by decide, zq_753⟩
theorem zfd_X11_135 : zFd RX11 135 0 4 := ⟨_, rfl, by decide, zq_754⟩
theorem zfd_X11_138 : zFd RX11 138 0 3 := ⟨_, rfl, by decide, zq_755⟩
theorem zfd_X11_144 : zFd RX11 144 0 8 := ⟨_, rfl, by decide, zq_780⟩
theorem zfd_X11_180 : zFd RX11 180 5 1 := ⟨_, rfl, by decide, zq_962⟩
theorem zfd_X11_189 : zFd RX11 189 5 2 := ⟨_, rfl, by decide, zq_963⟩
theorem zfd_X11_192 : zFd RX11 192 5 3 := ⟨_, rfl, by decide, zq_964⟩
theorem zfd_X11_195 : zFd RX11 195 5 4 := ⟨_, rfl, by decide, zq_965⟩
theorem zfd_X11_201 : zFd RX11 201 8 3 := ⟨_, rfl, by decide, zq_1104⟩
theorem zfd_X11_204 : zFd RX11 204 8 5 := ⟨_, rfl, by decide, zq_1122⟩
theorem zfd_X11_221 : zFd RX11 221 0 0 := ⟨_, rfl, by decide, zq_760⟩
theorem zfd_X11_239 : zFd RX11 239 0 7 := ⟨_, rfl, by decide, zq_785⟩
theorem zfd_X11_271 : zFd RX11 271 4 1 := ⟨_, rfl, by decide, zq_1384⟩
theorem zfd_X11_274 : zFd RX11 274 4 2 := ⟨_, rfl, by decide, zq_1456⟩
theorem zfd_X11_277 : zFd RX11 277 4 3 := ⟨_, rfl, by decide, zq_1457⟩
theorem zfd_X11_280 : zFd RX11 280 4 4 := ⟨_, rfl, by decide, zq_1458⟩
theorem zfd_X11_382 : zFd RX11 382 0 12 := ⟨_, rfl, by decide, zq_801⟩
theorem zfd_X11_385 : zFd RX11 385 11 13 := ⟨_, rfl, by decide, zq_802⟩
theorem zfd_X11_392 : zFd RX11 392 0 9 := ⟨_, rfl, by decide, zq_806⟩
theorem zfp_X11_385 : zFp RX11 385 11 13 (.object "ForeignKnit$Brief") := ⟨_, rfl, by decide, zq_802, rfl, by decide +kernel⟩
theorem zq_793 : Cond.code yX0_beat cX0_beat 4 (some .int) ∈ zG := List.mem_of_getElem? (i := 793) (by decide +kernel)
theorem zq_791 : Cond.instanceMethod yX0_beat ∈ zG := List.mem_of_getElem? (i := 791) (by decide +kernel)
theorem zq_792 : Cond.selects RX0 yX0_beat yX0_beat ∈ zG := List.mem_of_getElem? (i := 792) (by decide +kernel)
theorem zy_X0_beat : zyV yX0_beat cX0_beat 4 (some .int) 1 := ⟨zq_793, zq_791, zq_792, zq_47, ⟨by decide, by decide⟩, by decide +kernel, by decide⟩
theorem zq_1574 : Cond.code yX0_meaningBelow cX0_meaningBelow 6 (some .int) ∈ zG := List.mem_of_getElem? (i := 1574) (by decide +kernel)
theorem zq_1572 : Cond.instanceMethod yX0_meaningBelow ∈ zG := List.mem_of_getElem? (i := 1572) (by decide +kernel)
theorem zq_1573 : Cond.selects RX0 yX0_meaningBelow yX0_meaningBelow ∈ zG := List.mem_of_getElem? (i := 1573) (by decide +kernel)
theorem zy_X0_meaningBelow : zyV yX0_meaningBelow cX0_meaningBelow 6 (some .int) 2 := ⟨zq_1574, zq_1572, zq_1573, zq_47, ⟨by decide, by decide⟩, by decide +kernel, by decide⟩
theorem zq_1482 : Cond.code yX0_sameShape cX0_sameShape 6 (some .boolean) ∈ zG := List.mem_of_getElem? (i := 1482) (by decide +kernel)
theorem zq_1480 : Cond.instanceMethod yX0_sameShape ∈ zG := List.mem_of_getElem? (i := 1480) (by decide +kernel)
theorem zq_1481 : Cond.selects RX0 yX0_sameShape yX0_sameShape ∈ zG := List.mem_of_getElem? (i := 1481) (by decide +kernel)
theorem zy_X0_sameShape : zyV yX0_sameShape cX0_sameShape 6 (some .boolean) 2 := ⟨zq_1482, zq_1480, zq_1481, zq_47, ⟨by decide, by decide⟩, by decide +kernel, by decide⟩
theorem zq_1470 : Cond.code yX0_sameTurned cX0_sameTurned 4 (some .boolean) ∈ zG := List.mem_of_getElem? (i := 1470) (by decide +kernel)
theorem zq_1468 : Cond.instanceMethod yX0_sameTurned ∈ zG := List.mem_of_getElem? (i := 1468) (by decide +kernel)
theorem zq_1469 : Cond.selects RX0 yX0_sameTurned yX0_sameTurned ∈ zG := List.mem_of_getElem? (i := 1469) (by decide +kernel)
theorem zy_X0_sameTurned : zyV yX0_sameTurned cX0_sameTurned 4 (some .boolean) 1 := ⟨zq_1470, zq_1468, zq_1469, zq_47, ⟨by decide, by decide⟩, by decide +kernel, by decide⟩
theorem zq_1293 : Cond.code yX11_bad cX11_bad 5 (some .int) ∈ zG := List.mem_of_getElem? (i := 1293) (by decide +kernel)
theorem zq_1291 : Cond.instanceMethod yX11_bad ∈ zG := List.mem_of_getElem? (i := 1291) (by decide +kernel)
theorem zq_1292 : Cond.selects RX11 yX11_bad yX11_bad ∈ zG := List.mem_of_getElem? (i := 1292) (by decide +kernel)
theorem zq_2 : Cond.initialized RX11 ∈ zG := List.mem_of_getElem? (i := 2) (by decide +kernel)
theorem zy_X11_bad : zyV yX11_bad cX11_bad 5 (some .int) 0 := ⟨zq_1293, zq_1291, zq_1292, zq_2, ⟨by decide, by decide⟩, by decide +kernel, by decide⟩
theorem zq_800 : Cond.code yX11_briefOf cX11_briefOf 2 (some .int) ∈ zG := List.mem_of_getElem? (i := 800) (by decide +kernel)
theorem zq_798 : Cond.instanceMethod yX11_briefOf ∈ zG := List.mem_of_getElem? (i := 798) (by decide +kernel)
theorem zq_799 : Cond.selects RX11 yX11_briefOf yX11_briefOf ∈ zG := List.mem_of_getElem? (i := 799) (by decide +kernel)
theorem zy_X11_briefOf : zyV yX11_briefOf cX11_briefOf 2 (some .int) 1 := ⟨zq_800, zq_798, zq_799, zq_2, ⟨by decide, by decide⟩, by decide +kernel, by decide⟩
theorem zq_883 : Cond.code yX11_change cX11_change 4 (some .int) ∈ zG := List.mem_of_getElem? (i := 883) (by decide +kernel)
theorem zq_881 : Cond.instanceMethod yX11_change ∈ zG := List.mem_of_getElem? (i := 881) (by decide +kernel)
theorem zq_882 : Cond.selects RX11 yX11_change yX11_change ∈ zG := List.mem_of_getElem? (i := 882) (by decide +kernel)
theorem zy_X11_change : zyV yX11_change cX11_change 4 (some .int) 2 := ⟨zq_883, zq_881, zq_882, zq_2, ⟨by decide, by decide⟩, by decide +kernel, by decide⟩
theorem zq_901 : Cond.code yX11_handChanged cX11_handChanged 1 none ∈ zG := List.mem_of_getElem? (i := 901) (by decide +kernel)
theorem zq_899 : Cond.instanceMethod yX11_handChanged ∈ zG := List.mem_of_getElem? (i := 899) (by decide +kernel)
theorem zq_900 : Cond.selects RX11 yX11_handChanged yX11_handChanged ∈ zG := List.mem_of_getElem? (i := 900) (by decide +kernel)
theorem zy_X11_handChanged : zyV yX11_handChanged cX11_handChanged 1 none 0 := ⟨zq_901, zq_899, zq_900, zq_2, ⟨by decide, by decide⟩, by decide +kernel, by decide⟩
theorem zq_784 : Cond.code yX11_isRow cX11_isRow 2 (some .boolean) ∈ zG := List.mem_of_getElem? (i := 784) (by decide +kernel)
theorem zq_782 : Cond.instanceMethod yX11_isRow ∈ zG := List.mem_of_getElem? (i := 782) (by decide +kernel)
theorem zq_783 : Cond.selects RX11 yX11_isRow yX11_isRow ∈ zG := List.mem_of_getElem? (i := 783) (by decide +kernel)
theorem zy_X11_isRow : zyV yX11_isRow cX11_isRow 2 (some .boolean) 1 := ⟨zq_784, zq_782, zq_783, zq_2, ⟨by decide, by decide⟩, by decide +kernel, by decide⟩
theorem zq_759 : Cond.code yX11_isWord cX11_isWord 2 (some .boolean) ∈ zG := List.mem_of_getElem? (i := 759) (by decide +kernel)
theorem zq_757 : Cond.instanceMethod yX11_isWord ∈ zG := List.mem_of_getElem? (i := 757) (by decide +kernel)
theorem zq_758 : Cond.selects RX11 yX11_isWord yX11_isWord ∈ zG := List.mem_of_getElem? (i := 758) (by decide +kernel)
theorem zy_X11_isWord : zyV yX11_isWord cX11_isWord 2 (some .boolean) 1 := ⟨zq_759, zq_757, zq_758, zq_2, ⟨by decide, by decide⟩, by decide +kernel, by decide⟩
theorem zq_1388 : Cond.code yX11_knownSlips cX11_knownSlips 1 (some (.object "ForeignKnit$Misprints")) ∈ zG := List.mem_of_getElem? (i := 1388) (by decide +kernel)
theorem zq_1386 : Cond.instanceMethod yX11_knownSlips ∈ zG := List.mem_of_getElem? (i := 1386) (by decide +kernel)
theorem zq_1387 : Cond.selects RX11 yX11_knownSlips yX11_knownSlips ∈ zG := List.mem_of_getElem? (i := 1387) (by decide +kernel)
theorem zy_X11_knownSlips : zyV yX11_knownSlips cX11_knownSlips 1 (some (.object "ForeignKnit$Misprints")) 0 := ⟨zq_1388, zq_1386, zq_1387, zq_2, ⟨by decide, by decide⟩, by decide +kernel, by decide⟩
theorem zq_969 : Cond.code yX11_laidShelf cX11_laidShelf 1 (some (.object "ForeignKnit$Shelf")) ∈ zG := List.mem_of_getElem? (i := 969) (by decide +kernel)
theorem zq_967 : Cond.instanceMethod yX11_laidShelf ∈ zG := List.mem_of_getElem? (i := 967) (by decide +kernel)
theorem zq_968 : Cond.selects RX11 yX11_laidShelf yX11_laidShelf ∈ zG := List.mem_of_getElem? (i := 968) (by decide +kernel)
theorem zy_X11_laidShelf : zyV yX11_laidShelf cX11_laidShelf 1 (some (.object "ForeignKnit$Shelf")) 0 := ⟨zq_969, zq_967, zq_968, zq_2, ⟨by decide, by decide⟩, by decide +kernel, by decide⟩
theorem zq_1108 : Cond.code yX11_readyShelf cX11_readyShelf 2 (some (.object "ForeignKnit$Shelf")) ∈ zG := List.mem_of_getElem? (i := 1108) (by decide +kernel)
theorem zq_1106 : Cond.instanceMethod yX11_readyShelf ∈ zG := List.mem_of_getElem? (i := 1106) (by decide +kernel)
theorem zq_1107 : Cond.selects RX11 yX11_readyShelf yX11_readyShelf ∈ zG := List.mem_of_getElem? (i := 1107) (by decide +kernel)
theorem zy_X11_readyShelf : zyV yX11_readyShelf cX11_readyShelf 2 (some (.object "ForeignKnit$Shelf")) 0 := ⟨zq_1108, zq_1106, zq_1107, zq_2, ⟨by decide, by decide⟩, by decide +kernel, by decide⟩
theorem zq_1209 : Cond.code yX11_talliedRow cX11_talliedRow 2 (some (.object "ForeignKnit$Tally")) ∈ zG := List.mem_of_getElem? (i := 1209) (by decide +kernel)
theorem zq_1207 : Cond.instanceMethod yX11_talliedRow ∈ zG := List.mem_of_getElem? (i := 1207) (by decide +kernel)
theorem zq_1208 : Cond.selects RX11 yX11_talliedRow yX11_talliedRow ∈ zG := List.mem_of_getElem? (i := 1208) (by decide +kernel)
theorem zy_X11_talliedRow : zyV yX11_talliedRow cX11_talliedRow 2 (some (.object "ForeignKnit$Tally")) 1 := ⟨zq_1209, zq_1207, zq_1208, zq_2, ⟨by decide, by decide⟩, by decide +kernel, by decide⟩
theorem zq_1135 : Cond.code yX11_talliedWord cX11_talliedWord 2 (some (.object "ForeignKnit$Tally")) ∈ zG := List.mem_of_getElem? (i := 1135) (by decide +kernel)
theorem zq_1133 : Cond.instanceMethod yX11_talliedWord ∈ zG := List.mem_of_getElem? (i := 1133) (by decide +kernel)
theorem zq_1134 : Cond.selects RX11 yX11_talliedWord yX11_talliedWord ∈ zG := List.mem_of_getElem? (i := 1134) (by decide +kernel)
theorem zy_X11_talliedWord : zyV yX11_talliedWord cX11_talliedWord 2 (some (.object "ForeignKnit$Tally")) 1 := ⟨zq_1135, zq_1133, zq_1134, zq_2, ⟨by decide, by decide⟩, by decide +kernel, by decide⟩
theorem zq_815 : Cond.code yX2_fewest cX2_fewest 7 (some .int) ∈ zG := List.mem_of_getElem? (i := 815) (by decide +kernel)
theorem zq_813 : Cond.instanceMethod yX2_fewest ∈ zG := List.mem_of_getElem? (i := 813) (by decide +kernel)
theorem zq_814 : Cond.selects RX2 yX2_fewest yX2_fewest ∈ zG := List.mem_of_getElem? (i := 814) (by decide +kernel)
theorem zy_X2_fewest : zyV yX2_fewest cX2_fewest 7 (some .int) 2 := ⟨zq_815, zq_813, zq_814, zq_805, ⟨by decide, by decide⟩, by decide +kernel, by decide⟩
theorem zq_1297 : Cond.code yX3_allGuessed cX3_allGuessed 2 (some .boolean) ∈ zG := List.mem_of_getElem? (i := 1297) (by decide +kernel)
theorem zq_1295 : Cond.instanceMethod yX3_allGuessed ∈ zG := List.mem_of_getElem? (i := 1295) (by decide +kernel)
theorem zq_1296 : Cond.selects RX3 yX3_allGuessed yX3_allGuessed ∈ zG := List.mem_of_getElem? (i := 1296) (by decide +kernel)
theorem zy_X3_allGuessed : zyV yX3_allGuessed cX3_allGuessed 2 (some .boolean) 1 := ⟨zq_1297, zq_1295, zq_1296, zq_24, ⟨by decide, by decide⟩, by decide +kernel, by decide⟩
theorem zq_1605 : Cond.code yX3_copy cX3_copy 2 none ∈ zG := List.mem_of_getElem? (i := 1605) (by decide +kernel)
theorem zq_1603 : Cond.instanceMethod yX3_copy ∈ zG := List.mem_of_getElem? (i := 1603) (by decide +kernel)
theorem zq_1604 : Cond.selects RX3 yX3_copy yX3_copy ∈ zG := List.mem_of_getElem? (i := 1604) (by decide +kernel)
theorem zy_X3_copy : zyV yX3_copy cX3_copy 2 none 1 := ⟨zq_1605, zq_1603, zq_1604, zq_24, ⟨by decide, by decide⟩, by decide +kernel, by decide⟩
theorem zq_1498 : Cond.code yX3_countBits cX3_countBits 3 (some .int) ∈ zG := List.mem_of_getElem? (i := 1498) (by decide +kernel)
theorem zq_1496 : Cond.instanceMethod yX3_countBits ∈ zG := List.mem_of_getElem? (i := 1496) (by decide +kernel)
theorem zq_1497 : Cond.selects RX3 yX3_countBits yX3_countBits ∈ zG := List.mem_of_getElem? (i := 1497) (by decide +kernel)
theorem zy_X3_countBits : zyV yX3_countBits cX3_countBits 3 (some .int) 0 := ⟨zq_1498, zq_1496, zq_1497, zq_24, ⟨by decide, by decide⟩, by decide +kernel, by decide⟩
theorem zq_1306 : Cond.code yX3_packed cX3_packed 3 (some .int) ∈ zG := List.mem_of_getElem? (i := 1306) (by decide +kernel)
theorem zq_1304 : Cond.instanceMethod yX3_packed ∈ zG := List.mem_of_getElem? (i := 1304) (by decide +kernel)
theorem zq_1305 : Cond.selects RX3 yX3_packed yX3_packed ∈ zG := List.mem_of_getElem? (i := 1305) (by decide +kernel)
theorem zy_X3_packed : zyV yX3_packed cX3_packed 3 (some .int) 0 := ⟨zq_1306, zq_1304, zq_1305, zq_24, ⟨by decide, by decide⟩, by decide +kernel, by decide⟩
theorem zq_1392 : Cond.code yX4_find cX4_find 6 none ∈ zG := List.mem_of_getElem? (i := 1392) (by decide +kernel)
theorem zq_1390 : Cond.instanceMethod yX4_find ∈ zG := List.mem_of_getElem? (i := 1390) (by decide +kernel)
theorem zq_1391 : Cond.selects RX4 yX4_find yX4_find ∈ zG := List.mem_of_getElem? (i := 1391) (by decide +kernel)
theorem zy_X4_find : zyV yX4_find cX4_find 6 none 3 := ⟨zq_1392, zq_1390, zq_1391, zq_43, ⟨by decide, by decide⟩, by decide +kernel, by decide⟩
theorem zq_1021 : Cond.code yX5_judge cX5_judge 4 none ∈ zG := List.mem_of_getElem? (i := 1021) (by decide +kernel)
theorem zq_1019 : Cond.instanceMethod yX5_judge ∈ zG := List.mem_of_getElem? (i := 1019) (by decide +kernel)
theorem zq_1020 : Cond.selects RX5 yX5_judge yX5_judge ∈ zG := List.mem_of_getElem? (i := 1020) (by decide +kernel)
theorem zy_X5_judge : zyV yX5_judge cX5_judge 4 none 2 := ⟨zq_1021, zq_1019, zq_1020, zq_52, ⟨by decide, by decide⟩, by decide +kernel, by decide⟩
theorem zq_895 : Cond.code yX6_keep cX6_keep 3 none ∈ zG := List.mem_of_getElem? (i := 895) (by decide +kernel)
theorem zq_893 : Cond.instanceMethod yX6_keep ∈ zG := List.mem_of_getElem? (i := 893) (by decide +kernel)
theorem zq_894 : Cond.selects RX6 yX6_keep yX6_keep ∈ zG := List.mem_of_getElem? (i := 894) (by decide +kernel)
theorem zy_X6_keep : zyV yX6_keep cX6_keep 3 none 2 := ⟨zq_895, zq_893, zq_894, zq_31, ⟨by decide, by decide⟩, by decide +kernel, by decide⟩
theorem zq_952 : Cond.code yX6_takeBack cX6_takeBack 2 (some .boolean) ∈ zG := List.mem_of_getElem? (i := 952) (by decide +kernel)
theorem zq_950 : Cond.instanceMethod yX6_takeBack ∈ zG := List.mem_of_getElem? (i := 950) (by decide +kernel)
theorem zq_951 : Cond.selects RX6 yX6_takeBack yX6_takeBack ∈ zG := List.mem_of_getElem? (i := 951) (by decide +kernel)
theorem zy_X6_takeBack : zyV yX6_takeBack cX6_takeBack 2 (some .boolean) 1 := ⟨zq_952, zq_950, zq_951, zq_31, ⟨by decide, by decide⟩, by decide +kernel, by decide⟩
theorem zq_1349 : Cond.code yX8_alwaysSame cX8_alwaysSame 4 (some .boolean) ∈ zG := List.mem_of_getElem? (i := 1349) (by decide +kernel)
theorem zq_1347 : Cond.instanceMethod yX8_alwaysSame ∈ zG := List.mem_of_getElem? (i := 1347) (by decide +kernel)
theorem zq_1348 : Cond.selects RX8 yX8_alwaysSame yX8_alwaysSame ∈ zG := List.mem_of_getElem? (i := 1348) (by decide +kernel)
theorem zy_X8_alwaysSame : zyV yX8_alwaysSame cX8_alwaysSame 4 (some .boolean) 2 := ⟨zq_1349, zq_1347, zq_1348, zq_35, ⟨by decide, by decide⟩, by decide +kernel, by decide⟩
theorem zq_1112 : Cond.code yX8_choose cX8_choose 3 none ∈ zG := List.mem_of_getElem? (i := 1112) (by decide +kernel)
theorem zq_1110 : Cond.instanceMethod yX8_choose ∈ zG := List.mem_of_getElem? (i := 1110) (by decide +kernel)
theorem zq_1111 : Cond.selects RX8 yX8_choose yX8_choose ∈ zG := List.mem_of_getElem? (i := 1111) (by decide +kernel)
theorem zy_X8_choose : zyV yX8_choose cX8_choose 3 none 1 := ⟨zq_1112, zq_1110, zq_1111, zq_35, ⟨by decide, by decide⟩, by decide +kernel, by decide⟩
theorem zq_1369 : Cond.code yX8_fewestMissed cX8_fewestMissed 5 (some .int) ∈ zG := List.mem_of_getElem? (i := 1369) (by decide +kernel)
theorem zq_1367 : Cond.instanceMethod yX8_fewestMissed ∈ zG := List.mem_of_getElem? (i := 1367) (by decide +kernel)
theorem zq_1368 : Cond.selects RX8 yX8_fewestMissed yX8_fewestMissed ∈ zG := List.mem_of_getElem? (i := 1368) (by decide +kernel)
theorem zy_X8_fewestMissed : zyV yX8_fewestMissed cX8_fewestMissed 5 (some .int) 1 := ⟨zq_1369, zq_1367, zq_1368, zq_35, ⟨by decide, by decide⟩, by decide +kernel, by decide⟩
theorem zq_1511 : Cond.code yX8_heldBackBy cX8_heldBackBy 5 (some .int) ∈ zG := List.mem_of_getElem? (i := 1511) (by decide +kernel)
theorem zq_1509 : Cond.instanceMethod yX8_heldBackBy ∈ zG := List.mem_of_getElem? (i := 1509) (by decide +kernel)
theorem zq_1510 : Cond.selects RX8 yX8_heldBackBy yX8_heldBackBy ∈ zG := List.mem_of_getElem? (i := 1510) (by decide +kernel)
theorem zy_X8_heldBackBy : zyV yX8_heldBackBy cX8_heldBackBy 5 (some .int) 2 := ⟨zq_1511, zq_1509, zq_1510, zq_35, ⟨by decide, by decide⟩, by decide +kernel, by decide⟩
theorem zq_973 : Cond.code yX8_lay cX8_lay 5 none ∈ zG := List.mem_of_getElem? (i := 973) (by decide +kernel)
theorem zq_971 : Cond.instanceMethod yX8_lay ∈ zG := List.mem_of_getElem? (i := 971) (by decide +kernel)
theorem zq_972 : Cond.selects RX8 yX8_lay yX8_lay ∈ zG := List.mem_of_getElem? (i := 972) (by decide +kernel)
theorem zy_X8_lay : zyV yX8_lay cX8_lay 5 none 1 := ⟨zq_973, zq_971, zq_972, zq_35, ⟨by decide, by decide⟩, by decide +kernel, by decide⟩
theorem zq_1494 : Cond.code yX8_neededCounts cX8_neededCounts 5 (some .int) ∈ zG := List.mem_of_getElem? (i := 1494) (by decide +kernel)
theorem zq_1492 : Cond.instanceMethod yX8_neededCounts ∈ zG := List.mem_of_getElem? (i := 1492) (by decide +kernel)
theorem zq_1493 : Cond.selects RX8 yX8_neededCounts yX8_neededCounts ∈ zG := List.mem_of_getElem? (i := 1493) (by decide +kernel)
theorem zy_X8_neededCounts : zyV yX8_neededCounts cX8_neededCounts 5 (some .int) 1 := ⟨zq_1494, zq_1492, zq_1493, zq_35, ⟨by decide, by decide⟩, by decide +kernel, by decide⟩
theorem zq_1213 : Cond.code yX8_tallyRow cX8_tallyRow 4 none ∈ zG := List.mem_of_getElem? (i := 1213) (by decide +kernel)
theorem zq_1211 : Cond.instanceMethod yX8_tallyRow ∈ zG := List.mem_of_getElem? (i := 1211) (by decide +kernel)
theorem zq_1212 : Cond.selects RX8 yX8_tallyRow yX8_tallyRow ∈ zG := List.mem_of_getElem? (i := 1212) (by decide +kernel)
theorem zy_X8_tallyRow : zyV yX8_tallyRow cX8_tallyRow 4 none 2 := ⟨zq_1213, zq_1211, zq_1212, zq_35, ⟨by decide, by decide⟩, by decide +kernel, by decide⟩
theorem zq_1139 : Cond.code yX8_tallyWord cX8_tallyWord 4 none ∈ zG := List.mem_of_getElem? (i := 1139) (by decide +kernel)
theorem zq_1137 : Cond.instanceMethod yX8_tallyWord ∈ zG := List.mem_of_getElem? (i := 1137) (by decide +kernel)
theorem zq_1138 : Cond.selects RX8 yX8_tallyWord yX8_tallyWord ∈ zG := List.mem_of_getElem? (i := 1138) (by decide +kernel)
theorem zy_X8_tallyWord : zyV yX8_tallyWord cX8_tallyWord 4 none 2 := ⟨zq_1139, zq_1137, zq_1138, zq_35, ⟨by decide, by decide⟩, by decide +kernel, by decide⟩
theorem zq_1153 : Cond.code yX9_bits cX9_bits 3 (some .int) ∈ zG := List.mem_of_getElem? (i := 1153) (by decide +kernel)
theorem zq_1151 : Cond.instanceMethod yX9_bits ∈ zG := List.mem_of_getElem? (i := 1151) (by decide +kernel)
theorem zq_1152 : Cond.selects RX9 yX9_bits yX9_bits ∈ zG := List.mem_of_getElem? (i := 1152) (by decide +kernel)
theorem zy_X9_bits : zyV yX9_bits cX9_bits 3 (some .int) 0 := ⟨zq_1153, zq_1151, zq_1152, zq_39, ⟨by decide, by decide⟩, by decide +kernel, by decide⟩
theorem zq_1244 : Cond.code yX9_differing cX9_differing 3 (some .int) ∈ zG := List.mem_of_getElem? (i := 1244) (by decide +kernel)
theorem zq_1242 : Cond.instanceMethod yX9_differing ∈ zG := List.mem_of_getElem? (i := 1242) (by decide +kernel)
theorem zq_1243 : Cond.selects RX9 yX9_differing yX9_differing ∈ zG := List.mem_of_getElem? (i := 1243) (by decide +kernel)
theorem zy_X9_differing : zyV yX9_differing cX9_differing 3 (some .int) 0 := ⟨zq_1244, zq_1242, zq_1243, zq_39, ⟨by decide, by decide⟩, by decide +kernel, by decide⟩
theorem zq_1525 : Cond.code yX9_from cX9_from 4 (some .int) ∈ zG := List.mem_of_getElem? (i := 1525) (by decide +kernel)
theorem zq_1523 : Cond.instanceMethod yX9_from ∈ zG := List.mem_of_getElem? (i := 1523) (by decide +kernel)
theorem zq_1524 : Cond.selects RX9 yX9_from yX9_from ∈ zG := List.mem_of_getElem? (i := 1524) (by decide +kernel)
theorem zy_X9_from : zyV yX9_from cX9_from 4 (some .int) 1 := ⟨zq_1525, zq_1523, zq_1524, zq_39, ⟨by decide, by decide⟩, by decide +kernel, by decide⟩
theorem zq_1276 : Cond.code yX9_greatest cX9_greatest 3 (some .int) ∈ zG := List.mem_of_getElem? (i := 1276) (by decide +kernel)
theorem zq_1274 : Cond.instanceMethod yX9_greatest ∈ zG := List.mem_of_getElem? (i := 1274) (by decide +kernel)
theorem zq_1275 : Cond.selects RX9 yX9_greatest yX9_greatest ∈ zG := List.mem_of_getElem? (i := 1275) (by decide +kernel)
theorem zy_X9_greatest : zyV yX9_greatest cX9_greatest 3 (some .int) 0 := ⟨zq_1276, zq_1274, zq_1275, zq_39, ⟨by decide, by decide⟩, by decide +kernel, by decide⟩
theorem zq_1197 : Cond.code yX9_of cX9_of 2 (some .int) ∈ zG := List.mem_of_getElem? (i := 1197) (by decide +kernel)
theorem zq_1195 : Cond.instanceMethod yX9_of ∈ zG := List.mem_of_getElem? (i := 1195) (by decide +kernel)
theorem zq_1196 : Cond.selects RX9 yX9_of yX9_of ∈ zG := List.mem_of_getElem? (i := 1196) (by decide +kernel)
theorem zy_X9_of : zyV yX9_of cX9_of 2 (some .int) 1 := ⟨zq_1197, zq_1195, zq_1196, zq_39, ⟨by decide, by decide⟩, by decide +kernel, by decide⟩
theorem zq_1165 : Cond.code yX9_only cX9_only 2 (some .int) ∈ zG := List.mem_of_getElem? (i := 1165) (by decide +kernel)
theorem zq_1163 : Cond.instanceMethod yX9_only ∈ zG := List.mem_of_getElem? (i := 1163) (by decide +kernel)
theorem zq_1164 : Cond.selects RX9 yX9_only yX9_only ∈ zG := List.mem_of_getElem? (i := 1164) (by decide +kernel)
theorem zy_X9_only : zyV yX9_only cX9_only 2 (some .int) 0 := ⟨zq_1165, zq_1163, zq_1164, zq_39, ⟨by decide, by decide⟩, by decide +kernel, by decide⟩
theorem zq_1550 : Cond.code yX11_gain cX11_gain 5 (some .int) ∈ zG := List.mem_of_getElem? (i := 1550) (by decide +kernel)
theorem zq_1549 : Cond.static yX11_gain ∈ zG := List.mem_of_getElem? (i := 1549) (by decide +kernel)
theorem zy_X11_gain : zyS yX11_gain cX11_gain 5 (some .int) 5 := ⟨zq_1550, zq_1549, zq_2, ⟨by decide, by decide⟩, by decide +kernel, by decide⟩
theorem zq_932 : Cond.code yX11_isCount cX11_isCount 1 (some .boolean) ∈ zG := List.mem_of_getElem? (i := 932) (by decide +kernel)
theorem zq_931 : Cond.static yX11_isCount ∈ zG := List.mem_of_getElem? (i := 931) (by decide +kernel)
theorem zy_X11_isCount : zyS yX11_isCount cX11_isCount 1 (some .boolean) 1 := ⟨zq_932, zq_931, zq_2, ⟨by decide, by decide⟩, by decide +kernel, by decide⟩
theorem zq_875 : Cond.code yX11_isMeaning cX11_isMeaning 2 (some .boolean) ∈ zG := List.mem_of_getElem? (i := 875) (by decide +kernel)
theorem zq_874 : Cond.static yX11_isMeaning ∈ zG := List.mem_of_getElem? (i := 874) (by decide +kernel)
theorem zy_X11_isMeaning : zyS yX11_isMeaning cX11_isMeaning 2 (some .boolean) 2 := ⟨zq_875, zq_874, zq_2, ⟨by decide, by decide⟩, by decide +kernel, by decide⟩
theorem zs_140 : zsh 140 = 2 := by decide +kernel
theorem zl_140 : zln 140 = 0 := by decide +kernel
section ZM
variable {p : Program} {l : Launch} {e : Env} {R : Room} {s : State} {m : MethodId} {args : Array Value} {below : List Frame} {meth : Method} {c : Code} {cells slots : Nat} {Q : State → Prop} {D : va_G} {dA : Nat → ClassId} {ad ad0 : Nat → Nat} {al al0 : Nat → Prop}
/-! X11_isWord -/
def fX11_isWord (x1 : Int32) (w : zW) (k : Int32 → zW → Prop) : Prop :=
  ((x1 < 0 →
    k (0 : Int32) w) ∧
   (¬ x1 < 0 →
    ¬ gR w 1 9 = 0 ∧
    ∀ v3 : Int32, v3 = (if (gI w (gR w 1 9) 0) ≤ x1 then (0 : Int32) else (if (4 : Int32) ≤ x1 then (0 : Int32) else (1 : Int32))) →
    zb01 v3 ∧ k v3 w))
set_option maxHeartbeats 4000000 in
set_option maxRecDepth 100000 in
theorem mX11_isWord {l : Launch} {D : va_G} {dA : Nat → ClassId} {ad : Nat → Nat} {al : Nat → Prop} {w : zW} {k : Int32 → zW → Prop} {x1 : Int32}   (hf : fX11_isWord x1 w k) : zmetI l yX11_isWord cX11_isWord 2 (some .boolean) 0 [.ref (ad 1), .int x1] D dA true ad al w k := by
  refine zmetZ_of (by decide) (Nat.le_of_ble_eq_true rfl) ?_
  intro p e R s m below meth c Q H ls args locs cells slots X hr hQ hR hl
  have hx := X.1
  have hb := X.2.1
  have hml := X.2.2.1
  have hown := X.2.2.2.1
  have hts := X.2.2.2.2.1
  unfold fX11_isWord at hf
  have hl : lv_has ls 2 [(0, .ref (ad 1)), (1, .int x1)] := hl
  refine lv_iload_n hx hb dX11_isWord_0 rfl (lv_at hl 1 rfl) ?_
  refine lv_if_lt (tgt := 24) hx hb dX11_isWord_1 (by decide) (fun c1 => ?_) (fun c1 => ?_)
  · replace hf := hf.1 c1
    refine lv_iconst (v := (0 : Int32)) hx hb dX11_isWord_24 (by decide) ?_
    exact hQ _ _ _ _ _ _ zb01_0 hf hR dX11_isWord_25
  · replace hf := hf.2 c1
    refine lv_iload_n hx hb dX11_isWord_4 rfl (lv_at hl 1 rfl) ?_
    refine lv_aload_n hx hb dX11_isWord_5 rfl (lv_at hl 0 rfl) ?_
    refine z_getR X hR (zlit hR zf_1) zs_1 (by decide) zfd_X11_71 rfl dX11_isWord_6 ?_
    obtain ⟨hn20, hf⟩ := hf
    have hn2 : al (gR w 1 9) ∧ zsh (gR w 1 9) = 0 := zwt_of hR (zlit hR zf_1) zs_1 rfl hn20 (zdc_of zs_1 rfl)
    rw [zrf_pos hn20]
    refine z_getI X hR hn2.1 hn2.2 (by decide) zfd_X11_221 rfl dX11_isWord_9 ?_
    have kJ3 : ∀ v3 : Int32, v3 = (if (gI w (gR w 1 9) 0) ≤ x1 then (0 : Int32) else (if (4 : Int32) ≤ x1 then (0 : Int32) else (1 : Int32))) → W p l e R s m args below meth c H locs cells slots Q (F0 m 25 ls (.int v3 :: [])) := by
      intro v3 hv3
      replace hf := hf v3 hv3
      obtain ⟨h01, hf⟩ := hf
      exact hQ _ _ _ _ _ _ h01 hf hR dX11_isWord_25
    refine lv_icmp_ge (tgt := 24) hx hb dX11_isWord_12 (by decide) (fun c3 => ?_) (fun c3 => ?_)
    · refine lv_iconst (v := (0 : Int32)) hx hb dX11_isWord_24 (by decide) ?_
      exact kJ3 _ (if_pos c3).symm
    · refine lv_iload_n hx hb dX11_isWord_15 rfl (lv_at hl 1 rfl) ?_
      refine lv_iconst (v := (4 : Int32)) hx hb dX11_isWord_16 (by decide) ?_
      refine lv_icmp_ge (tgt := 24) hx hb dX11_isWord_17 (by decide) (fun c4 => ?_) (fun c4 => ?_)
      · refine lv_iconst (v := (0 : Int32)) hx hb dX11_isWord_24 (by decide) ?_
        exact kJ3 _ ((if_neg c3).trans (if_pos c4)).symm
      · refine lv_iconst (v := (1 : Int32)) hx hb dX11_isWord_20 (by decide) ?_
        refine lv_goto (tgt := 25) hx hb dX11_isWord_21 (by decide) ?_
        exact kJ3 _ ((if_neg c3).trans (if_neg c4)).symm
/-! X11_term -/
def fX11_term (x1 : Int32) (x2 : Int32) (w : zW) (k : Int32 → zW → Prop) : Prop :=
  fX11_isWord x1 w (fun r1 w1 =>
  ((¬ r1 = 0 →
    ∀ sv3 : Int32, sv3 = x2 →
    ((sv3 = (0 : Int32) →
      ¬ gR w1 1 9 = 0 ∧
      vp_in x1 4 ∧ 
      k (gI w1 ((gR w1 1 9) + 2) x1.toNatClampNeg) w1) ∧
    (¬ sv3 = (0 : Int32) →
    ((sv3 = (1 : Int32) →
      fX3_guessOf 9 x1 w1 (fun r8 w8 =>
      k r8 w8)) ∧
    (¬ sv3 = (1 : Int32) →
    ((sv3 = (2 : Int32) →
      ¬ gR w1 1 9 = 0 ∧
      vp_in x1 4 ∧ 
      k (gI w1 ((gR w1 1 9) + 4) x1.toNatClampNeg) w1) ∧
    (¬ sv3 = (2 : Int32) →
    ((sv3 = (3 : Int32) →
      ¬ gR w1 1 9 = 0 ∧
      vp_in x1 4 ∧ 
      k (gI w1 ((gR w1 1 9) + 3) x1.toNatClampNeg) w1) ∧
    (¬ sv3 = (3 : Int32) →
    
    k (-2 : Int32) w1))))))))) ∧
   (r1 = 0 →
    k (-2 : Int32) w1)))
set_option maxHeartbeats 4000000 in
set_option maxRecDepth 100000 in
theorem mX11_term {l : Launch} {D : va_G} {dA : Nat → ClassId} {ad : Nat → Nat} {al : Nat → Prop} {w : zW} {k : Int32 → zW → Prop} {x1 : Int32} {x2 : Int32}   (hf : fX11_term x1 x2 w k) : zmetI l yX11_term cX11_term 3 (some .int) 1 [.ref (ad 1), .int x1, .int x2] D dA true ad al w k := by
  refine zmetI_of (by decide) (Nat.le_of_ble_eq_true rfl) ?_
  intro p e R s m below meth c Q H ls args locs cells slots X hr hQ hR hl
  have hx := X.1
  have hb := X.2.1
  have hml := X.2.2.1
  have hown := X.2.2.2.1
  have hts := X.2.2.2.2.1
  unfold fX11_term at hf
  have hl : lv_has ls 3 [(0, .ref (ad 1)), (1, .int x1), (2, .int x2)] := hl
  refine lv_aload_n hx hb dX11_term_0 rfl (lv_at hl 0 rfl) ?_
  refine lv_iload_n hx hb dX11_term_1 rfl (lv_at hl 1 rfl) ?_
  refine z_callVI (fr1 := 0) (b := 1) (As := [.int x1]) (rest := []) X (hr.le (by decide)) hR zy_X11_isWord zq_756 (zlit hR zf_1) (by rw [zs_1]; rfl) rfl (mX11_isWord  hf) rfl hl (Nat.le_of_ble_eq_true rfl) dX11_term_2 rfl (fun r1 w1 H locs hf hR => ?_)
  refine lv_if_ne (tgt := 11) hx hb dX11_term_5 (by decide) (fun c2 => ?_) (fun c2 => ?_)
  · replace hf := hf.1 c2
    refine lv_iload_n hx hb dX11_term_11 rfl (lv_at hl 2 rfl) ?_
    refine lv_topi (fun sv3 hsv3 => ?_)
    replace hf := hf sv3 hsv3
    by_cases c4 : sv3 = (0 : Int32)
    · replace hf := hf.1 c4
      refine lv_tableIn (off := 32) (tgt := 44) hx hb dX11_term_12 (by rw [c4]; decide) (by rw [c4]; decide) (by rw [c4]; decide) (by decide) ?_
      refine lv_aload_n hx hb dX11_term_44 rfl (lv_at hl 0 rfl) ?_
      refine z_getR X hR (zlit hR zf_1) zs_1 (by decide) zfd_X11_71 rfl dX11_term_45 ?_
      obtain ⟨hn50, hf⟩ := hf
      have hn5 : al (gR w1 1 9) ∧ zsh (gR w1 1 9) = 0 := zwt_of hR (zlit hR zf_1) zs_1 rfl hn50 (zdc_of zs_1 rfl)
      rw [zrf_pos hn50]
      refine z_getS X hR hn5.1 hn5.2 (by decide) zfd_X11_127 rfl (r := (gR w1 1 9) + 2) (zst_0 hn5.2 2 rfl) dX11_term_48 ?_
      refine lv_iload_n hx hb dX11_term_51 rfl (lv_at hl 1 rfl) ?_
      obtain ⟨hb6, hf⟩ := hf
      refine z_iald X hR (zoff hR hn5.2 zo_0_2).1 (zoff hR hn5.2 zo_0_2).2.1 (zoff hR hn5.2 zo_0_2).2.2 hb6 dX11_term_52 ?_
      exact hQ _ _ _ _ _ _ hf hR dX11_term_53
    replace hf := hf.2 c4
    by_cases c7 : sv3 = (1 : Int32)
    · replace hf := hf.1 c7
      refine lv_tableIn (off := 42) (tgt := 54) hx hb dX11_term_12 (by rw [c7]; decide) (by rw [c7]; decide) (by rw [c7]; decide) (by decide) ?_
      refine lv_aload_n hx hb dX11_term_54 rfl (lv_at hl 0 rfl) ?_
      refine z_getS X hR (zlit hR zf_1) zs_1 (by decide) zfd_X11_28 rfl (r := 9) (by decide +kernel) dX11_term_55 ?_
      refine lv_iload_n hx hb dX11_term_58 rfl (lv_at hl 1 rfl) ?_
      refine z_callVI (fr1 := 0) (b := 9) (As := [.int x1]) (rest := []) X (hr.le (by decide)) hR zy_X3_guessOf zq_761 (zlit hR zf_9) (by rw [zs_9]; rfl) rfl (mX3_guessOf ⟨(zlit hR zf_9), zs_9⟩ hf) rfl hl (Nat.le_of_ble_eq_true rfl) dX11_term_59 rfl (fun r8 w8 H locs hf hR => ?_)
      exact hQ _ _ _ _ _ _ hf hR dX11_term_62
    replace hf := hf.2 c7
    by_cases c9 : sv3 = (2 : Int32)
    · replace hf := hf.1 c9
      refine lv_tableIn (off := 51) (tgt := 63) hx hb dX11_term_12 (by rw [c9]; decide) (by rw [c9]; decide) (by rw [c9]; decide) (by decide) ?_
      refine lv_aload_n hx hb dX11_term_63 rfl (lv_at hl 0 rfl) ?_
      refine z_getR X hR (zlit hR zf_1) zs_1 (by decide) zfd_X11_71 rfl dX11_term_64 ?_
      obtain ⟨hn100, hf⟩ := hf
      have hn10 : al (gR w1 1 9) ∧ zsh (gR w1 1 9) = 0 := zwt_of hR (zlit hR zf_1) zs_1 rfl hn100 (zdc_of zs_1 rfl)
      rw [zrf_pos hn100]
      refine z_getS X hR hn10.1 hn10.2 (by decide) zfd_X11_135 rfl (r := (gR w1 1 9) + 4) (zst_0 hn10.2 4 rfl) dX11_term_67 ?_
      refine lv_iload_n hx hb dX11_term_70 rfl (lv_at hl 1 rfl) ?_
      obtain ⟨hb11, hf⟩ := hf
      refine z_iald X hR (zoff hR hn10.2 zo_0_4).1 (zoff hR hn10.2 zo_0_4).2.1 (zoff hR hn10.2 zo_0_4).2.2 hb11 dX11_term_71 ?_
      exact hQ _ _ _ _ _ _ hf hR dX11_term_72
    replace hf := hf.2 c9
    by_cases c12 : sv3 = (3 : Int32)
    · replace hf := hf.1 c12
      refine lv_tableIn (off := 61) (tgt := 73) hx hb dX11_term_12 (by rw [c12]; decide) (by rw [c12]; decide) (by rw [c12]; decide) (by decide) ?_
      refine lv_aload_n hx hb dX11_term_73 rfl (lv_at hl 0 rfl) ?_
      refine z_getR X hR (zlit hR zf_1) zs_1 (by decide) zfd_X11_71 rfl dX11_term_74 ?_
      obtain ⟨hn130, hf⟩ := hf
      have hn13 : al (gR w1 1 9) ∧ zsh (gR w1 1 9) = 0 := zwt_of hR (zlit hR zf_1) zs_1 rfl hn130 (zdc_of zs_1 rfl)
      rw [zrf_pos hn130]
      refine z_getS X hR hn13.1 hn13.2 (by decide) zfd_X11_138 rfl (r := (gR w1 1 9) + 3) (zst_0 hn13.2 3 rfl) dX11_term_77 ?_
      refine lv_iload_n hx hb dX11_term_80 rfl (lv_at hl 1 rfl) ?_
      obtain ⟨hb14, hf⟩ := hf
      refine z_iald X hR (zoff hR hn13.2 zo_0_3).1 (zoff hR hn13.2 zo_0_3).2.1 (zoff hR hn13.2 zo_0_3).2.2 hb14 dX11_term_81 ?_
      exact hQ _ _ _ _ _ _ hf hR dX11_term_82
    replace hf := hf.2 c12
    have ho12 : sv3.toInt < 0 ∨ 3 < sv3.toInt := by
      have := z_i32ne (k := (0 : Int32)) c4
      have := z_i32ne (k := (1 : Int32)) c7
      have := z_i32ne (k := (2 : Int32)) c9
      have := z_i32ne (k := (3 : Int32)) c12
      simp only [show ((0 : Int32)).toInt = 0 from by decide, show ((1 : Int32)).toInt = 1 from by decide, show ((2 : Int32)).toInt = 2 from by decide, show ((3 : Int32)).toInt = 3 from by decide] at *
      omega
    refine lv_tableOut (tgt := 83) hx hb dX11_term_12 ho12 (by decide) ?_
    refine lv_bipush (v := (-2 : Int32)) hx hb dX11_term_83 (by decide) ?_
    exact hQ _ _ _ _ _ _ hf hR dX11_term_85
  · replace hf := hf.2 c2
    refine lv_bipush (v := (-2 : Int32)) hx hb dX11_term_8 (by decide) ?_
    exact hQ _ _ _ _ _ _ hf hR dX11_term_10
/-! X11_briefOf -/
def fX11_briefOf_J64 (k : Int32 → zW → Prop) (mc ms : Nat) (x1 : Int32) (w : zW) : Prop :=
  ¬ gR w 1 9 = 0 ∧
  vp_in x1 8 ∧ 
  k (gI w ((gR w 1 9) + 30) x1.toNatClampNeg) w
set_option maxHeartbeats 4000000 in
set_option maxRecDepth 100000 in
theorem mX11_briefOf_J64 {k : Int32 → zW → Prop} (X : zCx p s m args meth c cX11_briefOf 2 RX11 (some .int)) (hQ : zRetAI p l e R s m args below meth c Q D dA true ad0 al0 cX11_briefOf k)  {cells slots mc ms : Nat} {x1 : Int32} {ad : Nat → Nat} {al : Nat → Prop} {w : zW} {H : Heap} {locs : List Loc} {ls : Array Slot} (hf : fX11_briefOf_J64 k mc ms x1 w) (hX : zExt ad0 al0 ad al) (hr : zRm R 4 (cells + mc) (slots + ms)) (hR : zSt D dA true ad0 al0 ad al w s H locs) (hl : lv_has ls 2 [(0, .ref (ad 1)), (1, .int x1)]) : W p l e R s m args below meth c H locs cells slots Q (F0 m 64 ls []) := by
  have hx := X.1
  have hb := X.2.1
  have hml := X.2.2.1
  have hown := X.2.2.2.1
  have hts := X.2.2.2.2.1
  unfold fX11_briefOf_J64 at hf
  refine lv_aload_n hx hb dX11_briefOf_64 rfl (lv_at hl 0 rfl) ?_
  refine z_getR X hR (zlit hR zf_1) zs_1 (by decide) zfd_X11_71 rfl dX11_briefOf_65 ?_
  obtain ⟨hn40, hf⟩ := hf
  have hn4 : al (gR w 1 9) ∧ zsh (gR w 1 9) = 0 := zwt_of hR (zlit hR zf_1) zs_1 rfl hn40 (zdc_of zs_1 rfl)
  rw [zrf_pos hn40]
  refine z_getS X hR hn4.1 hn4.2 (by decide) zfd_X11_382 rfl (r := (gR w 1 9) + 30) (zst_0 hn4.2 12 rfl) dX11_briefOf_68 ?_
  refine lv_iload_n hx hb dX11_briefOf_71 rfl (lv_at hl 1 rfl) ?_
  obtain ⟨hb5, hf⟩ := hf
  refine z_iald X hR (zoff hR hn4.2 zo_0_30).1 (zoff hR hn4.2 zo_0_30).2.1 (zoff hR hn4.2 zo_0_30).2.2 hb5 dX11_briefOf_72 ?_
  exact hQ _ _ _ _ _ _ _ _ _ _ hX (by have := hr.2.2.1; omega) (by have := hr.2.2.2; omega) hf hR dX11_briefOf_73
def fX11_briefOf_J30 (k : Int32 → zW → Prop) (mc ms : Nat) (x1 : Int32) (w : zW) : Prop :=
  ¬ gR w 1 9 = 0 ∧
  ¬ gR w 1 13 = 0 ∧
  vp_in x1 8 ∧ 
  fX2_fewest (gR w 1 13) ((gR w 1 9) + 11 + 1 + x1.toNatClampNeg) (gI w ((gR w 1 9) + 10) x1.toNatClampNeg) w (fun r13 w13 =>
  ∀ w14 : zW, w14 = sI w13 ((gR w 1 9) + 30) x1.toNatClampNeg r13 →
  fX11_briefOf_J64 k mc ms x1 w14)
set_option maxHeartbeats 4000000 in
set_option maxRecDepth 100000 in
theorem mX11_briefOf_J30 {k : Int32 → zW → Prop} (X : zCx p s m args meth c cX11_briefOf 2 RX11 (some .int)) (hQ : zRetAI p l e R s m args below meth c Q D dA true ad0 al0 cX11_briefOf k)  {cells slots mc ms : Nat} {x1 : Int32} {ad : Nat → Nat} {al : Nat → Prop} {w : zW} {H : Heap} {locs : List Loc} {ls : Array Slot} (hf : fX11_briefOf_J30 k mc ms x1 w) (hX : zExt ad0 al0 ad al) (hr : zRm R 4 (cells + mc) (slots + ms)) (hR : zSt D dA true ad0 al0 ad al w s H locs) (hl : lv_has ls 2 [(0, .ref (ad 1)), (1, .int x1)]) : W p l e R s m args below meth c H locs cells slots Q (F0 m 30 ls []) := by
  have hx := X.1
  have hb := X.2.1
  have hml := X.2.2.1
  have hown := X.2.2.2.1
  have hts := X.2.2.2.2.1
  unfold fX11_briefOf_J30 at hf
  refine lv_aload_n hx hb dX11_briefOf_30 rfl (lv_at hl 0 rfl) ?_
  refine z_getR X hR (zlit hR zf_1) zs_1 (by decide) zfd_X11_71 rfl dX11_briefOf_31 ?_
  obtain ⟨hn100, hf⟩ := hf
  have hn10 : al (gR w 1 9) ∧ zsh (gR w 1 9) = 0 := zwt_of hR (zlit hR zf_1) zs_1 rfl hn100 (zdc_of zs_1 rfl)
  rw [zrf_pos hn100]
  refine z_getS X hR hn10.1 hn10.2 (by decide) zfd_X11_382 rfl (r := (gR w 1 9) + 30) (zst_0 hn10.2 12 rfl) dX11_briefOf_34 ?_
  refine lv_iload_n hx hb dX11_briefOf_37 rfl (lv_at hl 1 rfl) ?_
  refine lv_aload_n hx hb dX11_briefOf_38 rfl (lv_at hl 0 rfl) ?_
  refine z_getR X hR (zlit hR zf_1) zs_1 (by decide) zfd_X11_385 rfl dX11_briefOf_39 ?_
  obtain ⟨hn110, hf⟩ := hf
  have hn11 : al (gR w 1 13) ∧ zsh (gR w 1 13) = 2 := zwt_of hR (zlit hR zf_1) zs_1 rfl hn110 (zdc_of zs_1 rfl)
  rw [zrf_pos hn110]
  refine lv_aload_n hx hb dX11_briefOf_42 rfl (lv_at hl 0 rfl) ?_
  refine z_getR X hR (zlit hR zf_1) zs_1 (by decide) zfd_X11_71 rfl dX11_briefOf_43 ?_
  rw [zrf_pos hn100]
  refine z_getS X hR hn10.1 hn10.2 (by decide) zfd_X11_392 rfl (r := (gR w 1 9) + 11) (zst_0 hn10.2 9 rfl) dX11_briefOf_46 ?_
  refine lv_iload_n hx hb dX11_briefOf_49 rfl (lv_at hl 1 rfl) ?_
  obtain ⟨hb12, hf⟩ := hf
  refine z_aald X hR (zoff hR hn10.2 zo_0_11).1 (zoff hR hn10.2 zo_0_11).2.1 (zoff hR hn10.2 zo_0_11).2.2 hb12 dX11_briefOf_50 ?_
  refine lv_aload_n hx hb dX11_briefOf_51 rfl (lv_at hl 0 rfl) ?_
  refine z_getR X hR (zlit hR zf_1) zs_1 (by decide) zfd_X11_71 rfl dX11_briefOf_52 ?_
  rw [zrf_pos hn100]
  refine z_getS X hR hn10.1 hn10.2 (by decide) zfd_X11_144 rfl (r := (gR w 1 9) + 10) (zst_0 hn10.2 8 rfl) dX11_briefOf_55 ?_
  refine lv_iload_n hx hb dX11_briefOf_58 rfl (lv_at hl 1 rfl) ?_
  refine z_iald X hR (zoff hR hn10.2 zo_0_10).1 (zoff hR hn10.2 zo_0_10).2.1 (zoff hR hn10.2 zo_0_10).2.2 hb12 dX11_briefOf_59 ?_
  refine z_callVI (fr1 := 3) (b := (gR w 1 13)) (As := [.ref (ad ((gR w 1 9) + 11 + 1 + x1.toNatClampNeg)), .int (gI w ((gR w 1 9) + 10) x1.toNatClampNeg)]) (rest := [.int x1, .ref (ad ((gR w 1 9) + 30))]) X (hr.none (by decide)) hR zy_X2_fewest zq_812 hn11.1 (by rw [hn11.2]; rfl) rfl (mX2_fewest ⟨hn11.1, hn11.2⟩ ⟨(zrow hR hn10.2 zr_0_11 hb12).1, (zrow hR hn10.2 zr_0_11 hb12).2.1⟩ hf) rfl hl (Nat.le_of_ble_eq_true rfl) dX11_briefOf_60 rfl (fun r13 w13 H locs hf hR => ?_)
  refine z_iast X hR (zoff hR hn10.2 zo_0_30).1 (zoff hR hn10.2 zo_0_30).2.1 (zoff hR hn10.2 zo_0_30).2.2 hb12 dX11_briefOf_63 (fun H locs hR => ?_)
  obtain ⟨w14, hw14⟩ : ∃ z : zW, z = sI w13 ((gR w 1 9) + 30) x1.toNatClampNeg r13 := ⟨_, rfl⟩
  rw [← hw14] at hR
  replace hf := hf w14 hw14
  exact mX11_briefOf_J64 X hQ  hf hX hr hR (lv_sub hl [0, 1] rfl)
def fX11_briefOf (mc ms : Nat) (x1 : Int32) (w : zW) (k : Int32 → zW → Prop) : Prop :=
  ¬ gR w 1 9 = 0 ∧
  vp_in x1 8 ∧ 
  ((¬ (gI w ((gR w 1 9) + 30) x1.toNatClampNeg) = 0 →
    fX11_briefOf_J64 k mc ms x1 w) ∧
   ((gI w ((gR w 1 9) + 30) x1.toNatClampNeg) = 0 →
    ((gR w 1 13 = 0 →
      ¬ gI w 0 140 = 1 ∧ 1 ≤ mc ∧ 2 ≤ ms ∧ ∀ w7 : zW, w7 = nW w 140 →
      ∃ c8 s8, c8 ≤ mc - 1 ∧ s8 ≤ ms - 2 ∧ fX2_init c8 s8 140 w7 (fun w8 =>
      ∀ w9 : zW, w9 = sR w8 1 13 140 →
      fX11_briefOf_J30 k ((mc - 1) - c8) ((ms - 2) - s8) x1 w9)) ∧
     (¬ gR w 1 13 = 0 →
      fX11_briefOf_J30 k mc ms x1 w))))
set_option maxHeartbeats 4000000 in
set_option maxRecDepth 100000 in
theorem mX11_briefOf {l : Launch} {D : va_G} {dA : Nat → ClassId} {ad : Nat → Nat} {al : Nat → Prop} {w : zW} {mc ms : Nat} {k : Int32 → zW → Prop} {x1 : Int32}  (hf : fX11_briefOf mc ms x1 w k) : zmetAI l yX11_briefOf cX11_briefOf 2 (some .int) 4 mc ms [.ref (ad 1), .int x1] D dA true ad al w k := by
  refine zmetAI_of (by decide) (Nat.le_of_ble_eq_true rfl) ?_
  intro p e R s m below meth c Q H ls args locs cells slots X hr hQ hR hl
  have hx := X.1
  have hb := X.2.1
  have hml := X.2.2.1
  have hown := X.2.2.2.1
  have hts := X.2.2.2.2.1
  unfold fX11_briefOf at hf
  have hl : lv_has ls 2 [(0, .ref (ad 1)), (1, .int x1)] := hl
  have hX : zExt ad al ad al := zExt.rf
  refine lv_aload_n hx hb dX11_briefOf_0 rfl (lv_at hl 0 rfl) ?_
  refine z_getR X hR (zlit hR zf_1) zs_1 (by decide) zfd_X11_71 rfl dX11_briefOf_1 ?_
  obtain ⟨hn10, hf⟩ := hf
  have hn1 : al (gR w 1 9) ∧ zsh (gR w 1 9) = 0 := zwt_of hR (zlit hR zf_1) zs_1 rfl hn10 (zdc_of zs_1 rfl)
  rw [zrf_pos hn10]
  refine z_getS X hR hn1.1 hn1.2 (by decide) zfd_X11_382 rfl (r := (gR w 1 9) + 30) (zst_0 hn1.2 12 rfl) dX11_briefOf_4 ?_
  refine lv_iload_n hx hb dX11_briefOf_7 rfl (lv_at hl 1 rfl) ?_
  obtain ⟨hb2, hf⟩ := hf
  refine z_iald X hR (zoff hR hn1.2 zo_0_30).1 (zoff hR hn1.2 zo_0_30).2.1 (zoff hR hn1.2 zo_0_30).2.2 hb2 dX11_briefOf_8 ?_
  refine lv_if_ne (tgt := 64) hx hb dX11_briefOf_9 (by decide) (fun c3 => ?_) (fun c3 => ?_)
  · replace hf := hf.1 c3
    exact mX11_briefOf_J64 X hQ  hf hX hr hR (lv_sub hl [0, 1] rfl)
  · replace hf := hf.2 c3
    refine lv_aload_n hx hb dX11_briefOf_12 rfl (lv_at hl 0 rfl) ?_
    refine z_getR X hR (zlit hR zf_1) zs_1 (by decide) zfd_X11_385 rfl dX11_briefOf_13 ?_
    by_cases hn60 : gR w 1 13 = 0
    · replace hf := hf.1 hn60
      rw [show zrf ad (gR w 1 13) = Value.null from if_pos hn60]
      refine lv_ifnonnullN hx hb dX11_briefOf_16 ?_
      refine lv_aload_n hx hb dX11_briefOf_19 rfl (lv_at hl 0 rfl) ?_
      have hw7_1 : al 1 := (zlit hR zf_1)
      have hv7_1 : al 1 := (zlit hR zf_1)
      obtain ⟨hg7, hc7, hs7, hf⟩ := hf
      refine z_newo (N := 2) X (hr.new hc7 hs7) hR (j := 140) (fun _ => ⟨by decide, by decide +kernel⟩) hg7 zs_140 (by decide) (q := (RX2, TX2, 2)) rfl rfl tyX2 tyX2_ok (by decide +kernel) zq_803 zq_804 zq_805 dX11_briefOf_20 (fun ad7 al7 H hE7 hj7 hR => ?_)
      obtain ⟨w7, hw7⟩ : ∃ z : zW, z = nW w 140 := ⟨_, rfl⟩
      rw [← hw7] at hR
      replace hf := hf w7 hw7
      have hX := hX.tr hE7
      have hr := hr.after hc7 hs7
      have hn1 := And.intro (hE7 _ hn1.1).1 hn1.2
      rw [← (hE7 1 hw7_1).2] at hl
      rw [← (hE7 1 hv7_1).2]
      have hn7 : al7 140 ∧ zsh 140 = 2 := ⟨hj7, zs_140⟩
      refine lv_dup hx hb dX11_briefOf_23 rfl ?_
      have hw8_1 : al7 1 := (zlit hR zf_1)
      have hv8_1 : al7 140 := hn7.1
      have hv8_2 : al7 1 := (zlit hR zf_1)
      obtain ⟨c8, s8, hc8, hs8, hf⟩ := hf
      refine z_callANV (fr1 := 1) (mc := c8) (ms := s8) (b := 140) (As := []) (rest := [.ref (ad7 140), .ref (ad7 1)]) X (hr.call hc8 hs8 (by decide)) hR (host := RX11) zn_391 rfl zq_808 zq_807 zq_805 ⟨by decide, by decide⟩ (np := 0) (by decide +kernel) (by decide) (mX2_init ⟨hn7.1, hn7.2⟩ hf) rfl hl (Nat.le_of_ble_eq_true rfl) dX11_briefOf_24 rfl (fun w8 H locs ad8 al8 hf hE8 hR => ?_)
      have hX := hX.tr hE8
      have hr := hr.after hc8 hs8
      have hn1 := And.intro (hE8 _ hn1.1).1 hn1.2
      have hn7 := And.intro (hE8 _ hn7.1).1 hn7.2
      rw [← (hE8 1 hw8_1).2] at hl
      rw [← (hE8 140 hv8_1).2]
      rw [← (hE8 1 hv8_2).2]
      refine z_putR X hR (zlit hR zf_1) zs_1 (by decide) zfp_X11_385 rfl rfl (by decide) hn7.1 (by rw [zdc_of zs_1 rfl]; exact hn7.2) dX11_briefOf_27 (fun H locs hR => ?_)
      obtain ⟨w9, hw9⟩ : ∃ z : zW, z = sR w8 1 13 140 := ⟨_, rfl⟩
      rw [← hw9] at hR
      replace hf := hf w9 hw9
      exact mX11_briefOf_J30 X hQ  hf hX hr hR (lv_sub hl [0, 1] rfl)
    · replace hf := hf.2 hn60
      rw [zrf_pos hn60]
      refine lv_ifnonnull (tgt := 30) hx hb dX11_briefOf_16 (by decide) ?_
      exact mX11_briefOf_J30 X hQ  hf hX hr hR (lv_sub hl [0, 1] rfl)
/-! X11_isRow -/
def fX11_isRow (x1 : Int32) (w : zW) (k : Int32 → zW → Prop) : Prop :=
  ((x1 < 0 →
    k (0 : Int32) w) ∧
   (¬ x1 < 0 →
    ¬ gR w 1 9 = 0 ∧
    ∀ v3 : Int32, v3 = (if (gI w (gR w 1 9) 7) ≤ x1 then (0 : Int32) else (if (8 : Int32) ≤ x1 then (0 : Int32) else (1 : Int32))) →
    zb01 v3 ∧ k v3 w))
set_option maxHeartbeats 4000000 in
set_option maxRecDepth 100000 in
theorem mX11_isRow {l : Launch} {D : va_G} {dA : Nat → ClassId} {ad : Nat → Nat} {al : Nat → Prop} {w : zW} {k : Int32 → zW → Prop} {x1 : Int32}   (hf : fX11_isRow x1 w k) : zmetI l yX11_isRow cX11_isRow 2 (some .boolean) 0 [.ref (ad 1), .int x1] D dA true ad al w k := by
  refine zmetZ_of (by decide) (Nat.le_of_ble_eq_true rfl) ?_
  intro p e R s m below meth c Q H ls args locs cells slots X hr hQ hR hl
  have hx := X.1
  have hb := X.2.1
  have hml := X.2.2.1
  have hown := X.2.2.2.1
  have hts := X.2.2.2.2.1
  unfold fX11_isRow at hf
  have hl : lv_has ls 2 [(0, .ref (ad 1)), (1, .int x1)] := hl
  refine lv_iload_n hx hb dX11_isRow_0 rfl (lv_at hl 1 rfl) ?_
  refine lv_if_lt (tgt := 25) hx hb dX11_isRow_1 (by decide) (fun c1 => ?_) (fun c1 => ?_)
  · replace hf := hf.1 c1
    refine lv_iconst (v := (0 : Int32)) hx hb dX11_isRow_25 (by decide) ?_
    exact hQ _ _ _ _ _ _ zb01_0 hf hR dX11_isRow_26
  · replace hf := hf.2 c1
    refine lv_iload_n hx hb dX11_isRow_4 rfl (lv_at hl 1 rfl) ?_
    refine lv_aload_n hx hb dX11_isRow_5 rfl (lv_at hl 0 rfl) ?_
    refine z_getR X hR (zlit hR zf_1) zs_1 (by decide) zfd_X11_71 rfl dX11_isRow_6 ?_
    obtain ⟨hn20, hf⟩ := hf
    have hn2 : al (gR w 1 9) ∧ zsh (gR w 1 9) = 0 := zwt_of hR (zlit hR zf_1) zs_1 rfl hn20 (zdc_of zs_1 rfl)
    rw [zrf_pos hn20]
    refine z_getI X hR hn2.1 hn2.2 (by decide) zfd_X11_239 rfl dX11_isRow_9 ?_
    have kJ3 : ∀ v3 : Int32, v3 = (if (gI w (gR w 1 9) 7) ≤ x1 then (0 : Int32) else (if (8 : Int32) ≤ x1 then (0 : Int32) else (1 : Int32))) → W p l e R s m args below meth c H locs cells slots Q (F0 m 26 ls (.int v3 :: [])) := by
      intro v3 hv3
      replace hf := hf v3 hv3
      obtain ⟨h01, hf⟩ := hf
      exact hQ _ _ _ _ _ _ h01 hf hR dX11_isRow_26
    refine lv_icmp_ge (tgt := 25) hx hb dX11_isRow_12 (by decide) (fun c3 => ?_) (fun c3 => ?_)
    · refine lv_iconst (v := (0 : Int32)) hx hb dX11_isRow_25 (by decide) ?_
      exact kJ3 _ (if_pos c3).symm
    · refine lv_iload_n hx hb dX11_isRow_15 rfl (lv_at hl 1 rfl) ?_
      refine lv_bipush (v := (8 : Int32)) hx hb dX11_isRow_16 (by decide) ?_
      refine lv_icmp_ge (tgt := 25) hx hb dX11_isRow_18 (by decide) (fun c4 => ?_) (fun c4 => ?_)
      · refine lv_iconst (v := (0 : Int32)) hx hb dX11_isRow_25 (by decide) ?_
        exact kJ3 _ ((if_neg c3).trans (if_pos c4)).symm
      · refine lv_iconst (v := (1 : Int32)) hx hb dX11_isRow_21 (by decide) ?_
        refine lv_goto (tgt := 26) hx hb dX11_isRow_22 (by decide) ?_
        exact kJ3 _ ((if_neg c3).trans (if_neg c4)).symm
/-! X11_line -/
def fX11_line (mc ms : Nat) (x1 : Int32) (x2 : Int32) (w : zW) (k : Int32 → zW → Prop) : Prop :=
  fX11_isRow x1 w (fun r1 w1 =>
  ((¬ r1 = 0 →
    ∀ sv3 : Int32, sv3 = x2 →
    ((sv3 = (0 : Int32) →
      ¬ gR w1 1 9 = 0 ∧
      vp_in x1 8 ∧ 
      k (gI w1 ((gR w1 1 9) + 10) x1.toNatClampNeg) w1) ∧
    (¬ sv3 = (0 : Int32) →
    ((sv3 = (1 : Int32) →
      fX3_countOf 9 x1 w1 (fun r8 w8 =>
      k r8 w8)) ∧
    (¬ sv3 = (1 : Int32) →
    ((sv3 = (2 : Int32) →
      ¬ gR w1 1 9 = 0 ∧
      fX0_beat (gR w1 1 9) x1 w1 (fun r11 w11 =>
      k r11 w11)) ∧
    (¬ sv3 = (2 : Int32) →
    ((sv3 = (3 : Int32) →
      ∃ c13 s13, c13 ≤ mc ∧ s13 ≤ ms ∧ fX11_briefOf c13 s13 x1 w1 (fun r13 w13 =>
      k r13 w13)) ∧
    (¬ sv3 = (3 : Int32) →
    
    k (-2 : Int32) w1))))))))) ∧
   (r1 = 0 →
    k (-2 : Int32) w1)))
set_option maxHeartbeats 4000000 in
set_option maxRecDepth 100000 in
theorem mX11_line {l : Launch} {D : va_G} {dA : Nat → ClassId} {ad : Nat → Nat} {al : Nat → Prop} {w : zW} {mc ms : Nat} {k : Int32 → zW → Prop} {x1 : Int32} {x2 : Int32}  (hf : fX11_line mc ms x1 x2 w k) : zmetAI l yX11_line cX11_line 3 (some .int) 5 mc ms [.ref (ad 1), .int x1, .int x2] D dA true ad al w k := by
  refine zmetAI_of (by decide) (Nat.le_of_ble_eq_true rfl) ?_
  intro p e R s m below meth c Q H ls args locs cells slots X hr hQ hR hl
  have hx := X.1
  have hb := X.2.1
  have hml := X.2.2.1
  have hown := X.2.2.2.1
  have hts := X.2.2.2.2.1
  unfold fX11_line at hf
  have hl : lv_has ls 3 [(0, .ref (ad 1)), (1, .int x1), (2, .int x2)] := hl
  have hX : zExt ad al ad al := zExt.rf
  refine lv_aload_n hx hb dX11_line_0 rfl (lv_at hl 0 rfl) ?_
  refine lv_iload_n hx hb dX11_line_1 rfl (lv_at hl 1 rfl) ?_
  refine z_callVI (fr1 := 0) (b := 1) (As := [.int x1]) (rest := []) X (hr.none (by decide)) hR zy_X11_isRow zq_781 (zlit hR zf_1) (by rw [zs_1]; rfl) rfl (mX11_isRow  hf) rfl hl (Nat.le_of_ble_eq_true rfl) dX11_line_2 rfl (fun r1 w1 H locs hf hR => ?_)
  refine lv_if_ne (tgt := 11) hx hb dX11_line_5 (by decide) (fun c2 => ?_) (fun c2 => ?_)
  · replace hf := hf.1 c2
    refine lv_iload_n hx hb dX11_line_11 rfl (lv_at hl 2 rfl) ?_
    refine lv_topi (fun sv3 hsv3 => ?_)
    replace hf := hf sv3 hsv3
    by_cases c4 : sv3 = (0 : Int32)
    · replace hf := hf.1 c4
      refine lv_tableIn (off := 32) (tgt := 44) hx hb dX11_line_12 (by rw [c4]; decide) (by rw [c4]; decide) (by rw [c4]; decide) (by decide) ?_
      refine lv_aload_n hx hb dX11_line_44 rfl (lv_at hl 0 rfl) ?_
      refine z_getR X hR (zlit hR zf_1) zs_1 (by decide) zfd_X11_71 rfl dX11_line_45 ?_
      obtain ⟨hn50, hf⟩ := hf
      have hn5 : al (gR w1 1 9) ∧ zsh (gR w1 1 9) = 0 := zwt_of hR (zlit hR zf_1) zs_1 rfl hn50 (zdc_of zs_1 rfl)
      rw [zrf_pos hn50]
      refine z_getS X hR hn5.1 hn5.2 (by decide) zfd_X11_144 rfl (r := (gR w1 1 9) + 10) (zst_0 hn5.2 8 rfl) dX11_line_48 ?_
      refine lv_iload_n hx hb dX11_line_51 rfl (lv_at hl 1 rfl) ?_
      obtain ⟨hb6, hf⟩ := hf
      refine z_iald X hR (zoff hR hn5.2 zo_0_10).1 (zoff hR hn5.2 zo_0_10).2.1 (zoff hR hn5.2 zo_0_10).2.2 hb6 dX11_line_52 ?_
      exact hQ _ _ _ _ _ _ _ _ _ _ hX (by have := hr.2.2.1; omega) (by have := hr.2.2.2; omega) hf hR dX11_line_53
    replace hf := hf.2 c4
    by_cases c7 : sv3 = (1 : Int32)
    · replace hf := hf.1 c7
      refine lv_tableIn (off := 42) (tgt := 54) hx hb dX11_line_12 (by rw [c7]; decide) (by rw [c7]; decide) (by rw [c7]; decide) (by decide) ?_
      refine lv_aload_n hx hb dX11_line_54 rfl (lv_at hl 0 rfl) ?_
      refine z_getS X hR (zlit hR zf_1) zs_1 (by decide) zfd_X11_28 rfl (r := 9) (by decide +kernel) dX11_line_55 ?_
      refine lv_iload_n hx hb dX11_line_58 rfl (lv_at hl 1 rfl) ?_
      refine z_callVI (fr1 := 0) (b := 9) (As := [.int x1]) (rest := []) X (hr.none (by decide)) hR zy_X3_countOf zq_786 (zlit hR zf_9) (by rw [zs_9]; rfl) rfl (mX3_countOf ⟨(zlit hR zf_9), zs_9⟩ hf) rfl hl (Nat.le_of_ble_eq_true rfl) dX11_line_59 rfl (fun r8 w8 H locs hf hR => ?_)
      exact hQ _ _ _ _ _ _ _ _ _ _ hX (by have := hr.2.2.1; omega) (by have := hr.2.2.2; omega) hf hR dX11_line_62
    replace hf := hf.2 c7
    by_cases c9 : sv3 = (2 : Int32)
    · replace hf := hf.1 c9
      refine lv_tableIn (off := 51) (tgt := 63) hx hb dX11_line_12 (by rw [c9]; decide) (by rw [c9]; decide) (by rw [c9]; decide) (by decide) ?_
      refine lv_aload_n hx hb dX11_line_63 rfl (lv_at hl 0 rfl) ?_
      refine z_getR X hR (zlit hR zf_1) zs_1 (by decide) zfd_X11_71 rfl dX11_line_64 ?_
      obtain ⟨hn100, hf⟩ := hf
      have hn10 : al (gR w1 1 9) ∧ zsh (gR w1 1 9) = 0 := zwt_of hR (zlit hR zf_1) zs_1 rfl hn100 (zdc_of zs_1 rfl)
      rw [zrf_pos hn100]
      refine lv_iload_n hx hb dX11_line_67 rfl (lv_at hl 1 rfl) ?_
      refine z_callVI (fr1 := 1) (b := (gR w1 1 9)) (As := [.int x1]) (rest := []) X (hr.none (by decide)) hR zy_X0_beat zq_790 hn10.1 (by rw [hn10.2]; rfl) rfl (mX0_beat ⟨hn10.1, hn10.2⟩ hf) rfl hl (Nat.le_of_ble_eq_true rfl) dX11_line_68 rfl (fun r11 w11 H locs hf hR => ?_)
      exact hQ _ _ _ _ _ _ _ _ _ _ hX (by have := hr.2.2.1; omega) (by have := hr.2.2.2; omega) hf hR dX11_line_71
    replace hf := hf.2 c9
    by_cases c12 : sv3 = (3 : Int32)
    · replace hf := hf.1 c12
      refine lv_tableIn (off := 60) (tgt := 72) hx hb dX11_line_12 (by rw [c12]; decide) (by rw [c12]; decide) (by rw [c12]; decide) (by decide) ?_
      refine lv_aload_n hx hb dX11_line_72 rfl (lv_at hl 0 rfl) ?_
      refine lv_iload_n hx hb dX11_line_73 rfl (lv_at hl 1 rfl) ?_
      have hw13_1 : al 1 := (zlit hR zf_1)
      have hv13_1 : al 1 := (zlit hR zf_1)
      obtain ⟨c13, s13, hc13, hs13, hf⟩ := hf
      refine z_callAVI (fr1 := 4) (mc := c13) (ms := s13) (b := 1) (As := [.int x1]) (rest := []) X (hr.call hc13 hs13 (by decide)) hR zy_X11_briefOf zq_797 (zlit hR zf_1) (by rw [zs_1]; rfl) rfl (mX11_briefOf  hf) rfl hl (Nat.le_of_ble_eq_true rfl) dX11_line_74 rfl (fun r13 w13 H locs ad13 al13 hf hE13 hR => ?_)
      have hX := hX.tr hE13
      have hr := hr.after hc13 hs13
      rw [← (hE13 1 hw13_1).2] at hl
      exact hQ _ _ _ _ _ _ _ _ _ _ hX (by have := hr.2.2.1; omega) (by have := hr.2.2.2; omega) hf hR dX11_line_77
    replace hf := hf.2 c12
    have ho12 : sv3.toInt < 0 ∨ 3 < sv3.toInt := by
      have := z_i32ne (k := (0 : Int32)) c4
      have := z_i32ne (k := (1 : Int32)) c7
      have := z_i32ne (k := (2 : Int32)) c9
      have := z_i32ne (k := (3 : Int32)) c12
      simp only [show ((0 : Int32)).toInt = 0 from by decide, show ((1 : Int32)).toInt = 1 from by decide, show ((2 : Int32)).toInt = 2 from by decide, show ((3 : Int32)).toInt = 3 from by decide] at *
      omega
    refine lv_tableOut (tgt := 78) hx hb dX11_line_12 ho12 (by decide) ?_
    refine lv_bipush (v := (-2 : Int32)) hx hb dX11_line_78 (by decide) ?_
    exact hQ _ _ _ _ _ _ _ _ _ _ hX (by have := hr.2.2.1; omega) (by have := hr.2.2.2; omega) hf hR dX11_line_80
  · replace hf := hf.2 c2
    refine lv_bipush (v := (-2 : Int32)) hx hb dX11_line_8 (by decide) ?_
    exact hQ _ _ _ _ _ _ _ _ _ _ hX (by have := hr.2.2.1; omega) (by have := hr.2.2.2; omega) hf hR dX11_line_10
/-! X11_there -/
def fX11_there (x1 : Int32) (x2 : Int32) (w : zW) (k : Int32 → zW → Prop) : Prop :=
  fX11_isRow x1 w (fun r1 w1 =>
  ((r1 = 0 →
    k (-1 : Int32) w1) ∧
   (¬ r1 = 0 →
    ¬ gR w1 1 9 = 0 ∧
    fX0_wordAt (gR w1 1 9) x1 x2 w1 (fun r4 w4 =>
    k r4 w4))))
set_option maxHeartbeats 4000000 in
set_option maxRecDepth 100000 in
theorem mX11_there {l : Launch} {D : va_G} {dA : Nat → ClassId} {ad : Nat → Nat} {al : Nat → Prop} {w : zW} {k : Int32 → zW → Prop} {x1 : Int32} {x2 : Int32}   (hf : fX11_there x1 x2 w k) : zmetI l yX11_there cX11_there 3 (some .int) 1 [.ref (ad 1), .int x1, .int x2] D dA true ad al w k := by
  refine zmetI_of (by decide) (Nat.le_of_ble_eq_true rfl) ?_
  intro p e R s m below meth c Q H ls args locs cells slots X hr hQ hR hl
  have hx := X.1
  have hb := X.2.1
  have hml := X.2.2.1
  have hown := X.2.2.2.1
  have hts := X.2.2.2.2.1
  unfold fX11_there at hf
  have hl : lv_has ls 3 [(0, .ref (ad 1)), (1, .int x1), (2, .int x2)] := hl
  refine lv_aload_n hx hb dX11_there_0 rfl (lv_at hl 0 rfl) ?_
  refine lv_iload_n hx hb dX11_there_1 rfl (lv_at hl 1 rfl) ?_
  refine z_callVI (fr1 := 0) (b := 1) (As := [.int x1]) (rest := []) X (hr.le (by decide)) hR zy_X11_isRow zq_781 (zlit hR zf_1) (by rw [zs_1]; rfl) rfl (mX11_isRow  hf) rfl hl (Nat.le_of_ble_eq_true rfl) dX11_there_2 rfl (fun r1 w1 H locs hf hR => ?_)
  refine lv_if_eq (tgt := 20) hx hb dX11_there_5 (by decide) (fun c2 => ?_) (fun c2 => ?_)
  · replace hf := hf.1 c2
    refine lv_iconst (v := (-1 : Int32)) hx hb dX11_there_20 (by decide) ?_
    exact hQ _ _ _ _ _ _ hf hR dX11_there_21
  · replace hf := hf.2 c2
    refine lv_aload_n hx hb dX11_there_8 rfl (lv_at hl 0 rfl) ?_
    refine z_getR X hR (zlit hR zf_1) zs_1 (by decide) zfd_X11_71 rfl dX11_there_9 ?_
    obtain ⟨hn30, hf⟩ := hf
    have hn3 : al (gR w1 1 9) ∧ zsh (gR w1 1 9) = 0 := zwt_of hR (zlit hR zf_1) zs_1 rfl hn30 (zdc_of zs_1 rfl)
    rw [zrf_pos hn30]
    refine lv_iload_n hx hb dX11_there_12 rfl (lv_at hl 1 rfl) ?_
    refine lv_iload_n hx hb dX11_there_13 rfl (lv_at hl 2 rfl) ?_
    refine z_callVI (fr1 := 0) (b := (gR w1 1 9)) (As := [.int x1, .int x2]) (rest := []) X (hr.le (by decide)) hR zy_X0_wordAt zq_864 hn3.1 (by rw [hn3.2]; rfl) rfl (mX0_wordAt ⟨hn3.1, hn3.2⟩ hf) rfl hl (Nat.le_of_ble_eq_true rfl) dX11_there_14 rfl (fun r4 w4 H locs hf hR => ?_)
    refine lv_goto (tgt := 21) hx hb dX11_there_17 (by decide) ?_
    exact hQ _ _ _ _ _ _ hf hR dX11_there_21
/-! X11_handChanged -/
def fX11_handChanged (w : zW) (k : zW → Prop) : Prop :=
  ∀ w1 : zW, w1 = sI w 24 1 (1 : Int32) →
  ∀ w2 : zW, w2 = sI w1 31 0 (1 : Int32) →
  k w2
set_option maxHeartbeats 4000000 in
set_option maxRecDepth 100000 in
theorem mX11_handChanged {l : Launch} {D : va_G} {dA : Nat → ClassId} {ad : Nat → Nat} {al : Nat → Prop} {w : zW} {k : zW → Prop}   (hf : fX11_handChanged w k) : zmetV l yX11_handChanged cX11_handChanged 1 none 0 [.ref (ad 1)] D dA true ad al w k := by
  refine zmetV_of (by decide) (Nat.le_of_ble_eq_true rfl) ?_
  intro p e R s m below meth c Q H ls args locs cells slots X hr hQ hR hl
  have hx := X.1
  have hb := X.2.1
  have hml := X.2.2.1
  have hown := X.2.2.2.1
  have hts := X.2.2.2.2.1
  unfold fX11_handChanged at hf
  have hl : lv_has ls 1 [(0, .ref (ad 1))] := hl
  refine lv_aload_n hx hb dX11_handChanged_0 rfl (lv_at hl 0 rfl) ?_
  refine z_getS X hR (zlit hR zf_1) zs_1 (by decide) zfd_X11_50 rfl (r := 24) (by decide +kernel) dX11_handChanged_1 ?_
  refine lv_iconst (v := (1 : Int32)) hx hb dX11_handChanged_4 (by decide) ?_
  refine z_putZ X hR (zlit hR zf_24) zs_24 (by decide) zfp_X11_114 rfl zb01_1 dX11_handChanged_5 (fun H locs hR => ?_)
  obtain ⟨w1, hw1⟩ : ∃ z : zW, z = sI w 24 1 (1 : Int32) := ⟨_, rfl⟩
  rw [← hw1] at hR
  replace hf := hf w1 hw1
  refine lv_aload_n hx hb dX11_handChanged_8 rfl (lv_at hl 0 rfl) ?_
  refine z_getS X hR (zlit hR zf_1) zs_1 (by decide) zfd_X11_64 rfl (r := 31) (by decide +kernel) dX11_handChanged_9 ?_
  refine lv_iconst (v := (1 : Int32)) hx hb dX11_handChanged_12 (by decide) ?_
  refine z_putZ X hR (zlit hR zf_31) zs_31 (by decide) zfp_X11_117 rfl zb01_1 dX11_handChanged_13 (fun H locs hR => ?_)
  obtain ⟨w2, hw2⟩ : ∃ z : zW, z = sI w1 31 0 (1 : Int32) := ⟨_, rfl⟩
  rw [← hw2] at hR
  replace hf := hf w2 hw2
  exact hQ _ _ _ _ _ hf hR dX11_handChanged_16
/-! X11_change -/
def fX11_change (x1 : Int32) (x2 : Int32) (w : zW) (k : Int32 → zW → Prop) : Prop :=
  fX3_put 9 x1 x2 w (fun r1 w1 =>
  fX6_keep x1 r1 w1 (fun w2 =>
  fX11_handChanged  w2 (fun w3 =>
  k r1 w3)))
set_option maxHeartbeats 4000000 in
set_option maxRecDepth 100000 in
theorem mX11_change {l : Launch} {D : va_G} {dA : Nat → ClassId} {ad : Nat → Nat} {al : Nat → Prop} {w : zW} {k : Int32 → zW → Prop} {x1 : Int32} {x2 : Int32}   (hf : fX11_change x1 x2 w k) : zmetI l yX11_change cX11_change 4 (some .int) 3 [.ref (ad 1), .int x1, .int x2] D dA true ad al w k := by
  refine zmetI_of (by decide) (Nat.le_of_ble_eq_true rfl) ?_
  intro p e R s m below meth c Q H ls args locs cells slots X hr hQ hR hl
  have hx := X.1
  have hb := X.2.1
  have hml := X.2.2.1
  have hown := X.2.2.2.1
  have hts := X.2.2.2.2.1
  unfold fX11_change at hf
  have hl : lv_has ls 4 [(0, .ref (ad 1)), (1, .int x1), (2, .int x2)] := hl
  refine lv_aload_n hx hb dX11_change_0 rfl (lv_at hl 0 rfl) ?_
  refine z_getS X hR (zlit hR zf_1) zs_1 (by decide) zfd_X11_28 rfl (r := 9) (by decide +kernel) dX11_change_1 ?_
  refine lv_iload_n hx hb dX11_change_4 rfl (lv_at hl 1 rfl) ?_
  refine lv_iload_n hx hb dX11_change_5 rfl (lv_at hl 2 rfl) ?_
  refine z_callVI (fr1 := 1) (b := 9) (As := [.int x1, .int x2]) (rest := []) X (hr.le (by decide)) hR zy_X3_put zq_884 (zlit hR zf_9) (by rw [zs_9]; rfl) rfl (mX3_put ⟨(zlit hR zf_9), zs_9⟩ hf) rfl hl (Nat.le_of_ble_eq_true rfl) dX11_change_6 rfl (fun r1 w1 H locs hf hR => ?_)
  refine lv_istore_n (lv' := [(3, .int r1), (0, .ref (ad 1)), (1, .int x1), (2, .int x2)]) hx hb dX11_change_9 rfl hl (by decide) rfl (fun ls hl => ?_)
  refine lv_aload_n hx hb dX11_change_10 rfl (lv_at hl 1 rfl) ?_
  refine z_getS X hR (zlit hR zf_1) zs_1 (by decide) zfd_X11_43 rfl (r := 21) (by decide +kernel) dX11_change_11 ?_
  refine lv_iload_n hx hb dX11_change_14 rfl (lv_at hl 2 rfl) ?_
  refine lv_iload_n hx hb dX11_change_15 rfl (lv_at hl 0 rfl) ?_
  refine z_callVV (fr1 := 2) (b := 21) (As := [.int x1, .int r1]) (rest := []) X (hr.le (by decide)) hR zy_X6_keep zq_892 (zlit hR zf_21) (by rw [zs_21]; rfl) rfl (mX6_keep  hf) rfl hl (Nat.le_of_ble_eq_true rfl) dX11_change_16 rfl (fun w2 H locs hf hR => ?_)
  refine lv_aload_n hx hb dX11_change_19 rfl (lv_at hl 1 rfl) ?_
  refine z_callVV (fr1 := 0) (b := 1) (As := []) (rest := []) X (hr.le (by decide)) hR zy_X11_handChanged zq_898 (zlit hR zf_1) (by rw [zs_1]; rfl) rfl (mX11_handChanged  hf) rfl hl (Nat.le_of_ble_eq_true rfl) dX11_change_20 rfl (fun w3 H locs hf hR => ?_)
  refine lv_iload_n hx hb dX11_change_23 rfl (lv_at hl 0 rfl) ?_
  exact hQ _ _ _ _ _ _ hf hR dX11_change_24
/-! X11_isMeaning -/
def fX11_isMeaning (x0 : Int32) (x1 : Int32) (w : zW) (k : Int32 → zW → Prop) : Prop :=
  ∀ v1 : Int32, v1 = (if x0 < 0 then (0 : Int32) else (if (2 : Int32) < x0 then (0 : Int32) else (if x1 < 0 then (0 : Int32) else (if (2 : Int32) < x1 then (0 : Int32) else (1 : Int32))))) →
  zb01 v1 ∧ k v1 w
set_option maxHeartbeats 4000000 in
set_option maxRecDepth 100000 in
theorem mX11_isMeaning {l : Launch} {D : va_G} {dA : Nat → ClassId} {ad : Nat → Nat} {al : Nat → Prop} {w : zW} {k : Int32 → zW → Prop} {x0 : Int32} {x1 : Int32}   (hf : fX11_isMeaning x0 x1 w k) : zmetI l yX11_isMeaning cX11_isMeaning 2 (some .boolean) 0 [.int x0, .int x1] D dA true ad al w k := by
  refine zmetZ_of (by decide) (Nat.le_of_ble_eq_true rfl) ?_
  intro p e R s m below meth c Q H ls args locs cells slots X hr hQ hR hl
  have hx := X.1
  have hb := X.2.1
  have hml := X.2.2.1
  have hown := X.2.2.2.1
  have hts := X.2.2.2.2.1
  unfold fX11_isMeaning at hf
  have hl : lv_has ls 2 [(0, .int x0), (1, .int x1)] := hl
  refine lv_iload_n hx hb dX11_isMeaning_0 rfl (lv_at hl 0 rfl) ?_
  have kJ1 : ∀ v1 : Int32, v1 = (if x0 < 0 then (0 : Int32) else (if (2 : Int32) < x0 then (0 : Int32) else (if x1 < 0 then (0 : Int32) else (if (2 : Int32) < x1 then (0 : Int32) else (1 : Int32))))) → W p l e R s m args below meth c H locs cells slots Q (F0 m 23 ls (.int v1 :: [])) := by
    intro v1 hv1
    replace hf := hf v1 hv1
    obtain ⟨h01, hf⟩ := hf
    exact hQ _ _ _ _ _ _ h01 hf hR dX11_isMeaning_23
  refine lv_if_lt (tgt := 22) hx hb dX11_isMeaning_1 (by decide) (fun c1 => ?_) (fun c1 => ?_)
  · refine lv_iconst (v := (0 : Int32)) hx hb dX11_isMeaning_22 (by decide) ?_
    exact kJ1 _ (if_pos c1).symm
  · refine lv_iload_n hx hb dX11_isMeaning_4 rfl (lv_at hl 0 rfl) ?_
    refine lv_iconst (v := (2 : Int32)) hx hb dX11_isMeaning_5 (by decide) ?_
    refine lv_icmp_gt (tgt := 22) hx hb dX11_isMeaning_6 (by decide) (fun c2 => ?_) (fun c2 => ?_)
    · refine lv_iconst (v := (0 : Int32)) hx hb dX11_isMeaning_22 (by decide) ?_
      exact kJ1 _ ((if_neg c1).trans (if_pos c2)).symm
    · refine lv_iload_n hx hb dX11_isMeaning_9 rfl (lv_at hl 1 rfl) ?_
      refine lv_if_lt (tgt := 22) hx hb dX11_isMeaning_10 (by decide) (fun c3 => ?_) (fun c3 => ?_)
      · refine lv_iconst (v := (0 : Int32)) hx hb dX11_isMeaning_22 (by decide) ?_
        exact kJ1 _ ((if_neg c1).trans ((if_neg c2).trans (if_pos c3))).symm
      · refine lv_iload_n hx hb dX11_isMeaning_13 rfl (lv_at hl 1 rfl) ?_
        refine lv_iconst (v := (2 : Int32)) hx hb dX11_isMeaning_14 (by decide) ?_
        refine lv_icmp_gt (tgt := 22) hx hb dX11_isMeaning_15 (by decide) (fun c4 => ?_) (fun c4 => ?_)
        · refine lv_iconst (v := (0 : Int32)) hx hb dX11_isMeaning_22 (by decide) ?_
          exact kJ1 _ ((if_neg c1).trans ((if_neg c2).trans ((if_neg c3).trans (if_pos c4)))).symm
        · refine lv_iconst (v := (1 : Int32)) hx hb dX11_isMeaning_18 (by decide) ?_
          refine lv_goto (tgt := 23) hx hb dX11_isMeaning_19 (by decide) ?_
          exact kJ1 _ ((if_neg c1).trans ((if_neg c2).trans ((if_neg c3).trans (if_neg c4)))).symm
/-! X11_guess -/
def fX11_guess (x1 : Int32) (x2 : Int32) (x3 : Int32) (w : zW) (k : Int32 → zW → Prop) : Prop :=
  fX11_isWord x1 w (fun r1 w1 =>
  ((r1 = 0 →
    k (-2 : Int32) w1) ∧
   (¬ r1 = 0 →
    fX11_isMeaning x2 x3 w1 (fun r3 w3 =>
    ((¬ r3 = 0 →
      ∀ v5 : Int32, v5 = ((3 : Int32) * x2) + x3 →
      ¬ gR w3 1 9 = 0 ∧
      fX0_means (gR w3 1 9) x1 v5 w3 (fun r7 w7 =>
      ((r7 = 0 →
        k (-2 : Int32) w7) ∧
       (¬ r7 = 0 →
        fX11_change x1 v5 w7 (fun r9 w9 =>
        k r9 w9))))) ∧
     (r3 = 0 →
      k (-2 : Int32) w3))))))
set_option maxHeartbeats 4000000 in
set_option maxRecDepth 100000 in
theorem mX11_guess {l : Launch} {D : va_G} {dA : Nat → ClassId} {ad : Nat → Nat} {al : Nat → Prop} {w : zW} {k : Int32 → zW → Prop} {x1 : Int32} {x2 : Int32} {x3 : Int32}   (hf : fX11_guess x1 x2 x3 w k) : zmetI l yX11_guess cX11_guess 5 (some .int) 4 [.ref (ad 1), .int x1, .int x2, .int x3] D dA true ad al w k := by
  refine zmetI_of (by decide) (Nat.le_of_ble_eq_true rfl) ?_
  intro p e R s m below meth c Q H ls args locs cells slots X hr hQ hR hl
  have hx := X.1
  have hb := X.2.1
  have hml := X.2.2.1
  have hown := X.2.2.2.1
  have hts := X.2.2.2.2.1
  unfold fX11_guess at hf
  have hl : lv_has ls 5 [(0, .ref (ad 1)), (1, .int x1), (2, .int x2), (3, .int x3)] := hl
  refine lv_aload_n hx hb dX11_guess_0 rfl (lv_at hl 0 rfl) ?_
  refine lv_iload_n hx hb dX11_guess_1 rfl (lv_at hl 1 rfl) ?_
  refine z_callVI (fr1 := 0) (b := 1) (As := [.int x1]) (rest := []) X (hr.le (by decide)) hR zy_X11_isWord zq_756 (zlit hR zf_1) (by rw [zs_1]; rfl) rfl (mX11_isWord  hf) rfl hl (Nat.le_of_ble_eq_true rfl) dX11_guess_2 rfl (fun r1 w1 H locs hf hR => ?_)
  refine lv_if_eq (tgt := 16) hx hb dX11_guess_5 (by decide) (fun c2 => ?_) (fun c2 => ?_)
  · replace hf := hf.1 c2
    refine lv_bipush (v := (-2 : Int32)) hx hb dX11_guess_16 (by decide) ?_
    exact hQ _ _ _ _ _ _ hf hR dX11_guess_18
  · replace hf := hf.2 c2
    refine lv_iload_n hx hb dX11_guess_8 rfl (lv_at hl 2 rfl) ?_
    refine lv_iload_n hx hb dX11_guess_9 rfl (lv_at hl 3 rfl) ?_
    refine z_callSI (fr1 := 0) (As := [.int x2, .int x3]) (rest := []) X (hr.le (by decide)) hR zy_X11_isMeaning zq_873 (mX11_isMeaning  hf) rfl hl (Nat.le_of_ble_eq_true rfl) dX11_guess_10 rfl (fun r3 w3 H locs hf hR => ?_)
    refine lv_if_ne (tgt := 19) hx hb dX11_guess_13 (by decide) (fun c4 => ?_) (fun c4 => ?_)
    · replace hf := hf.1 c4
      refine lv_iconst (v := (3 : Int32)) hx hb dX11_guess_19 (by decide) ?_
      refine lv_iload_n hx hb dX11_guess_20 rfl (lv_at hl 2 rfl) ?_
      refine lv_imul hx hb dX11_guess_21 ?_
      refine lv_iload_n hx hb dX11_guess_22 rfl (lv_at hl 3 rfl) ?_
      refine lv_iadd hx hb dX11_guess_23 ?_
      refine lv_topi (fun v5 hv5 => ?_)
      replace hf := hf v5 hv5
      refine lv_istore (lv' := [(4, .int v5), (0, .ref (ad 1)), (1, .int x1), (2, .int x2), (3, .int x3)]) hx hb dX11_guess_24 hl (by decide) rfl (fun ls hl => ?_)
      refine lv_aload_n hx hb dX11_guess_26 rfl (lv_at hl 1 rfl) ?_
      refine z_getR X hR (zlit hR zf_1) zs_1 (by decide) zfd_X11_71 rfl dX11_guess_27 ?_
      obtain ⟨hn60, hf⟩ := hf
      have hn6 : al (gR w3 1 9) ∧ zsh (gR w3 1 9) = 0 := zwt_of hR (zlit hR zf_1) zs_1 rfl hn60 (zdc_of zs_1 rfl)
      rw [zrf_pos hn60]
      refine lv_iload_n hx hb dX11_guess_30 rfl (lv_at hl 2 rfl) ?_
      refine lv_iload hx hb dX11_guess_31 (lv_at hl 0 rfl) ?_
      refine z_callVI (fr1 := 0) (b := (gR w3 1 9)) (As := [.int x1, .int v5]) (rest := []) X (hr.le (by decide)) hR zy_X0_means zq_876 hn6.1 (by rw [hn6.2]; rfl) rfl (mX0_means ⟨hn6.1, hn6.2⟩ hf) rfl hl (Nat.le_of_ble_eq_true rfl) dX11_guess_33 rfl (fun r7 w7 H locs hf hR => ?_)
      refine lv_if_eq (tgt := 49) hx hb dX11_guess_36 (by decide) (fun c8 => ?_) (fun c8 => ?_)
      · replace hf := hf.1 c8
        refine lv_bipush (v := (-2 : Int32)) hx hb dX11_guess_49 (by decide) ?_
        exact hQ _ _ _ _ _ _ hf hR dX11_guess_51
      · replace hf := hf.2 c8
        refine lv_aload_n hx hb dX11_guess_39 rfl (lv_at hl 1 rfl) ?_
        refine lv_iload_n hx hb dX11_guess_40 rfl (lv_at hl 2 rfl) ?_
        refine lv_iload hx hb dX11_guess_41 (lv_at hl 0 rfl) ?_
        refine z_callVI (fr1 := 3) (b := 1) (As := [.int x1, .int v5]) (rest := []) X (hr.le (by decide)) hR zy_X11_change zq_880 (zlit hR zf_1) (by rw [zs_1]; rfl) rfl (mX11_change  hf) rfl hl (Nat.le_of_ble_eq_true rfl) dX11_guess_43 rfl (fun r9 w9 H locs hf hR => ?_)
        refine lv_goto (tgt := 51) hx hb dX11_guess_46 (by decide) ?_
        exact hQ _ _ _ _ _ _ hf hR dX11_guess_51
    · replace hf := hf.2 c4
      refine lv_bipush (v := (-2 : Int32)) hx hb dX11_guess_16 (by decide) ?_
      exact hQ _ _ _ _ _ _ hf hR dX11_guess_18
/-! X11_forget -/
def fX11_forget_J25 (k : Int32 → zW → Prop) (x1 : Int32) (t0 : Int32) (w : zW) : Prop :=
  ((t0 = 0 →
    k (-1 : Int32) w) ∧
   (¬ t0 = 0 →
    fX11_change x1 (-1 : Int32) w (fun r4 w4 =>
    k r4 w4)))
set_option maxHeartbeats 4000000 in
set_option maxRecDepth 100000 in
theorem mX11_forget_J25 {k : Int32 → zW → Prop} (X : zCx p s m args meth c cX11_forget 3 RX11 (some .int)) (hr : zRm R 4 cells slots) (hQ : zRetI p l e R s m args below meth c cells slots Q D dA true ad0 al0 ad al cX11_forget k)  {x1 : Int32} {t0 : Int32} {w : zW} {H : Heap} {locs : List Loc} {ls : Array Slot} (hf : fX11_forget_J25 k x1 t0 w) (hR : zSt D dA true ad0 al0 ad al w s H locs) (hl : lv_has ls 3 [(0, .ref (ad 1)), (1, .int x1)]) : W p l e R s m args below meth c H locs cells slots Q (F0 m 25 ls [.int t0]) := by
  have hx := X.1
  have hb := X.2.1
  have hml := X.2.2.1
  have hown := X.2.2.2.1
  have hts := X.2.2.2.2.1
  unfold fX11_forget_J25 at hf
  refine lv_istore_n (lv' := [(2, .int t0), (0, .ref (ad 1)), (1, .int x1)]) hx hb dX11_forget_25 rfl hl (by decide) rfl (fun ls hl => ?_)
  refine lv_iload_n hx hb dX11_forget_26 rfl (lv_at hl 0 rfl) ?_
  refine lv_if_eq (tgt := 39) hx hb dX11_forget_27 (by decide) (fun c3 => ?_) (fun c3 => ?_)
  · replace hf := hf.1 c3
    refine lv_iconst (v := (-1 : Int32)) hx hb dX11_forget_39 (by decide) ?_
    exact hQ _ _ _ _ _ _ hf hR dX11_forget_40
  · replace hf := hf.2 c3
    refine lv_aload_n hx hb dX11_forget_30 rfl (lv_at hl 1 rfl) ?_
    refine lv_iload_n hx hb dX11_forget_31 rfl (lv_at hl 2 rfl) ?_
    refine lv_iconst (v := (-1 : Int32)) hx hb dX11_forget_32 (by decide) ?_
    refine z_callVI (fr1 := 3) (b := 1) (As := [.int x1, .int (-1 : Int32)]) (rest := []) X (hr.le (by decide)) hR zy_X11_change zq_880 (zlit hR zf_1) (by rw [zs_1]; rfl) rfl (mX11_change  hf) rfl hl (Nat.le_of_ble_eq_true rfl) dX11_forget_33 rfl (fun r4 w4 H locs hf hR => ?_)
    refine lv_goto (tgt := 40) hx hb dX11_forget_36 (by decide) ?_
    exact hQ _ _ _ _ _ _ hf hR dX11_forget_40
def fX11_forget (x1 : Int32) (w : zW) (k : Int32 → zW → Prop) : Prop :=
  fX11_isWord x1 w (fun r1 w1 =>
  ((r1 = 0 →
    fX11_forget_J25 k x1 (0 : Int32) w1) ∧
   (¬ r1 = 0 →
    fX3_guessOf 9 x1 w1 (fun r5 w5 =>
    ∀ v6 : Int32, v6 = (if r5 = (-1 : Int32) then (0 : Int32) else (1 : Int32)) →
    fX11_forget_J25 k x1 v6 w5))))
set_option maxHeartbeats 4000000 in
set_option maxRecDepth 100000 in
theorem mX11_forget {l : Launch} {D : va_G} {dA : Nat → ClassId} {ad : Nat → Nat} {al : Nat → Prop} {w : zW} {k : Int32 → zW → Prop} {x1 : Int32}   (hf : fX11_forget x1 w k) : zmetI l yX11_forget cX11_forget 3 (some .int) 4 [.ref (ad 1), .int x1] D dA true ad al w k := by
  refine zmetI_of (by decide) (Nat.le_of_ble_eq_true rfl) ?_
  intro p e R s m below meth c Q H ls args locs cells slots X hr hQ hR hl
  have hx := X.1
  have hb := X.2.1
  have hml := X.2.2.1
  have hown := X.2.2.2.1
  have hts := X.2.2.2.2.1
  unfold fX11_forget at hf
  have hl : lv_has ls 3 [(0, .ref (ad 1)), (1, .int x1)] := hl
  refine lv_aload_n hx hb dX11_forget_0 rfl (lv_at hl 0 rfl) ?_
  refine lv_iload_n hx hb dX11_forget_1 rfl (lv_at hl 1 rfl) ?_
  refine z_callVI (fr1 := 0) (b := 1) (As := [.int x1]) (rest := []) X (hr.le (by decide)) hR zy_X11_isWord zq_756 (zlit hR zf_1) (by rw [zs_1]; rfl) rfl (mX11_isWord  hf) rfl hl (Nat.le_of_ble_eq_true rfl) dX11_forget_2 rfl (fun r1 w1 H locs hf hR => ?_)
  refine lv_if_eq (tgt := 24) hx hb dX11_forget_5 (by decide) (fun c2 => ?_) (fun c2 => ?_)
  · replace hf := hf.1 c2
    refine lv_iconst (v := (0 : Int32)) hx hb dX11_forget_24 (by decide) ?_
    exact mX11_forget_J25 X hr hQ  hf hR (lv_sub hl [0, 1] rfl)
  · replace hf := hf.2 c2
    refine lv_aload_n hx hb dX11_forget_8 rfl (lv_at hl 0 rfl) ?_
    refine z_getS X hR (zlit hR zf_1) zs_1 (by decide) zfd_X11_28 rfl (r := 9) (by decide +kernel) dX11_forget_9 ?_
    refine lv_iload_n hx hb dX11_forget_12 rfl (lv_at hl 1 rfl) ?_
    refine z_callVI (fr1 := 0) (b := 9) (As := [.int x1]) (rest := []) X (hr.le (by decide)) hR zy_X3_guessOf zq_761 (zlit hR zf_9) (by rw [zs_9]; rfl) rfl (mX3_guessOf ⟨(zlit hR zf_9), zs_9⟩ hf) rfl hl (Nat.le_of_ble_eq_true rfl) dX11_forget_13 rfl (fun r5 w5 H locs hf hR => ?_)
    refine lv_iconst (v := (-1 : Int32)) hx hb dX11_forget_16 (by decide) ?_
    have kJ6 : ∀ v6 : Int32, v6 = (if r5 = (-1 : Int32) then (0 : Int32) else (1 : Int32)) → W p l e R s m args below meth c H locs cells slots Q (F0 m 25 ls (.int v6 :: [])) := by
      intro v6 hv6
      replace hf := hf v6 hv6
      exact mX11_forget_J25 X hr hQ  hf hR (lv_sub hl [0, 1] rfl)
    refine lv_icmp_eq (tgt := 24) hx hb dX11_forget_17 (by decide) (fun c6 => ?_) (fun c6 => ?_)
    · refine lv_iconst (v := (0 : Int32)) hx hb dX11_forget_24 (by decide) ?_
      exact kJ6 _ (if_pos c6).symm
    · refine lv_iconst (v := (1 : Int32)) hx hb dX11_forget_20 (by decide) ?_
      refine lv_goto (tgt := 25) hx hb dX11_forget_21 (by decide) ?_
      exact kJ6 _ (if_neg c6).symm
/-! X11_isCount -/
def fX11_isCount (x0 : Int32) (w : zW) (k : Int32 → zW → Prop) : Prop :=
  ∀ v1 : Int32, v1 = (if x0 < 0 then (0 : Int32) else (if (99 : Int32) < x0 then (0 : Int32) else (1 : Int32))) →
  zb01 v1 ∧ k v1 w
set_option maxHeartbeats 4000000 in
set_option maxRecDepth 100000 in
theorem mX11_isCount {l : Launch} {D : va_G} {dA : Nat → ClassId} {ad : Nat → Nat} {al : Nat → Prop} {w : zW} {k : Int32 → zW → Prop} {x0 : Int32}   (hf : fX11_isCount x0 w k) : zmetI l yX11_isCount cX11_isCount 1 (some .boolean) 0 [.int x0] D dA true ad al w k := by
  refine zmetZ_of (by decide) (Nat.le_of_ble_eq_true rfl) ?_
  intro p e R s m below meth c Q H ls args locs cells slots X hr hQ hR hl
  have hx := X.1
  have hb := X.2.1
  have hml := X.2.2.1
  have hown := X.2.2.2.1
  have hts := X.2.2.2.2.1
  unfold fX11_isCount at hf
  have hl : lv_has ls 1 [(0, .int x0)] := hl
  refine lv_iload_n hx hb dX11_isCount_0 rfl (lv_at hl 0 rfl) ?_
  have kJ1 : ∀ v1 : Int32, v1 = (if x0 < 0 then (0 : Int32) else (if (99 : Int32) < x0 then (0 : Int32) else (1 : Int32))) → W p l e R s m args below meth c H locs cells slots Q (F0 m 15 ls (.int v1 :: [])) := by
    intro v1 hv1
    replace hf := hf v1 hv1
    obtain ⟨h01, hf⟩ := hf
    exact hQ _ _ _ _ _ _ h01 hf hR dX11_isCount_15
  refine lv_if_lt (tgt := 14) hx hb dX11_isCount_1 (by decide) (fun c1 => ?_) (fun c1 => ?_)
  · refine lv_iconst (v := (0 : Int32)) hx hb dX11_isCount_14 (by decide) ?_
    exact kJ1 _ (if_pos c1).symm
  · refine lv_iload_n hx hb dX11_isCount_4 rfl (lv_at hl 0 rfl) ?_
    refine lv_bipush (v := (99 : Int32)) hx hb dX11_isCount_5 (by decide) ?_
    refine lv_icmp_gt (tgt := 14) hx hb dX11_isCount_7 (by decide) (fun c2 => ?_) (fun c2 => ?_)
    · refine lv_iconst (v := (0 : Int32)) hx hb dX11_isCount_14 (by decide) ?_
      exact kJ1 _ ((if_neg c1).trans (if_pos c2)).symm
    · refine lv_iconst (v := (1 : Int32)) hx hb dX11_isCount_10 (by decide) ?_
      refine lv_goto (tgt := 15) hx hb dX11_isCount_11 (by decide) ?_
      exact kJ1 _ ((if_neg c1).trans (if_neg c2)).symm
/-! X11_tell -/
def fX11_tell_J20 (k : Int32 → zW → Prop) (x1 : Int32) (x2 : Int32) (t0 : Int32) (w : zW) : Prop :=
  ((t0 = 0 →
    k (-2 : Int32) w) ∧
   (¬ t0 = 0 →
    fX11_change ((4 : Int32) + x1) x2 w (fun r4 w4 =>
    k r4 w4)))
set_option maxHeartbeats 4000000 in
set_option maxRecDepth 100000 in
theorem mX11_tell_J20 {k : Int32 → zW → Prop} (X : zCx p s m args meth c cX11_tell 4 RX11 (some .int)) (hr : zRm R 4 cells slots) (hQ : zRetI p l e R s m args below meth c cells slots Q D dA true ad0 al0 ad al cX11_tell k)  {x1 : Int32} {x2 : Int32} {t0 : Int32} {w : zW} {H : Heap} {locs : List Loc} {ls : Array Slot} (hf : fX11_tell_J20 k x1 x2 t0 w) (hR : zSt D dA true ad0 al0 ad al w s H locs) (hl : lv_has ls 4 [(0, .ref (ad 1)), (1, .int x1), (2, .int x2)]) : W p l e R s m args below meth c H locs cells slots Q (F0 m 20 ls [.int t0]) := by
  have hx := X.1
  have hb := X.2.1
  have hml := X.2.2.1
  have hown := X.2.2.2.1
  have hts := X.2.2.2.2.1
  unfold fX11_tell_J20 at hf
  refine lv_istore_n (lv' := [(3, .int t0), (0, .ref (ad 1)), (1, .int x1), (2, .int x2)]) hx hb dX11_tell_20 rfl hl (by decide) rfl (fun ls hl => ?_)
  refine lv_iload_n hx hb dX11_tell_21 rfl (lv_at hl 0 rfl) ?_
  refine lv_if_eq (tgt := 36) hx hb dX11_tell_22 (by decide) (fun c3 => ?_) (fun c3 => ?_)
  · replace hf := hf.1 c3
    refine lv_bipush (v := (-2 : Int32)) hx hb dX11_tell_36 (by decide) ?_
    exact hQ _ _ _ _ _ _ hf hR dX11_tell_38
  · replace hf := hf.2 c3
    refine lv_aload_n hx hb dX11_tell_25 rfl (lv_at hl 1 rfl) ?_
    refine lv_iconst (v := (4 : Int32)) hx hb dX11_tell_26 (by decide) ?_
    refine lv_iload_n hx hb dX11_tell_27 rfl (lv_at hl 2 rfl) ?_
    refine lv_iadd hx hb dX11_tell_28 ?_
    refine lv_iload_n hx hb dX11_tell_29 rfl (lv_at hl 3 rfl) ?_
    refine z_callVI (fr1 := 3) (b := 1) (As := [.int ((4 : Int32) + x1), .int x2]) (rest := []) X (hr.le (by decide)) hR zy_X11_change zq_880 (zlit hR zf_1) (by rw [zs_1]; rfl) rfl (mX11_change  hf) rfl hl (Nat.le_of_ble_eq_true rfl) dX11_tell_30 rfl (fun r4 w4 H locs hf hR => ?_)
    refine lv_goto (tgt := 38) hx hb dX11_tell_33 (by decide) ?_
    exact hQ _ _ _ _ _ _ hf hR dX11_tell_38
def fX11_tell (x1 : Int32) (x2 : Int32) (w : zW) (k : Int32 → zW → Prop) : Prop :=
  fX11_isRow x1 w (fun r1 w1 =>
  ((r1 = 0 →
    fX11_tell_J20 k x1 x2 (0 : Int32) w1) ∧
   (¬ r1 = 0 →
    fX11_isCount x2 w1 (fun r5 w5 =>
    ∀ v6 : Int32, v6 = (if r5 = 0 then (0 : Int32) else (1 : Int32)) →
    fX11_tell_J20 k x1 x2 v6 w5))))
set_option maxHeartbeats 4000000 in
set_option maxRecDepth 100000 in
theorem mX11_tell {l : Launch} {D : va_G} {dA : Nat → ClassId} {ad : Nat → Nat} {al : Nat → Prop} {w : zW} {k : Int32 → zW → Prop} {x1 : Int32} {x2 : Int32}   (hf : fX11_tell x1 x2 w k) : zmetI l yX11_tell cX11_tell 4 (some .int) 4 [.ref (ad 1), .int x1, .int x2] D dA true ad al w k := by
  refine zmetI_of (by decide) (Nat.le_of_ble_eq_true rfl) ?_
  intro p e R s m below meth c Q H ls args locs cells slots X hr hQ hR hl
  have hx := X.1
  have hb := X.2.1
  have hml := X.2.2.1
  have hown := X.2.2.2.1
  have hts := X.2.2.2.2.1
  unfold fX11_tell at hf
  have hl : lv_has ls 4 [(0, .ref (ad 1)), (1, .int x1), (2, .int x2)] := hl
  refine lv_aload_n hx hb dX11_tell_0 rfl (lv_at hl 0 rfl) ?_
  refine lv_iload_n hx hb dX11_tell_1 rfl (lv_at hl 1 rfl) ?_
  refine z_callVI (fr1 := 0) (b := 1) (As := [.int x1]) (rest := []) X (hr.le (by decide)) hR zy_X11_isRow zq_781 (zlit hR zf_1) (by rw [zs_1]; rfl) rfl (mX11_isRow  hf) rfl hl (Nat.le_of_ble_eq_true rfl) dX11_tell_2 rfl (fun r1 w1 H locs hf hR => ?_)
  refine lv_if_eq (tgt := 19) hx hb dX11_tell_5 (by decide) (fun c2 => ?_) (fun c2 => ?_)
  · replace hf := hf.1 c2
    refine lv_iconst (v := (0 : Int32)) hx hb dX11_tell_19 (by decide) ?_
    exact mX11_tell_J20 X hr hQ  hf hR (lv_sub hl [0, 1, 2] rfl)
  · replace hf := hf.2 c2
    refine lv_iload_n hx hb dX11_tell_8 rfl (lv_at hl 2 rfl) ?_
    refine z_callSI (fr1 := 0) (As := [.int x2]) (rest := []) X (hr.le (by decide)) hR zy_X11_isCount zq_930 (mX11_isCount  hf) rfl hl (Nat.le_of_ble_eq_true rfl) dX11_tell_9 rfl (fun r5 w5 H locs hf hR => ?_)
    have kJ6 : ∀ v6 : Int32, v6 = (if r5 = 0 then (0 : Int32) else (1 : Int32)) → W p l e R s m args below meth c H locs cells slots Q (F0 m 20 ls (.int v6 :: [])) := by
      intro v6 hv6
      replace hf := hf v6 hv6
      exact mX11_tell_J20 X hr hQ  hf hR (lv_sub hl [0, 1, 2] rfl)
    refine lv_if_eq (tgt := 19) hx hb dX11_tell_12 (by decide) (fun c6 => ?_) (fun c6 => ?_)
    · refine lv_iconst (v := (0 : Int32)) hx hb dX11_tell_19 (by decide) ?_
      exact kJ6 _ (if_pos c6).symm
    · refine lv_iconst (v := (1 : Int32)) hx hb dX11_tell_15 (by decide) ?_
      refine lv_goto (tgt := 20) hx hb dX11_tell_16 (by decide) ?_
      exact kJ6 _ (if_neg c6).symm
/-! X11_drop -/
def fX11_drop_J25 (k : Int32 → zW → Prop) (x1 : Int32) (t0 : Int32) (w : zW) : Prop :=
  ((t0 = 0 →
    k (-1 : Int32) w) ∧
   (¬ t0 = 0 →
    fX11_change ((4 : Int32) + x1) (-1 : Int32) w (fun r4 w4 =>
    k r4 w4)))
set_option maxHeartbeats 4000000 in
set_option maxRecDepth 100000 in
theorem mX11_drop_J25 {k : Int32 → zW → Prop} (X : zCx p s m args meth c cX11_drop 3 RX11 (some .int)) (hr : zRm R 4 cells slots) (hQ : zRetI p l e R s m args below meth c cells slots Q D dA true ad0 al0 ad al cX11_drop k)  {x1 : Int32} {t0 : Int32} {w : zW} {H : Heap} {locs : List Loc} {ls : Array Slot} (hf : fX11_drop_J25 k x1 t0 w) (hR : zSt D dA true ad0 al0 ad al w s H locs) (hl : lv_has ls 3 [(0, .ref (ad 1)), (1, .int x1)]) : W p l e R s m args below meth c H locs cells slots Q (F0 m 25 ls [.int t0]) := by
  have hx := X.1
  have hb := X.2.1
  have hml := X.2.2.1
  have hown := X.2.2.2.1
  have hts := X.2.2.2.2.1
  unfold fX11_drop_J25 at hf
  refine lv_istore_n (lv' := [(2, .int t0), (0, .ref (ad 1)), (1, .int x1)]) hx hb dX11_drop_25 rfl hl (by decide) rfl (fun ls hl => ?_)
  refine lv_iload_n hx hb dX11_drop_26 rfl (lv_at hl 0 rfl) ?_
  refine lv_if_eq (tgt := 41) hx hb dX11_drop_27 (by decide) (fun c3 => ?_) (fun c3 => ?_)
  · replace hf := hf.1 c3
    refine lv_iconst (v := (-1 : Int32)) hx hb dX11_drop_41 (by decide) ?_
    exact hQ _ _ _ _ _ _ hf hR dX11_drop_42
  · replace hf := hf.2 c3
    refine lv_aload_n hx hb dX11_drop_30 rfl (lv_at hl 1 rfl) ?_
    refine lv_iconst (v := (4 : Int32)) hx hb dX11_drop_31 (by decide) ?_
    refine lv_iload_n hx hb dX11_drop_32 rfl (lv_at hl 2 rfl) ?_
    refine lv_iadd hx hb dX11_drop_33 ?_
    refine lv_iconst (v := (-1 : Int32)) hx hb dX11_drop_34 (by decide) ?_
    refine z_callVI (fr1 := 3) (b := 1) (As := [.int ((4 : Int32) + x1), .int (-1 : Int32)]) (rest := []) X (hr.le (by decide)) hR zy_X11_change zq_880 (zlit hR zf_1) (by rw [zs_1]; rfl) rfl (mX11_change  hf) rfl hl (Nat.le_of_ble_eq_true rfl) dX11_drop_35 rfl (fun r4 w4 H locs hf hR => ?_)
    refine lv_goto (tgt := 42) hx hb dX11_drop_38 (by decide) ?_
    exact hQ _ _ _ _ _ _ hf hR dX11_drop_42
def fX11_drop (x1 : Int32) (w : zW) (k : Int32 → zW → Prop) : Prop :=
  fX11_isRow x1 w (fun r1 w1 =>
  ((r1 = 0 →
    fX11_drop_J25 k x1 (0 : Int32) w1) ∧
   (¬ r1 = 0 →
    fX3_countOf 9 x1 w1 (fun r5 w5 =>
    ∀ v6 : Int32, v6 = (if r5 = (-1 : Int32) then (0 : Int32) else (1 : Int32)) →
    fX11_drop_J25 k x1 v6 w5))))
set_option maxHeartbeats 4000000 in
set_option maxRecDepth 100000 in
theorem mX11_drop {l : Launch} {D : va_G} {dA : Nat → ClassId} {ad : Nat → Nat} {al : Nat → Prop} {w : zW} {k : Int32 → zW → Prop} {x1 : Int32}   (hf : fX11_drop x1 w k) : zmetI l yX11_drop cX11_drop 3 (some .int) 4 [.ref (ad 1), .int x1] D dA true ad al w k := by
  refine zmetI_of (by decide) (Nat.le_of_ble_eq_true rfl) ?_
  intro p e R s m below meth c Q H ls args locs cells slots X hr hQ hR hl
  have hx := X.1
  have hb := X.2.1
  have hml := X.2.2.1
  have hown := X.2.2.2.1
  have hts := X.2.2.2.2.1
  unfold fX11_drop at hf
  have hl : lv_has ls 3 [(0, .ref (ad 1)), (1, .int x1)] := hl
  refine lv_aload_n hx hb dX11_drop_0 rfl (lv_at hl 0 rfl) ?_
  refine lv_iload_n hx hb dX11_drop_1 rfl (lv_at hl 1 rfl) ?_
  refine z_callVI (fr1 := 0) (b := 1) (As := [.int x1]) (rest := []) X (hr.le (by decide)) hR zy_X11_isRow zq_781 (zlit hR zf_1) (by rw [zs_1]; rfl) rfl (mX11_isRow  hf) rfl hl (Nat.le_of_ble_eq_true rfl) dX11_drop_2 rfl (fun r1 w1 H locs hf hR => ?_)
  refine lv_if_eq (tgt := 24) hx hb dX11_drop_5 (by decide) (fun c2 => ?_) (fun c2 => ?_)
  · replace hf := hf.1 c2
    refine lv_iconst (v := (0 : Int32)) hx hb dX11_drop_24 (by decide) ?_
    exact mX11_drop_J25 X hr hQ  hf hR (lv_sub hl [0, 1] rfl)
  · replace hf := hf.2 c2
    refine lv_aload_n hx hb dX11_drop_8 rfl (lv_at hl 0 rfl) ?_
    refine z_getS X hR (zlit hR zf_1) zs_1 (by decide) zfd_X11_28 rfl (r := 9) (by decide +kernel) dX11_drop_9 ?_
    refine lv_iload_n hx hb dX11_drop_12 rfl (lv_at hl 1 rfl) ?_
    refine z_callVI (fr1 := 0) (b := 9) (As := [.int x1]) (rest := []) X (hr.le (by decide)) hR zy_X3_countOf zq_786 (zlit hR zf_9) (by rw [zs_9]; rfl) rfl (mX3_countOf ⟨(zlit hR zf_9), zs_9⟩ hf) rfl hl (Nat.le_of_ble_eq_true rfl) dX11_drop_13 rfl (fun r5 w5 H locs hf hR => ?_)
    refine lv_iconst (v := (-1 : Int32)) hx hb dX11_drop_16 (by decide) ?_
    have kJ6 : ∀ v6 : Int32, v6 = (if r5 = (-1 : Int32) then (0 : Int32) else (1 : Int32)) → W p l e R s m args below meth c H locs cells slots Q (F0 m 25 ls (.int v6 :: [])) := by
      intro v6 hv6
      replace hf := hf v6 hv6
      exact mX11_drop_J25 X hr hQ  hf hR (lv_sub hl [0, 1] rfl)
    refine lv_icmp_eq (tgt := 24) hx hb dX11_drop_17 (by decide) (fun c6 => ?_) (fun c6 => ?_)
    · refine lv_iconst (v := (0 : Int32)) hx hb dX11_drop_24 (by decide) ?_
      exact kJ6 _ (if_pos c6).symm
    · refine lv_iconst (v := (1 : Int32)) hx hb dX11_drop_20 (by decide) ?_
      refine lv_goto (tgt := 25) hx hb dX11_drop_21 (by decide) ?_
      exact kJ6 _ (if_neg c6).symm
/-! X11_undo -/
def fX11_undo (w : zW) (k : Int32 → zW → Prop) : Prop :=
  fX6_takeBack 9 w (fun r1 w1 =>
  ((r1 = 0 →
    zb01 r1 ∧ k r1 w1) ∧
   (¬ r1 = 0 →
    fX11_handChanged  w1 (fun w3 =>
    zb01 r1 ∧ k r1 w3))))
set_option maxHeartbeats 4000000 in
set_option maxRecDepth 100000 in
theorem mX11_undo {l : Launch} {D : va_G} {dA : Nat → ClassId} {ad : Nat → Nat} {al : Nat → Prop} {w : zW} {k : Int32 → zW → Prop}   (hf : fX11_undo w k) : zmetI l yX11_undo cX11_undo 2 (some .boolean) 3 [.ref (ad 1)] D dA true ad al w k := by
  refine zmetZ_of (by decide) (Nat.le_of_ble_eq_true rfl) ?_
  intro p e R s m below meth c Q H ls args locs cells slots X hr hQ hR hl
  have hx := X.1
  have hb := X.2.1
  have hml := X.2.2.1
  have hown := X.2.2.2.1
  have hts := X.2.2.2.2.1
  unfold fX11_undo at hf
  have hl : lv_has ls 2 [(0, .ref (ad 1))] := hl
  refine lv_aload_n hx hb dX11_undo_0 rfl (lv_at hl 0 rfl) ?_
  refine z_getS X hR (zlit hR zf_1) zs_1 (by decide) zfd_X11_43 rfl (r := 21) (by decide +kernel) dX11_undo_1 ?_
  refine lv_aload_n hx hb dX11_undo_4 rfl (lv_at hl 0 rfl) ?_
  refine z_getS X hR (zlit hR zf_1) zs_1 (by decide) zfd_X11_28 rfl (r := 9) (by decide +kernel) dX11_undo_5 ?_
  refine z_callVI (fr1 := 2) (b := 21) (As := [.ref (ad 9)]) (rest := []) X (hr.le (by decide)) hR zy_X6_takeBack zq_949 (zlit hR zf_21) (by rw [zs_21]; rfl) rfl (mX6_takeBack ⟨(zlit hR zf_9), zs_9⟩ hf) rfl hl (Nat.le_of_ble_eq_true rfl) dX11_undo_8 rfl (fun r1 w1 H locs hf hR => ?_)
  refine lv_istore_n (lv' := [(1, .int r1), (0, .ref (ad 1))]) hx hb dX11_undo_11 rfl hl (by decide) rfl (fun ls hl => ?_)
  refine lv_iload_n hx hb dX11_undo_12 rfl (lv_at hl 0 rfl) ?_
  refine lv_if_eq (tgt := 20) hx hb dX11_undo_13 (by decide) (fun c2 => ?_) (fun c2 => ?_)
  · replace hf := hf.1 c2
    refine lv_iload_n hx hb dX11_undo_20 rfl (lv_at hl 0 rfl) ?_
    obtain ⟨h01, hf⟩ := hf
    exact hQ _ _ _ _ _ _ h01 hf hR dX11_undo_21
  · replace hf := hf.2 c2
    refine lv_aload_n hx hb dX11_undo_16 rfl (lv_at hl 1 rfl) ?_
    refine z_callVV (fr1 := 0) (b := 1) (As := []) (rest := []) X (hr.le (by decide)) hR zy_X11_handChanged zq_898 (zlit hR zf_1) (by rw [zs_1]; rfl) rfl (mX11_handChanged  hf) rfl hl (Nat.le_of_ble_eq_true rfl) dX11_undo_17 rfl (fun w3 H locs hf hR => ?_)
    refine lv_iload_n hx hb dX11_undo_20 rfl (lv_at hl 0 rfl) ?_
    obtain ⟨h01, hf⟩ := hf
    exact hQ _ _ _ _ _ _ h01 hf hR dX11_undo_21
/-! X11_laidShelf -/
def fX11_laidShelf (mc ms : Nat) (w : zW) (k : zW → Prop) : Prop :=
  (((gI w 24 0) = 0 →
    k w) ∧
   (¬ (gI w 24 0) = 0 →
    ¬ gR w 1 9 = 0 ∧
    ∃ c3 s3, c3 ≤ mc ∧ s3 ≤ ms ∧ fX8_lay c3 s3 (gR w 1 9) w (fun w3 =>
    k w3)))
set_option maxHeartbeats 4000000 in
set_option maxRecDepth 100000 in
theorem mX11_laidShelf {l : Launch} {D : va_G} {dA : Nat → ClassId} {ad : Nat → Nat} {al : Nat → Prop} {w : zW} {mc ms : Nat} {k : zW → Prop}  (hf : fX11_laidShelf mc ms w k) : zmetAR l yX11_laidShelf cX11_laidShelf 1 (some (.object "ForeignKnit$Shelf")) 3 mc ms 24 [.ref (ad 1)] D dA true ad al w k := by
  refine zmetAR_of (by decide) (Nat.le_of_ble_eq_true rfl) (show zgh true w 24 from Or.inl zf_24) ?_
  intro p e R s m below meth c Q H ls args locs cells slots X hr hQ hR hl
  have hx := X.1
  have hb := X.2.1
  have hml := X.2.2.1
  have hown := X.2.2.2.1
  have hts := X.2.2.2.2.1
  unfold fX11_laidShelf at hf
  have hl : lv_has ls 1 [(0, .ref (ad 1))] := hl
  have hX : zExt ad al ad al := zExt.rf
  refine lv_aload_n hx hb dX11_laidShelf_0 rfl (lv_at hl 0 rfl) ?_
  refine z_getS X hR (zlit hR zf_1) zs_1 (by decide) zfd_X11_50 rfl (r := 24) (by decide +kernel) dX11_laidShelf_1 ?_
  refine z_getI X hR (zlit hR zf_24) zs_24 (by decide) zfd_X11_110 rfl dX11_laidShelf_4 ?_
  refine lv_if_eq (tgt := 21) hx hb dX11_laidShelf_7 (by decide) (fun c1 => ?_) (fun c1 => ?_)
  · replace hf := hf.1 c1
    refine lv_aload_n hx hb dX11_laidShelf_21 rfl (lv_at hl 0 rfl) ?_
    refine z_getS X hR (zlit hR zf_1) zs_1 (by decide) zfd_X11_50 rfl (r := 24) (by decide +kernel) dX11_laidShelf_22 ?_
    exact hQ _ _ _ _ _ _ _ _ _ hX (by have := hr.2.2.1; omega) (by have := hr.2.2.2; omega) hf hR dX11_laidShelf_25
  · replace hf := hf.2 c1
    refine lv_aload_n hx hb dX11_laidShelf_10 rfl (lv_at hl 0 rfl) ?_
    refine z_getS X hR (zlit hR zf_1) zs_1 (by decide) zfd_X11_50 rfl (r := 24) (by decide +kernel) dX11_laidShelf_11 ?_
    refine lv_aload_n hx hb dX11_laidShelf_14 rfl (lv_at hl 0 rfl) ?_
    refine z_getR X hR (zlit hR zf_1) zs_1 (by decide) zfd_X11_71 rfl dX11_laidShelf_15 ?_
    obtain ⟨hn20, hf⟩ := hf
    have hn2 : al (gR w 1 9) ∧ zsh (gR w 1 9) = 0 := zwt_of hR (zlit hR zf_1) zs_1 rfl hn20 (zdc_of zs_1 rfl)
    rw [zrf_pos hn20]
    have hw3_1 : al 1 := (zlit hR zf_1)
    have hv3_1 : al (gR w 1 9) := hn2.1
    have hv3_2 : al 24 := (zlit hR zf_24)
    obtain ⟨c3, s3, hc3, hs3, hf⟩ := hf
    refine z_callAVV (fr1 := 2) (mc := c3) (ms := s3) (b := 24) (As := [.ref (ad (gR w 1 9))]) (rest := []) X (hr.call hc3 hs3 (by decide)) hR zy_X8_lay zq_970 (zlit hR zf_24) (by rw [zs_24]; rfl) rfl (mX8_lay ⟨hn2.1, hn2.2⟩ hf) rfl hl (Nat.le_of_ble_eq_true rfl) dX11_laidShelf_18 rfl (fun w3 H locs ad3 al3 hf hE3 hR => ?_)
    have hX := hX.tr hE3
    have hr := hr.after hc3 hs3
    have hn2 := And.intro (hE3 _ hn2.1).1 hn2.2
    rw [← (hE3 1 hw3_1).2] at hl
    refine lv_aload_n hx hb dX11_laidShelf_21 rfl (lv_at hl 0 rfl) ?_
    refine z_getS X hR (zlit hR zf_1) zs_1 (by decide) zfd_X11_50 rfl (r := 24) (by decide +kernel) dX11_laidShelf_22 ?_
    exact hQ _ _ _ _ _ _ _ _ _ hX (by have := hr.2.2.1; omega) (by have := hr.2.2.2; omega) hf hR dX11_laidShelf_25
/-! X11_judged -/
def fX11_judged_J37 (k : Int32 → zW → Prop) (mc ms : Nat) (x1 : Int32) (w : zW) : Prop :=
  ((¬ x1 = 0 →
    ((¬ x1 = (1 : Int32) →
      ¬ gR w 1 11 = 0 ∧
      k (gI w (gR w 1 11) 4) w) ∧
     (x1 = (1 : Int32) →
      ¬ gR w 1 11 = 0 ∧
      k (gI w (gR w 1 11) 3) w))) ∧
   (x1 = 0 →
    ¬ gR w 1 11 = 0 ∧
    k (gI w (gR w 1 11) 2) w))
set_option maxHeartbeats 4000000 in
set_option maxRecDepth 100000 in
theorem mX11_judged_J37 {k : Int32 → zW → Prop} (X : zCx p s m args meth c cX11_judged 2 RX11 (some .int)) (hQ : zRetAI p l e R s m args below meth c Q D dA true ad0 al0 cX11_judged k)  {cells slots mc ms : Nat} {x1 : Int32} {ad : Nat → Nat} {al : Nat → Prop} {w : zW} {H : Heap} {locs : List Loc} {ls : Array Slot} (hf : fX11_judged_J37 k mc ms x1 w) (hX : zExt ad0 al0 ad al) (hr : zRm R 5 (cells + mc) (slots + ms)) (hR : zSt D dA true ad0 al0 ad al w s H locs) (hl : lv_has ls 2 [(0, .ref (ad 1)), (1, .int x1)]) : W p l e R s m args below meth c H locs cells slots Q (F0 m 37 ls []) := by
  have hx := X.1
  have hb := X.2.1
  have hml := X.2.2.1
  have hown := X.2.2.2.1
  have hts := X.2.2.2.2.1
  unfold fX11_judged_J37 at hf
  refine lv_iload_n hx hb dX11_judged_37 rfl (lv_at hl 1 rfl) ?_
  refine lv_if_ne (tgt := 51) hx hb dX11_judged_38 (by decide) (fun c5 => ?_) (fun c5 => ?_)
  · replace hf := hf.1 c5
    refine lv_iload_n hx hb dX11_judged_51 rfl (lv_at hl 1 rfl) ?_
    refine lv_iconst (v := (1 : Int32)) hx hb dX11_judged_52 (by decide) ?_
    refine lv_icmp_ne (tgt := 66) hx hb dX11_judged_53 (by decide) (fun c6 => ?_) (fun c6 => ?_)
    · replace hf := hf.1 c6
      refine lv_aload_n hx hb dX11_judged_66 rfl (lv_at hl 0 rfl) ?_
      refine z_getR X hR (zlit hR zf_1) zs_1 (by decide) zfd_X11_81 rfl dX11_judged_67 ?_
      obtain ⟨hn70, hf⟩ := hf
      have hn7 : al (gR w 1 11) ∧ zsh (gR w 1 11) = 5 := zwt_of hR (zlit hR zf_1) zs_1 rfl hn70 (zdc_of zs_1 rfl)
      rw [zrf_pos hn70]
      refine z_getI X hR hn7.1 hn7.2 (by decide) zfd_X11_195 rfl dX11_judged_70 ?_
      exact hQ _ _ _ _ _ _ _ _ _ _ hX (by have := hr.2.2.1; omega) (by have := hr.2.2.2; omega) hf hR dX11_judged_73
    · replace hf := hf.2 c6
      refine lv_aload_n hx hb dX11_judged_56 rfl (lv_at hl 0 rfl) ?_
      refine z_getR X hR (zlit hR zf_1) zs_1 (by decide) zfd_X11_81 rfl dX11_judged_57 ?_
      obtain ⟨hn80, hf⟩ := hf
      have hn8 : al (gR w 1 11) ∧ zsh (gR w 1 11) = 5 := zwt_of hR (zlit hR zf_1) zs_1 rfl hn80 (zdc_of zs_1 rfl)
      rw [zrf_pos hn80]
      refine z_getI X hR hn8.1 hn8.2 (by decide) zfd_X11_192 rfl dX11_judged_60 ?_
      refine lv_goto (tgt := 73) hx hb dX11_judged_63 (by decide) ?_
      exact hQ _ _ _ _ _ _ _ _ _ _ hX (by have := hr.2.2.1; omega) (by have := hr.2.2.2; omega) hf hR dX11_judged_73
  · replace hf := hf.2 c5
    refine lv_aload_n hx hb dX11_judged_41 rfl (lv_at hl 0 rfl) ?_
    refine z_getR X hR (zlit hR zf_1) zs_1 (by decide) zfd_X11_81 rfl dX11_judged_42 ?_
    obtain ⟨hn90, hf⟩ := hf
    have hn9 : al (gR w 1 11) ∧ zsh (gR w 1 11) = 5 := zwt_of hR (zlit hR zf_1) zs_1 rfl hn90 (zdc_of zs_1 rfl)
    rw [zrf_pos hn90]
    refine z_getI X hR hn9.1 hn9.2 (by decide) zfd_X11_189 rfl dX11_judged_45 ?_
    refine lv_goto (tgt := 73) hx hb dX11_judged_48 (by decide) ?_
    exact hQ _ _ _ _ _ _ _ _ _ _ hX (by have := hr.2.2.1; omega) (by have := hr.2.2.2; omega) hf hR dX11_judged_73
def fX11_judged (mc ms : Nat) (x1 : Int32) (w : zW) (k : Int32 → zW → Prop) : Prop :=
  ((x1 < 0 →
    k (-2 : Int32) w) ∧
   (¬ x1 < 0 →
    ((x1 ≤ (2 : Int32) →
      ¬ gR w 1 11 = 0 ∧
      (((gI w (gR w 1 11) 1) = 0 →
        fX11_judged_J37 k mc ms x1 w) ∧
       (¬ (gI w (gR w 1 11) 1) = 0 →
        ¬ gR w 1 9 = 0 ∧
        ∃ c11 s11, c11 ≤ mc ∧ s11 ≤ ms ∧ fX11_laidShelf c11 s11  w (fun w11 =>
        fX5_judge (gR w 1 11) (gR w 1 9) w11 (fun w12 =>
        fX11_judged_J37 k (mc - c11) (ms - s11) x1 w12))))) ∧
     (¬ x1 ≤ (2 : Int32) →
      k (-2 : Int32) w))))
set_option maxHeartbeats 4000000 in
set_option maxRecDepth 100000 in
theorem mX11_judged {l : Launch} {D : va_G} {dA : Nat → ClassId} {ad : Nat → Nat} {al : Nat → Prop} {w : zW} {mc ms : Nat} {k : Int32 → zW → Prop} {x1 : Int32}  (hf : fX11_judged mc ms x1 w k) : zmetAI l yX11_judged cX11_judged 2 (some .int) 5 mc ms [.ref (ad 1), .int x1] D dA true ad al w k := by
  refine zmetAI_of (by decide) (Nat.le_of_ble_eq_true rfl) ?_
  intro p e R s m below meth c Q H ls args locs cells slots X hr hQ hR hl
  have hx := X.1
  have hb := X.2.1
  have hml := X.2.2.1
  have hown := X.2.2.2.1
  have hts := X.2.2.2.2.1
  unfold fX11_judged at hf
  have hl : lv_has ls 2 [(0, .ref (ad 1)), (1, .int x1)] := hl
  have hX : zExt ad al ad al := zExt.rf
  refine lv_iload_n hx hb dX11_judged_0 rfl (lv_at hl 1 rfl) ?_
  refine lv_if_lt (tgt := 9) hx hb dX11_judged_1 (by decide) (fun c1 => ?_) (fun c1 => ?_)
  · replace hf := hf.1 c1
    refine lv_bipush (v := (-2 : Int32)) hx hb dX11_judged_9 (by decide) ?_
    exact hQ _ _ _ _ _ _ _ _ _ _ hX (by have := hr.2.2.1; omega) (by have := hr.2.2.2; omega) hf hR dX11_judged_11
  · replace hf := hf.2 c1
    refine lv_iload_n hx hb dX11_judged_4 rfl (lv_at hl 1 rfl) ?_
    refine lv_iconst (v := (2 : Int32)) hx hb dX11_judged_5 (by decide) ?_
    refine lv_icmp_le (tgt := 12) hx hb dX11_judged_6 (by decide) (fun c2 => ?_) (fun c2 => ?_)
    · replace hf := hf.1 c2
      refine lv_aload_n hx hb dX11_judged_12 rfl (lv_at hl 0 rfl) ?_
      refine z_getR X hR (zlit hR zf_1) zs_1 (by decide) zfd_X11_81 rfl dX11_judged_13 ?_
      obtain ⟨hn30, hf⟩ := hf
      have hn3 : al (gR w 1 11) ∧ zsh (gR w 1 11) = 5 := zwt_of hR (zlit hR zf_1) zs_1 rfl hn30 (zdc_of zs_1 rfl)
      rw [zrf_pos hn30]
      refine z_getI X hR hn3.1 hn3.2 (by decide) zfd_X11_180 rfl dX11_judged_16 ?_
      refine lv_if_eq (tgt := 37) hx hb dX11_judged_19 (by decide) (fun c4 => ?_) (fun c4 => ?_)
      · replace hf := hf.1 c4
        exact mX11_judged_J37 X hQ  hf hX hr hR (lv_sub hl [0, 1] rfl)
      · replace hf := hf.2 c4
        refine lv_aload_n hx hb dX11_judged_22 rfl (lv_at hl 0 rfl) ?_
        refine z_getR X hR (zlit hR zf_1) zs_1 (by decide) zfd_X11_81 rfl dX11_judged_23 ?_
        rw [zrf_pos hn30]
        refine lv_aload_n hx hb dX11_judged_26 rfl (lv_at hl 0 rfl) ?_
        refine z_getR X hR (zlit hR zf_1) zs_1 (by decide) zfd_X11_71 rfl dX11_judged_27 ?_
        obtain ⟨hn100, hf⟩ := hf
        have hn10 : al (gR w 1 9) ∧ zsh (gR w 1 9) = 0 := zwt_of hR (zlit hR zf_1) zs_1 rfl hn100 (zdc_of zs_1 rfl)
        rw [zrf_pos hn100]
        refine lv_aload_n hx hb dX11_judged_30 rfl (lv_at hl 0 rfl) ?_
        have hw11_1 : al 1 := (zlit hR zf_1)
        have hv11_1 : al 1 := (zlit hR zf_1)
        have hv11_2 : al (gR w 1 9) := hn10.1
        have hv11_3 : al (gR w 1 11) := hn3.1
        obtain ⟨c11, s11, hc11, hs11, hf⟩ := hf
        refine z_callAVR (fr1 := 3) (mc := c11) (ms := s11) (b := 1) (As := []) (rest := [.ref (ad (gR w 1 9)), .ref (ad (gR w 1 11))]) X (hr.call hc11 hs11 (by decide)) hR zy_X11_laidShelf zq_966 (zlit hR zf_1) (by rw [zs_1]; rfl) rfl (zlit hR zf_24) (mX11_laidShelf  hf) rfl hl (Nat.le_of_ble_eq_true rfl) dX11_judged_31 rfl (fun w11 H locs ad11 al11 hf hE11 hR => ?_)
        have hX := hX.tr hE11
        have hr := hr.after hc11 hs11
        have hn3 := And.intro (hE11 _ hn3.1).1 hn3.2
        have hn10 := And.intro (hE11 _ hn10.1).1 hn10.2
        rw [← (hE11 1 hw11_1).2] at hl
        rw [← (hE11 (gR w 1 9) hv11_2).2]
        rw [← (hE11 (gR w 1 11) hv11_3).2]
        refine z_callVV (fr1 := 4) (b := (gR w 1 11)) (As := [.ref (ad11 (gR w 1 9)), .ref (ad11 24)]) (rest := []) X (hr.none (by decide)) hR zy_X5_judge zq_1018 hn3.1 (by rw [hn3.2]; rfl) rfl (mX5_judge ⟨hn3.1, hn3.2⟩ ⟨hn10.1, hn10.2⟩ hf) rfl hl (Nat.le_of_ble_eq_true rfl) dX11_judged_34 rfl (fun w12 H locs hf hR => ?_)
        exact mX11_judged_J37 X hQ  hf hX hr hR (lv_sub hl [0, 1] rfl)
    · replace hf := hf.2 c2
      refine lv_bipush (v := (-2 : Int32)) hx hb dX11_judged_9 (by decide) ?_
      exact hQ _ _ _ _ _ _ _ _ _ _ hX (by have := hr.2.2.1; omega) (by have := hr.2.2.2; omega) hf hR dX11_judged_11
/-! X11_readyShelf -/
def fX11_readyShelf (mc ms : Nat) (w : zW) (k : zW → Prop) : Prop :=
  ∃ c1 s1, c1 ≤ mc ∧ s1 ≤ ms ∧ fX11_laidShelf c1 s1  w (fun w1 =>
  (((gI w1 24 1) = 0 →
    k w1) ∧
   (¬ (gI w1 24 1) = 0 →
    fX8_choose 9 w1 (fun w3 =>
    k w3))))
set_option maxHeartbeats 4000000 in
set_option maxRecDepth 100000 in
theorem mX11_readyShelf {l : Launch} {D : va_G} {dA : Nat → ClassId} {ad : Nat → Nat} {al : Nat → Prop} {w : zW} {mc ms : Nat} {k : zW → Prop}  (hf : fX11_readyShelf mc ms w k) : zmetAR l yX11_readyShelf cX11_readyShelf 2 (some (.object "ForeignKnit$Shelf")) 4 mc ms 24 [.ref (ad 1)] D dA true ad al w k := by
  refine zmetAR_of (by decide) (Nat.le_of_ble_eq_true rfl) (show zgh true w 24 from Or.inl zf_24) ?_
  intro p e R s m below meth c Q H ls args locs cells slots X hr hQ hR hl
  have hx := X.1
  have hb := X.2.1
  have hml := X.2.2.1
  have hown := X.2.2.2.1
  have hts := X.2.2.2.2.1
  unfold fX11_readyShelf at hf
  have hl : lv_has ls 2 [(0, .ref (ad 1))] := hl
  have hX : zExt ad al ad al := zExt.rf
  refine lv_aload_n hx hb dX11_readyShelf_0 rfl (lv_at hl 0 rfl) ?_
  have hw1_1 : al 1 := (zlit hR zf_1)
  have hv1_1 : al 1 := (zlit hR zf_1)
  obtain ⟨c1, s1, hc1, hs1, hf⟩ := hf
  refine z_callAVR (fr1 := 3) (mc := c1) (ms := s1) (b := 1) (As := []) (rest := []) X (hr.call hc1 hs1 (by decide)) hR zy_X11_laidShelf zq_966 (zlit hR zf_1) (by rw [zs_1]; rfl) rfl (zlit hR zf_24) (mX11_laidShelf  hf) rfl hl (Nat.le_of_ble_eq_true rfl) dX11_readyShelf_1 rfl (fun w1 H locs ad1 al1 hf hE1 hR => ?_)
  have hX := hX.tr hE1
  have hr := hr.after hc1 hs1
  rw [← (hE1 1 hw1_1).2] at hl
  refine lv_astore_n (lv' := [(1, .ref (ad1 24)), (0, .ref (ad1 1))]) hx hb dX11_readyShelf_4 rfl hl (by decide) rfl (fun ls hl => ?_)
  refine lv_aload_n hx hb dX11_readyShelf_5 rfl (lv_at hl 0 rfl) ?_
  refine z_getI X hR (zlit hR zf_24) zs_24 (by decide) zfd_X11_114 rfl dX11_readyShelf_6 ?_
  refine lv_if_eq (tgt := 20) hx hb dX11_readyShelf_9 (by decide) (fun c2 => ?_) (fun c2 => ?_)
  · replace hf := hf.1 c2
    refine lv_aload_n hx hb dX11_readyShelf_20 rfl (lv_at hl 0 rfl) ?_
    exact hQ _ _ _ _ _ _ _ _ _ hX (by have := hr.2.2.1; omega) (by have := hr.2.2.2; omega) hf hR dX11_readyShelf_21
  · replace hf := hf.2 c2
    refine lv_aload_n hx hb dX11_readyShelf_12 rfl (lv_at hl 0 rfl) ?_
    refine lv_aload_n hx hb dX11_readyShelf_13 rfl (lv_at hl 1 rfl) ?_
    refine z_getS X hR (zlit hR zf_1) zs_1 (by decide) zfd_X11_28 rfl (r := 9) (by decide +kernel) dX11_readyShelf_14 ?_
    refine z_callVV (fr1 := 3) (b := 24) (As := [.ref (ad1 9)]) (rest := []) X (hr.none (by decide)) hR zy_X8_choose zq_1109 (zlit hR zf_24) (by rw [zs_24]; rfl) rfl (mX8_choose ⟨(zlit hR zf_9), zs_9⟩ hf) rfl hl (Nat.le_of_ble_eq_true rfl) dX11_readyShelf_17 rfl (fun w3 H locs hf hR => ?_)
    refine lv_aload_n hx hb dX11_readyShelf_20 rfl (lv_at hl 0 rfl) ?_
    exact hQ _ _ _ _ _ _ _ _ _ hX (by have := hr.2.2.1; omega) (by have := hr.2.2.2; omega) hf hR dX11_readyShelf_21
/-! X11_fits -/
def fX11_fits (mc ms : Nat) (w : zW) (k : Int32 → zW → Prop) : Prop :=
  ∃ c1 s1, c1 ≤ mc ∧ s1 ≤ ms ∧ fX11_readyShelf c1 s1  w (fun w1 =>
  k (gI w1 24 3) w1)
set_option maxHeartbeats 4000000 in
set_option maxRecDepth 100000 in
theorem mX11_fits {l : Launch} {D : va_G} {dA : Nat → ClassId} {ad : Nat → Nat} {al : Nat → Prop} {w : zW} {mc ms : Nat} {k : Int32 → zW → Prop}  (hf : fX11_fits mc ms w k) : zmetAI l yX11_fits cX11_fits 1 (some .int) 5 mc ms [.ref (ad 1)] D dA true ad al w k := by
  refine zmetAI_of (by decide) (Nat.le_of_ble_eq_true rfl) ?_
  intro p e R s m below meth c Q H ls args locs cells slots X hr hQ hR hl
  have hx := X.1
  have hb := X.2.1
  have hml := X.2.2.1
  have hown := X.2.2.2.1
  have hts := X.2.2.2.2.1
  unfold fX11_fits at hf
  have hl : lv_has ls 1 [(0, .ref (ad 1))] := hl
  have hX : zExt ad al ad al := zExt.rf
  refine lv_aload_n hx hb dX11_fits_0 rfl (lv_at hl 0 rfl) ?_
  have hw1_1 : al 1 := (zlit hR zf_1)
  have hv1_1 : al 1 := (zlit hR zf_1)
  obtain ⟨c1, s1, hc1, hs1, hf⟩ := hf
  refine z_callAVR (fr1 := 4) (mc := c1) (ms := s1) (b := 1) (As := []) (rest := []) X (hr.call hc1 hs1 (by decide)) hR zy_X11_readyShelf zq_1105 (zlit hR zf_1) (by rw [zs_1]; rfl) rfl (zlit hR zf_24) (mX11_readyShelf  hf) rfl hl (Nat.le_of_ble_eq_true rfl) dX11_fits_1 rfl (fun w1 H locs ad1 al1 hf hE1 hR => ?_)
  have hX := hX.tr hE1
  have hr := hr.after hc1 hs1
  rw [← (hE1 1 hw1_1).2] at hl
  refine z_getI X hR (zlit hR zf_24) zs_24 (by decide) zfd_X11_201 rfl dX11_fits_4 ?_
  exact hQ _ _ _ _ _ _ _ _ _ _ hX (by have := hr.2.2.1; omega) (by have := hr.2.2.2; omega) hf hR dX11_fits_7
/-! X11_entry -/
def fX11_entry (mc ms : Nat) (x1 : Int32) (x2 : Int32) (w : zW) (k : Int32 → zW → Prop) : Prop :=
  ∃ c1 s1, c1 ≤ mc ∧ s1 ≤ ms ∧ fX11_readyShelf c1 s1  w (fun w1 =>
  fX11_isWord x2 w1 (fun r2 w2 =>
  ((r2 = 0 →
    k (-1 : Int32) w2) ∧
   (¬ r2 = 0 →
    ((x1 < 0 →
      k (-1 : Int32) w2) ∧
     (¬ x1 < 0 →
      (((gI w2 24 3) ≤ x1 →
        k (-1 : Int32) w2) ∧
       (¬ (gI w2 24 3) ≤ x1 →
        ¬ gR w2 24 5 = 0 ∧
        ((x1 < (Int32.ofNat (zln (gR w2 24 5))) →
          vp_in x1 (zln (gR w2 24 5)) ∧ 
          fX8_meaningIn (gI w2 (gR w2 24 5) x1.toNatClampNeg) x2 w2 (fun r9 w9 =>
          k r9 w9)) ∧
         (¬ x1 < (Int32.ofNat (zln (gR w2 24 5))) →
          k (-1 : Int32) w2))))))))))
set_option maxHeartbeats 4000000 in
set_option maxRecDepth 100000 in
theorem mX11_entry {l : Launch} {D : va_G} {dA : Nat → ClassId} {ad : Nat → Nat} {al : Nat → Prop} {w : zW} {mc ms : Nat} {k : Int32 → zW → Prop} {x1 : Int32} {x2 : Int32}  (hf : fX11_entry mc ms x1 x2 w k) : zmetAI l yX11_entry cX11_entry 4 (some .int) 5 mc ms [.ref (ad 1), .int x1, .int x2] D dA true ad al w k := by
  refine zmetAI_of (by decide) (Nat.le_of_ble_eq_true rfl) ?_
  intro p e R s m below meth c Q H ls args locs cells slots X hr hQ hR hl
  have hx := X.1
  have hb := X.2.1
  have hml := X.2.2.1
  have hown := X.2.2.2.1
  have hts := X.2.2.2.2.1
  unfold fX11_entry at hf
  have hl : lv_has ls 4 [(0, .ref (ad 1)), (1, .int x1), (2, .int x2)] := hl
  have hX : zExt ad al ad al := zExt.rf
  refine lv_aload_n hx hb dX11_entry_0 rfl (lv_at hl 0 rfl) ?_
  have hw1_1 : al 1 := (zlit hR zf_1)
  have hv1_1 : al 1 := (zlit hR zf_1)
  obtain ⟨c1, s1, hc1, hs1, hf⟩ := hf
  refine z_callAVR (fr1 := 4) (mc := c1) (ms := s1) (b := 1) (As := []) (rest := []) X (hr.call hc1 hs1 (by decide)) hR zy_X11_readyShelf zq_1105 (zlit hR zf_1) (by rw [zs_1]; rfl) rfl (zlit hR zf_24) (mX11_readyShelf  hf) rfl hl (Nat.le_of_ble_eq_true rfl) dX11_entry_1 rfl (fun w1 H locs ad1 al1 hf hE1 hR => ?_)
  have hX := hX.tr hE1
  have hr := hr.after hc1 hs1
  rw [← (hE1 1 hw1_1).2] at hl
  refine lv_astore_n (lv' := [(3, .ref (ad1 24)), (0, .ref (ad1 1)), (1, .int x1), (2, .int x2)]) hx hb dX11_entry_4 rfl hl (by decide) rfl (fun ls hl => ?_)
  refine lv_aload_n hx hb dX11_entry_5 rfl (lv_at hl 1 rfl) ?_
  refine lv_iload_n hx hb dX11_entry_6 rfl (lv_at hl 3 rfl) ?_
  refine z_callVI (fr1 := 0) (b := 1) (As := [.int x2]) (rest := []) X (hr.none (by decide)) hR zy_X11_isWord zq_756 (zlit hR zf_1) (by rw [zs_1]; rfl) rfl (mX11_isWord  hf) rfl hl (Nat.le_of_ble_eq_true rfl) dX11_entry_7 rfl (fun r2 w2 H locs hf hR => ?_)
  refine lv_if_eq (tgt := 34) hx hb dX11_entry_10 (by decide) (fun c3 => ?_) (fun c3 => ?_)
  · replace hf := hf.1 c3
    refine lv_iconst (v := (-1 : Int32)) hx hb dX11_entry_34 (by decide) ?_
    exact hQ _ _ _ _ _ _ _ _ _ _ hX (by have := hr.2.2.1; omega) (by have := hr.2.2.2; omega) hf hR dX11_entry_35
  · replace hf := hf.2 c3
    refine lv_iload_n hx hb dX11_entry_13 rfl (lv_at hl 2 rfl) ?_
    refine lv_if_lt (tgt := 34) hx hb dX11_entry_14 (by decide) (fun c4 => ?_) (fun c4 => ?_)
    · replace hf := hf.1 c4
      refine lv_iconst (v := (-1 : Int32)) hx hb dX11_entry_34 (by decide) ?_
      exact hQ _ _ _ _ _ _ _ _ _ _ hX (by have := hr.2.2.1; omega) (by have := hr.2.2.2; omega) hf hR dX11_entry_35
    · replace hf := hf.2 c4
      refine lv_iload_n hx hb dX11_entry_17 rfl (lv_at hl 2 rfl) ?_
      refine lv_aload_n hx hb dX11_entry_18 rfl (lv_at hl 0 rfl) ?_
      refine z_getI X hR (zlit hR zf_24) zs_24 (by decide) zfd_X11_201 rfl dX11_entry_19 ?_
      refine lv_icmp_ge (tgt := 34) hx hb dX11_entry_22 (by decide) (fun c5 => ?_) (fun c5 => ?_)
      · replace hf := hf.1 c5
        refine lv_iconst (v := (-1 : Int32)) hx hb dX11_entry_34 (by decide) ?_
        exact hQ _ _ _ _ _ _ _ _ _ _ hX (by have := hr.2.2.1; omega) (by have := hr.2.2.2; omega) hf hR dX11_entry_35
      · replace hf := hf.2 c5
        refine lv_iload_n hx hb dX11_entry_25 rfl (lv_at hl 2 rfl) ?_
        refine lv_aload_n hx hb dX11_entry_26 rfl (lv_at hl 0 rfl) ?_
        refine z_getR X hR (zlit hR zf_24) zs_24 (by decide) zfd_X11_204 rfl dX11_entry_27 ?_
        obtain ⟨hn60, hf⟩ := hf
        have hn6 : al1 (gR w2 24 5) ∧ zsh (gR w2 24 5) = 20 := zwt_of hR (zlit hR zf_24) zs_24 rfl hn60 (zdc_of zs_24 rfl)
        rw [zrf_pos hn60]
        refine z_alen X hR hn6.1 hn6.2 (by decide) (by decide) rfl (v := Int32.ofNat (zln (gR w2 24 5))) rfl dX11_entry_30 ?_
        refine lv_icmp_lt (tgt := 36) hx hb dX11_entry_31 (by decide) (fun c7 => ?_) (fun c7 => ?_)
        · replace hf := hf.1 c7
          refine lv_aload_n hx hb dX11_entry_36 rfl (lv_at hl 0 rfl) ?_
          refine z_getR X hR (zlit hR zf_24) zs_24 (by decide) zfd_X11_204 rfl dX11_entry_37 ?_
          rw [zrf_pos hn60]
          refine lv_iload_n hx hb dX11_entry_40 rfl (lv_at hl 2 rfl) ?_
          obtain ⟨hb8, hf⟩ := hf
          refine z_iald X hR hn6.1 hn6.2 rfl hb8 dX11_entry_41 ?_
          refine lv_iload_n hx hb dX11_entry_42 rfl (lv_at hl 3 rfl) ?_
          refine z_callSI (fr1 := 0) (As := [.int (gI w2 (gR w2 24 5) x1.toNatClampNeg), .int x2]) (rest := []) X (hr.none (by decide)) hR zy_X8_meaningIn zq_1123 (mX8_meaningIn  hf) rfl hl (Nat.le_of_ble_eq_true rfl) dX11_entry_43 rfl (fun r9 w9 H locs hf hR => ?_)
          exact hQ _ _ _ _ _ _ _ _ _ _ hX (by have := hr.2.2.1; omega) (by have := hr.2.2.2; omega) hf hR dX11_entry_46
        · replace hf := hf.2 c7
          refine lv_iconst (v := (-1 : Int32)) hx hb dX11_entry_34 (by decide) ?_
          exact hQ _ _ _ _ _ _ _ _ _ _ hX (by have := hr.2.2.1; omega) (by have := hr.2.2.2; omega) hf hR dX11_entry_35
/-! X11_talliedWord -/
def fX11_talliedWord (mc ms : Nat) (x1 : Int32) (w : zW) (k : zW → Prop) : Prop :=
  ∃ c1 s1, c1 ≤ mc ∧ s1 ≤ ms ∧ fX11_readyShelf c1 s1  w (fun w1 =>
  fX8_tallyWord x1 w1 (fun w2 =>
  k w2))
set_option maxHeartbeats 4000000 in
set_option maxRecDepth 100000 in
theorem mX11_talliedWord {l : Launch} {D : va_G} {dA : Nat → ClassId} {ad : Nat → Nat} {al : Nat → Prop} {w : zW} {mc ms : Nat} {k : zW → Prop} {x1 : Int32}  (hf : fX11_talliedWord mc ms x1 w k) : zmetAR l yX11_talliedWord cX11_talliedWord 2 (some (.object "ForeignKnit$Tally")) 5 mc ms 29 [.ref (ad 1), .int x1] D dA true ad al w k := by
  refine zmetAR_of (by decide) (Nat.le_of_ble_eq_true rfl) (show zgh true w 29 from Or.inl zf_29) ?_
  intro p e R s m below meth c Q H ls args locs cells slots X hr hQ hR hl
  have hx := X.1
  have hb := X.2.1
  have hml := X.2.2.1
  have hown := X.2.2.2.1
  have hts := X.2.2.2.2.1
  unfold fX11_talliedWord at hf
  have hl : lv_has ls 2 [(0, .ref (ad 1)), (1, .int x1)] := hl
  have hX : zExt ad al ad al := zExt.rf
  refine lv_aload_n hx hb dX11_talliedWord_0 rfl (lv_at hl 0 rfl) ?_
  have hw1_1 : al 1 := (zlit hR zf_1)
  have hv1_1 : al 1 := (zlit hR zf_1)
  obtain ⟨c1, s1, hc1, hs1, hf⟩ := hf
  refine z_callAVR (fr1 := 4) (mc := c1) (ms := s1) (b := 1) (As := []) (rest := []) X (hr.call hc1 hs1 (by decide)) hR zy_X11_readyShelf zq_1105 (zlit hR zf_1) (by rw [zs_1]; rfl) rfl (zlit hR zf_24) (mX11_readyShelf  hf) rfl hl (Nat.le_of_ble_eq_true rfl) dX11_talliedWord_1 rfl (fun w1 H locs ad1 al1 hf hE1 hR => ?_)
  have hX := hX.tr hE1
  have hr := hr.after hc1 hs1
  rw [← (hE1 1 hw1_1).2] at hl
  refine lv_iload_n hx hb dX11_talliedWord_4 rfl (lv_at hl 1 rfl) ?_
  refine lv_aload_n hx hb dX11_talliedWord_5 rfl (lv_at hl 0 rfl) ?_
  refine z_getS X hR (zlit hR zf_1) zs_1 (by decide) zfd_X11_57 rfl (r := 29) (by decide +kernel) dX11_talliedWord_6 ?_
  refine z_callVV (fr1 := 2) (b := 24) (As := [.int x1, .ref (ad1 29)]) (rest := []) X (hr.none (by decide)) hR zy_X8_tallyWord zq_1136 (zlit hR zf_24) (by rw [zs_24]; rfl) rfl (mX8_tallyWord  hf) rfl hl (Nat.le_of_ble_eq_true rfl) dX11_talliedWord_9 rfl (fun w2 H locs hf hR => ?_)
  refine lv_aload_n hx hb dX11_talliedWord_12 rfl (lv_at hl 0 rfl) ?_
  refine z_getS X hR (zlit hR zf_1) zs_1 (by decide) zfd_X11_57 rfl (r := 29) (by decide +kernel) dX11_talliedWord_13 ?_
  exact hQ _ _ _ _ _ _ _ _ _ hX (by have := hr.2.2.1; omega) (by have := hr.2.2.2; omega) hf hR dX11_talliedWord_16
/-! X11_could -/
def fX11_could (mc ms : Nat) (x1 : Int32) (w : zW) (k : Int32 → zW → Prop) : Prop :=
  fX11_isWord x1 w (fun r1 w1 =>
  ((r1 = 0 →
    k (-1 : Int32) w1) ∧
   (¬ r1 = 0 →
    ∃ c3 s3, c3 ≤ mc ∧ s3 ≤ ms ∧ fX11_talliedWord c3 s3 x1 w1 (fun w3 =>
    fX9_bits  w3 (fun r4 w4 =>
    k r4 w4)))))
set_option maxHeartbeats 4000000 in
set_option maxRecDepth 100000 in
theorem mX11_could {l : Launch} {D : va_G} {dA : Nat → ClassId} {ad : Nat → Nat} {al : Nat → Prop} {w : zW} {mc ms : Nat} {k : Int32 → zW → Prop} {x1 : Int32}  (hf : fX11_could mc ms x1 w k) : zmetAI l yX11_could cX11_could 2 (some .int) 6 mc ms [.ref (ad 1), .int x1] D dA true ad al w k := by
  refine zmetAI_of (by decide) (Nat.le_of_ble_eq_true rfl) ?_
  intro p e R s m below meth c Q H ls args locs cells slots X hr hQ hR hl
  have hx := X.1
  have hb := X.2.1
  have hml := X.2.2.1
  have hown := X.2.2.2.1
  have hts := X.2.2.2.2.1
  unfold fX11_could at hf
  have hl : lv_has ls 2 [(0, .ref (ad 1)), (1, .int x1)] := hl
  have hX : zExt ad al ad al := zExt.rf
  refine lv_aload_n hx hb dX11_could_0 rfl (lv_at hl 0 rfl) ?_
  refine lv_iload_n hx hb dX11_could_1 rfl (lv_at hl 1 rfl) ?_
  refine z_callVI (fr1 := 0) (b := 1) (As := [.int x1]) (rest := []) X (hr.none (by decide)) hR zy_X11_isWord zq_756 (zlit hR zf_1) (by rw [zs_1]; rfl) rfl (mX11_isWord  hf) rfl hl (Nat.le_of_ble_eq_true rfl) dX11_could_2 rfl (fun r1 w1 H locs hf hR => ?_)
  refine lv_if_eq (tgt := 19) hx hb dX11_could_5 (by decide) (fun c2 => ?_) (fun c2 => ?_)
  · replace hf := hf.1 c2
    refine lv_iconst (v := (-1 : Int32)) hx hb dX11_could_19 (by decide) ?_
    exact hQ _ _ _ _ _ _ _ _ _ _ hX (by have := hr.2.2.1; omega) (by have := hr.2.2.2; omega) hf hR dX11_could_20
  · replace hf := hf.2 c2
    refine lv_aload_n hx hb dX11_could_8 rfl (lv_at hl 0 rfl) ?_
    refine lv_iload_n hx hb dX11_could_9 rfl (lv_at hl 1 rfl) ?_
    have hw3_1 : al 1 := (zlit hR zf_1)
    have hv3_1 : al 1 := (zlit hR zf_1)
    obtain ⟨c3, s3, hc3, hs3, hf⟩ := hf
    refine z_callAVR (fr1 := 5) (mc := c3) (ms := s3) (b := 1) (As := [.int x1]) (rest := []) X (hr.call hc3 hs3 (by decide)) hR zy_X11_talliedWord zq_1132 (zlit hR zf_1) (by rw [zs_1]; rfl) rfl (zlit hR zf_29) (mX11_talliedWord  hf) rfl hl (Nat.le_of_ble_eq_true rfl) dX11_could_10 rfl (fun w3 H locs ad3 al3 hf hE3 hR => ?_)
    have hX := hX.tr hE3
    have hr := hr.after hc3 hs3
    rw [← (hE3 1 hw3_1).2] at hl
    refine z_callVI (fr1 := 0) (b := 29) (As := []) (rest := []) X (hr.none (by decide)) hR zy_X9_bits zq_1150 (zlit hR zf_29) (by rw [zs_29]; rfl) rfl (mX9_bits  hf) rfl hl (Nat.le_of_ble_eq_true rfl) dX11_could_13 rfl (fun r4 w4 H locs hf hR => ?_)
    refine lv_goto (tgt := 20) hx hb dX11_could_16 (by decide) ?_
    exact hQ _ _ _ _ _ _ _ _ _ _ hX (by have := hr.2.2.1; omega) (by have := hr.2.2.2; omega) hf hR dX11_could_20
/-! X11_sure -/
def fX11_sure (mc ms : Nat) (x1 : Int32) (w : zW) (k : Int32 → zW → Prop) : Prop :=
  fX11_isWord x1 w (fun r1 w1 =>
  ((r1 = 0 →
    k (-1 : Int32) w1) ∧
   (¬ r1 = 0 →
    ∃ c3 s3, c3 ≤ mc ∧ s3 ≤ ms ∧ fX11_talliedWord c3 s3 x1 w1 (fun w3 =>
    fX9_only  w3 (fun r4 w4 =>
    k r4 w4)))))
set_option maxHeartbeats 4000000 in
set_option maxRecDepth 100000 in
theorem mX11_sure {l : Launch} {D : va_G} {dA : Nat → ClassId} {ad : Nat → Nat} {al : Nat → Prop} {w : zW} {mc ms : Nat} {k : Int32 → zW → Prop} {x1 : Int32}  (hf : fX11_sure mc ms x1 w k) : zmetAI l yX11_sure cX11_sure 2 (some .int) 6 mc ms [.ref (ad 1), .int x1] D dA true ad al w k := by
  refine zmetAI_of (by decide) (Nat.le_of_ble_eq_true rfl) ?_
  intro p e R s m below meth c Q H ls args locs cells slots X hr hQ hR hl
  have hx := X.1
  have hb := X.2.1
  have hml := X.2.2.1
  have hown := X.2.2.2.1
  have hts := X.2.2.2.2.1
  unfold fX11_sure at hf
  have hl : lv_has ls 2 [(0, .ref (ad 1)), (1, .int x1)] := hl
  have hX : zExt ad al ad al := zExt.rf
  refine lv_aload_n hx hb dX11_sure_0 rfl (lv_at hl 0 rfl) ?_
  refine lv_iload_n hx hb dX11_sure_1 rfl (lv_at hl 1 rfl) ?_
  refine z_callVI (fr1 := 0) (b := 1) (As := [.int x1]) (rest := []) X (hr.none (by decide)) hR zy_X11_isWord zq_756 (zlit hR zf_1) (by rw [zs_1]; rfl) rfl (mX11_isWord  hf) rfl hl (Nat.le_of_ble_eq_true rfl) dX11_sure_2 rfl (fun r1 w1 H locs hf hR => ?_)
  refine lv_if_eq (tgt := 19) hx hb dX11_sure_5 (by decide) (fun c2 => ?_) (fun c2 => ?_)
  · replace hf := hf.1 c2
    refine lv_iconst (v := (-1 : Int32)) hx hb dX11_sure_19 (by decide) ?_
    exact hQ _ _ _ _ _ _ _ _ _ _ hX (by have := hr.2.2.1; omega) (by have := hr.2.2.2; omega) hf hR dX11_sure_20
  · replace hf := hf.2 c2
    refine lv_aload_n hx hb dX11_sure_8 rfl (lv_at hl 0 rfl) ?_
    refine lv_iload_n hx hb dX11_sure_9 rfl (lv_at hl 1 rfl) ?_
    have hw3_1 : al 1 := (zlit hR zf_1)
    have hv3_1 : al 1 := (zlit hR zf_1)
    obtain ⟨c3, s3, hc3, hs3, hf⟩ := hf
    refine z_callAVR (fr1 := 5) (mc := c3) (ms := s3) (b := 1) (As := [.int x1]) (rest := []) X (hr.call hc3 hs3 (by decide)) hR zy_X11_talliedWord zq_1132 (zlit hR zf_1) (by rw [zs_1]; rfl) rfl (zlit hR zf_29) (mX11_talliedWord  hf) rfl hl (Nat.le_of_ble_eq_true rfl) dX11_sure_10 rfl (fun w3 H locs ad3 al3 hf hE3 hR => ?_)
    have hX := hX.tr hE3
    have hr := hr.after hc3 hs3
    rw [← (hE3 1 hw3_1).2] at hl
    refine z_callVI (fr1 := 1) (b := 29) (As := []) (rest := []) X (hr.none (by decide)) hR zy_X9_only zq_1162 (zlit hR zf_29) (by rw [zs_29]; rfl) rfl (mX9_only  hf) rfl hl (Nat.le_of_ble_eq_true rfl) dX11_sure_13 rfl (fun r4 w4 H locs hf hR => ?_)
    refine lv_goto (tgt := 20) hx hb dX11_sure_16 (by decide) ?_
    exact hQ _ _ _ _ _ _ _ _ _ _ hX (by have := hr.2.2.1; omega) (by have := hr.2.2.2; omega) hf hR dX11_sure_20
/-! X11_fixed -/
def fX11_fixed_L4 (k : Int32 → zW → Prop) : Nat → Nat → Nat → Int32 → Int32 → zW → Prop
  | 0 => fun _ _ _ _ _ => False
  | n + 1 => fun mc ms x1 x2 w =>
    ¬ gR w 1 9 = 0 ∧
    (((gI w (gR w 1 9) 0) ≤ x2 →
      k x1 w) ∧
     (¬ (gI w (gR w 1 9) 0) ≤ x2 →
      ∃ c3 s3, c3 ≤ mc ∧ s3 ≤ ms ∧ fX11_talliedWord c3 s3 x2 w (fun w3 =>
      fX9_only  w3 (fun r4 w4 =>
      ((r4 = (-1 : Int32) →
        fX11_fixed_L4 k n (mc - c3) (ms - s3) x1 (x2 + (1 : Int32)) w4) ∧
       (¬ r4 = (-1 : Int32) →
        ∀ v6 : Int32, v6 = x1 ||| ((1 : Int32) <<< (x2 &&& 31)) →
        fX11_fixed_L4 k n (mc - c3) (ms - s3) v6 (x2 + (1 : Int32)) w4))))))
set_option maxHeartbeats 4000000 in
set_option maxRecDepth 100000 in
theorem mX11_fixed_L4 {k : Int32 → zW → Prop} (X : zCx p s m args meth c cX11_fixed 3 RX11 (some .int)) (hQ : zRetAI p l e R s m args below meth c Q D dA true ad0 al0 cX11_fixed k)  : ∀ (n cells slots mc ms : Nat) (x1 : Int32) (x2 : Int32) (ad : Nat → Nat) (al : Nat → Prop) (w : zW) (H : Heap) (locs : List Loc) (ls : Array Slot), fX11_fixed_L4 k n mc ms x1 x2 w → zExt ad0 al0 ad al → zRm R 6 (cells + mc) (slots + ms) → zSt D dA true ad0 al0 ad al w s H locs → lv_has ls 3 [(0, .ref (ad 1)), (1, .int x1), (2, .int x2)] → W p l e R s m args below meth c H locs cells slots Q (F0 m 4 ls []) := by
  intro n
  induction n with
  | zero => exact fun _ _ _ _ _ _ _ _ _ _ _ _ hf => hf.elim
  | succ n ih =>
    intro cells slots mc ms x1 x2 ad al w H locs ls hf hX hr hR hl
    have hx := X.1
    have hb := X.2.1
    have hml := X.2.2.1
    have hown := X.2.2.2.1
    have hts := X.2.2.2.2.1
    rw [fX11_fixed_L4] at hf
    refine lv_iload_n hx hb dX11_fixed_4 rfl (lv_at hl 2 rfl) ?_
    refine lv_aload_n hx hb dX11_fixed_5 rfl (lv_at hl 0 rfl) ?_
    refine z_getR X hR (zlit hR zf_1) zs_1 (by decide) zfd_X11_71 rfl dX11_fixed_6 ?_
    obtain ⟨hn10, hf⟩ := hf
    have hn1 : al (gR w 1 9) ∧ zsh (gR w 1 9) = 0 := zwt_of hR (zlit hR zf_1) zs_1 rfl hn10 (zdc_of zs_1 rfl)
    rw [zrf_pos hn10]
    refine z_getI X hR hn1.1 hn1.2 (by decide) zfd_X11_221 rfl dX11_fixed_9 ?_
    refine lv_icmp_ge (tgt := 39) hx hb dX11_fixed_12 (by decide) (fun c2 => ?_) (fun c2 => ?_)
    · replace hf := hf.1 c2
      refine lv_iload_n hx hb dX11_fixed_39 rfl (lv_at hl 1 rfl) ?_
      exact hQ _ _ _ _ _ _ _ _ _ _ hX (by have := hr.2.2.1; omega) (by have := hr.2.2.2; omega) hf hR dX11_fixed_40
    · replace hf := hf.2 c2
      refine lv_aload_n hx hb dX11_fixed_15 rfl (lv_at hl 0 rfl) ?_
      refine lv_iload_n hx hb dX11_fixed_16 rfl (lv_at hl 2 rfl) ?_
      have hw3_1 : al 1 := (zlit hR zf_1)
      have hv3_1 : al 1 := (zlit hR zf_1)
      obtain ⟨c3, s3, hc3, hs3, hf⟩ := hf
      refine z_callAVR (fr1 := 5) (mc := c3) (ms := s3) (b := 1) (As := [.int x2]) (rest := []) X (hr.call hc3 hs3 (by decide)) hR zy_X11_talliedWord zq_1132 (zlit hR zf_1) (by rw [zs_1]; rfl) rfl (zlit hR zf_29) (mX11_talliedWord  hf) rfl hl (Nat.le_of_ble_eq_true rfl) dX11_fixed_17 rfl (fun w3 H locs ad3 al3 hf hE3 hR => ?_)
      have hX := hX.tr hE3
      have hr := hr.after hc3 hs3
      have hn1 := And.intro (hE3 _ hn1.1).1 hn1.2
      rw [← (hE3 1 hw3_1).2] at hl
      refine z_callVI (fr1 := 1) (b := 29) (As := []) (rest := []) X (hr.none (by decide)) hR zy_X9_only zq_1162 (zlit hR zf_29) (by rw [zs_29]; rfl) rfl (mX9_only  hf) rfl hl (Nat.le_of_ble_eq_true rfl) dX11_fixed_20 rfl (fun r4 w4 H locs hf hR => ?_)
      refine lv_iconst (v := (-1 : Int32)) hx hb dX11_fixed_23 (by decide) ?_
      refine lv_icmp_eq (tgt := 33) hx hb dX11_fixed_24 (by decide) (fun c5 => ?_) (fun c5 => ?_)
      · replace hf := hf.1 c5
        refine lv_iinc (v := x2 + (1 : Int32)) (lv' := [(2, .int (x2 + (1 : Int32))), (0, .ref (ad3 1)), (1, .int x1)]) hx hb dX11_fixed_33 hl (k := 2) rfl rfl (by decide) rfl (fun ls hl => ?_)
        refine lv_goto (tgt := 4) hx hb dX11_fixed_36 (by decide) ?_
        exact ih _ _ _ _ x1 (x2 + (1 : Int32)) _ _ w4 _ _ _ hf hX hr hR (lv_sub hl [1, 2, 0] rfl)
      · replace hf := hf.2 c5
        refine lv_iload_n hx hb dX11_fixed_27 rfl (lv_at hl 1 rfl) ?_
        refine lv_iconst (v := (1 : Int32)) hx hb dX11_fixed_28 (by decide) ?_
        refine lv_iload_n hx hb dX11_fixed_29 rfl (lv_at hl 2 rfl) ?_
        refine lv_ishl hx hb dX11_fixed_30 ?_
        refine lv_ior hx hb dX11_fixed_31 ?_
        refine lv_topi (fun v6 hv6 => ?_)
        replace hf := hf v6 hv6
        refine lv_istore_n (lv' := [(1, .int v6), (0, .ref (ad3 1)), (2, .int x2)]) hx hb dX11_fixed_32 rfl hl (by decide) rfl (fun ls hl => ?_)
        refine lv_iinc (v := x2 + (1 : Int32)) (lv' := [(2, .int (x2 + (1 : Int32))), (1, .int v6), (0, .ref (ad3 1))]) hx hb dX11_fixed_33 hl (k := 2) rfl rfl (by decide) rfl (fun ls hl => ?_)
        refine lv_goto (tgt := 4) hx hb dX11_fixed_36 (by decide) ?_
        exact ih _ _ _ _ v6 (x2 + (1 : Int32)) _ _ w4 _ _ _ hf hX hr hR (lv_sub hl [2, 1, 0] rfl)
def fX11_fixed (mc ms : Nat) (w : zW) (k : Int32 → zW → Prop) : Prop :=
  ∃ n9, fX11_fixed_L4 k n9 mc ms (0 : Int32) (0 : Int32) w
set_option maxHeartbeats 4000000 in
set_option maxRecDepth 100000 in
theorem mX11_fixed {l : Launch} {D : va_G} {dA : Nat → ClassId} {ad : Nat → Nat} {al : Nat → Prop} {w : zW} {mc ms : Nat} {k : Int32 → zW → Prop}  (hf : fX11_fixed mc ms w k) : zmetAI l yX11_fixed cX11_fixed 3 (some .int) 6 mc ms [.ref (ad 1)] D dA true ad al w k := by
  refine zmetAI_of (by decide) (Nat.le_of_ble_eq_true rfl) ?_
  intro p e R s m below meth c Q H ls args locs cells slots X hr hQ hR hl
  have hx := X.1
  have hb := X.2.1
  have hml := X.2.2.1
  have hown := X.2.2.2.1
  have hts := X.2.2.2.2.1
  unfold fX11_fixed at hf
  have hl : lv_has ls 3 [(0, .ref (ad 1))] := hl
  have hX : zExt ad al ad al := zExt.rf
  refine lv_iconst (v := (0 : Int32)) hx hb dX11_fixed_0 (by decide) ?_
  refine lv_istore_n (lv' := [(1, .int (0 : Int32)), (0, .ref (ad 1))]) hx hb dX11_fixed_1 rfl hl (by decide) rfl (fun ls hl => ?_)
  refine lv_iconst (v := (0 : Int32)) hx hb dX11_fixed_2 (by decide) ?_
  refine lv_istore_n (lv' := [(2, .int (0 : Int32)), (1, .int (0 : Int32)), (0, .ref (ad 1))]) hx hb dX11_fixed_3 rfl hl (by decide) rfl (fun ls hl => ?_)
  obtain ⟨n9, hf⟩ := hf
  exact mX11_fixed_L4 X hQ  n9 _ _ _ _ (0 : Int32) (0 : Int32) _ _ w _ _ _ hf hX hr hR (lv_sub hl [2, 1, 0] rfl)
/-! X11_with -/
def fX11_with (mc ms : Nat) (x1 : Int32) (x2 : Int32) (x3 : Int32) (w : zW) (k : Int32 → zW → Prop) : Prop :=
  fX11_isWord x1 w (fun r1 w1 =>
  ((r1 = 0 →
    k (-1 : Int32) w1) ∧
   (¬ r1 = 0 →
    fX11_isMeaning x2 x3 w1 (fun r3 w3 =>
    ((¬ r3 = 0 →
      ∃ c5 s5, c5 ≤ mc ∧ s5 ≤ ms ∧ fX11_talliedWord c5 s5 x1 w3 (fun w5 =>
      fX9_of (((3 : Int32) * x2) + x3) w5 (fun r6 w6 =>
      k r6 w6))) ∧
     (r3 = 0 →
      k (-1 : Int32) w3))))))
set_option maxHeartbeats 4000000 in
set_option maxRecDepth 100000 in
theorem mX11_with {l : Launch} {D : va_G} {dA : Nat → ClassId} {ad : Nat → Nat} {al : Nat → Prop} {w : zW} {mc ms : Nat} {k : Int32 → zW → Prop} {x1 : Int32} {x2 : Int32} {x3 : Int32}  (hf : fX11_with mc ms x1 x2 x3 w k) : zmetAI l yX11_with cX11_with 4 (some .int) 6 mc ms [.ref (ad 1), .int x1, .int x2, .int x3] D dA true ad al w k := by
  refine zmetAI_of (by decide) (Nat.le_of_ble_eq_true rfl) ?_
  intro p e R s m below meth c Q H ls args locs cells slots X hr hQ hR hl
  have hx := X.1
  have hb := X.2.1
  have hml := X.2.2.1
  have hown := X.2.2.2.1
  have hts := X.2.2.2.2.1
  unfold fX11_with at hf
  have hl : lv_has ls 4 [(0, .ref (ad 1)), (1, .int x1), (2, .int x2), (3, .int x3)] := hl
  have hX : zExt ad al ad al := zExt.rf
  refine lv_aload_n hx hb dX11_with_0 rfl (lv_at hl 0 rfl) ?_
  refine lv_iload_n hx hb dX11_with_1 rfl (lv_at hl 1 rfl) ?_
  refine z_callVI (fr1 := 0) (b := 1) (As := [.int x1]) (rest := []) X (hr.none (by decide)) hR zy_X11_isWord zq_756 (zlit hR zf_1) (by rw [zs_1]; rfl) rfl (mX11_isWord  hf) rfl hl (Nat.le_of_ble_eq_true rfl) dX11_with_2 rfl (fun r1 w1 H locs hf hR => ?_)
  refine lv_if_eq (tgt := 16) hx hb dX11_with_5 (by decide) (fun c2 => ?_) (fun c2 => ?_)
  · replace hf := hf.1 c2
    refine lv_iconst (v := (-1 : Int32)) hx hb dX11_with_16 (by decide) ?_
    exact hQ _ _ _ _ _ _ _ _ _ _ hX (by have := hr.2.2.1; omega) (by have := hr.2.2.2; omega) hf hR dX11_with_17
  · replace hf := hf.2 c2
    refine lv_iload_n hx hb dX11_with_8 rfl (lv_at hl 2 rfl) ?_
    refine lv_iload_n hx hb dX11_with_9 rfl (lv_at hl 3 rfl) ?_
    refine z_callSI (fr1 := 0) (As := [.int x2, .int x3]) (rest := []) X (hr.none (by decide)) hR zy_X11_isMeaning zq_873 (mX11_isMeaning  hf) rfl hl (Nat.le_of_ble_eq_true rfl) dX11_with_10 rfl (fun r3 w3 H locs hf hR => ?_)
    refine lv_if_ne (tgt := 18) hx hb dX11_with_13 (by decide) (fun c4 => ?_) (fun c4 => ?_)
    · replace hf := hf.1 c4
      refine lv_aload_n hx hb dX11_with_18 rfl (lv_at hl 0 rfl) ?_
      refine lv_iload_n hx hb dX11_with_19 rfl (lv_at hl 1 rfl) ?_
      have hw5_1 : al 1 := (zlit hR zf_1)
      have hv5_1 : al 1 := (zlit hR zf_1)
      obtain ⟨c5, s5, hc5, hs5, hf⟩ := hf
      refine z_callAVR (fr1 := 5) (mc := c5) (ms := s5) (b := 1) (As := [.int x1]) (rest := []) X (hr.call hc5 hs5 (by decide)) hR zy_X11_talliedWord zq_1132 (zlit hR zf_1) (by rw [zs_1]; rfl) rfl (zlit hR zf_29) (mX11_talliedWord  hf) rfl hl (Nat.le_of_ble_eq_true rfl) dX11_with_20 rfl (fun w5 H locs ad5 al5 hf hE5 hR => ?_)
      have hX := hX.tr hE5
      have hr := hr.after hc5 hs5
      rw [← (hE5 1 hw5_1).2] at hl
      refine lv_iconst (v := (3 : Int32)) hx hb dX11_with_23 (by decide) ?_
      refine lv_iload_n hx hb dX11_with_24 rfl (lv_at hl 2 rfl) ?_
      refine lv_imul hx hb dX11_with_25 ?_
      refine lv_iload_n hx hb dX11_with_26 rfl (lv_at hl 3 rfl) ?_
      refine lv_iadd hx hb dX11_with_27 ?_
      refine z_callVI (fr1 := 0) (b := 29) (As := [.int (((3 : Int32) * x2) + x3)]) (rest := []) X (hr.none (by decide)) hR zy_X9_of zq_1194 (zlit hR zf_29) (by rw [zs_29]; rfl) rfl (mX9_of  hf) rfl hl (Nat.le_of_ble_eq_true rfl) dX11_with_28 rfl (fun r6 w6 H locs hf hR => ?_)
      exact hQ _ _ _ _ _ _ _ _ _ _ hX (by have := hr.2.2.1; omega) (by have := hr.2.2.2; omega) hf hR dX11_with_31
    · replace hf := hf.2 c4
      refine lv_iconst (v := (-1 : Int32)) hx hb dX11_with_16 (by decide) ?_
      exact hQ _ _ _ _ _ _ _ _ _ _ hX (by have := hr.2.2.1; omega) (by have := hr.2.2.2; omega) hf hR dX11_with_17
/-! X11_talliedRow -/
def fX11_talliedRow (mc ms : Nat) (x1 : Int32) (w : zW) (k : zW → Prop) : Prop :=
  ∃ c1 s1, c1 ≤ mc ∧ s1 ≤ ms ∧ fX11_readyShelf c1 s1  w (fun w1 =>
  fX8_tallyRow x1 w1 (fun w2 =>
  k w2))
set_option maxHeartbeats 4000000 in
set_option maxRecDepth 100000 in
theorem mX11_talliedRow {l : Launch} {D : va_G} {dA : Nat → ClassId} {ad : Nat → Nat} {al : Nat → Prop} {w : zW} {mc ms : Nat} {k : zW → Prop} {x1 : Int32}  (hf : fX11_talliedRow mc ms x1 w k) : zmetAR l yX11_talliedRow cX11_talliedRow 2 (some (.object "ForeignKnit$Tally")) 5 mc ms 29 [.ref (ad 1), .int x1] D dA true ad al w k := by
  refine zmetAR_of (by decide) (Nat.le_of_ble_eq_true rfl) (show zgh true w 29 from Or.inl zf_29) ?_
  intro p e R s m below meth c Q H ls args locs cells slots X hr hQ hR hl
  have hx := X.1
  have hb := X.2.1
  have hml := X.2.2.1
  have hown := X.2.2.2.1
  have hts := X.2.2.2.2.1
  unfold fX11_talliedRow at hf
  have hl : lv_has ls 2 [(0, .ref (ad 1)), (1, .int x1)] := hl
  have hX : zExt ad al ad al := zExt.rf
  refine lv_aload_n hx hb dX11_talliedRow_0 rfl (lv_at hl 0 rfl) ?_
  have hw1_1 : al 1 := (zlit hR zf_1)
  have hv1_1 : al 1 := (zlit hR zf_1)
  obtain ⟨c1, s1, hc1, hs1, hf⟩ := hf
  refine z_callAVR (fr1 := 4) (mc := c1) (ms := s1) (b := 1) (As := []) (rest := []) X (hr.call hc1 hs1 (by decide)) hR zy_X11_readyShelf zq_1105 (zlit hR zf_1) (by rw [zs_1]; rfl) rfl (zlit hR zf_24) (mX11_readyShelf  hf) rfl hl (Nat.le_of_ble_eq_true rfl) dX11_talliedRow_1 rfl (fun w1 H locs ad1 al1 hf hE1 hR => ?_)
  have hX := hX.tr hE1
  have hr := hr.after hc1 hs1
  rw [← (hE1 1 hw1_1).2] at hl
  refine lv_iload_n hx hb dX11_talliedRow_4 rfl (lv_at hl 1 rfl) ?_
  refine lv_aload_n hx hb dX11_talliedRow_5 rfl (lv_at hl 0 rfl) ?_
  refine z_getS X hR (zlit hR zf_1) zs_1 (by decide) zfd_X11_57 rfl (r := 29) (by decide +kernel) dX11_talliedRow_6 ?_
  refine z_callVV (fr1 := 2) (b := 24) (As := [.int x1, .ref (ad1 29)]) (rest := []) X (hr.none (by decide)) hR zy_X8_tallyRow zq_1210 (zlit hR zf_24) (by rw [zs_24]; rfl) rfl (mX8_tallyRow  hf) rfl hl (Nat.le_of_ble_eq_true rfl) dX11_talliedRow_9 rfl (fun w2 H locs hf hR => ?_)
  refine lv_aload_n hx hb dX11_talliedRow_12 rfl (lv_at hl 0 rfl) ?_
  refine z_getS X hR (zlit hR zf_1) zs_1 (by decide) zfd_X11_57 rfl (r := 29) (by decide +kernel) dX11_talliedRow_13 ?_
  exact hQ _ _ _ _ _ _ _ _ _ hX (by have := hr.2.2.1; omega) (by have := hr.2.2.2; omega) hf hR dX11_talliedRow_16
/-! X11_least -/
def fX11_least (mc ms : Nat) (x1 : Int32) (w : zW) (k : Int32 → zW → Prop) : Prop :=
  fX11_isRow x1 w (fun r1 w1 =>
  ((r1 = 0 →
    k (-1 : Int32) w1) ∧
   (¬ r1 = 0 →
    ∃ c3 s3, c3 ≤ mc ∧ s3 ≤ ms ∧ fX11_talliedRow c3 s3 x1 w1 (fun w3 =>
    fX9_lowest  w3 (fun r4 w4 =>
    k r4 w4)))))
set_option maxHeartbeats 4000000 in
set_option maxRecDepth 100000 in
theorem mX11_least {l : Launch} {D : va_G} {dA : Nat → ClassId} {ad : Nat → Nat} {al : Nat → Prop} {w : zW} {mc ms : Nat} {k : Int32 → zW → Prop} {x1 : Int32}  (hf : fX11_least mc ms x1 w k) : zmetAI l yX11_least cX11_least 2 (some .int) 6 mc ms [.ref (ad 1), .int x1] D dA true ad al w k := by
  refine zmetAI_of (by decide) (Nat.le_of_ble_eq_true rfl) ?_
  intro p e R s m below meth c Q H ls args locs cells slots X hr hQ hR hl
  have hx := X.1
  have hb := X.2.1
  have hml := X.2.2.1
  have hown := X.2.2.2.1
  have hts := X.2.2.2.2.1
  unfold fX11_least at hf
  have hl : lv_has ls 2 [(0, .ref (ad 1)), (1, .int x1)] := hl
  have hX : zExt ad al ad al := zExt.rf
  refine lv_aload_n hx hb dX11_least_0 rfl (lv_at hl 0 rfl) ?_
  refine lv_iload_n hx hb dX11_least_1 rfl (lv_at hl 1 rfl) ?_
  refine z_callVI (fr1 := 0) (b := 1) (As := [.int x1]) (rest := []) X (hr.none (by decide)) hR zy_X11_isRow zq_781 (zlit hR zf_1) (by rw [zs_1]; rfl) rfl (mX11_isRow  hf) rfl hl (Nat.le_of_ble_eq_true rfl) dX11_least_2 rfl (fun r1 w1 H locs hf hR => ?_)
  refine lv_if_eq (tgt := 19) hx hb dX11_least_5 (by decide) (fun c2 => ?_) (fun c2 => ?_)
  · replace hf := hf.1 c2
    refine lv_iconst (v := (-1 : Int32)) hx hb dX11_least_19 (by decide) ?_
    exact hQ _ _ _ _ _ _ _ _ _ _ hX (by have := hr.2.2.1; omega) (by have := hr.2.2.2; omega) hf hR dX11_least_20
  · replace hf := hf.2 c2
    refine lv_aload_n hx hb dX11_least_8 rfl (lv_at hl 0 rfl) ?_
    refine lv_iload_n hx hb dX11_least_9 rfl (lv_at hl 1 rfl) ?_
    have hw3_1 : al 1 := (zlit hR zf_1)
    have hv3_1 : al 1 := (zlit hR zf_1)
    obtain ⟨c3, s3, hc3, hs3, hf⟩ := hf
    refine z_callAVR (fr1 := 5) (mc := c3) (ms := s3) (b := 1) (As := [.int x1]) (rest := []) X (hr.call hc3 hs3 (by decide)) hR zy_X11_talliedRow zq_1206 (zlit hR zf_1) (by rw [zs_1]; rfl) rfl (zlit hR zf_29) (mX11_talliedRow  hf) rfl hl (Nat.le_of_ble_eq_true rfl) dX11_least_10 rfl (fun w3 H locs ad3 al3 hf hE3 hR => ?_)
    have hX := hX.tr hE3
    have hr := hr.after hc3 hs3
    rw [← (hE3 1 hw3_1).2] at hl
    refine z_callVI (fr1 := 0) (b := 29) (As := []) (rest := []) X (hr.none (by decide)) hR zy_X9_lowest zq_1215 (zlit hR zf_29) (by rw [zs_29]; rfl) rfl (mX9_lowest  hf) rfl hl (Nat.le_of_ble_eq_true rfl) dX11_least_13 rfl (fun r4 w4 H locs hf hR => ?_)
    refine lv_goto (tgt := 20) hx hb dX11_least_16 (by decide) ?_
    exact hQ _ _ _ _ _ _ _ _ _ _ hX (by have := hr.2.2.1; omega) (by have := hr.2.2.2; omega) hf hR dX11_least_20
/-! X11_most -/
def fX11_most (mc ms : Nat) (x1 : Int32) (w : zW) (k : Int32 → zW → Prop) : Prop :=
  fX11_isRow x1 w (fun r1 w1 =>
  ((r1 = 0 →
    k (-1 : Int32) w1) ∧
   (¬ r1 = 0 →
    ∃ c3 s3, c3 ≤ mc ∧ s3 ≤ ms ∧ fX11_talliedRow c3 s3 x1 w1 (fun w3 =>
    fX9_highest  w3 (fun r4 w4 =>
    k r4 w4)))))
set_option maxHeartbeats 4000000 in
set_option maxRecDepth 100000 in
theorem mX11_most {l : Launch} {D : va_G} {dA : Nat → ClassId} {ad : Nat → Nat} {al : Nat → Prop} {w : zW} {mc ms : Nat} {k : Int32 → zW → Prop} {x1 : Int32}  (hf : fX11_most mc ms x1 w k) : zmetAI l yX11_most cX11_most 2 (some .int) 6 mc ms [.ref (ad 1), .int x1] D dA true ad al w k := by
  refine zmetAI_of (by decide) (Nat.le_of_ble_eq_true rfl) ?_
  intro p e R s m below meth c Q H ls args locs cells slots X hr hQ hR hl
  have hx := X.1
  have hb := X.2.1
  have hml := X.2.2.1
  have hown := X.2.2.2.1
  have hts := X.2.2.2.2.1
  unfold fX11_most at hf
  have hl : lv_has ls 2 [(0, .ref (ad 1)), (1, .int x1)] := hl
  have hX : zExt ad al ad al := zExt.rf
  refine lv_aload_n hx hb dX11_most_0 rfl (lv_at hl 0 rfl) ?_
  refine lv_iload_n hx hb dX11_most_1 rfl (lv_at hl 1 rfl) ?_
  refine z_callVI (fr1 := 0) (b := 1) (As := [.int x1]) (rest := []) X (hr.none (by decide)) hR zy_X11_isRow zq_781 (zlit hR zf_1) (by rw [zs_1]; rfl) rfl (mX11_isRow  hf) rfl hl (Nat.le_of_ble_eq_true rfl) dX11_most_2 rfl (fun r1 w1 H locs hf hR => ?_)
  refine lv_if_eq (tgt := 19) hx hb dX11_most_5 (by decide) (fun c2 => ?_) (fun c2 => ?_)
  · replace hf := hf.1 c2
    refine lv_iconst (v := (-1 : Int32)) hx hb dX11_most_19 (by decide) ?_
    exact hQ _ _ _ _ _ _ _ _ _ _ hX (by have := hr.2.2.1; omega) (by have := hr.2.2.2; omega) hf hR dX11_most_20
  · replace hf := hf.2 c2
    refine lv_aload_n hx hb dX11_most_8 rfl (lv_at hl 0 rfl) ?_
    refine lv_iload_n hx hb dX11_most_9 rfl (lv_at hl 1 rfl) ?_
    have hw3_1 : al 1 := (zlit hR zf_1)
    have hv3_1 : al 1 := (zlit hR zf_1)
    obtain ⟨c3, s3, hc3, hs3, hf⟩ := hf
    refine z_callAVR (fr1 := 5) (mc := c3) (ms := s3) (b := 1) (As := [.int x1]) (rest := []) X (hr.call hc3 hs3 (by decide)) hR zy_X11_talliedRow zq_1206 (zlit hR zf_1) (by rw [zs_1]; rfl) rfl (zlit hR zf_29) (mX11_talliedRow  hf) rfl hl (Nat.le_of_ble_eq_true rfl) dX11_most_10 rfl (fun w3 H locs ad3 al3 hf hE3 hR => ?_)
    have hX := hX.tr hE3
    have hr := hr.after hc3 hs3
    rw [← (hE3 1 hw3_1).2] at hl
    refine z_callVI (fr1 := 0) (b := 29) (As := []) (rest := []) X (hr.none (by decide)) hR zy_X9_highest zq_1228 (zlit hR zf_29) (by rw [zs_29]; rfl) rfl (mX9_highest  hf) rfl hl (Nat.le_of_ble_eq_true rfl) dX11_most_13 rfl (fun r4 w4 H locs hf hR => ?_)
    refine lv_goto (tgt := 20) hx hb dX11_most_16 (by decide) ?_
    exact hQ _ _ _ _ _ _ _ _ _ _ hX (by have := hr.2.2.1; omega) (by have := hr.2.2.2; omega) hf hR dX11_most_20
/-! X11_kinds -/
def fX11_kinds (mc ms : Nat) (x1 : Int32) (w : zW) (k : Int32 → zW → Prop) : Prop :=
  fX11_isRow x1 w (fun r1 w1 =>
  ((r1 = 0 →
    k (-1 : Int32) w1) ∧
   (¬ r1 = 0 →
    ∃ c3 s3, c3 ≤ mc ∧ s3 ≤ ms ∧ fX11_talliedRow c3 s3 x1 w1 (fun w3 =>
    fX9_differing  w3 (fun r4 w4 =>
    k r4 w4)))))
set_option maxHeartbeats 4000000 in
set_option maxRecDepth 100000 in
theorem mX11_kinds {l : Launch} {D : va_G} {dA : Nat → ClassId} {ad : Nat → Nat} {al : Nat → Prop} {w : zW} {mc ms : Nat} {k : Int32 → zW → Prop} {x1 : Int32}  (hf : fX11_kinds mc ms x1 w k) : zmetAI l yX11_kinds cX11_kinds 2 (some .int) 6 mc ms [.ref (ad 1), .int x1] D dA true ad al w k := by
  refine zmetAI_of (by decide) (Nat.le_of_ble_eq_true rfl) ?_
  intro p e R s m below meth c Q H ls args locs cells slots X hr hQ hR hl
  have hx := X.1
  have hb := X.2.1
  have hml := X.2.2.1
  have hown := X.2.2.2.1
  have hts := X.2.2.2.2.1
  unfold fX11_kinds at hf
  have hl : lv_has ls 2 [(0, .ref (ad 1)), (1, .int x1)] := hl
  have hX : zExt ad al ad al := zExt.rf
  refine lv_aload_n hx hb dX11_kinds_0 rfl (lv_at hl 0 rfl) ?_
  refine lv_iload_n hx hb dX11_kinds_1 rfl (lv_at hl 1 rfl) ?_
  refine z_callVI (fr1 := 0) (b := 1) (As := [.int x1]) (rest := []) X (hr.none (by decide)) hR zy_X11_isRow zq_781 (zlit hR zf_1) (by rw [zs_1]; rfl) rfl (mX11_isRow  hf) rfl hl (Nat.le_of_ble_eq_true rfl) dX11_kinds_2 rfl (fun r1 w1 H locs hf hR => ?_)
  refine lv_if_eq (tgt := 19) hx hb dX11_kinds_5 (by decide) (fun c2 => ?_) (fun c2 => ?_)
  · replace hf := hf.1 c2
    refine lv_iconst (v := (-1 : Int32)) hx hb dX11_kinds_19 (by decide) ?_
    exact hQ _ _ _ _ _ _ _ _ _ _ hX (by have := hr.2.2.1; omega) (by have := hr.2.2.2; omega) hf hR dX11_kinds_20
  · replace hf := hf.2 c2
    refine lv_aload_n hx hb dX11_kinds_8 rfl (lv_at hl 0 rfl) ?_
    refine lv_iload_n hx hb dX11_kinds_9 rfl (lv_at hl 1 rfl) ?_
    have hw3_1 : al 1 := (zlit hR zf_1)
    have hv3_1 : al 1 := (zlit hR zf_1)
    obtain ⟨c3, s3, hc3, hs3, hf⟩ := hf
    refine z_callAVR (fr1 := 5) (mc := c3) (ms := s3) (b := 1) (As := [.int x1]) (rest := []) X (hr.call hc3 hs3 (by decide)) hR zy_X11_talliedRow zq_1206 (zlit hR zf_1) (by rw [zs_1]; rfl) rfl (zlit hR zf_29) (mX11_talliedRow  hf) rfl hl (Nat.le_of_ble_eq_true rfl) dX11_kinds_10 rfl (fun w3 H locs ad3 al3 hf hE3 hR => ?_)
    have hX := hX.tr hE3
    have hr := hr.after hc3 hs3
    rw [← (hE3 1 hw3_1).2] at hl
    refine z_callVI (fr1 := 0) (b := 29) (As := []) (rest := []) X (hr.none (by decide)) hR zy_X9_differing zq_1241 (zlit hR zf_29) (by rw [zs_29]; rfl) rfl (mX9_differing  hf) rfl hl (Nat.le_of_ble_eq_true rfl) dX11_kinds_13 rfl (fun r4 w4 H locs hf hR => ?_)
    refine lv_goto (tgt := 20) hx hb dX11_kinds_16 (by decide) ?_
    exact hQ _ _ _ _ _ _ _ _ _ _ hX (by have := hr.2.2.1; omega) (by have := hr.2.2.2; omega) hf hR dX11_kinds_20
/-! X11_open -/
def fX11_open_L4 (k : Int32 → zW → Prop) : Nat → Nat → Nat → Int32 → Int32 → zW → Prop
  | 0 => fun _ _ _ _ _ => False
  | n + 1 => fun mc ms x1 x2 w =>
    ¬ gR w 1 9 = 0 ∧
    (((gI w (gR w 1 9) 7) ≤ x2 →
      k x1 w) ∧
     (¬ (gI w (gR w 1 9) 7) ≤ x2 →
      ∃ c3 s3, c3 ≤ mc ∧ s3 ≤ ms ∧ fX11_talliedRow c3 s3 x2 w (fun w3 =>
      fX9_differing  w3 (fun r4 w4 =>
      ((r4 ≤ (1 : Int32) →
        fX11_open_L4 k n (mc - c3) (ms - s3) x1 (x2 + (1 : Int32)) w4) ∧
       (¬ r4 ≤ (1 : Int32) →
        ∀ v6 : Int32, v6 = x1 ||| ((1 : Int32) <<< (x2 &&& 31)) →
        fX11_open_L4 k n (mc - c3) (ms - s3) v6 (x2 + (1 : Int32)) w4))))))
set_option maxHeartbeats 4000000 in
set_option maxRecDepth 100000 in
theorem mX11_open_L4 {k : Int32 → zW → Prop} (X : zCx p s m args meth c cX11_open 3 RX11 (some .int)) (hQ : zRetAI p l e R s m args below meth c Q D dA true ad0 al0 cX11_open k)  : ∀ (n cells slots mc ms : Nat) (x1 : Int32) (x2 : Int32) (ad : Nat → Nat) (al : Nat → Prop) (w : zW) (H : Heap) (locs : List Loc) (ls : Array Slot), fX11_open_L4 k n mc ms x1 x2 w → zExt ad0 al0 ad al → zRm R 6 (cells + mc) (slots + ms) → zSt D dA true ad0 al0 ad al w s H locs → lv_has ls 3 [(0, .ref (ad 1)), (1, .int x1), (2, .int x2)] → W p l e R s m args below meth c H locs cells slots Q (F0 m 4 ls []) := by
  intro n
  induction n with
  | zero => exact fun _ _ _ _ _ _ _ _ _ _ _ _ hf => hf.elim
  | succ n ih =>
    intro cells slots mc ms x1 x2 ad al w H locs ls hf hX hr hR hl
    have hx := X.1
    have hb := X.2.1
    have hml := X.2.2.1
    have hown := X.2.2.2.1
    have hts := X.2.2.2.2.1
    rw [fX11_open_L4] at hf
    refine lv_iload_n hx hb dX11_open_4 rfl (lv_at hl 2 rfl) ?_
    refine lv_aload_n hx hb dX11_open_5 rfl (lv_at hl 0 rfl) ?_
    refine z_getR X hR (zlit hR zf_1) zs_1 (by decide) zfd_X11_71 rfl dX11_open_6 ?_
    obtain ⟨hn10, hf⟩ := hf
    have hn1 : al (gR w 1 9) ∧ zsh (gR w 1 9) = 0 := zwt_of hR (zlit hR zf_1) zs_1 rfl hn10 (zdc_of zs_1 rfl)
    rw [zrf_pos hn10]
    refine z_getI X hR hn1.1 hn1.2 (by decide) zfd_X11_239 rfl dX11_open_9 ?_
    refine lv_icmp_ge (tgt := 39) hx hb dX11_open_12 (by decide) (fun c2 => ?_) (fun c2 => ?_)
    · replace hf := hf.1 c2
      refine lv_iload_n hx hb dX11_open_39 rfl (lv_at hl 1 rfl) ?_
      exact hQ _ _ _ _ _ _ _ _ _ _ hX (by have := hr.2.2.1; omega) (by have := hr.2.2.2; omega) hf hR dX11_open_40
    · replace hf := hf.2 c2
      refine lv_aload_n hx hb dX11_open_15 rfl (lv_at hl 0 rfl) ?_
      refine lv_iload_n hx hb dX11_open_16 rfl (lv_at hl 2 rfl) ?_
      have hw3_1 : al 1 := (zlit hR zf_1)
      have hv3_1 : al 1 := (zlit hR zf_1)
      obtain ⟨c3, s3, hc3, hs3, hf⟩ := hf
      refine z_callAVR (fr1 := 5) (mc := c3) (ms := s3) (b := 1) (As := [.int x2]) (rest := []) X (hr.call hc3 hs3 (by decide)) hR zy_X11_talliedRow zq_1206 (zlit hR zf_1) (by rw [zs_1]; rfl) rfl (zlit hR zf_29) (mX11_talliedRow  hf) rfl hl (Nat.le_of_ble_eq_true rfl) dX11_open_17 rfl (fun w3 H locs ad3 al3 hf hE3 hR => ?_)
      have hX := hX.tr hE3
      have hr := hr.after hc3 hs3
      have hn1 := And.intro (hE3 _ hn1.1).1 hn1.2
      rw [← (hE3 1 hw3_1).2] at hl
      refine z_callVI (fr1 := 0) (b := 29) (As := []) (rest := []) X (hr.none (by decide)) hR zy_X9_differing zq_1241 (zlit hR zf_29) (by rw [zs_29]; rfl) rfl (mX9_differing  hf) rfl hl (Nat.le_of_ble_eq_true rfl) dX11_open_20 rfl (fun r4 w4 H locs hf hR => ?_)
      refine lv_iconst (v := (1 : Int32)) hx hb dX11_open_23 (by decide) ?_
      refine lv_icmp_le (tgt := 33) hx hb dX11_open_24 (by decide) (fun c5 => ?_) (fun c5 => ?_)
      · replace hf := hf.1 c5
        refine lv_iinc (v := x2 + (1 : Int32)) (lv' := [(2, .int (x2 + (1 : Int32))), (0, .ref (ad3 1)), (1, .int x1)]) hx hb dX11_open_33 hl (k := 2) rfl rfl (by decide) rfl (fun ls hl => ?_)
        refine lv_goto (tgt := 4) hx hb dX11_open_36 (by decide) ?_
        exact ih _ _ _ _ x1 (x2 + (1 : Int32)) _ _ w4 _ _ _ hf hX hr hR (lv_sub hl [1, 2, 0] rfl)
      · replace hf := hf.2 c5
        refine lv_iload_n hx hb dX11_open_27 rfl (lv_at hl 1 rfl) ?_
        refine lv_iconst (v := (1 : Int32)) hx hb dX11_open_28 (by decide) ?_
        refine lv_iload_n hx hb dX11_open_29 rfl (lv_at hl 2 rfl) ?_
        refine lv_ishl hx hb dX11_open_30 ?_
        refine lv_ior hx hb dX11_open_31 ?_
        refine lv_topi (fun v6 hv6 => ?_)
        replace hf := hf v6 hv6
        refine lv_istore_n (lv' := [(1, .int v6), (0, .ref (ad3 1)), (2, .int x2)]) hx hb dX11_open_32 rfl hl (by decide) rfl (fun ls hl => ?_)
        refine lv_iinc (v := x2 + (1 : Int32)) (lv' := [(2, .int (x2 + (1 : Int32))), (1, .int v6), (0, .ref (ad3 1))]) hx hb dX11_open_33 hl (k := 2) rfl rfl (by decide) rfl (fun ls hl => ?_)
        refine lv_goto (tgt := 4) hx hb dX11_open_36 (by decide) ?_
        exact ih _ _ _ _ v6 (x2 + (1 : Int32)) _ _ w4 _ _ _ hf hX hr hR (lv_sub hl [2, 1, 0] rfl)
def fX11_open (mc ms : Nat) (w : zW) (k : Int32 → zW → Prop) : Prop :=
  ∃ n9, fX11_open_L4 k n9 mc ms (0 : Int32) (0 : Int32) w
set_option maxHeartbeats 4000000 in
set_option maxRecDepth 100000 in
theorem mX11_open {l : Launch} {D : va_G} {dA : Nat → ClassId} {ad : Nat → Nat} {al : Nat → Prop} {w : zW} {mc ms : Nat} {k : Int32 → zW → Prop}  (hf : fX11_open mc ms w k) : zmetAI l yX11_open cX11_open 3 (some .int) 6 mc ms [.ref (ad 1)] D dA true ad al w k := by
  refine zmetAI_of (by decide) (Nat.le_of_ble_eq_true rfl) ?_
  intro p e R s m below meth c Q H ls args locs cells slots X hr hQ hR hl
  have hx := X.1
  have hb := X.2.1
  have hml := X.2.2.1
  have hown := X.2.2.2.1
  have hts := X.2.2.2.2.1
  unfold fX11_open at hf
  have hl : lv_has ls 3 [(0, .ref (ad 1))] := hl
  have hX : zExt ad al ad al := zExt.rf
  refine lv_iconst (v := (0 : Int32)) hx hb dX11_open_0 (by decide) ?_
  refine lv_istore_n (lv' := [(1, .int (0 : Int32)), (0, .ref (ad 1))]) hx hb dX11_open_1 rfl hl (by decide) rfl (fun ls hl => ?_)
  refine lv_iconst (v := (0 : Int32)) hx hb dX11_open_2 (by decide) ?_
  refine lv_istore_n (lv' := [(2, .int (0 : Int32)), (1, .int (0 : Int32)), (0, .ref (ad 1))]) hx hb dX11_open_3 rfl hl (by decide) rfl (fun ls hl => ?_)
  obtain ⟨n9, hf⟩ := hf
  exact mX11_open_L4 X hQ  n9 _ _ _ _ (0 : Int32) (0 : Int32) _ _ w _ _ _ hf hX hr hR (lv_sub hl [2, 1, 0] rfl)
/-! X11_has -/
def fX11_has (mc ms : Nat) (x1 : Int32) (x2 : Int32) (w : zW) (k : Int32 → zW → Prop) : Prop :=
  fX11_isRow x1 w (fun r1 w1 =>
  ((r1 = 0 →
    k (-1 : Int32) w1) ∧
   (¬ r1 = 0 →
    fX11_isCount x2 w1 (fun r3 w3 =>
    ((r3 = 0 →
      k (-1 : Int32) w3) ∧
     (¬ r3 = 0 →
      ∃ c5 s5, c5 ≤ mc ∧ s5 ≤ ms ∧ fX11_talliedRow c5 s5 x1 w3 (fun w5 =>
      fX9_of x2 w5 (fun r6 w6 =>
      k r6 w6))))))))
set_option maxHeartbeats 4000000 in
set_option maxRecDepth 100000 in
theorem mX11_has {l : Launch} {D : va_G} {dA : Nat → ClassId} {ad : Nat → Nat} {al : Nat → Prop} {w : zW} {mc ms : Nat} {k : Int32 → zW → Prop} {x1 : Int32} {x2 : Int32}  (hf : fX11_has mc ms x1 x2 w k) : zmetAI l yX11_has cX11_has 3 (some .int) 6 mc ms [.ref (ad 1), .int x1, .int x2] D dA true ad al w k := by
  refine zmetAI_of (by decide) (Nat.le_of_ble_eq_true rfl) ?_
  intro p e R s m below meth c Q H ls args locs cells slots X hr hQ hR hl
  have hx := X.1
  have hb := X.2.1
  have hml := X.2.2.1
  have hown := X.2.2.2.1
  have hts := X.2.2.2.2.1
  unfold fX11_has at hf
  have hl : lv_has ls 3 [(0, .ref (ad 1)), (1, .int x1), (2, .int x2)] := hl
  have hX : zExt ad al ad al := zExt.rf
  refine lv_aload_n hx hb dX11_has_0 rfl (lv_at hl 0 rfl) ?_
  refine lv_iload_n hx hb dX11_has_1 rfl (lv_at hl 1 rfl) ?_
  refine z_callVI (fr1 := 0) (b := 1) (As := [.int x1]) (rest := []) X (hr.none (by decide)) hR zy_X11_isRow zq_781 (zlit hR zf_1) (by rw [zs_1]; rfl) rfl (mX11_isRow  hf) rfl hl (Nat.le_of_ble_eq_true rfl) dX11_has_2 rfl (fun r1 w1 H locs hf hR => ?_)
  refine lv_if_eq (tgt := 27) hx hb dX11_has_5 (by decide) (fun c2 => ?_) (fun c2 => ?_)
  · replace hf := hf.1 c2
    refine lv_iconst (v := (-1 : Int32)) hx hb dX11_has_27 (by decide) ?_
    exact hQ _ _ _ _ _ _ _ _ _ _ hX (by have := hr.2.2.1; omega) (by have := hr.2.2.2; omega) hf hR dX11_has_28
  · replace hf := hf.2 c2
    refine lv_iload_n hx hb dX11_has_8 rfl (lv_at hl 2 rfl) ?_
    refine z_callSI (fr1 := 0) (As := [.int x2]) (rest := []) X (hr.none (by decide)) hR zy_X11_isCount zq_930 (mX11_isCount  hf) rfl hl (Nat.le_of_ble_eq_true rfl) dX11_has_9 rfl (fun r3 w3 H locs hf hR => ?_)
    refine lv_if_eq (tgt := 27) hx hb dX11_has_12 (by decide) (fun c4 => ?_) (fun c4 => ?_)
    · replace hf := hf.1 c4
      refine lv_iconst (v := (-1 : Int32)) hx hb dX11_has_27 (by decide) ?_
      exact hQ _ _ _ _ _ _ _ _ _ _ hX (by have := hr.2.2.1; omega) (by have := hr.2.2.2; omega) hf hR dX11_has_28
    · replace hf := hf.2 c4
      refine lv_aload_n hx hb dX11_has_15 rfl (lv_at hl 0 rfl) ?_
      refine lv_iload_n hx hb dX11_has_16 rfl (lv_at hl 1 rfl) ?_
      have hw5_1 : al 1 := (zlit hR zf_1)
      have hv5_1 : al 1 := (zlit hR zf_1)
      obtain ⟨c5, s5, hc5, hs5, hf⟩ := hf
      refine z_callAVR (fr1 := 5) (mc := c5) (ms := s5) (b := 1) (As := [.int x1]) (rest := []) X (hr.call hc5 hs5 (by decide)) hR zy_X11_talliedRow zq_1206 (zlit hR zf_1) (by rw [zs_1]; rfl) rfl (zlit hR zf_29) (mX11_talliedRow  hf) rfl hl (Nat.le_of_ble_eq_true rfl) dX11_has_17 rfl (fun w5 H locs ad5 al5 hf hE5 hR => ?_)
      have hX := hX.tr hE5
      have hr := hr.after hc5 hs5
      rw [← (hE5 1 hw5_1).2] at hl
      refine lv_iload_n hx hb dX11_has_20 rfl (lv_at hl 2 rfl) ?_
      refine z_callVI (fr1 := 0) (b := 29) (As := [.int x2]) (rest := []) X (hr.none (by decide)) hR zy_X9_of zq_1194 (zlit hR zf_29) (by rw [zs_29]; rfl) rfl (mX9_of  hf) rfl hl (Nat.le_of_ble_eq_true rfl) dX11_has_21 rfl (fun r6 w6 H locs hf hR => ?_)
      refine lv_goto (tgt := 28) hx hb dX11_has_24 (by decide) ?_
      exact hQ _ _ _ _ _ _ _ _ _ _ hX (by have := hr.2.2.1; omega) (by have := hr.2.2.2; omega) hf hR dX11_has_28
/-! X11_ask -/
def fX11_ask_L12 (k : Int32 → zW → Prop) : Nat → Nat → Nat → Int32 → Int32 → Int32 → zW → Prop
  | 0 => fun _ _ _ _ _ _ => False
  | n + 1 => fun mc ms x1 x2 x3 w =>
    ¬ gR w 1 9 = 0 ∧
    (((gI w (gR w 1 9) 7) ≤ x3 →
      k x2 w) ∧
     (¬ (gI w (gR w 1 9) 7) ≤ x3 →
      fX3_countOf 9 x3 w (fun r5 w5 =>
      ((¬ r5 = (-1 : Int32) →
        fX11_ask_L12 k n mc ms x1 x2 (x3 + (1 : Int32)) w5) ∧
       (r5 = (-1 : Int32) →
        ∃ c7 s7, c7 ≤ mc ∧ s7 ≤ ms ∧ fX11_talliedRow c7 s7 x3 w5 (fun w7 =>
        fX9_greatest  w7 (fun r8 w8 =>
        ((x1 ≤ r8 →
          fX11_ask_L12 k n (mc - c7) (ms - s7) x1 x2 (x3 + (1 : Int32)) w8) ∧
         (¬ x1 ≤ r8 →
          fX9_greatest  w8 (fun r10 w10 =>
          fX11_ask_L12 k n (mc - c7) (ms - s7) r10 x3 (x3 + (1 : Int32)) w10))))))))))
set_option maxHeartbeats 4000000 in
set_option maxRecDepth 100000 in
theorem mX11_ask_L12 {k : Int32 → zW → Prop} (X : zCx p s m args meth c cX11_ask 4 RX11 (some .int)) (hQ : zRetAI p l e R s m args below meth c Q D dA true ad0 al0 cX11_ask k)  : ∀ (n cells slots mc ms : Nat) (x1 : Int32) (x2 : Int32) (x3 : Int32) (ad : Nat → Nat) (al : Nat → Prop) (w : zW) (H : Heap) (locs : List Loc) (ls : Array Slot), fX11_ask_L12 k n mc ms x1 x2 x3 w → zExt ad0 al0 ad al → zRm R 6 (cells + mc) (slots + ms) → zSt D dA true ad0 al0 ad al w s H locs → lv_has ls 4 [(0, .ref (ad 1)), (1, .int x1), (2, .int x2), (3, .int x3)] → W p l e R s m args below meth c H locs cells slots Q (F0 m 12 ls []) := by
  intro n
  induction n with
  | zero => exact fun _ _ _ _ _ _ _ _ _ _ _ _ _ hf => hf.elim
  | succ n ih =>
    intro cells slots mc ms x1 x2 x3 ad al w H locs ls hf hX hr hR hl
    have hx := X.1
    have hb := X.2.1
    have hml := X.2.2.1
    have hown := X.2.2.2.1
    have hts := X.2.2.2.2.1
    rw [fX11_ask_L12] at hf
    refine lv_iload_n hx hb dX11_ask_12 rfl (lv_at hl 3 rfl) ?_
    refine lv_aload_n hx hb dX11_ask_13 rfl (lv_at hl 0 rfl) ?_
    refine z_getR X hR (zlit hR zf_1) zs_1 (by decide) zfd_X11_71 rfl dX11_ask_14 ?_
    obtain ⟨hn30, hf⟩ := hf
    have hn3 : al (gR w 1 9) ∧ zsh (gR w 1 9) = 0 := zwt_of hR (zlit hR zf_1) zs_1 rfl hn30 (zdc_of zs_1 rfl)
    rw [zrf_pos hn30]
    refine z_getI X hR hn3.1 hn3.2 (by decide) zfd_X11_239 rfl dX11_ask_17 ?_
    refine lv_icmp_ge (tgt := 63) hx hb dX11_ask_20 (by decide) (fun c4 => ?_) (fun c4 => ?_)
    · replace hf := hf.1 c4
      refine lv_iload_n hx hb dX11_ask_63 rfl (lv_at hl 2 rfl) ?_
      exact hQ _ _ _ _ _ _ _ _ _ _ hX (by have := hr.2.2.1; omega) (by have := hr.2.2.2; omega) hf hR dX11_ask_64
    · replace hf := hf.2 c4
      refine lv_aload_n hx hb dX11_ask_23 rfl (lv_at hl 0 rfl) ?_
      refine z_getS X hR (zlit hR zf_1) zs_1 (by decide) zfd_X11_28 rfl (r := 9) (by decide +kernel) dX11_ask_24 ?_
      refine lv_iload_n hx hb dX11_ask_27 rfl (lv_at hl 3 rfl) ?_
      refine z_callVI (fr1 := 0) (b := 9) (As := [.int x3]) (rest := []) X (hr.none (by decide)) hR zy_X3_countOf zq_786 (zlit hR zf_9) (by rw [zs_9]; rfl) rfl (mX3_countOf ⟨(zlit hR zf_9), zs_9⟩ hf) rfl hl (Nat.le_of_ble_eq_true rfl) dX11_ask_28 rfl (fun r5 w5 H locs hf hR => ?_)
      refine lv_iconst (v := (-1 : Int32)) hx hb dX11_ask_31 (by decide) ?_
      refine lv_icmp_ne (tgt := 57) hx hb dX11_ask_32 (by decide) (fun c6 => ?_) (fun c6 => ?_)
      · replace hf := hf.1 c6
        refine lv_iinc (v := x3 + (1 : Int32)) (lv' := [(3, .int (x3 + (1 : Int32))), (0, .ref (ad 1)), (1, .int x1), (2, .int x2)]) hx hb dX11_ask_57 hl (k := 3) rfl rfl (by decide) rfl (fun ls hl => ?_)
        refine lv_goto (tgt := 12) hx hb dX11_ask_60 (by decide) ?_
        exact ih _ _ _ _ x1 x2 (x3 + (1 : Int32)) _ _ w5 _ _ _ hf hX hr hR (lv_sub hl [1, 2, 3, 0] rfl)
      · replace hf := hf.2 c6
        refine lv_aload_n hx hb dX11_ask_35 rfl (lv_at hl 0 rfl) ?_
        refine lv_iload_n hx hb dX11_ask_36 rfl (lv_at hl 3 rfl) ?_
        have hw7_1 : al 1 := (zlit hR zf_1)
        have hv7_1 : al 1 := (zlit hR zf_1)
        obtain ⟨c7, s7, hc7, hs7, hf⟩ := hf
        refine z_callAVR (fr1 := 5) (mc := c7) (ms := s7) (b := 1) (As := [.int x3]) (rest := []) X (hr.call hc7 hs7 (by decide)) hR zy_X11_talliedRow zq_1206 (zlit hR zf_1) (by rw [zs_1]; rfl) rfl (zlit hR zf_29) (mX11_talliedRow  hf) rfl hl (Nat.le_of_ble_eq_true rfl) dX11_ask_37 rfl (fun w7 H locs ad7 al7 hf hE7 hR => ?_)
        have hX := hX.tr hE7
        have hr := hr.after hc7 hs7
        have hn3 := And.intro (hE7 _ hn3.1).1 hn3.2
        rw [← (hE7 1 hw7_1).2] at hl
        refine z_callVI (fr1 := 1) (b := 29) (As := []) (rest := []) X (hr.none (by decide)) hR zy_X9_greatest zq_1273 (zlit hR zf_29) (by rw [zs_29]; rfl) rfl (mX9_greatest  hf) rfl hl (Nat.le_of_ble_eq_true rfl) dX11_ask_40 rfl (fun r8 w8 H locs hf hR => ?_)
        refine lv_iload_n hx hb dX11_ask_43 rfl (lv_at hl 1 rfl) ?_
        refine lv_icmp_ge (tgt := 57) hx hb dX11_ask_44 (by decide) (fun c9 => ?_) (fun c9 => ?_)
        · replace hf := hf.1 c9
          refine lv_iinc (v := x3 + (1 : Int32)) (lv' := [(3, .int (x3 + (1 : Int32))), (0, .ref (ad7 1)), (1, .int x1), (2, .int x2)]) hx hb dX11_ask_57 hl (k := 3) rfl rfl (by decide) rfl (fun ls hl => ?_)
          refine lv_goto (tgt := 12) hx hb dX11_ask_60 (by decide) ?_
          exact ih _ _ _ _ x1 x2 (x3 + (1 : Int32)) _ _ w8 _ _ _ hf hX hr hR (lv_sub hl [1, 2, 3, 0] rfl)
        · replace hf := hf.2 c9
          refine lv_aload_n hx hb dX11_ask_47 rfl (lv_at hl 0 rfl) ?_
          refine z_getS X hR (zlit hR zf_1) zs_1 (by decide) zfd_X11_57 rfl (r := 29) (by decide +kernel) dX11_ask_48 ?_
          refine z_callVI (fr1 := 1) (b := 29) (As := []) (rest := []) X (hr.none (by decide)) hR zy_X9_greatest zq_1273 (zlit hR zf_29) (by rw [zs_29]; rfl) rfl (mX9_greatest  hf) rfl hl (Nat.le_of_ble_eq_true rfl) dX11_ask_51 rfl (fun r10 w10 H locs hf hR => ?_)
          refine lv_istore_n (lv' := [(1, .int r10), (0, .ref (ad7 1)), (2, .int x2), (3, .int x3)]) hx hb dX11_ask_54 rfl hl (by decide) rfl (fun ls hl => ?_)
          refine lv_iload_n hx hb dX11_ask_55 rfl (lv_at hl 3 rfl) ?_
          refine lv_istore_n (lv' := [(2, .int x3), (1, .int r10), (0, .ref (ad7 1)), (3, .int x3)]) hx hb dX11_ask_56 rfl hl (by decide) rfl (fun ls hl => ?_)
          refine lv_iinc (v := x3 + (1 : Int32)) (lv' := [(3, .int (x3 + (1 : Int32))), (2, .int x3), (1, .int r10), (0, .ref (ad7 1))]) hx hb dX11_ask_57 hl (k := 3) rfl rfl (by decide) rfl (fun ls hl => ?_)
          refine lv_goto (tgt := 12) hx hb dX11_ask_60 (by decide) ?_
          exact ih _ _ _ _ r10 x3 (x3 + (1 : Int32)) _ _ w10 _ _ _ hf hX hr hR (lv_sub hl [3, 2, 1, 0] rfl)
def fX11_ask (mc ms : Nat) (w : zW) (k : Int32 → zW → Prop) : Prop :=
  ∃ c1 s1, c1 ≤ mc ∧ s1 ≤ ms ∧ fX11_readyShelf c1 s1  w (fun w1 =>
  ∀ v2 : Int32, v2 = gI w1 24 3 →
  ∃ n9, fX11_ask_L12 k n9 (mc - c1) (ms - s1) v2 (-1 : Int32) (0 : Int32) w1)
set_option maxHeartbeats 4000000 in
set_option maxRecDepth 100000 in
theorem mX11_ask {l : Launch} {D : va_G} {dA : Nat → ClassId} {ad : Nat → Nat} {al : Nat → Prop} {w : zW} {mc ms : Nat} {k : Int32 → zW → Prop}  (hf : fX11_ask mc ms w k) : zmetAI l yX11_ask cX11_ask 4 (some .int) 6 mc ms [.ref (ad 1)] D dA true ad al w k := by
  refine zmetAI_of (by decide) (Nat.le_of_ble_eq_true rfl) ?_
  intro p e R s m below meth c Q H ls args locs cells slots X hr hQ hR hl
  have hx := X.1
  have hb := X.2.1
  have hml := X.2.2.1
  have hown := X.2.2.2.1
  have hts := X.2.2.2.2.1
  unfold fX11_ask at hf
  have hl : lv_has ls 4 [(0, .ref (ad 1))] := hl
  have hX : zExt ad al ad al := zExt.rf
  refine lv_aload_n hx hb dX11_ask_0 rfl (lv_at hl 0 rfl) ?_
  have hw1_1 : al 1 := (zlit hR zf_1)
  have hv1_1 : al 1 := (zlit hR zf_1)
  obtain ⟨c1, s1, hc1, hs1, hf⟩ := hf
  refine z_callAVR (fr1 := 4) (mc := c1) (ms := s1) (b := 1) (As := []) (rest := []) X (hr.call hc1 hs1 (by decide)) hR zy_X11_readyShelf zq_1105 (zlit hR zf_1) (by rw [zs_1]; rfl) rfl (zlit hR zf_24) (mX11_readyShelf  hf) rfl hl (Nat.le_of_ble_eq_true rfl) dX11_ask_1 rfl (fun w1 H locs ad1 al1 hf hE1 hR => ?_)
  have hX := hX.tr hE1
  have hr := hr.after hc1 hs1
  rw [← (hE1 1 hw1_1).2] at hl
  refine z_getI X hR (zlit hR zf_24) zs_24 (by decide) zfd_X11_201 rfl dX11_ask_4 ?_
  refine lv_topi (fun v2 hv2 => ?_)
  replace hf := hf v2 hv2
  refine lv_istore_n (lv' := [(1, .int v2), (0, .ref (ad1 1))]) hx hb dX11_ask_7 rfl hl (by decide) rfl (fun ls hl => ?_)
  refine lv_iconst (v := (-1 : Int32)) hx hb dX11_ask_8 (by decide) ?_
  refine lv_istore_n (lv' := [(2, .int (-1 : Int32)), (1, .int v2), (0, .ref (ad1 1))]) hx hb dX11_ask_9 rfl hl (by decide) rfl (fun ls hl => ?_)
  refine lv_iconst (v := (0 : Int32)) hx hb dX11_ask_10 (by decide) ?_
  refine lv_istore_n (lv' := [(3, .int (0 : Int32)), (2, .int (-1 : Int32)), (1, .int v2), (0, .ref (ad1 1))]) hx hb dX11_ask_11 rfl hl (by decide) rfl (fun ls hl => ?_)
  obtain ⟨n9, hf⟩ := hf
  exact mX11_ask_L12 X hQ  n9 _ _ _ _ v2 (-1 : Int32) (0 : Int32) _ _ w1 _ _ _ hf hX hr hR (lv_sub hl [3, 2, 1, 0] rfl)
/-! X11_learn -/
def fX11_learn_L12 (k : Int32 → zW → Prop) : Nat → Nat → Nat → Int32 → Int32 → Int32 → zW → Prop
  | 0 => fun _ _ _ _ _ _ => False
  | n + 1 => fun mc ms x1 x2 x3 w =>
    ¬ gR w 1 9 = 0 ∧
    (((gI w (gR w 1 9) 0) ≤ x3 →
      k x2 w) ∧
     (¬ (gI w (gR w 1 9) 0) ≤ x3 →
      fX3_guessOf 9 x3 w (fun r5 w5 =>
      ((¬ r5 = (-1 : Int32) →
        fX11_learn_L12 k n mc ms x1 x2 (x3 + (1 : Int32)) w5) ∧
       (r5 = (-1 : Int32) →
        ∃ c7 s7, c7 ≤ mc ∧ s7 ≤ ms ∧ fX11_talliedWord c7 s7 x3 w5 (fun w7 =>
        fX9_greatest  w7 (fun r8 w8 =>
        ((x1 ≤ r8 →
          fX11_learn_L12 k n (mc - c7) (ms - s7) x1 x2 (x3 + (1 : Int32)) w8) ∧
         (¬ x1 ≤ r8 →
          fX9_greatest  w8 (fun r10 w10 =>
          fX11_learn_L12 k n (mc - c7) (ms - s7) r10 x3 (x3 + (1 : Int32)) w10))))))))))
set_option maxHeartbeats 4000000 in
set_option maxRecDepth 100000 in
theorem mX11_learn_L12 {k : Int32 → zW → Prop} (X : zCx p s m args meth c cX11_learn 4 RX11 (some .int)) (hQ : zRetAI p l e R s m args below meth c Q D dA true ad0 al0 cX11_learn k)  : ∀ (n cells slots mc ms : Nat) (x1 : Int32) (x2 : Int32) (x3 : Int32) (ad : Nat → Nat) (al : Nat → Prop) (w : zW) (H : Heap) (locs : List Loc) (ls : Array Slot), fX11_learn_L12 k n mc ms x1 x2 x3 w → zExt ad0 al0 ad al → zRm R 6 (cells + mc) (slots + ms) → zSt D dA true ad0 al0 ad al w s H locs → lv_has ls 4 [(0, .ref (ad 1)), (1, .int x1), (2, .int x2), (3, .int x3)] → W p l e R s m args below meth c H locs cells slots Q (F0 m 12 ls []) := by
  intro n
  induction n with
  | zero => exact fun _ _ _ _ _ _ _ _ _ _ _ _ _ hf => hf.elim
  | succ n ih =>
    intro cells slots mc ms x1 x2 x3 ad al w H locs ls hf hX hr hR hl
    have hx := X.1
    have hb := X.2.1
    have hml := X.2.2.1
    have hown := X.2.2.2.1
    have hts := X.2.2.2.2.1
    rw [fX11_learn_L12] at hf
    refine lv_iload_n hx hb dX11_learn_12 rfl (lv_at hl 3 rfl) ?_
    refine lv_aload_n hx hb dX11_learn_13 rfl (lv_at hl 0 rfl) ?_
    refine z_getR X hR (zlit hR zf_1) zs_1 (by decide) zfd_X11_71 rfl dX11_learn_14 ?_
    obtain ⟨hn30, hf⟩ := hf
    have hn3 : al (gR w 1 9) ∧ zsh (gR w 1 9) = 0 := zwt_of hR (zlit hR zf_1) zs_1 rfl hn30 (zdc_of zs_1 rfl)
    rw [zrf_pos hn30]
    refine z_getI X hR hn3.1 hn3.2 (by decide) zfd_X11_221 rfl dX11_learn_17 ?_
    refine lv_icmp_ge (tgt := 63) hx hb dX11_learn_20 (by decide) (fun c4 => ?_) (fun c4 => ?_)
    · replace hf := hf.1 c4
      refine lv_iload_n hx hb dX11_learn_63 rfl (lv_at hl 2 rfl) ?_
      exact hQ _ _ _ _ _ _ _ _ _ _ hX (by have := hr.2.2.1; omega) (by have := hr.2.2.2; omega) hf hR dX11_learn_64
    · replace hf := hf.2 c4
      refine lv_aload_n hx hb dX11_learn_23 rfl (lv_at hl 0 rfl) ?_
      refine z_getS X hR (zlit hR zf_1) zs_1 (by decide) zfd_X11_28 rfl (r := 9) (by decide +kernel) dX11_learn_24 ?_
      refine lv_iload_n hx hb dX11_learn_27 rfl (lv_at hl 3 rfl) ?_
      refine z_callVI (fr1 := 0) (b := 9) (As := [.int x3]) (rest := []) X (hr.none (by decide)) hR zy_X3_guessOf zq_761 (zlit hR zf_9) (by rw [zs_9]; rfl) rfl (mX3_guessOf ⟨(zlit hR zf_9), zs_9⟩ hf) rfl hl (Nat.le_of_ble_eq_true rfl) dX11_learn_28 rfl (fun r5 w5 H locs hf hR => ?_)
      refine lv_iconst (v := (-1 : Int32)) hx hb dX11_learn_31 (by decide) ?_
      refine lv_icmp_ne (tgt := 57) hx hb dX11_learn_32 (by decide) (fun c6 => ?_) (fun c6 => ?_)
      · replace hf := hf.1 c6
        refine lv_iinc (v := x3 + (1 : Int32)) (lv' := [(3, .int (x3 + (1 : Int32))), (0, .ref (ad 1)), (1, .int x1), (2, .int x2)]) hx hb dX11_learn_57 hl (k := 3) rfl rfl (by decide) rfl (fun ls hl => ?_)
        refine lv_goto (tgt := 12) hx hb dX11_learn_60 (by decide) ?_
        exact ih _ _ _ _ x1 x2 (x3 + (1 : Int32)) _ _ w5 _ _ _ hf hX hr hR (lv_sub hl [1, 2, 3, 0] rfl)
      · replace hf := hf.2 c6
        refine lv_aload_n hx hb dX11_learn_35 rfl (lv_at hl 0 rfl) ?_
        refine lv_iload_n hx hb dX11_learn_36 rfl (lv_at hl 3 rfl) ?_
        have hw7_1 : al 1 := (zlit hR zf_1)
        have hv7_1 : al 1 := (zlit hR zf_1)
        obtain ⟨c7, s7, hc7, hs7, hf⟩ := hf
        refine z_callAVR (fr1 := 5) (mc := c7) (ms := s7) (b := 1) (As := [.int x3]) (rest := []) X (hr.call hc7 hs7 (by decide)) hR zy_X11_talliedWord zq_1132 (zlit hR zf_1) (by rw [zs_1]; rfl) rfl (zlit hR zf_29) (mX11_talliedWord  hf) rfl hl (Nat.le_of_ble_eq_true rfl) dX11_learn_37 rfl (fun w7 H locs ad7 al7 hf hE7 hR => ?_)
        have hX := hX.tr hE7
        have hr := hr.after hc7 hs7
        have hn3 := And.intro (hE7 _ hn3.1).1 hn3.2
        rw [← (hE7 1 hw7_1).2] at hl
        refine z_callVI (fr1 := 1) (b := 29) (As := []) (rest := []) X (hr.none (by decide)) hR zy_X9_greatest zq_1273 (zlit hR zf_29) (by rw [zs_29]; rfl) rfl (mX9_greatest  hf) rfl hl (Nat.le_of_ble_eq_true rfl) dX11_learn_40 rfl (fun r8 w8 H locs hf hR => ?_)
        refine lv_iload_n hx hb dX11_learn_43 rfl (lv_at hl 1 rfl) ?_
        refine lv_icmp_ge (tgt := 57) hx hb dX11_learn_44 (by decide) (fun c9 => ?_) (fun c9 => ?_)
        · replace hf := hf.1 c9
          refine lv_iinc (v := x3 + (1 : Int32)) (lv' := [(3, .int (x3 + (1 : Int32))), (0, .ref (ad7 1)), (1, .int x1), (2, .int x2)]) hx hb dX11_learn_57 hl (k := 3) rfl rfl (by decide) rfl (fun ls hl => ?_)
          refine lv_goto (tgt := 12) hx hb dX11_learn_60 (by decide) ?_
          exact ih _ _ _ _ x1 x2 (x3 + (1 : Int32)) _ _ w8 _ _ _ hf hX hr hR (lv_sub hl [1, 2, 3, 0] rfl)
        · replace hf := hf.2 c9
          refine lv_aload_n hx hb dX11_learn_47 rfl (lv_at hl 0 rfl) ?_
          refine z_getS X hR (zlit hR zf_1) zs_1 (by decide) zfd_X11_57 rfl (r := 29) (by decide +kernel) dX11_learn_48 ?_
          refine z_callVI (fr1 := 1) (b := 29) (As := []) (rest := []) X (hr.none (by decide)) hR zy_X9_greatest zq_1273 (zlit hR zf_29) (by rw [zs_29]; rfl) rfl (mX9_greatest  hf) rfl hl (Nat.le_of_ble_eq_true rfl) dX11_learn_51 rfl (fun r10 w10 H locs hf hR => ?_)
          refine lv_istore_n (lv' := [(1, .int r10), (0, .ref (ad7 1)), (2, .int x2), (3, .int x3)]) hx hb dX11_learn_54 rfl hl (by decide) rfl (fun ls hl => ?_)
          refine lv_iload_n hx hb dX11_learn_55 rfl (lv_at hl 3 rfl) ?_
          refine lv_istore_n (lv' := [(2, .int x3), (1, .int r10), (0, .ref (ad7 1)), (3, .int x3)]) hx hb dX11_learn_56 rfl hl (by decide) rfl (fun ls hl => ?_)
          refine lv_iinc (v := x3 + (1 : Int32)) (lv' := [(3, .int (x3 + (1 : Int32))), (2, .int x3), (1, .int r10), (0, .ref (ad7 1))]) hx hb dX11_learn_57 hl (k := 3) rfl rfl (by decide) rfl (fun ls hl => ?_)
          refine lv_goto (tgt := 12) hx hb dX11_learn_60 (by decide) ?_
          exact ih _ _ _ _ r10 x3 (x3 + (1 : Int32)) _ _ w10 _ _ _ hf hX hr hR (lv_sub hl [3, 2, 1, 0] rfl)
def fX11_learn (mc ms : Nat) (w : zW) (k : Int32 → zW → Prop) : Prop :=
  ∃ c1 s1, c1 ≤ mc ∧ s1 ≤ ms ∧ fX11_readyShelf c1 s1  w (fun w1 =>
  ∀ v2 : Int32, v2 = gI w1 24 3 →
  ∃ n9, fX11_learn_L12 k n9 (mc - c1) (ms - s1) v2 (-1 : Int32) (0 : Int32) w1)
set_option maxHeartbeats 4000000 in
set_option maxRecDepth 100000 in
theorem mX11_learn {l : Launch} {D : va_G} {dA : Nat → ClassId} {ad : Nat → Nat} {al : Nat → Prop} {w : zW} {mc ms : Nat} {k : Int32 → zW → Prop}  (hf : fX11_learn mc ms w k) : zmetAI l yX11_learn cX11_learn 4 (some .int) 6 mc ms [.ref (ad 1)] D dA true ad al w k := by
  refine zmetAI_of (by decide) (Nat.le_of_ble_eq_true rfl) ?_
  intro p e R s m below meth c Q H ls args locs cells slots X hr hQ hR hl
  have hx := X.1
  have hb := X.2.1
  have hml := X.2.2.1
  have hown := X.2.2.2.1
  have hts := X.2.2.2.2.1
  unfold fX11_learn at hf
  have hl : lv_has ls 4 [(0, .ref (ad 1))] := hl
  have hX : zExt ad al ad al := zExt.rf
  refine lv_aload_n hx hb dX11_learn_0 rfl (lv_at hl 0 rfl) ?_
  have hw1_1 : al 1 := (zlit hR zf_1)
  have hv1_1 : al 1 := (zlit hR zf_1)
  obtain ⟨c1, s1, hc1, hs1, hf⟩ := hf
  refine z_callAVR (fr1 := 4) (mc := c1) (ms := s1) (b := 1) (As := []) (rest := []) X (hr.call hc1 hs1 (by decide)) hR zy_X11_readyShelf zq_1105 (zlit hR zf_1) (by rw [zs_1]; rfl) rfl (zlit hR zf_24) (mX11_readyShelf  hf) rfl hl (Nat.le_of_ble_eq_true rfl) dX11_learn_1 rfl (fun w1 H locs ad1 al1 hf hE1 hR => ?_)
  have hX := hX.tr hE1
  have hr := hr.after hc1 hs1
  rw [← (hE1 1 hw1_1).2] at hl
  refine z_getI X hR (zlit hR zf_24) zs_24 (by decide) zfd_X11_201 rfl dX11_learn_4 ?_
  refine lv_topi (fun v2 hv2 => ?_)
  replace hf := hf v2 hv2
  refine lv_istore_n (lv' := [(1, .int v2), (0, .ref (ad1 1))]) hx hb dX11_learn_7 rfl hl (by decide) rfl (fun ls hl => ?_)
  refine lv_iconst (v := (-1 : Int32)) hx hb dX11_learn_8 (by decide) ?_
  refine lv_istore_n (lv' := [(2, .int (-1 : Int32)), (1, .int v2), (0, .ref (ad1 1))]) hx hb dX11_learn_9 rfl hl (by decide) rfl (fun ls hl => ?_)
  refine lv_iconst (v := (0 : Int32)) hx hb dX11_learn_10 (by decide) ?_
  refine lv_istore_n (lv' := [(3, .int (0 : Int32)), (2, .int (-1 : Int32)), (1, .int v2), (0, .ref (ad1 1))]) hx hb dX11_learn_11 rfl hl (by decide) rfl (fun ls hl => ?_)
  obtain ⟨n9, hf⟩ := hf
  exact mX11_learn_L12 X hQ  n9 _ _ _ _ v2 (-1 : Int32) (0 : Int32) _ _ w1 _ _ _ hf hX hr hR (lv_sub hl [3, 2, 1, 0] rfl)
/-! X11_bad -/
def fX11_bad_J72 (k : Int32 → zW → Prop) (g29 : Int32 → Int32 → zW → Prop) (x1 : Int32) (x2 : Int32) (t0 : Int32) (w : zW) : Prop :=
  ((¬ t0 = 0 →
    k x2 w) ∧
   (t0 = 0 →
    ¬ gR w 1 9 = 0 ∧
    fX0_excess (gR w 1 9) x2 x1 w (fun r11 w11 =>
    ((r11 = 0 →
      g29 x1 (x2 + (1 : Int32)) w11) ∧
     (¬ r11 = 0 →
      k x2 w11)))))
set_option maxHeartbeats 4000000 in
set_option maxRecDepth 100000 in
theorem mX11_bad_J72 {k : Int32 → zW → Prop} {g29 : Int32 → Int32 → zW → Prop} (X : zCx p s m args meth c cX11_bad 5 RX11 (some .int)) (hr : zRm R 3 cells slots) (hQ : zRetI p l e R s m args below meth c cells slots Q D dA true ad0 al0 ad al cX11_bad k) (hg29 : ∀ (x1 : Int32) (x2 : Int32) (w : zW) (H : Heap) (locs : List Loc) (ls : Array Slot), g29 x1 x2 w → zSt D dA true ad0 al0 ad al w s H locs → lv_has ls 5 [(0, .ref (ad 1)), (1, .int x1), (2, .int x2)] → W p l e R s m args below meth c H locs cells slots Q (F0 m 29 ls [])) {x1 : Int32} {x2 : Int32} {t0 : Int32} {w : zW} {H : Heap} {locs : List Loc} {ls : Array Slot} (hf : fX11_bad_J72 k g29 x1 x2 t0 w) (hR : zSt D dA true ad0 al0 ad al w s H locs) (hl : lv_has ls 5 [(0, .ref (ad 1)), (1, .int x1), (2, .int x2)]) : W p l e R s m args below meth c H locs cells slots Q (F0 m 72 ls [.int t0]) := by
  have hx := X.1
  have hb := X.2.1
  have hml := X.2.2.1
  have hown := X.2.2.2.1
  have hts := X.2.2.2.2.1
  unfold fX11_bad_J72 at hf
  refine lv_istore (lv' := [(4, .int t0), (0, .ref (ad 1)), (1, .int x1), (2, .int x2)]) hx hb dX11_bad_72 hl (by decide) rfl (fun ls hl => ?_)
  refine lv_iload hx hb dX11_bad_74 (lv_at hl 0 rfl) ?_
  refine lv_if_ne (tgt := 91) hx hb dX11_bad_76 (by decide) (fun c9 => ?_) (fun c9 => ?_)
  · replace hf := hf.1 c9
    refine lv_iload_n hx hb dX11_bad_91 rfl (lv_at hl 3 rfl) ?_
    exact hQ _ _ _ _ _ _ hf hR dX11_bad_92
  · replace hf := hf.2 c9
    refine lv_aload_n hx hb dX11_bad_79 rfl (lv_at hl 1 rfl) ?_
    refine z_getR X hR (zlit hR zf_1) zs_1 (by decide) zfd_X11_71 rfl dX11_bad_80 ?_
    obtain ⟨hn100, hf⟩ := hf
    have hn10 : al (gR w 1 9) ∧ zsh (gR w 1 9) = 0 := zwt_of hR (zlit hR zf_1) zs_1 rfl hn100 (zdc_of zs_1 rfl)
    rw [zrf_pos hn100]
    refine lv_iload_n hx hb dX11_bad_83 rfl (lv_at hl 3 rfl) ?_
    refine lv_iload_n hx hb dX11_bad_84 rfl (lv_at hl 2 rfl) ?_
    refine z_callVI (fr1 := 1) (b := (gR w 1 9)) (As := [.int x2, .int x1]) (rest := []) X (hr.le (by decide)) hR zy_X0_excess zq_1309 hn10.1 (by rw [hn10.2]; rfl) rfl (mX0_excess ⟨hn10.1, hn10.2⟩ hf) rfl hl (Nat.le_of_ble_eq_true rfl) dX11_bad_85 rfl (fun r11 w11 H locs hf hR => ?_)
    refine lv_if_eq (tgt := 93) hx hb dX11_bad_88 (by decide) (fun c12 => ?_) (fun c12 => ?_)
    · replace hf := hf.1 c12
      refine lv_iinc (v := x2 + (1 : Int32)) (lv' := [(2, .int (x2 + (1 : Int32))), (4, .int t0), (0, .ref (ad 1)), (1, .int x1)]) hx hb dX11_bad_93 hl (k := 3) rfl rfl (by decide) rfl (fun ls hl => ?_)
      refine lv_goto (tgt := 29) hx hb dX11_bad_96 (by decide) ?_
      exact hg29 x1 (x2 + (1 : Int32)) w11 _ _ _ hf hR (lv_sub hl [2, 3, 0] rfl)
    · replace hf := hf.2 c12
      refine lv_iload_n hx hb dX11_bad_91 rfl (lv_at hl 3 rfl) ?_
      exact hQ _ _ _ _ _ _ hf hR dX11_bad_92
def fX11_bad_L29 (k : Int32 → zW → Prop) : Nat → Int32 → Int32 → zW → Prop
  | 0 => fun _ _ _ => False
  | n + 1 => fun x1 x2 w =>
    ¬ gR w 1 9 = 0 ∧
    (((gI w (gR w 1 9) 7) ≤ x2 →
      k (-1 : Int32) w) ∧
     (¬ (gI w (gR w 1 9) 7) ≤ x2 →
      fX3_countOf 9 x2 w (fun r7 w7 =>
      ((r7 = (-1 : Int32) →
        fX11_bad_J72 k (fX11_bad_L29 k n) x1 x2 (0 : Int32) w7) ∧
       (¬ r7 = (-1 : Int32) →
        ¬ gR w7 1 9 = 0 ∧
        fX0_leavesOf (gR w7 1 9) x2 x1 w7 (fun r14 w14 =>
        ∀ v15 : Int32, v15 = (if r14 = r7 then (0 : Int32) else (1 : Int32)) →
        fX11_bad_J72 k (fX11_bad_L29 k n) x1 x2 v15 w14))))))
set_option maxHeartbeats 4000000 in
set_option maxRecDepth 100000 in
theorem mX11_bad_L29 {k : Int32 → zW → Prop} (X : zCx p s m args meth c cX11_bad 5 RX11 (some .int)) (hr : zRm R 3 cells slots) (hQ : zRetI p l e R s m args below meth c cells slots Q D dA true ad0 al0 ad al cX11_bad k)  : ∀ (n : Nat) (x1 : Int32) (x2 : Int32) (w : zW) (H : Heap) (locs : List Loc) (ls : Array Slot), fX11_bad_L29 k n x1 x2 w → zSt D dA true ad0 al0 ad al w s H locs → lv_has ls 5 [(0, .ref (ad 1)), (1, .int x1), (2, .int x2)] → W p l e R s m args below meth c H locs cells slots Q (F0 m 29 ls []) := by
  intro n
  induction n with
  | zero => exact fun _ _ _ _ _ _ hf => hf.elim
  | succ n ih =>
    intro x1 x2 w H locs ls hf hR hl
    have hx := X.1
    have hb := X.2.1
    have hml := X.2.2.1
    have hown := X.2.2.2.1
    have hts := X.2.2.2.2.1
    rw [fX11_bad_L29] at hf
    refine lv_iload_n hx hb dX11_bad_29 rfl (lv_at hl 2 rfl) ?_
    refine lv_aload_n hx hb dX11_bad_30 rfl (lv_at hl 0 rfl) ?_
    refine z_getR X hR (zlit hR zf_1) zs_1 (by decide) zfd_X11_71 rfl dX11_bad_31 ?_
    obtain ⟨hn50, hf⟩ := hf
    have hn5 : al (gR w 1 9) ∧ zsh (gR w 1 9) = 0 := zwt_of hR (zlit hR zf_1) zs_1 rfl hn50 (zdc_of zs_1 rfl)
    rw [zrf_pos hn50]
    refine z_getI X hR hn5.1 hn5.2 (by decide) zfd_X11_239 rfl dX11_bad_34 ?_
    refine lv_icmp_ge (tgt := 99) hx hb dX11_bad_37 (by decide) (fun c6 => ?_) (fun c6 => ?_)
    · replace hf := hf.1 c6
      refine lv_iconst (v := (-1 : Int32)) hx hb dX11_bad_99 (by decide) ?_
      exact hQ _ _ _ _ _ _ hf hR dX11_bad_100
    · replace hf := hf.2 c6
      refine lv_aload_n hx hb dX11_bad_40 rfl (lv_at hl 0 rfl) ?_
      refine z_getS X hR (zlit hR zf_1) zs_1 (by decide) zfd_X11_28 rfl (r := 9) (by decide +kernel) dX11_bad_41 ?_
      refine lv_iload_n hx hb dX11_bad_44 rfl (lv_at hl 2 rfl) ?_
      refine z_callVI (fr1 := 0) (b := 9) (As := [.int x2]) (rest := []) X (hr.le (by decide)) hR zy_X3_countOf zq_786 (zlit hR zf_9) (by rw [zs_9]; rfl) rfl (mX3_countOf ⟨(zlit hR zf_9), zs_9⟩ hf) rfl hl (Nat.le_of_ble_eq_true rfl) dX11_bad_45 rfl (fun r7 w7 H locs hf hR => ?_)
      refine lv_istore_n (lv' := [(3, .int r7), (0, .ref (ad 1)), (1, .int x1), (2, .int x2)]) hx hb dX11_bad_48 rfl hl (by decide) rfl (fun ls hl => ?_)
      refine lv_iload_n hx hb dX11_bad_49 rfl (lv_at hl 0 rfl) ?_
      refine lv_iconst (v := (-1 : Int32)) hx hb dX11_bad_50 (by decide) ?_
      refine lv_icmp_eq (tgt := 71) hx hb dX11_bad_51 (by decide) (fun c8 => ?_) (fun c8 => ?_)
      · replace hf := hf.1 c8
        refine lv_iconst (v := (0 : Int32)) hx hb dX11_bad_71 (by decide) ?_
        exact mX11_bad_J72 X hr hQ ih hf hR (lv_sub hl [1, 2, 3] rfl)
      · replace hf := hf.2 c8
        refine lv_aload_n hx hb dX11_bad_54 rfl (lv_at hl 1 rfl) ?_
        refine z_getR X hR (zlit hR zf_1) zs_1 (by decide) zfd_X11_71 rfl dX11_bad_55 ?_
        obtain ⟨hn130, hf⟩ := hf
        have hn13 : al (gR w7 1 9) ∧ zsh (gR w7 1 9) = 0 := zwt_of hR (zlit hR zf_1) zs_1 rfl hn130 (zdc_of zs_1 rfl)
        rw [zrf_pos hn130]
        refine lv_iload_n hx hb dX11_bad_58 rfl (lv_at hl 3 rfl) ?_
        refine lv_iload_n hx hb dX11_bad_59 rfl (lv_at hl 2 rfl) ?_
        refine z_callVI (fr1 := 0) (b := (gR w7 1 9)) (As := [.int x2, .int x1]) (rest := []) X (hr.le (by decide)) hR zy_X0_leavesOf zq_1308 hn13.1 (by rw [hn13.2]; rfl) rfl (mX0_leavesOf ⟨hn13.1, hn13.2⟩ hf) rfl hl (Nat.le_of_ble_eq_true rfl) dX11_bad_60 rfl (fun r14 w14 H locs hf hR => ?_)
        refine lv_iload_n hx hb dX11_bad_63 rfl (lv_at hl 0 rfl) ?_
        have kJ15 : ∀ v15 : Int32, v15 = (if r14 = r7 then (0 : Int32) else (1 : Int32)) → W p l e R s m args below meth c H locs cells slots Q (F0 m 72 ls (.int v15 :: [])) := by
          intro v15 hv15
          replace hf := hf v15 hv15
          exact mX11_bad_J72 X hr hQ ih hf hR (lv_sub hl [1, 2, 3] rfl)
        refine lv_icmp_eq (tgt := 71) hx hb dX11_bad_64 (by decide) (fun c15 => ?_) (fun c15 => ?_)
        · refine lv_iconst (v := (0 : Int32)) hx hb dX11_bad_71 (by decide) ?_
          exact kJ15 _ (if_pos c15).symm
        · refine lv_iconst (v := (1 : Int32)) hx hb dX11_bad_67 (by decide) ?_
          refine lv_goto (tgt := 72) hx hb dX11_bad_68 (by decide) ?_
          exact kJ15 _ (if_neg c15).symm
def fX11_bad (w : zW) (k : Int32 → zW → Prop) : Prop :=
  ¬ gR w 1 9 = 0 ∧
  fX3_allGuessed 9 (gI w (gR w 1 9) 0) w (fun r2 w2 =>
  ((¬ r2 = 0 →
    fX3_packed 9 w2 (fun r4 w4 =>
    ∃ n9, fX11_bad_L29 k n9 r4 (0 : Int32) w4)) ∧
   (r2 = 0 →
    k (-1 : Int32) w2)))
set_option maxHeartbeats 4000000 in
set_option maxRecDepth 100000 in
theorem mX11_bad {l : Launch} {D : va_G} {dA : Nat → ClassId} {ad : Nat → Nat} {al : Nat → Prop} {w : zW} {k : Int32 → zW → Prop}   (hf : fX11_bad w k) : zmetI l yX11_bad cX11_bad 5 (some .int) 3 [.ref (ad 1)] D dA true ad al w k := by
  refine zmetI_of (by decide) (Nat.le_of_ble_eq_true rfl) ?_
  intro p e R s m below meth c Q H ls args locs cells slots X hr hQ hR hl
  have hx := X.1
  have hb := X.2.1
  have hml := X.2.2.1
  have hown := X.2.2.2.1
  have hts := X.2.2.2.2.1
  unfold fX11_bad at hf
  have hl : lv_has ls 5 [(0, .ref (ad 1))] := hl
  refine lv_aload_n hx hb dX11_bad_0 rfl (lv_at hl 0 rfl) ?_
  refine z_getS X hR (zlit hR zf_1) zs_1 (by decide) zfd_X11_28 rfl (r := 9) (by decide +kernel) dX11_bad_1 ?_
  refine lv_aload_n hx hb dX11_bad_4 rfl (lv_at hl 0 rfl) ?_
  refine z_getR X hR (zlit hR zf_1) zs_1 (by decide) zfd_X11_71 rfl dX11_bad_5 ?_
  obtain ⟨hn10, hf⟩ := hf
  have hn1 : al (gR w 1 9) ∧ zsh (gR w 1 9) = 0 := zwt_of hR (zlit hR zf_1) zs_1 rfl hn10 (zdc_of zs_1 rfl)
  rw [zrf_pos hn10]
  refine z_getI X hR hn1.1 hn1.2 (by decide) zfd_X11_221 rfl dX11_bad_8 ?_
  refine z_callVI (fr1 := 2) (b := 9) (As := [.int (gI w (gR w 1 9) 0)]) (rest := []) X (hr.le (by decide)) hR zy_X3_allGuessed zq_1294 (zlit hR zf_9) (by rw [zs_9]; rfl) rfl (mX3_allGuessed ⟨(zlit hR zf_9), zs_9⟩ hf) rfl hl (Nat.le_of_ble_eq_true rfl) dX11_bad_11 rfl (fun r2 w2 H locs hf hR => ?_)
  refine lv_if_ne (tgt := 19) hx hb dX11_bad_14 (by decide) (fun c3 => ?_) (fun c3 => ?_)
  · replace hf := hf.1 c3
    refine lv_aload_n hx hb dX11_bad_19 rfl (lv_at hl 0 rfl) ?_
    refine z_getS X hR (zlit hR zf_1) zs_1 (by decide) zfd_X11_28 rfl (r := 9) (by decide +kernel) dX11_bad_20 ?_
    refine z_callVI (fr1 := 1) (b := 9) (As := []) (rest := []) X (hr.le (by decide)) hR zy_X3_packed zq_1303 (zlit hR zf_9) (by rw [zs_9]; rfl) rfl (mX3_packed ⟨(zlit hR zf_9), zs_9⟩ hf) rfl hl (Nat.le_of_ble_eq_true rfl) dX11_bad_23 rfl (fun r4 w4 H locs hf hR => ?_)
    refine lv_istore_n (lv' := [(1, .int r4), (0, .ref (ad 1))]) hx hb dX11_bad_26 rfl hl (by decide) rfl (fun ls hl => ?_)
    refine lv_iconst (v := (0 : Int32)) hx hb dX11_bad_27 (by decide) ?_
    refine lv_istore_n (lv' := [(2, .int (0 : Int32)), (1, .int r4), (0, .ref (ad 1))]) hx hb dX11_bad_28 rfl hl (by decide) rfl (fun ls hl => ?_)
    obtain ⟨n9, hf⟩ := hf
    exact mX11_bad_L29 X hr hQ  n9 r4 (0 : Int32) w4 _ _ _ hf hR (lv_sub hl [2, 1, 0] rfl)
  · replace hf := hf.2 c3
    refine lv_iconst (v := (-1 : Int32)) hx hb dX11_bad_17 (by decide) ?_
    exact hQ _ _ _ _ _ _ hf hR dX11_bad_18
/-! X11_off -/
def fX11_off (w : zW) (k : Int32 → zW → Prop) : Prop :=
  fX11_bad  w (fun r1 w1 =>
  ((¬ r1 = (-1 : Int32) →
    ¬ gR w1 1 9 = 0 ∧
    fX3_packed 9 w1 (fun r4 w4 =>
    fX0_excess (gR w1 1 9) r1 r4 w4 (fun r5 w5 =>
    k r5 w5))) ∧
   (r1 = (-1 : Int32) →
    k (0 : Int32) w1)))
set_option maxHeartbeats 4000000 in
set_option maxRecDepth 100000 in
theorem mX11_off {l : Launch} {D : va_G} {dA : Nat → ClassId} {ad : Nat → Nat} {al : Nat → Prop} {w : zW} {k : Int32 → zW → Prop}   (hf : fX11_off w k) : zmetI l yX11_off cX11_off 2 (some .int) 4 [.ref (ad 1)] D dA true ad al w k := by
  refine zmetI_of (by decide) (Nat.le_of_ble_eq_true rfl) ?_
  intro p e R s m below meth c Q H ls args locs cells slots X hr hQ hR hl
  have hx := X.1
  have hb := X.2.1
  have hml := X.2.2.1
  have hown := X.2.2.2.1
  have hts := X.2.2.2.2.1
  unfold fX11_off at hf
  have hl : lv_has ls 2 [(0, .ref (ad 1))] := hl
  refine lv_aload_n hx hb dX11_off_0 rfl (lv_at hl 0 rfl) ?_
  refine z_callVI (fr1 := 3) (b := 1) (As := []) (rest := []) X (hr.le (by decide)) hR zy_X11_bad zq_1329 (zlit hR zf_1) (by rw [zs_1]; rfl) rfl (mX11_bad  hf) rfl hl (Nat.le_of_ble_eq_true rfl) dX11_off_1 rfl (fun r1 w1 H locs hf hR => ?_)
  refine lv_istore_n (lv' := [(1, .int r1), (0, .ref (ad 1))]) hx hb dX11_off_4 rfl hl (by decide) rfl (fun ls hl => ?_)
  refine lv_iload_n hx hb dX11_off_5 rfl (lv_at hl 0 rfl) ?_
  refine lv_iconst (v := (-1 : Int32)) hx hb dX11_off_6 (by decide) ?_
  refine lv_icmp_ne (tgt := 14) hx hb dX11_off_7 (by decide) (fun c2 => ?_) (fun c2 => ?_)
  · replace hf := hf.1 c2
    refine lv_aload_n hx hb dX11_off_14 rfl (lv_at hl 1 rfl) ?_
    refine z_getR X hR (zlit hR zf_1) zs_1 (by decide) zfd_X11_71 rfl dX11_off_15 ?_
    obtain ⟨hn30, hf⟩ := hf
    have hn3 : al (gR w1 1 9) ∧ zsh (gR w1 1 9) = 0 := zwt_of hR (zlit hR zf_1) zs_1 rfl hn30 (zdc_of zs_1 rfl)
    rw [zrf_pos hn30]
    refine lv_iload_n hx hb dX11_off_18 rfl (lv_at hl 0 rfl) ?_
    refine lv_aload_n hx hb dX11_off_19 rfl (lv_at hl 1 rfl) ?_
    refine z_getS X hR (zlit hR zf_1) zs_1 (by decide) zfd_X11_28 rfl (r := 9) (by decide +kernel) dX11_off_20 ?_
    refine z_callVI (fr1 := 1) (b := 9) (As := []) (rest := [.int r1, .ref (ad (gR w1 1 9))]) X (hr.le (by decide)) hR zy_X3_packed zq_1303 (zlit hR zf_9) (by rw [zs_9]; rfl) rfl (mX3_packed ⟨(zlit hR zf_9), zs_9⟩ hf) rfl hl (Nat.le_of_ble_eq_true rfl) dX11_off_23 rfl (fun r4 w4 H locs hf hR => ?_)
    refine z_callVI (fr1 := 1) (b := (gR w1 1 9)) (As := [.int r1, .int r4]) (rest := []) X (hr.le (by decide)) hR zy_X0_excess zq_1309 hn3.1 (by rw [hn3.2]; rfl) rfl (mX0_excess ⟨hn3.1, hn3.2⟩ hf) rfl hl (Nat.le_of_ble_eq_true rfl) dX11_off_26 rfl (fun r5 w5 H locs hf hR => ?_)
    exact hQ _ _ _ _ _ _ hf hR dX11_off_29
  · replace hf := hf.2 c2
    refine lv_iconst (v := (0 : Int32)) hx hb dX11_off_10 (by decide) ?_
    refine lv_goto (tgt := 29) hx hb dX11_off_11 (by decide) ?_
    exact hQ _ _ _ _ _ _ hf hR dX11_off_29
/-! X11_behind -/
def fX11_behind_J30 (k : Int32 → zW → Prop) (x1 : Int32) (t0 : Int32) (w : zW) : Prop :=
  ((t0 = 0 →
    k (-1 : Int32) w) ∧
   (¬ t0 = 0 →
    ¬ gR w 1 9 = 0 ∧
    fX3_packed 9 w (fun r5 w5 =>
    fX0_leavesOf (gR w 1 9) x1 r5 w5 (fun r6 w6 =>
    k r6 w6))))
set_option maxHeartbeats 4000000 in
set_option maxRecDepth 100000 in
theorem mX11_behind_J30 {k : Int32 → zW → Prop} (X : zCx p s m args meth c cX11_behind 3 RX11 (some .int)) (hr : zRm R 3 cells slots) (hQ : zRetI p l e R s m args below meth c cells slots Q D dA true ad0 al0 ad al cX11_behind k)  {x1 : Int32} {t0 : Int32} {w : zW} {H : Heap} {locs : List Loc} {ls : Array Slot} (hf : fX11_behind_J30 k x1 t0 w) (hR : zSt D dA true ad0 al0 ad al w s H locs) (hl : lv_has ls 3 [(0, .ref (ad 1)), (1, .int x1)]) : W p l e R s m args below meth c H locs cells slots Q (F0 m 30 ls [.int t0]) := by
  have hx := X.1
  have hb := X.2.1
  have hml := X.2.2.1
  have hown := X.2.2.2.1
  have hts := X.2.2.2.2.1
  unfold fX11_behind_J30 at hf
  refine lv_istore_n (lv' := [(2, .int t0), (0, .ref (ad 1)), (1, .int x1)]) hx hb dX11_behind_30 rfl hl (by decide) rfl (fun ls hl => ?_)
  refine lv_iload_n hx hb dX11_behind_31 rfl (lv_at hl 0 rfl) ?_
  refine lv_if_eq (tgt := 53) hx hb dX11_behind_32 (by decide) (fun c3 => ?_) (fun c3 => ?_)
  · replace hf := hf.1 c3
    refine lv_iconst (v := (-1 : Int32)) hx hb dX11_behind_53 (by decide) ?_
    exact hQ _ _ _ _ _ _ hf hR dX11_behind_54
  · replace hf := hf.2 c3
    refine lv_aload_n hx hb dX11_behind_35 rfl (lv_at hl 1 rfl) ?_
    refine z_getR X hR (zlit hR zf_1) zs_1 (by decide) zfd_X11_71 rfl dX11_behind_36 ?_
    obtain ⟨hn40, hf⟩ := hf
    have hn4 : al (gR w 1 9) ∧ zsh (gR w 1 9) = 0 := zwt_of hR (zlit hR zf_1) zs_1 rfl hn40 (zdc_of zs_1 rfl)
    rw [zrf_pos hn40]
    refine lv_iload_n hx hb dX11_behind_39 rfl (lv_at hl 2 rfl) ?_
    refine lv_aload_n hx hb dX11_behind_40 rfl (lv_at hl 1 rfl) ?_
    refine z_getS X hR (zlit hR zf_1) zs_1 (by decide) zfd_X11_28 rfl (r := 9) (by decide +kernel) dX11_behind_41 ?_
    refine z_callVI (fr1 := 1) (b := 9) (As := []) (rest := [.int x1, .ref (ad (gR w 1 9))]) X (hr.le (by decide)) hR zy_X3_packed zq_1303 (zlit hR zf_9) (by rw [zs_9]; rfl) rfl (mX3_packed ⟨(zlit hR zf_9), zs_9⟩ hf) rfl hl (Nat.le_of_ble_eq_true rfl) dX11_behind_44 rfl (fun r5 w5 H locs hf hR => ?_)
    refine z_callVI (fr1 := 0) (b := (gR w 1 9)) (As := [.int x1, .int r5]) (rest := []) X (hr.le (by decide)) hR zy_X0_leavesOf zq_1308 hn4.1 (by rw [hn4.2]; rfl) rfl (mX0_leavesOf ⟨hn4.1, hn4.2⟩ hf) rfl hl (Nat.le_of_ble_eq_true rfl) dX11_behind_47 rfl (fun r6 w6 H locs hf hR => ?_)
    refine lv_goto (tgt := 54) hx hb dX11_behind_50 (by decide) ?_
    exact hQ _ _ _ _ _ _ hf hR dX11_behind_54
def fX11_behind (x1 : Int32) (w : zW) (k : Int32 → zW → Prop) : Prop :=
  fX11_isRow x1 w (fun r1 w1 =>
  ((r1 = 0 →
    fX11_behind_J30 k x1 (0 : Int32) w1) ∧
   (¬ r1 = 0 →
    ¬ gR w1 1 9 = 0 ∧
    fX3_allGuessed 9 (gI w1 (gR w1 1 9) 0) w1 (fun r8 w8 =>
    ∀ v9 : Int32, v9 = (if r8 = 0 then (0 : Int32) else (1 : Int32)) →
    fX11_behind_J30 k x1 v9 w8))))
set_option maxHeartbeats 4000000 in
set_option maxRecDepth 100000 in
theorem mX11_behind {l : Launch} {D : va_G} {dA : Nat → ClassId} {ad : Nat → Nat} {al : Nat → Prop} {w : zW} {k : Int32 → zW → Prop} {x1 : Int32}   (hf : fX11_behind x1 w k) : zmetI l yX11_behind cX11_behind 3 (some .int) 3 [.ref (ad 1), .int x1] D dA true ad al w k := by
  refine zmetI_of (by decide) (Nat.le_of_ble_eq_true rfl) ?_
  intro p e R s m below meth c Q H ls args locs cells slots X hr hQ hR hl
  have hx := X.1
  have hb := X.2.1
  have hml := X.2.2.1
  have hown := X.2.2.2.1
  have hts := X.2.2.2.2.1
  unfold fX11_behind at hf
  have hl : lv_has ls 3 [(0, .ref (ad 1)), (1, .int x1)] := hl
  refine lv_aload_n hx hb dX11_behind_0 rfl (lv_at hl 0 rfl) ?_
  refine lv_iload_n hx hb dX11_behind_1 rfl (lv_at hl 1 rfl) ?_
  refine z_callVI (fr1 := 0) (b := 1) (As := [.int x1]) (rest := []) X (hr.le (by decide)) hR zy_X11_isRow zq_781 (zlit hR zf_1) (by rw [zs_1]; rfl) rfl (mX11_isRow  hf) rfl hl (Nat.le_of_ble_eq_true rfl) dX11_behind_2 rfl (fun r1 w1 H locs hf hR => ?_)
  refine lv_if_eq (tgt := 29) hx hb dX11_behind_5 (by decide) (fun c2 => ?_) (fun c2 => ?_)
  · replace hf := hf.1 c2
    refine lv_iconst (v := (0 : Int32)) hx hb dX11_behind_29 (by decide) ?_
    exact mX11_behind_J30 X hr hQ  hf hR (lv_sub hl [0, 1] rfl)
  · replace hf := hf.2 c2
    refine lv_aload_n hx hb dX11_behind_8 rfl (lv_at hl 0 rfl) ?_
    refine z_getS X hR (zlit hR zf_1) zs_1 (by decide) zfd_X11_28 rfl (r := 9) (by decide +kernel) dX11_behind_9 ?_
    refine lv_aload_n hx hb dX11_behind_12 rfl (lv_at hl 0 rfl) ?_
    refine z_getR X hR (zlit hR zf_1) zs_1 (by decide) zfd_X11_71 rfl dX11_behind_13 ?_
    obtain ⟨hn70, hf⟩ := hf
    have hn7 : al (gR w1 1 9) ∧ zsh (gR w1 1 9) = 0 := zwt_of hR (zlit hR zf_1) zs_1 rfl hn70 (zdc_of zs_1 rfl)
    rw [zrf_pos hn70]
    refine z_getI X hR hn7.1 hn7.2 (by decide) zfd_X11_221 rfl dX11_behind_16 ?_
    refine z_callVI (fr1 := 2) (b := 9) (As := [.int (gI w1 (gR w1 1 9) 0)]) (rest := []) X (hr.le (by decide)) hR zy_X3_allGuessed zq_1294 (zlit hR zf_9) (by rw [zs_9]; rfl) rfl (mX3_allGuessed ⟨(zlit hR zf_9), zs_9⟩ hf) rfl hl (Nat.le_of_ble_eq_true rfl) dX11_behind_19 rfl (fun r8 w8 H locs hf hR => ?_)
    have kJ9 : ∀ v9 : Int32, v9 = (if r8 = 0 then (0 : Int32) else (1 : Int32)) → W p l e R s m args below meth c H locs cells slots Q (F0 m 30 ls (.int v9 :: [])) := by
      intro v9 hv9
      replace hf := hf v9 hv9
      exact mX11_behind_J30 X hr hQ  hf hR (lv_sub hl [0, 1] rfl)
    refine lv_if_eq (tgt := 29) hx hb dX11_behind_22 (by decide) (fun c9 => ?_) (fun c9 => ?_)
    · refine lv_iconst (v := (0 : Int32)) hx hb dX11_behind_29 (by decide) ?_
      exact kJ9 _ (if_pos c9).symm
    · refine lv_iconst (v := (1 : Int32)) hx hb dX11_behind_25 (by decide) ?_
      refine lv_goto (tgt := 30) hx hb dX11_behind_26 (by decide) ?_
      exact kJ9 _ (if_neg c9).symm
/-! X11_twins -/
def fX11_twins_L25 (k : Int32 → zW → Prop) (g9 : Nat → Nat → Int32 → Int32 → zW → Prop) : Nat → Nat → Nat → Int32 → Int32 → Int32 → zW → Prop
  | 0 => fun _ _ _ _ _ _ => False
  | n + 1 => fun mc ms x2 x3 x4 w =>
    ¬ gR w 1 9 = 0 ∧
    (((gI w (gR w 1 9) 0) ≤ x4 →
      g9 mc ms x2 (x3 + (1 : Int32)) w) ∧
     (¬ (gI w (gR w 1 9) 0) ≤ x4 →
      fX8_alwaysSame x3 x4 w (fun r7 w7 =>
      ((r7 = 0 →
        fX11_twins_L25 k g9 n mc ms x2 x3 (x4 + (1 : Int32)) w7) ∧
       (¬ r7 = 0 →
        fX11_twins_L25 k g9 n mc ms (x2 + (1 : Int32)) x3 (x4 + (1 : Int32)) w7)))))
set_option maxHeartbeats 4000000 in
set_option maxRecDepth 100000 in
theorem mX11_twins_L25 {k : Int32 → zW → Prop} {g9 : Nat → Nat → Int32 → Int32 → zW → Prop} (X : zCx p s m args meth c cX11_twins 5 RX11 (some .int)) (hQ : zRetAI p l e R s m args below meth c Q D dA true ad0 al0 cX11_twins k) (hg9 : ∀ (cells slots mc ms : Nat) (x2 : Int32) (x3 : Int32) (ad : Nat → Nat) (al : Nat → Prop) (w : zW) (H : Heap) (locs : List Loc) (ls : Array Slot), g9 mc ms x2 x3 w → zExt ad0 al0 ad al → zRm R 5 (cells + mc) (slots + ms) → zSt D dA true ad0 al0 ad al w s H locs → lv_has ls 5 [(0, .ref (ad 1)), (1, .ref (ad 24)), (2, .int x2), (3, .int x3)] → W p l e R s m args below meth c H locs cells slots Q (F0 m 9 ls [])) : ∀ (n cells slots mc ms : Nat) (x2 : Int32) (x3 : Int32) (x4 : Int32) (ad : Nat → Nat) (al : Nat → Prop) (w : zW) (H : Heap) (locs : List Loc) (ls : Array Slot), fX11_twins_L25 k g9 n mc ms x2 x3 x4 w → zExt ad0 al0 ad al → zRm R 5 (cells + mc) (slots + ms) → zSt D dA true ad0 al0 ad al w s H locs → lv_has ls 5 [(0, .ref (ad 1)), (1, .ref (ad 24)), (2, .int x2), (3, .int x3), (4, .int x4)] → W p l e R s m args below meth c H locs cells slots Q (F0 m 25 ls []) := by
  intro n
  induction n with
  | zero => exact fun _ _ _ _ _ _ _ _ _ _ _ _ _ hf => hf.elim
  | succ n ih =>
    intro cells slots mc ms x2 x3 x4 ad al w H locs ls hf hX hr hR hl
    have hx := X.1
    have hb := X.2.1
    have hml := X.2.2.1
    have hown := X.2.2.2.1
    have hts := X.2.2.2.2.1
    rw [fX11_twins_L25] at hf
    refine lv_iload hx hb dX11_twins_25 (lv_at hl 4 rfl) ?_
    refine lv_aload_n hx hb dX11_twins_27 rfl (lv_at hl 0 rfl) ?_
    refine z_getR X hR (zlit hR zf_1) zs_1 (by decide) zfd_X11_71 rfl dX11_twins_28 ?_
    obtain ⟨hn50, hf⟩ := hf
    have hn5 : al (gR w 1 9) ∧ zsh (gR w 1 9) = 0 := zwt_of hR (zlit hR zf_1) zs_1 rfl hn50 (zdc_of zs_1 rfl)
    rw [zrf_pos hn50]
    refine z_getI X hR hn5.1 hn5.2 (by decide) zfd_X11_221 rfl dX11_twins_31 ?_
    refine lv_icmp_ge (tgt := 56) hx hb dX11_twins_34 (by decide) (fun c6 => ?_) (fun c6 => ?_)
    · replace hf := hf.1 c6
      refine lv_iinc (v := x3 + (1 : Int32)) (lv' := [(3, .int (x3 + (1 : Int32))), (0, .ref (ad 1)), (1, .ref (ad 24)), (2, .int x2), (4, .int x4)]) hx hb dX11_twins_56 hl (k := 3) rfl rfl (by decide) rfl (fun ls hl => ?_)
      refine lv_goto (tgt := 9) hx hb dX11_twins_59 (by decide) ?_
      exact hg9 _ _ _ _ x2 (x3 + (1 : Int32)) _ _ w _ _ _ hf hX hr hR (lv_sub hl [1, 2, 3, 0] rfl)
    · replace hf := hf.2 c6
      refine lv_aload_n hx hb dX11_twins_37 rfl (lv_at hl 1 rfl) ?_
      refine lv_iload_n hx hb dX11_twins_38 rfl (lv_at hl 3 rfl) ?_
      refine lv_iload hx hb dX11_twins_39 (lv_at hl 4 rfl) ?_
      refine z_callVI (fr1 := 1) (b := 24) (As := [.int x3, .int x4]) (rest := []) X (hr.none (by decide)) hR zy_X8_alwaysSame zq_1346 (zlit hR zf_24) (by rw [zs_24]; rfl) rfl (mX8_alwaysSame  hf) rfl hl (Nat.le_of_ble_eq_true rfl) dX11_twins_41 rfl (fun r7 w7 H locs hf hR => ?_)
      refine lv_if_eq (tgt := 50) hx hb dX11_twins_44 (by decide) (fun c8 => ?_) (fun c8 => ?_)
      · replace hf := hf.1 c8
        refine lv_iinc (v := x4 + (1 : Int32)) (lv' := [(4, .int (x4 + (1 : Int32))), (0, .ref (ad 1)), (1, .ref (ad 24)), (2, .int x2), (3, .int x3)]) hx hb dX11_twins_50 hl (k := 4) rfl rfl (by decide) rfl (fun ls hl => ?_)
        refine lv_goto (tgt := 25) hx hb dX11_twins_53 (by decide) ?_
        exact ih _ _ _ _ x2 x3 (x4 + (1 : Int32)) _ _ w7 _ _ _ hf hX hr hR (lv_sub hl [1, 2, 3, 4, 0] rfl)
      · replace hf := hf.2 c8
        refine lv_iinc (v := x2 + (1 : Int32)) (lv' := [(2, .int (x2 + (1 : Int32))), (0, .ref (ad 1)), (1, .ref (ad 24)), (3, .int x3), (4, .int x4)]) hx hb dX11_twins_47 hl (k := 2) rfl rfl (by decide) rfl (fun ls hl => ?_)
        refine lv_iinc (v := x4 + (1 : Int32)) (lv' := [(4, .int (x4 + (1 : Int32))), (2, .int (x2 + (1 : Int32))), (0, .ref (ad 1)), (1, .ref (ad 24)), (3, .int x3)]) hx hb dX11_twins_50 hl (k := 4) rfl rfl (by decide) rfl (fun ls hl => ?_)
        refine lv_goto (tgt := 25) hx hb dX11_twins_53 (by decide) ?_
        exact ih _ _ _ _ (x2 + (1 : Int32)) x3 (x4 + (1 : Int32)) _ _ w7 _ _ _ hf hX hr hR (lv_sub hl [2, 3, 1, 4, 0] rfl)
def fX11_twins_L9 (k : Int32 → zW → Prop) : Nat → Nat → Nat → Int32 → Int32 → zW → Prop
  | 0 => fun _ _ _ _ _ => False
  | n + 1 => fun mc ms x2 x3 w =>
    ¬ gR w 1 9 = 0 ∧
    (((gI w (gR w 1 9) 0) ≤ x3 →
      k x2 w) ∧
     (¬ (gI w (gR w 1 9) 0) ≤ x3 →
      ∀ v4 : Int32, v4 = x3 + (1 : Int32) →
      ∃ n9, fX11_twins_L25 k (fX11_twins_L9 k n) n9 mc ms x2 x3 v4 w))
set_option maxHeartbeats 4000000 in
set_option maxRecDepth 100000 in
theorem mX11_twins_L9 {k : Int32 → zW → Prop} (X : zCx p s m args meth c cX11_twins 5 RX11 (some .int)) (hQ : zRetAI p l e R s m args below meth c Q D dA true ad0 al0 cX11_twins k)  : ∀ (n cells slots mc ms : Nat) (x2 : Int32) (x3 : Int32) (ad : Nat → Nat) (al : Nat → Prop) (w : zW) (H : Heap) (locs : List Loc) (ls : Array Slot), fX11_twins_L9 k n mc ms x2 x3 w → zExt ad0 al0 ad al → zRm R 5 (cells + mc) (slots + ms) → zSt D dA true ad0 al0 ad al w s H locs → lv_has ls 5 [(0, .ref (ad 1)), (1, .ref (ad 24)), (2, .int x2), (3, .int x3)] → W p l e R s m args below meth c H locs cells slots Q (F0 m 9 ls []) := by
  intro n
  induction n with
  | zero => exact fun _ _ _ _ _ _ _ _ _ _ _ _ hf => hf.elim
  | succ n ih =>
    intro cells slots mc ms x2 x3 ad al w H locs ls hf hX hr hR hl
    have hx := X.1
    have hb := X.2.1
    have hml := X.2.2.1
    have hown := X.2.2.2.1
    have hts := X.2.2.2.2.1
    rw [fX11_twins_L9] at hf
    refine lv_iload_n hx hb dX11_twins_9 rfl (lv_at hl 3 rfl) ?_
    refine lv_aload_n hx hb dX11_twins_10 rfl (lv_at hl 0 rfl) ?_
    refine z_getR X hR (zlit hR zf_1) zs_1 (by decide) zfd_X11_71 rfl dX11_twins_11 ?_
    obtain ⟨hn20, hf⟩ := hf
    have hn2 : al (gR w 1 9) ∧ zsh (gR w 1 9) = 0 := zwt_of hR (zlit hR zf_1) zs_1 rfl hn20 (zdc_of zs_1 rfl)
    rw [zrf_pos hn20]
    refine z_getI X hR hn2.1 hn2.2 (by decide) zfd_X11_221 rfl dX11_twins_14 ?_
    refine lv_icmp_ge (tgt := 62) hx hb dX11_twins_17 (by decide) (fun c3 => ?_) (fun c3 => ?_)
    · replace hf := hf.1 c3
      refine lv_iload_n hx hb dX11_twins_62 rfl (lv_at hl 2 rfl) ?_
      exact hQ _ _ _ _ _ _ _ _ _ _ hX (by have := hr.2.2.1; omega) (by have := hr.2.2.2; omega) hf hR dX11_twins_63
    · replace hf := hf.2 c3
      refine lv_iload_n hx hb dX11_twins_20 rfl (lv_at hl 3 rfl) ?_
      refine lv_iconst (v := (1 : Int32)) hx hb dX11_twins_21 (by decide) ?_
      refine lv_iadd hx hb dX11_twins_22 ?_
      refine lv_topi (fun v4 hv4 => ?_)
      replace hf := hf v4 hv4
      refine lv_istore (lv' := [(4, .int v4), (0, .ref (ad 1)), (1, .ref (ad 24)), (2, .int x2), (3, .int x3)]) hx hb dX11_twins_23 hl (by decide) rfl (fun ls hl => ?_)
      obtain ⟨n9, hf⟩ := hf
      exact mX11_twins_L25 X hQ ih n9 _ _ _ _ x2 x3 v4 _ _ w _ _ _ hf hX hr hR (lv_sub hl [1, 2, 3, 4, 0] rfl)
def fX11_twins (mc ms : Nat) (w : zW) (k : Int32 → zW → Prop) : Prop :=
  ∃ c1 s1, c1 ≤ mc ∧ s1 ≤ ms ∧ fX11_readyShelf c1 s1  w (fun w1 =>
  ∃ n9, fX11_twins_L9 k n9 (mc - c1) (ms - s1) (0 : Int32) (0 : Int32) w1)
set_option maxHeartbeats 4000000 in
set_option maxRecDepth 100000 in
theorem mX11_twins {l : Launch} {D : va_G} {dA : Nat → ClassId} {ad : Nat → Nat} {al : Nat → Prop} {w : zW} {mc ms : Nat} {k : Int32 → zW → Prop}  (hf : fX11_twins mc ms w k) : zmetAI l yX11_twins cX11_twins 5 (some .int) 5 mc ms [.ref (ad 1)] D dA true ad al w k := by
  refine zmetAI_of (by decide) (Nat.le_of_ble_eq_true rfl) ?_
  intro p e R s m below meth c Q H ls args locs cells slots X hr hQ hR hl
  have hx := X.1
  have hb := X.2.1
  have hml := X.2.2.1
  have hown := X.2.2.2.1
  have hts := X.2.2.2.2.1
  unfold fX11_twins at hf
  have hl : lv_has ls 5 [(0, .ref (ad 1))] := hl
  have hX : zExt ad al ad al := zExt.rf
  refine lv_aload_n hx hb dX11_twins_0 rfl (lv_at hl 0 rfl) ?_
  have hw1_1 : al 1 := (zlit hR zf_1)
  have hv1_1 : al 1 := (zlit hR zf_1)
  obtain ⟨c1, s1, hc1, hs1, hf⟩ := hf
  refine z_callAVR (fr1 := 4) (mc := c1) (ms := s1) (b := 1) (As := []) (rest := []) X (hr.call hc1 hs1 (by decide)) hR zy_X11_readyShelf zq_1105 (zlit hR zf_1) (by rw [zs_1]; rfl) rfl (zlit hR zf_24) (mX11_readyShelf  hf) rfl hl (Nat.le_of_ble_eq_true rfl) dX11_twins_1 rfl (fun w1 H locs ad1 al1 hf hE1 hR => ?_)
  have hX := hX.tr hE1
  have hr := hr.after hc1 hs1
  rw [← (hE1 1 hw1_1).2] at hl
  refine lv_astore_n (lv' := [(1, .ref (ad1 24)), (0, .ref (ad1 1))]) hx hb dX11_twins_4 rfl hl (by decide) rfl (fun ls hl => ?_)
  refine lv_iconst (v := (0 : Int32)) hx hb dX11_twins_5 (by decide) ?_
  refine lv_istore_n (lv' := [(2, .int (0 : Int32)), (1, .ref (ad1 24)), (0, .ref (ad1 1))]) hx hb dX11_twins_6 rfl hl (by decide) rfl (fun ls hl => ?_)
  refine lv_iconst (v := (0 : Int32)) hx hb dX11_twins_7 (by decide) ?_
  refine lv_istore_n (lv' := [(3, .int (0 : Int32)), (2, .int (0 : Int32)), (1, .ref (ad1 24)), (0, .ref (ad1 1))]) hx hb dX11_twins_8 rfl hl (by decide) rfl (fun ls hl => ?_)
  obtain ⟨n9, hf⟩ := hf
  exact mX11_twins_L9 X hQ  n9 _ _ _ _ (0 : Int32) (0 : Int32) _ _ w1 _ _ _ hf hX hr hR (lv_sub hl [3, 2, 1, 0] rfl)
/-! X11_idle -/
def fX11_idle_L4 (k : Int32 → zW → Prop) : Nat → Int32 → Int32 → zW → Prop
  | 0 => fun _ _ _ => False
  | n + 1 => fun x1 x2 w =>
    ¬ gR w 1 9 = 0 ∧
    (((gI w (gR w 1 9) 0) ≤ x2 →
      k x1 w) ∧
     (¬ (gI w (gR w 1 9) 0) ≤ x2 →
      vp_in x2 4 ∧ 
      ((¬ (gI w ((gR w 1 9) + 3) x2.toNatClampNeg) = 0 →
        fX11_idle_L4 k n x1 (x2 + (1 : Int32)) w) ∧
       ((gI w ((gR w 1 9) + 3) x2.toNatClampNeg) = 0 →
        ∀ v5 : Int32, v5 = x1 ||| ((1 : Int32) <<< (x2 &&& 31)) →
        fX11_idle_L4 k n v5 (x2 + (1 : Int32)) w))))
set_option maxHeartbeats 4000000 in
set_option maxRecDepth 100000 in
theorem mX11_idle_L4 {k : Int32 → zW → Prop} (X : zCx p s m args meth c cX11_idle 3 RX11 (some .int)) (hr : zRm R 0 cells slots) (hQ : zRetI p l e R s m args below meth c cells slots Q D dA true ad0 al0 ad al cX11_idle k)  : ∀ (n : Nat) (x1 : Int32) (x2 : Int32) (w : zW) (H : Heap) (locs : List Loc) (ls : Array Slot), fX11_idle_L4 k n x1 x2 w → zSt D dA true ad0 al0 ad al w s H locs → lv_has ls 3 [(0, .ref (ad 1)), (1, .int x1), (2, .int x2)] → W p l e R s m args below meth c H locs cells slots Q (F0 m 4 ls []) := by
  intro n
  induction n with
  | zero => exact fun _ _ _ _ _ _ hf => hf.elim
  | succ n ih =>
    intro x1 x2 w H locs ls hf hR hl
    have hx := X.1
    have hb := X.2.1
    have hml := X.2.2.1
    have hown := X.2.2.2.1
    have hts := X.2.2.2.2.1
    rw [fX11_idle_L4] at hf
    refine lv_iload_n hx hb dX11_idle_4 rfl (lv_at hl 2 rfl) ?_
    refine lv_aload_n hx hb dX11_idle_5 rfl (lv_at hl 0 rfl) ?_
    refine z_getR X hR (zlit hR zf_1) zs_1 (by decide) zfd_X11_71 rfl dX11_idle_6 ?_
    obtain ⟨hn10, hf⟩ := hf
    have hn1 : al (gR w 1 9) ∧ zsh (gR w 1 9) = 0 := zwt_of hR (zlit hR zf_1) zs_1 rfl hn10 (zdc_of zs_1 rfl)
    rw [zrf_pos hn10]
    refine z_getI X hR hn1.1 hn1.2 (by decide) zfd_X11_221 rfl dX11_idle_9 ?_
    refine lv_icmp_ge (tgt := 39) hx hb dX11_idle_12 (by decide) (fun c2 => ?_) (fun c2 => ?_)
    · replace hf := hf.1 c2
      refine lv_iload_n hx hb dX11_idle_39 rfl (lv_at hl 1 rfl) ?_
      exact hQ _ _ _ _ _ _ hf hR dX11_idle_40
    · replace hf := hf.2 c2
      refine lv_aload_n hx hb dX11_idle_15 rfl (lv_at hl 0 rfl) ?_
      refine z_getR X hR (zlit hR zf_1) zs_1 (by decide) zfd_X11_71 rfl dX11_idle_16 ?_
      rw [zrf_pos hn10]
      refine z_getS X hR hn1.1 hn1.2 (by decide) zfd_X11_138 rfl (r := (gR w 1 9) + 3) (zst_0 hn1.2 3 rfl) dX11_idle_19 ?_
      refine lv_iload_n hx hb dX11_idle_22 rfl (lv_at hl 2 rfl) ?_
      obtain ⟨hb3, hf⟩ := hf
      refine z_iald X hR (zoff hR hn1.2 zo_0_3).1 (zoff hR hn1.2 zo_0_3).2.1 (zoff hR hn1.2 zo_0_3).2.2 hb3 dX11_idle_23 ?_
      refine lv_if_ne (tgt := 33) hx hb dX11_idle_24 (by decide) (fun c4 => ?_) (fun c4 => ?_)
      · replace hf := hf.1 c4
        refine lv_iinc (v := x2 + (1 : Int32)) (lv' := [(2, .int (x2 + (1 : Int32))), (0, .ref (ad 1)), (1, .int x1)]) hx hb dX11_idle_33 hl (k := 2) rfl rfl (by decide) rfl (fun ls hl => ?_)
        refine lv_goto (tgt := 4) hx hb dX11_idle_36 (by decide) ?_
        exact ih x1 (x2 + (1 : Int32)) w _ _ _ hf hR (lv_sub hl [1, 2, 0] rfl)
      · replace hf := hf.2 c4
        refine lv_iload_n hx hb dX11_idle_27 rfl (lv_at hl 1 rfl) ?_
        refine lv_iconst (v := (1 : Int32)) hx hb dX11_idle_28 (by decide) ?_
        refine lv_iload_n hx hb dX11_idle_29 rfl (lv_at hl 2 rfl) ?_
        refine lv_ishl hx hb dX11_idle_30 ?_
        refine lv_ior hx hb dX11_idle_31 ?_
        refine lv_topi (fun v5 hv5 => ?_)
        replace hf := hf v5 hv5
        refine lv_istore_n (lv' := [(1, .int v5), (0, .ref (ad 1)), (2, .int x2)]) hx hb dX11_idle_32 rfl hl (by decide) rfl (fun ls hl => ?_)
        refine lv_iinc (v := x2 + (1 : Int32)) (lv' := [(2, .int (x2 + (1 : Int32))), (1, .int v5), (0, .ref (ad 1))]) hx hb dX11_idle_33 hl (k := 2) rfl rfl (by decide) rfl (fun ls hl => ?_)
        refine lv_goto (tgt := 4) hx hb dX11_idle_36 (by decide) ?_
        exact ih v5 (x2 + (1 : Int32)) w _ _ _ hf hR (lv_sub hl [2, 1, 0] rfl)
def fX11_idle (w : zW) (k : Int32 → zW → Prop) : Prop :=
  ∃ n9, fX11_idle_L4 k n9 (0 : Int32) (0 : Int32) w
set_option maxHeartbeats 4000000 in
set_option maxRecDepth 100000 in
theorem mX11_idle {l : Launch} {D : va_G} {dA : Nat → ClassId} {ad : Nat → Nat} {al : Nat → Prop} {w : zW} {k : Int32 → zW → Prop}   (hf : fX11_idle w k) : zmetI l yX11_idle cX11_idle 3 (some .int) 0 [.ref (ad 1)] D dA true ad al w k := by
  refine zmetI_of (by decide) (Nat.le_of_ble_eq_true rfl) ?_
  intro p e R s m below meth c Q H ls args locs cells slots X hr hQ hR hl
  have hx := X.1
  have hb := X.2.1
  have hml := X.2.2.1
  have hown := X.2.2.2.1
  have hts := X.2.2.2.2.1
  unfold fX11_idle at hf
  have hl : lv_has ls 3 [(0, .ref (ad 1))] := hl
  refine lv_iconst (v := (0 : Int32)) hx hb dX11_idle_0 (by decide) ?_
  refine lv_istore_n (lv' := [(1, .int (0 : Int32)), (0, .ref (ad 1))]) hx hb dX11_idle_1 rfl hl (by decide) rfl (fun ls hl => ?_)
  refine lv_iconst (v := (0 : Int32)) hx hb dX11_idle_2 (by decide) ?_
  refine lv_istore_n (lv' := [(2, .int (0 : Int32)), (1, .int (0 : Int32)), (0, .ref (ad 1))]) hx hb dX11_idle_3 rfl hl (by decide) rfl (fun ls hl => ?_)
  obtain ⟨n9, hf⟩ := hf
  exact mX11_idle_L4 X hr hQ  n9 (0 : Int32) (0 : Int32) w _ _ _ hf hR (lv_sub hl [2, 1, 0] rfl)
/-! X11_drops -/
def fX11_drops (mc ms : Nat) (w : zW) (k : Int32 → zW → Prop) : Prop :=
  ∃ c1 s1, c1 ≤ mc ∧ s1 ≤ ms ∧ fX11_laidShelf c1 s1  w (fun w1 =>
  fX8_fewestMissed 9 w1 (fun r2 w2 =>
  k r2 w2))
set_option maxHeartbeats 4000000 in
set_option maxRecDepth 100000 in
theorem mX11_drops {l : Launch} {D : va_G} {dA : Nat → ClassId} {ad : Nat → Nat} {al : Nat → Prop} {w : zW} {mc ms : Nat} {k : Int32 → zW → Prop}  (hf : fX11_drops mc ms w k) : zmetAI l yX11_drops cX11_drops 1 (some .int) 4 mc ms [.ref (ad 1)] D dA true ad al w k := by
  refine zmetAI_of (by decide) (Nat.le_of_ble_eq_true rfl) ?_
  intro p e R s m below meth c Q H ls args locs cells slots X hr hQ hR hl
  have hx := X.1
  have hb := X.2.1
  have hml := X.2.2.1
  have hown := X.2.2.2.1
  have hts := X.2.2.2.2.1
  unfold fX11_drops at hf
  have hl : lv_has ls 1 [(0, .ref (ad 1))] := hl
  have hX : zExt ad al ad al := zExt.rf
  refine lv_aload_n hx hb dX11_drops_0 rfl (lv_at hl 0 rfl) ?_
  have hw1_1 : al 1 := (zlit hR zf_1)
  have hv1_1 : al 1 := (zlit hR zf_1)
  obtain ⟨c1, s1, hc1, hs1, hf⟩ := hf
  refine z_callAVR (fr1 := 3) (mc := c1) (ms := s1) (b := 1) (As := []) (rest := []) X (hr.call hc1 hs1 (by decide)) hR zy_X11_laidShelf zq_966 (zlit hR zf_1) (by rw [zs_1]; rfl) rfl (zlit hR zf_24) (mX11_laidShelf  hf) rfl hl (Nat.le_of_ble_eq_true rfl) dX11_drops_1 rfl (fun w1 H locs ad1 al1 hf hE1 hR => ?_)
  have hX := hX.tr hE1
  have hr := hr.after hc1 hs1
  rw [← (hE1 1 hw1_1).2] at hl
  refine lv_aload_n hx hb dX11_drops_4 rfl (lv_at hl 0 rfl) ?_
  refine z_getS X hR (zlit hR zf_1) zs_1 (by decide) zfd_X11_28 rfl (r := 9) (by decide +kernel) dX11_drops_5 ?_
  refine z_callVI (fr1 := 2) (b := 24) (As := [.ref (ad1 9)]) (rest := []) X (hr.none (by decide)) hR zy_X8_fewestMissed zq_1366 (zlit hR zf_24) (by rw [zs_24]; rfl) rfl (mX8_fewestMissed ⟨(zlit hR zf_9), zs_9⟩ hf) rfl hl (Nat.le_of_ble_eq_true rfl) dX11_drops_8 rfl (fun r2 w2 H locs hf hR => ?_)
  exact hQ _ _ _ _ _ _ _ _ _ _ hX (by have := hr.2.2.1; omega) (by have := hr.2.2.2; omega) hf hR dX11_drops_11
/-! X11_knownSlips -/
def fX11_knownSlips (mc ms : Nat) (w : zW) (k : zW → Prop) : Prop :=
  (((gI w 31 0) = 0 →
    k w) ∧
   (¬ (gI w 31 0) = 0 →
    ¬ gR w 1 9 = 0 ∧
    ∃ c3 s3, c3 ≤ mc ∧ s3 ≤ ms ∧ fX11_laidShelf c3 s3  w (fun w3 =>
    fX4_find (gR w 1 9) 9 w3 (fun w4 =>
    k w4))))
set_option maxHeartbeats 4000000 in
set_option maxRecDepth 100000 in
theorem mX11_knownSlips {l : Launch} {D : va_G} {dA : Nat → ClassId} {ad : Nat → Nat} {al : Nat → Prop} {w : zW} {mc ms : Nat} {k : zW → Prop}  (hf : fX11_knownSlips mc ms w k) : zmetAR l yX11_knownSlips cX11_knownSlips 1 (some (.object "ForeignKnit$Misprints")) 5 mc ms 31 [.ref (ad 1)] D dA true ad al w k := by
  refine zmetAR_of (by decide) (Nat.le_of_ble_eq_true rfl) (show zgh true w 31 from Or.inl zf_31) ?_
  intro p e R s m below meth c Q H ls args locs cells slots X hr hQ hR hl
  have hx := X.1
  have hb := X.2.1
  have hml := X.2.2.1
  have hown := X.2.2.2.1
  have hts := X.2.2.2.2.1
  unfold fX11_knownSlips at hf
  have hl : lv_has ls 1 [(0, .ref (ad 1))] := hl
  have hX : zExt ad al ad al := zExt.rf
  refine lv_aload_n hx hb dX11_knownSlips_0 rfl (lv_at hl 0 rfl) ?_
  refine z_getS X hR (zlit hR zf_1) zs_1 (by decide) zfd_X11_64 rfl (r := 31) (by decide +kernel) dX11_knownSlips_1 ?_
  refine z_getI X hR (zlit hR zf_31) zs_31 (by decide) zfd_X11_117 rfl dX11_knownSlips_4 ?_
  refine lv_if_eq (tgt := 29) hx hb dX11_knownSlips_7 (by decide) (fun c1 => ?_) (fun c1 => ?_)
  · replace hf := hf.1 c1
    refine lv_aload_n hx hb dX11_knownSlips_29 rfl (lv_at hl 0 rfl) ?_
    refine z_getS X hR (zlit hR zf_1) zs_1 (by decide) zfd_X11_64 rfl (r := 31) (by decide +kernel) dX11_knownSlips_30 ?_
    exact hQ _ _ _ _ _ _ _ _ _ hX (by have := hr.2.2.1; omega) (by have := hr.2.2.2; omega) hf hR dX11_knownSlips_33
  · replace hf := hf.2 c1
    refine lv_aload_n hx hb dX11_knownSlips_10 rfl (lv_at hl 0 rfl) ?_
    refine z_getS X hR (zlit hR zf_1) zs_1 (by decide) zfd_X11_64 rfl (r := 31) (by decide +kernel) dX11_knownSlips_11 ?_
    refine lv_aload_n hx hb dX11_knownSlips_14 rfl (lv_at hl 0 rfl) ?_
    refine z_getR X hR (zlit hR zf_1) zs_1 (by decide) zfd_X11_71 rfl dX11_knownSlips_15 ?_
    obtain ⟨hn20, hf⟩ := hf
    have hn2 : al (gR w 1 9) ∧ zsh (gR w 1 9) = 0 := zwt_of hR (zlit hR zf_1) zs_1 rfl hn20 (zdc_of zs_1 rfl)
    rw [zrf_pos hn20]
    refine lv_aload_n hx hb dX11_knownSlips_18 rfl (lv_at hl 0 rfl) ?_
    have hw3_1 : al 1 := (zlit hR zf_1)
    have hv3_1 : al 1 := (zlit hR zf_1)
    have hv3_2 : al (gR w 1 9) := hn2.1
    have hv3_3 : al 31 := (zlit hR zf_31)
    obtain ⟨c3, s3, hc3, hs3, hf⟩ := hf
    refine z_callAVR (fr1 := 3) (mc := c3) (ms := s3) (b := 1) (As := []) (rest := [.ref (ad (gR w 1 9)), .ref (ad 31)]) X (hr.call hc3 hs3 (by decide)) hR zy_X11_laidShelf zq_966 (zlit hR zf_1) (by rw [zs_1]; rfl) rfl (zlit hR zf_24) (mX11_laidShelf  hf) rfl hl (Nat.le_of_ble_eq_true rfl) dX11_knownSlips_19 rfl (fun w3 H locs ad3 al3 hf hE3 hR => ?_)
    have hX := hX.tr hE3
    have hr := hr.after hc3 hs3
    have hn2 := And.intro (hE3 _ hn2.1).1 hn2.2
    rw [← (hE3 1 hw3_1).2] at hl
    rw [← (hE3 (gR w 1 9) hv3_2).2]
    rw [← (hE3 31 hv3_3).2]
    refine lv_aload_n hx hb dX11_knownSlips_22 rfl (lv_at hl 0 rfl) ?_
    refine z_getS X hR (zlit hR zf_1) zs_1 (by decide) zfd_X11_28 rfl (r := 9) (by decide +kernel) dX11_knownSlips_23 ?_
    refine z_callVV (fr1 := 4) (b := 31) (As := [.ref (ad3 (gR w 1 9)), .ref (ad3 24), .ref (ad3 9)]) (rest := []) X (hr.none (by decide)) hR zy_X4_find zq_1389 (zlit hR zf_31) (by rw [zs_31]; rfl) rfl (mX4_find ⟨hn2.1, hn2.2⟩ ⟨(zlit hR zf_9), zs_9⟩ hf) rfl hl (Nat.le_of_ble_eq_true rfl) dX11_knownSlips_26 rfl (fun w4 H locs hf hR => ?_)
    refine lv_aload_n hx hb dX11_knownSlips_29 rfl (lv_at hl 0 rfl) ?_
    refine z_getS X hR (zlit hR zf_1) zs_1 (by decide) zfd_X11_64 rfl (r := 31) (by decide +kernel) dX11_knownSlips_30 ?_
    exact hQ _ _ _ _ _ _ _ _ _ hX (by have := hr.2.2.1; omega) (by have := hr.2.2.2; omega) hf hR dX11_knownSlips_33
/-! X11_misprints -/
def fX11_misprints (mc ms : Nat) (w : zW) (k : Int32 → zW → Prop) : Prop :=
  ∃ c1 s1, c1 ≤ mc ∧ s1 ≤ ms ∧ fX11_knownSlips c1 s1  w (fun w1 =>
  k (gI w1 31 1) w1)
set_option maxHeartbeats 4000000 in
set_option maxRecDepth 100000 in
theorem mX11_misprints {l : Launch} {D : va_G} {dA : Nat → ClassId} {ad : Nat → Nat} {al : Nat → Prop} {w : zW} {mc ms : Nat} {k : Int32 → zW → Prop}  (hf : fX11_misprints mc ms w k) : zmetAI l yX11_misprints cX11_misprints 1 (some .int) 6 mc ms [.ref (ad 1)] D dA true ad al w k := by
  refine zmetAI_of (by decide) (Nat.le_of_ble_eq_true rfl) ?_
  intro p e R s m below meth c Q H ls args locs cells slots X hr hQ hR hl
  have hx := X.1
  have hb := X.2.1
  have hml := X.2.2.1
  have hown := X.2.2.2.1
  have hts := X.2.2.2.2.1
  unfold fX11_misprints at hf
  have hl : lv_has ls 1 [(0, .ref (ad 1))] := hl
  have hX : zExt ad al ad al := zExt.rf
  refine lv_aload_n hx hb dX11_misprints_0 rfl (lv_at hl 0 rfl) ?_
  have hw1_1 : al 1 := (zlit hR zf_1)
  have hv1_1 : al 1 := (zlit hR zf_1)
  obtain ⟨c1, s1, hc1, hs1, hf⟩ := hf
  refine z_callAVR (fr1 := 5) (mc := c1) (ms := s1) (b := 1) (As := []) (rest := []) X (hr.call hc1 hs1 (by decide)) hR zy_X11_knownSlips zq_1385 (zlit hR zf_1) (by rw [zs_1]; rfl) rfl (zlit hR zf_31) (mX11_knownSlips  hf) rfl hl (Nat.le_of_ble_eq_true rfl) dX11_misprints_1 rfl (fun w1 H locs ad1 al1 hf hE1 hR => ?_)
  have hX := hX.tr hE1
  have hr := hr.after hc1 hs1
  rw [← (hE1 1 hw1_1).2] at hl
  refine z_getI X hR (zlit hR zf_31) zs_31 (by decide) zfd_X11_271 rfl dX11_misprints_4 ?_
  exact hQ _ _ _ _ _ _ _ _ _ _ hX (by have := hr.2.2.1; omega) (by have := hr.2.2.2; omega) hf hR dX11_misprints_7
/-! X11_misprint -/
def fX11_misprint (mc ms : Nat) (x1 : Int32) (w : zW) (k : Int32 → zW → Prop) : Prop :=
  ∃ c1 s1, c1 ≤ mc ∧ s1 ≤ ms ∧ fX11_knownSlips c1 s1  w (fun w1 =>
  ∀ sv2 : Int32, sv2 = x1 →
  ((sv2 = (0 : Int32) →
    k (gI w1 31 2) w1) ∧
  (¬ sv2 = (0 : Int32) →
  ((sv2 = (1 : Int32) →
    k (gI w1 31 3) w1) ∧
  (¬ sv2 = (1 : Int32) →
  ((sv2 = (2 : Int32) →
    k (gI w1 31 4) w1) ∧
  (¬ sv2 = (2 : Int32) →
  
  k (-1 : Int32) w1)))))))
set_option maxHeartbeats 4000000 in
set_option maxRecDepth 100000 in
theorem mX11_misprint {l : Launch} {D : va_G} {dA : Nat → ClassId} {ad : Nat → Nat} {al : Nat → Prop} {w : zW} {mc ms : Nat} {k : Int32 → zW → Prop} {x1 : Int32}  (hf : fX11_misprint mc ms x1 w k) : zmetAI l yX11_misprint cX11_misprint 3 (some .int) 6 mc ms [.ref (ad 1), .int x1] D dA true ad al w k := by
  refine zmetAI_of (by decide) (Nat.le_of_ble_eq_true rfl) ?_
  intro p e R s m below meth c Q H ls args locs cells slots X hr hQ hR hl
  have hx := X.1
  have hb := X.2.1
  have hml := X.2.2.1
  have hown := X.2.2.2.1
  have hts := X.2.2.2.2.1
  unfold fX11_misprint at hf
  have hl : lv_has ls 3 [(0, .ref (ad 1)), (1, .int x1)] := hl
  have hX : zExt ad al ad al := zExt.rf
  refine lv_aload_n hx hb dX11_misprint_0 rfl (lv_at hl 0 rfl) ?_
  have hw1_1 : al 1 := (zlit hR zf_1)
  have hv1_1 : al 1 := (zlit hR zf_1)
  obtain ⟨c1, s1, hc1, hs1, hf⟩ := hf
  refine z_callAVR (fr1 := 5) (mc := c1) (ms := s1) (b := 1) (As := []) (rest := []) X (hr.call hc1 hs1 (by decide)) hR zy_X11_knownSlips zq_1385 (zlit hR zf_1) (by rw [zs_1]; rfl) rfl (zlit hR zf_31) (mX11_knownSlips  hf) rfl hl (Nat.le_of_ble_eq_true rfl) dX11_misprint_1 rfl (fun w1 H locs ad1 al1 hf hE1 hR => ?_)
  have hX := hX.tr hE1
  have hr := hr.after hc1 hs1
  rw [← (hE1 1 hw1_1).2] at hl
  refine lv_astore_n (lv' := [(2, .ref (ad1 31)), (0, .ref (ad1 1)), (1, .int x1)]) hx hb dX11_misprint_4 rfl hl (by decide) rfl (fun ls hl => ?_)
  refine lv_iload_n hx hb dX11_misprint_5 rfl (lv_at hl 2 rfl) ?_
  refine lv_topi (fun sv2 hsv2 => ?_)
  replace hf := hf sv2 hsv2
  by_cases c3 : sv2 = (0 : Int32)
  · replace hf := hf.1 c3
    refine lv_tableIn (off := 26) (tgt := 32) hx hb dX11_misprint_6 (by rw [c3]; decide) (by rw [c3]; decide) (by rw [c3]; decide) (by decide) ?_
    refine lv_aload_n hx hb dX11_misprint_32 rfl (lv_at hl 0 rfl) ?_
    refine z_getI X hR (zlit hR zf_31) zs_31 (by decide) zfd_X11_274 rfl dX11_misprint_33 ?_
    exact hQ _ _ _ _ _ _ _ _ _ _ hX (by have := hr.2.2.1; omega) (by have := hr.2.2.2; omega) hf hR dX11_misprint_36
  replace hf := hf.2 c3
  by_cases c4 : sv2 = (1 : Int32)
  · replace hf := hf.1 c4
    refine lv_tableIn (off := 31) (tgt := 37) hx hb dX11_misprint_6 (by rw [c4]; decide) (by rw [c4]; decide) (by rw [c4]; decide) (by decide) ?_
    refine lv_aload_n hx hb dX11_misprint_37 rfl (lv_at hl 0 rfl) ?_
    refine z_getI X hR (zlit hR zf_31) zs_31 (by decide) zfd_X11_277 rfl dX11_misprint_38 ?_
    exact hQ _ _ _ _ _ _ _ _ _ _ hX (by have := hr.2.2.1; omega) (by have := hr.2.2.2; omega) hf hR dX11_misprint_41
  replace hf := hf.2 c4
  by_cases c5 : sv2 = (2 : Int32)
  · replace hf := hf.1 c5
    refine lv_tableIn (off := 36) (tgt := 42) hx hb dX11_misprint_6 (by rw [c5]; decide) (by rw [c5]; decide) (by rw [c5]; decide) (by decide) ?_
    refine lv_aload_n hx hb dX11_misprint_42 rfl (lv_at hl 0 rfl) ?_
    refine z_getI X hR (zlit hR zf_31) zs_31 (by decide) zfd_X11_280 rfl dX11_misprint_43 ?_
    exact hQ _ _ _ _ _ _ _ _ _ _ hX (by have := hr.2.2.1; omega) (by have := hr.2.2.2; omega) hf hR dX11_misprint_46
  replace hf := hf.2 c5
  have ho6 : sv2.toInt < 0 ∨ 2 < sv2.toInt := by
    have := z_i32ne (k := (0 : Int32)) c3
    have := z_i32ne (k := (1 : Int32)) c4
    have := z_i32ne (k := (2 : Int32)) c5
    simp only [show ((0 : Int32)).toInt = 0 from by decide, show ((1 : Int32)).toInt = 1 from by decide, show ((2 : Int32)).toInt = 2 from by decide] at *
    omega
  refine lv_tableOut (tgt := 47) hx hb dX11_misprint_6 ho6 (by decide) ?_
  refine lv_iconst (v := (-1 : Int32)) hx hb dX11_misprint_47 (by decide) ?_
  exact hQ _ _ _ _ _ _ _ _ _ _ hX (by have := hr.2.2.1; omega) (by have := hr.2.2.2; omega) hf hR dX11_misprint_48
/-! X11_turned -/
def fX11_turned (x1 : Int32) (w : zW) (k : Int32 → zW → Prop) : Prop :=
  fX11_isRow x1 w (fun r1 w1 =>
  ((r1 = 0 →
    k (0 : Int32) w1) ∧
   (¬ r1 = 0 →
    ¬ gR w1 1 9 = 0 ∧
    fX0_sameTurned (gR w1 1 9) x1 w1 (fun r4 w4 =>
    ∀ v5 : Int32, v5 = (if r4 = 0 then (0 : Int32) else (1 : Int32)) →
    zb01 v5 ∧ k v5 w4))))
set_option maxHeartbeats 4000000 in
set_option maxRecDepth 100000 in
theorem mX11_turned {l : Launch} {D : va_G} {dA : Nat → ClassId} {ad : Nat → Nat} {al : Nat → Prop} {w : zW} {k : Int32 → zW → Prop} {x1 : Int32}   (hf : fX11_turned x1 w k) : zmetI l yX11_turned cX11_turned 2 (some .boolean) 2 [.ref (ad 1), .int x1] D dA true ad al w k := by
  refine zmetZ_of (by decide) (Nat.le_of_ble_eq_true rfl) ?_
  intro p e R s m below meth c Q H ls args locs cells slots X hr hQ hR hl
  have hx := X.1
  have hb := X.2.1
  have hml := X.2.2.1
  have hown := X.2.2.2.1
  have hts := X.2.2.2.2.1
  unfold fX11_turned at hf
  have hl : lv_has ls 2 [(0, .ref (ad 1)), (1, .int x1)] := hl
  refine lv_aload_n hx hb dX11_turned_0 rfl (lv_at hl 0 rfl) ?_
  refine lv_iload_n hx hb dX11_turned_1 rfl (lv_at hl 1 rfl) ?_
  refine z_callVI (fr1 := 0) (b := 1) (As := [.int x1]) (rest := []) X (hr.le (by decide)) hR zy_X11_isRow zq_781 (zlit hR zf_1) (by rw [zs_1]; rfl) rfl (mX11_isRow  hf) rfl hl (Nat.le_of_ble_eq_true rfl) dX11_turned_2 rfl (fun r1 w1 H locs hf hR => ?_)
  refine lv_if_eq (tgt := 23) hx hb dX11_turned_5 (by decide) (fun c2 => ?_) (fun c2 => ?_)
  · replace hf := hf.1 c2
    refine lv_iconst (v := (0 : Int32)) hx hb dX11_turned_23 (by decide) ?_
    exact hQ _ _ _ _ _ _ zb01_0 hf hR dX11_turned_24
  · replace hf := hf.2 c2
    refine lv_aload_n hx hb dX11_turned_8 rfl (lv_at hl 0 rfl) ?_
    refine z_getR X hR (zlit hR zf_1) zs_1 (by decide) zfd_X11_71 rfl dX11_turned_9 ?_
    obtain ⟨hn30, hf⟩ := hf
    have hn3 : al (gR w1 1 9) ∧ zsh (gR w1 1 9) = 0 := zwt_of hR (zlit hR zf_1) zs_1 rfl hn30 (zdc_of zs_1 rfl)
    rw [zrf_pos hn30]
    refine lv_iload_n hx hb dX11_turned_12 rfl (lv_at hl 1 rfl) ?_
    refine z_callVI (fr1 := 1) (b := (gR w1 1 9)) (As := [.int x1]) (rest := []) X (hr.le (by decide)) hR zy_X0_sameTurned zq_1467 hn3.1 (by rw [hn3.2]; rfl) rfl (mX0_sameTurned ⟨hn3.1, hn3.2⟩ hf) rfl hl (Nat.le_of_ble_eq_true rfl) dX11_turned_13 rfl (fun r4 w4 H locs hf hR => ?_)
    have kJ5 : ∀ v5 : Int32, v5 = (if r4 = 0 then (0 : Int32) else (1 : Int32)) → W p l e R s m args below meth c H locs cells slots Q (F0 m 24 ls (.int v5 :: [])) := by
      intro v5 hv5
      replace hf := hf v5 hv5
      obtain ⟨h01, hf⟩ := hf
      exact hQ _ _ _ _ _ _ h01 hf hR dX11_turned_24
    refine lv_if_eq (tgt := 23) hx hb dX11_turned_16 (by decide) (fun c5 => ?_) (fun c5 => ?_)
    · refine lv_iconst (v := (0 : Int32)) hx hb dX11_turned_23 (by decide) ?_
      exact kJ5 _ (if_pos c5).symm
    · refine lv_iconst (v := (1 : Int32)) hx hb dX11_turned_19 (by decide) ?_
      refine lv_goto (tgt := 24) hx hb dX11_turned_20 (by decide) ?_
      exact kJ5 _ (if_neg c5).symm
/-! X11_alike -/
def fX11_alike (x1 : Int32) (x2 : Int32) (w : zW) (k : Int32 → zW → Prop) : Prop :=
  fX11_isRow x1 w (fun r1 w1 =>
  ((r1 = 0 →
    k (0 : Int32) w1) ∧
   (¬ r1 = 0 →
    fX11_isRow x2 w1 (fun r3 w3 =>
    ((r3 = 0 →
      k (0 : Int32) w3) ∧
     (¬ r3 = 0 →
      ((x1 = x2 →
        k (0 : Int32) w3) ∧
       (¬ x1 = x2 →
        ¬ gR w3 1 9 = 0 ∧
        fX0_sameShape (gR w3 1 9) x1 x2 w3 (fun r7 w7 =>
        ∀ v8 : Int32, v8 = (if r7 = 0 then (0 : Int32) else (1 : Int32)) →
        zb01 v8 ∧ k v8 w7)))))))))
set_option maxHeartbeats 4000000 in
set_option maxRecDepth 100000 in
theorem mX11_alike {l : Launch} {D : va_G} {dA : Nat → ClassId} {ad : Nat → Nat} {al : Nat → Prop} {w : zW} {k : Int32 → zW → Prop} {x1 : Int32} {x2 : Int32}   (hf : fX11_alike x1 x2 w k) : zmetI l yX11_alike cX11_alike 3 (some .boolean) 2 [.ref (ad 1), .int x1, .int x2] D dA true ad al w k := by
  refine zmetZ_of (by decide) (Nat.le_of_ble_eq_true rfl) ?_
  intro p e R s m below meth c Q H ls args locs cells slots X hr hQ hR hl
  have hx := X.1
  have hb := X.2.1
  have hml := X.2.2.1
  have hown := X.2.2.2.1
  have hts := X.2.2.2.2.1
  unfold fX11_alike at hf
  have hl : lv_has ls 3 [(0, .ref (ad 1)), (1, .int x1), (2, .int x2)] := hl
  refine lv_aload_n hx hb dX11_alike_0 rfl (lv_at hl 0 rfl) ?_
  refine lv_iload_n hx hb dX11_alike_1 rfl (lv_at hl 1 rfl) ?_
  refine z_callVI (fr1 := 0) (b := 1) (As := [.int x1]) (rest := []) X (hr.le (by decide)) hR zy_X11_isRow zq_781 (zlit hR zf_1) (by rw [zs_1]; rfl) rfl (mX11_isRow  hf) rfl hl (Nat.le_of_ble_eq_true rfl) dX11_alike_2 rfl (fun r1 w1 H locs hf hR => ?_)
  refine lv_if_eq (tgt := 37) hx hb dX11_alike_5 (by decide) (fun c2 => ?_) (fun c2 => ?_)
  · replace hf := hf.1 c2
    refine lv_iconst (v := (0 : Int32)) hx hb dX11_alike_37 (by decide) ?_
    exact hQ _ _ _ _ _ _ zb01_0 hf hR dX11_alike_38
  · replace hf := hf.2 c2
    refine lv_aload_n hx hb dX11_alike_8 rfl (lv_at hl 0 rfl) ?_
    refine lv_iload_n hx hb dX11_alike_9 rfl (lv_at hl 2 rfl) ?_
    refine z_callVI (fr1 := 0) (b := 1) (As := [.int x2]) (rest := []) X (hr.le (by decide)) hR zy_X11_isRow zq_781 (zlit hR zf_1) (by rw [zs_1]; rfl) rfl (mX11_isRow  hf) rfl hl (Nat.le_of_ble_eq_true rfl) dX11_alike_10 rfl (fun r3 w3 H locs hf hR => ?_)
    refine lv_if_eq (tgt := 37) hx hb dX11_alike_13 (by decide) (fun c4 => ?_) (fun c4 => ?_)
    · replace hf := hf.1 c4
      refine lv_iconst (v := (0 : Int32)) hx hb dX11_alike_37 (by decide) ?_
      exact hQ _ _ _ _ _ _ zb01_0 hf hR dX11_alike_38
    · replace hf := hf.2 c4
      refine lv_iload_n hx hb dX11_alike_16 rfl (lv_at hl 1 rfl) ?_
      refine lv_iload_n hx hb dX11_alike_17 rfl (lv_at hl 2 rfl) ?_
      refine lv_icmp_eq (tgt := 37) hx hb dX11_alike_18 (by decide) (fun c5 => ?_) (fun c5 => ?_)
      · replace hf := hf.1 c5
        refine lv_iconst (v := (0 : Int32)) hx hb dX11_alike_37 (by decide) ?_
        exact hQ _ _ _ _ _ _ zb01_0 hf hR dX11_alike_38
      · replace hf := hf.2 c5
        refine lv_aload_n hx hb dX11_alike_21 rfl (lv_at hl 0 rfl) ?_
        refine z_getR X hR (zlit hR zf_1) zs_1 (by decide) zfd_X11_71 rfl dX11_alike_22 ?_
        obtain ⟨hn60, hf⟩ := hf
        have hn6 : al (gR w3 1 9) ∧ zsh (gR w3 1 9) = 0 := zwt_of hR (zlit hR zf_1) zs_1 rfl hn60 (zdc_of zs_1 rfl)
        rw [zrf_pos hn60]
        refine lv_iload_n hx hb dX11_alike_25 rfl (lv_at hl 1 rfl) ?_
        refine lv_iload_n hx hb dX11_alike_26 rfl (lv_at hl 2 rfl) ?_
        refine z_callVI (fr1 := 1) (b := (gR w3 1 9)) (As := [.int x1, .int x2]) (rest := []) X (hr.le (by decide)) hR zy_X0_sameShape zq_1479 hn6.1 (by rw [hn6.2]; rfl) rfl (mX0_sameShape ⟨hn6.1, hn6.2⟩ hf) rfl hl (Nat.le_of_ble_eq_true rfl) dX11_alike_27 rfl (fun r7 w7 H locs hf hR => ?_)
        have kJ8 : ∀ v8 : Int32, v8 = (if r7 = 0 then (0 : Int32) else (1 : Int32)) → W p l e R s m args below meth c H locs cells slots Q (F0 m 38 ls (.int v8 :: [])) := by
          intro v8 hv8
          replace hf := hf v8 hv8
          obtain ⟨h01, hf⟩ := hf
          exact hQ _ _ _ _ _ _ h01 hf hR dX11_alike_38
        refine lv_if_eq (tgt := 37) hx hb dX11_alike_30 (by decide) (fun c8 => ?_) (fun c8 => ?_)
        · refine lv_iconst (v := (0 : Int32)) hx hb dX11_alike_37 (by decide) ?_
          exact kJ8 _ (if_pos c8).symm
        · refine lv_iconst (v := (1 : Int32)) hx hb dX11_alike_33 (by decide) ?_
          refine lv_goto (tgt := 38) hx hb dX11_alike_34 (by decide) ?_
          exact kJ8 _ (if_neg c8).symm
/-! X11_spare -/
def fX11_spare (mc ms : Nat) (w : zW) (k : Int32 → zW → Prop) : Prop :=
  ∃ c1 s1, c1 ≤ mc ∧ s1 ≤ ms ∧ fX11_laidShelf c1 s1  w (fun w1 =>
  fX8_neededCounts 9 w1 (fun r2 w2 =>
  fX3_countBits 9 w2 (fun r3 w3 =>
  fJ6_bitCount_0f7a4 (r3 &&& (r2 ^^^ (-1 : Int32))) w3 (fun r4 w4 =>
  k r4 w4))))
set_option maxHeartbeats 4000000 in
set_option maxRecDepth 100000 in
theorem mX11_spare {l : Launch} {D : va_G} {dA : Nat → ClassId} {ad : Nat → Nat} {al : Nat → Prop} {w : zW} {mc ms : Nat} {k : Int32 → zW → Prop}  (hf : fX11_spare mc ms w k) : zmetAI l yX11_spare cX11_spare 2 (some .int) 4 mc ms [.ref (ad 1)] D dA true ad al w k := by
  refine zmetAI_of (by decide) (Nat.le_of_ble_eq_true rfl) ?_
  intro p e R s m below meth c Q H ls args locs cells slots X hr hQ hR hl
  have hx := X.1
  have hb := X.2.1
  have hml := X.2.2.1
  have hown := X.2.2.2.1
  have hts := X.2.2.2.2.1
  unfold fX11_spare at hf
  have hl : lv_has ls 2 [(0, .ref (ad 1))] := hl
  have hX : zExt ad al ad al := zExt.rf
  refine lv_aload_n hx hb dX11_spare_0 rfl (lv_at hl 0 rfl) ?_
  have hw1_1 : al 1 := (zlit hR zf_1)
  have hv1_1 : al 1 := (zlit hR zf_1)
  obtain ⟨c1, s1, hc1, hs1, hf⟩ := hf
  refine z_callAVR (fr1 := 3) (mc := c1) (ms := s1) (b := 1) (As := []) (rest := []) X (hr.call hc1 hs1 (by decide)) hR zy_X11_laidShelf zq_966 (zlit hR zf_1) (by rw [zs_1]; rfl) rfl (zlit hR zf_24) (mX11_laidShelf  hf) rfl hl (Nat.le_of_ble_eq_true rfl) dX11_spare_1 rfl (fun w1 H locs ad1 al1 hf hE1 hR => ?_)
  have hX := hX.tr hE1
  have hr := hr.after hc1 hs1
  rw [← (hE1 1 hw1_1).2] at hl
  refine lv_aload_n hx hb dX11_spare_4 rfl (lv_at hl 0 rfl) ?_
  refine z_getS X hR (zlit hR zf_1) zs_1 (by decide) zfd_X11_28 rfl (r := 9) (by decide +kernel) dX11_spare_5 ?_
  refine z_callVI (fr1 := 2) (b := 24) (As := [.ref (ad1 9)]) (rest := []) X (hr.none (by decide)) hR zy_X8_neededCounts zq_1491 (zlit hR zf_24) (by rw [zs_24]; rfl) rfl (mX8_neededCounts ⟨(zlit hR zf_9), zs_9⟩ hf) rfl hl (Nat.le_of_ble_eq_true rfl) dX11_spare_8 rfl (fun r2 w2 H locs hf hR => ?_)
  refine lv_istore_n (lv' := [(1, .int r2), (0, .ref (ad1 1))]) hx hb dX11_spare_11 rfl hl (by decide) rfl (fun ls hl => ?_)
  refine lv_aload_n hx hb dX11_spare_12 rfl (lv_at hl 1 rfl) ?_
  refine z_getS X hR (zlit hR zf_1) zs_1 (by decide) zfd_X11_28 rfl (r := 9) (by decide +kernel) dX11_spare_13 ?_
  refine z_callVI (fr1 := 1) (b := 9) (As := []) (rest := []) X (hr.none (by decide)) hR zy_X3_countBits zq_1495 (zlit hR zf_9) (by rw [zs_9]; rfl) rfl (mX3_countBits ⟨(zlit hR zf_9), zs_9⟩ hf) rfl hl (Nat.le_of_ble_eq_true rfl) dX11_spare_16 rfl (fun r3 w3 H locs hf hR => ?_)
  refine lv_iload_n hx hb dX11_spare_19 rfl (lv_at hl 0 rfl) ?_
  refine lv_iconst (v := (-1 : Int32)) hx hb dX11_spare_20 (by decide) ?_
  refine lv_ixor hx hb dX11_spare_21 ?_
  refine lv_iand hx hb dX11_spare_22 ?_
  refine z_callSI (fr1 := 0) (As := [.int (r3 &&& (r2 ^^^ (-1 : Int32)))]) (rest := []) X (hr.none (by decide)) hR zy_J6_bitCount_0f7a4 zq_1499 (mJ6_bitCount_0f7a4  hf) rfl hl (Nat.le_of_ble_eq_true rfl) dX11_spare_23 rfl (fun r4 w4 H locs hf hR => ?_)
  exact hQ _ _ _ _ _ _ _ _ _ _ hX (by have := hr.2.2.1; omega) (by have := hr.2.2.2; omega) hf hR dX11_spare_26
/-! X11_strict -/
def fX11_strict (mc ms : Nat) (x1 : Int32) (w : zW) (k : Int32 → zW → Prop) : Prop :=
  fX11_isRow x1 w (fun r1 w1 =>
  ((r1 = 0 →
    k (-1 : Int32) w1) ∧
   (¬ r1 = 0 →
    ∃ c3 s3, c3 ≤ mc ∧ s3 ≤ ms ∧ fX11_laidShelf c3 s3  w1 (fun w3 =>
    fX8_heldBackBy 9 x1 w3 (fun r4 w4 =>
    k r4 w4)))))
set_option maxHeartbeats 4000000 in
set_option maxRecDepth 100000 in
theorem mX11_strict {l : Launch} {D : va_G} {dA : Nat → ClassId} {ad : Nat → Nat} {al : Nat → Prop} {w : zW} {mc ms : Nat} {k : Int32 → zW → Prop} {x1 : Int32}  (hf : fX11_strict mc ms x1 w k) : zmetAI l yX11_strict cX11_strict 2 (some .int) 4 mc ms [.ref (ad 1), .int x1] D dA true ad al w k := by
  refine zmetAI_of (by decide) (Nat.le_of_ble_eq_true rfl) ?_
  intro p e R s m below meth c Q H ls args locs cells slots X hr hQ hR hl
  have hx := X.1
  have hb := X.2.1
  have hml := X.2.2.1
  have hown := X.2.2.2.1
  have hts := X.2.2.2.2.1
  unfold fX11_strict at hf
  have hl : lv_has ls 2 [(0, .ref (ad 1)), (1, .int x1)] := hl
  have hX : zExt ad al ad al := zExt.rf
  refine lv_aload_n hx hb dX11_strict_0 rfl (lv_at hl 0 rfl) ?_
  refine lv_iload_n hx hb dX11_strict_1 rfl (lv_at hl 1 rfl) ?_
  refine z_callVI (fr1 := 0) (b := 1) (As := [.int x1]) (rest := []) X (hr.none (by decide)) hR zy_X11_isRow zq_781 (zlit hR zf_1) (by rw [zs_1]; rfl) rfl (mX11_isRow  hf) rfl hl (Nat.le_of_ble_eq_true rfl) dX11_strict_2 rfl (fun r1 w1 H locs hf hR => ?_)
  refine lv_if_eq (tgt := 23) hx hb dX11_strict_5 (by decide) (fun c2 => ?_) (fun c2 => ?_)
  · replace hf := hf.1 c2
    refine lv_iconst (v := (-1 : Int32)) hx hb dX11_strict_23 (by decide) ?_
    exact hQ _ _ _ _ _ _ _ _ _ _ hX (by have := hr.2.2.1; omega) (by have := hr.2.2.2; omega) hf hR dX11_strict_24
  · replace hf := hf.2 c2
    refine lv_aload_n hx hb dX11_strict_8 rfl (lv_at hl 0 rfl) ?_
    have hw3_1 : al 1 := (zlit hR zf_1)
    have hv3_1 : al 1 := (zlit hR zf_1)
    obtain ⟨c3, s3, hc3, hs3, hf⟩ := hf
    refine z_callAVR (fr1 := 3) (mc := c3) (ms := s3) (b := 1) (As := []) (rest := []) X (hr.call hc3 hs3 (by decide)) hR zy_X11_laidShelf zq_966 (zlit hR zf_1) (by rw [zs_1]; rfl) rfl (zlit hR zf_24) (mX11_laidShelf  hf) rfl hl (Nat.le_of_ble_eq_true rfl) dX11_strict_9 rfl (fun w3 H locs ad3 al3 hf hE3 hR => ?_)
    have hX := hX.tr hE3
    have hr := hr.after hc3 hs3
    rw [← (hE3 1 hw3_1).2] at hl
    refine lv_iload_n hx hb dX11_strict_12 rfl (lv_at hl 1 rfl) ?_
    refine lv_aload_n hx hb dX11_strict_13 rfl (lv_at hl 0 rfl) ?_
    refine z_getS X hR (zlit hR zf_1) zs_1 (by decide) zfd_X11_28 rfl (r := 9) (by decide +kernel) dX11_strict_14 ?_
    refine z_callVI (fr1 := 3) (b := 24) (As := [.int x1, .ref (ad3 9)]) (rest := []) X (hr.none (by decide)) hR zy_X8_heldBackBy zq_1508 (zlit hR zf_24) (by rw [zs_24]; rfl) rfl (mX8_heldBackBy ⟨(zlit hR zf_9), zs_9⟩ hf) rfl hl (Nat.le_of_ble_eq_true rfl) dX11_strict_17 rfl (fun r4 w4 H locs hf hR => ?_)
    refine lv_goto (tgt := 24) hx hb dX11_strict_20 (by decide) ?_
    exact hQ _ _ _ _ _ _ _ _ _ _ hX (by have := hr.2.2.1; omega) (by have := hr.2.2.2; omega) hf hR dX11_strict_24
/-! X11_chance -/
def fX11_chance (mc ms : Nat) (x1 : Int32) (x2 : Int32) (w : zW) (k : Int32 → zW → Prop) : Prop :=
  ∃ c1 s1, c1 ≤ mc ∧ s1 ≤ ms ∧ fX11_readyShelf c1 s1  w (fun w1 =>
  ∀ v2 : Int32, v2 = gI w1 24 3 →
  fX11_isRow x1 w1 (fun r3 w3 =>
  ((r3 = 0 →
    k (-1 : Int32) w3) ∧
   (¬ r3 = 0 →
    fX11_isCount x2 w3 (fun r5 w5 =>
    ((r5 = 0 →
      k (-1 : Int32) w5) ∧
     (¬ r5 = 0 →
      ((0 < v2 →
        ∃ c8 s8, c8 ≤ mc - c1 ∧ s8 ≤ ms - s1 ∧ fX11_talliedRow c8 s8 x1 w5 (fun w8 =>
        fX9_from x2 w8 (fun r9 w9 =>
        ∀ v10 : Int64, v10 = r9.toInt64 →
        ¬ v2.toInt64 = 0 ∧
        k (((v10 * (1000000 : Int64)) / v2.toInt64).toInt32) w9))) ∧
       (¬ 0 < v2 →
        k (-1 : Int32) w5)))))))))
set_option maxHeartbeats 4000000 in
set_option maxRecDepth 100000 in
theorem mX11_chance {l : Launch} {D : va_G} {dA : Nat → ClassId} {ad : Nat → Nat} {al : Nat → Prop} {w : zW} {mc ms : Nat} {k : Int32 → zW → Prop} {x1 : Int32} {x2 : Int32}  (hf : fX11_chance mc ms x1 x2 w k) : zmetAI l yX11_chance cX11_chance 6 (some .int) 6 mc ms [.ref (ad 1), .int x1, .int x2] D dA true ad al w k := by
  refine zmetAI_of (by decide) (Nat.le_of_ble_eq_true rfl) ?_
  intro p e R s m below meth c Q H ls args locs cells slots X hr hQ hR hl
  have hx := X.1
  have hb := X.2.1
  have hml := X.2.2.1
  have hown := X.2.2.2.1
  have hts := X.2.2.2.2.1
  unfold fX11_chance at hf
  have hl : lv_has ls 6 [(0, .ref (ad 1)), (1, .int x1), (2, .int x2)] := hl
  have hX : zExt ad al ad al := zExt.rf
  refine lv_aload_n hx hb dX11_chance_0 rfl (lv_at hl 0 rfl) ?_
  have hw1_1 : al 1 := (zlit hR zf_1)
  have hv1_1 : al 1 := (zlit hR zf_1)
  obtain ⟨c1, s1, hc1, hs1, hf⟩ := hf
  refine z_callAVR (fr1 := 4) (mc := c1) (ms := s1) (b := 1) (As := []) (rest := []) X (hr.call hc1 hs1 (by decide)) hR zy_X11_readyShelf zq_1105 (zlit hR zf_1) (by rw [zs_1]; rfl) rfl (zlit hR zf_24) (mX11_readyShelf  hf) rfl hl (Nat.le_of_ble_eq_true rfl) dX11_chance_1 rfl (fun w1 H locs ad1 al1 hf hE1 hR => ?_)
  have hX := hX.tr hE1
  have hr := hr.after hc1 hs1
  rw [← (hE1 1 hw1_1).2] at hl
  refine z_getI X hR (zlit hR zf_24) zs_24 (by decide) zfd_X11_201 rfl dX11_chance_4 ?_
  refine lv_topi (fun v2 hv2 => ?_)
  replace hf := hf v2 hv2
  refine lv_istore_n (lv' := [(3, .int v2), (0, .ref (ad1 1)), (1, .int x1), (2, .int x2)]) hx hb dX11_chance_7 rfl hl (by decide) rfl (fun ls hl => ?_)
  refine lv_aload_n hx hb dX11_chance_8 rfl (lv_at hl 1 rfl) ?_
  refine lv_iload_n hx hb dX11_chance_9 rfl (lv_at hl 2 rfl) ?_
  refine z_callVI (fr1 := 0) (b := 1) (As := [.int x1]) (rest := []) X (hr.none (by decide)) hR zy_X11_isRow zq_781 (zlit hR zf_1) (by rw [zs_1]; rfl) rfl (mX11_isRow  hf) rfl hl (Nat.le_of_ble_eq_true rfl) dX11_chance_10 rfl (fun r3 w3 H locs hf hR => ?_)
  refine lv_if_eq (tgt := 27) hx hb dX11_chance_13 (by decide) (fun c4 => ?_) (fun c4 => ?_)
  · replace hf := hf.1 c4
    refine lv_iconst (v := (-1 : Int32)) hx hb dX11_chance_27 (by decide) ?_
    exact hQ _ _ _ _ _ _ _ _ _ _ hX (by have := hr.2.2.1; omega) (by have := hr.2.2.2; omega) hf hR dX11_chance_28
  · replace hf := hf.2 c4
    refine lv_iload_n hx hb dX11_chance_16 rfl (lv_at hl 3 rfl) ?_
    refine z_callSI (fr1 := 0) (As := [.int x2]) (rest := []) X (hr.none (by decide)) hR zy_X11_isCount zq_930 (mX11_isCount  hf) rfl hl (Nat.le_of_ble_eq_true rfl) dX11_chance_17 rfl (fun r5 w5 H locs hf hR => ?_)
    refine lv_if_eq (tgt := 27) hx hb dX11_chance_20 (by decide) (fun c6 => ?_) (fun c6 => ?_)
    · replace hf := hf.1 c6
      refine lv_iconst (v := (-1 : Int32)) hx hb dX11_chance_27 (by decide) ?_
      exact hQ _ _ _ _ _ _ _ _ _ _ hX (by have := hr.2.2.1; omega) (by have := hr.2.2.2; omega) hf hR dX11_chance_28
    · replace hf := hf.2 c6
      refine lv_iload_n hx hb dX11_chance_23 rfl (lv_at hl 0 rfl) ?_
      refine lv_if_gt (tgt := 29) hx hb dX11_chance_24 (by decide) (fun c7 => ?_) (fun c7 => ?_)
      · replace hf := hf.1 c7
        refine lv_aload_n hx hb dX11_chance_29 rfl (lv_at hl 1 rfl) ?_
        refine lv_iload_n hx hb dX11_chance_30 rfl (lv_at hl 2 rfl) ?_
        have hw8_1 : al1 1 := (zlit hR zf_1)
        have hv8_1 : al1 1 := (zlit hR zf_1)
        obtain ⟨c8, s8, hc8, hs8, hf⟩ := hf
        refine z_callAVR (fr1 := 5) (mc := c8) (ms := s8) (b := 1) (As := [.int x1]) (rest := []) X (hr.call hc8 hs8 (by decide)) hR zy_X11_talliedRow zq_1206 (zlit hR zf_1) (by rw [zs_1]; rfl) rfl (zlit hR zf_29) (mX11_talliedRow  hf) rfl hl (Nat.le_of_ble_eq_true rfl) dX11_chance_31 rfl (fun w8 H locs ad8 al8 hf hE8 hR => ?_)
        have hX := hX.tr hE8
        have hr := hr.after hc8 hs8
        rw [← (hE8 1 hw8_1).2] at hl
        refine lv_iload_n hx hb dX11_chance_34 rfl (lv_at hl 3 rfl) ?_
        refine z_callVI (fr1 := 1) (b := 29) (As := [.int x2]) (rest := []) X (hr.none (by decide)) hR zy_X9_from zq_1522 (zlit hR zf_29) (by rw [zs_29]; rfl) rfl (mX9_from  hf) rfl hl (Nat.le_of_ble_eq_true rfl) dX11_chance_35 rfl (fun r9 w9 H locs hf hR => ?_)
        refine lv_i2l hx hb dX11_chance_38 rfl ?_
        refine lv_topl (fun v10 hv10 => ?_)
        replace hf := hf v10 hv10
        refine lv_lstore (lv' := [(4, .long v10), (3, .int v2), (0, .ref (ad8 1)), (1, .int x1), (2, .int x2)]) hx hb dX11_chance_39 hl (by decide) rfl (fun ls hl => ?_)
        refine lv_lload hx hb dX11_chance_41 (lv_at hl 0 rfl) ?_
        refine lv_ldc2 (v := (1000000 : Int64)) hx hb hown (hts _ zq_1521) dX11_chance_43 ?_
        refine lv_lmul hx hb dX11_chance_46 ?_
        refine lv_iload_n hx hb dX11_chance_47 rfl (lv_at hl 1 rfl) ?_
        refine lv_i2l hx hb dX11_chance_48 rfl ?_
        obtain ⟨hd11, hf⟩ := hf
        refine lv_ldiv hx hb dX11_chance_49 hd11 ?_
        refine lv_l2i hx hb dX11_chance_50 rfl ?_
        exact hQ _ _ _ _ _ _ _ _ _ _ hX (by have := hr.2.2.1; omega) (by have := hr.2.2.2; omega) hf hR dX11_chance_51
      · replace hf := hf.2 c7
        refine lv_iconst (v := (-1 : Int32)) hx hb dX11_chance_27 (by decide) ?_
        exact hQ _ _ _ _ _ _ _ _ _ _ hX (by have := hr.2.2.1; omega) (by have := hr.2.2.2; omega) hf hR dX11_chance_28
/-! X11_gain -/
def fX11_gain (x0 : Int32) (x1 : Int32) (x2 : Int32) (x3 : Int32) (x4 : Int32) (w : zW) (k : Int32 → zW → Prop) : Prop :=
  ((¬ x3 = (1 : Int32) →
    ∀ v2 : Int32, v2 = (if ¬ x4 = (1 : Int32) then (0 : Int32) else x2) →
    k v2 w) ∧
   (x3 = (1 : Int32) →
    ∀ v3 : Int32, v3 = (if ¬ x4 = (1 : Int32) then x1 else (-x0)) →
    k v3 w))
set_option maxHeartbeats 4000000 in
set_option maxRecDepth 100000 in
theorem mX11_gain {l : Launch} {D : va_G} {dA : Nat → ClassId} {ad : Nat → Nat} {al : Nat → Prop} {w : zW} {k : Int32 → zW → Prop} {x0 : Int32} {x1 : Int32} {x2 : Int32} {x3 : Int32} {x4 : Int32}   (hf : fX11_gain x0 x1 x2 x3 x4 w k) : zmetI l yX11_gain cX11_gain 5 (some .int) 0 [.int x0, .int x1, .int x2, .int x3, .int x4] D dA true ad al w k := by
  refine zmetI_of (by decide) (Nat.le_of_ble_eq_true rfl) ?_
  intro p e R s m below meth c Q H ls args locs cells slots X hr hQ hR hl
  have hx := X.1
  have hb := X.2.1
  have hml := X.2.2.1
  have hown := X.2.2.2.1
  have hts := X.2.2.2.2.1
  unfold fX11_gain at hf
  have hl : lv_has ls 5 [(0, .int x0), (1, .int x1), (2, .int x2), (3, .int x3), (4, .int x4)] := hl
  refine lv_iload_n hx hb dX11_gain_0 rfl (lv_at hl 3 rfl) ?_
  refine lv_iconst (v := (1 : Int32)) hx hb dX11_gain_1 (by decide) ?_
  refine lv_icmp_ne (tgt := 18) hx hb dX11_gain_2 (by decide) (fun c1 => ?_) (fun c1 => ?_)
  · replace hf := hf.1 c1
    refine lv_iload hx hb dX11_gain_18 (lv_at hl 4 rfl) ?_
    refine lv_iconst (v := (1 : Int32)) hx hb dX11_gain_20 (by decide) ?_
    have kJ2 : ∀ v2 : Int32, v2 = (if ¬ x4 = (1 : Int32) then (0 : Int32) else x2) → W p l e R s m args below meth c H locs cells slots Q (F0 m 29 ls (.int v2 :: [])) := by
      intro v2 hv2
      replace hf := hf v2 hv2
      exact hQ _ _ _ _ _ _ hf hR dX11_gain_29
    refine lv_icmp_ne (tgt := 28) hx hb dX11_gain_21 (by decide) (fun c2 => ?_) (fun c2 => ?_)
    · refine lv_iconst (v := (0 : Int32)) hx hb dX11_gain_28 (by decide) ?_
      exact kJ2 _ (if_pos c2).symm
    · refine lv_iload_n hx hb dX11_gain_24 rfl (lv_at hl 2 rfl) ?_
      refine lv_goto (tgt := 29) hx hb dX11_gain_25 (by decide) ?_
      exact kJ2 _ (if_neg (fun h9 => h9 c2)).symm
  · replace hf := hf.2 c1
    refine lv_iload hx hb dX11_gain_5 (lv_at hl 4 rfl) ?_
    refine lv_iconst (v := (1 : Int32)) hx hb dX11_gain_7 (by decide) ?_
    have kJ3 : ∀ v3 : Int32, v3 = (if ¬ x4 = (1 : Int32) then x1 else (-x0)) → W p l e R s m args below meth c H locs cells slots Q (F0 m 17 ls (.int v3 :: [])) := by
      intro v3 hv3
      replace hf := hf v3 hv3
      exact hQ _ _ _ _ _ _ hf hR dX11_gain_17
    refine lv_icmp_ne (tgt := 16) hx hb dX11_gain_8 (by decide) (fun c3 => ?_) (fun c3 => ?_)
    · refine lv_iload_n hx hb dX11_gain_16 rfl (lv_at hl 1 rfl) ?_
      exact kJ3 _ (if_pos c3).symm
    · refine lv_iload_n hx hb dX11_gain_11 rfl (lv_at hl 0 rfl) ?_
      refine lv_ineg hx hb dX11_gain_12 ?_
      refine lv_goto (tgt := 17) hx hb dX11_gain_13 (by decide) ?_
      exact kJ3 _ (if_neg (fun h9 => h9 c3)).symm
/-! X11_isBest -/
def fX11_isBest (x0 : Int32) (x1 : Int32) (x2 : Int32) (x3 : Int32) (x4 : Int32) (w : zW) (k : Int32 → zW → Prop) : Prop :=
  fX11_gain x0 x1 x2 x3 x4 w (fun r1 w1 =>
  fX11_gain x0 x1 x2 ((1 : Int32) - x3) x4 w1 (fun r2 w2 =>
  ∀ v3 : Int32, v3 = (if r1 < r2 then (0 : Int32) else (1 : Int32)) →
  zb01 v3 ∧ k v3 w2))
set_option maxHeartbeats 4000000 in
set_option maxRecDepth 100000 in
theorem mX11_isBest {l : Launch} {D : va_G} {dA : Nat → ClassId} {ad : Nat → Nat} {al : Nat → Prop} {w : zW} {k : Int32 → zW → Prop} {x0 : Int32} {x1 : Int32} {x2 : Int32} {x3 : Int32} {x4 : Int32}   (hf : fX11_isBest x0 x1 x2 x3 x4 w k) : zmetI l yX11_isBest cX11_isBest 5 (some .boolean) 1 [.int x0, .int x1, .int x2, .int x3, .int x4] D dA true ad al w k := by
  refine zmetZ_of (by decide) (Nat.le_of_ble_eq_true rfl) ?_
  intro p e R s m below meth c Q H ls args locs cells slots X hr hQ hR hl
  have hx := X.1
  have hb := X.2.1
  have hml := X.2.2.1
  have hown := X.2.2.2.1
  have hts := X.2.2.2.2.1
  unfold fX11_isBest at hf
  have hl : lv_has ls 5 [(0, .int x0), (1, .int x1), (2, .int x2), (3, .int x3), (4, .int x4)] := hl
  refine lv_iload_n hx hb dX11_isBest_0 rfl (lv_at hl 0 rfl) ?_
  refine lv_iload_n hx hb dX11_isBest_1 rfl (lv_at hl 1 rfl) ?_
  refine lv_iload_n hx hb dX11_isBest_2 rfl (lv_at hl 2 rfl) ?_
  refine lv_iload_n hx hb dX11_isBest_3 rfl (lv_at hl 3 rfl) ?_
  refine lv_iload hx hb dX11_isBest_4 (lv_at hl 4 rfl) ?_
  refine z_callSI (fr1 := 0) (As := [.int x0, .int x1, .int x2, .int x3, .int x4]) (rest := []) X (hr.le (by decide)) hR zy_X11_gain zq_1548 (mX11_gain  hf) rfl hl (Nat.le_of_ble_eq_true rfl) dX11_isBest_6 rfl (fun r1 w1 H locs hf hR => ?_)
  refine lv_iload_n hx hb dX11_isBest_9 rfl (lv_at hl 0 rfl) ?_
  refine lv_iload_n hx hb dX11_isBest_10 rfl (lv_at hl 1 rfl) ?_
  refine lv_iload_n hx hb dX11_isBest_11 rfl (lv_at hl 2 rfl) ?_
  refine lv_iconst (v := (1 : Int32)) hx hb dX11_isBest_12 (by decide) ?_
  refine lv_iload_n hx hb dX11_isBest_13 rfl (lv_at hl 3 rfl) ?_
  refine lv_isub hx hb dX11_isBest_14 ?_
  refine lv_iload hx hb dX11_isBest_15 (lv_at hl 4 rfl) ?_
  refine z_callSI (fr1 := 0) (As := [.int x0, .int x1, .int x2, .int ((1 : Int32) - x3), .int x4]) (rest := [.int r1]) X (hr.le (by decide)) hR zy_X11_gain zq_1548 (mX11_gain  hf) rfl hl (Nat.le_of_ble_eq_true rfl) dX11_isBest_17 rfl (fun r2 w2 H locs hf hR => ?_)
  have kJ3 : ∀ v3 : Int32, v3 = (if r1 < r2 then (0 : Int32) else (1 : Int32)) → W p l e R s m args below meth c H locs cells slots Q (F0 m 28 ls (.int v3 :: [])) := by
    intro v3 hv3
    replace hf := hf v3 hv3
    obtain ⟨h01, hf⟩ := hf
    exact hQ _ _ _ _ _ _ h01 hf hR dX11_isBest_28
  refine lv_icmp_lt (tgt := 27) hx hb dX11_isBest_20 (by decide) (fun c3 => ?_) (fun c3 => ?_)
  · refine lv_iconst (v := (0 : Int32)) hx hb dX11_isBest_27 (by decide) ?_
    exact kJ3 _ (if_pos c3).symm
  · refine lv_iconst (v := (1 : Int32)) hx hb dX11_isBest_23 (by decide) ?_
    refine lv_goto (tgt := 28) hx hb dX11_isBest_24 (by decide) ?_
    exact kJ3 _ (if_neg c3).symm
/-! X11_isDigit -/
def fX11_isDigit (x0 : Int32) (w : zW) (k : Int32 → zW → Prop) : Prop :=
  ∀ v1 : Int32, v1 = (if x0 < 0 then (0 : Int32) else (if (9 : Int32) < x0 then (0 : Int32) else (1 : Int32))) →
  zb01 v1 ∧ k v1 w
set_option maxHeartbeats 4000000 in
set_option maxRecDepth 100000 in
theorem mX11_isDigit {l : Launch} {D : va_G} {dA : Nat → ClassId} {ad : Nat → Nat} {al : Nat → Prop} {w : zW} {k : Int32 → zW → Prop} {x0 : Int32}   (hf : fX11_isDigit x0 w k) : zmetI l yX11_isDigit cX11_isDigit 1 (some .boolean) 0 [.int x0] D dA true ad al w k := by
  refine zmetZ_of (by decide) (Nat.le_of_ble_eq_true rfl) ?_
  intro p e R s m below meth c Q H ls args locs cells slots X hr hQ hR hl
  have hx := X.1
  have hb := X.2.1
  have hml := X.2.2.1
  have hown := X.2.2.2.1
  have hts := X.2.2.2.2.1
  unfold fX11_isDigit at hf
  have hl : lv_has ls 1 [(0, .int x0)] := hl
  refine lv_iload_n hx hb dX11_isDigit_0 rfl (lv_at hl 0 rfl) ?_
  have kJ1 : ∀ v1 : Int32, v1 = (if x0 < 0 then (0 : Int32) else (if (9 : Int32) < x0 then (0 : Int32) else (1 : Int32))) → W p l e R s m args below meth c H locs cells slots Q (F0 m 15 ls (.int v1 :: [])) := by
    intro v1 hv1
    replace hf := hf v1 hv1
    obtain ⟨h01, hf⟩ := hf
    exact hQ _ _ _ _ _ _ h01 hf hR dX11_isDigit_15
  refine lv_if_lt (tgt := 14) hx hb dX11_isDigit_1 (by decide) (fun c1 => ?_) (fun c1 => ?_)
  · refine lv_iconst (v := (0 : Int32)) hx hb dX11_isDigit_14 (by decide) ?_
    exact kJ1 _ (if_pos c1).symm
  · refine lv_iload_n hx hb dX11_isDigit_4 rfl (lv_at hl 0 rfl) ?_
    refine lv_bipush (v := (9 : Int32)) hx hb dX11_isDigit_5 (by decide) ?_
    refine lv_icmp_gt (tgt := 14) hx hb dX11_isDigit_7 (by decide) (fun c2 => ?_) (fun c2 => ?_)
    · refine lv_iconst (v := (0 : Int32)) hx hb dX11_isDigit_14 (by decide) ?_
      exact kJ1 _ ((if_neg c1).trans (if_pos c2)).symm
    · refine lv_iconst (v := (1 : Int32)) hx hb dX11_isDigit_10 (by decide) ?_
      refine lv_goto (tgt := 15) hx hb dX11_isDigit_11 (by decide) ?_
      exact kJ1 _ ((if_neg c1).trans (if_neg c2)).symm
/-! X11_drafts -/
def fX11_drafts_L83 (k : Int32 → zW → Prop) (g71 : Int32 → Int32 → Int32 → Int32 → Int32 → Int64 → Int32 → zW → Prop) : Nat → Int32 → Int32 → Int32 → Int32 → Int32 → Int64 → Int32 → Int32 → Int32 → zW → Prop
  | 0 => fun _ _ _ _ _ _ _ _ _ _ => False
  | n + 1 => fun x2 x3 x4 x5 x6 x7 x9 x10 x11 w =>
    ¬ gR w 1 9 = 0 ∧
    (((gI w (gR w 1 9) 0) ≤ x11 →
      fX0_rowsDown (gR w 1 9) x10 (8 : Int32) w (fun r16 w16 =>
      ¬ gR w16 1 9 = 0 ∧
      fJ6_bitCount_0f7a4 r16 w16 (fun r18 w18 =>
      ∀ v19 : Int32, v19 = x5 + ((gI w16 (gR w16 1 9) 7) - r18) →
      ((¬ r16 = 0 →
        g71 x2 x3 x4 v19 x6 x7 (x9 + (1 : Int32)) w18) ∧
       (r16 = 0 →
        ¬ gR w18 1 9 = 0 ∧
        fX3_agrees 9 (gR w18 1 9) x10 w18 (fun r22 w22 =>
        ((r22 = 0 →
          g71 x2 x3 x4 v19 x6 x7 (x9 + (1 : Int32)) w22) ∧
         (¬ r22 = 0 →
          ∀ v24 : Int32, v24 = (if ¬ x6 = (-1 : Int32) then x6 else x9) →
          g71 x2 x3 (x4 + (1 : Int32)) v19 v24 x7 (x9 + (1 : Int32)) w22)))))))) ∧
     (¬ (gI w (gR w 1 9) 0) ≤ x11 →
      ∀ v25 : Int64, v25 = ((x7 * (1103515245 : Int64)) + (12345 : Int64)) % (2147483648 : Int64) →
      fX0_meaningBelow (gR w 1 9) x11 (v25 / (65536 : Int64)) w (fun r26 w26 =>
      ∀ v27 : Int32, v27 = x10 ||| (r26 <<< (((4 : Int32) * x11) &&& 31)) →
      fX11_drafts_L83 k g71 n x2 x3 x4 x5 x6 v25 x9 v27 (x11 + (1 : Int32)) w26)))
set_option maxHeartbeats 4000000 in
set_option maxRecDepth 100000 in
theorem mX11_drafts_L83 {k : Int32 → zW → Prop} {g71 : Int32 → Int32 → Int32 → Int32 → Int32 → Int64 → Int32 → zW → Prop} (X : zCx p s m args meth c cX11_drafts 12 RX11 (some .int)) (hr : zRm R 3 cells slots) (hQ : zRetI p l e R s m args below meth c cells slots Q D dA true ad0 al0 ad al cX11_drafts k) (hg71 : ∀ (x2 : Int32) (x3 : Int32) (x4 : Int32) (x5 : Int32) (x6 : Int32) (x7 : Int64) (x9 : Int32) (w : zW) (H : Heap) (locs : List Loc) (ls : Array Slot), g71 x2 x3 x4 x5 x6 x7 x9 w → zSt D dA true ad0 al0 ad al w s H locs → lv_has ls 12 [(0, .ref (ad 1)), (2, .int x2), (3, .int x3), (4, .int x4), (5, .int x5), (6, .int x6), (7, .long x7), (9, .int x9)] → W p l e R s m args below meth c H locs cells slots Q (F0 m 71 ls [])) : ∀ (n : Nat) (x2 : Int32) (x3 : Int32) (x4 : Int32) (x5 : Int32) (x6 : Int32) (x7 : Int64) (x9 : Int32) (x10 : Int32) (x11 : Int32) (w : zW) (H : Heap) (locs : List Loc) (ls : Array Slot), fX11_drafts_L83 k g71 n x2 x3 x4 x5 x6 x7 x9 x10 x11 w → zSt D dA true ad0 al0 ad al w s H locs → lv_has ls 12 [(0, .ref (ad 1)), (2, .int x2), (3, .int x3), (4, .int x4), (5, .int x5), (6, .int x6), (7, .long x7), (9, .int x9), (10, .int x10), (11, .int x11)] → W p l e R s m args below meth c H locs cells slots Q (F0 m 83 ls []) := by
  intro n
  induction n with
  | zero => exact fun _ _ _ _ _ _ _ _ _ _ _ _ _ hf => hf.elim
  | succ n ih =>
    intro x2 x3 x4 x5 x6 x7 x9 x10 x11 w H locs ls hf hR hl
    have hx := X.1
    have hb := X.2.1
    have hml := X.2.2.1
    have hown := X.2.2.2.1
    have hts := X.2.2.2.2.1
    rw [fX11_drafts_L83] at hf
    refine lv_iload hx hb dX11_drafts_83 (lv_at hl 9 rfl) ?_
    refine lv_aload_n hx hb dX11_drafts_85 rfl (lv_at hl 0 rfl) ?_
    refine z_getR X hR (zlit hR zf_1) zs_1 (by decide) zfd_X11_71 rfl dX11_drafts_86 ?_
    obtain ⟨hn140, hf⟩ := hf
    have hn14 : al (gR w 1 9) ∧ zsh (gR w 1 9) = 0 := zwt_of hR (zlit hR zf_1) zs_1 rfl hn140 (zdc_of zs_1 rfl)
    rw [zrf_pos hn140]
    refine z_getI X hR hn14.1 hn14.2 (by decide) zfd_X11_221 rfl dX11_drafts_89 ?_
    refine lv_icmp_ge (tgt := 142) hx hb dX11_drafts_92 (by decide) (fun c15 => ?_) (fun c15 => ?_)
    · replace hf := hf.1 c15
      refine lv_aload_n hx hb dX11_drafts_142 rfl (lv_at hl 0 rfl) ?_
      refine z_getR X hR (zlit hR zf_1) zs_1 (by decide) zfd_X11_71 rfl dX11_drafts_143 ?_
      rw [zrf_pos hn140]
      refine lv_iload hx hb dX11_drafts_146 (lv_at hl 8 rfl) ?_
      refine lv_bipush (v := (8 : Int32)) hx hb dX11_drafts_148 (by decide) ?_
      refine z_callVI (fr1 := 1) (b := (gR w 1 9)) (As := [.int x10, .int (8 : Int32)]) (rest := []) X (hr.le (by decide)) hR zy_X0_rowsDown zq_1575 hn14.1 (by rw [hn14.2]; rfl) rfl (mX0_rowsDown ⟨hn14.1, hn14.2⟩ hf) rfl hl (Nat.le_of_ble_eq_true rfl) dX11_drafts_150 rfl (fun r16 w16 H locs hf hR => ?_)
      refine lv_istore (lv' := [(11, .int r16), (0, .ref (ad 1)), (2, .int x2), (3, .int x3), (4, .int x4), (5, .int x5), (6, .int x6), (7, .long x7), (9, .int x9), (10, .int x10)]) hx hb dX11_drafts_153 hl (by decide) rfl (fun ls hl => ?_)
      refine lv_iload hx hb dX11_drafts_155 (lv_at hl 5 rfl) ?_
      refine lv_aload_n hx hb dX11_drafts_157 rfl (lv_at hl 1 rfl) ?_
      refine z_getR X hR (zlit hR zf_1) zs_1 (by decide) zfd_X11_71 rfl dX11_drafts_158 ?_
      obtain ⟨hn170, hf⟩ := hf
      have hn17 : al (gR w16 1 9) ∧ zsh (gR w16 1 9) = 0 := zwt_of hR (zlit hR zf_1) zs_1 rfl hn170 (zdc_of zs_1 rfl)
      rw [zrf_pos hn170]
      refine z_getI X hR hn17.1 hn17.2 (by decide) zfd_X11_239 rfl dX11_drafts_161 ?_
      refine lv_iload hx hb dX11_drafts_164 (lv_at hl 0 rfl) ?_
      refine z_callSI (fr1 := 0) (As := [.int r16]) (rest := [.int (gI w16 (gR w16 1 9) 7), .int x5]) X (hr.le (by decide)) hR zy_J6_bitCount_0f7a4 zq_1499 (mJ6_bitCount_0f7a4  hf) rfl hl (Nat.le_of_ble_eq_true rfl) dX11_drafts_166 rfl (fun r18 w18 H locs hf hR => ?_)
      refine lv_isub hx hb dX11_drafts_169 ?_
      refine lv_iadd hx hb dX11_drafts_170 ?_
      refine lv_topi (fun v19 hv19 => ?_)
      replace hf := hf v19 hv19
      refine lv_istore (lv' := [(5, .int v19), (11, .int r16), (0, .ref (ad 1)), (2, .int x2), (3, .int x3), (4, .int x4), (6, .int x6), (7, .long x7), (9, .int x9), (10, .int x10)]) hx hb dX11_drafts_171 hl (by decide) rfl (fun ls hl => ?_)
      refine lv_iload hx hb dX11_drafts_173 (lv_at hl 1 rfl) ?_
      refine lv_if_ne (tgt := 212) hx hb dX11_drafts_175 (by decide) (fun c20 => ?_) (fun c20 => ?_)
      · replace hf := hf.1 c20
        refine lv_iinc (v := x9 + (1 : Int32)) (lv' := [(9, .int (x9 + (1 : Int32))), (5, .int v19), (11, .int r16), (0, .ref (ad 1)), (2, .int x2), (3, .int x3), (4, .int x4), (6, .int x6), (7, .long x7), (10, .int x10)]) hx hb dX11_drafts_212 hl (k := 8) rfl rfl (by decide) rfl (fun ls hl => ?_)
        refine lv_goto (tgt := 71) hx hb dX11_drafts_215 (by decide) ?_
        exact hg71 x2 x3 x4 v19 x6 x7 (x9 + (1 : Int32)) w18 _ _ _ hf hR (lv_sub hl [3, 4, 5, 6, 1, 7, 8, 0] rfl)
      · replace hf := hf.2 c20
        refine lv_aload_n hx hb dX11_drafts_178 rfl (lv_at hl 2 rfl) ?_
        refine z_getS X hR (zlit hR zf_1) zs_1 (by decide) zfd_X11_28 rfl (r := 9) (by decide +kernel) dX11_drafts_179 ?_
        refine lv_iload hx hb dX11_drafts_182 (lv_at hl 9 rfl) ?_
        refine lv_aload_n hx hb dX11_drafts_184 rfl (lv_at hl 2 rfl) ?_
        refine z_getR X hR (zlit hR zf_1) zs_1 (by decide) zfd_X11_71 rfl dX11_drafts_185 ?_
        obtain ⟨hn210, hf⟩ := hf
        have hn21 : al (gR w18 1 9) ∧ zsh (gR w18 1 9) = 0 := zwt_of hR (zlit hR zf_1) zs_1 rfl hn210 (zdc_of zs_1 rfl)
        rw [zrf_pos hn210]
        refine z_callVI (fr1 := 2) (b := 9) (As := [.int x10, .ref (ad (gR w18 1 9))]) (rest := []) X (hr.le (by decide)) hR zy_X3_agrees zq_1576 (zlit hR zf_9) (by rw [zs_9]; rfl) rfl (mX3_agrees ⟨(zlit hR zf_9), zs_9⟩ ⟨hn21.1, hn21.2⟩ hf) rfl hl (Nat.le_of_ble_eq_true rfl) dX11_drafts_188 rfl (fun r22 w22 H locs hf hR => ?_)
        refine lv_if_eq (tgt := 212) hx hb dX11_drafts_191 (by decide) (fun c23 => ?_) (fun c23 => ?_)
        · replace hf := hf.1 c23
          refine lv_iinc (v := x9 + (1 : Int32)) (lv' := [(9, .int (x9 + (1 : Int32))), (5, .int v19), (11, .int r16), (0, .ref (ad 1)), (2, .int x2), (3, .int x3), (4, .int x4), (6, .int x6), (7, .long x7), (10, .int x10)]) hx hb dX11_drafts_212 hl (k := 8) rfl rfl (by decide) rfl (fun ls hl => ?_)
          refine lv_goto (tgt := 71) hx hb dX11_drafts_215 (by decide) ?_
          exact hg71 x2 x3 x4 v19 x6 x7 (x9 + (1 : Int32)) w22 _ _ _ hf hR (lv_sub hl [3, 4, 5, 6, 1, 7, 8, 0] rfl)
        · replace hf := hf.2 c23
          refine lv_iinc (v := x4 + (1 : Int32)) (lv' := [(4, .int (x4 + (1 : Int32))), (5, .int v19), (11, .int r16), (0, .ref (ad 1)), (2, .int x2), (3, .int x3), (6, .int x6), (7, .long x7), (9, .int x9), (10, .int x10)]) hx hb dX11_drafts_194 hl (k := 5) rfl rfl (by decide) rfl (fun ls hl => ?_)
          refine lv_iload hx hb dX11_drafts_197 (lv_at hl 6 rfl) ?_
          refine lv_iconst (v := (-1 : Int32)) hx hb dX11_drafts_199 (by decide) ?_
          have kJ24 : ∀ v24 : Int32, v24 = (if ¬ x6 = (-1 : Int32) then x6 else x9) → W p l e R s m args below meth c H locs cells slots Q (F0 m 210 ls (.int v24 :: [])) := by
            intro v24 hv24
            replace hf := hf v24 hv24
            refine lv_istore (lv' := [(6, .int v24), (4, .int (x4 + (1 : Int32))), (5, .int v19), (11, .int r16), (0, .ref (ad 1)), (2, .int x2), (3, .int x3), (7, .long x7), (9, .int x9), (10, .int x10)]) hx hb dX11_drafts_210 hl (by decide) rfl (fun ls hl => ?_)
            refine lv_iinc (v := x9 + (1 : Int32)) (lv' := [(9, .int (x9 + (1 : Int32))), (6, .int v24), (4, .int (x4 + (1 : Int32))), (5, .int v19), (11, .int r16), (0, .ref (ad 1)), (2, .int x2), (3, .int x3), (7, .long x7), (10, .int x10)]) hx hb dX11_drafts_212 hl (k := 8) rfl rfl (by decide) rfl (fun ls hl => ?_)
            refine lv_goto (tgt := 71) hx hb dX11_drafts_215 (by decide) ?_
            exact hg71 x2 x3 (x4 + (1 : Int32)) v19 v24 x7 (x9 + (1 : Int32)) w22 _ _ _ hf hR (lv_sub hl [5, 6, 7, 2, 3, 1, 8, 0] rfl)
          refine lv_icmp_ne (tgt := 208) hx hb dX11_drafts_200 (by decide) (fun c24 => ?_) (fun c24 => ?_)
          · refine lv_iload hx hb dX11_drafts_208 (lv_at hl 6 rfl) ?_
            exact kJ24 _ (if_pos c24).symm
          · refine lv_iload hx hb dX11_drafts_203 (lv_at hl 8 rfl) ?_
            refine lv_goto (tgt := 210) hx hb dX11_drafts_205 (by decide) ?_
            exact kJ24 _ (if_neg (fun h9 => h9 c24)).symm
    · replace hf := hf.2 c15
      refine lv_lload hx hb dX11_drafts_95 (lv_at hl 6 rfl) ?_
      refine lv_ldc2 (v := (1103515245 : Int64)) hx hb hown (hts _ zq_1566) dX11_drafts_97 ?_
      refine lv_lmul hx hb dX11_drafts_100 ?_
      refine lv_ldc2 (v := (12345 : Int64)) hx hb hown (hts _ zq_1567) dX11_drafts_101 ?_
      refine lv_ladd hx hb dX11_drafts_104 ?_
      refine lv_ldc2 (v := (2147483648 : Int64)) hx hb hown (hts _ zq_1568) dX11_drafts_105 ?_
      refine z_lrem X dX11_drafts_108 (by decide) ?_
      refine lv_topl (fun v25 hv25 => ?_)
      replace hf := hf v25 hv25
      refine lv_lstore (lv' := [(7, .long v25), (0, .ref (ad 1)), (2, .int x2), (3, .int x3), (4, .int x4), (5, .int x5), (6, .int x6), (9, .int x9), (10, .int x10), (11, .int x11)]) hx hb dX11_drafts_109 hl (by decide) rfl (fun ls hl => ?_)
      refine lv_iload hx hb dX11_drafts_111 (lv_at hl 8 rfl) ?_
      refine lv_aload_n hx hb dX11_drafts_113 rfl (lv_at hl 1 rfl) ?_
      refine z_getR X hR (zlit hR zf_1) zs_1 (by decide) zfd_X11_71 rfl dX11_drafts_114 ?_
      rw [zrf_pos hn140]
      refine lv_iload hx hb dX11_drafts_117 (lv_at hl 9 rfl) ?_
      refine lv_lload hx hb dX11_drafts_119 (lv_at hl 0 rfl) ?_
      refine lv_ldc2 (v := (65536 : Int64)) hx hb hown (hts _ zq_1569) dX11_drafts_121 ?_
      refine lv_ldiv hx hb dX11_drafts_124 (by decide) ?_
      refine z_callVI (fr1 := 0) (b := (gR w 1 9)) (As := [.int x11, .long (v25 / (65536 : Int64))]) (rest := [.int x10]) X (hr.le (by decide)) hR zy_X0_meaningBelow zq_1571 hn14.1 (by rw [hn14.2]; rfl) rfl (mX0_meaningBelow ⟨hn14.1, hn14.2⟩ hf) rfl hl (Nat.le_of_ble_eq_true rfl) dX11_drafts_125 rfl (fun r26 w26 H locs hf hR => ?_)
      refine lv_iconst (v := (4 : Int32)) hx hb dX11_drafts_128 (by decide) ?_
      refine lv_iload hx hb dX11_drafts_129 (lv_at hl 9 rfl) ?_
      refine lv_imul hx hb dX11_drafts_131 ?_
      refine lv_ishl hx hb dX11_drafts_132 ?_
      refine lv_ior hx hb dX11_drafts_133 ?_
      refine lv_topi (fun v27 hv27 => ?_)
      replace hf := hf v27 hv27
      refine lv_istore (lv' := [(10, .int v27), (7, .long v25), (0, .ref (ad 1)), (2, .int x2), (3, .int x3), (4, .int x4), (5, .int x5), (6, .int x6), (9, .int x9), (11, .int x11)]) hx hb dX11_drafts_134 hl (by decide) rfl (fun ls hl => ?_)
      refine lv_iinc (v := x11 + (1 : Int32)) (lv' := [(11, .int (x11 + (1 : Int32))), (10, .int v27), (7, .long v25), (0, .ref (ad 1)), (2, .int x2), (3, .int x3), (4, .int x4), (5, .int x5), (6, .int x6), (9, .int x9)]) hx hb dX11_drafts_136 hl (k := 9) rfl rfl (by decide) rfl (fun ls hl => ?_)
      refine lv_goto (tgt := 83) hx hb dX11_drafts_139 (by decide) ?_
      exact ih x2 x3 x4 x5 x6 v25 x9 v27 (x11 + (1 : Int32)) w26 _ _ _ hf hR (lv_sub hl [3, 4, 5, 6, 7, 8, 2, 9, 1, 0] rfl)
def fX11_drafts_L71 (k : Int32 → zW → Prop) : Nat → Int32 → Int32 → Int32 → Int32 → Int32 → Int64 → Int32 → zW → Prop
  | 0 => fun _ _ _ _ _ _ _ _ => False
  | n + 1 => fun x2 x3 x4 x5 x6 x7 x9 w =>
    ((x2 ≤ x9 →
      ∀ v12 : Int32, v12 = (if ¬ x3 = 0 then (if ¬ x3 = (1 : Int32) then x6 else x5) else x4) →
      k v12 w) ∧
     (¬ x2 ≤ x9 →
      ∃ n9, fX11_drafts_L83 k (fX11_drafts_L71 k n) n9 x2 x3 x4 x5 x6 x7 x9 (0 : Int32) (0 : Int32) w))
set_option maxHeartbeats 4000000 in
set_option maxRecDepth 100000 in
theorem mX11_drafts_L71 {k : Int32 → zW → Prop} (X : zCx p s m args meth c cX11_drafts 12 RX11 (some .int)) (hr : zRm R 3 cells slots) (hQ : zRetI p l e R s m args below meth c cells slots Q D dA true ad0 al0 ad al cX11_drafts k)  : ∀ (n : Nat) (x2 : Int32) (x3 : Int32) (x4 : Int32) (x5 : Int32) (x6 : Int32) (x7 : Int64) (x9 : Int32) (w : zW) (H : Heap) (locs : List Loc) (ls : Array Slot), fX11_drafts_L71 k n x2 x3 x4 x5 x6 x7 x9 w → zSt D dA true ad0 al0 ad al w s H locs → lv_has ls 12 [(0, .ref (ad 1)), (2, .int x2), (3, .int x3), (4, .int x4), (5, .int x5), (6, .int x6), (7, .long x7), (9, .int x9)] → W p l e R s m args below meth c H locs cells slots Q (F0 m 71 ls []) := by
  intro n
  induction n with
  | zero => exact fun _ _ _ _ _ _ _ _ _ _ _ hf => hf.elim
  | succ n ih =>
    intro x2 x3 x4 x5 x6 x7 x9 w H locs ls hf hR hl
    have hx := X.1
    have hb := X.2.1
    have hml := X.2.2.1
    have hown := X.2.2.2.1
    have hts := X.2.2.2.2.1
    rw [fX11_drafts_L71] at hf
    refine lv_iload hx hb dX11_drafts_71 (lv_at hl 7 rfl) ?_
    refine lv_iload_n hx hb dX11_drafts_73 rfl (lv_at hl 1 rfl) ?_
    refine lv_icmp_ge (tgt := 218) hx hb dX11_drafts_74 (by decide) (fun c11 => ?_) (fun c11 => ?_)
    · replace hf := hf.1 c11
      refine lv_iload_n hx hb dX11_drafts_218 rfl (lv_at hl 2 rfl) ?_
      have kJ12 : ∀ v12 : Int32, v12 = (if ¬ x3 = 0 then (if ¬ x3 = (1 : Int32) then x6 else x5) else x4) → W p l e R s m args below meth c H locs cells slots Q (F0 m 239 ls (.int v12 :: [])) := by
        intro v12 hv12
        replace hf := hf v12 hv12
        exact hQ _ _ _ _ _ _ hf hR dX11_drafts_239
      refine lv_if_ne (tgt := 227) hx hb dX11_drafts_219 (by decide) (fun c12 => ?_) (fun c12 => ?_)
      · refine lv_iload_n hx hb dX11_drafts_227 rfl (lv_at hl 2 rfl) ?_
        refine lv_iconst (v := (1 : Int32)) hx hb dX11_drafts_228 (by decide) ?_
        refine lv_icmp_ne (tgt := 237) hx hb dX11_drafts_229 (by decide) (fun c13 => ?_) (fun c13 => ?_)
        · refine lv_iload hx hb dX11_drafts_237 (lv_at hl 5 rfl) ?_
          exact kJ12 _ ((if_pos c12).trans (if_pos c13)).symm
        · refine lv_iload hx hb dX11_drafts_232 (lv_at hl 4 rfl) ?_
          refine lv_goto (tgt := 239) hx hb dX11_drafts_234 (by decide) ?_
          exact kJ12 _ ((if_pos c12).trans (if_neg (fun h9 => h9 c13))).symm
      · refine lv_iload hx hb dX11_drafts_222 (lv_at hl 3 rfl) ?_
        refine lv_goto (tgt := 239) hx hb dX11_drafts_224 (by decide) ?_
        exact kJ12 _ (if_neg (fun h9 => h9 c12)).symm
    · replace hf := hf.2 c11
      refine lv_iconst (v := (0 : Int32)) hx hb dX11_drafts_77 (by decide) ?_
      refine lv_istore (lv' := [(10, .int (0 : Int32)), (0, .ref (ad 1)), (2, .int x2), (3, .int x3), (4, .int x4), (5, .int x5), (6, .int x6), (7, .long x7), (9, .int x9)]) hx hb dX11_drafts_78 hl (by decide) rfl (fun ls hl => ?_)
      refine lv_iconst (v := (0 : Int32)) hx hb dX11_drafts_80 (by decide) ?_
      refine lv_istore (lv' := [(11, .int (0 : Int32)), (10, .int (0 : Int32)), (0, .ref (ad 1)), (2, .int x2), (3, .int x3), (4, .int x4), (5, .int x5), (6, .int x6), (7, .long x7), (9, .int x9)]) hx hb dX11_drafts_81 hl (by decide) rfl (fun ls hl => ?_)
      obtain ⟨n9, hf⟩ := hf
      exact mX11_drafts_L83 X hr hQ ih n9 x2 x3 x4 x5 x6 x7 x9 (0 : Int32) (0 : Int32) w _ _ _ hf hR (lv_sub hl [2, 3, 4, 5, 6, 7, 8, 9, 1, 0] rfl)
def fX11_drafts (x1 : Int32) (x2 : Int32) (x3 : Int32) (w : zW) (k : Int32 → zW → Prop) : Prop :=
  ((x1 < 0 →
    k (-2 : Int32) w) ∧
   (¬ x1 < 0 →
    (((9999 : Int32) < x1 →
      k (-2 : Int32) w) ∧
     (¬ (9999 : Int32) < x1 →
      ((x2 < (1 : Int32) →
        k (-2 : Int32) w) ∧
       (¬ x2 < (1 : Int32) →
        (((99 : Int32) < x2 →
          k (-2 : Int32) w) ∧
         (¬ (99 : Int32) < x2 →
          ((x3 < 0 →
            k (-2 : Int32) w) ∧
           (¬ x3 < 0 →
            ((x3 ≤ (2 : Int32) →
              ¬ gR w 1 9 = 0 ∧
              fX0_dictionaries (gR w 1 9) w (fun r8 w8 =>
              ((¬ r8 = 0 →
                ∀ v10 : Int64, v10 = x1.toInt64 →
                ∃ n9, fX11_drafts_L71 k n9 x2 x3 (0 : Int32) (0 : Int32) (-1 : Int32) v10 (0 : Int32) w8) ∧
               (r8 = 0 →
                ∀ v28 : Int32, v28 = (if ¬ x3 = (2 : Int32) then (0 : Int32) else (-1 : Int32)) →
                k v28 w8)))) ∧
             (¬ x3 ≤ (2 : Int32) →
              k (-2 : Int32) w))))))))))))
set_option maxHeartbeats 4000000 in
set_option maxRecDepth 100000 in
theorem mX11_drafts {l : Launch} {D : va_G} {dA : Nat → ClassId} {ad : Nat → Nat} {al : Nat → Prop} {w : zW} {k : Int32 → zW → Prop} {x1 : Int32} {x2 : Int32} {x3 : Int32}   (hf : fX11_drafts x1 x2 x3 w k) : zmetI l yX11_drafts cX11_drafts 12 (some .int) 3 [.ref (ad 1), .int x1, .int x2, .int x3] D dA true ad al w k := by
  refine zmetI_of (by decide) (Nat.le_of_ble_eq_true rfl) ?_
  intro p e R s m below meth c Q H ls args locs cells slots X hr hQ hR hl
  have hx := X.1
  have hb := X.2.1
  have hml := X.2.2.1
  have hown := X.2.2.2.1
  have hts := X.2.2.2.2.1
  unfold fX11_drafts at hf
  have hl : lv_has ls 12 [(0, .ref (ad 1)), (1, .int x1), (2, .int x2), (3, .int x3)] := hl
  refine lv_iload_n hx hb dX11_drafts_0 rfl (lv_at hl 1 rfl) ?_
  refine lv_if_lt (tgt := 31) hx hb dX11_drafts_1 (by decide) (fun c1 => ?_) (fun c1 => ?_)
  · replace hf := hf.1 c1
    refine lv_bipush (v := (-2 : Int32)) hx hb dX11_drafts_31 (by decide) ?_
    exact hQ _ _ _ _ _ _ hf hR dX11_drafts_33
  · replace hf := hf.2 c1
    refine lv_iload_n hx hb dX11_drafts_4 rfl (lv_at hl 1 rfl) ?_
    refine lv_sipush (v := (9999 : Int32)) hx hb dX11_drafts_5 (by decide) ?_
    refine lv_icmp_gt (tgt := 31) hx hb dX11_drafts_8 (by decide) (fun c2 => ?_) (fun c2 => ?_)
    · replace hf := hf.1 c2
      refine lv_bipush (v := (-2 : Int32)) hx hb dX11_drafts_31 (by decide) ?_
      exact hQ _ _ _ _ _ _ hf hR dX11_drafts_33
    · replace hf := hf.2 c2
      refine lv_iload_n hx hb dX11_drafts_11 rfl (lv_at hl 2 rfl) ?_
      refine lv_iconst (v := (1 : Int32)) hx hb dX11_drafts_12 (by decide) ?_
      refine lv_icmp_lt (tgt := 31) hx hb dX11_drafts_13 (by decide) (fun c3 => ?_) (fun c3 => ?_)
      · replace hf := hf.1 c3
        refine lv_bipush (v := (-2 : Int32)) hx hb dX11_drafts_31 (by decide) ?_
        exact hQ _ _ _ _ _ _ hf hR dX11_drafts_33
      · replace hf := hf.2 c3
        refine lv_iload_n hx hb dX11_drafts_16 rfl (lv_at hl 2 rfl) ?_
        refine lv_bipush (v := (99 : Int32)) hx hb dX11_drafts_17 (by decide) ?_
        refine lv_icmp_gt (tgt := 31) hx hb dX11_drafts_19 (by decide) (fun c4 => ?_) (fun c4 => ?_)
        · replace hf := hf.1 c4
          refine lv_bipush (v := (-2 : Int32)) hx hb dX11_drafts_31 (by decide) ?_
          exact hQ _ _ _ _ _ _ hf hR dX11_drafts_33
        · replace hf := hf.2 c4
          refine lv_iload_n hx hb dX11_drafts_22 rfl (lv_at hl 3 rfl) ?_
          refine lv_if_lt (tgt := 31) hx hb dX11_drafts_23 (by decide) (fun c5 => ?_) (fun c5 => ?_)
          · replace hf := hf.1 c5
            refine lv_bipush (v := (-2 : Int32)) hx hb dX11_drafts_31 (by decide) ?_
            exact hQ _ _ _ _ _ _ hf hR dX11_drafts_33
          · replace hf := hf.2 c5
            refine lv_iload_n hx hb dX11_drafts_26 rfl (lv_at hl 3 rfl) ?_
            refine lv_iconst (v := (2 : Int32)) hx hb dX11_drafts_27 (by decide) ?_
            refine lv_icmp_le (tgt := 34) hx hb dX11_drafts_28 (by decide) (fun c6 => ?_) (fun c6 => ?_)
            · replace hf := hf.1 c6
              refine lv_aload_n hx hb dX11_drafts_34 rfl (lv_at hl 0 rfl) ?_
              refine z_getR X hR (zlit hR zf_1) zs_1 (by decide) zfd_X11_71 rfl dX11_drafts_35 ?_
              obtain ⟨hn70, hf⟩ := hf
              have hn7 : al (gR w 1 9) ∧ zsh (gR w 1 9) = 0 := zwt_of hR (zlit hR zf_1) zs_1 rfl hn70 (zdc_of zs_1 rfl)
              rw [zrf_pos hn70]
              refine z_callVI (fr1 := 0) (b := (gR w 1 9)) (As := []) (rest := []) X (hr.le (by decide)) hR zy_X0_dictionaries zq_1570 hn7.1 (by rw [hn7.2]; rfl) rfl (mX0_dictionaries ⟨hn7.1, hn7.2⟩ hf) rfl hl (Nat.le_of_ble_eq_true rfl) dX11_drafts_38 rfl (fun r8 w8 H locs hf hR => ?_)
              refine lv_if_ne (tgt := 55) hx hb dX11_drafts_41 (by decide) (fun c9 => ?_) (fun c9 => ?_)
              · replace hf := hf.1 c9
                refine lv_iconst (v := (0 : Int32)) hx hb dX11_drafts_55 (by decide) ?_
                refine lv_istore (lv' := [(4, .int (0 : Int32)), (0, .ref (ad 1)), (1, .int x1), (2, .int x2), (3, .int x3)]) hx hb dX11_drafts_56 hl (by decide) rfl (fun ls hl => ?_)
                refine lv_iconst (v := (0 : Int32)) hx hb dX11_drafts_58 (by decide) ?_
                refine lv_istore (lv' := [(5, .int (0 : Int32)), (4, .int (0 : Int32)), (0, .ref (ad 1)), (1, .int x1), (2, .int x2), (3, .int x3)]) hx hb dX11_drafts_59 hl (by decide) rfl (fun ls hl => ?_)
                refine lv_iconst (v := (-1 : Int32)) hx hb dX11_drafts_61 (by decide) ?_
                refine lv_istore (lv' := [(6, .int (-1 : Int32)), (5, .int (0 : Int32)), (4, .int (0 : Int32)), (0, .ref (ad 1)), (1, .int x1), (2, .int x2), (3, .int x3)]) hx hb dX11_drafts_62 hl (by decide) rfl (fun ls hl => ?_)
                refine lv_iload_n hx hb dX11_drafts_64 rfl (lv_at hl 4 rfl) ?_
                refine lv_i2l hx hb dX11_drafts_65 rfl ?_
                refine lv_topl (fun v10 hv10 => ?_)
                replace hf := hf v10 hv10
                refine lv_lstore (lv' := [(7, .long v10), (6, .int (-1 : Int32)), (5, .int (0 : Int32)), (4, .int (0 : Int32)), (0, .ref (ad 1)), (1, .int x1), (2, .int x2), (3, .int x3)]) hx hb dX11_drafts_66 hl (by decide) rfl (fun ls hl => ?_)
                refine lv_iconst (v := (0 : Int32)) hx hb dX11_drafts_68 (by decide) ?_
                refine lv_istore (lv' := [(9, .int (0 : Int32)), (7, .long v10), (6, .int (-1 : Int32)), (5, .int (0 : Int32)), (4, .int (0 : Int32)), (0, .ref (ad 1)), (1, .int x1), (2, .int x2), (3, .int x3)]) hx hb dX11_drafts_69 hl (by decide) rfl (fun ls hl => ?_)
                obtain ⟨n9, hf⟩ := hf
                exact mX11_drafts_L71 X hr hQ  n9 x2 x3 (0 : Int32) (0 : Int32) (-1 : Int32) v10 (0 : Int32) w8 _ _ _ hf hR (lv_sub hl [5, 7, 8, 4, 3, 2, 1, 0] rfl)
              · replace hf := hf.2 c9
                refine lv_iload_n hx hb dX11_drafts_44 rfl (lv_at hl 3 rfl) ?_
                refine lv_iconst (v := (2 : Int32)) hx hb dX11_drafts_45 (by decide) ?_
                have kJ28 : ∀ v28 : Int32, v28 = (if ¬ x3 = (2 : Int32) then (0 : Int32) else (-1 : Int32)) → W p l e R s m args below meth c H locs cells slots Q (F0 m 54 ls (.int v28 :: [])) := by
                  intro v28 hv28
                  replace hf := hf v28 hv28
                  exact hQ _ _ _ _ _ _ hf hR dX11_drafts_54
                refine lv_icmp_ne (tgt := 53) hx hb dX11_drafts_46 (by decide) (fun c28 => ?_) (fun c28 => ?_)
                · refine lv_iconst (v := (0 : Int32)) hx hb dX11_drafts_53 (by decide) ?_
                  exact kJ28 _ (if_pos c28).symm
                · refine lv_iconst (v := (-1 : Int32)) hx hb dX11_drafts_49 (by decide) ?_
                  refine lv_goto (tgt := 54) hx hb dX11_drafts_50 (by decide) ?_
                  exact kJ28 _ (if_neg (fun h9 => h9 c28)).symm
            · replace hf := hf.2 c6
              refine lv_bipush (v := (-2 : Int32)) hx hb dX11_drafts_31 (by decide) ?_
              exact hQ _ _ _ _ _ _ hf hR dX11_drafts_33
/-! X11_mark -/
def fX11_mark_J24 (k : Int32 → zW → Prop) (x1 : Int32) (x2 : Int32) (w : zW) : Prop :=
  ((x2 = 0 →
    vp_in x1 4 ∧ 
    fX3_copy (11 + 1 + 2 * x1.toNatClampNeg) 9 w (fun w6 =>
    ∀ w7 : zW, w7 = sI w6 20 x1.toNatClampNeg ((1 : Int32) &&& 1) →
    k (1 : Int32) w7)) ∧
   (¬ x2 = 0 →
    vp_in x1 4 ∧ 
    fX3_copy 9 (11 + 1 + 2 * x1.toNatClampNeg) w (fun w9 =>
    ∀ w10 : zW, w10 = sI w9 21 0 (0 : Int32) →
    fX11_handChanged  w10 (fun w11 =>
    k (1 : Int32) w11))))
set_option maxHeartbeats 4000000 in
set_option maxRecDepth 100000 in
theorem mX11_mark_J24 {k : Int32 → zW → Prop} (X : zCx p s m args meth c cX11_mark 3 RX11 (some .boolean)) (hr : zRm R 3 cells slots) (hQ : zRetZ p l e R s m args below meth c cells slots Q D dA true ad0 al0 ad al cX11_mark k)  {x1 : Int32} {x2 : Int32} {w : zW} {H : Heap} {locs : List Loc} {ls : Array Slot} (hf : fX11_mark_J24 k x1 x2 w) (hR : zSt D dA true ad0 al0 ad al w s H locs) (hl : lv_has ls 3 [(0, .ref (ad 1)), (1, .int x1), (2, .int x2)]) : W p l e R s m args below meth c H locs cells slots Q (F0 m 24 ls []) := by
  have hx := X.1
  have hb := X.2.1
  have hml := X.2.2.1
  have hown := X.2.2.2.1
  have hts := X.2.2.2.2.1
  unfold fX11_mark_J24 at hf
  refine lv_iload_n hx hb dX11_mark_24 rfl (lv_at hl 2 rfl) ?_
  refine lv_if_eq (tgt := 56) hx hb dX11_mark_25 (by decide) (fun c4 => ?_) (fun c4 => ?_)
  · replace hf := hf.1 c4
    refine lv_aload_n hx hb dX11_mark_56 rfl (lv_at hl 0 rfl) ?_
    refine z_getS X hR (zlit hR zf_1) zs_1 (by decide) zfd_X11_32 rfl (r := 11) (by decide +kernel) dX11_mark_57 ?_
    refine lv_iload_n hx hb dX11_mark_60 rfl (lv_at hl 1 rfl) ?_
    obtain ⟨hb5, hf⟩ := hf
    refine z_aaldH X hR (zlit hR zf_11) zs_11 zl_11 hb5 dX11_mark_61 ?_
    refine lv_aload_n hx hb dX11_mark_62 rfl (lv_at hl 0 rfl) ?_
    refine z_getS X hR (zlit hR zf_1) zs_1 (by decide) zfd_X11_28 rfl (r := 9) (by decide +kernel) dX11_mark_63 ?_
    refine z_callVV (fr1 := 2) (b := (11 + 1 + 2 * x1.toNatClampNeg)) (As := [.ref (ad 9)]) (rest := []) X (hr.le (by decide)) hR zy_X3_copy zq_1602 (zhand hR hb5).1 (by rw [(zhand hR hb5).2]; rfl) rfl (mX3_copy ⟨(zhand hR hb5).1, (zhand hR hb5).2⟩ ⟨(zlit hR zf_9), zs_9⟩ hf) rfl hl (Nat.le_of_ble_eq_true rfl) dX11_mark_66 rfl (fun w6 H locs hf hR => ?_)
    refine lv_aload_n hx hb dX11_mark_69 rfl (lv_at hl 0 rfl) ?_
    refine z_getS X hR (zlit hR zf_1) zs_1 (by decide) zfd_X11_36 rfl (r := 20) (by decide +kernel) dX11_mark_70 ?_
    refine lv_iload_n hx hb dX11_mark_73 rfl (lv_at hl 1 rfl) ?_
    refine lv_iconst (v := (1 : Int32)) hx hb dX11_mark_74 (by decide) ?_
    refine z_zast X hR (zlit hR zf_20) zs_20 zl_20 hb5 dX11_mark_75 (fun H locs hR => ?_)
    obtain ⟨w7, hw7⟩ : ∃ z : zW, z = sI w6 20 x1.toNatClampNeg ((1 : Int32) &&& 1) := ⟨_, rfl⟩
    rw [← hw7] at hR
    replace hf := hf w7 hw7
    refine lv_iconst (v := (1 : Int32)) hx hb dX11_mark_76 (by decide) ?_
    exact hQ _ _ _ _ _ _ zb01_1 hf hR dX11_mark_77
  · replace hf := hf.2 c4
    refine lv_aload_n hx hb dX11_mark_28 rfl (lv_at hl 0 rfl) ?_
    refine z_getS X hR (zlit hR zf_1) zs_1 (by decide) zfd_X11_28 rfl (r := 9) (by decide +kernel) dX11_mark_29 ?_
    refine lv_aload_n hx hb dX11_mark_32 rfl (lv_at hl 0 rfl) ?_
    refine z_getS X hR (zlit hR zf_1) zs_1 (by decide) zfd_X11_32 rfl (r := 11) (by decide +kernel) dX11_mark_33 ?_
    refine lv_iload_n hx hb dX11_mark_36 rfl (lv_at hl 1 rfl) ?_
    obtain ⟨hb8, hf⟩ := hf
    refine z_aaldH X hR (zlit hR zf_11) zs_11 zl_11 hb8 dX11_mark_37 ?_
    refine z_callVV (fr1 := 2) (b := 9) (As := [.ref (ad (11 + 1 + 2 * x1.toNatClampNeg))]) (rest := []) X (hr.le (by decide)) hR zy_X3_copy zq_1602 (zlit hR zf_9) (by rw [zs_9]; rfl) rfl (mX3_copy ⟨(zlit hR zf_9), zs_9⟩ ⟨(zhand hR hb8).1, (zhand hR hb8).2⟩ hf) rfl hl (Nat.le_of_ble_eq_true rfl) dX11_mark_38 rfl (fun w9 H locs hf hR => ?_)
    refine lv_aload_n hx hb dX11_mark_41 rfl (lv_at hl 0 rfl) ?_
    refine z_getS X hR (zlit hR zf_1) zs_1 (by decide) zfd_X11_43 rfl (r := 21) (by decide +kernel) dX11_mark_42 ?_
    refine lv_iconst (v := (0 : Int32)) hx hb dX11_mark_45 (by decide) ?_
    refine z_putI X hR (zlit hR zf_21) zs_21 (by decide) zfp_X11_107 rfl dX11_mark_46 (fun H locs hR => ?_)
    obtain ⟨w10, hw10⟩ : ∃ z : zW, z = sI w9 21 0 (0 : Int32) := ⟨_, rfl⟩
    rw [← hw10] at hR
    replace hf := hf w10 hw10
    refine lv_aload_n hx hb dX11_mark_49 rfl (lv_at hl 0 rfl) ?_
    refine z_callVV (fr1 := 0) (b := 1) (As := []) (rest := []) X (hr.le (by decide)) hR zy_X11_handChanged zq_898 (zlit hR zf_1) (by rw [zs_1]; rfl) rfl (mX11_handChanged  hf) rfl hl (Nat.le_of_ble_eq_true rfl) dX11_mark_50 rfl (fun w11 H locs hf hR => ?_)
    refine lv_goto (tgt := 76) hx hb dX11_mark_53 (by decide) ?_
    refine lv_iconst (v := (1 : Int32)) hx hb dX11_mark_76 (by decide) ?_
    exact hQ _ _ _ _ _ _ zb01_1 hf hR dX11_mark_77
def fX11_mark (x1 : Int32) (x2 : Int32) (w : zW) (k : Int32 → zW → Prop) : Prop :=
  ((x1 < 0 →
    k (0 : Int32) w) ∧
   (¬ x1 < 0 →
    (((4 : Int32) ≤ x1 →
      k (0 : Int32) w) ∧
     (¬ (4 : Int32) ≤ x1 →
      ((x2 = 0 →
        fX11_mark_J24 k x1 x2 w) ∧
       (¬ x2 = 0 →
        vp_in x1 4 ∧ 
        ((¬ (gI w 20 x1.toNatClampNeg) = 0 →
          fX11_mark_J24 k x1 x2 w) ∧
         ((gI w 20 x1.toNatClampNeg) = 0 →
          k (0 : Int32) w))))))))
set_option maxHeartbeats 4000000 in
set_option maxRecDepth 100000 in
theorem mX11_mark {l : Launch} {D : va_G} {dA : Nat → ClassId} {ad : Nat → Nat} {al : Nat → Prop} {w : zW} {k : Int32 → zW → Prop} {x1 : Int32} {x2 : Int32}   (hf : fX11_mark x1 x2 w k) : zmetI l yX11_mark cX11_mark 3 (some .boolean) 3 [.ref (ad 1), .int x1, .int x2] D dA true ad al w k := by
  refine zmetZ_of (by decide) (Nat.le_of_ble_eq_true rfl) ?_
  intro p e R s m below meth c Q H ls args locs cells slots X hr hQ hR hl
  have hx := X.1
  have hb := X.2.1
  have hml := X.2.2.1
  have hown := X.2.2.2.1
  have hts := X.2.2.2.2.1
  unfold fX11_mark at hf
  have hl : lv_has ls 3 [(0, .ref (ad 1)), (1, .int x1), (2, .int x2)] := hl
  refine lv_iload_n hx hb dX11_mark_0 rfl (lv_at hl 1 rfl) ?_
  refine lv_if_lt (tgt := 22) hx hb dX11_mark_1 (by decide) (fun c1 => ?_) (fun c1 => ?_)
  · replace hf := hf.1 c1
    refine lv_iconst (v := (0 : Int32)) hx hb dX11_mark_22 (by decide) ?_
    exact hQ _ _ _ _ _ _ zb01_0 hf hR dX11_mark_23
  · replace hf := hf.2 c1
    refine lv_iload_n hx hb dX11_mark_4 rfl (lv_at hl 1 rfl) ?_
    refine lv_iconst (v := (4 : Int32)) hx hb dX11_mark_5 (by decide) ?_
    refine lv_icmp_ge (tgt := 22) hx hb dX11_mark_6 (by decide) (fun c2 => ?_) (fun c2 => ?_)
    · replace hf := hf.1 c2
      refine lv_iconst (v := (0 : Int32)) hx hb dX11_mark_22 (by decide) ?_
      exact hQ _ _ _ _ _ _ zb01_0 hf hR dX11_mark_23
    · replace hf := hf.2 c2
      refine lv_iload_n hx hb dX11_mark_9 rfl (lv_at hl 2 rfl) ?_
      refine lv_if_eq (tgt := 24) hx hb dX11_mark_10 (by decide) (fun c3 => ?_) (fun c3 => ?_)
      · replace hf := hf.1 c3
        exact mX11_mark_J24 X hr hQ  hf hR (lv_sub hl [0, 1, 2] rfl)
      · replace hf := hf.2 c3
        refine lv_aload_n hx hb dX11_mark_13 rfl (lv_at hl 0 rfl) ?_
        refine z_getS X hR (zlit hR zf_1) zs_1 (by decide) zfd_X11_36 rfl (r := 20) (by decide +kernel) dX11_mark_14 ?_
        refine lv_iload_n hx hb dX11_mark_17 rfl (lv_at hl 1 rfl) ?_
        obtain ⟨hb12, hf⟩ := hf
        refine z_zald X hR (zlit hR zf_20) zs_20 zl_20 hb12 dX11_mark_18 ?_
        refine lv_if_ne (tgt := 24) hx hb dX11_mark_19 (by decide) (fun c13 => ?_) (fun c13 => ?_)
        · replace hf := hf.1 c13
          exact mX11_mark_J24 X hr hQ  hf hR (lv_sub hl [0, 1, 2] rfl)
        · replace hf := hf.2 c13
          refine lv_iconst (v := (0 : Int32)) hx hb dX11_mark_22 (by decide) ?_
          exact hQ _ _ _ _ _ _ zb01_0 hf hR dX11_mark_23
end ZM
