theorem dX12_isWord_0 : decode cX12_isWord 0 = .ok (.aload_n 0, 1) := by decide +kernel
theorem dX12_isWord_1 : decode cX12_isWord 1 = .ok (.getfield 185, 3) := by decide +kernel
theorem dX12_isWord_4 : decode cX12_isWord 4 = .ok (.ifCond .ne 39, 3) := by decide +kernel
theorem dX12_isWord_7 : decode cX12_isWord 7 = .ok (.aload_n 0, 1) := by decide +kernel
theorem dX12_isWord_8 : decode cX12_isWord 8 = .ok (.getfield 24, 3) := by decide +kernel
theorem dX12_isWord_11 : decode cX12_isWord 11 = .ok (.aload_n 0, 1) := by decide +kernel
theorem dX12_isWord_12 : decode cX12_isWord 12 = .ok (.getfield 182, 3) := by decide +kernel
theorem dX12_isWord_15 : decode cX12_isWord 15 = .ok (.iaload, 1) := by decide +kernel
theorem dX12_isWord_16 : decode cX12_isWord 16 = .ok (.iconst 1, 1) := by decide +kernel
theorem dX12_isWord_17 : decode cX12_isWord 17 = .ok (.if_icmp .ne 26, 3) := by decide +kernel
theorem dX12_isWord_20 : decode cX12_isWord 20 = .ok (.aload_n 0, 1) := by decide +kernel
theorem dX12_isWord_21 : decode cX12_isWord 21 = .ok (.getfield 30, 3) := by decide +kernel
theorem dX12_isWord_24 : decode cX12_isWord 24 = .ok (.aload_n 0, 1) := by decide +kernel
theorem dX12_isWord_25 : decode cX12_isWord 25 = .ok (.getfield 182, 3) := by decide +kernel
theorem dX12_isWord_28 : decode cX12_isWord 28 = .ok (.laload, 1) := by decide +kernel
theorem dX12_isWord_29 : decode cX12_isWord 29 = .ok (.aload_n 0, 1) := by decide +kernel
theorem dX12_isWord_30 : decode cX12_isWord 30 = .ok (.getfield 76, 3) := by decide +kernel
theorem dX12_isWord_33 : decode cX12_isWord 33 = .ok (.iload_n 1, 1) := by decide +kernel
theorem dX12_isWord_34 : decode cX12_isWord 34 = .ok (.laload, 1) := by decide +kernel
theorem dX12_isWord_35 : decode cX12_isWord 35 = .ok (.lcmp, 1) := by decide +kernel
theorem dX12_isWord_36 : decode cX12_isWord 36 = .ok (.ifCond .ne 7, 3) := by decide +kernel
theorem dX12_isWord_39 : decode cX12_isWord 39 = .ok (.iconst 1, 1) := by decide +kernel
theorem dX12_isWord_40 : decode cX12_isWord 40 = .ok (.goto 4, 3) := by decide +kernel
theorem dX12_isWord_43 : decode cX12_isWord 43 = .ok (.iconst 0, 1) := by decide +kernel
theorem dX12_isWord_44 : decode cX12_isWord 44 = .ok (.ireturn, 1) := by decide +kernel
theorem dX12_wordHere_0 : decode cX12_wordHere 0 = .ok (.iconst (-1), 1) := by decide +kernel
theorem dX12_wordHere_1 : decode cX12_wordHere 1 = .ok (.istore_n 3, 1) := by decide +kernel
theorem dX12_wordHere_2 : decode cX12_wordHere 2 = .ok (.iconst 0, 1) := by decide +kernel
theorem dX12_wordHere_3 : decode cX12_wordHere 3 = .ok (.istore 4, 2) := by decide +kernel
theorem dX12_wordHere_5 : decode cX12_wordHere 5 = .ok (.iload 4, 2) := by decide +kernel
theorem dX12_wordHere_7 : decode cX12_wordHere 7 = .ok (.iload_n 2, 1) := by decide +kernel
theorem dX12_wordHere_8 : decode cX12_wordHere 8 = .ok (.if_icmp .ge 27, 3) := by decide +kernel
theorem dX12_wordHere_11 : decode cX12_wordHere 11 = .ok (.aload_n 0, 1) := by decide +kernel
theorem dX12_wordHere_12 : decode cX12_wordHere 12 = .ok (.iload_n 1, 1) := by decide +kernel
theorem dX12_wordHere_13 : decode cX12_wordHere 13 = .ok (.iload 4, 2) := by decide +kernel
theorem dX12_wordHere_15 : decode cX12_wordHere 15 = .ok (.iadd, 1) := by decide +kernel
theorem dX12_wordHere_16 : decode cX12_wordHere 16 = .ok (.invokevirtual 194, 3) := by decide +kernel
theorem dX12_wordHere_19 : decode cX12_wordHere 19 = .ok (.ifCond .eq 8, 3) := by decide +kernel
theorem dX12_wordHere_22 : decode cX12_wordHere 22 = .ok (.iload 4, 2) := by decide +kernel
theorem dX12_wordHere_24 : decode cX12_wordHere 24 = .ok (.goto 4, 3) := by decide +kernel
theorem dX12_wordHere_27 : decode cX12_wordHere 27 = .ok (.iload_n 3, 1) := by decide +kernel
theorem dX12_wordHere_28 : decode cX12_wordHere 28 = .ok (.istore_n 3, 1) := by decide +kernel
theorem dX12_wordHere_29 : decode cX12_wordHere 29 = .ok (.iinc 4 1, 3) := by decide +kernel
theorem dX12_wordHere_32 : decode cX12_wordHere 32 = .ok (.goto (-27), 3) := by decide +kernel
theorem dX12_wordHere_35 : decode cX12_wordHere 35 = .ok (.iload_n 3, 1) := by decide +kernel
theorem dX12_wordHere_36 : decode cX12_wordHere 36 = .ok (.ireturn, 1) := by decide +kernel
theorem dX12_isName_0 : decode cX12_isName 0 = .ok (.aload_n 0, 1) := by decide +kernel
theorem dX12_isName_1 : decode cX12_isName 1 = .ok (.getfield 185, 3) := by decide +kernel
theorem dX12_isName_4 : decode cX12_isName 4 = .ok (.ifCond .ne 30, 3) := by decide +kernel
theorem dX12_isName_7 : decode cX12_isName 7 = .ok (.aload_n 0, 1) := by decide +kernel
theorem dX12_isName_8 : decode cX12_isName 8 = .ok (.getfield 24, 3) := by decide +kernel
theorem dX12_isName_11 : decode cX12_isName 11 = .ok (.aload_n 0, 1) := by decide +kernel
theorem dX12_isName_12 : decode cX12_isName 12 = .ok (.getfield 182, 3) := by decide +kernel
theorem dX12_isName_15 : decode cX12_isName 15 = .ok (.iaload, 1) := by decide +kernel
theorem dX12_isName_16 : decode cX12_isName 16 = .ok (.iconst 1, 1) := by decide +kernel
theorem dX12_isName_17 : decode cX12_isName 17 = .ok (.if_icmp .ne 17, 3) := by decide +kernel
theorem dX12_isName_20 : decode cX12_isName 20 = .ok (.aload_n 0, 1) := by decide +kernel
theorem dX12_isName_21 : decode cX12_isName 21 = .ok (.iconst 0, 1) := by decide +kernel
theorem dX12_isName_22 : decode cX12_isName 22 = .ok (.bipush 17, 2) := by decide +kernel
theorem dX12_isName_24 : decode cX12_isName 24 = .ok (.invokevirtual 200, 3) := by decide +kernel
theorem dX12_isName_27 : decode cX12_isName 27 = .ok (.ifCond .ge 7, 3) := by decide +kernel
theorem dX12_isName_30 : decode cX12_isName 30 = .ok (.iconst 1, 1) := by decide +kernel
theorem dX12_isName_31 : decode cX12_isName 31 = .ok (.goto 4, 3) := by decide +kernel
theorem dX12_isName_34 : decode cX12_isName 34 = .ok (.iconst 0, 1) := by decide +kernel
theorem dX12_isName_35 : decode cX12_isName 35 = .ok (.ireturn, 1) := by decide +kernel
theorem dX12_isSign_0 : decode cX12_isSign 0 = .ok (.aload_n 0, 1) := by decide +kernel
theorem dX12_isSign_1 : decode cX12_isSign 1 = .ok (.getfield 185, 3) := by decide +kernel
theorem dX12_isSign_4 : decode cX12_isSign 4 = .ok (.ifCond .ne 35, 3) := by decide +kernel
theorem dX12_isSign_7 : decode cX12_isSign 7 = .ok (.aload_n 0, 1) := by decide +kernel
theorem dX12_isSign_8 : decode cX12_isSign 8 = .ok (.getfield 24, 3) := by decide +kernel
theorem dX12_isSign_11 : decode cX12_isSign 11 = .ok (.aload_n 0, 1) := by decide +kernel
theorem dX12_isSign_12 : decode cX12_isSign 12 = .ok (.getfield 182, 3) := by decide +kernel
theorem dX12_isSign_15 : decode cX12_isSign 15 = .ok (.iaload, 1) := by decide +kernel
theorem dX12_isSign_16 : decode cX12_isSign 16 = .ok (.iconst 3, 1) := by decide +kernel
theorem dX12_isSign_17 : decode cX12_isSign 17 = .ok (.if_icmp .ne 22, 3) := by decide +kernel
theorem dX12_isSign_20 : decode cX12_isSign 20 = .ok (.aload_n 0, 1) := by decide +kernel
theorem dX12_isSign_21 : decode cX12_isSign 21 = .ok (.getfield 30, 3) := by decide +kernel
theorem dX12_isSign_24 : decode cX12_isSign 24 = .ok (.aload_n 0, 1) := by decide +kernel
theorem dX12_isSign_25 : decode cX12_isSign 25 = .ok (.getfield 182, 3) := by decide +kernel
theorem dX12_isSign_28 : decode cX12_isSign 28 = .ok (.laload, 1) := by decide +kernel
theorem dX12_isSign_29 : decode cX12_isSign 29 = .ok (.iload_n 1, 1) := by decide +kernel
theorem dX12_isSign_30 : decode cX12_isSign 30 = .ok (.i2l, 1) := by decide +kernel
theorem dX12_isSign_31 : decode cX12_isSign 31 = .ok (.lcmp, 1) := by decide +kernel
theorem dX12_isSign_32 : decode cX12_isSign 32 = .ok (.ifCond .ne 7, 3) := by decide +kernel
theorem dX12_isSign_35 : decode cX12_isSign 35 = .ok (.iconst 1, 1) := by decide +kernel
theorem dX12_isSign_36 : decode cX12_isSign 36 = .ok (.goto 4, 3) := by decide +kernel
theorem dX12_isSign_39 : decode cX12_isSign 39 = .ok (.iconst 0, 1) := by decide +kernel
theorem dX12_isSign_40 : decode cX12_isSign 40 = .ok (.ireturn, 1) := by decide +kernel
theorem dX12_puts_0 : decode cX12_puts 0 = .ok (.aload_n 0, 1) := by decide +kernel
theorem dX12_puts_1 : decode cX12_puts 1 = .ok (.getfield 248, 3) := by decide +kernel
theorem dX12_puts_4 : decode cX12_puts 4 = .ok (.bipush 60, 2) := by decide +kernel
theorem dX12_puts_6 : decode cX12_puts 6 = .ok (.if_icmp .gt 23, 3) := by decide +kernel
theorem dX12_puts_9 : decode cX12_puts 9 = .ok (.aload_n 0, 1) := by decide +kernel
theorem dX12_puts_10 : decode cX12_puts 10 = .ok (.getfield 91, 3) := by decide +kernel
theorem dX12_puts_13 : decode cX12_puts 13 = .ok (.aload_n 0, 1) := by decide +kernel
theorem dX12_puts_14 : decode cX12_puts 14 = .ok (.getfield 248, 3) := by decide +kernel
theorem dX12_puts_17 : decode cX12_puts 17 = .ok (.iload_n 1, 1) := by decide +kernel
theorem dX12_puts_18 : decode cX12_puts 18 = .ok (.iastore, 1) := by decide +kernel
theorem dX12_puts_19 : decode cX12_puts 19 = .ok (.aload_n 0, 1) := by decide +kernel
theorem dX12_puts_20 : decode cX12_puts 20 = .ok (.dup, 1) := by decide +kernel
theorem dX12_puts_21 : decode cX12_puts 21 = .ok (.getfield 248, 3) := by decide +kernel
theorem dX12_puts_24 : decode cX12_puts 24 = .ok (.iconst 1, 1) := by decide +kernel
theorem dX12_puts_25 : decode cX12_puts 25 = .ok (.iadd, 1) := by decide +kernel
theorem dX12_puts_26 : decode cX12_puts 26 = .ok (.putfield 248, 3) := by decide +kernel
theorem dX12_puts_29 : decode cX12_puts 29 = .ok (.return_, 1) := by decide +kernel
theorem dX12_repeats_0 : decode cX12_repeats 0 = .ok (.aload_n 0, 1) := by decide +kernel
theorem dX12_repeats_1 : decode cX12_repeats 1 = .ok (.getfield 248, 3) := by decide +kernel
theorem dX12_repeats_4 : decode cX12_repeats 4 = .ok (.iload_n 1, 1) := by decide +kernel
theorem dX12_repeats_5 : decode cX12_repeats 5 = .ok (.isub, 1) := by decide +kernel
theorem dX12_repeats_6 : decode cX12_repeats 6 = .ok (.istore_n 3, 1) := by decide +kernel
theorem dX12_repeats_7 : decode cX12_repeats 7 = .ok (.iconst 1, 1) := by decide +kernel
theorem dX12_repeats_8 : decode cX12_repeats 8 = .ok (.istore 4, 2) := by decide +kernel
theorem dX12_repeats_10 : decode cX12_repeats 10 = .ok (.iload 4, 2) := by decide +kernel
theorem dX12_repeats_12 : decode cX12_repeats 12 = .ok (.iload_n 2, 1) := by decide +kernel
theorem dX12_repeats_13 : decode cX12_repeats 13 = .ok (.if_icmp .ge 37, 3) := by decide +kernel
theorem dX12_repeats_16 : decode cX12_repeats 16 = .ok (.iconst 0, 1) := by decide +kernel
theorem dX12_repeats_17 : decode cX12_repeats 17 = .ok (.istore 5, 2) := by decide +kernel
theorem dX12_repeats_19 : decode cX12_repeats 19 = .ok (.iload 5, 2) := by decide +kernel
theorem dX12_repeats_21 : decode cX12_repeats 21 = .ok (.iload_n 3, 1) := by decide +kernel
theorem dX12_repeats_22 : decode cX12_repeats 22 = .ok (.if_icmp .ge 22, 3) := by decide +kernel
theorem dX12_repeats_25 : decode cX12_repeats 25 = .ok (.aload_n 0, 1) := by decide +kernel
theorem dX12_repeats_26 : decode cX12_repeats 26 = .ok (.aload_n 0, 1) := by decide +kernel
theorem dX12_repeats_27 : decode cX12_repeats 27 = .ok (.getfield 91, 3) := by decide +kernel
theorem dX12_repeats_30 : decode cX12_repeats 30 = .ok (.iload_n 1, 1) := by decide +kernel
theorem dX12_repeats_31 : decode cX12_repeats 31 = .ok (.iload 5, 2) := by decide +kernel
theorem dX12_repeats_33 : decode cX12_repeats 33 = .ok (.iadd, 1) := by decide +kernel
theorem dX12_repeats_34 : decode cX12_repeats 34 = .ok (.iaload, 1) := by decide +kernel
theorem dX12_repeats_35 : decode cX12_repeats 35 = .ok (.invokevirtual 260, 3) := by decide +kernel
theorem dX12_repeats_38 : decode cX12_repeats 38 = .ok (.iinc 5 1, 3) := by decide +kernel
theorem dX12_repeats_41 : decode cX12_repeats 41 = .ok (.goto (-22), 3) := by decide +kernel
theorem dX12_repeats_44 : decode cX12_repeats 44 = .ok (.iinc 4 1, 3) := by decide +kernel
theorem dX12_repeats_47 : decode cX12_repeats 47 = .ok (.goto (-37), 3) := by decide +kernel
theorem dX12_repeats_50 : decode cX12_repeats 50 = .ok (.return_, 1) := by decide +kernel
theorem dX12_wrong_0 : decode cX12_wrong 0 = .ok (.aload_n 0, 1) := by decide +kernel
theorem dX12_wrong_1 : decode cX12_wrong 1 = .ok (.getfield 185, 3) := by decide +kernel
theorem dX12_wrong_4 : decode cX12_wrong 4 = .ok (.ifCond .ne 21, 3) := by decide +kernel
theorem dX12_wrong_7 : decode cX12_wrong 7 = .ok (.aload_n 0, 1) := by decide +kernel
theorem dX12_wrong_8 : decode cX12_wrong 8 = .ok (.iload_n 1, 1) := by decide +kernel
theorem dX12_wrong_9 : decode cX12_wrong 9 = .ok (.bipush 16, 2) := by decide +kernel
theorem dX12_wrong_11 : decode cX12_wrong 11 = .ok (.aload_n 0, 1) := by decide +kernel
theorem dX12_wrong_12 : decode cX12_wrong 12 = .ok (.getfield 27, 3) := by decide +kernel
theorem dX12_wrong_15 : decode cX12_wrong 15 = .ok (.aload_n 0, 1) := by decide +kernel
theorem dX12_wrong_16 : decode cX12_wrong 16 = .ok (.getfield 182, 3) := by decide +kernel
theorem dX12_wrong_19 : decode cX12_wrong 19 = .ok (.iaload, 1) := by decide +kernel
theorem dX12_wrong_20 : decode cX12_wrong 20 = .ok (.imul, 1) := by decide +kernel
theorem dX12_wrong_21 : decode cX12_wrong 21 = .ok (.iadd, 1) := by decide +kernel
theorem dX12_wrong_22 : decode cX12_wrong 22 = .ok (.putfield 185, 3) := by decide +kernel
theorem dX12_wrong_25 : decode cX12_wrong 25 = .ok (.return_, 1) := by decide +kernel
theorem dX12_takeNumber_0 : decode cX12_takeNumber 0 = .ok (.aload_n 0, 1) := by decide +kernel
theorem dX12_takeNumber_1 : decode cX12_takeNumber 1 = .ok (.getfield 185, 3) := by decide +kernel
theorem dX12_takeNumber_4 : decode cX12_takeNumber 4 = .ok (.ifCond .ne 24, 3) := by decide +kernel
theorem dX12_takeNumber_7 : decode cX12_takeNumber 7 = .ok (.aload_n 0, 1) := by decide +kernel
theorem dX12_takeNumber_8 : decode cX12_takeNumber 8 = .ok (.getfield 24, 3) := by decide +kernel
theorem dX12_takeNumber_11 : decode cX12_takeNumber 11 = .ok (.aload_n 0, 1) := by decide +kernel
theorem dX12_takeNumber_12 : decode cX12_takeNumber 12 = .ok (.getfield 182, 3) := by decide +kernel
theorem dX12_takeNumber_15 : decode cX12_takeNumber 15 = .ok (.iaload, 1) := by decide +kernel
theorem dX12_takeNumber_16 : decode cX12_takeNumber 16 = .ok (.iconst 2, 1) := by decide +kernel
theorem dX12_takeNumber_17 : decode cX12_takeNumber 17 = .ok (.if_icmp .eq 11, 3) := by decide +kernel
theorem dX12_takeNumber_20 : decode cX12_takeNumber 20 = .ok (.aload_n 0, 1) := by decide +kernel
theorem dX12_takeNumber_21 : decode cX12_takeNumber 21 = .ok (.iconst 1, 1) := by decide +kernel
theorem dX12_takeNumber_22 : decode cX12_takeNumber 22 = .ok (.invokevirtual 191, 3) := by decide +kernel
theorem dX12_takeNumber_25 : decode cX12_takeNumber 25 = .ok (.goto 45, 3) := by decide +kernel
theorem dX12_takeNumber_28 : decode cX12_takeNumber 28 = .ok (.aload_n 0, 1) := by decide +kernel
theorem dX12_takeNumber_29 : decode cX12_takeNumber 29 = .ok (.getfield 185, 3) := by decide +kernel
theorem dX12_takeNumber_32 : decode cX12_takeNumber 32 = .ok (.ifCond .ne 38, 3) := by decide +kernel
theorem dX12_takeNumber_35 : decode cX12_takeNumber 35 = .ok (.aload_n 0, 1) := by decide +kernel
theorem dX12_takeNumber_36 : decode cX12_takeNumber 36 = .ok (.getfield 30, 3) := by decide +kernel
theorem dX12_takeNumber_39 : decode cX12_takeNumber 39 = .ok (.aload_n 0, 1) := by decide +kernel
theorem dX12_takeNumber_40 : decode cX12_takeNumber 40 = .ok (.getfield 182, 3) := by decide +kernel
theorem dX12_takeNumber_43 : decode cX12_takeNumber 43 = .ok (.laload, 1) := by decide +kernel
theorem dX12_takeNumber_44 : decode cX12_takeNumber 44 = .ok (.iload_n 1, 1) := by decide +kernel
theorem dX12_takeNumber_45 : decode cX12_takeNumber 45 = .ok (.i2l, 1) := by decide +kernel
theorem dX12_takeNumber_46 : decode cX12_takeNumber 46 = .ok (.lcmp, 1) := by decide +kernel
theorem dX12_takeNumber_47 : decode cX12_takeNumber 47 = .ok (.ifCond .lt 18, 3) := by decide +kernel
theorem dX12_takeNumber_50 : decode cX12_takeNumber 50 = .ok (.aload_n 0, 1) := by decide +kernel
theorem dX12_takeNumber_51 : decode cX12_takeNumber 51 = .ok (.getfield 30, 3) := by decide +kernel
theorem dX12_takeNumber_54 : decode cX12_takeNumber 54 = .ok (.aload_n 0, 1) := by decide +kernel
theorem dX12_takeNumber_55 : decode cX12_takeNumber 55 = .ok (.getfield 182, 3) := by decide +kernel
theorem dX12_takeNumber_58 : decode cX12_takeNumber 58 = .ok (.laload, 1) := by decide +kernel
theorem dX12_takeNumber_59 : decode cX12_takeNumber 59 = .ok (.iload_n 2, 1) := by decide +kernel
theorem dX12_takeNumber_60 : decode cX12_takeNumber 60 = .ok (.i2l, 1) := by decide +kernel
theorem dX12_takeNumber_61 : decode cX12_takeNumber 61 = .ok (.lcmp, 1) := by decide +kernel
theorem dX12_takeNumber_62 : decode cX12_takeNumber 62 = .ok (.ifCond .le 8, 3) := by decide +kernel
theorem dX12_takeNumber_65 : decode cX12_takeNumber 65 = .ok (.aload_n 0, 1) := by decide +kernel
theorem dX12_takeNumber_66 : decode cX12_takeNumber 66 = .ok (.iconst 4, 1) := by decide +kernel
theorem dX12_takeNumber_67 : decode cX12_takeNumber 67 = .ok (.invokevirtual 191, 3) := by decide +kernel
theorem dX12_takeNumber_70 : decode cX12_takeNumber 70 = .ok (.aload_n 0, 1) := by decide +kernel
theorem dX12_takeNumber_71 : decode cX12_takeNumber 71 = .ok (.getfield 185, 3) := by decide +kernel
theorem dX12_takeNumber_74 : decode cX12_takeNumber 74 = .ok (.ifCond .le 5, 3) := by decide +kernel
theorem dX12_takeNumber_77 : decode cX12_takeNumber 77 = .ok (.iconst 0, 1) := by decide +kernel
theorem dX12_takeNumber_78 : decode cX12_takeNumber 78 = .ok (.ireturn, 1) := by decide +kernel
theorem dX12_takeNumber_79 : decode cX12_takeNumber 79 = .ok (.aload_n 0, 1) := by decide +kernel
theorem dX12_takeNumber_80 : decode cX12_takeNumber 80 = .ok (.dup, 1) := by decide +kernel
theorem dX12_takeNumber_81 : decode cX12_takeNumber 81 = .ok (.getfield 182, 3) := by decide +kernel
theorem dX12_takeNumber_84 : decode cX12_takeNumber 84 = .ok (.iconst 1, 1) := by decide +kernel
theorem dX12_takeNumber_85 : decode cX12_takeNumber 85 = .ok (.iadd, 1) := by decide +kernel
theorem dX12_takeNumber_86 : decode cX12_takeNumber 86 = .ok (.putfield 182, 3) := by decide +kernel
theorem dX12_takeNumber_89 : decode cX12_takeNumber 89 = .ok (.aload_n 0, 1) := by decide +kernel
theorem dX12_takeNumber_90 : decode cX12_takeNumber 90 = .ok (.getfield 30, 3) := by decide +kernel
theorem dX12_takeNumber_93 : decode cX12_takeNumber 93 = .ok (.aload_n 0, 1) := by decide +kernel
theorem dX12_takeNumber_94 : decode cX12_takeNumber 94 = .ok (.getfield 182, 3) := by decide +kernel
theorem dX12_takeNumber_97 : decode cX12_takeNumber 97 = .ok (.iconst 1, 1) := by decide +kernel
theorem dX12_takeNumber_98 : decode cX12_takeNumber 98 = .ok (.isub, 1) := by decide +kernel
theorem dX12_takeNumber_99 : decode cX12_takeNumber 99 = .ok (.laload, 1) := by decide +kernel
theorem dX12_takeNumber_100 : decode cX12_takeNumber 100 = .ok (.l2i, 1) := by decide +kernel
theorem dX12_takeNumber_101 : decode cX12_takeNumber 101 = .ok (.ireturn, 1) := by decide +kernel
theorem dX12_takeSign_0 : decode cX12_takeSign 0 = .ok (.aload_n 0, 1) := by decide +kernel
theorem dX12_takeSign_1 : decode cX12_takeSign 1 = .ok (.iload_n 1, 1) := by decide +kernel
theorem dX12_takeSign_2 : decode cX12_takeSign 2 = .ok (.invokevirtual 188, 3) := by decide +kernel
theorem dX12_takeSign_5 : decode cX12_takeSign 5 = .ok (.ifCond .eq 16, 3) := by decide +kernel
theorem dX12_takeSign_8 : decode cX12_takeSign 8 = .ok (.aload_n 0, 1) := by decide +kernel
theorem dX12_takeSign_9 : decode cX12_takeSign 9 = .ok (.dup, 1) := by decide +kernel
theorem dX12_takeSign_10 : decode cX12_takeSign 10 = .ok (.getfield 182, 3) := by decide +kernel
theorem dX12_takeSign_13 : decode cX12_takeSign 13 = .ok (.iconst 1, 1) := by decide +kernel
theorem dX12_takeSign_14 : decode cX12_takeSign 14 = .ok (.iadd, 1) := by decide +kernel
theorem dX12_takeSign_15 : decode cX12_takeSign 15 = .ok (.putfield 182, 3) := by decide +kernel
theorem dX12_takeSign_18 : decode cX12_takeSign 18 = .ok (.goto 8, 3) := by decide +kernel
theorem dX12_takeSign_21 : decode cX12_takeSign 21 = .ok (.aload_n 0, 1) := by decide +kernel
theorem dX12_takeSign_22 : decode cX12_takeSign 22 = .ok (.iconst 1, 1) := by decide +kernel
theorem dX12_takeSign_23 : decode cX12_takeSign 23 = .ok (.invokevirtual 191, 3) := by decide +kernel
theorem dX12_takeSign_26 : decode cX12_takeSign 26 = .ok (.return_, 1) := by decide +kernel
theorem dX12_nameAt_0 : decode cX12_nameAt 0 = .ok (.iconst (-1), 1) := by decide +kernel
theorem dX12_nameAt_1 : decode cX12_nameAt 1 = .ok (.istore_n 3, 1) := by decide +kernel
theorem dX12_nameAt_2 : decode cX12_nameAt 2 = .ok (.iconst 0, 1) := by decide +kernel
theorem dX12_nameAt_3 : decode cX12_nameAt 3 = .ok (.istore 4, 2) := by decide +kernel
theorem dX12_nameAt_5 : decode cX12_nameAt 5 = .ok (.iload 4, 2) := by decide +kernel
theorem dX12_nameAt_7 : decode cX12_nameAt 7 = .ok (.iload_n 2, 1) := by decide +kernel
theorem dX12_nameAt_8 : decode cX12_nameAt 8 = .ok (.if_icmp .ge 38, 3) := by decide +kernel
theorem dX12_nameAt_11 : decode cX12_nameAt 11 = .ok (.aload_n 0, 1) := by decide +kernel
theorem dX12_nameAt_12 : decode cX12_nameAt 12 = .ok (.getfield 88, 3) := by decide +kernel
theorem dX12_nameAt_15 : decode cX12_nameAt 15 = .ok (.iload_n 1, 1) := by decide +kernel
theorem dX12_nameAt_16 : decode cX12_nameAt 16 = .ok (.iload 4, 2) := by decide +kernel
theorem dX12_nameAt_18 : decode cX12_nameAt 18 = .ok (.iadd, 1) := by decide +kernel
theorem dX12_nameAt_19 : decode cX12_nameAt 19 = .ok (.laload, 1) := by decide +kernel
theorem dX12_nameAt_20 : decode cX12_nameAt 20 = .ok (.aload_n 0, 1) := by decide +kernel
theorem dX12_nameAt_21 : decode cX12_nameAt 21 = .ok (.getfield 30, 3) := by decide +kernel
theorem dX12_nameAt_24 : decode cX12_nameAt 24 = .ok (.aload_n 0, 1) := by decide +kernel
theorem dX12_nameAt_25 : decode cX12_nameAt 25 = .ok (.getfield 182, 3) := by decide +kernel
theorem dX12_nameAt_28 : decode cX12_nameAt 28 = .ok (.laload, 1) := by decide +kernel
theorem dX12_nameAt_29 : decode cX12_nameAt 29 = .ok (.lcmp, 1) := by decide +kernel
theorem dX12_nameAt_30 : decode cX12_nameAt 30 = .ok (.ifCond .ne 8, 3) := by decide +kernel
theorem dX12_nameAt_33 : decode cX12_nameAt 33 = .ok (.iload 4, 2) := by decide +kernel
theorem dX12_nameAt_35 : decode cX12_nameAt 35 = .ok (.goto 4, 3) := by decide +kernel
theorem dX12_nameAt_38 : decode cX12_nameAt 38 = .ok (.iload_n 3, 1) := by decide +kernel
theorem dX12_nameAt_39 : decode cX12_nameAt 39 = .ok (.istore_n 3, 1) := by decide +kernel
theorem dX12_nameAt_40 : decode cX12_nameAt 40 = .ok (.iinc 4 1, 3) := by decide +kernel
theorem dX12_nameAt_43 : decode cX12_nameAt 43 = .ok (.goto (-38), 3) := by decide +kernel
theorem dX12_nameAt_46 : decode cX12_nameAt 46 = .ok (.iload_n 3, 1) := by decide +kernel
theorem dX12_nameAt_47 : decode cX12_nameAt 47 = .ok (.ireturn, 1) := by decide +kernel
theorem dX12_takeTold_0 : decode cX12_takeTold 0 = .ok (.aload_n 0, 1) := by decide +kernel
theorem dX12_takeTold_1 : decode cX12_takeTold 1 = .ok (.getfield 185, 3) := by decide +kernel
theorem dX12_takeTold_4 : decode cX12_takeTold 4 = .ok (.ifCond .ne 15, 3) := by decide +kernel
theorem dX12_takeTold_7 : decode cX12_takeTold 7 = .ok (.aload_n 0, 1) := by decide +kernel
theorem dX12_takeTold_8 : decode cX12_takeTold 8 = .ok (.invokevirtual 204, 3) := by decide +kernel
theorem dX12_takeTold_11 : decode cX12_takeTold 11 = .ok (.ifCond .ne 8, 3) := by decide +kernel
theorem dX12_takeTold_14 : decode cX12_takeTold 14 = .ok (.aload_n 0, 1) := by decide +kernel
theorem dX12_takeTold_15 : decode cX12_takeTold 15 = .ok (.iconst 1, 1) := by decide +kernel
theorem dX12_takeTold_16 : decode cX12_takeTold 16 = .ok (.invokevirtual 191, 3) := by decide +kernel
theorem dX12_takeTold_19 : decode cX12_takeTold 19 = .ok (.aload_n 0, 1) := by decide +kernel
theorem dX12_takeTold_20 : decode cX12_takeTold 20 = .ok (.getfield 185, 3) := by decide +kernel
theorem dX12_takeTold_23 : decode cX12_takeTold 23 = .ok (.ifCond .le 7, 3) := by decide +kernel
theorem dX12_takeTold_26 : decode cX12_takeTold 26 = .ok (.iconst (-1), 1) := by decide +kernel
theorem dX12_takeTold_27 : decode cX12_takeTold 27 = .ok (.goto 9, 3) := by decide +kernel
theorem dX12_takeTold_30 : decode cX12_takeTold 30 = .ok (.aload_n 0, 1) := by decide +kernel
theorem dX12_takeTold_31 : decode cX12_takeTold 31 = .ok (.iload_n 1, 1) := by decide +kernel
theorem dX12_takeTold_32 : decode cX12_takeTold 32 = .ok (.iload_n 2, 1) := by decide +kernel
theorem dX12_takeTold_33 : decode cX12_takeTold 33 = .ok (.invokevirtual 208, 3) := by decide +kernel
theorem dX12_takeTold_36 : decode cX12_takeTold 36 = .ok (.istore_n 3, 1) := by decide +kernel
theorem dX12_takeTold_37 : decode cX12_takeTold 37 = .ok (.aload_n 0, 1) := by decide +kernel
theorem dX12_takeTold_38 : decode cX12_takeTold 38 = .ok (.getfield 185, 3) := by decide +kernel
theorem dX12_takeTold_41 : decode cX12_takeTold 41 = .ok (.ifCond .ne 12, 3) := by decide +kernel
theorem dX12_takeTold_44 : decode cX12_takeTold 44 = .ok (.iload_n 3, 1) := by decide +kernel
theorem dX12_takeTold_45 : decode cX12_takeTold 45 = .ok (.ifCond .ge 8, 3) := by decide +kernel
theorem dX12_takeTold_48 : decode cX12_takeTold 48 = .ok (.aload_n 0, 1) := by decide +kernel
theorem dX12_takeTold_49 : decode cX12_takeTold 49 = .ok (.iconst 2, 1) := by decide +kernel
theorem dX12_takeTold_50 : decode cX12_takeTold 50 = .ok (.invokevirtual 191, 3) := by decide +kernel
theorem dX12_takeTold_53 : decode cX12_takeTold 53 = .ok (.aload_n 0, 1) := by decide +kernel
theorem dX12_takeTold_54 : decode cX12_takeTold 54 = .ok (.dup, 1) := by decide +kernel
theorem dX12_takeTold_55 : decode cX12_takeTold 55 = .ok (.getfield 182, 3) := by decide +kernel
theorem dX12_takeTold_58 : decode cX12_takeTold 58 = .ok (.aload_n 0, 1) := by decide +kernel
theorem dX12_takeTold_59 : decode cX12_takeTold 59 = .ok (.getfield 185, 3) := by decide +kernel
theorem dX12_takeTold_62 : decode cX12_takeTold 62 = .ok (.ifCond .le 7, 3) := by decide +kernel
theorem dX12_takeTold_65 : decode cX12_takeTold 65 = .ok (.iconst 0, 1) := by decide +kernel
theorem dX12_takeTold_66 : decode cX12_takeTold 66 = .ok (.goto 4, 3) := by decide +kernel
theorem dX12_takeTold_69 : decode cX12_takeTold 69 = .ok (.iconst 1, 1) := by decide +kernel
theorem dX12_takeTold_70 : decode cX12_takeTold 70 = .ok (.iadd, 1) := by decide +kernel
theorem dX12_takeTold_71 : decode cX12_takeTold 71 = .ok (.putfield 182, 3) := by decide +kernel
theorem dX12_takeTold_74 : decode cX12_takeTold 74 = .ok (.aload_n 0, 1) := by decide +kernel
theorem dX12_takeTold_75 : decode cX12_takeTold 75 = .ok (.getfield 185, 3) := by decide +kernel
theorem dX12_takeTold_78 : decode cX12_takeTold 78 = .ok (.ifCond .le 7, 3) := by decide +kernel
theorem dX12_takeTold_81 : decode cX12_takeTold 81 = .ok (.iconst 0, 1) := by decide +kernel
theorem dX12_takeTold_82 : decode cX12_takeTold 82 = .ok (.goto 4, 3) := by decide +kernel
theorem dX12_takeTold_85 : decode cX12_takeTold 85 = .ok (.iload_n 3, 1) := by decide +kernel
theorem dX12_takeTold_86 : decode cX12_takeTold 86 = .ok (.ireturn, 1) := by decide +kernel
theorem dX12_emit_0 : decode cX12_emit 0 = .ok (.aload_n 0, 1) := by decide +kernel
theorem dX12_emit_1 : decode cX12_emit 1 = .ok (.getfield 85, 3) := by decide +kernel
theorem dX12_emit_4 : decode cX12_emit 4 = .ok (.sipush 1100, 3) := by decide +kernel
theorem dX12_emit_7 : decode cX12_emit 7 = .ok (.aload_n 0, 1) := by decide +kernel
theorem dX12_emit_8 : decode cX12_emit 8 = .ok (.getfield 214, 3) := by decide +kernel
theorem dX12_emit_11 : decode cX12_emit 11 = .ok (.iadd, 1) := by decide +kernel
theorem dX12_emit_12 : decode cX12_emit 12 = .ok (.iload_n 1, 1) := by decide +kernel
theorem dX12_emit_13 : decode cX12_emit 13 = .ok (.bipush 16, 2) := by decide +kernel
theorem dX12_emit_15 : decode cX12_emit 15 = .ok (.iload_n 2, 1) := by decide +kernel
theorem dX12_emit_16 : decode cX12_emit 16 = .ok (.imul, 1) := by decide +kernel
theorem dX12_emit_17 : decode cX12_emit 17 = .ok (.iadd, 1) := by decide +kernel
theorem dX12_emit_18 : decode cX12_emit 18 = .ok (.iastore, 1) := by decide +kernel
theorem dX12_emit_19 : decode cX12_emit 19 = .ok (.aload_n 0, 1) := by decide +kernel
theorem dX12_emit_20 : decode cX12_emit 20 = .ok (.dup, 1) := by decide +kernel
theorem dX12_emit_21 : decode cX12_emit 21 = .ok (.getfield 214, 3) := by decide +kernel
theorem dX12_emit_24 : decode cX12_emit 24 = .ok (.iconst 1, 1) := by decide +kernel
theorem dX12_emit_25 : decode cX12_emit 25 = .ok (.iadd, 1) := by decide +kernel
theorem dX12_emit_26 : decode cX12_emit 26 = .ok (.putfield 214, 3) := by decide +kernel
theorem dX12_emit_29 : decode cX12_emit 29 = .ok (.return_, 1) := by decide +kernel
theorem dX12_hasSign_0 : decode cX12_hasSign 0 = .ok (.aload_n 0, 1) := by decide +kernel
theorem dX12_hasSign_1 : decode cX12_hasSign 1 = .ok (.iload_n 1, 1) := by decide +kernel
theorem dX12_hasSign_2 : decode cX12_hasSign 2 = .ok (.invokevirtual 188, 3) := by decide +kernel
theorem dX12_hasSign_5 : decode cX12_hasSign 5 = .ok (.istore_n 2, 1) := by decide +kernel
theorem dX12_hasSign_6 : decode cX12_hasSign 6 = .ok (.aload_n 0, 1) := by decide +kernel
theorem dX12_hasSign_7 : decode cX12_hasSign 7 = .ok (.dup, 1) := by decide +kernel
theorem dX12_hasSign_8 : decode cX12_hasSign 8 = .ok (.getfield 182, 3) := by decide +kernel
theorem dX12_hasSign_11 : decode cX12_hasSign 11 = .ok (.iload_n 2, 1) := by decide +kernel
theorem dX12_hasSign_12 : decode cX12_hasSign 12 = .ok (.ifCond .eq 7, 3) := by decide +kernel
theorem dX12_hasSign_15 : decode cX12_hasSign 15 = .ok (.iconst 1, 1) := by decide +kernel
theorem dX12_hasSign_16 : decode cX12_hasSign 16 = .ok (.goto 4, 3) := by decide +kernel
theorem dX12_hasSign_19 : decode cX12_hasSign 19 = .ok (.iconst 0, 1) := by decide +kernel
theorem dX12_hasSign_20 : decode cX12_hasSign 20 = .ok (.iadd, 1) := by decide +kernel
theorem dX12_hasSign_21 : decode cX12_hasSign 21 = .ok (.putfield 182, 3) := by decide +kernel
theorem dX12_hasSign_24 : decode cX12_hasSign 24 = .ok (.iload_n 2, 1) := by decide +kernel
theorem dX12_hasSign_25 : decode cX12_hasSign 25 = .ok (.ireturn, 1) := by decide +kernel
theorem dX12_hasWord_0 : decode cX12_hasWord 0 = .ok (.aload_n 0, 1) := by decide +kernel
theorem dX12_hasWord_1 : decode cX12_hasWord 1 = .ok (.iload_n 1, 1) := by decide +kernel
theorem dX12_hasWord_2 : decode cX12_hasWord 2 = .ok (.invokevirtual 194, 3) := by decide +kernel
theorem dX12_hasWord_5 : decode cX12_hasWord 5 = .ok (.istore_n 2, 1) := by decide +kernel
theorem dX12_hasWord_6 : decode cX12_hasWord 6 = .ok (.aload_n 0, 1) := by decide +kernel
theorem dX12_hasWord_7 : decode cX12_hasWord 7 = .ok (.dup, 1) := by decide +kernel
theorem dX12_hasWord_8 : decode cX12_hasWord 8 = .ok (.getfield 182, 3) := by decide +kernel
theorem dX12_hasWord_11 : decode cX12_hasWord 11 = .ok (.iload_n 2, 1) := by decide +kernel
theorem dX12_hasWord_12 : decode cX12_hasWord 12 = .ok (.ifCond .eq 7, 3) := by decide +kernel
theorem dX12_hasWord_15 : decode cX12_hasWord 15 = .ok (.iconst 1, 1) := by decide +kernel
theorem dX12_hasWord_16 : decode cX12_hasWord 16 = .ok (.goto 4, 3) := by decide +kernel
theorem dX12_hasWord_19 : decode cX12_hasWord 19 = .ok (.iconst 0, 1) := by decide +kernel
theorem dX12_hasWord_20 : decode cX12_hasWord 20 = .ok (.iadd, 1) := by decide +kernel
theorem dX12_hasWord_21 : decode cX12_hasWord 21 = .ok (.putfield 182, 3) := by decide +kernel
theorem dX12_hasWord_24 : decode cX12_hasWord 24 = .ok (.iload_n 2, 1) := by decide +kernel
theorem dX12_hasWord_25 : decode cX12_hasWord 25 = .ok (.ireturn, 1) := by decide +kernel
theorem zq_141 : Cond.fieldLink RX12 24 "ForeignKnitModel" "sort" "[I" ∈ zG := List.mem_of_getElem? (i := 141) (by decide +kernel)
theorem zq_142 : Cond.fieldLink RX12 27 "ForeignKnitModel" "place" "[I" ∈ zG := List.mem_of_getElem? (i := 142) (by decide +kernel)
theorem zq_143 : Cond.fieldLink RX12 30 "ForeignKnitModel" "value" "[J" ∈ zG := List.mem_of_getElem? (i := 143) (by decide +kernel)
theorem zq_165 : Cond.fieldLink RX12 76 "ForeignKnitModel" "words" "[J" ∈ zG := List.mem_of_getElem? (i := 165) (by decide +kernel)
theorem zq_168 : Cond.fieldLink RX12 85 "ForeignKnitModel" "code" "[I" ∈ zG := List.mem_of_getElem? (i := 168) (by decide +kernel)
theorem zq_169 : Cond.fieldLink RX12 88 "ForeignKnitModel" "names" "[J" ∈ zG := List.mem_of_getElem? (i := 169) (by decide +kernel)
theorem zq_170 : Cond.fieldLink RX12 91 "ForeignKnitModel" "line" "[I" ∈ zG := List.mem_of_getElem? (i := 170) (by decide +kernel)
theorem zq_584 : Cond.fieldLink RX12 214 "ForeignKnitModel" "codes" "I" ∈ zG := List.mem_of_getElem? (i := 584) (by decide +kernel)
theorem zq_585 : Cond.fieldLink RX12 185 "ForeignKnitModel" "fault" "I" ∈ zG := List.mem_of_getElem? (i := 585) (by decide +kernel)
theorem zq_586 : Cond.fieldLink RX12 182 "ForeignKnitModel" "at" "I" ∈ zG := List.mem_of_getElem? (i := 586) (by decide +kernel)
theorem zq_611 : Cond.methodLink RX12 194 yX12_isWord ∈ zG := List.mem_of_getElem? (i := 611) (by decide +kernel)
theorem zq_619 : Cond.methodLink RX12 191 yX12_wrong ∈ zG := List.mem_of_getElem? (i := 619) (by decide +kernel)
theorem zq_623 : Cond.methodLink RX12 204 yX12_isName ∈ zG := List.mem_of_getElem? (i := 623) (by decide +kernel)
theorem zq_627 : Cond.methodLink RX12 200 yX12_wordHere ∈ zG := List.mem_of_getElem? (i := 627) (by decide +kernel)
theorem zq_631 : Cond.methodLink RX12 208 yX12_nameAt ∈ zG := List.mem_of_getElem? (i := 631) (by decide +kernel)
theorem zq_643 : Cond.fieldLink RX12 248 "ForeignKnitModel" "long0" "I" ∈ zG := List.mem_of_getElem? (i := 643) (by decide +kernel)
theorem zq_648 : Cond.methodLink RX12 188 yX12_isSign ∈ zG := List.mem_of_getElem? (i := 648) (by decide +kernel)
theorem zq_664 : Cond.methodLink RX12 260 yX12_puts ∈ zG := List.mem_of_getElem? (i := 664) (by decide +kernel)
theorem zfd_X12_24 : zFd RX12 24 12 4 := ⟨_, rfl, by decide, zq_141⟩
theorem zfd_X12_27 : zFd RX12 27 12 5 := ⟨_, rfl, by decide, zq_142⟩
theorem zfd_X12_30 : zFd RX12 30 12 6 := ⟨_, rfl, by decide, zq_143⟩
theorem zfd_X12_76 : zFd RX12 76 12 9 := ⟨_, rfl, by decide, zq_165⟩
theorem zfd_X12_85 : zFd RX12 85 12 12 := ⟨_, rfl, by decide, zq_168⟩
theorem zfd_X12_88 : zFd RX12 88 12 14 := ⟨_, rfl, by decide, zq_169⟩
theorem zfd_X12_91 : zFd RX12 91 12 15 := ⟨_, rfl, by decide, zq_170⟩
theorem zfd_X12_182 : zFd RX12 182 12 7 := ⟨_, rfl, by decide, zq_586⟩
theorem zfd_X12_185 : zFd RX12 185 12 8 := ⟨_, rfl, by decide, zq_585⟩
theorem zfd_X12_214 : zFd RX12 214 12 13 := ⟨_, rfl, by decide, zq_584⟩
theorem zfd_X12_248 : zFd RX12 248 12 16 := ⟨_, rfl, by decide, zq_643⟩
theorem zfp_X12_182 : zFp RX12 182 12 7 .int := ⟨_, rfl, by decide, zq_586, rfl, by decide +kernel⟩
theorem zfp_X12_185 : zFp RX12 185 12 8 .int := ⟨_, rfl, by decide, zq_585, rfl, by decide +kernel⟩
theorem zfp_X12_214 : zFp RX12 214 12 13 .int := ⟨_, rfl, by decide, zq_584, rfl, by decide +kernel⟩
theorem zfp_X12_248 : zFp RX12 248 12 16 .int := ⟨_, rfl, by decide, zq_643, rfl, by decide +kernel⟩
theorem zq_626 : Cond.code yX12_isName cX12_isName 1 (some .boolean) ∈ zG := List.mem_of_getElem? (i := 626) (by decide +kernel)
theorem zq_624 : Cond.instanceMethod yX12_isName ∈ zG := List.mem_of_getElem? (i := 624) (by decide +kernel)
theorem zq_625 : Cond.selects RX12 yX12_isName yX12_isName ∈ zG := List.mem_of_getElem? (i := 625) (by decide +kernel)
theorem zq_5 : Cond.initialized RX12 ∈ zG := List.mem_of_getElem? (i := 5) (by decide +kernel)
theorem zy_X12_isName : zyV yX12_isName cX12_isName 1 (some .boolean) 0 := ⟨zq_626, zq_624, zq_625, zq_5, ⟨by decide, by decide⟩, by decide +kernel, by decide⟩
theorem zq_651 : Cond.code yX12_isSign cX12_isSign 2 (some .boolean) ∈ zG := List.mem_of_getElem? (i := 651) (by decide +kernel)
theorem zq_649 : Cond.instanceMethod yX12_isSign ∈ zG := List.mem_of_getElem? (i := 649) (by decide +kernel)
theorem zq_650 : Cond.selects RX12 yX12_isSign yX12_isSign ∈ zG := List.mem_of_getElem? (i := 650) (by decide +kernel)
theorem zy_X12_isSign : zyV yX12_isSign cX12_isSign 2 (some .boolean) 1 := ⟨zq_651, zq_649, zq_650, zq_5, ⟨by decide, by decide⟩, by decide +kernel, by decide⟩
theorem zq_614 : Cond.code yX12_isWord cX12_isWord 2 (some .boolean) ∈ zG := List.mem_of_getElem? (i := 614) (by decide +kernel)
theorem zq_612 : Cond.instanceMethod yX12_isWord ∈ zG := List.mem_of_getElem? (i := 612) (by decide +kernel)
theorem zq_613 : Cond.selects RX12 yX12_isWord yX12_isWord ∈ zG := List.mem_of_getElem? (i := 613) (by decide +kernel)
theorem zy_X12_isWord : zyV yX12_isWord cX12_isWord 2 (some .boolean) 1 := ⟨zq_614, zq_612, zq_613, zq_5, ⟨by decide, by decide⟩, by decide +kernel, by decide⟩
theorem zq_634 : Cond.code yX12_nameAt cX12_nameAt 5 (some .int) ∈ zG := List.mem_of_getElem? (i := 634) (by decide +kernel)
theorem zq_632 : Cond.instanceMethod yX12_nameAt ∈ zG := List.mem_of_getElem? (i := 632) (by decide +kernel)
theorem zq_633 : Cond.selects RX12 yX12_nameAt yX12_nameAt ∈ zG := List.mem_of_getElem? (i := 633) (by decide +kernel)
theorem zy_X12_nameAt : zyV yX12_nameAt cX12_nameAt 5 (some .int) 2 := ⟨zq_634, zq_632, zq_633, zq_5, ⟨by decide, by decide⟩, by decide +kernel, by decide⟩
theorem zq_667 : Cond.code yX12_puts cX12_puts 2 none ∈ zG := List.mem_of_getElem? (i := 667) (by decide +kernel)
theorem zq_665 : Cond.instanceMethod yX12_puts ∈ zG := List.mem_of_getElem? (i := 665) (by decide +kernel)
theorem zq_666 : Cond.selects RX12 yX12_puts yX12_puts ∈ zG := List.mem_of_getElem? (i := 666) (by decide +kernel)
theorem zy_X12_puts : zyV yX12_puts cX12_puts 2 none 1 := ⟨zq_667, zq_665, zq_666, zq_5, ⟨by decide, by decide⟩, by decide +kernel, by decide⟩
theorem zq_630 : Cond.code yX12_wordHere cX12_wordHere 5 (some .int) ∈ zG := List.mem_of_getElem? (i := 630) (by decide +kernel)
theorem zq_628 : Cond.instanceMethod yX12_wordHere ∈ zG := List.mem_of_getElem? (i := 628) (by decide +kernel)
theorem zq_629 : Cond.selects RX12 yX12_wordHere yX12_wordHere ∈ zG := List.mem_of_getElem? (i := 629) (by decide +kernel)
theorem zy_X12_wordHere : zyV yX12_wordHere cX12_wordHere 5 (some .int) 2 := ⟨zq_630, zq_628, zq_629, zq_5, ⟨by decide, by decide⟩, by decide +kernel, by decide⟩
theorem zq_622 : Cond.code yX12_wrong cX12_wrong 2 none ∈ zG := List.mem_of_getElem? (i := 622) (by decide +kernel)
theorem zq_620 : Cond.instanceMethod yX12_wrong ∈ zG := List.mem_of_getElem? (i := 620) (by decide +kernel)
theorem zq_621 : Cond.selects RX12 yX12_wrong yX12_wrong ∈ zG := List.mem_of_getElem? (i := 621) (by decide +kernel)
theorem zy_X12_wrong : zyV yX12_wrong cX12_wrong 2 none 1 := ⟨zq_622, zq_620, zq_621, zq_5, ⟨by decide, by decide⟩, by decide +kernel, by decide⟩
theorem zf_200 : zfix 200 = true := by decide +kernel
theorem zs_200 : zsh 200 = 12 := by decide +kernel
theorem zl_200 : zln 200 = 0 := by decide +kernel
theorem zf_204 : zfix 204 = true := by decide +kernel
theorem zs_204 : zsh 204 = 20 := by decide +kernel
theorem zl_204 : zln 204 = 1002 := by decide +kernel
theorem zf_205 : zfix 205 = true := by decide +kernel
theorem zs_205 : zsh 205 = 20 := by decide +kernel
theorem zl_205 : zln 205 = 1002 := by decide +kernel
theorem zf_206 : zfix 206 = true := by decide +kernel
theorem zs_206 : zsh 206 = 21 := by decide +kernel
theorem zl_206 : zln 206 = 1002 := by decide +kernel
theorem zf_209 : zfix 209 = true := by decide +kernel
theorem zs_209 : zsh 209 = 21 := by decide +kernel
theorem zl_209 : zln 209 = 21 := by decide +kernel
theorem zf_212 : zfix 212 = true := by decide +kernel
theorem zs_212 : zsh 212 = 20 := by decide +kernel
theorem zl_212 : zln 212 = 2200 := by decide +kernel
theorem zf_214 : zfix 214 = true := by decide +kernel
theorem zs_214 : zsh 214 = 21 := by decide +kernel
theorem zl_214 : zln 214 = 8 := by decide +kernel
theorem zf_215 : zfix 215 = true := by decide +kernel
theorem zs_215 : zsh 215 = 20 := by decide +kernel
theorem zl_215 : zln 215 = 61 := by decide +kernel
section ZM
variable {p : Program} {l : Launch} {e : Env} {R : Room} {s : State} {m : MethodId} {args : Array Value} {below : List Frame} {meth : Method} {c : Code} {cells slots : Nat} {Q : State → Prop} {D : va_G} {dA : Nat → ClassId} {ad ad0 : Nat → Nat} {al al0 : Nat → Prop}
/-! X12_isWord -/
def fX12_isWord (x1 : Int32) (w : zW) (k : Int32 → zW → Prop) : Prop :=
  ((¬ (gI w 200 8) = 0 →
    k (0 : Int32) w) ∧
   ((gI w 200 8) = 0 →
    vp_in (gI w 200 7) 1002 ∧ 
    ((¬ (gI w 204 (gI w 200 7).toNatClampNeg) = (1 : Int32) →
      k (0 : Int32) w) ∧
     ((gI w 204 (gI w 200 7).toNatClampNeg) = (1 : Int32) →
      vp_in x1 21 ∧ 
      ∀ v5 : Int32, v5 = (if ¬ (lg_cmp (gL w 206 (gI w 200 7).toNatClampNeg) (gL w 209 x1.toNatClampNeg)) = 0 then (0 : Int32) else (1 : Int32)) →
      zb01 v5 ∧ k v5 w))))
set_option maxHeartbeats 4000000 in
set_option maxRecDepth 100000 in
theorem mX12_isWord {l : Launch} {D : va_G} {dA : Nat → ClassId} {ad : Nat → Nat} {al : Nat → Prop} {w : zW} {k : Int32 → zW → Prop} {x1 : Int32}   (hf : fX12_isWord x1 w k) : zmetI l yX12_isWord cX12_isWord 2 (some .boolean) 0 [.ref (ad 200), .int x1] D dA true ad al w k := by
  refine zmetZ_of (by decide) (Nat.le_of_ble_eq_true rfl) ?_
  intro p e R s m below meth c Q H ls args locs cells slots X hr hQ hR hl
  have hx := X.1
  have hb := X.2.1
  have hml := X.2.2.1
  have hown := X.2.2.2.1
  have hts := X.2.2.2.2.1
  unfold fX12_isWord at hf
  have hl : lv_has ls 2 [(0, .ref (ad 200)), (1, .int x1)] := hl
  refine lv_aload_n hx hb dX12_isWord_0 rfl (lv_at hl 0 rfl) ?_
  refine z_getI X hR (zlit hR zf_200) zs_200 (by decide) zfd_X12_185 rfl dX12_isWord_1 ?_
  refine lv_if_ne (tgt := 43) hx hb dX12_isWord_4 (by decide) (fun c1 => ?_) (fun c1 => ?_)
  · replace hf := hf.1 c1
    refine lv_iconst (v := (0 : Int32)) hx hb dX12_isWord_43 (by decide) ?_
    exact hQ _ _ _ _ _ _ zb01_0 hf hR dX12_isWord_44
  · replace hf := hf.2 c1
    refine lv_aload_n hx hb dX12_isWord_7 rfl (lv_at hl 0 rfl) ?_
    refine z_getS X hR (zlit hR zf_200) zs_200 (by decide) zfd_X12_24 rfl (r := 204) (by decide +kernel) dX12_isWord_8 ?_
    refine lv_aload_n hx hb dX12_isWord_11 rfl (lv_at hl 0 rfl) ?_
    refine z_getI X hR (zlit hR zf_200) zs_200 (by decide) zfd_X12_182 rfl dX12_isWord_12 ?_
    obtain ⟨hb2, hf⟩ := hf
    refine z_iald X hR (zlit hR zf_204) zs_204 zl_204 hb2 dX12_isWord_15 ?_
    refine lv_iconst (v := (1 : Int32)) hx hb dX12_isWord_16 (by decide) ?_
    refine lv_icmp_ne (tgt := 43) hx hb dX12_isWord_17 (by decide) (fun c3 => ?_) (fun c3 => ?_)
    · replace hf := hf.1 c3
      refine lv_iconst (v := (0 : Int32)) hx hb dX12_isWord_43 (by decide) ?_
      exact hQ _ _ _ _ _ _ zb01_0 hf hR dX12_isWord_44
    · replace hf := hf.2 c3
      refine lv_aload_n hx hb dX12_isWord_20 rfl (lv_at hl 0 rfl) ?_
      refine z_getS X hR (zlit hR zf_200) zs_200 (by decide) zfd_X12_30 rfl (r := 206) (by decide +kernel) dX12_isWord_21 ?_
      refine lv_aload_n hx hb dX12_isWord_24 rfl (lv_at hl 0 rfl) ?_
      refine z_getI X hR (zlit hR zf_200) zs_200 (by decide) zfd_X12_182 rfl dX12_isWord_25 ?_
      refine z_lald X hR (zlit hR zf_206) zs_206 zl_206 hb2 dX12_isWord_28 ?_
      refine lv_aload_n hx hb dX12_isWord_29 rfl (lv_at hl 0 rfl) ?_
      refine z_getS X hR (zlit hR zf_200) zs_200 (by decide) zfd_X12_76 rfl (r := 209) (by decide +kernel) dX12_isWord_30 ?_
      refine lv_iload_n hx hb dX12_isWord_33 rfl (lv_at hl 1 rfl) ?_
      obtain ⟨hb4, hf⟩ := hf
      refine z_lald X hR (zlit hR zf_209) zs_209 zl_209 hb4 dX12_isWord_34 ?_
      refine W.lcmp hx hb dX12_isWord_35 ?_
      have kJ5 : ∀ v5 : Int32, v5 = (if ¬ (lg_cmp (gL w 206 (gI w 200 7).toNatClampNeg) (gL w 209 x1.toNatClampNeg)) = 0 then (0 : Int32) else (1 : Int32)) → W p l e R s m args below meth c H locs cells slots Q (F0 m 44 ls (.int v5 :: [])) := by
        intro v5 hv5
        replace hf := hf v5 hv5
        obtain ⟨h01, hf⟩ := hf
        exact hQ _ _ _ _ _ _ h01 hf hR dX12_isWord_44
      refine lv_if_ne (tgt := 43) hx hb dX12_isWord_36 (by decide) (fun c5 => ?_) (fun c5 => ?_)
      · refine lv_iconst (v := (0 : Int32)) hx hb dX12_isWord_43 (by decide) ?_
        exact kJ5 _ (if_pos c5).symm
      · refine lv_iconst (v := (1 : Int32)) hx hb dX12_isWord_39 (by decide) ?_
        refine lv_goto (tgt := 44) hx hb dX12_isWord_40 (by decide) ?_
        exact kJ5 _ (if_neg (fun h9 => h9 c5)).symm
/-! X12_wordHere -/
def fX12_wordHere_L5 (k : Int32 → zW → Prop) : Nat → Int32 → Int32 → Int32 → Int32 → zW → Prop
  | 0 => fun _ _ _ _ _ => False
  | n + 1 => fun x1 x2 x3 x4 w =>
    ((x2 ≤ x4 →
      k x3 w) ∧
     (¬ x2 ≤ x4 →
      fX12_isWord (x1 + x4) w (fun r2 w2 =>
      ∀ v3 : Int32, v3 = (if r2 = 0 then x3 else x4) →
      fX12_wordHere_L5 k n x1 x2 v3 (x4 + (1 : Int32)) w2)))
set_option maxHeartbeats 4000000 in
set_option maxRecDepth 100000 in
theorem mX12_wordHere_L5 {k : Int32 → zW → Prop} (X : zCx p s m args meth c cX12_wordHere 5 RX12 (some .int)) (hr : zRm R 1 cells slots) (hQ : zRetI p l e R s m args below meth c cells slots Q D dA true ad0 al0 ad al cX12_wordHere k)  : ∀ (n : Nat) (x1 : Int32) (x2 : Int32) (x3 : Int32) (x4 : Int32) (w : zW) (H : Heap) (locs : List Loc) (ls : Array Slot), fX12_wordHere_L5 k n x1 x2 x3 x4 w → zSt D dA true ad0 al0 ad al w s H locs → lv_has ls 5 [(0, .ref (ad 200)), (1, .int x1), (2, .int x2), (3, .int x3), (4, .int x4)] → W p l e R s m args below meth c H locs cells slots Q (F0 m 5 ls []) := by
  intro n
  induction n with
  | zero => exact fun _ _ _ _ _ _ _ _ hf => hf.elim
  | succ n ih =>
    intro x1 x2 x3 x4 w H locs ls hf hR hl
    have hx := X.1
    have hb := X.2.1
    have hml := X.2.2.1
    have hown := X.2.2.2.1
    have hts := X.2.2.2.2.1
    rw [fX12_wordHere_L5] at hf
    refine lv_iload hx hb dX12_wordHere_5 (lv_at hl 4 rfl) ?_
    refine lv_iload_n hx hb dX12_wordHere_7 rfl (lv_at hl 2 rfl) ?_
    refine lv_icmp_ge (tgt := 35) hx hb dX12_wordHere_8 (by decide) (fun c1 => ?_) (fun c1 => ?_)
    · replace hf := hf.1 c1
      refine lv_iload_n hx hb dX12_wordHere_35 rfl (lv_at hl 3 rfl) ?_
      exact hQ _ _ _ _ _ _ hf hR dX12_wordHere_36
    · replace hf := hf.2 c1
      refine lv_aload_n hx hb dX12_wordHere_11 rfl (lv_at hl 0 rfl) ?_
      refine lv_iload_n hx hb dX12_wordHere_12 rfl (lv_at hl 1 rfl) ?_
      refine lv_iload hx hb dX12_wordHere_13 (lv_at hl 4 rfl) ?_
      refine lv_iadd hx hb dX12_wordHere_15 ?_
      refine z_callVI (fr1 := 0) (b := 200) (As := [.int (x1 + x4)]) (rest := []) X (hr.le (by decide)) hR zy_X12_isWord zq_611 (zlit hR zf_200) (by rw [zs_200]; rfl) rfl (mX12_isWord  hf) rfl hl (Nat.le_of_ble_eq_true rfl) dX12_wordHere_16 rfl (fun r2 w2 H locs hf hR => ?_)
      have kJ3 : ∀ v3 : Int32, v3 = (if r2 = 0 then x3 else x4) → W p l e R s m args below meth c H locs cells slots Q (F0 m 28 ls (.int v3 :: [])) := by
        intro v3 hv3
        replace hf := hf v3 hv3
        refine lv_istore_n (lv' := [(3, .int v3), (0, .ref (ad 200)), (1, .int x1), (2, .int x2), (4, .int x4)]) hx hb dX12_wordHere_28 rfl hl (by decide) rfl (fun ls hl => ?_)
        refine lv_iinc (v := x4 + (1 : Int32)) (lv' := [(4, .int (x4 + (1 : Int32))), (3, .int v3), (0, .ref (ad 200)), (1, .int x1), (2, .int x2)]) hx hb dX12_wordHere_29 hl (k := 4) rfl rfl (by decide) rfl (fun ls hl => ?_)
        refine lv_goto (tgt := 5) hx hb dX12_wordHere_32 (by decide) ?_
        exact ih x1 x2 v3 (x4 + (1 : Int32)) w2 _ _ _ hf hR (lv_sub hl [2, 3, 4, 1, 0] rfl)
      refine lv_if_eq (tgt := 27) hx hb dX12_wordHere_19 (by decide) (fun c3 => ?_) (fun c3 => ?_)
      · refine lv_iload_n hx hb dX12_wordHere_27 rfl (lv_at hl 3 rfl) ?_
        exact kJ3 _ (if_pos c3).symm
      · refine lv_iload hx hb dX12_wordHere_22 (lv_at hl 4 rfl) ?_
        refine lv_goto (tgt := 28) hx hb dX12_wordHere_24 (by decide) ?_
        exact kJ3 _ (if_neg c3).symm
def fX12_wordHere (x1 : Int32) (x2 : Int32) (w : zW) (k : Int32 → zW → Prop) : Prop :=
  ∃ n9, fX12_wordHere_L5 k n9 x1 x2 (-1 : Int32) (0 : Int32) w
set_option maxHeartbeats 4000000 in
set_option maxRecDepth 100000 in
theorem mX12_wordHere {l : Launch} {D : va_G} {dA : Nat → ClassId} {ad : Nat → Nat} {al : Nat → Prop} {w : zW} {k : Int32 → zW → Prop} {x1 : Int32} {x2 : Int32}   (hf : fX12_wordHere x1 x2 w k) : zmetI l yX12_wordHere cX12_wordHere 5 (some .int) 1 [.ref (ad 200), .int x1, .int x2] D dA true ad al w k := by
  refine zmetI_of (by decide) (Nat.le_of_ble_eq_true rfl) ?_
  intro p e R s m below meth c Q H ls args locs cells slots X hr hQ hR hl
  have hx := X.1
  have hb := X.2.1
  have hml := X.2.2.1
  have hown := X.2.2.2.1
  have hts := X.2.2.2.2.1
  unfold fX12_wordHere at hf
  have hl : lv_has ls 5 [(0, .ref (ad 200)), (1, .int x1), (2, .int x2)] := hl
  refine lv_iconst (v := (-1 : Int32)) hx hb dX12_wordHere_0 (by decide) ?_
  refine lv_istore_n (lv' := [(3, .int (-1 : Int32)), (0, .ref (ad 200)), (1, .int x1), (2, .int x2)]) hx hb dX12_wordHere_1 rfl hl (by decide) rfl (fun ls hl => ?_)
  refine lv_iconst (v := (0 : Int32)) hx hb dX12_wordHere_2 (by decide) ?_
  refine lv_istore (lv' := [(4, .int (0 : Int32)), (3, .int (-1 : Int32)), (0, .ref (ad 200)), (1, .int x1), (2, .int x2)]) hx hb dX12_wordHere_3 hl (by decide) rfl (fun ls hl => ?_)
  obtain ⟨n9, hf⟩ := hf
  exact mX12_wordHere_L5 X hr hQ  n9 x1 x2 (-1 : Int32) (0 : Int32) w _ _ _ hf hR (lv_sub hl [2, 3, 4, 1, 0] rfl)
/-! X12_isName -/
def fX12_isName (w : zW) (k : Int32 → zW → Prop) : Prop :=
  ((¬ (gI w 200 8) = 0 →
    k (0 : Int32) w) ∧
   ((gI w 200 8) = 0 →
    vp_in (gI w 200 7) 1002 ∧ 
    ((¬ (gI w 204 (gI w 200 7).toNatClampNeg) = (1 : Int32) →
      k (0 : Int32) w) ∧
     ((gI w 204 (gI w 200 7).toNatClampNeg) = (1 : Int32) →
      fX12_wordHere (0 : Int32) (17 : Int32) w (fun r4 w4 =>
      ∀ v5 : Int32, v5 = (if 0 ≤ r4 then (0 : Int32) else (1 : Int32)) →
      zb01 v5 ∧ k v5 w4)))))
set_option maxHeartbeats 4000000 in
set_option maxRecDepth 100000 in
theorem mX12_isName {l : Launch} {D : va_G} {dA : Nat → ClassId} {ad : Nat → Nat} {al : Nat → Prop} {w : zW} {k : Int32 → zW → Prop}   (hf : fX12_isName w k) : zmetI l yX12_isName cX12_isName 1 (some .boolean) 2 [.ref (ad 200)] D dA true ad al w k := by
  refine zmetZ_of (by decide) (Nat.le_of_ble_eq_true rfl) ?_
  intro p e R s m below meth c Q H ls args locs cells slots X hr hQ hR hl
  have hx := X.1
  have hb := X.2.1
  have hml := X.2.2.1
  have hown := X.2.2.2.1
  have hts := X.2.2.2.2.1
  unfold fX12_isName at hf
  have hl : lv_has ls 1 [(0, .ref (ad 200))] := hl
  refine lv_aload_n hx hb dX12_isName_0 rfl (lv_at hl 0 rfl) ?_
  refine z_getI X hR (zlit hR zf_200) zs_200 (by decide) zfd_X12_185 rfl dX12_isName_1 ?_
  refine lv_if_ne (tgt := 34) hx hb dX12_isName_4 (by decide) (fun c1 => ?_) (fun c1 => ?_)
  · replace hf := hf.1 c1
    refine lv_iconst (v := (0 : Int32)) hx hb dX12_isName_34 (by decide) ?_
    exact hQ _ _ _ _ _ _ zb01_0 hf hR dX12_isName_35
  · replace hf := hf.2 c1
    refine lv_aload_n hx hb dX12_isName_7 rfl (lv_at hl 0 rfl) ?_
    refine z_getS X hR (zlit hR zf_200) zs_200 (by decide) zfd_X12_24 rfl (r := 204) (by decide +kernel) dX12_isName_8 ?_
    refine lv_aload_n hx hb dX12_isName_11 rfl (lv_at hl 0 rfl) ?_
    refine z_getI X hR (zlit hR zf_200) zs_200 (by decide) zfd_X12_182 rfl dX12_isName_12 ?_
    obtain ⟨hb2, hf⟩ := hf
    refine z_iald X hR (zlit hR zf_204) zs_204 zl_204 hb2 dX12_isName_15 ?_
    refine lv_iconst (v := (1 : Int32)) hx hb dX12_isName_16 (by decide) ?_
    refine lv_icmp_ne (tgt := 34) hx hb dX12_isName_17 (by decide) (fun c3 => ?_) (fun c3 => ?_)
    · replace hf := hf.1 c3
      refine lv_iconst (v := (0 : Int32)) hx hb dX12_isName_34 (by decide) ?_
      exact hQ _ _ _ _ _ _ zb01_0 hf hR dX12_isName_35
    · replace hf := hf.2 c3
      refine lv_aload_n hx hb dX12_isName_20 rfl (lv_at hl 0 rfl) ?_
      refine lv_iconst (v := (0 : Int32)) hx hb dX12_isName_21 (by decide) ?_
      refine lv_bipush (v := (17 : Int32)) hx hb dX12_isName_22 (by decide) ?_
      refine z_callVI (fr1 := 1) (b := 200) (As := [.int (0 : Int32), .int (17 : Int32)]) (rest := []) X (hr.le (by decide)) hR zy_X12_wordHere zq_627 (zlit hR zf_200) (by rw [zs_200]; rfl) rfl (mX12_wordHere  hf) rfl hl (Nat.le_of_ble_eq_true rfl) dX12_isName_24 rfl (fun r4 w4 H locs hf hR => ?_)
      have kJ5 : ∀ v5 : Int32, v5 = (if 0 ≤ r4 then (0 : Int32) else (1 : Int32)) → W p l e R s m args below meth c H locs cells slots Q (F0 m 35 ls (.int v5 :: [])) := by
        intro v5 hv5
        replace hf := hf v5 hv5
        obtain ⟨h01, hf⟩ := hf
        exact hQ _ _ _ _ _ _ h01 hf hR dX12_isName_35
      refine lv_if_ge (tgt := 34) hx hb dX12_isName_27 (by decide) (fun c5 => ?_) (fun c5 => ?_)
      · refine lv_iconst (v := (0 : Int32)) hx hb dX12_isName_34 (by decide) ?_
        exact kJ5 _ (if_pos c5).symm
      · refine lv_iconst (v := (1 : Int32)) hx hb dX12_isName_30 (by decide) ?_
        refine lv_goto (tgt := 35) hx hb dX12_isName_31 (by decide) ?_
        exact kJ5 _ (if_neg c5).symm
/-! X12_isSign -/
def fX12_isSign (x1 : Int32) (w : zW) (k : Int32 → zW → Prop) : Prop :=
  ((¬ (gI w 200 8) = 0 →
    k (0 : Int32) w) ∧
   ((gI w 200 8) = 0 →
    vp_in (gI w 200 7) 1002 ∧ 
    ((¬ (gI w 204 (gI w 200 7).toNatClampNeg) = (3 : Int32) →
      k (0 : Int32) w) ∧
     ((gI w 204 (gI w 200 7).toNatClampNeg) = (3 : Int32) →
      ∀ v4 : Int32, v4 = (if ¬ (lg_cmp (gL w 206 (gI w 200 7).toNatClampNeg) x1.toInt64) = 0 then (0 : Int32) else (1 : Int32)) →
      zb01 v4 ∧ k v4 w))))
set_option maxHeartbeats 4000000 in
set_option maxRecDepth 100000 in
theorem mX12_isSign {l : Launch} {D : va_G} {dA : Nat → ClassId} {ad : Nat → Nat} {al : Nat → Prop} {w : zW} {k : Int32 → zW → Prop} {x1 : Int32}   (hf : fX12_isSign x1 w k) : zmetI l yX12_isSign cX12_isSign 2 (some .boolean) 0 [.ref (ad 200), .int x1] D dA true ad al w k := by
  refine zmetZ_of (by decide) (Nat.le_of_ble_eq_true rfl) ?_
  intro p e R s m below meth c Q H ls args locs cells slots X hr hQ hR hl
  have hx := X.1
  have hb := X.2.1
  have hml := X.2.2.1
  have hown := X.2.2.2.1
  have hts := X.2.2.2.2.1
  unfold fX12_isSign at hf
  have hl : lv_has ls 2 [(0, .ref (ad 200)), (1, .int x1)] := hl
  refine lv_aload_n hx hb dX12_isSign_0 rfl (lv_at hl 0 rfl) ?_
  refine z_getI X hR (zlit hR zf_200) zs_200 (by decide) zfd_X12_185 rfl dX12_isSign_1 ?_
  refine lv_if_ne (tgt := 39) hx hb dX12_isSign_4 (by decide) (fun c1 => ?_) (fun c1 => ?_)
  · replace hf := hf.1 c1
    refine lv_iconst (v := (0 : Int32)) hx hb dX12_isSign_39 (by decide) ?_
    exact hQ _ _ _ _ _ _ zb01_0 hf hR dX12_isSign_40
  · replace hf := hf.2 c1
    refine lv_aload_n hx hb dX12_isSign_7 rfl (lv_at hl 0 rfl) ?_
    refine z_getS X hR (zlit hR zf_200) zs_200 (by decide) zfd_X12_24 rfl (r := 204) (by decide +kernel) dX12_isSign_8 ?_
    refine lv_aload_n hx hb dX12_isSign_11 rfl (lv_at hl 0 rfl) ?_
    refine z_getI X hR (zlit hR zf_200) zs_200 (by decide) zfd_X12_182 rfl dX12_isSign_12 ?_
    obtain ⟨hb2, hf⟩ := hf
    refine z_iald X hR (zlit hR zf_204) zs_204 zl_204 hb2 dX12_isSign_15 ?_
    refine lv_iconst (v := (3 : Int32)) hx hb dX12_isSign_16 (by decide) ?_
    refine lv_icmp_ne (tgt := 39) hx hb dX12_isSign_17 (by decide) (fun c3 => ?_) (fun c3 => ?_)
    · replace hf := hf.1 c3
      refine lv_iconst (v := (0 : Int32)) hx hb dX12_isSign_39 (by decide) ?_
      exact hQ _ _ _ _ _ _ zb01_0 hf hR dX12_isSign_40
    · replace hf := hf.2 c3
      refine lv_aload_n hx hb dX12_isSign_20 rfl (lv_at hl 0 rfl) ?_
      refine z_getS X hR (zlit hR zf_200) zs_200 (by decide) zfd_X12_30 rfl (r := 206) (by decide +kernel) dX12_isSign_21 ?_
      refine lv_aload_n hx hb dX12_isSign_24 rfl (lv_at hl 0 rfl) ?_
      refine z_getI X hR (zlit hR zf_200) zs_200 (by decide) zfd_X12_182 rfl dX12_isSign_25 ?_
      refine z_lald X hR (zlit hR zf_206) zs_206 zl_206 hb2 dX12_isSign_28 ?_
      refine lv_iload_n hx hb dX12_isSign_29 rfl (lv_at hl 1 rfl) ?_
      refine lv_i2l hx hb dX12_isSign_30 rfl ?_
      refine W.lcmp hx hb dX12_isSign_31 ?_
      have kJ4 : ∀ v4 : Int32, v4 = (if ¬ (lg_cmp (gL w 206 (gI w 200 7).toNatClampNeg) x1.toInt64) = 0 then (0 : Int32) else (1 : Int32)) → W p l e R s m args below meth c H locs cells slots Q (F0 m 40 ls (.int v4 :: [])) := by
        intro v4 hv4
        replace hf := hf v4 hv4
        obtain ⟨h01, hf⟩ := hf
        exact hQ _ _ _ _ _ _ h01 hf hR dX12_isSign_40
      refine lv_if_ne (tgt := 39) hx hb dX12_isSign_32 (by decide) (fun c4 => ?_) (fun c4 => ?_)
      · refine lv_iconst (v := (0 : Int32)) hx hb dX12_isSign_39 (by decide) ?_
        exact kJ4 _ (if_pos c4).symm
      · refine lv_iconst (v := (1 : Int32)) hx hb dX12_isSign_35 (by decide) ?_
        refine lv_goto (tgt := 40) hx hb dX12_isSign_36 (by decide) ?_
        exact kJ4 _ (if_neg (fun h9 => h9 c4)).symm
/-! X12_puts -/
def fX12_puts (x1 : Int32) (w : zW) (k : zW → Prop) : Prop :=
  (((60 : Int32) < (gI w 200 16) →
    k w) ∧
   (¬ (60 : Int32) < (gI w 200 16) →
    vp_in (gI w 200 16) 61 ∧ 
    ∀ w3 : zW, w3 = sI w 215 (gI w 200 16).toNatClampNeg x1 →
    ∀ w4 : zW, w4 = sI w3 200 16 ((gI w3 200 16) + (1 : Int32)) →
    k w4))
set_option maxHeartbeats 4000000 in
set_option maxRecDepth 100000 in
theorem mX12_puts {l : Launch} {D : va_G} {dA : Nat → ClassId} {ad : Nat → Nat} {al : Nat → Prop} {w : zW} {k : zW → Prop} {x1 : Int32}   (hf : fX12_puts x1 w k) : zmetV l yX12_puts cX12_puts 2 none 0 [.ref (ad 200), .int x1] D dA true ad al w k := by
  refine zmetV_of (by decide) (Nat.le_of_ble_eq_true rfl) ?_
  intro p e R s m below meth c Q H ls args locs cells slots X hr hQ hR hl
  have hx := X.1
  have hb := X.2.1
  have hml := X.2.2.1
  have hown := X.2.2.2.1
  have hts := X.2.2.2.2.1
  unfold fX12_puts at hf
  have hl : lv_has ls 2 [(0, .ref (ad 200)), (1, .int x1)] := hl
  refine lv_aload_n hx hb dX12_puts_0 rfl (lv_at hl 0 rfl) ?_
  refine z_getI X hR (zlit hR zf_200) zs_200 (by decide) zfd_X12_248 rfl dX12_puts_1 ?_
  refine lv_bipush (v := (60 : Int32)) hx hb dX12_puts_4 (by decide) ?_
  refine lv_icmp_gt (tgt := 29) hx hb dX12_puts_6 (by decide) (fun c1 => ?_) (fun c1 => ?_)
  · replace hf := hf.1 c1
    exact hQ _ _ _ _ _ hf hR dX12_puts_29
  · replace hf := hf.2 c1
    refine lv_aload_n hx hb dX12_puts_9 rfl (lv_at hl 0 rfl) ?_
    refine z_getS X hR (zlit hR zf_200) zs_200 (by decide) zfd_X12_91 rfl (r := 215) (by decide +kernel) dX12_puts_10 ?_
    refine lv_aload_n hx hb dX12_puts_13 rfl (lv_at hl 0 rfl) ?_
    refine z_getI X hR (zlit hR zf_200) zs_200 (by decide) zfd_X12_248 rfl dX12_puts_14 ?_
    refine lv_iload_n hx hb dX12_puts_17 rfl (lv_at hl 1 rfl) ?_
    obtain ⟨hb2, hf⟩ := hf
    refine z_iast X hR (zlit hR zf_215) zs_215 zl_215 hb2 dX12_puts_18 (fun H locs hR => ?_)
    obtain ⟨w3, hw3⟩ : ∃ z : zW, z = sI w 215 (gI w 200 16).toNatClampNeg x1 := ⟨_, rfl⟩
    rw [← hw3] at hR
    replace hf := hf w3 hw3
    refine lv_aload_n hx hb dX12_puts_19 rfl (lv_at hl 0 rfl) ?_
    refine lv_dup hx hb dX12_puts_20 rfl ?_
    refine z_getI X hR (zlit hR zf_200) zs_200 (by decide) zfd_X12_248 rfl dX12_puts_21 ?_
    refine lv_iconst (v := (1 : Int32)) hx hb dX12_puts_24 (by decide) ?_
    refine lv_iadd hx hb dX12_puts_25 ?_
    refine z_putI X hR (zlit hR zf_200) zs_200 (by decide) zfp_X12_248 rfl dX12_puts_26 (fun H locs hR => ?_)
    obtain ⟨w4, hw4⟩ : ∃ z : zW, z = sI w3 200 16 ((gI w3 200 16) + (1 : Int32)) := ⟨_, rfl⟩
    rw [← hw4] at hR
    replace hf := hf w4 hw4
    exact hQ _ _ _ _ _ hf hR dX12_puts_29
/-! X12_repeats -/
def fX12_repeats_L19 (k : zW → Prop) (g10 : Int32 → Int32 → Int32 → Int32 → zW → Prop) : Nat → Int32 → Int32 → Int32 → Int32 → Int32 → zW → Prop
  | 0 => fun _ _ _ _ _ _ => False
  | n + 1 => fun x1 x2 x3 x4 x5 w =>
    ((x3 ≤ x5 →
      g10 x1 x2 x3 (x4 + (1 : Int32)) w) ∧
     (¬ x3 ≤ x5 →
      vp_in (x1 + x5) 61 ∧ 
      fX12_puts (gI w 215 (x1 + x5).toNatClampNeg) w (fun w5 =>
      fX12_repeats_L19 k g10 n x1 x2 x3 x4 (x5 + (1 : Int32)) w5)))
set_option maxHeartbeats 4000000 in
set_option maxRecDepth 100000 in
theorem mX12_repeats_L19 {k : zW → Prop} {g10 : Int32 → Int32 → Int32 → Int32 → zW → Prop} (X : zCx p s m args meth c cX12_repeats 6 RX12 none) (hr : zRm R 1 cells slots) (hQ : zRetV p l e R s m args below meth c cells slots Q D dA true ad0 al0 ad al cX12_repeats k) (hg10 : ∀ (x1 : Int32) (x2 : Int32) (x3 : Int32) (x4 : Int32) (w : zW) (H : Heap) (locs : List Loc) (ls : Array Slot), g10 x1 x2 x3 x4 w → zSt D dA true ad0 al0 ad al w s H locs → lv_has ls 6 [(0, .ref (ad 200)), (1, .int x1), (2, .int x2), (3, .int x3), (4, .int x4)] → W p l e R s m args below meth c H locs cells slots Q (F0 m 10 ls [])) : ∀ (n : Nat) (x1 : Int32) (x2 : Int32) (x3 : Int32) (x4 : Int32) (x5 : Int32) (w : zW) (H : Heap) (locs : List Loc) (ls : Array Slot), fX12_repeats_L19 k g10 n x1 x2 x3 x4 x5 w → zSt D dA true ad0 al0 ad al w s H locs → lv_has ls 6 [(0, .ref (ad 200)), (1, .int x1), (2, .int x2), (3, .int x3), (4, .int x4), (5, .int x5)] → W p l e R s m args below meth c H locs cells slots Q (F0 m 19 ls []) := by
  intro n
  induction n with
  | zero => exact fun _ _ _ _ _ _ _ _ _ hf => hf.elim
  | succ n ih =>
    intro x1 x2 x3 x4 x5 w H locs ls hf hR hl
    have hx := X.1
    have hb := X.2.1
    have hml := X.2.2.1
    have hown := X.2.2.2.1
    have hts := X.2.2.2.2.1
    rw [fX12_repeats_L19] at hf
    refine lv_iload hx hb dX12_repeats_19 (lv_at hl 5 rfl) ?_
    refine lv_iload_n hx hb dX12_repeats_21 rfl (lv_at hl 3 rfl) ?_
    refine lv_icmp_ge (tgt := 44) hx hb dX12_repeats_22 (by decide) (fun c3 => ?_) (fun c3 => ?_)
    · replace hf := hf.1 c3
      refine lv_iinc (v := x4 + (1 : Int32)) (lv' := [(4, .int (x4 + (1 : Int32))), (0, .ref (ad 200)), (1, .int x1), (2, .int x2), (3, .int x3), (5, .int x5)]) hx hb dX12_repeats_44 hl (k := 4) rfl rfl (by decide) rfl (fun ls hl => ?_)
      refine lv_goto (tgt := 10) hx hb dX12_repeats_47 (by decide) ?_
      exact hg10 x1 x2 x3 (x4 + (1 : Int32)) w _ _ _ hf hR (lv_sub hl [1, 2, 3, 4, 0] rfl)
    · replace hf := hf.2 c3
      refine lv_aload_n hx hb dX12_repeats_25 rfl (lv_at hl 0 rfl) ?_
      refine lv_aload_n hx hb dX12_repeats_26 rfl (lv_at hl 0 rfl) ?_
      refine z_getS X hR (zlit hR zf_200) zs_200 (by decide) zfd_X12_91 rfl (r := 215) (by decide +kernel) dX12_repeats_27 ?_
      refine lv_iload_n hx hb dX12_repeats_30 rfl (lv_at hl 1 rfl) ?_
      refine lv_iload hx hb dX12_repeats_31 (lv_at hl 5 rfl) ?_
      refine lv_iadd hx hb dX12_repeats_33 ?_
      obtain ⟨hb4, hf⟩ := hf
      refine z_iald X hR (zlit hR zf_215) zs_215 zl_215 hb4 dX12_repeats_34 ?_
      refine z_callVV (fr1 := 0) (b := 200) (As := [.int (gI w 215 (x1 + x5).toNatClampNeg)]) (rest := []) X (hr.le (by decide)) hR zy_X12_puts zq_664 (zlit hR zf_200) (by rw [zs_200]; rfl) rfl (mX12_puts  hf) rfl hl (Nat.le_of_ble_eq_true rfl) dX12_repeats_35 rfl (fun w5 H locs hf hR => ?_)
      refine lv_iinc (v := x5 + (1 : Int32)) (lv' := [(5, .int (x5 + (1 : Int32))), (0, .ref (ad 200)), (1, .int x1), (2, .int x2), (3, .int x3), (4, .int x4)]) hx hb dX12_repeats_38 hl (k := 5) rfl rfl (by decide) rfl (fun ls hl => ?_)
      refine lv_goto (tgt := 19) hx hb dX12_repeats_41 (by decide) ?_
      exact ih x1 x2 x3 x4 (x5 + (1 : Int32)) w5 _ _ _ hf hR (lv_sub hl [1, 2, 3, 4, 5, 0] rfl)
def fX12_repeats_L10 (k : zW → Prop) : Nat → Int32 → Int32 → Int32 → Int32 → zW → Prop
  | 0 => fun _ _ _ _ _ => False
  | n + 1 => fun x1 x2 x3 x4 w =>
    ((x2 ≤ x4 →
      k w) ∧
     (¬ x2 ≤ x4 →
      ∃ n9, fX12_repeats_L19 k (fX12_repeats_L10 k n) n9 x1 x2 x3 x4 (0 : Int32) w))
set_option maxHeartbeats 4000000 in
set_option maxRecDepth 100000 in
theorem mX12_repeats_L10 {k : zW → Prop} (X : zCx p s m args meth c cX12_repeats 6 RX12 none) (hr : zRm R 1 cells slots) (hQ : zRetV p l e R s m args below meth c cells slots Q D dA true ad0 al0 ad al cX12_repeats k)  : ∀ (n : Nat) (x1 : Int32) (x2 : Int32) (x3 : Int32) (x4 : Int32) (w : zW) (H : Heap) (locs : List Loc) (ls : Array Slot), fX12_repeats_L10 k n x1 x2 x3 x4 w → zSt D dA true ad0 al0 ad al w s H locs → lv_has ls 6 [(0, .ref (ad 200)), (1, .int x1), (2, .int x2), (3, .int x3), (4, .int x4)] → W p l e R s m args below meth c H locs cells slots Q (F0 m 10 ls []) := by
  intro n
  induction n with
  | zero => exact fun _ _ _ _ _ _ _ _ hf => hf.elim
  | succ n ih =>
    intro x1 x2 x3 x4 w H locs ls hf hR hl
    have hx := X.1
    have hb := X.2.1
    have hml := X.2.2.1
    have hown := X.2.2.2.1
    have hts := X.2.2.2.2.1
    rw [fX12_repeats_L10] at hf
    refine lv_iload hx hb dX12_repeats_10 (lv_at hl 4 rfl) ?_
    refine lv_iload_n hx hb dX12_repeats_12 rfl (lv_at hl 2 rfl) ?_
    refine lv_icmp_ge (tgt := 50) hx hb dX12_repeats_13 (by decide) (fun c2 => ?_) (fun c2 => ?_)
    · replace hf := hf.1 c2
      exact hQ _ _ _ _ _ hf hR dX12_repeats_50
    · replace hf := hf.2 c2
      refine lv_iconst (v := (0 : Int32)) hx hb dX12_repeats_16 (by decide) ?_
      refine lv_istore (lv' := [(5, .int (0 : Int32)), (0, .ref (ad 200)), (1, .int x1), (2, .int x2), (3, .int x3), (4, .int x4)]) hx hb dX12_repeats_17 hl (by decide) rfl (fun ls hl => ?_)
      obtain ⟨n9, hf⟩ := hf
      exact mX12_repeats_L19 X hr hQ ih n9 x1 x2 x3 x4 (0 : Int32) w _ _ _ hf hR (lv_sub hl [1, 2, 3, 4, 5, 0] rfl)
def fX12_repeats (x1 : Int32) (x2 : Int32) (w : zW) (k : zW → Prop) : Prop :=
  ∀ v1 : Int32, v1 = (gI w 200 16) - x1 →
  ∃ n9, fX12_repeats_L10 k n9 x1 x2 v1 (1 : Int32) w
set_option maxHeartbeats 4000000 in
set_option maxRecDepth 100000 in
theorem mX12_repeats {l : Launch} {D : va_G} {dA : Nat → ClassId} {ad : Nat → Nat} {al : Nat → Prop} {w : zW} {k : zW → Prop} {x1 : Int32} {x2 : Int32}   (hf : fX12_repeats x1 x2 w k) : zmetV l yX12_repeats cX12_repeats 6 none 1 [.ref (ad 200), .int x1, .int x2] D dA true ad al w k := by
  refine zmetV_of (by decide) (Nat.le_of_ble_eq_true rfl) ?_
  intro p e R s m below meth c Q H ls args locs cells slots X hr hQ hR hl
  have hx := X.1
  have hb := X.2.1
  have hml := X.2.2.1
  have hown := X.2.2.2.1
  have hts := X.2.2.2.2.1
  unfold fX12_repeats at hf
  have hl : lv_has ls 6 [(0, .ref (ad 200)), (1, .int x1), (2, .int x2)] := hl
  refine lv_aload_n hx hb dX12_repeats_0 rfl (lv_at hl 0 rfl) ?_
  refine z_getI X hR (zlit hR zf_200) zs_200 (by decide) zfd_X12_248 rfl dX12_repeats_1 ?_
  refine lv_iload_n hx hb dX12_repeats_4 rfl (lv_at hl 1 rfl) ?_
  refine lv_isub hx hb dX12_repeats_5 ?_
  refine lv_topi (fun v1 hv1 => ?_)
  replace hf := hf v1 hv1
  refine lv_istore_n (lv' := [(3, .int v1), (0, .ref (ad 200)), (1, .int x1), (2, .int x2)]) hx hb dX12_repeats_6 rfl hl (by decide) rfl (fun ls hl => ?_)
  refine lv_iconst (v := (1 : Int32)) hx hb dX12_repeats_7 (by decide) ?_
  refine lv_istore (lv' := [(4, .int (1 : Int32)), (3, .int v1), (0, .ref (ad 200)), (1, .int x1), (2, .int x2)]) hx hb dX12_repeats_8 hl (by decide) rfl (fun ls hl => ?_)
  obtain ⟨n9, hf⟩ := hf
  exact mX12_repeats_L10 X hr hQ  n9 x1 x2 v1 (1 : Int32) w _ _ _ hf hR (lv_sub hl [2, 3, 4, 1, 0] rfl)
/-! X12_wrong -/
def fX12_wrong (x1 : Int32) (w : zW) (k : zW → Prop) : Prop :=
  ((¬ (gI w 200 8) = 0 →
    k w) ∧
   ((gI w 200 8) = 0 →
    vp_in (gI w 200 7) 1002 ∧ 
    ∀ w3 : zW, w3 = sI w 200 8 (x1 + ((16 : Int32) * (gI w 205 (gI w 200 7).toNatClampNeg))) →
    k w3))
set_option maxHeartbeats 4000000 in
set_option maxRecDepth 100000 in
theorem mX12_wrong {l : Launch} {D : va_G} {dA : Nat → ClassId} {ad : Nat → Nat} {al : Nat → Prop} {w : zW} {k : zW → Prop} {x1 : Int32}   (hf : fX12_wrong x1 w k) : zmetV l yX12_wrong cX12_wrong 2 none 0 [.ref (ad 200), .int x1] D dA true ad al w k := by
  refine zmetV_of (by decide) (Nat.le_of_ble_eq_true rfl) ?_
  intro p e R s m below meth c Q H ls args locs cells slots X hr hQ hR hl
  have hx := X.1
  have hb := X.2.1
  have hml := X.2.2.1
  have hown := X.2.2.2.1
  have hts := X.2.2.2.2.1
  unfold fX12_wrong at hf
  have hl : lv_has ls 2 [(0, .ref (ad 200)), (1, .int x1)] := hl
  refine lv_aload_n hx hb dX12_wrong_0 rfl (lv_at hl 0 rfl) ?_
  refine z_getI X hR (zlit hR zf_200) zs_200 (by decide) zfd_X12_185 rfl dX12_wrong_1 ?_
  refine lv_if_ne (tgt := 25) hx hb dX12_wrong_4 (by decide) (fun c1 => ?_) (fun c1 => ?_)
  · replace hf := hf.1 c1
    exact hQ _ _ _ _ _ hf hR dX12_wrong_25
  · replace hf := hf.2 c1
    refine lv_aload_n hx hb dX12_wrong_7 rfl (lv_at hl 0 rfl) ?_
    refine lv_iload_n hx hb dX12_wrong_8 rfl (lv_at hl 1 rfl) ?_
    refine lv_bipush (v := (16 : Int32)) hx hb dX12_wrong_9 (by decide) ?_
    refine lv_aload_n hx hb dX12_wrong_11 rfl (lv_at hl 0 rfl) ?_
    refine z_getS X hR (zlit hR zf_200) zs_200 (by decide) zfd_X12_27 rfl (r := 205) (by decide +kernel) dX12_wrong_12 ?_
    refine lv_aload_n hx hb dX12_wrong_15 rfl (lv_at hl 0 rfl) ?_
    refine z_getI X hR (zlit hR zf_200) zs_200 (by decide) zfd_X12_182 rfl dX12_wrong_16 ?_
    obtain ⟨hb2, hf⟩ := hf
    refine z_iald X hR (zlit hR zf_205) zs_205 zl_205 hb2 dX12_wrong_19 ?_
    refine lv_imul hx hb dX12_wrong_20 ?_
    refine lv_iadd hx hb dX12_wrong_21 ?_
    refine z_putI X hR (zlit hR zf_200) zs_200 (by decide) zfp_X12_185 rfl dX12_wrong_22 (fun H locs hR => ?_)
    obtain ⟨w3, hw3⟩ : ∃ z : zW, z = sI w 200 8 (x1 + ((16 : Int32) * (gI w 205 (gI w 200 7).toNatClampNeg))) := ⟨_, rfl⟩
    rw [← hw3] at hR
    replace hf := hf w3 hw3
    exact hQ _ _ _ _ _ hf hR dX12_wrong_25
/-! X12_takeNumber -/
def fX12_takeNumber_J70 (k : Int32 → zW → Prop)  (w : zW) : Prop :=
  (((gI w 200 8) ≤ 0 →
    ∀ w4 : zW, w4 = sI w 200 7 ((gI w 200 7) + (1 : Int32)) →
    vp_in ((gI w4 200 7) - (1 : Int32)) 1002 ∧ 
    k ((gL w4 206 ((gI w4 200 7) - (1 : Int32)).toNatClampNeg).toInt32) w4) ∧
   (¬ (gI w 200 8) ≤ 0 →
    k (0 : Int32) w))
set_option maxHeartbeats 4000000 in
set_option maxRecDepth 100000 in
theorem mX12_takeNumber_J70 {k : Int32 → zW → Prop} (X : zCx p s m args meth c cX12_takeNumber 3 RX12 (some .int)) (hr : zRm R 1 cells slots) (hQ : zRetI p l e R s m args below meth c cells slots Q D dA true ad0 al0 ad al cX12_takeNumber k)   {w : zW} {H : Heap} {locs : List Loc} {ls : Array Slot} (hf : fX12_takeNumber_J70 k  w) (hR : zSt D dA true ad0 al0 ad al w s H locs) (hl : lv_has ls 3 [(0, .ref (ad 200))]) : W p l e R s m args below meth c H locs cells slots Q (F0 m 70 ls []) := by
  have hx := X.1
  have hb := X.2.1
  have hml := X.2.2.1
  have hown := X.2.2.2.1
  have hts := X.2.2.2.2.1
  unfold fX12_takeNumber_J70 at hf
  refine lv_aload_n hx hb dX12_takeNumber_70 rfl (lv_at hl 0 rfl) ?_
  refine z_getI X hR (zlit hR zf_200) zs_200 (by decide) zfd_X12_185 rfl dX12_takeNumber_71 ?_
  refine lv_if_le (tgt := 79) hx hb dX12_takeNumber_74 (by decide) (fun c3 => ?_) (fun c3 => ?_)
  · replace hf := hf.1 c3
    refine lv_aload_n hx hb dX12_takeNumber_79 rfl (lv_at hl 0 rfl) ?_
    refine lv_dup hx hb dX12_takeNumber_80 rfl ?_
    refine z_getI X hR (zlit hR zf_200) zs_200 (by decide) zfd_X12_182 rfl dX12_takeNumber_81 ?_
    refine lv_iconst (v := (1 : Int32)) hx hb dX12_takeNumber_84 (by decide) ?_
    refine lv_iadd hx hb dX12_takeNumber_85 ?_
    refine z_putI X hR (zlit hR zf_200) zs_200 (by decide) zfp_X12_182 rfl dX12_takeNumber_86 (fun H locs hR => ?_)
    obtain ⟨w4, hw4⟩ : ∃ z : zW, z = sI w 200 7 ((gI w 200 7) + (1 : Int32)) := ⟨_, rfl⟩
    rw [← hw4] at hR
    replace hf := hf w4 hw4
    refine lv_aload_n hx hb dX12_takeNumber_89 rfl (lv_at hl 0 rfl) ?_
    refine z_getS X hR (zlit hR zf_200) zs_200 (by decide) zfd_X12_30 rfl (r := 206) (by decide +kernel) dX12_takeNumber_90 ?_
    refine lv_aload_n hx hb dX12_takeNumber_93 rfl (lv_at hl 0 rfl) ?_
    refine z_getI X hR (zlit hR zf_200) zs_200 (by decide) zfd_X12_182 rfl dX12_takeNumber_94 ?_
    refine lv_iconst (v := (1 : Int32)) hx hb dX12_takeNumber_97 (by decide) ?_
    refine lv_isub hx hb dX12_takeNumber_98 ?_
    obtain ⟨hb5, hf⟩ := hf
    refine z_lald X hR (zlit hR zf_206) zs_206 zl_206 hb5 dX12_takeNumber_99 ?_
    refine lv_l2i hx hb dX12_takeNumber_100 rfl ?_
    exact hQ _ _ _ _ _ _ hf hR dX12_takeNumber_101
  · replace hf := hf.2 c3
    refine lv_iconst (v := (0 : Int32)) hx hb dX12_takeNumber_77 (by decide) ?_
    exact hQ _ _ _ _ _ _ hf hR dX12_takeNumber_78
def fX12_takeNumber_J65 (k : Int32 → zW → Prop)  (w : zW) : Prop :=
  fX12_wrong (4 : Int32) w (fun w8 =>
  fX12_takeNumber_J70 k  w8)
set_option maxHeartbeats 4000000 in
set_option maxRecDepth 100000 in
theorem mX12_takeNumber_J65 {k : Int32 → zW → Prop} (X : zCx p s m args meth c cX12_takeNumber 3 RX12 (some .int)) (hr : zRm R 1 cells slots) (hQ : zRetI p l e R s m args below meth c cells slots Q D dA true ad0 al0 ad al cX12_takeNumber k)   {w : zW} {H : Heap} {locs : List Loc} {ls : Array Slot} (hf : fX12_takeNumber_J65 k  w) (hR : zSt D dA true ad0 al0 ad al w s H locs) (hl : lv_has ls 3 [(0, .ref (ad 200))]) : W p l e R s m args below meth c H locs cells slots Q (F0 m 65 ls []) := by
  have hx := X.1
  have hb := X.2.1
  have hml := X.2.2.1
  have hown := X.2.2.2.1
  have hts := X.2.2.2.2.1
  unfold fX12_takeNumber_J65 at hf
  refine lv_aload_n hx hb dX12_takeNumber_65 rfl (lv_at hl 0 rfl) ?_
  refine lv_iconst (v := (4 : Int32)) hx hb dX12_takeNumber_66 (by decide) ?_
  refine z_callVV (fr1 := 0) (b := 200) (As := [.int (4 : Int32)]) (rest := []) X (hr.le (by decide)) hR zy_X12_wrong zq_619 (zlit hR zf_200) (by rw [zs_200]; rfl) rfl (mX12_wrong  hf) rfl hl (Nat.le_of_ble_eq_true rfl) dX12_takeNumber_67 rfl (fun w8 H locs hf hR => ?_)
  exact mX12_takeNumber_J70 X hr hQ  hf hR (lv_sub hl [0] rfl)
def fX12_takeNumber_J28 (k : Int32 → zW → Prop) (x1 : Int32) (x2 : Int32) (w : zW) : Prop :=
  ((¬ (gI w 200 8) = 0 →
    fX12_takeNumber_J70 k  w) ∧
   ((gI w 200 8) = 0 →
    vp_in (gI w 200 7) 1002 ∧ 
    (((lg_cmp (gL w 206 (gI w 200 7).toNatClampNeg) x1.toInt64) < 0 →
      fX12_takeNumber_J65 k  w) ∧
     (¬ (lg_cmp (gL w 206 (gI w 200 7).toNatClampNeg) x1.toInt64) < 0 →
      (((lg_cmp (gL w 206 (gI w 200 7).toNatClampNeg) x2.toInt64) ≤ 0 →
        fX12_takeNumber_J70 k  w) ∧
       (¬ (lg_cmp (gL w 206 (gI w 200 7).toNatClampNeg) x2.toInt64) ≤ 0 →
        fX12_takeNumber_J65 k  w))))))
set_option maxHeartbeats 4000000 in
set_option maxRecDepth 100000 in
theorem mX12_takeNumber_J28 {k : Int32 → zW → Prop} (X : zCx p s m args meth c cX12_takeNumber 3 RX12 (some .int)) (hr : zRm R 1 cells slots) (hQ : zRetI p l e R s m args below meth c cells slots Q D dA true ad0 al0 ad al cX12_takeNumber k)  {x1 : Int32} {x2 : Int32} {w : zW} {H : Heap} {locs : List Loc} {ls : Array Slot} (hf : fX12_takeNumber_J28 k x1 x2 w) (hR : zSt D dA true ad0 al0 ad al w s H locs) (hl : lv_has ls 3 [(0, .ref (ad 200)), (1, .int x1), (2, .int x2)]) : W p l e R s m args below meth c H locs cells slots Q (F0 m 28 ls []) := by
  have hx := X.1
  have hb := X.2.1
  have hml := X.2.2.1
  have hown := X.2.2.2.1
  have hts := X.2.2.2.2.1
  unfold fX12_takeNumber_J28 at hf
  refine lv_aload_n hx hb dX12_takeNumber_28 rfl (lv_at hl 0 rfl) ?_
  refine z_getI X hR (zlit hR zf_200) zs_200 (by decide) zfd_X12_185 rfl dX12_takeNumber_29 ?_
  refine lv_if_ne (tgt := 70) hx hb dX12_takeNumber_32 (by decide) (fun c2 => ?_) (fun c2 => ?_)
  · replace hf := hf.1 c2
    exact mX12_takeNumber_J70 X hr hQ  hf hR (lv_sub hl [0] rfl)
  · replace hf := hf.2 c2
    refine lv_aload_n hx hb dX12_takeNumber_35 rfl (lv_at hl 0 rfl) ?_
    refine z_getS X hR (zlit hR zf_200) zs_200 (by decide) zfd_X12_30 rfl (r := 206) (by decide +kernel) dX12_takeNumber_36 ?_
    refine lv_aload_n hx hb dX12_takeNumber_39 rfl (lv_at hl 0 rfl) ?_
    refine z_getI X hR (zlit hR zf_200) zs_200 (by decide) zfd_X12_182 rfl dX12_takeNumber_40 ?_
    obtain ⟨hb6, hf⟩ := hf
    refine z_lald X hR (zlit hR zf_206) zs_206 zl_206 hb6 dX12_takeNumber_43 ?_
    refine lv_iload_n hx hb dX12_takeNumber_44 rfl (lv_at hl 1 rfl) ?_
    refine lv_i2l hx hb dX12_takeNumber_45 rfl ?_
    refine W.lcmp hx hb dX12_takeNumber_46 ?_
    refine lv_if_lt (tgt := 65) hx hb dX12_takeNumber_47 (by decide) (fun c7 => ?_) (fun c7 => ?_)
    · replace hf := hf.1 c7
      exact mX12_takeNumber_J65 X hr hQ  hf hR (lv_sub hl [0] rfl)
    · replace hf := hf.2 c7
      refine lv_aload_n hx hb dX12_takeNumber_50 rfl (lv_at hl 0 rfl) ?_
      refine z_getS X hR (zlit hR zf_200) zs_200 (by decide) zfd_X12_30 rfl (r := 206) (by decide +kernel) dX12_takeNumber_51 ?_
      refine lv_aload_n hx hb dX12_takeNumber_54 rfl (lv_at hl 0 rfl) ?_
      refine z_getI X hR (zlit hR zf_200) zs_200 (by decide) zfd_X12_182 rfl dX12_takeNumber_55 ?_
      refine z_lald X hR (zlit hR zf_206) zs_206 zl_206 hb6 dX12_takeNumber_58 ?_
      refine lv_iload_n hx hb dX12_takeNumber_59 rfl (lv_at hl 2 rfl) ?_
      refine lv_i2l hx hb dX12_takeNumber_60 rfl ?_
      refine W.lcmp hx hb dX12_takeNumber_61 ?_
      refine lv_if_le (tgt := 70) hx hb dX12_takeNumber_62 (by decide) (fun c9 => ?_) (fun c9 => ?_)
      · replace hf := hf.1 c9
        exact mX12_takeNumber_J70 X hr hQ  hf hR (lv_sub hl [0] rfl)
      · replace hf := hf.2 c9
        exact mX12_takeNumber_J65 X hr hQ  hf hR (lv_sub hl [0] rfl)
def fX12_takeNumber (x1 : Int32) (x2 : Int32) (w : zW) (k : Int32 → zW → Prop) : Prop :=
  ((¬ (gI w 200 8) = 0 →
    fX12_takeNumber_J28 k x1 x2 w) ∧
   ((gI w 200 8) = 0 →
    vp_in (gI w 200 7) 1002 ∧ 
    (((gI w 204 (gI w 200 7).toNatClampNeg) = (2 : Int32) →
      fX12_takeNumber_J28 k x1 x2 w) ∧
     (¬ (gI w 204 (gI w 200 7).toNatClampNeg) = (2 : Int32) →
      fX12_wrong (1 : Int32) w (fun w12 =>
      fX12_takeNumber_J70 k  w12)))))
set_option maxHeartbeats 4000000 in
set_option maxRecDepth 100000 in
theorem mX12_takeNumber {l : Launch} {D : va_G} {dA : Nat → ClassId} {ad : Nat → Nat} {al : Nat → Prop} {w : zW} {k : Int32 → zW → Prop} {x1 : Int32} {x2 : Int32}   (hf : fX12_takeNumber x1 x2 w k) : zmetI l yX12_takeNumber cX12_takeNumber 3 (some .int) 1 [.ref (ad 200), .int x1, .int x2] D dA true ad al w k := by
  refine zmetI_of (by decide) (Nat.le_of_ble_eq_true rfl) ?_
  intro p e R s m below meth c Q H ls args locs cells slots X hr hQ hR hl
  have hx := X.1
  have hb := X.2.1
  have hml := X.2.2.1
  have hown := X.2.2.2.1
  have hts := X.2.2.2.2.1
  unfold fX12_takeNumber at hf
  have hl : lv_has ls 3 [(0, .ref (ad 200)), (1, .int x1), (2, .int x2)] := hl
  refine lv_aload_n hx hb dX12_takeNumber_0 rfl (lv_at hl 0 rfl) ?_
  refine z_getI X hR (zlit hR zf_200) zs_200 (by decide) zfd_X12_185 rfl dX12_takeNumber_1 ?_
  refine lv_if_ne (tgt := 28) hx hb dX12_takeNumber_4 (by decide) (fun c1 => ?_) (fun c1 => ?_)
  · replace hf := hf.1 c1
    exact mX12_takeNumber_J28 X hr hQ  hf hR (lv_sub hl [0, 1, 2] rfl)
  · replace hf := hf.2 c1
    refine lv_aload_n hx hb dX12_takeNumber_7 rfl (lv_at hl 0 rfl) ?_
    refine z_getS X hR (zlit hR zf_200) zs_200 (by decide) zfd_X12_24 rfl (r := 204) (by decide +kernel) dX12_takeNumber_8 ?_
    refine lv_aload_n hx hb dX12_takeNumber_11 rfl (lv_at hl 0 rfl) ?_
    refine z_getI X hR (zlit hR zf_200) zs_200 (by decide) zfd_X12_182 rfl dX12_takeNumber_12 ?_
    obtain ⟨hb10, hf⟩ := hf
    refine z_iald X hR (zlit hR zf_204) zs_204 zl_204 hb10 dX12_takeNumber_15 ?_
    refine lv_iconst (v := (2 : Int32)) hx hb dX12_takeNumber_16 (by decide) ?_
    refine lv_icmp_eq (tgt := 28) hx hb dX12_takeNumber_17 (by decide) (fun c11 => ?_) (fun c11 => ?_)
    · replace hf := hf.1 c11
      exact mX12_takeNumber_J28 X hr hQ  hf hR (lv_sub hl [0, 1, 2] rfl)
    · replace hf := hf.2 c11
      refine lv_aload_n hx hb dX12_takeNumber_20 rfl (lv_at hl 0 rfl) ?_
      refine lv_iconst (v := (1 : Int32)) hx hb dX12_takeNumber_21 (by decide) ?_
      refine z_callVV (fr1 := 0) (b := 200) (As := [.int (1 : Int32)]) (rest := []) X (hr.le (by decide)) hR zy_X12_wrong zq_619 (zlit hR zf_200) (by rw [zs_200]; rfl) rfl (mX12_wrong  hf) rfl hl (Nat.le_of_ble_eq_true rfl) dX12_takeNumber_22 rfl (fun w12 H locs hf hR => ?_)
      refine lv_goto (tgt := 70) hx hb dX12_takeNumber_25 (by decide) ?_
      exact mX12_takeNumber_J70 X hr hQ  hf hR (lv_sub hl [0] rfl)
/-! X12_takeSign -/
def fX12_takeSign (x1 : Int32) (w : zW) (k : zW → Prop) : Prop :=
  fX12_isSign x1 w (fun r1 w1 =>
  ((r1 = 0 →
    fX12_wrong (1 : Int32) w1 (fun w3 =>
    k w3)) ∧
   (¬ r1 = 0 →
    ∀ w4 : zW, w4 = sI w1 200 7 ((gI w1 200 7) + (1 : Int32)) →
    k w4)))
set_option maxHeartbeats 4000000 in
set_option maxRecDepth 100000 in
theorem mX12_takeSign {l : Launch} {D : va_G} {dA : Nat → ClassId} {ad : Nat → Nat} {al : Nat → Prop} {w : zW} {k : zW → Prop} {x1 : Int32}   (hf : fX12_takeSign x1 w k) : zmetV l yX12_takeSign cX12_takeSign 2 none 1 [.ref (ad 200), .int x1] D dA true ad al w k := by
  refine zmetV_of (by decide) (Nat.le_of_ble_eq_true rfl) ?_
  intro p e R s m below meth c Q H ls args locs cells slots X hr hQ hR hl
  have hx := X.1
  have hb := X.2.1
  have hml := X.2.2.1
  have hown := X.2.2.2.1
  have hts := X.2.2.2.2.1
  unfold fX12_takeSign at hf
  have hl : lv_has ls 2 [(0, .ref (ad 200)), (1, .int x1)] := hl
  refine lv_aload_n hx hb dX12_takeSign_0 rfl (lv_at hl 0 rfl) ?_
  refine lv_iload_n hx hb dX12_takeSign_1 rfl (lv_at hl 1 rfl) ?_
  refine z_callVI (fr1 := 0) (b := 200) (As := [.int x1]) (rest := []) X (hr.le (by decide)) hR zy_X12_isSign zq_648 (zlit hR zf_200) (by rw [zs_200]; rfl) rfl (mX12_isSign  hf) rfl hl (Nat.le_of_ble_eq_true rfl) dX12_takeSign_2 rfl (fun r1 w1 H locs hf hR => ?_)
  refine lv_if_eq (tgt := 21) hx hb dX12_takeSign_5 (by decide) (fun c2 => ?_) (fun c2 => ?_)
  · replace hf := hf.1 c2
    refine lv_aload_n hx hb dX12_takeSign_21 rfl (lv_at hl 0 rfl) ?_
    refine lv_iconst (v := (1 : Int32)) hx hb dX12_takeSign_22 (by decide) ?_
    refine z_callVV (fr1 := 0) (b := 200) (As := [.int (1 : Int32)]) (rest := []) X (hr.le (by decide)) hR zy_X12_wrong zq_619 (zlit hR zf_200) (by rw [zs_200]; rfl) rfl (mX12_wrong  hf) rfl hl (Nat.le_of_ble_eq_true rfl) dX12_takeSign_23 rfl (fun w3 H locs hf hR => ?_)
    exact hQ _ _ _ _ _ hf hR dX12_takeSign_26
  · replace hf := hf.2 c2
    refine lv_aload_n hx hb dX12_takeSign_8 rfl (lv_at hl 0 rfl) ?_
    refine lv_dup hx hb dX12_takeSign_9 rfl ?_
    refine z_getI X hR (zlit hR zf_200) zs_200 (by decide) zfd_X12_182 rfl dX12_takeSign_10 ?_
    refine lv_iconst (v := (1 : Int32)) hx hb dX12_takeSign_13 (by decide) ?_
    refine lv_iadd hx hb dX12_takeSign_14 ?_
    refine z_putI X hR (zlit hR zf_200) zs_200 (by decide) zfp_X12_182 rfl dX12_takeSign_15 (fun H locs hR => ?_)
    obtain ⟨w4, hw4⟩ : ∃ z : zW, z = sI w1 200 7 ((gI w1 200 7) + (1 : Int32)) := ⟨_, rfl⟩
    rw [← hw4] at hR
    replace hf := hf w4 hw4
    refine lv_goto (tgt := 26) hx hb dX12_takeSign_18 (by decide) ?_
    exact hQ _ _ _ _ _ hf hR dX12_takeSign_26
/-! X12_nameAt -/
def fX12_nameAt_L5 (k : Int32 → zW → Prop) : Nat → Int32 → Int32 → Int32 → Int32 → zW → Prop
  | 0 => fun _ _ _ _ _ => False
  | n + 1 => fun x1 x2 x3 x4 w =>
    ((x2 ≤ x4 →
      k x3 w) ∧
     (¬ x2 ≤ x4 →
      vp_in (x1 + x4) 8 ∧ 
      vp_in (gI w 200 7) 1002 ∧ 
      ∀ v4 : Int32, v4 = (if ¬ (lg_cmp (gL w 214 (x1 + x4).toNatClampNeg) (gL w 206 (gI w 200 7).toNatClampNeg)) = 0 then x3 else x4) →
      fX12_nameAt_L5 k n x1 x2 v4 (x4 + (1 : Int32)) w))
set_option maxHeartbeats 4000000 in
set_option maxRecDepth 100000 in
theorem mX12_nameAt_L5 {k : Int32 → zW → Prop} (X : zCx p s m args meth c cX12_nameAt 5 RX12 (some .int)) (hr : zRm R 0 cells slots) (hQ : zRetI p l e R s m args below meth c cells slots Q D dA true ad0 al0 ad al cX12_nameAt k)  : ∀ (n : Nat) (x1 : Int32) (x2 : Int32) (x3 : Int32) (x4 : Int32) (w : zW) (H : Heap) (locs : List Loc) (ls : Array Slot), fX12_nameAt_L5 k n x1 x2 x3 x4 w → zSt D dA true ad0 al0 ad al w s H locs → lv_has ls 5 [(0, .ref (ad 200)), (1, .int x1), (2, .int x2), (3, .int x3), (4, .int x4)] → W p l e R s m args below meth c H locs cells slots Q (F0 m 5 ls []) := by
  intro n
  induction n with
  | zero => exact fun _ _ _ _ _ _ _ _ hf => hf.elim
  | succ n ih =>
    intro x1 x2 x3 x4 w H locs ls hf hR hl
    have hx := X.1
    have hb := X.2.1
    have hml := X.2.2.1
    have hown := X.2.2.2.1
    have hts := X.2.2.2.2.1
    rw [fX12_nameAt_L5] at hf
    refine lv_iload hx hb dX12_nameAt_5 (lv_at hl 4 rfl) ?_
    refine lv_iload_n hx hb dX12_nameAt_7 rfl (lv_at hl 2 rfl) ?_
    refine lv_icmp_ge (tgt := 46) hx hb dX12_nameAt_8 (by decide) (fun c1 => ?_) (fun c1 => ?_)
    · replace hf := hf.1 c1
      refine lv_iload_n hx hb dX12_nameAt_46 rfl (lv_at hl 3 rfl) ?_
      exact hQ _ _ _ _ _ _ hf hR dX12_nameAt_47
    · replace hf := hf.2 c1
      refine lv_aload_n hx hb dX12_nameAt_11 rfl (lv_at hl 0 rfl) ?_
      refine z_getS X hR (zlit hR zf_200) zs_200 (by decide) zfd_X12_88 rfl (r := 214) (by decide +kernel) dX12_nameAt_12 ?_
      refine lv_iload_n hx hb dX12_nameAt_15 rfl (lv_at hl 1 rfl) ?_
      refine lv_iload hx hb dX12_nameAt_16 (lv_at hl 4 rfl) ?_
      refine lv_iadd hx hb dX12_nameAt_18 ?_
      obtain ⟨hb2, hf⟩ := hf
      refine z_lald X hR (zlit hR zf_214) zs_214 zl_214 hb2 dX12_nameAt_19 ?_
      refine lv_aload_n hx hb dX12_nameAt_20 rfl (lv_at hl 0 rfl) ?_
      refine z_getS X hR (zlit hR zf_200) zs_200 (by decide) zfd_X12_30 rfl (r := 206) (by decide +kernel) dX12_nameAt_21 ?_
      refine lv_aload_n hx hb dX12_nameAt_24 rfl (lv_at hl 0 rfl) ?_
      refine z_getI X hR (zlit hR zf_200) zs_200 (by decide) zfd_X12_182 rfl dX12_nameAt_25 ?_
      obtain ⟨hb3, hf⟩ := hf
      refine z_lald X hR (zlit hR zf_206) zs_206 zl_206 hb3 dX12_nameAt_28 ?_
      refine W.lcmp hx hb dX12_nameAt_29 ?_
      have kJ4 : ∀ v4 : Int32, v4 = (if ¬ (lg_cmp (gL w 214 (x1 + x4).toNatClampNeg) (gL w 206 (gI w 200 7).toNatClampNeg)) = 0 then x3 else x4) → W p l e R s m args below meth c H locs cells slots Q (F0 m 39 ls (.int v4 :: [])) := by
        intro v4 hv4
        replace hf := hf v4 hv4
        refine lv_istore_n (lv' := [(3, .int v4), (0, .ref (ad 200)), (1, .int x1), (2, .int x2), (4, .int x4)]) hx hb dX12_nameAt_39 rfl hl (by decide) rfl (fun ls hl => ?_)
        refine lv_iinc (v := x4 + (1 : Int32)) (lv' := [(4, .int (x4 + (1 : Int32))), (3, .int v4), (0, .ref (ad 200)), (1, .int x1), (2, .int x2)]) hx hb dX12_nameAt_40 hl (k := 4) rfl rfl (by decide) rfl (fun ls hl => ?_)
        refine lv_goto (tgt := 5) hx hb dX12_nameAt_43 (by decide) ?_
        exact ih x1 x2 v4 (x4 + (1 : Int32)) w _ _ _ hf hR (lv_sub hl [2, 3, 4, 1, 0] rfl)
      refine lv_if_ne (tgt := 38) hx hb dX12_nameAt_30 (by decide) (fun c4 => ?_) (fun c4 => ?_)
      · refine lv_iload_n hx hb dX12_nameAt_38 rfl (lv_at hl 3 rfl) ?_
        exact kJ4 _ (if_pos c4).symm
      · refine lv_iload hx hb dX12_nameAt_33 (lv_at hl 4 rfl) ?_
        refine lv_goto (tgt := 39) hx hb dX12_nameAt_35 (by decide) ?_
        exact kJ4 _ (if_neg (fun h9 => h9 c4)).symm
def fX12_nameAt (x1 : Int32) (x2 : Int32) (w : zW) (k : Int32 → zW → Prop) : Prop :=
  ∃ n9, fX12_nameAt_L5 k n9 x1 x2 (-1 : Int32) (0 : Int32) w
set_option maxHeartbeats 4000000 in
set_option maxRecDepth 100000 in
theorem mX12_nameAt {l : Launch} {D : va_G} {dA : Nat → ClassId} {ad : Nat → Nat} {al : Nat → Prop} {w : zW} {k : Int32 → zW → Prop} {x1 : Int32} {x2 : Int32}   (hf : fX12_nameAt x1 x2 w k) : zmetI l yX12_nameAt cX12_nameAt 5 (some .int) 0 [.ref (ad 200), .int x1, .int x2] D dA true ad al w k := by
  refine zmetI_of (by decide) (Nat.le_of_ble_eq_true rfl) ?_
  intro p e R s m below meth c Q H ls args locs cells slots X hr hQ hR hl
  have hx := X.1
  have hb := X.2.1
  have hml := X.2.2.1
  have hown := X.2.2.2.1
  have hts := X.2.2.2.2.1
  unfold fX12_nameAt at hf
  have hl : lv_has ls 5 [(0, .ref (ad 200)), (1, .int x1), (2, .int x2)] := hl
  refine lv_iconst (v := (-1 : Int32)) hx hb dX12_nameAt_0 (by decide) ?_
  refine lv_istore_n (lv' := [(3, .int (-1 : Int32)), (0, .ref (ad 200)), (1, .int x1), (2, .int x2)]) hx hb dX12_nameAt_1 rfl hl (by decide) rfl (fun ls hl => ?_)
  refine lv_iconst (v := (0 : Int32)) hx hb dX12_nameAt_2 (by decide) ?_
  refine lv_istore (lv' := [(4, .int (0 : Int32)), (3, .int (-1 : Int32)), (0, .ref (ad 200)), (1, .int x1), (2, .int x2)]) hx hb dX12_nameAt_3 hl (by decide) rfl (fun ls hl => ?_)
  obtain ⟨n9, hf⟩ := hf
  exact mX12_nameAt_L5 X hr hQ  n9 x1 x2 (-1 : Int32) (0 : Int32) w _ _ _ hf hR (lv_sub hl [2, 3, 4, 1, 0] rfl)
/-! X12_takeTold -/
def fX12_takeTold_J70 (k : Int32 → zW → Prop) (x3 : Int32) (t0 : Int32) (t1 : Int32) (w : zW) : Prop :=
  ∀ w6 : zW, w6 = sI w 200 7 (t1 + t0) →
  ∀ v7 : Int32, v7 = (if (gI w6 200 8) ≤ 0 then x3 else (0 : Int32)) →
  k v7 w6
set_option maxHeartbeats 4000000 in
set_option maxRecDepth 100000 in
theorem mX12_takeTold_J70 {k : Int32 → zW → Prop} (X : zCx p s m args meth c cX12_takeTold 4 RX12 (some .int)) (hr : zRm R 3 cells slots) (hQ : zRetI p l e R s m args below meth c cells slots Q D dA true ad0 al0 ad al cX12_takeTold k)  {x3 : Int32} {t0 : Int32} {t1 : Int32} {w : zW} {H : Heap} {locs : List Loc} {ls : Array Slot} (hf : fX12_takeTold_J70 k x3 t0 t1 w) (hR : zSt D dA true ad0 al0 ad al w s H locs) (hl : lv_has ls 4 [(0, .ref (ad 200)), (3, .int x3)]) : W p l e R s m args below meth c H locs cells slots Q (F0 m 70 ls [.int t0, .int t1, .ref (ad 200)]) := by
  have hx := X.1
  have hb := X.2.1
  have hml := X.2.2.1
  have hown := X.2.2.2.1
  have hts := X.2.2.2.2.1
  unfold fX12_takeTold_J70 at hf
  refine lv_iadd hx hb dX12_takeTold_70 ?_
  refine z_putI X hR (zlit hR zf_200) zs_200 (by decide) zfp_X12_182 rfl dX12_takeTold_71 (fun H locs hR => ?_)
  obtain ⟨w6, hw6⟩ : ∃ z : zW, z = sI w 200 7 (t1 + t0) := ⟨_, rfl⟩
  rw [← hw6] at hR
  replace hf := hf w6 hw6
  refine lv_aload_n hx hb dX12_takeTold_74 rfl (lv_at hl 0 rfl) ?_
  refine z_getI X hR (zlit hR zf_200) zs_200 (by decide) zfd_X12_185 rfl dX12_takeTold_75 ?_
  have kJ7 : ∀ v7 : Int32, v7 = (if (gI w6 200 8) ≤ 0 then x3 else (0 : Int32)) → W p l e R s m args below meth c H locs cells slots Q (F0 m 86 ls (.int v7 :: [])) := by
    intro v7 hv7
    replace hf := hf v7 hv7
    exact hQ _ _ _ _ _ _ hf hR dX12_takeTold_86
  refine lv_if_le (tgt := 85) hx hb dX12_takeTold_78 (by decide) (fun c7 => ?_) (fun c7 => ?_)
  · refine lv_iload_n hx hb dX12_takeTold_85 rfl (lv_at hl 1 rfl) ?_
    exact kJ7 _ (if_pos c7).symm
  · refine lv_iconst (v := (0 : Int32)) hx hb dX12_takeTold_81 (by decide) ?_
    refine lv_goto (tgt := 86) hx hb dX12_takeTold_82 (by decide) ?_
    exact kJ7 _ (if_neg c7).symm
def fX12_takeTold_J53 (k : Int32 → zW → Prop) (x3 : Int32) (w : zW) : Prop :=
  ∀ v5 : Int32, v5 = (if (gI w 200 8) ≤ 0 then (1 : Int32) else (0 : Int32)) →
  fX12_takeTold_J70 k x3 v5 (gI w 200 7) w
set_option maxHeartbeats 4000000 in
set_option maxRecDepth 100000 in
theorem mX12_takeTold_J53 {k : Int32 → zW → Prop} (X : zCx p s m args meth c cX12_takeTold 4 RX12 (some .int)) (hr : zRm R 3 cells slots) (hQ : zRetI p l e R s m args below meth c cells slots Q D dA true ad0 al0 ad al cX12_takeTold k)  {x3 : Int32} {w : zW} {H : Heap} {locs : List Loc} {ls : Array Slot} (hf : fX12_takeTold_J53 k x3 w) (hR : zSt D dA true ad0 al0 ad al w s H locs) (hl : lv_has ls 4 [(0, .ref (ad 200)), (3, .int x3)]) : W p l e R s m args below meth c H locs cells slots Q (F0 m 53 ls []) := by
  have hx := X.1
  have hb := X.2.1
  have hml := X.2.2.1
  have hown := X.2.2.2.1
  have hts := X.2.2.2.2.1
  unfold fX12_takeTold_J53 at hf
  refine lv_aload_n hx hb dX12_takeTold_53 rfl (lv_at hl 0 rfl) ?_
  refine lv_dup hx hb dX12_takeTold_54 rfl ?_
  refine z_getI X hR (zlit hR zf_200) zs_200 (by decide) zfd_X12_182 rfl dX12_takeTold_55 ?_
  refine lv_aload_n hx hb dX12_takeTold_58 rfl (lv_at hl 0 rfl) ?_
  refine z_getI X hR (zlit hR zf_200) zs_200 (by decide) zfd_X12_185 rfl dX12_takeTold_59 ?_
  have kJ5 : ∀ v5 : Int32, v5 = (if (gI w 200 8) ≤ 0 then (1 : Int32) else (0 : Int32)) → W p l e R s m args below meth c H locs cells slots Q (F0 m 70 ls (.int v5 :: .int (gI w 200 7) :: .ref (ad 200) :: [])) := by
    intro v5 hv5
    replace hf := hf v5 hv5
    exact mX12_takeTold_J70 X hr hQ  hf hR (lv_sub hl [0, 1] rfl)
  refine lv_if_le (tgt := 69) hx hb dX12_takeTold_62 (by decide) (fun c5 => ?_) (fun c5 => ?_)
  · refine lv_iconst (v := (1 : Int32)) hx hb dX12_takeTold_69 (by decide) ?_
    exact kJ5 _ (if_pos c5).symm
  · refine lv_iconst (v := (0 : Int32)) hx hb dX12_takeTold_65 (by decide) ?_
    refine lv_goto (tgt := 70) hx hb dX12_takeTold_66 (by decide) ?_
    exact kJ5 _ (if_neg c5).symm
def fX12_takeTold_J36 (k : Int32 → zW → Prop) (t0 : Int32) (w : zW) : Prop :=
  ((¬ (gI w 200 8) = 0 →
    fX12_takeTold_J53 k t0 w) ∧
   ((gI w 200 8) = 0 →
    ((0 ≤ t0 →
      fX12_takeTold_J53 k t0 w) ∧
     (¬ 0 ≤ t0 →
      fX12_wrong (2 : Int32) w (fun w9 =>
      fX12_takeTold_J53 k t0 w9)))))
set_option maxHeartbeats 4000000 in
set_option maxRecDepth 100000 in
theorem mX12_takeTold_J36 {k : Int32 → zW → Prop} (X : zCx p s m args meth c cX12_takeTold 4 RX12 (some .int)) (hr : zRm R 3 cells slots) (hQ : zRetI p l e R s m args below meth c cells slots Q D dA true ad0 al0 ad al cX12_takeTold k)  {t0 : Int32} {w : zW} {H : Heap} {locs : List Loc} {ls : Array Slot} (hf : fX12_takeTold_J36 k t0 w) (hR : zSt D dA true ad0 al0 ad al w s H locs) (hl : lv_has ls 4 [(0, .ref (ad 200))]) : W p l e R s m args below meth c H locs cells slots Q (F0 m 36 ls [.int t0]) := by
  have hx := X.1
  have hb := X.2.1
  have hml := X.2.2.1
  have hown := X.2.2.2.1
  have hts := X.2.2.2.2.1
  unfold fX12_takeTold_J36 at hf
  refine lv_istore_n (lv' := [(3, .int t0), (0, .ref (ad 200))]) hx hb dX12_takeTold_36 rfl hl (by decide) rfl (fun ls hl => ?_)
  refine lv_aload_n hx hb dX12_takeTold_37 rfl (lv_at hl 1 rfl) ?_
  refine z_getI X hR (zlit hR zf_200) zs_200 (by decide) zfd_X12_185 rfl dX12_takeTold_38 ?_
  refine lv_if_ne (tgt := 53) hx hb dX12_takeTold_41 (by decide) (fun c4 => ?_) (fun c4 => ?_)
  · replace hf := hf.1 c4
    exact mX12_takeTold_J53 X hr hQ  hf hR (lv_sub hl [1, 0] rfl)
  · replace hf := hf.2 c4
    refine lv_iload_n hx hb dX12_takeTold_44 rfl (lv_at hl 0 rfl) ?_
    refine lv_if_ge (tgt := 53) hx hb dX12_takeTold_45 (by decide) (fun c8 => ?_) (fun c8 => ?_)
    · replace hf := hf.1 c8
      exact mX12_takeTold_J53 X hr hQ  hf hR (lv_sub hl [1, 0] rfl)
    · replace hf := hf.2 c8
      refine lv_aload_n hx hb dX12_takeTold_48 rfl (lv_at hl 1 rfl) ?_
      refine lv_iconst (v := (2 : Int32)) hx hb dX12_takeTold_49 (by decide) ?_
      refine z_callVV (fr1 := 0) (b := 200) (As := [.int (2 : Int32)]) (rest := []) X (hr.le (by decide)) hR zy_X12_wrong zq_619 (zlit hR zf_200) (by rw [zs_200]; rfl) rfl (mX12_wrong  hf) rfl hl (Nat.le_of_ble_eq_true rfl) dX12_takeTold_50 rfl (fun w9 H locs hf hR => ?_)
      exact mX12_takeTold_J53 X hr hQ  hf hR (lv_sub hl [1, 0] rfl)
def fX12_takeTold_J19 (k : Int32 → zW → Prop) (x1 : Int32) (x2 : Int32) (w : zW) : Prop :=
  (((gI w 200 8) ≤ 0 →
    fX12_nameAt x1 x2 w (fun r3 w3 =>
    fX12_takeTold_J36 k r3 w3)) ∧
   (¬ (gI w 200 8) ≤ 0 →
    fX12_takeTold_J36 k (-1 : Int32) w))
set_option maxHeartbeats 4000000 in
set_option maxRecDepth 100000 in
theorem mX12_takeTold_J19 {k : Int32 → zW → Prop} (X : zCx p s m args meth c cX12_takeTold 4 RX12 (some .int)) (hr : zRm R 3 cells slots) (hQ : zRetI p l e R s m args below meth c cells slots Q D dA true ad0 al0 ad al cX12_takeTold k)  {x1 : Int32} {x2 : Int32} {w : zW} {H : Heap} {locs : List Loc} {ls : Array Slot} (hf : fX12_takeTold_J19 k x1 x2 w) (hR : zSt D dA true ad0 al0 ad al w s H locs) (hl : lv_has ls 4 [(0, .ref (ad 200)), (1, .int x1), (2, .int x2)]) : W p l e R s m args below meth c H locs cells slots Q (F0 m 19 ls []) := by
  have hx := X.1
  have hb := X.2.1
  have hml := X.2.2.1
  have hown := X.2.2.2.1
  have hts := X.2.2.2.2.1
  unfold fX12_takeTold_J19 at hf
  refine lv_aload_n hx hb dX12_takeTold_19 rfl (lv_at hl 0 rfl) ?_
  refine z_getI X hR (zlit hR zf_200) zs_200 (by decide) zfd_X12_185 rfl dX12_takeTold_20 ?_
  refine lv_if_le (tgt := 30) hx hb dX12_takeTold_23 (by decide) (fun c2 => ?_) (fun c2 => ?_)
  · replace hf := hf.1 c2
    refine lv_aload_n hx hb dX12_takeTold_30 rfl (lv_at hl 0 rfl) ?_
    refine lv_iload_n hx hb dX12_takeTold_31 rfl (lv_at hl 1 rfl) ?_
    refine lv_iload_n hx hb dX12_takeTold_32 rfl (lv_at hl 2 rfl) ?_
    refine z_callVI (fr1 := 0) (b := 200) (As := [.int x1, .int x2]) (rest := []) X (hr.le (by decide)) hR zy_X12_nameAt zq_631 (zlit hR zf_200) (by rw [zs_200]; rfl) rfl (mX12_nameAt  hf) rfl hl (Nat.le_of_ble_eq_true rfl) dX12_takeTold_33 rfl (fun r3 w3 H locs hf hR => ?_)
    exact mX12_takeTold_J36 X hr hQ  hf hR (lv_sub hl [0] rfl)
  · replace hf := hf.2 c2
    refine lv_iconst (v := (-1 : Int32)) hx hb dX12_takeTold_26 (by decide) ?_
    refine lv_goto (tgt := 36) hx hb dX12_takeTold_27 (by decide) ?_
    exact mX12_takeTold_J36 X hr hQ  hf hR (lv_sub hl [0] rfl)
def fX12_takeTold (x1 : Int32) (x2 : Int32) (w : zW) (k : Int32 → zW → Prop) : Prop :=
  ((¬ (gI w 200 8) = 0 →
    fX12_takeTold_J19 k x1 x2 w) ∧
   ((gI w 200 8) = 0 →
    fX12_isName  w (fun r10 w10 =>
    ((¬ r10 = 0 →
      fX12_takeTold_J19 k x1 x2 w10) ∧
     (r10 = 0 →
      fX12_wrong (1 : Int32) w10 (fun w12 =>
      fX12_takeTold_J19 k x1 x2 w12))))))
set_option maxHeartbeats 4000000 in
set_option maxRecDepth 100000 in
theorem mX12_takeTold {l : Launch} {D : va_G} {dA : Nat → ClassId} {ad : Nat → Nat} {al : Nat → Prop} {w : zW} {k : Int32 → zW → Prop} {x1 : Int32} {x2 : Int32}   (hf : fX12_takeTold x1 x2 w k) : zmetI l yX12_takeTold cX12_takeTold 4 (some .int) 3 [.ref (ad 200), .int x1, .int x2] D dA true ad al w k := by
  refine zmetI_of (by decide) (Nat.le_of_ble_eq_true rfl) ?_
  intro p e R s m below meth c Q H ls args locs cells slots X hr hQ hR hl
  have hx := X.1
  have hb := X.2.1
  have hml := X.2.2.1
  have hown := X.2.2.2.1
  have hts := X.2.2.2.2.1
  unfold fX12_takeTold at hf
  have hl : lv_has ls 4 [(0, .ref (ad 200)), (1, .int x1), (2, .int x2)] := hl
  refine lv_aload_n hx hb dX12_takeTold_0 rfl (lv_at hl 0 rfl) ?_
  refine z_getI X hR (zlit hR zf_200) zs_200 (by decide) zfd_X12_185 rfl dX12_takeTold_1 ?_
  refine lv_if_ne (tgt := 19) hx hb dX12_takeTold_4 (by decide) (fun c1 => ?_) (fun c1 => ?_)
  · replace hf := hf.1 c1
    exact mX12_takeTold_J19 X hr hQ  hf hR (lv_sub hl [0, 1, 2] rfl)
  · replace hf := hf.2 c1
    refine lv_aload_n hx hb dX12_takeTold_7 rfl (lv_at hl 0 rfl) ?_
    refine z_callVI (fr1 := 2) (b := 200) (As := []) (rest := []) X (hr.le (by decide)) hR zy_X12_isName zq_623 (zlit hR zf_200) (by rw [zs_200]; rfl) rfl (mX12_isName  hf) rfl hl (Nat.le_of_ble_eq_true rfl) dX12_takeTold_8 rfl (fun r10 w10 H locs hf hR => ?_)
    refine lv_if_ne (tgt := 19) hx hb dX12_takeTold_11 (by decide) (fun c11 => ?_) (fun c11 => ?_)
    · replace hf := hf.1 c11
      exact mX12_takeTold_J19 X hr hQ  hf hR (lv_sub hl [0, 1, 2] rfl)
    · replace hf := hf.2 c11
      refine lv_aload_n hx hb dX12_takeTold_14 rfl (lv_at hl 0 rfl) ?_
      refine lv_iconst (v := (1 : Int32)) hx hb dX12_takeTold_15 (by decide) ?_
      refine z_callVV (fr1 := 0) (b := 200) (As := [.int (1 : Int32)]) (rest := []) X (hr.le (by decide)) hR zy_X12_wrong zq_619 (zlit hR zf_200) (by rw [zs_200]; rfl) rfl (mX12_wrong  hf) rfl hl (Nat.le_of_ble_eq_true rfl) dX12_takeTold_16 rfl (fun w12 H locs hf hR => ?_)
      exact mX12_takeTold_J19 X hr hQ  hf hR (lv_sub hl [0, 1, 2] rfl)
/-! X12_emit -/
def fX12_emit (x1 : Int32) (x2 : Int32) (w : zW) (k : zW → Prop) : Prop :=
  vp_in ((1100 : Int32) + (gI w 200 13)) 2200 ∧ 
  ∀ w2 : zW, w2 = sI w 212 ((1100 : Int32) + (gI w 200 13)).toNatClampNeg (x1 + ((16 : Int32) * x2)) →
  ∀ w3 : zW, w3 = sI w2 200 13 ((gI w2 200 13) + (1 : Int32)) →
  k w3
set_option maxHeartbeats 4000000 in
set_option maxRecDepth 100000 in
theorem mX12_emit {l : Launch} {D : va_G} {dA : Nat → ClassId} {ad : Nat → Nat} {al : Nat → Prop} {w : zW} {k : zW → Prop} {x1 : Int32} {x2 : Int32}   (hf : fX12_emit x1 x2 w k) : zmetV l yX12_emit cX12_emit 3 none 0 [.ref (ad 200), .int x1, .int x2] D dA true ad al w k := by
  refine zmetV_of (by decide) (Nat.le_of_ble_eq_true rfl) ?_
  intro p e R s m below meth c Q H ls args locs cells slots X hr hQ hR hl
  have hx := X.1
  have hb := X.2.1
  have hml := X.2.2.1
  have hown := X.2.2.2.1
  have hts := X.2.2.2.2.1
  unfold fX12_emit at hf
  have hl : lv_has ls 3 [(0, .ref (ad 200)), (1, .int x1), (2, .int x2)] := hl
  refine lv_aload_n hx hb dX12_emit_0 rfl (lv_at hl 0 rfl) ?_
  refine z_getS X hR (zlit hR zf_200) zs_200 (by decide) zfd_X12_85 rfl (r := 212) (by decide +kernel) dX12_emit_1 ?_
  refine lv_sipush (v := (1100 : Int32)) hx hb dX12_emit_4 (by decide) ?_
  refine lv_aload_n hx hb dX12_emit_7 rfl (lv_at hl 0 rfl) ?_
  refine z_getI X hR (zlit hR zf_200) zs_200 (by decide) zfd_X12_214 rfl dX12_emit_8 ?_
  refine lv_iadd hx hb dX12_emit_11 ?_
  refine lv_iload_n hx hb dX12_emit_12 rfl (lv_at hl 1 rfl) ?_
  refine lv_bipush (v := (16 : Int32)) hx hb dX12_emit_13 (by decide) ?_
  refine lv_iload_n hx hb dX12_emit_15 rfl (lv_at hl 2 rfl) ?_
  refine lv_imul hx hb dX12_emit_16 ?_
  refine lv_iadd hx hb dX12_emit_17 ?_
  obtain ⟨hb1, hf⟩ := hf
  refine z_iast X hR (zlit hR zf_212) zs_212 zl_212 hb1 dX12_emit_18 (fun H locs hR => ?_)
  obtain ⟨w2, hw2⟩ : ∃ z : zW, z = sI w 212 ((1100 : Int32) + (gI w 200 13)).toNatClampNeg (x1 + ((16 : Int32) * x2)) := ⟨_, rfl⟩
  rw [← hw2] at hR
  replace hf := hf w2 hw2
  refine lv_aload_n hx hb dX12_emit_19 rfl (lv_at hl 0 rfl) ?_
  refine lv_dup hx hb dX12_emit_20 rfl ?_
  refine z_getI X hR (zlit hR zf_200) zs_200 (by decide) zfd_X12_214 rfl dX12_emit_21 ?_
  refine lv_iconst (v := (1 : Int32)) hx hb dX12_emit_24 (by decide) ?_
  refine lv_iadd hx hb dX12_emit_25 ?_
  refine z_putI X hR (zlit hR zf_200) zs_200 (by decide) zfp_X12_214 rfl dX12_emit_26 (fun H locs hR => ?_)
  obtain ⟨w3, hw3⟩ : ∃ z : zW, z = sI w2 200 13 ((gI w2 200 13) + (1 : Int32)) := ⟨_, rfl⟩
  rw [← hw3] at hR
  replace hf := hf w3 hw3
  exact hQ _ _ _ _ _ hf hR dX12_emit_29
/-! X12_hasSign -/
def fX12_hasSign_J20 (k : Int32 → zW → Prop) (x2 : Int32) (t0 : Int32) (t1 : Int32) (w : zW) : Prop :=
  ∀ w3 : zW, w3 = sI w 200 7 (t1 + t0) →
  zb01 x2 ∧ k x2 w3
set_option maxHeartbeats 4000000 in
set_option maxRecDepth 100000 in
theorem mX12_hasSign_J20 {k : Int32 → zW → Prop} (X : zCx p s m args meth c cX12_hasSign 3 RX12 (some .boolean)) (hr : zRm R 1 cells slots) (hQ : zRetZ p l e R s m args below meth c cells slots Q D dA true ad0 al0 ad al cX12_hasSign k)  {x2 : Int32} {t0 : Int32} {t1 : Int32} {w : zW} {H : Heap} {locs : List Loc} {ls : Array Slot} (hf : fX12_hasSign_J20 k x2 t0 t1 w) (hR : zSt D dA true ad0 al0 ad al w s H locs) (hl : lv_has ls 3 [(2, .int x2)]) : W p l e R s m args below meth c H locs cells slots Q (F0 m 20 ls [.int t0, .int t1, .ref (ad 200)]) := by
  have hx := X.1
  have hb := X.2.1
  have hml := X.2.2.1
  have hown := X.2.2.2.1
  have hts := X.2.2.2.2.1
  unfold fX12_hasSign_J20 at hf
  refine lv_iadd hx hb dX12_hasSign_20 ?_
  refine z_putI X hR (zlit hR zf_200) zs_200 (by decide) zfp_X12_182 rfl dX12_hasSign_21 (fun H locs hR => ?_)
  obtain ⟨w3, hw3⟩ : ∃ z : zW, z = sI w 200 7 (t1 + t0) := ⟨_, rfl⟩
  rw [← hw3] at hR
  replace hf := hf w3 hw3
  refine lv_iload_n hx hb dX12_hasSign_24 rfl (lv_at hl 0 rfl) ?_
  obtain ⟨h01, hf⟩ := hf
  exact hQ _ _ _ _ _ _ h01 hf hR dX12_hasSign_25
def fX12_hasSign (x1 : Int32) (w : zW) (k : Int32 → zW → Prop) : Prop :=
  fX12_isSign x1 w (fun r1 w1 =>
  ∀ v2 : Int32, v2 = (if r1 = 0 then (0 : Int32) else (1 : Int32)) →
  fX12_hasSign_J20 k r1 v2 (gI w1 200 7) w1)
set_option maxHeartbeats 4000000 in
set_option maxRecDepth 100000 in
theorem mX12_hasSign {l : Launch} {D : va_G} {dA : Nat → ClassId} {ad : Nat → Nat} {al : Nat → Prop} {w : zW} {k : Int32 → zW → Prop} {x1 : Int32}   (hf : fX12_hasSign x1 w k) : zmetI l yX12_hasSign cX12_hasSign 3 (some .boolean) 1 [.ref (ad 200), .int x1] D dA true ad al w k := by
  refine zmetZ_of (by decide) (Nat.le_of_ble_eq_true rfl) ?_
  intro p e R s m below meth c Q H ls args locs cells slots X hr hQ hR hl
  have hx := X.1
  have hb := X.2.1
  have hml := X.2.2.1
  have hown := X.2.2.2.1
  have hts := X.2.2.2.2.1
  unfold fX12_hasSign at hf
  have hl : lv_has ls 3 [(0, .ref (ad 200)), (1, .int x1)] := hl
  refine lv_aload_n hx hb dX12_hasSign_0 rfl (lv_at hl 0 rfl) ?_
  refine lv_iload_n hx hb dX12_hasSign_1 rfl (lv_at hl 1 rfl) ?_
  refine z_callVI (fr1 := 0) (b := 200) (As := [.int x1]) (rest := []) X (hr.le (by decide)) hR zy_X12_isSign zq_648 (zlit hR zf_200) (by rw [zs_200]; rfl) rfl (mX12_isSign  hf) rfl hl (Nat.le_of_ble_eq_true rfl) dX12_hasSign_2 rfl (fun r1 w1 H locs hf hR => ?_)
  refine lv_istore_n (lv' := [(2, .int r1), (0, .ref (ad 200)), (1, .int x1)]) hx hb dX12_hasSign_5 rfl hl (by decide) rfl (fun ls hl => ?_)
  refine lv_aload_n hx hb dX12_hasSign_6 rfl (lv_at hl 1 rfl) ?_
  refine lv_dup hx hb dX12_hasSign_7 rfl ?_
  refine z_getI X hR (zlit hR zf_200) zs_200 (by decide) zfd_X12_182 rfl dX12_hasSign_8 ?_
  refine lv_iload_n hx hb dX12_hasSign_11 rfl (lv_at hl 0 rfl) ?_
  have kJ2 : ∀ v2 : Int32, v2 = (if r1 = 0 then (0 : Int32) else (1 : Int32)) → W p l e R s m args below meth c H locs cells slots Q (F0 m 20 ls (.int v2 :: .int (gI w1 200 7) :: .ref (ad 200) :: [])) := by
    intro v2 hv2
    replace hf := hf v2 hv2
    exact mX12_hasSign_J20 X hr hQ  hf hR (lv_sub hl [0] rfl)
  refine lv_if_eq (tgt := 19) hx hb dX12_hasSign_12 (by decide) (fun c2 => ?_) (fun c2 => ?_)
  · refine lv_iconst (v := (0 : Int32)) hx hb dX12_hasSign_19 (by decide) ?_
    exact kJ2 _ (if_pos c2).symm
  · refine lv_iconst (v := (1 : Int32)) hx hb dX12_hasSign_15 (by decide) ?_
    refine lv_goto (tgt := 20) hx hb dX12_hasSign_16 (by decide) ?_
    exact kJ2 _ (if_neg c2).symm
/-! X12_hasWord -/
def fX12_hasWord_J20 (k : Int32 → zW → Prop) (x2 : Int32) (t0 : Int32) (t1 : Int32) (w : zW) : Prop :=
  ∀ w3 : zW, w3 = sI w 200 7 (t1 + t0) →
  zb01 x2 ∧ k x2 w3
set_option maxHeartbeats 4000000 in
set_option maxRecDepth 100000 in
theorem mX12_hasWord_J20 {k : Int32 → zW → Prop} (X : zCx p s m args meth c cX12_hasWord 3 RX12 (some .boolean)) (hr : zRm R 1 cells slots) (hQ : zRetZ p l e R s m args below meth c cells slots Q D dA true ad0 al0 ad al cX12_hasWord k)  {x2 : Int32} {t0 : Int32} {t1 : Int32} {w : zW} {H : Heap} {locs : List Loc} {ls : Array Slot} (hf : fX12_hasWord_J20 k x2 t0 t1 w) (hR : zSt D dA true ad0 al0 ad al w s H locs) (hl : lv_has ls 3 [(2, .int x2)]) : W p l e R s m args below meth c H locs cells slots Q (F0 m 20 ls [.int t0, .int t1, .ref (ad 200)]) := by
  have hx := X.1
  have hb := X.2.1
  have hml := X.2.2.1
  have hown := X.2.2.2.1
  have hts := X.2.2.2.2.1
  unfold fX12_hasWord_J20 at hf
  refine lv_iadd hx hb dX12_hasWord_20 ?_
  refine z_putI X hR (zlit hR zf_200) zs_200 (by decide) zfp_X12_182 rfl dX12_hasWord_21 (fun H locs hR => ?_)
  obtain ⟨w3, hw3⟩ : ∃ z : zW, z = sI w 200 7 (t1 + t0) := ⟨_, rfl⟩
  rw [← hw3] at hR
  replace hf := hf w3 hw3
  refine lv_iload_n hx hb dX12_hasWord_24 rfl (lv_at hl 0 rfl) ?_
  obtain ⟨h01, hf⟩ := hf
  exact hQ _ _ _ _ _ _ h01 hf hR dX12_hasWord_25
def fX12_hasWord (x1 : Int32) (w : zW) (k : Int32 → zW → Prop) : Prop :=
  fX12_isWord x1 w (fun r1 w1 =>
  ∀ v2 : Int32, v2 = (if r1 = 0 then (0 : Int32) else (1 : Int32)) →
  fX12_hasWord_J20 k r1 v2 (gI w1 200 7) w1)
set_option maxHeartbeats 4000000 in
set_option maxRecDepth 100000 in
theorem mX12_hasWord {l : Launch} {D : va_G} {dA : Nat → ClassId} {ad : Nat → Nat} {al : Nat → Prop} {w : zW} {k : Int32 → zW → Prop} {x1 : Int32}   (hf : fX12_hasWord x1 w k) : zmetI l yX12_hasWord cX12_hasWord 3 (some .boolean) 1 [.ref (ad 200), .int x1] D dA true ad al w k := by
  refine zmetZ_of (by decide) (Nat.le_of_ble_eq_true rfl) ?_
  intro p e R s m below meth c Q H ls args locs cells slots X hr hQ hR hl
  have hx := X.1
  have hb := X.2.1
  have hml := X.2.2.1
  have hown := X.2.2.2.1
  have hts := X.2.2.2.2.1
  unfold fX12_hasWord at hf
  have hl : lv_has ls 3 [(0, .ref (ad 200)), (1, .int x1)] := hl
  refine lv_aload_n hx hb dX12_hasWord_0 rfl (lv_at hl 0 rfl) ?_
  refine lv_iload_n hx hb dX12_hasWord_1 rfl (lv_at hl 1 rfl) ?_
  refine z_callVI (fr1 := 0) (b := 200) (As := [.int x1]) (rest := []) X (hr.le (by decide)) hR zy_X12_isWord zq_611 (zlit hR zf_200) (by rw [zs_200]; rfl) rfl (mX12_isWord  hf) rfl hl (Nat.le_of_ble_eq_true rfl) dX12_hasWord_2 rfl (fun r1 w1 H locs hf hR => ?_)
  refine lv_istore_n (lv' := [(2, .int r1), (0, .ref (ad 200)), (1, .int x1)]) hx hb dX12_hasWord_5 rfl hl (by decide) rfl (fun ls hl => ?_)
  refine lv_aload_n hx hb dX12_hasWord_6 rfl (lv_at hl 1 rfl) ?_
  refine lv_dup hx hb dX12_hasWord_7 rfl ?_
  refine z_getI X hR (zlit hR zf_200) zs_200 (by decide) zfd_X12_182 rfl dX12_hasWord_8 ?_
  refine lv_iload_n hx hb dX12_hasWord_11 rfl (lv_at hl 0 rfl) ?_
  have kJ2 : ∀ v2 : Int32, v2 = (if r1 = 0 then (0 : Int32) else (1 : Int32)) → W p l e R s m args below meth c H locs cells slots Q (F0 m 20 ls (.int v2 :: .int (gI w1 200 7) :: .ref (ad 200) :: [])) := by
    intro v2 hv2
    replace hf := hf v2 hv2
    exact mX12_hasWord_J20 X hr hQ  hf hR (lv_sub hl [0] rfl)
  refine lv_if_eq (tgt := 19) hx hb dX12_hasWord_12 (by decide) (fun c2 => ?_) (fun c2 => ?_)
  · refine lv_iconst (v := (0 : Int32)) hx hb dX12_hasWord_19 (by decide) ?_
    exact kJ2 _ (if_pos c2).symm
  · refine lv_iconst (v := (1 : Int32)) hx hb dX12_hasWord_15 (by decide) ?_
    refine lv_goto (tgt := 20) hx hb dX12_hasWord_16 (by decide) ?_
    exact kJ2 _ (if_neg c2).symm
end ZM
