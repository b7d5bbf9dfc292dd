theorem dX12_thrown_0 : decode cX12_thrown 0 = .ok (.aload_n 0, 1) := by decide +kernel
theorem dX12_thrown_1 : decode cX12_thrown 1 = .ok (.getfield 1, 3) := by decide +kernel
theorem dX12_thrown_4 : decode cX12_thrown 4 = .ok (.ireturn, 1) := by decide +kernel
theorem dX12_lay_0 : decode cX12_lay 0 = .ok (.bipush 56, 2) := by decide +kernel
theorem dX12_lay_2 : decode cX12_lay 2 = .ok (.istore_n 3, 1) := by decide +kernel
theorem dX12_lay_3 : decode cX12_lay 3 = .ok (.iload_n 3, 1) := by decide +kernel
theorem dX12_lay_4 : decode cX12_lay 4 = .ok (.ifCond .lt 71, 3) := by decide +kernel
theorem dX12_lay_7 : decode cX12_lay 7 = .ok (.lload_n 1, 1) := by decide +kernel
theorem dX12_lay_8 : decode cX12_lay 8 = .ok (.iload_n 3, 1) := by decide +kernel
theorem dX12_lay_9 : decode cX12_lay 9 = .ok (.lshr, 1) := by decide +kernel
theorem dX12_lay_10 : decode cX12_lay 10 = .ok (.l2i, 1) := by decide +kernel
theorem dX12_lay_11 : decode cX12_lay 11 = .ok (.sipush 255, 3) := by decide +kernel
theorem dX12_lay_14 : decode cX12_lay 14 = .ok (.iand, 1) := by decide +kernel
theorem dX12_lay_15 : decode cX12_lay 15 = .ok (.istore 4, 2) := by decide +kernel
theorem dX12_lay_17 : decode cX12_lay 17 = .ok (.iload 4, 2) := by decide +kernel
theorem dX12_lay_19 : decode cX12_lay 19 = .ok (.bipush 10, 2) := by decide +kernel
theorem dX12_lay_21 : decode cX12_lay 21 = .ok (.if_icmp .eq 17, 3) := by decide +kernel
theorem dX12_lay_24 : decode cX12_lay 24 = .ok (.iload 4, 2) := by decide +kernel
theorem dX12_lay_26 : decode cX12_lay 26 = .ok (.bipush 32, 2) := by decide +kernel
theorem dX12_lay_28 : decode cX12_lay 28 = .ok (.if_icmp .lt 41, 3) := by decide +kernel
theorem dX12_lay_31 : decode cX12_lay 31 = .ok (.iload 4, 2) := by decide +kernel
theorem dX12_lay_33 : decode cX12_lay 33 = .ok (.bipush 126, 2) := by decide +kernel
theorem dX12_lay_35 : decode cX12_lay 35 = .ok (.if_icmp .gt 34, 3) := by decide +kernel
theorem dX12_lay_38 : decode cX12_lay 38 = .ok (.aload_n 0, 1) := by decide +kernel
theorem dX12_lay_39 : decode cX12_lay 39 = .ok (.getfield 11, 3) := by decide +kernel
theorem dX12_lay_42 : decode cX12_lay 42 = .ok (.sipush 1000, 3) := by decide +kernel
theorem dX12_lay_45 : decode cX12_lay 45 = .ok (.if_icmp .ge 24, 3) := by decide +kernel
theorem dX12_lay_48 : decode cX12_lay 48 = .ok (.aload_n 0, 1) := by decide +kernel
theorem dX12_lay_49 : decode cX12_lay 49 = .ok (.getfield 14, 3) := by decide +kernel
theorem dX12_lay_52 : decode cX12_lay 52 = .ok (.aload_n 0, 1) := by decide +kernel
theorem dX12_lay_53 : decode cX12_lay 53 = .ok (.getfield 11, 3) := by decide +kernel
theorem dX12_lay_56 : decode cX12_lay 56 = .ok (.iload 4, 2) := by decide +kernel
theorem dX12_lay_58 : decode cX12_lay 58 = .ok (.iastore, 1) := by decide +kernel
theorem dX12_lay_59 : decode cX12_lay 59 = .ok (.aload_n 0, 1) := by decide +kernel
theorem dX12_lay_60 : decode cX12_lay 60 = .ok (.dup, 1) := by decide +kernel
theorem dX12_lay_61 : decode cX12_lay 61 = .ok (.getfield 11, 3) := by decide +kernel
theorem dX12_lay_64 : decode cX12_lay 64 = .ok (.iconst 1, 1) := by decide +kernel
theorem dX12_lay_65 : decode cX12_lay 65 = .ok (.iadd, 1) := by decide +kernel
theorem dX12_lay_66 : decode cX12_lay 66 = .ok (.putfield 11, 3) := by decide +kernel
theorem dX12_lay_69 : decode cX12_lay 69 = .ok (.iinc 3 (-8), 3) := by decide +kernel
theorem dX12_lay_72 : decode cX12_lay 72 = .ok (.goto (-69), 3) := by decide +kernel
theorem dX12_lay_75 : decode cX12_lay 75 = .ok (.return_, 1) := by decide +kernel
theorem dX12_feed_0 : decode cX12_feed 0 = .ok (.aload_n 0, 1) := by decide +kernel
theorem dX12_feed_1 : decode cX12_feed 1 = .ok (.iconst 0, 1) := by decide +kernel
theorem dX12_feed_2 : decode cX12_feed 2 = .ok (.putfield 1, 3) := by decide +kernel
theorem dX12_feed_5 : decode cX12_feed 5 = .ok (.aload_n 0, 1) := by decide +kernel
theorem dX12_feed_6 : decode cX12_feed 6 = .ok (.lload_n 1, 1) := by decide +kernel
theorem dX12_feed_7 : decode cX12_feed 7 = .ok (.invokevirtual 7, 3) := by decide +kernel
theorem dX12_feed_10 : decode cX12_feed 10 = .ok (.aload_n 0, 1) := by decide +kernel
theorem dX12_feed_11 : decode cX12_feed 11 = .ok (.lload_n 3, 1) := by decide +kernel
theorem dX12_feed_12 : decode cX12_feed 12 = .ok (.invokevirtual 7, 3) := by decide +kernel
theorem dX12_feed_15 : decode cX12_feed 15 = .ok (.aload_n 0, 1) := by decide +kernel
theorem dX12_feed_16 : decode cX12_feed 16 = .ok (.lload 5, 2) := by decide +kernel
theorem dX12_feed_18 : decode cX12_feed 18 = .ok (.invokevirtual 7, 3) := by decide +kernel
theorem dX12_feed_21 : decode cX12_feed 21 = .ok (.aload_n 0, 1) := by decide +kernel
theorem dX12_feed_22 : decode cX12_feed 22 = .ok (.getfield 11, 3) := by decide +kernel
theorem dX12_feed_25 : decode cX12_feed 25 = .ok (.ireturn, 1) := by decide +kernel
theorem dX12_forgets_0 : decode cX12_forgets 0 = .ok (.iconst 0, 1) := by decide +kernel
theorem dX12_forgets_1 : decode cX12_forgets 1 = .ok (.istore_n 1, 1) := by decide +kernel
theorem dX12_forgets_2 : decode cX12_forgets 2 = .ok (.iload_n 1, 1) := by decide +kernel
theorem dX12_forgets_3 : decode cX12_forgets 3 = .ok (.iconst 4, 1) := by decide +kernel
theorem dX12_forgets_4 : decode cX12_forgets 4 = .ok (.if_icmp .ge 16, 3) := by decide +kernel
theorem dX12_forgets_7 : decode cX12_forgets 7 = .ok (.aload_n 0, 1) := by decide +kernel
theorem dX12_forgets_8 : decode cX12_forgets 8 = .ok (.getfield 103, 3) := by decide +kernel
theorem dX12_forgets_11 : decode cX12_forgets 11 = .ok (.iload_n 1, 1) := by decide +kernel
theorem dX12_forgets_12 : decode cX12_forgets 12 = .ok (.iconst (-1), 1) := by decide +kernel
theorem dX12_forgets_13 : decode cX12_forgets 13 = .ok (.iastore, 1) := by decide +kernel
theorem dX12_forgets_14 : decode cX12_forgets 14 = .ok (.iinc 1 1, 3) := by decide +kernel
theorem dX12_forgets_17 : decode cX12_forgets 17 = .ok (.goto (-15), 3) := by decide +kernel
theorem dX12_forgets_20 : decode cX12_forgets 20 = .ok (.iconst 0, 1) := by decide +kernel
theorem dX12_forgets_21 : decode cX12_forgets 21 = .ok (.istore_n 1, 1) := by decide +kernel
theorem dX12_forgets_22 : decode cX12_forgets 22 = .ok (.iload_n 1, 1) := by decide +kernel
theorem dX12_forgets_23 : decode cX12_forgets 23 = .ok (.bipush 8, 2) := by decide +kernel
theorem dX12_forgets_25 : decode cX12_forgets 25 = .ok (.if_icmp .ge 26, 3) := by decide +kernel
theorem dX12_forgets_28 : decode cX12_forgets 28 = .ok (.aload_n 0, 1) := by decide +kernel
theorem dX12_forgets_29 : decode cX12_forgets 29 = .ok (.getfield 103, 3) := by decide +kernel
theorem dX12_forgets_32 : decode cX12_forgets 32 = .ok (.iconst 4, 1) := by decide +kernel
theorem dX12_forgets_33 : decode cX12_forgets 33 = .ok (.iload_n 1, 1) := by decide +kernel
theorem dX12_forgets_34 : decode cX12_forgets 34 = .ok (.iadd, 1) := by decide +kernel
theorem dX12_forgets_35 : decode cX12_forgets 35 = .ok (.aload_n 0, 1) := by decide +kernel
theorem dX12_forgets_36 : decode cX12_forgets 36 = .ok (.getfield 79, 3) := by decide +kernel
theorem dX12_forgets_39 : decode cX12_forgets 39 = .ok (.bipush 8, 2) := by decide +kernel
theorem dX12_forgets_41 : decode cX12_forgets 41 = .ok (.iload_n 1, 1) := by decide +kernel
theorem dX12_forgets_42 : decode cX12_forgets 42 = .ok (.iadd, 1) := by decide +kernel
theorem dX12_forgets_43 : decode cX12_forgets 43 = .ok (.iaload, 1) := by decide +kernel
theorem dX12_forgets_44 : decode cX12_forgets 44 = .ok (.iastore, 1) := by decide +kernel
theorem dX12_forgets_45 : decode cX12_forgets 45 = .ok (.iinc 1 1, 3) := by decide +kernel
theorem dX12_forgets_48 : decode cX12_forgets 48 = .ok (.goto (-26), 3) := by decide +kernel
theorem dX12_forgets_51 : decode cX12_forgets 51 = .ok (.return_, 1) := by decide +kernel
theorem dX12_itemOf_0 : decode cX12_itemOf 0 = .ok (.aload_n 0, 1) := by decide +kernel
theorem dX12_itemOf_1 : decode cX12_itemOf 1 = .ok (.getfield 82, 3) := by decide +kernel
theorem dX12_itemOf_4 : decode cX12_itemOf 4 = .ok (.bipush 60, 2) := by decide +kernel
theorem dX12_itemOf_6 : decode cX12_itemOf 6 = .ok (.iload_n 1, 1) := by decide +kernel
theorem dX12_itemOf_7 : decode cX12_itemOf 7 = .ok (.imul, 1) := by decide +kernel
theorem dX12_itemOf_8 : decode cX12_itemOf 8 = .ok (.iload_n 2, 1) := by decide +kernel
theorem dX12_itemOf_9 : decode cX12_itemOf 9 = .ok (.iadd, 1) := by decide +kernel
theorem dX12_itemOf_10 : decode cX12_itemOf 10 = .ok (.iaload, 1) := by decide +kernel
theorem dX12_itemOf_11 : decode cX12_itemOf 11 = .ok (.ireturn, 1) := by decide +kernel
theorem dX12_longOf_0 : decode cX12_longOf 0 = .ok (.aload_n 0, 1) := by decide +kernel
theorem dX12_longOf_1 : decode cX12_longOf 1 = .ok (.getfield 79, 3) := by decide +kernel
theorem dX12_longOf_4 : decode cX12_longOf 4 = .ok (.bipush 16, 2) := by decide +kernel
theorem dX12_longOf_6 : decode cX12_longOf 6 = .ok (.iload_n 1, 1) := by decide +kernel
theorem dX12_longOf_7 : decode cX12_longOf 7 = .ok (.iadd, 1) := by decide +kernel
theorem dX12_longOf_8 : decode cX12_longOf 8 = .ok (.iaload, 1) := by decide +kernel
theorem dX12_longOf_9 : decode cX12_longOf 9 = .ok (.ireturn, 1) := by decide +kernel
theorem dX12_rows_0 : decode cX12_rows 0 = .ok (.aload_n 0, 1) := by decide +kernel
theorem dX12_rows_1 : decode cX12_rows 1 = .ok (.getfield 79, 3) := by decide +kernel
theorem dX12_rows_4 : decode cX12_rows 4 = .ok (.iconst 2, 1) := by decide +kernel
theorem dX12_rows_5 : decode cX12_rows 5 = .ok (.iaload, 1) := by decide +kernel
theorem dX12_rows_6 : decode cX12_rows 6 = .ok (.ireturn, 1) := by decide +kernel
theorem dX12_usesOf_0 : decode cX12_usesOf 0 = .ok (.iconst 0, 1) := by decide +kernel
theorem dX12_usesOf_1 : decode cX12_usesOf 1 = .ok (.istore_n 2, 1) := by decide +kernel
theorem dX12_usesOf_2 : decode cX12_usesOf 2 = .ok (.iconst 0, 1) := by decide +kernel
theorem dX12_usesOf_3 : decode cX12_usesOf 3 = .ok (.istore_n 3, 1) := by decide +kernel
theorem dX12_usesOf_4 : decode cX12_usesOf 4 = .ok (.iload_n 3, 1) := by decide +kernel
theorem dX12_usesOf_5 : decode cX12_usesOf 5 = .ok (.aload_n 0, 1) := by decide +kernel
theorem dX12_usesOf_6 : decode cX12_usesOf 6 = .ok (.invokevirtual 270, 3) := by decide +kernel
theorem dX12_usesOf_9 : decode cX12_usesOf 9 = .ok (.if_icmp .ge 22, 3) := by decide +kernel
theorem dX12_usesOf_12 : decode cX12_usesOf 12 = .ok (.iload_n 2, 1) := by decide +kernel
theorem dX12_usesOf_13 : decode cX12_usesOf 13 = .ok (.aload_n 0, 1) := by decide +kernel
theorem dX12_usesOf_14 : decode cX12_usesOf 14 = .ok (.getfield 116, 3) := by decide +kernel
theorem dX12_usesOf_17 : decode cX12_usesOf 17 = .ok (.iconst 4, 1) := by decide +kernel
theorem dX12_usesOf_18 : decode cX12_usesOf 18 = .ok (.iload_n 3, 1) := by decide +kernel
theorem dX12_usesOf_19 : decode cX12_usesOf 19 = .ok (.imul, 1) := by decide +kernel
theorem dX12_usesOf_20 : decode cX12_usesOf 20 = .ok (.iload_n 1, 1) := by decide +kernel
theorem dX12_usesOf_21 : decode cX12_usesOf 21 = .ok (.iadd, 1) := by decide +kernel
theorem dX12_usesOf_22 : decode cX12_usesOf 22 = .ok (.iaload, 1) := by decide +kernel
theorem dX12_usesOf_23 : decode cX12_usesOf 23 = .ok (.iadd, 1) := by decide +kernel
theorem dX12_usesOf_24 : decode cX12_usesOf 24 = .ok (.istore_n 2, 1) := by decide +kernel
theorem dX12_usesOf_25 : decode cX12_usesOf 25 = .ok (.iinc 3 1, 3) := by decide +kernel
theorem dX12_usesOf_28 : decode cX12_usesOf 28 = .ok (.goto (-24), 3) := by decide +kernel
theorem dX12_usesOf_31 : decode cX12_usesOf 31 = .ok (.iload_n 2, 1) := by decide +kernel
theorem dX12_usesOf_32 : decode cX12_usesOf 32 = .ok (.ireturn, 1) := by decide +kernel
theorem dX12_worked_0 : decode cX12_worked 0 = .ok (.iload_n 0, 1) := by decide +kernel
theorem dX12_worked_1 : decode cX12_worked 1 = .ok (.tableswitch 87 4 9 #[39, 43, 47, 51, 62, 73], 39) := by decide +kernel
theorem dX12_worked_40 : decode cX12_worked 40 = .ok (.iload_n 1, 1) := by decide +kernel
theorem dX12_worked_41 : decode cX12_worked 41 = .ok (.iload_n 2, 1) := by decide +kernel
theorem dX12_worked_42 : decode cX12_worked 42 = .ok (.iadd, 1) := by decide +kernel
theorem dX12_worked_43 : decode cX12_worked 43 = .ok (.ireturn, 1) := by decide +kernel
theorem dX12_worked_44 : decode cX12_worked 44 = .ok (.iload_n 1, 1) := by decide +kernel
theorem dX12_worked_45 : decode cX12_worked 45 = .ok (.iload_n 2, 1) := by decide +kernel
theorem dX12_worked_46 : decode cX12_worked 46 = .ok (.isub, 1) := by decide +kernel
theorem dX12_worked_47 : decode cX12_worked 47 = .ok (.ireturn, 1) := by decide +kernel
theorem dX12_worked_48 : decode cX12_worked 48 = .ok (.iload_n 1, 1) := by decide +kernel
theorem dX12_worked_49 : decode cX12_worked 49 = .ok (.iload_n 2, 1) := by decide +kernel
theorem dX12_worked_50 : decode cX12_worked 50 = .ok (.imul, 1) := by decide +kernel
theorem dX12_worked_51 : decode cX12_worked 51 = .ok (.ireturn, 1) := by decide +kernel
theorem dX12_worked_52 : decode cX12_worked 52 = .ok (.iload_n 1, 1) := by decide +kernel
theorem dX12_worked_53 : decode cX12_worked 53 = .ok (.iload_n 2, 1) := by decide +kernel
theorem dX12_worked_54 : decode cX12_worked 54 = .ok (.if_icmp .ge 7, 3) := by decide +kernel
theorem dX12_worked_57 : decode cX12_worked 57 = .ok (.iconst 1, 1) := by decide +kernel
theorem dX12_worked_58 : decode cX12_worked 58 = .ok (.goto 4, 3) := by decide +kernel
theorem dX12_worked_61 : decode cX12_worked 61 = .ok (.iconst 0, 1) := by decide +kernel
theorem dX12_worked_62 : decode cX12_worked 62 = .ok (.ireturn, 1) := by decide +kernel
theorem dX12_worked_63 : decode cX12_worked 63 = .ok (.iload_n 1, 1) := by decide +kernel
theorem dX12_worked_64 : decode cX12_worked 64 = .ok (.iload_n 2, 1) := by decide +kernel
theorem dX12_worked_65 : decode cX12_worked 65 = .ok (.if_icmp .ne 7, 3) := by decide +kernel
theorem dX12_worked_68 : decode cX12_worked 68 = .ok (.iconst 1, 1) := by decide +kernel
theorem dX12_worked_69 : decode cX12_worked 69 = .ok (.goto 4, 3) := by decide +kernel
theorem dX12_worked_72 : decode cX12_worked 72 = .ok (.iconst 0, 1) := by decide +kernel
theorem dX12_worked_73 : decode cX12_worked 73 = .ok (.ireturn, 1) := by decide +kernel
theorem dX12_worked_74 : decode cX12_worked 74 = .ok (.iload_n 1, 1) := by decide +kernel
theorem dX12_worked_75 : decode cX12_worked 75 = .ok (.ifCond .eq 11, 3) := by decide +kernel
theorem dX12_worked_78 : decode cX12_worked 78 = .ok (.iload_n 2, 1) := by decide +kernel
theorem dX12_worked_79 : decode cX12_worked 79 = .ok (.ifCond .eq 7, 3) := by decide +kernel
theorem dX12_worked_82 : decode cX12_worked 82 = .ok (.iconst 1, 1) := by decide +kernel
theorem dX12_worked_83 : decode cX12_worked 83 = .ok (.goto 4, 3) := by decide +kernel
theorem dX12_worked_86 : decode cX12_worked 86 = .ok (.iconst 0, 1) := by decide +kernel
theorem dX12_worked_87 : decode cX12_worked 87 = .ok (.ireturn, 1) := by decide +kernel
theorem dX12_worked_88 : decode cX12_worked 88 = .ok (.iload_n 1, 1) := by decide +kernel
theorem dX12_worked_89 : decode cX12_worked 89 = .ok (.ifCond .ne 7, 3) := by decide +kernel
theorem dX12_worked_92 : decode cX12_worked 92 = .ok (.iload_n 2, 1) := by decide +kernel
theorem dX12_worked_93 : decode cX12_worked 93 = .ok (.ifCond .eq 7, 3) := by decide +kernel
theorem dX12_worked_96 : decode cX12_worked 96 = .ok (.iconst 1, 1) := by decide +kernel
theorem dX12_worked_97 : decode cX12_worked 97 = .ok (.goto 4, 3) := by decide +kernel
theorem dX12_worked_100 : decode cX12_worked 100 = .ok (.iconst 0, 1) := by decide +kernel
theorem dX12_worked_101 : decode cX12_worked 101 = .ok (.ireturn, 1) := by decide +kernel
theorem dX12_worthAt_0 : decode cX12_worthAt 0 = .ok (.iconst 0, 1) := by decide +kernel
theorem dX12_worthAt_1 : decode cX12_worthAt 1 = .ok (.istore_n 2, 1) := by decide +kernel
theorem dX12_worthAt_2 : decode cX12_worthAt 2 = .ok (.iload_n 1, 1) := by decide +kernel
theorem dX12_worthAt_3 : decode cX12_worthAt 3 = .ok (.istore_n 3, 1) := by decide +kernel
theorem dX12_worthAt_4 : decode cX12_worthAt 4 = .ok (.aload_n 0, 1) := by decide +kernel
theorem dX12_worthAt_5 : decode cX12_worthAt 5 = .ok (.getfield 85, 3) := by decide +kernel
theorem dX12_worthAt_8 : decode cX12_worthAt 8 = .ok (.iload_n 3, 1) := by decide +kernel
theorem dX12_worthAt_9 : decode cX12_worthAt 9 = .ok (.iaload, 1) := by decide +kernel
theorem dX12_worthAt_10 : decode cX12_worthAt 10 = .ok (.bipush 16, 2) := by decide +kernel
theorem dX12_worthAt_12 : decode cX12_worthAt 12 = .ok (.irem, 1) := by decide +kernel
theorem dX12_worthAt_13 : decode cX12_worthAt 13 = .ok (.ifCond .eq 139, 3) := by decide +kernel
theorem dX12_worthAt_16 : decode cX12_worthAt 16 = .ok (.aload_n 0, 1) := by decide +kernel
theorem dX12_worthAt_17 : decode cX12_worthAt 17 = .ok (.getfield 85, 3) := by decide +kernel
theorem dX12_worthAt_20 : decode cX12_worthAt 20 = .ok (.iload_n 3, 1) := by decide +kernel
theorem dX12_worthAt_21 : decode cX12_worthAt 21 = .ok (.iaload, 1) := by decide +kernel
theorem dX12_worthAt_22 : decode cX12_worthAt 22 = .ok (.bipush 16, 2) := by decide +kernel
theorem dX12_worthAt_24 : decode cX12_worthAt 24 = .ok (.irem, 1) := by decide +kernel
theorem dX12_worthAt_25 : decode cX12_worthAt 25 = .ok (.istore 4, 2) := by decide +kernel
theorem dX12_worthAt_27 : decode cX12_worthAt 27 = .ok (.iload 4, 2) := by decide +kernel
theorem dX12_worthAt_29 : decode cX12_worthAt 29 = .ok (.iconst 1, 1) := by decide +kernel
theorem dX12_worthAt_30 : decode cX12_worthAt 30 = .ok (.if_icmp .eq 9, 3) := by decide +kernel
theorem dX12_worthAt_33 : decode cX12_worthAt 33 = .ok (.iload 4, 2) := by decide +kernel
theorem dX12_worthAt_35 : decode cX12_worthAt 35 = .ok (.iconst 2, 1) := by decide +kernel
theorem dX12_worthAt_36 : decode cX12_worthAt 36 = .ok (.if_icmp .ne 47, 3) := by decide +kernel
theorem dX12_worthAt_39 : decode cX12_worthAt 39 = .ok (.aload_n 0, 1) := by decide +kernel
theorem dX12_worthAt_40 : decode cX12_worthAt 40 = .ok (.getfield 100, 3) := by decide +kernel
theorem dX12_worthAt_43 : decode cX12_worthAt 43 = .ok (.iload_n 2, 1) := by decide +kernel
theorem dX12_worthAt_44 : decode cX12_worthAt 44 = .ok (.iload 4, 2) := by decide +kernel
theorem dX12_worthAt_46 : decode cX12_worthAt 46 = .ok (.iconst 1, 1) := by decide +kernel
theorem dX12_worthAt_47 : decode cX12_worthAt 47 = .ok (.if_icmp .ne 15, 3) := by decide +kernel
theorem dX12_worthAt_50 : decode cX12_worthAt 50 = .ok (.aload_n 0, 1) := by decide +kernel
theorem dX12_worthAt_51 : decode cX12_worthAt 51 = .ok (.getfield 85, 3) := by decide +kernel
theorem dX12_worthAt_54 : decode cX12_worthAt 54 = .ok (.iload_n 3, 1) := by decide +kernel
theorem dX12_worthAt_55 : decode cX12_worthAt 55 = .ok (.iaload, 1) := by decide +kernel
theorem dX12_worthAt_56 : decode cX12_worthAt 56 = .ok (.bipush 16, 2) := by decide +kernel
theorem dX12_worthAt_58 : decode cX12_worthAt 58 = .ok (.idiv, 1) := by decide +kernel
theorem dX12_worthAt_59 : decode cX12_worthAt 59 = .ok (.goto 17, 3) := by decide +kernel
theorem dX12_worthAt_62 : decode cX12_worthAt 62 = .ok (.aload_n 0, 1) := by decide +kernel
theorem dX12_worthAt_63 : decode cX12_worthAt 63 = .ok (.getfield 97, 3) := by decide +kernel
theorem dX12_worthAt_66 : decode cX12_worthAt 66 = .ok (.aload_n 0, 1) := by decide +kernel
theorem dX12_worthAt_67 : decode cX12_worthAt 67 = .ok (.getfield 85, 3) := by decide +kernel
theorem dX12_worthAt_70 : decode cX12_worthAt 70 = .ok (.iload_n 3, 1) := by decide +kernel
theorem dX12_worthAt_71 : decode cX12_worthAt 71 = .ok (.iaload, 1) := by decide +kernel
theorem dX12_worthAt_72 : decode cX12_worthAt 72 = .ok (.bipush 16, 2) := by decide +kernel
theorem dX12_worthAt_74 : decode cX12_worthAt 74 = .ok (.idiv, 1) := by decide +kernel
theorem dX12_worthAt_75 : decode cX12_worthAt 75 = .ok (.iaload, 1) := by decide +kernel
theorem dX12_worthAt_76 : decode cX12_worthAt 76 = .ok (.iastore, 1) := by decide +kernel
theorem dX12_worthAt_77 : decode cX12_worthAt 77 = .ok (.iinc 2 1, 3) := by decide +kernel
theorem dX12_worthAt_80 : decode cX12_worthAt 80 = .ok (.goto 66, 3) := by decide +kernel
theorem dX12_worthAt_83 : decode cX12_worthAt 83 = .ok (.iload 4, 2) := by decide +kernel
theorem dX12_worthAt_85 : decode cX12_worthAt 85 = .ok (.iconst 3, 1) := by decide +kernel
theorem dX12_worthAt_86 : decode cX12_worthAt 86 = .ok (.if_icmp .ne 30, 3) := by decide +kernel
theorem dX12_worthAt_89 : decode cX12_worthAt 89 = .ok (.aload_n 0, 1) := by decide +kernel
theorem dX12_worthAt_90 : decode cX12_worthAt 90 = .ok (.getfield 100, 3) := by decide +kernel
theorem dX12_worthAt_93 : decode cX12_worthAt 93 = .ok (.iload_n 2, 1) := by decide +kernel
theorem dX12_worthAt_94 : decode cX12_worthAt 94 = .ok (.iconst 1, 1) := by decide +kernel
theorem dX12_worthAt_95 : decode cX12_worthAt 95 = .ok (.isub, 1) := by decide +kernel
theorem dX12_worthAt_96 : decode cX12_worthAt 96 = .ok (.aload_n 0, 1) := by decide +kernel
theorem dX12_worthAt_97 : decode cX12_worthAt 97 = .ok (.getfield 100, 3) := by decide +kernel
theorem dX12_worthAt_100 : decode cX12_worthAt 100 = .ok (.iload_n 2, 1) := by decide +kernel
theorem dX12_worthAt_101 : decode cX12_worthAt 101 = .ok (.iconst 1, 1) := by decide +kernel
theorem dX12_worthAt_102 : decode cX12_worthAt 102 = .ok (.isub, 1) := by decide +kernel
theorem dX12_worthAt_103 : decode cX12_worthAt 103 = .ok (.iaload, 1) := by decide +kernel
theorem dX12_worthAt_104 : decode cX12_worthAt 104 = .ok (.ifCond .ne 7, 3) := by decide +kernel
theorem dX12_worthAt_107 : decode cX12_worthAt 107 = .ok (.iconst 1, 1) := by decide +kernel
theorem dX12_worthAt_108 : decode cX12_worthAt 108 = .ok (.goto 4, 3) := by decide +kernel
theorem dX12_worthAt_111 : decode cX12_worthAt 111 = .ok (.iconst 0, 1) := by decide +kernel
theorem dX12_worthAt_112 : decode cX12_worthAt 112 = .ok (.iastore, 1) := by decide +kernel
theorem dX12_worthAt_113 : decode cX12_worthAt 113 = .ok (.goto 33, 3) := by decide +kernel
theorem dX12_worthAt_116 : decode cX12_worthAt 116 = .ok (.iinc 2 (-1), 3) := by decide +kernel
theorem dX12_worthAt_119 : decode cX12_worthAt 119 = .ok (.aload_n 0, 1) := by decide +kernel
theorem dX12_worthAt_120 : decode cX12_worthAt 120 = .ok (.getfield 100, 3) := by decide +kernel
theorem dX12_worthAt_123 : decode cX12_worthAt 123 = .ok (.iload_n 2, 1) := by decide +kernel
theorem dX12_worthAt_124 : decode cX12_worthAt 124 = .ok (.iconst 1, 1) := by decide +kernel
theorem dX12_worthAt_125 : decode cX12_worthAt 125 = .ok (.isub, 1) := by decide +kernel
theorem dX12_worthAt_126 : decode cX12_worthAt 126 = .ok (.iload 4, 2) := by decide +kernel
theorem dX12_worthAt_128 : decode cX12_worthAt 128 = .ok (.aload_n 0, 1) := by decide +kernel
theorem dX12_worthAt_129 : decode cX12_worthAt 129 = .ok (.getfield 100, 3) := by decide +kernel
theorem dX12_worthAt_132 : decode cX12_worthAt 132 = .ok (.iload_n 2, 1) := by decide +kernel
theorem dX12_worthAt_133 : decode cX12_worthAt 133 = .ok (.iconst 1, 1) := by decide +kernel
theorem dX12_worthAt_134 : decode cX12_worthAt 134 = .ok (.isub, 1) := by decide +kernel
theorem dX12_worthAt_135 : decode cX12_worthAt 135 = .ok (.iaload, 1) := by decide +kernel
theorem dX12_worthAt_136 : decode cX12_worthAt 136 = .ok (.aload_n 0, 1) := by decide +kernel
theorem dX12_worthAt_137 : decode cX12_worthAt 137 = .ok (.getfield 100, 3) := by decide +kernel
theorem dX12_worthAt_140 : decode cX12_worthAt 140 = .ok (.iload_n 2, 1) := by decide +kernel
theorem dX12_worthAt_141 : decode cX12_worthAt 141 = .ok (.iaload, 1) := by decide +kernel
theorem dX12_worthAt_142 : decode cX12_worthAt 142 = .ok (.invokestatic 288, 3) := by decide +kernel
theorem dX12_worthAt_145 : decode cX12_worthAt 145 = .ok (.iastore, 1) := by decide +kernel
theorem dX12_worthAt_146 : decode cX12_worthAt 146 = .ok (.iinc 3 1, 3) := by decide +kernel
theorem dX12_worthAt_149 : decode cX12_worthAt 149 = .ok (.goto (-145), 3) := by decide +kernel
theorem dX12_worthAt_152 : decode cX12_worthAt 152 = .ok (.aload_n 0, 1) := by decide +kernel
theorem dX12_worthAt_153 : decode cX12_worthAt 153 = .ok (.getfield 100, 3) := by decide +kernel
theorem dX12_worthAt_156 : decode cX12_worthAt 156 = .ok (.iconst 0, 1) := by decide +kernel
theorem dX12_worthAt_157 : decode cX12_worthAt 157 = .ok (.iaload, 1) := by decide +kernel
theorem dX12_worthAt_158 : decode cX12_worthAt 158 = .ok (.ireturn, 1) := by decide +kernel
theorem dX12_means_0 : decode cX12_means 0 = .ok (.iload_n 2, 1) := by decide +kernel
theorem dX12_means_1 : decode cX12_means 1 = .ok (.iconst 3, 1) := by decide +kernel
theorem dX12_means_2 : decode cX12_means 2 = .ok (.idiv, 1) := by decide +kernel
theorem dX12_means_3 : decode cX12_means 3 = .ok (.istore_n 3, 1) := by decide +kernel
theorem dX12_means_4 : decode cX12_means 4 = .ok (.iload_n 2, 1) := by decide +kernel
theorem dX12_means_5 : decode cX12_means 5 = .ok (.iconst 3, 1) := by decide +kernel
theorem dX12_means_6 : decode cX12_means 6 = .ok (.irem, 1) := by decide +kernel
theorem dX12_means_7 : decode cX12_means 7 = .ok (.istore 4, 2) := by decide +kernel
theorem dX12_means_9 : decode cX12_means 9 = .ok (.aload_n 0, 1) := by decide +kernel
theorem dX12_means_10 : decode cX12_means 10 = .ok (.getfield 79, 3) := by decide +kernel
theorem dX12_means_13 : decode cX12_means 13 = .ok (.iconst 4, 1) := by decide +kernel
theorem dX12_means_14 : decode cX12_means 14 = .ok (.iload_n 1, 1) := by decide +kernel
theorem dX12_means_15 : decode cX12_means 15 = .ok (.iadd, 1) := by decide +kernel
theorem dX12_means_16 : decode cX12_means 16 = .ok (.iaload, 1) := by decide +kernel
theorem dX12_means_17 : decode cX12_means 17 = .ok (.istore 5, 2) := by decide +kernel
theorem dX12_means_19 : decode cX12_means 19 = .ok (.iload 5, 2) := by decide +kernel
theorem dX12_means_21 : decode cX12_means 21 = .ok (.iconst 1, 1) := by decide +kernel
theorem dX12_means_22 : decode cX12_means 22 = .ok (.if_icmp .ne 17, 3) := by decide +kernel
theorem dX12_means_25 : decode cX12_means 25 = .ok (.iload 4, 2) := by decide +kernel
theorem dX12_means_27 : decode cX12_means 27 = .ok (.iload_n 3, 1) := by decide +kernel
theorem dX12_means_28 : decode cX12_means 28 = .ok (.if_icmp .ne 7, 3) := by decide +kernel
theorem dX12_means_31 : decode cX12_means 31 = .ok (.iconst 1, 1) := by decide +kernel
theorem dX12_means_32 : decode cX12_means 32 = .ok (.goto 44, 3) := by decide +kernel
theorem dX12_means_35 : decode cX12_means 35 = .ok (.iconst 0, 1) := by decide +kernel
theorem dX12_means_36 : decode cX12_means 36 = .ok (.goto 40, 3) := by decide +kernel
theorem dX12_means_39 : decode cX12_means 39 = .ok (.iload 5, 2) := by decide +kernel
theorem dX12_means_41 : decode cX12_means 41 = .ok (.iconst 2, 1) := by decide +kernel
theorem dX12_means_42 : decode cX12_means 42 = .ok (.if_icmp .ne 17, 3) := by decide +kernel
theorem dX12_means_45 : decode cX12_means 45 = .ok (.iload 4, 2) := by decide +kernel
theorem dX12_means_47 : decode cX12_means 47 = .ok (.iload_n 3, 1) := by decide +kernel
theorem dX12_means_48 : decode cX12_means 48 = .ok (.if_icmp .le 7, 3) := by decide +kernel
theorem dX12_means_51 : decode cX12_means 51 = .ok (.iconst 1, 1) := by decide +kernel
theorem dX12_means_52 : decode cX12_means 52 = .ok (.goto 24, 3) := by decide +kernel
theorem dX12_means_55 : decode cX12_means 55 = .ok (.iconst 0, 1) := by decide +kernel
theorem dX12_means_56 : decode cX12_means 56 = .ok (.goto 20, 3) := by decide +kernel
theorem dX12_means_59 : decode cX12_means 59 = .ok (.iload 5, 2) := by decide +kernel
theorem dX12_means_61 : decode cX12_means 61 = .ok (.iconst 3, 1) := by decide +kernel
theorem dX12_means_62 : decode cX12_means 62 = .ok (.if_icmp .ne 9, 3) := by decide +kernel
theorem dX12_means_65 : decode cX12_means 65 = .ok (.iload 4, 2) := by decide +kernel
theorem dX12_means_67 : decode cX12_means 67 = .ok (.iload_n 3, 1) := by decide +kernel
theorem dX12_means_68 : decode cX12_means 68 = .ok (.if_icmp .ge 7, 3) := by decide +kernel
theorem dX12_means_71 : decode cX12_means 71 = .ok (.iconst 1, 1) := by decide +kernel
theorem dX12_means_72 : decode cX12_means 72 = .ok (.goto 4, 3) := by decide +kernel
theorem dX12_means_75 : decode cX12_means 75 = .ok (.iconst 0, 1) := by decide +kernel
theorem dX12_means_76 : decode cX12_means 76 = .ok (.istore 6, 2) := by decide +kernel
theorem dX12_means_78 : decode cX12_means 78 = .ok (.aload_n 0, 1) := by decide +kernel
theorem dX12_means_79 : decode cX12_means 79 = .ok (.getfield 97, 3) := by decide +kernel
theorem dX12_means_82 : decode cX12_means 82 = .ok (.iconst 0, 1) := by decide +kernel
theorem dX12_means_83 : decode cX12_means 83 = .ok (.iload_n 3, 1) := by decide +kernel
theorem dX12_means_84 : decode cX12_means 84 = .ok (.iastore, 1) := by decide +kernel
theorem dX12_means_85 : decode cX12_means 85 = .ok (.aload_n 0, 1) := by decide +kernel
theorem dX12_means_86 : decode cX12_means 86 = .ok (.getfield 97, 3) := by decide +kernel
theorem dX12_means_89 : decode cX12_means 89 = .ok (.iconst 1, 1) := by decide +kernel
theorem dX12_means_90 : decode cX12_means 90 = .ok (.iload 4, 2) := by decide +kernel
theorem dX12_means_92 : decode cX12_means 92 = .ok (.iastore, 1) := by decide +kernel
theorem dX12_means_93 : decode cX12_means 93 = .ok (.aload_n 0, 1) := by decide +kernel
theorem dX12_means_94 : decode cX12_means 94 = .ok (.getfield 97, 3) := by decide +kernel
theorem dX12_means_97 : decode cX12_means 97 = .ok (.iconst 2, 1) := by decide +kernel
theorem dX12_means_98 : decode cX12_means 98 = .ok (.aload_n 0, 1) := by decide +kernel
theorem dX12_means_99 : decode cX12_means 99 = .ok (.iload_n 1, 1) := by decide +kernel
theorem dX12_means_100 : decode cX12_means 100 = .ok (.invokevirtual 312, 3) := by decide +kernel
theorem dX12_means_103 : decode cX12_means 103 = .ok (.iastore, 1) := by decide +kernel
theorem dX12_means_104 : decode cX12_means 104 = .ok (.aload_n 0, 1) := by decide +kernel
theorem dX12_means_105 : decode cX12_means 105 = .ok (.getfield 97, 3) := by decide +kernel
theorem dX12_means_108 : decode cX12_means 108 = .ok (.iconst 3, 1) := by decide +kernel
theorem dX12_means_109 : decode cX12_means 109 = .ok (.iload_n 1, 1) := by decide +kernel
theorem dX12_means_110 : decode cX12_means 110 = .ok (.iastore, 1) := by decide +kernel
theorem dX12_means_111 : decode cX12_means 111 = .ok (.iload 6, 2) := by decide +kernel
theorem dX12_means_113 : decode cX12_means 113 = .ok (.ifCond .eq 29, 3) := by decide +kernel
theorem dX12_means_116 : decode cX12_means 116 = .ok (.aload_n 0, 1) := by decide +kernel
theorem dX12_means_117 : decode cX12_means 117 = .ok (.getfield 79, 3) := by decide +kernel
theorem dX12_means_120 : decode cX12_means 120 = .ok (.iconst 3, 1) := by decide +kernel
theorem dX12_means_121 : decode cX12_means 121 = .ok (.iaload, 1) := by decide +kernel
theorem dX12_means_122 : decode cX12_means 122 = .ok (.ifCond .lt 16, 3) := by decide +kernel
theorem dX12_means_125 : decode cX12_means 125 = .ok (.aload_n 0, 1) := by decide +kernel
theorem dX12_means_126 : decode cX12_means 126 = .ok (.aload_n 0, 1) := by decide +kernel
theorem dX12_means_127 : decode cX12_means 127 = .ok (.getfield 79, 3) := by decide +kernel
theorem dX12_means_130 : decode cX12_means 130 = .ok (.iconst 3, 1) := by decide +kernel
theorem dX12_means_131 : decode cX12_means 131 = .ok (.iaload, 1) := by decide +kernel
theorem dX12_means_132 : decode cX12_means 132 = .ok (.invokevirtual 315, 3) := by decide +kernel
theorem dX12_means_135 : decode cX12_means 135 = .ok (.ifCond .eq 7, 3) := by decide +kernel
theorem dX12_means_138 : decode cX12_means 138 = .ok (.iconst 1, 1) := by decide +kernel
theorem dX12_means_139 : decode cX12_means 139 = .ok (.goto 4, 3) := by decide +kernel
theorem dX12_means_142 : decode cX12_means 142 = .ok (.iconst 0, 1) := by decide +kernel
theorem dX12_means_143 : decode cX12_means 143 = .ok (.ireturn, 1) := by decide +kernel
theorem dX12_wordsTold_0 : decode cX12_wordsTold 0 = .ok (.aload_n 0, 1) := by decide +kernel
theorem dX12_wordsTold_1 : decode cX12_wordsTold 1 = .ok (.getfield 79, 3) := by decide +kernel
theorem dX12_wordsTold_4 : decode cX12_wordsTold 4 = .ok (.iconst 0, 1) := by decide +kernel
theorem dX12_wordsTold_5 : decode cX12_wordsTold 5 = .ok (.iaload, 1) := by decide +kernel
theorem dX12_wordsTold_6 : decode cX12_wordsTold 6 = .ok (.ireturn, 1) := by decide +kernel
theorem dX12_begins_0 : decode cX12_begins 0 = .ok (.iconst 0, 1) := by decide +kernel
theorem dX12_begins_1 : decode cX12_begins 1 = .ok (.istore_n 1, 1) := by decide +kernel
theorem dX12_begins_2 : decode cX12_begins 2 = .ok (.iload_n 1, 1) := by decide +kernel
theorem dX12_begins_3 : decode cX12_begins 3 = .ok (.bipush 32, 2) := by decide +kernel
theorem dX12_begins_5 : decode cX12_begins 5 = .ok (.if_icmp .ge 16, 3) := by decide +kernel
theorem dX12_begins_8 : decode cX12_begins 8 = .ok (.aload_n 0, 1) := by decide +kernel
theorem dX12_begins_9 : decode cX12_begins 9 = .ok (.getfield 116, 3) := by decide +kernel
theorem dX12_begins_12 : decode cX12_begins 12 = .ok (.iload_n 1, 1) := by decide +kernel
theorem dX12_begins_13 : decode cX12_begins 13 = .ok (.iconst 0, 1) := by decide +kernel
theorem dX12_begins_14 : decode cX12_begins 14 = .ok (.iastore, 1) := by decide +kernel
theorem dX12_begins_15 : decode cX12_begins 15 = .ok (.iinc 1 1, 3) := by decide +kernel
theorem dX12_begins_18 : decode cX12_begins 18 = .ok (.goto (-16), 3) := by decide +kernel
theorem dX12_begins_21 : decode cX12_begins 21 = .ok (.iconst 0, 1) := by decide +kernel
theorem dX12_begins_22 : decode cX12_begins 22 = .ok (.istore_n 1, 1) := by decide +kernel
theorem dX12_begins_23 : decode cX12_begins 23 = .ok (.iload_n 1, 1) := by decide +kernel
theorem dX12_begins_24 : decode cX12_begins 24 = .ok (.aload_n 0, 1) := by decide +kernel
theorem dX12_begins_25 : decode cX12_begins 25 = .ok (.invokevirtual 270, 3) := by decide +kernel
theorem dX12_begins_28 : decode cX12_begins 28 = .ok (.if_icmp .ge 45, 3) := by decide +kernel
theorem dX12_begins_31 : decode cX12_begins 31 = .ok (.iconst 0, 1) := by decide +kernel
theorem dX12_begins_32 : decode cX12_begins 32 = .ok (.istore_n 2, 1) := by decide +kernel
theorem dX12_begins_33 : decode cX12_begins 33 = .ok (.iload_n 2, 1) := by decide +kernel
theorem dX12_begins_34 : decode cX12_begins 34 = .ok (.aload_n 0, 1) := by decide +kernel
theorem dX12_begins_35 : decode cX12_begins 35 = .ok (.iload_n 1, 1) := by decide +kernel
theorem dX12_begins_36 : decode cX12_begins 36 = .ok (.invokevirtual 292, 3) := by decide +kernel
theorem dX12_begins_39 : decode cX12_begins 39 = .ok (.if_icmp .ge 28, 3) := by decide +kernel
theorem dX12_begins_42 : decode cX12_begins 42 = .ok (.aload_n 0, 1) := by decide +kernel
theorem dX12_begins_43 : decode cX12_begins 43 = .ok (.getfield 116, 3) := by decide +kernel
theorem dX12_begins_46 : decode cX12_begins 46 = .ok (.iconst 4, 1) := by decide +kernel
theorem dX12_begins_47 : decode cX12_begins 47 = .ok (.iload_n 1, 1) := by decide +kernel
theorem dX12_begins_48 : decode cX12_begins 48 = .ok (.imul, 1) := by decide +kernel
theorem dX12_begins_49 : decode cX12_begins 49 = .ok (.aload_n 0, 1) := by decide +kernel
theorem dX12_begins_50 : decode cX12_begins 50 = .ok (.iload_n 1, 1) := by decide +kernel
theorem dX12_begins_51 : decode cX12_begins 51 = .ok (.iload_n 2, 1) := by decide +kernel
theorem dX12_begins_52 : decode cX12_begins 52 = .ok (.invokevirtual 295, 3) := by decide +kernel
theorem dX12_begins_55 : decode cX12_begins 55 = .ok (.iadd, 1) := by decide +kernel
theorem dX12_begins_56 : decode cX12_begins 56 = .ok (.dup2, 1) := by decide +kernel
theorem dX12_begins_57 : decode cX12_begins 57 = .ok (.iaload, 1) := by decide +kernel
theorem dX12_begins_58 : decode cX12_begins 58 = .ok (.iconst 1, 1) := by decide +kernel
theorem dX12_begins_59 : decode cX12_begins 59 = .ok (.iadd, 1) := by decide +kernel
theorem dX12_begins_60 : decode cX12_begins 60 = .ok (.iastore, 1) := by decide +kernel
theorem dX12_begins_61 : decode cX12_begins 61 = .ok (.iinc 2 1, 3) := by decide +kernel
theorem dX12_begins_64 : decode cX12_begins 64 = .ok (.goto (-31), 3) := by decide +kernel
theorem dX12_begins_67 : decode cX12_begins 67 = .ok (.iinc 1 1, 3) := by decide +kernel
theorem dX12_begins_70 : decode cX12_begins 70 = .ok (.goto (-47), 3) := by decide +kernel
theorem dX12_begins_73 : decode cX12_begins 73 = .ok (.iconst 0, 1) := by decide +kernel
theorem dX12_begins_74 : decode cX12_begins 74 = .ok (.istore_n 1, 1) := by decide +kernel
theorem dX12_begins_75 : decode cX12_begins 75 = .ok (.iload_n 1, 1) := by decide +kernel
theorem dX12_begins_76 : decode cX12_begins 76 = .ok (.iconst 4, 1) := by decide +kernel
theorem dX12_begins_77 : decode cX12_begins 77 = .ok (.if_icmp .ge 91, 3) := by decide +kernel
theorem dX12_begins_80 : decode cX12_begins 80 = .ok (.aload_n 0, 1) := by decide +kernel
theorem dX12_begins_81 : decode cX12_begins 81 = .ok (.getfield 113, 3) := by decide +kernel
theorem dX12_begins_84 : decode cX12_begins 84 = .ok (.iload_n 1, 1) := by decide +kernel
theorem dX12_begins_85 : decode cX12_begins 85 = .ok (.iconst 0, 1) := by decide +kernel
theorem dX12_begins_86 : decode cX12_begins 86 = .ok (.iastore, 1) := by decide +kernel
theorem dX12_begins_87 : decode cX12_begins 87 = .ok (.iconst 0, 1) := by decide +kernel
theorem dX12_begins_88 : decode cX12_begins 88 = .ok (.istore_n 2, 1) := by decide +kernel
theorem dX12_begins_89 : decode cX12_begins 89 = .ok (.iload_n 2, 1) := by decide +kernel
theorem dX12_begins_90 : decode cX12_begins 90 = .ok (.bipush 9, 2) := by decide +kernel
theorem dX12_begins_92 : decode cX12_begins 92 = .ok (.if_icmp .ge 70, 3) := by decide +kernel
theorem dX12_begins_95 : decode cX12_begins 95 = .ok (.aload_n 0, 1) := by decide +kernel
theorem dX12_begins_96 : decode cX12_begins 96 = .ok (.getfield 110, 3) := by decide +kernel
theorem dX12_begins_99 : decode cX12_begins 99 = .ok (.bipush 9, 2) := by decide +kernel
theorem dX12_begins_101 : decode cX12_begins 101 = .ok (.iload_n 1, 1) := by decide +kernel
theorem dX12_begins_102 : decode cX12_begins 102 = .ok (.imul, 1) := by decide +kernel
theorem dX12_begins_103 : decode cX12_begins 103 = .ok (.iload_n 2, 1) := by decide +kernel
theorem dX12_begins_104 : decode cX12_begins 104 = .ok (.iadd, 1) := by decide +kernel
theorem dX12_begins_105 : decode cX12_begins 105 = .ok (.iload_n 1, 1) := by decide +kernel
theorem dX12_begins_106 : decode cX12_begins 106 = .ok (.aload_n 0, 1) := by decide +kernel
theorem dX12_begins_107 : decode cX12_begins 107 = .ok (.invokevirtual 266, 3) := by decide +kernel
theorem dX12_begins_110 : decode cX12_begins 110 = .ok (.if_icmp .ge 16, 3) := by decide +kernel
theorem dX12_begins_113 : decode cX12_begins 113 = .ok (.aload_n 0, 1) := by decide +kernel
theorem dX12_begins_114 : decode cX12_begins 114 = .ok (.iload_n 1, 1) := by decide +kernel
theorem dX12_begins_115 : decode cX12_begins 115 = .ok (.iload_n 2, 1) := by decide +kernel
theorem dX12_begins_116 : decode cX12_begins 116 = .ok (.invokevirtual 298, 3) := by decide +kernel
theorem dX12_begins_119 : decode cX12_begins 119 = .ok (.ifCond .eq 7, 3) := by decide +kernel
theorem dX12_begins_122 : decode cX12_begins 122 = .ok (.iconst 1, 1) := by decide +kernel
theorem dX12_begins_123 : decode cX12_begins 123 = .ok (.goto 4, 3) := by decide +kernel
theorem dX12_begins_126 : decode cX12_begins 126 = .ok (.iconst 0, 1) := by decide +kernel
theorem dX12_begins_127 : decode cX12_begins 127 = .ok (.bastore, 1) := by decide +kernel
theorem dX12_begins_128 : decode cX12_begins 128 = .ok (.aload_n 0, 1) := by decide +kernel
theorem dX12_begins_129 : decode cX12_begins 129 = .ok (.getfield 113, 3) := by decide +kernel
theorem dX12_begins_132 : decode cX12_begins 132 = .ok (.iload_n 1, 1) := by decide +kernel
theorem dX12_begins_133 : decode cX12_begins 133 = .ok (.dup2, 1) := by decide +kernel
theorem dX12_begins_134 : decode cX12_begins 134 = .ok (.iaload, 1) := by decide +kernel
theorem dX12_begins_135 : decode cX12_begins 135 = .ok (.aload_n 0, 1) := by decide +kernel
theorem dX12_begins_136 : decode cX12_begins 136 = .ok (.getfield 110, 3) := by decide +kernel
theorem dX12_begins_139 : decode cX12_begins 139 = .ok (.bipush 9, 2) := by decide +kernel
theorem dX12_begins_141 : decode cX12_begins 141 = .ok (.iload_n 1, 1) := by decide +kernel
theorem dX12_begins_142 : decode cX12_begins 142 = .ok (.imul, 1) := by decide +kernel
theorem dX12_begins_143 : decode cX12_begins 143 = .ok (.iload_n 2, 1) := by decide +kernel
theorem dX12_begins_144 : decode cX12_begins 144 = .ok (.iadd, 1) := by decide +kernel
theorem dX12_begins_145 : decode cX12_begins 145 = .ok (.baload, 1) := by decide +kernel
theorem dX12_begins_146 : decode cX12_begins 146 = .ok (.ifCond .eq 7, 3) := by decide +kernel
theorem dX12_begins_149 : decode cX12_begins 149 = .ok (.iconst 1, 1) := by decide +kernel
theorem dX12_begins_150 : decode cX12_begins 150 = .ok (.goto 4, 3) := by decide +kernel
theorem dX12_begins_153 : decode cX12_begins 153 = .ok (.iconst 0, 1) := by decide +kernel
theorem dX12_begins_154 : decode cX12_begins 154 = .ok (.iadd, 1) := by decide +kernel
theorem dX12_begins_155 : decode cX12_begins 155 = .ok (.iastore, 1) := by decide +kernel
theorem dX12_begins_156 : decode cX12_begins 156 = .ok (.iinc 2 1, 3) := by decide +kernel
theorem dX12_begins_159 : decode cX12_begins 159 = .ok (.goto (-70), 3) := by decide +kernel
theorem dX12_begins_162 : decode cX12_begins 162 = .ok (.iinc 1 1, 3) := by decide +kernel
theorem dX12_begins_165 : decode cX12_begins 165 = .ok (.goto (-90), 3) := by decide +kernel
theorem dX12_begins_168 : decode cX12_begins 168 = .ok (.aload_n 0, 1) := by decide +kernel
theorem dX12_begins_169 : decode cX12_begins 169 = .ok (.invokevirtual 302, 3) := by decide +kernel
theorem dX12_begins_172 : decode cX12_begins 172 = .ok (.aload_n 0, 1) := by decide +kernel
theorem dX12_begins_173 : decode cX12_begins 173 = .ok (.getfield 94, 3) := by decide +kernel
theorem dX12_begins_176 : decode cX12_begins 176 = .ok (.iconst 0, 1) := by decide +kernel
theorem dX12_begins_177 : decode cX12_begins 177 = .ok (.iconst 0, 1) := by decide +kernel
theorem dX12_begins_178 : decode cX12_begins 178 = .ok (.iastore, 1) := by decide +kernel
theorem dX12_begins_179 : decode cX12_begins 179 = .ok (.aload_n 0, 1) := by decide +kernel
theorem dX12_begins_180 : decode cX12_begins 180 = .ok (.iconst 0, 1) := by decide +kernel
theorem dX12_begins_181 : decode cX12_begins 181 = .ok (.putfield 305, 3) := by decide +kernel
theorem dX12_begins_184 : decode cX12_begins 184 = .ok (.iconst 0, 1) := by decide +kernel
theorem dX12_begins_185 : decode cX12_begins 185 = .ok (.istore_n 1, 1) := by decide +kernel
theorem dX12_begins_186 : decode cX12_begins 186 = .ok (.iload_n 1, 1) := by decide +kernel
theorem dX12_begins_187 : decode cX12_begins 187 = .ok (.iconst 4, 1) := by decide +kernel
theorem dX12_begins_188 : decode cX12_begins 188 = .ok (.if_icmp .ge 16, 3) := by decide +kernel
theorem dX12_begins_191 : decode cX12_begins 191 = .ok (.aload_n 0, 1) := by decide +kernel
theorem dX12_begins_192 : decode cX12_begins 192 = .ok (.getfield 106, 3) := by decide +kernel
theorem dX12_begins_195 : decode cX12_begins 195 = .ok (.iload_n 1, 1) := by decide +kernel
theorem dX12_begins_196 : decode cX12_begins 196 = .ok (.iconst 0, 1) := by decide +kernel
theorem dX12_begins_197 : decode cX12_begins 197 = .ok (.bastore, 1) := by decide +kernel
theorem dX12_begins_198 : decode cX12_begins 198 = .ok (.iinc 1 1, 3) := by decide +kernel
theorem dX12_begins_201 : decode cX12_begins 201 = .ok (.goto (-15), 3) := by decide +kernel
theorem dX12_begins_204 : decode cX12_begins 204 = .ok (.return_, 1) := by decide +kernel
theorem dX12_standsAsAlways_0 : decode cX12_standsAsAlways 0 = .ok (.iconst 0, 1) := by decide +kernel
theorem dX12_standsAsAlways_1 : decode cX12_standsAsAlways 1 = .ok (.istore_n 2, 1) := by decide +kernel
theorem dX12_standsAsAlways_2 : decode cX12_standsAsAlways 2 = .ok (.iload_n 2, 1) := by decide +kernel
theorem dX12_standsAsAlways_3 : decode cX12_standsAsAlways 3 = .ok (.bipush 30, 2) := by decide +kernel
theorem dX12_standsAsAlways_5 : decode cX12_standsAsAlways 5 = .ok (.if_icmp .ge 18, 3) := by decide +kernel
theorem dX12_standsAsAlways_8 : decode cX12_standsAsAlways 8 = .ok (.aload_n 0, 1) := by decide +kernel
theorem dX12_standsAsAlways_9 : decode cX12_standsAsAlways 9 = .ok (.getfield 79, 3) := by decide +kernel
theorem dX12_standsAsAlways_12 : decode cX12_standsAsAlways 12 = .ok (.iload_n 1, 1) := by decide +kernel
theorem dX12_standsAsAlways_13 : decode cX12_standsAsAlways 13 = .ok (.iload_n 2, 1) := by decide +kernel
theorem dX12_standsAsAlways_14 : decode cX12_standsAsAlways 14 = .ok (.iadd, 1) := by decide +kernel
theorem dX12_standsAsAlways_15 : decode cX12_standsAsAlways 15 = .ok (.iconst 0, 1) := by decide +kernel
theorem dX12_standsAsAlways_16 : decode cX12_standsAsAlways 16 = .ok (.iastore, 1) := by decide +kernel
theorem dX12_standsAsAlways_17 : decode cX12_standsAsAlways 17 = .ok (.iinc 2 1, 3) := by decide +kernel
theorem dX12_standsAsAlways_20 : decode cX12_standsAsAlways 20 = .ok (.goto (-18), 3) := by decide +kernel
theorem dX12_standsAsAlways_23 : decode cX12_standsAsAlways 23 = .ok (.aload_n 0, 1) := by decide +kernel
theorem dX12_standsAsAlways_24 : decode cX12_standsAsAlways 24 = .ok (.getfield 79, 3) := by decide +kernel
theorem dX12_standsAsAlways_27 : decode cX12_standsAsAlways 27 = .ok (.iload_n 1, 1) := by decide +kernel
theorem dX12_standsAsAlways_28 : decode cX12_standsAsAlways 28 = .ok (.iconst 3, 1) := by decide +kernel
theorem dX12_standsAsAlways_29 : decode cX12_standsAsAlways 29 = .ok (.iadd, 1) := by decide +kernel
theorem dX12_standsAsAlways_30 : decode cX12_standsAsAlways 30 = .ok (.iconst (-1), 1) := by decide +kernel
theorem dX12_standsAsAlways_31 : decode cX12_standsAsAlways 31 = .ok (.iastore, 1) := by decide +kernel
theorem dX12_standsAsAlways_32 : decode cX12_standsAsAlways 32 = .ok (.iconst 0, 1) := by decide +kernel
theorem dX12_standsAsAlways_33 : decode cX12_standsAsAlways 33 = .ok (.istore_n 2, 1) := by decide +kernel
theorem dX12_standsAsAlways_34 : decode cX12_standsAsAlways 34 = .ok (.iload_n 2, 1) := by decide +kernel
theorem dX12_standsAsAlways_35 : decode cX12_standsAsAlways 35 = .ok (.bipush 8, 2) := by decide +kernel
theorem dX12_standsAsAlways_37 : decode cX12_standsAsAlways 37 = .ok (.if_icmp .ge 21, 3) := by decide +kernel
theorem dX12_standsAsAlways_40 : decode cX12_standsAsAlways 40 = .ok (.aload_n 0, 1) := by decide +kernel
theorem dX12_standsAsAlways_41 : decode cX12_standsAsAlways 41 = .ok (.getfield 79, 3) := by decide +kernel
theorem dX12_standsAsAlways_44 : decode cX12_standsAsAlways 44 = .ok (.iload_n 1, 1) := by decide +kernel
theorem dX12_standsAsAlways_45 : decode cX12_standsAsAlways 45 = .ok (.bipush 8, 2) := by decide +kernel
theorem dX12_standsAsAlways_47 : decode cX12_standsAsAlways 47 = .ok (.iadd, 1) := by decide +kernel
theorem dX12_standsAsAlways_48 : decode cX12_standsAsAlways 48 = .ok (.iload_n 2, 1) := by decide +kernel
theorem dX12_standsAsAlways_49 : decode cX12_standsAsAlways 49 = .ok (.iadd, 1) := by decide +kernel
theorem dX12_standsAsAlways_50 : decode cX12_standsAsAlways 50 = .ok (.iconst (-1), 1) := by decide +kernel
theorem dX12_standsAsAlways_51 : decode cX12_standsAsAlways 51 = .ok (.iastore, 1) := by decide +kernel
theorem dX12_standsAsAlways_52 : decode cX12_standsAsAlways 52 = .ok (.iinc 2 1, 3) := by decide +kernel
theorem dX12_standsAsAlways_55 : decode cX12_standsAsAlways 55 = .ok (.goto (-21), 3) := by decide +kernel
theorem dX12_standsAsAlways_58 : decode cX12_standsAsAlways 58 = .ok (.return_, 1) := by decide +kernel
theorem dX12_isLetter_0 : decode cX12_isLetter 0 = .ok (.iload_n 0, 1) := by decide +kernel
theorem dX12_isLetter_1 : decode cX12_isLetter 1 = .ok (.bipush 97, 2) := by decide +kernel
theorem dX12_isLetter_3 : decode cX12_isLetter 3 = .ok (.if_icmp .lt 13, 3) := by decide +kernel
theorem dX12_isLetter_6 : decode cX12_isLetter 6 = .ok (.iload_n 0, 1) := by decide +kernel
theorem dX12_isLetter_7 : decode cX12_isLetter 7 = .ok (.bipush 122, 2) := by decide +kernel
theorem dX12_isLetter_9 : decode cX12_isLetter 9 = .ok (.if_icmp .gt 7, 3) := by decide +kernel
theorem dX12_isLetter_12 : decode cX12_isLetter 12 = .ok (.iconst 1, 1) := by decide +kernel
theorem dX12_isLetter_13 : decode cX12_isLetter 13 = .ok (.goto 4, 3) := by decide +kernel
theorem dX12_isLetter_16 : decode cX12_isLetter 16 = .ok (.iconst 0, 1) := by decide +kernel
theorem dX12_isLetter_17 : decode cX12_isLetter 17 = .ok (.ireturn, 1) := by decide +kernel
theorem dX12_isDigit_0 : decode cX12_isDigit 0 = .ok (.iload_n 0, 1) := by decide +kernel
theorem dX12_isDigit_1 : decode cX12_isDigit 1 = .ok (.bipush 48, 2) := by decide +kernel
theorem dX12_isDigit_3 : decode cX12_isDigit 3 = .ok (.if_icmp .lt 13, 3) := by decide +kernel
theorem dX12_isDigit_6 : decode cX12_isDigit 6 = .ok (.iload_n 0, 1) := by decide +kernel
theorem dX12_isDigit_7 : decode cX12_isDigit 7 = .ok (.bipush 57, 2) := by decide +kernel
theorem dX12_isDigit_9 : decode cX12_isDigit 9 = .ok (.if_icmp .gt 7, 3) := by decide +kernel
theorem dX12_isDigit_12 : decode cX12_isDigit 12 = .ok (.iconst 1, 1) := by decide +kernel
theorem dX12_isDigit_13 : decode cX12_isDigit 13 = .ok (.goto 4, 3) := by decide +kernel
theorem dX12_isDigit_16 : decode cX12_isDigit 16 = .ok (.iconst 0, 1) := by decide +kernel
theorem dX12_isDigit_17 : decode cX12_isDigit 17 = .ok (.ireturn, 1) := by decide +kernel
theorem dX12_rank_0 : decode cX12_rank 0 = .ok (.iload_n 0, 1) := by decide +kernel
theorem dX12_rank_1 : decode cX12_rank 1 = .ok (.invokestatic 159, 3) := by decide +kernel
theorem dX12_rank_4 : decode cX12_rank 4 = .ok (.ifCond .eq 10, 3) := by decide +kernel
theorem dX12_rank_7 : decode cX12_rank 7 = .ok (.iload_n 0, 1) := by decide +kernel
theorem dX12_rank_8 : decode cX12_rank 8 = .ok (.bipush 96, 2) := by decide +kernel
theorem dX12_rank_10 : decode cX12_rank 10 = .ok (.isub, 1) := by decide +kernel
theorem dX12_rank_11 : decode cX12_rank 11 = .ok (.goto 7, 3) := by decide +kernel
theorem dX12_rank_14 : decode cX12_rank 14 = .ok (.iload_n 0, 1) := by decide +kernel
theorem dX12_rank_15 : decode cX12_rank 15 = .ok (.bipush 21, 2) := by decide +kernel
theorem dX12_rank_17 : decode cX12_rank 17 = .ok (.isub, 1) := by decide +kernel
theorem dX12_rank_18 : decode cX12_rank 18 = .ok (.ireturn, 1) := by decide +kernel
theorem dX12_isSignOf_0 : decode cX12_isSignOf 0 = .ok (.iload_n 0, 1) := by decide +kernel
theorem dX12_isSignOf_1 : decode cX12_isSignOf 1 = .ok (.bipush 40, 2) := by decide +kernel
theorem dX12_isSignOf_3 : decode cX12_isSignOf 3 = .ok (.if_icmp .eq 45, 3) := by decide +kernel
theorem dX12_isSignOf_6 : decode cX12_isSignOf 6 = .ok (.iload_n 0, 1) := by decide +kernel
theorem dX12_isSignOf_7 : decode cX12_isSignOf 7 = .ok (.bipush 41, 2) := by decide +kernel
theorem dX12_isSignOf_9 : decode cX12_isSignOf 9 = .ok (.if_icmp .eq 39, 3) := by decide +kernel
theorem dX12_isSignOf_12 : decode cX12_isSignOf 12 = .ok (.iload_n 0, 1) := by decide +kernel
theorem dX12_isSignOf_13 : decode cX12_isSignOf 13 = .ok (.bipush 59, 2) := by decide +kernel
theorem dX12_isSignOf_15 : decode cX12_isSignOf 15 = .ok (.if_icmp .eq 33, 3) := by decide +kernel
theorem dX12_isSignOf_18 : decode cX12_isSignOf 18 = .ok (.iload_n 0, 1) := by decide +kernel
theorem dX12_isSignOf_19 : decode cX12_isSignOf 19 = .ok (.bipush 61, 2) := by decide +kernel
theorem dX12_isSignOf_21 : decode cX12_isSignOf 21 = .ok (.if_icmp .eq 27, 3) := by decide +kernel
theorem dX12_isSignOf_24 : decode cX12_isSignOf 24 = .ok (.iload_n 0, 1) := by decide +kernel
theorem dX12_isSignOf_25 : decode cX12_isSignOf 25 = .ok (.bipush 60, 2) := by decide +kernel
theorem dX12_isSignOf_27 : decode cX12_isSignOf 27 = .ok (.if_icmp .eq 21, 3) := by decide +kernel
theorem dX12_isSignOf_30 : decode cX12_isSignOf 30 = .ok (.iload_n 0, 1) := by decide +kernel
theorem dX12_isSignOf_31 : decode cX12_isSignOf 31 = .ok (.bipush 43, 2) := by decide +kernel
theorem dX12_isSignOf_33 : decode cX12_isSignOf 33 = .ok (.if_icmp .eq 15, 3) := by decide +kernel
theorem dX12_isSignOf_36 : decode cX12_isSignOf 36 = .ok (.iload_n 0, 1) := by decide +kernel
theorem dX12_isSignOf_37 : decode cX12_isSignOf 37 = .ok (.bipush 45, 2) := by decide +kernel
theorem dX12_isSignOf_39 : decode cX12_isSignOf 39 = .ok (.if_icmp .eq 9, 3) := by decide +kernel
theorem dX12_isSignOf_42 : decode cX12_isSignOf 42 = .ok (.iload_n 0, 1) := by decide +kernel
theorem dX12_isSignOf_43 : decode cX12_isSignOf 43 = .ok (.bipush 42, 2) := by decide +kernel
theorem dX12_isSignOf_45 : decode cX12_isSignOf 45 = .ok (.if_icmp .ne 7, 3) := by decide +kernel
theorem dX12_isSignOf_48 : decode cX12_isSignOf 48 = .ok (.iconst 1, 1) := by decide +kernel
theorem dX12_isSignOf_49 : decode cX12_isSignOf 49 = .ok (.goto 4, 3) := by decide +kernel
theorem dX12_isSignOf_52 : decode cX12_isSignOf 52 = .ok (.iconst 0, 1) := by decide +kernel
theorem dX12_isSignOf_53 : decode cX12_isSignOf 53 = .ok (.ireturn, 1) := by decide +kernel
theorem dX12_cutAll_0 : decode cX12_cutAll 0 = .ok (.aload_n 0, 1) := by decide +kernel
theorem dX12_cutAll_1 : decode cX12_cutAll 1 = .ok (.aload_n 0, 1) := by decide +kernel
theorem dX12_cutAll_2 : decode cX12_cutAll 2 = .ok (.getfield 11, 3) := by decide +kernel
theorem dX12_cutAll_5 : decode cX12_cutAll 5 = .ok (.putfield 163, 3) := by decide +kernel
theorem dX12_cutAll_8 : decode cX12_cutAll 8 = .ok (.aload_n 0, 1) := by decide +kernel
theorem dX12_cutAll_9 : decode cX12_cutAll 9 = .ok (.iconst 0, 1) := by decide +kernel
theorem dX12_cutAll_10 : decode cX12_cutAll 10 = .ok (.putfield 11, 3) := by decide +kernel
theorem dX12_cutAll_13 : decode cX12_cutAll 13 = .ok (.iconst 0, 1) := by decide +kernel
theorem dX12_cutAll_14 : decode cX12_cutAll 14 = .ok (.istore_n 1, 1) := by decide +kernel
theorem dX12_cutAll_15 : decode cX12_cutAll 15 = .ok (.iconst 0, 1) := by decide +kernel
theorem dX12_cutAll_16 : decode cX12_cutAll 16 = .ok (.istore_n 2, 1) := by decide +kernel
theorem dX12_cutAll_17 : decode cX12_cutAll 17 = .ok (.iload_n 2, 1) := by decide +kernel
theorem dX12_cutAll_18 : decode cX12_cutAll 18 = .ok (.aload_n 0, 1) := by decide +kernel
theorem dX12_cutAll_19 : decode cX12_cutAll 19 = .ok (.getfield 163, 3) := by decide +kernel
theorem dX12_cutAll_22 : decode cX12_cutAll 22 = .ok (.if_icmp .ge 257, 3) := by decide +kernel
theorem dX12_cutAll_25 : decode cX12_cutAll 25 = .ok (.aload_n 0, 1) := by decide +kernel
theorem dX12_cutAll_26 : decode cX12_cutAll 26 = .ok (.getfield 14, 3) := by decide +kernel
theorem dX12_cutAll_29 : decode cX12_cutAll 29 = .ok (.iload_n 2, 1) := by decide +kernel
theorem dX12_cutAll_30 : decode cX12_cutAll 30 = .ok (.iaload, 1) := by decide +kernel
theorem dX12_cutAll_31 : decode cX12_cutAll 31 = .ok (.istore_n 3, 1) := by decide +kernel
theorem dX12_cutAll_32 : decode cX12_cutAll 32 = .ok (.iload_n 3, 1) := by decide +kernel
theorem dX12_cutAll_33 : decode cX12_cutAll 33 = .ok (.bipush 10, 2) := by decide +kernel
theorem dX12_cutAll_35 : decode cX12_cutAll 35 = .ok (.if_icmp .eq 9, 3) := by decide +kernel
theorem dX12_cutAll_38 : decode cX12_cutAll 38 = .ok (.iload_n 3, 1) := by decide +kernel
theorem dX12_cutAll_39 : decode cX12_cutAll 39 = .ok (.bipush 32, 2) := by decide +kernel
theorem dX12_cutAll_41 : decode cX12_cutAll 41 = .ok (.if_icmp .ne 9, 3) := by decide +kernel
theorem dX12_cutAll_44 : decode cX12_cutAll 44 = .ok (.iinc 2 1, 3) := by decide +kernel
theorem dX12_cutAll_47 : decode cX12_cutAll 47 = .ok (.goto (-30), 3) := by decide +kernel
theorem dX12_cutAll_50 : decode cX12_cutAll 50 = .ok (.iload_n 2, 1) := by decide +kernel
theorem dX12_cutAll_51 : decode cX12_cutAll 51 = .ok (.istore 4, 2) := by decide +kernel
theorem dX12_cutAll_53 : decode cX12_cutAll 53 = .ok (.lconst 0, 1) := by decide +kernel
theorem dX12_cutAll_54 : decode cX12_cutAll 54 = .ok (.lstore 5, 2) := by decide +kernel
theorem dX12_cutAll_56 : decode cX12_cutAll 56 = .ok (.aload_n 0, 1) := by decide +kernel
theorem dX12_cutAll_57 : decode cX12_cutAll 57 = .ok (.getfield 27, 3) := by decide +kernel
theorem dX12_cutAll_60 : decode cX12_cutAll 60 = .ok (.iload_n 1, 1) := by decide +kernel
theorem dX12_cutAll_61 : decode cX12_cutAll 61 = .ok (.iload_n 2, 1) := by decide +kernel
theorem dX12_cutAll_62 : decode cX12_cutAll 62 = .ok (.iastore, 1) := by decide +kernel
theorem dX12_cutAll_63 : decode cX12_cutAll 63 = .ok (.iload_n 3, 1) := by decide +kernel
theorem dX12_cutAll_64 : decode cX12_cutAll 64 = .ok (.invokestatic 159, 3) := by decide +kernel
theorem dX12_cutAll_67 : decode cX12_cutAll 67 = .ok (.ifCond .eq 85, 3) := by decide +kernel
theorem dX12_cutAll_70 : decode cX12_cutAll 70 = .ok (.iload_n 2, 1) := by decide +kernel
theorem dX12_cutAll_71 : decode cX12_cutAll 71 = .ok (.aload_n 0, 1) := by decide +kernel
theorem dX12_cutAll_72 : decode cX12_cutAll 72 = .ok (.getfield 163, 3) := by decide +kernel
theorem dX12_cutAll_75 : decode cX12_cutAll 75 = .ok (.if_icmp .ge 54, 3) := by decide +kernel
theorem dX12_cutAll_78 : decode cX12_cutAll 78 = .ok (.aload_n 0, 1) := by decide +kernel
theorem dX12_cutAll_79 : decode cX12_cutAll 79 = .ok (.getfield 14, 3) := by decide +kernel
theorem dX12_cutAll_82 : decode cX12_cutAll 82 = .ok (.iload_n 2, 1) := by decide +kernel
theorem dX12_cutAll_83 : decode cX12_cutAll 83 = .ok (.iaload, 1) := by decide +kernel
theorem dX12_cutAll_84 : decode cX12_cutAll 84 = .ok (.invokestatic 159, 3) := by decide +kernel
theorem dX12_cutAll_87 : decode cX12_cutAll 87 = .ok (.ifCond .eq 42, 3) := by decide +kernel
theorem dX12_cutAll_90 : decode cX12_cutAll 90 = .ok (.iload_n 2, 1) := by decide +kernel
theorem dX12_cutAll_91 : decode cX12_cutAll 91 = .ok (.iload 4, 2) := by decide +kernel
theorem dX12_cutAll_93 : decode cX12_cutAll 93 = .ok (.isub, 1) := by decide +kernel
theorem dX12_cutAll_94 : decode cX12_cutAll 94 = .ok (.bipush 8, 2) := by decide +kernel
theorem dX12_cutAll_96 : decode cX12_cutAll 96 = .ok (.if_icmp .ge 23, 3) := by decide +kernel
theorem dX12_cutAll_99 : decode cX12_cutAll 99 = .ok (.ldc2_w 166, 3) := by decide +kernel
theorem dX12_cutAll_102 : decode cX12_cutAll 102 = .ok (.lload 5, 2) := by decide +kernel
theorem dX12_cutAll_104 : decode cX12_cutAll 104 = .ok (.lmul, 1) := by decide +kernel
theorem dX12_cutAll_105 : decode cX12_cutAll 105 = .ok (.aload_n 0, 1) := by decide +kernel
theorem dX12_cutAll_106 : decode cX12_cutAll 106 = .ok (.getfield 14, 3) := by decide +kernel
theorem dX12_cutAll_109 : decode cX12_cutAll 109 = .ok (.iload_n 2, 1) := by decide +kernel
theorem dX12_cutAll_110 : decode cX12_cutAll 110 = .ok (.iaload, 1) := by decide +kernel
theorem dX12_cutAll_111 : decode cX12_cutAll 111 = .ok (.invokestatic 168, 3) := by decide +kernel
theorem dX12_cutAll_114 : decode cX12_cutAll 114 = .ok (.i2l, 1) := by decide +kernel
theorem dX12_cutAll_115 : decode cX12_cutAll 115 = .ok (.ladd, 1) := by decide +kernel
theorem dX12_cutAll_116 : decode cX12_cutAll 116 = .ok (.goto 5, 3) := by decide +kernel
theorem dX12_cutAll_119 : decode cX12_cutAll 119 = .ok (.lload 5, 2) := by decide +kernel
theorem dX12_cutAll_121 : decode cX12_cutAll 121 = .ok (.lstore 5, 2) := by decide +kernel
theorem dX12_cutAll_123 : decode cX12_cutAll 123 = .ok (.iinc 2 1, 3) := by decide +kernel
theorem dX12_cutAll_126 : decode cX12_cutAll 126 = .ok (.goto (-56), 3) := by decide +kernel
theorem dX12_cutAll_129 : decode cX12_cutAll 129 = .ok (.aload_n 0, 1) := by decide +kernel
theorem dX12_cutAll_130 : decode cX12_cutAll 130 = .ok (.getfield 24, 3) := by decide +kernel
theorem dX12_cutAll_133 : decode cX12_cutAll 133 = .ok (.iload_n 1, 1) := by decide +kernel
theorem dX12_cutAll_134 : decode cX12_cutAll 134 = .ok (.iload_n 2, 1) := by decide +kernel
theorem dX12_cutAll_135 : decode cX12_cutAll 135 = .ok (.iload 4, 2) := by decide +kernel
theorem dX12_cutAll_137 : decode cX12_cutAll 137 = .ok (.isub, 1) := by decide +kernel
theorem dX12_cutAll_138 : decode cX12_cutAll 138 = .ok (.bipush 8, 2) := by decide +kernel
theorem dX12_cutAll_140 : decode cX12_cutAll 140 = .ok (.if_icmp .le 7, 3) := by decide +kernel
theorem dX12_cutAll_143 : decode cX12_cutAll 143 = .ok (.iconst 4, 1) := by decide +kernel
theorem dX12_cutAll_144 : decode cX12_cutAll 144 = .ok (.goto 4, 3) := by decide +kernel
theorem dX12_cutAll_147 : decode cX12_cutAll 147 = .ok (.iconst 1, 1) := by decide +kernel
theorem dX12_cutAll_148 : decode cX12_cutAll 148 = .ok (.iastore, 1) := by decide +kernel
theorem dX12_cutAll_149 : decode cX12_cutAll 149 = .ok (.goto 116, 3) := by decide +kernel
theorem dX12_cutAll_152 : decode cX12_cutAll 152 = .ok (.iload_n 3, 1) := by decide +kernel
theorem dX12_cutAll_153 : decode cX12_cutAll 153 = .ok (.invokestatic 172, 3) := by decide +kernel
theorem dX12_cutAll_156 : decode cX12_cutAll 156 = .ok (.ifCond .eq 84, 3) := by decide +kernel
theorem dX12_cutAll_159 : decode cX12_cutAll 159 = .ok (.iload_n 2, 1) := by decide +kernel
theorem dX12_cutAll_160 : decode cX12_cutAll 160 = .ok (.aload_n 0, 1) := by decide +kernel
theorem dX12_cutAll_161 : decode cX12_cutAll 161 = .ok (.getfield 163, 3) := by decide +kernel
theorem dX12_cutAll_164 : decode cX12_cutAll 164 = .ok (.if_icmp .ge 54, 3) := by decide +kernel
theorem dX12_cutAll_167 : decode cX12_cutAll 167 = .ok (.aload_n 0, 1) := by decide +kernel
theorem dX12_cutAll_168 : decode cX12_cutAll 168 = .ok (.getfield 14, 3) := by decide +kernel
theorem dX12_cutAll_171 : decode cX12_cutAll 171 = .ok (.iload_n 2, 1) := by decide +kernel
theorem dX12_cutAll_172 : decode cX12_cutAll 172 = .ok (.iaload, 1) := by decide +kernel
theorem dX12_cutAll_173 : decode cX12_cutAll 173 = .ok (.invokestatic 172, 3) := by decide +kernel
theorem dX12_cutAll_176 : decode cX12_cutAll 176 = .ok (.ifCond .eq 42, 3) := by decide +kernel
theorem dX12_cutAll_179 : decode cX12_cutAll 179 = .ok (.iload_n 2, 1) := by decide +kernel
theorem dX12_cutAll_180 : decode cX12_cutAll 180 = .ok (.iload 4, 2) := by decide +kernel
theorem dX12_cutAll_182 : decode cX12_cutAll 182 = .ok (.isub, 1) := by decide +kernel
theorem dX12_cutAll_183 : decode cX12_cutAll 183 = .ok (.iconst 4, 1) := by decide +kernel
theorem dX12_cutAll_184 : decode cX12_cutAll 184 = .ok (.if_icmp .ge 24, 3) := by decide +kernel
theorem dX12_cutAll_187 : decode cX12_cutAll 187 = .ok (.ldc2_w 175, 3) := by decide +kernel
theorem dX12_cutAll_190 : decode cX12_cutAll 190 = .ok (.lload 5, 2) := by decide +kernel
theorem dX12_cutAll_192 : decode cX12_cutAll 192 = .ok (.lmul, 1) := by decide +kernel
theorem dX12_cutAll_193 : decode cX12_cutAll 193 = .ok (.aload_n 0, 1) := by decide +kernel
theorem dX12_cutAll_194 : decode cX12_cutAll 194 = .ok (.getfield 14, 3) := by decide +kernel
theorem dX12_cutAll_197 : decode cX12_cutAll 197 = .ok (.iload_n 2, 1) := by decide +kernel
theorem dX12_cutAll_198 : decode cX12_cutAll 198 = .ok (.iaload, 1) := by decide +kernel
theorem dX12_cutAll_199 : decode cX12_cutAll 199 = .ok (.i2l, 1) := by decide +kernel
theorem dX12_cutAll_200 : decode cX12_cutAll 200 = .ok (.ladd, 1) := by decide +kernel
theorem dX12_cutAll_201 : decode cX12_cutAll 201 = .ok (.ldc2_w 177, 3) := by decide +kernel
theorem dX12_cutAll_204 : decode cX12_cutAll 204 = .ok (.lsub, 1) := by decide +kernel
theorem dX12_cutAll_205 : decode cX12_cutAll 205 = .ok (.goto 5, 3) := by decide +kernel
theorem dX12_cutAll_208 : decode cX12_cutAll 208 = .ok (.lload 5, 2) := by decide +kernel
theorem dX12_cutAll_210 : decode cX12_cutAll 210 = .ok (.lstore 5, 2) := by decide +kernel
theorem dX12_cutAll_212 : decode cX12_cutAll 212 = .ok (.iinc 2 1, 3) := by decide +kernel
theorem dX12_cutAll_215 : decode cX12_cutAll 215 = .ok (.goto (-56), 3) := by decide +kernel
theorem dX12_cutAll_218 : decode cX12_cutAll 218 = .ok (.aload_n 0, 1) := by decide +kernel
theorem dX12_cutAll_219 : decode cX12_cutAll 219 = .ok (.getfield 24, 3) := by decide +kernel
theorem dX12_cutAll_222 : decode cX12_cutAll 222 = .ok (.iload_n 1, 1) := by decide +kernel
theorem dX12_cutAll_223 : decode cX12_cutAll 223 = .ok (.iload_n 2, 1) := by decide +kernel
theorem dX12_cutAll_224 : decode cX12_cutAll 224 = .ok (.iload 4, 2) := by decide +kernel
theorem dX12_cutAll_226 : decode cX12_cutAll 226 = .ok (.isub, 1) := by decide +kernel
theorem dX12_cutAll_227 : decode cX12_cutAll 227 = .ok (.iconst 4, 1) := by decide +kernel
theorem dX12_cutAll_228 : decode cX12_cutAll 228 = .ok (.if_icmp .le 7, 3) := by decide +kernel
theorem dX12_cutAll_231 : decode cX12_cutAll 231 = .ok (.iconst 4, 1) := by decide +kernel
theorem dX12_cutAll_232 : decode cX12_cutAll 232 = .ok (.goto 4, 3) := by decide +kernel
theorem dX12_cutAll_235 : decode cX12_cutAll 235 = .ok (.iconst 2, 1) := by decide +kernel
theorem dX12_cutAll_236 : decode cX12_cutAll 236 = .ok (.iastore, 1) := by decide +kernel
theorem dX12_cutAll_237 : decode cX12_cutAll 237 = .ok (.goto 28, 3) := by decide +kernel
theorem dX12_cutAll_240 : decode cX12_cutAll 240 = .ok (.iload_n 3, 1) := by decide +kernel
theorem dX12_cutAll_241 : decode cX12_cutAll 241 = .ok (.i2l, 1) := by decide +kernel
theorem dX12_cutAll_242 : decode cX12_cutAll 242 = .ok (.lstore 5, 2) := by decide +kernel
theorem dX12_cutAll_244 : decode cX12_cutAll 244 = .ok (.aload_n 0, 1) := by decide +kernel
theorem dX12_cutAll_245 : decode cX12_cutAll 245 = .ok (.getfield 24, 3) := by decide +kernel
theorem dX12_cutAll_248 : decode cX12_cutAll 248 = .ok (.iload_n 1, 1) := by decide +kernel
theorem dX12_cutAll_249 : decode cX12_cutAll 249 = .ok (.iload_n 3, 1) := by decide +kernel
theorem dX12_cutAll_250 : decode cX12_cutAll 250 = .ok (.invokestatic 179, 3) := by decide +kernel
theorem dX12_cutAll_253 : decode cX12_cutAll 253 = .ok (.ifCond .eq 7, 3) := by decide +kernel
theorem dX12_cutAll_256 : decode cX12_cutAll 256 = .ok (.iconst 3, 1) := by decide +kernel
theorem dX12_cutAll_257 : decode cX12_cutAll 257 = .ok (.goto 4, 3) := by decide +kernel
theorem dX12_cutAll_260 : decode cX12_cutAll 260 = .ok (.iconst 4, 1) := by decide +kernel
theorem dX12_cutAll_261 : decode cX12_cutAll 261 = .ok (.iastore, 1) := by decide +kernel
theorem dX12_cutAll_262 : decode cX12_cutAll 262 = .ok (.iinc 2 1, 3) := by decide +kernel
theorem dX12_cutAll_265 : decode cX12_cutAll 265 = .ok (.aload_n 0, 1) := by decide +kernel
theorem dX12_cutAll_266 : decode cX12_cutAll 266 = .ok (.getfield 30, 3) := by decide +kernel
theorem dX12_cutAll_269 : decode cX12_cutAll 269 = .ok (.iload_n 1, 1) := by decide +kernel
theorem dX12_cutAll_270 : decode cX12_cutAll 270 = .ok (.lload 5, 2) := by decide +kernel
theorem dX12_cutAll_272 : decode cX12_cutAll 272 = .ok (.lastore, 1) := by decide +kernel
theorem dX12_cutAll_273 : decode cX12_cutAll 273 = .ok (.iinc 1 1, 3) := by decide +kernel
theorem dX12_cutAll_276 : decode cX12_cutAll 276 = .ok (.goto (-259), 3) := by decide +kernel
theorem dX12_cutAll_279 : decode cX12_cutAll 279 = .ok (.aload_n 0, 1) := by decide +kernel
theorem dX12_cutAll_280 : decode cX12_cutAll 280 = .ok (.getfield 24, 3) := by decide +kernel
theorem dX12_cutAll_283 : decode cX12_cutAll 283 = .ok (.iload_n 1, 1) := by decide +kernel
theorem dX12_cutAll_284 : decode cX12_cutAll 284 = .ok (.iconst 0, 1) := by decide +kernel
theorem dX12_cutAll_285 : decode cX12_cutAll 285 = .ok (.iastore, 1) := by decide +kernel
theorem dX12_cutAll_286 : decode cX12_cutAll 286 = .ok (.aload_n 0, 1) := by decide +kernel
theorem dX12_cutAll_287 : decode cX12_cutAll 287 = .ok (.getfield 27, 3) := by decide +kernel
theorem dX12_cutAll_290 : decode cX12_cutAll 290 = .ok (.iload_n 1, 1) := by decide +kernel
theorem dX12_cutAll_291 : decode cX12_cutAll 291 = .ok (.aload_n 0, 1) := by decide +kernel
theorem dX12_cutAll_292 : decode cX12_cutAll 292 = .ok (.getfield 163, 3) := by decide +kernel
theorem dX12_cutAll_295 : decode cX12_cutAll 295 = .ok (.iastore, 1) := by decide +kernel
theorem dX12_cutAll_296 : decode cX12_cutAll 296 = .ok (.aload_n 0, 1) := by decide +kernel
theorem dX12_cutAll_297 : decode cX12_cutAll 297 = .ok (.iconst 0, 1) := by decide +kernel
theorem dX12_cutAll_298 : decode cX12_cutAll 298 = .ok (.putfield 182, 3) := by decide +kernel
theorem dX12_cutAll_301 : decode cX12_cutAll 301 = .ok (.aload_n 0, 1) := by decide +kernel
theorem dX12_cutAll_302 : decode cX12_cutAll 302 = .ok (.iconst 0, 1) := by decide +kernel
theorem dX12_cutAll_303 : decode cX12_cutAll 303 = .ok (.putfield 185, 3) := by decide +kernel
theorem dX12_cutAll_306 : decode cX12_cutAll 306 = .ok (.return_, 1) := by decide +kernel
theorem dX12_takeWord_0 : decode cX12_takeWord 0 = .ok (.aload_n 0, 1) := by decide +kernel
theorem dX12_takeWord_1 : decode cX12_takeWord 1 = .ok (.iload_n 1, 1) := by decide +kernel
theorem dX12_takeWord_2 : decode cX12_takeWord 2 = .ok (.invokevirtual 197, 3) := by decide +kernel
theorem dX12_takeWord_5 : decode cX12_takeWord 5 = .ok (.ifCond .ne 8, 3) := by decide +kernel
theorem dX12_takeWord_8 : decode cX12_takeWord 8 = .ok (.aload_n 0, 1) := by decide +kernel
theorem dX12_takeWord_9 : decode cX12_takeWord 9 = .ok (.iconst 1, 1) := by decide +kernel
theorem dX12_takeWord_10 : decode cX12_takeWord 10 = .ok (.invokevirtual 191, 3) := by decide +kernel
theorem dX12_takeWord_13 : decode cX12_takeWord 13 = .ok (.return_, 1) := by decide +kernel
theorem dX12_within_0 : decode cX12_within 0 = .ok (.iload_n 0, 1) := by decide +kernel
theorem dX12_within_1 : decode cX12_within 1 = .ok (.iload_n 1, 1) := by decide +kernel
theorem dX12_within_2 : decode cX12_within 2 = .ok (.if_icmp .lt 12, 3) := by decide +kernel
theorem dX12_within_5 : decode cX12_within 5 = .ok (.iload_n 0, 1) := by decide +kernel
theorem dX12_within_6 : decode cX12_within 6 = .ok (.iload_n 2, 1) := by decide +kernel
theorem dX12_within_7 : decode cX12_within 7 = .ok (.if_icmp .gt 7, 3) := by decide +kernel
theorem dX12_within_10 : decode cX12_within 10 = .ok (.iconst 1, 1) := by decide +kernel
theorem dX12_within_11 : decode cX12_within 11 = .ok (.goto 4, 3) := by decide +kernel
theorem dX12_within_14 : decode cX12_within 14 = .ok (.iconst 0, 1) := by decide +kernel
theorem dX12_within_15 : decode cX12_within 15 = .ok (.ireturn, 1) := by decide +kernel
theorem dX12_takeOne_0 : decode cX12_takeOne 0 = .ok (.aload_n 0, 1) := by decide +kernel
theorem dX12_takeOne_1 : decode cX12_takeOne 1 = .ok (.getfield 185, 3) := by decide +kernel
theorem dX12_takeOne_4 : decode cX12_takeOne 4 = .ok (.ifCond .le 7, 3) := by decide +kernel
theorem dX12_takeOne_7 : decode cX12_takeOne 7 = .ok (.iconst (-1), 1) := by decide +kernel
theorem dX12_takeOne_8 : decode cX12_takeOne 8 = .ok (.goto 9, 3) := by decide +kernel
theorem dX12_takeOne_11 : decode cX12_takeOne 11 = .ok (.aload_n 0, 1) := by decide +kernel
theorem dX12_takeOne_12 : decode cX12_takeOne 12 = .ok (.iload_n 1, 1) := by decide +kernel
theorem dX12_takeOne_13 : decode cX12_takeOne 13 = .ok (.iload_n 2, 1) := by decide +kernel
theorem dX12_takeOne_14 : decode cX12_takeOne 14 = .ok (.invokevirtual 200, 3) := by decide +kernel
theorem dX12_takeOne_17 : decode cX12_takeOne 17 = .ok (.istore_n 3, 1) := by decide +kernel
theorem dX12_takeOne_18 : decode cX12_takeOne 18 = .ok (.aload_n 0, 1) := by decide +kernel
theorem dX12_takeOne_19 : decode cX12_takeOne 19 = .ok (.getfield 185, 3) := by decide +kernel
theorem dX12_takeOne_22 : decode cX12_takeOne 22 = .ok (.ifCond .ne 12, 3) := by decide +kernel
theorem dX12_takeOne_25 : decode cX12_takeOne 25 = .ok (.iload_n 3, 1) := by decide +kernel
theorem dX12_takeOne_26 : decode cX12_takeOne 26 = .ok (.ifCond .ge 8, 3) := by decide +kernel
theorem dX12_takeOne_29 : decode cX12_takeOne 29 = .ok (.aload_n 0, 1) := by decide +kernel
theorem dX12_takeOne_30 : decode cX12_takeOne 30 = .ok (.iconst 1, 1) := by decide +kernel
theorem dX12_takeOne_31 : decode cX12_takeOne 31 = .ok (.invokevirtual 191, 3) := by decide +kernel
theorem dX12_takeOne_34 : decode cX12_takeOne 34 = .ok (.aload_n 0, 1) := by decide +kernel
theorem dX12_takeOne_35 : decode cX12_takeOne 35 = .ok (.dup, 1) := by decide +kernel
theorem dX12_takeOne_36 : decode cX12_takeOne 36 = .ok (.getfield 182, 3) := by decide +kernel
theorem dX12_takeOne_39 : decode cX12_takeOne 39 = .ok (.aload_n 0, 1) := by decide +kernel
theorem dX12_takeOne_40 : decode cX12_takeOne 40 = .ok (.getfield 185, 3) := by decide +kernel
theorem dX12_takeOne_43 : decode cX12_takeOne 43 = .ok (.ifCond .le 7, 3) := by decide +kernel
theorem dX12_takeOne_46 : decode cX12_takeOne 46 = .ok (.iconst 0, 1) := by decide +kernel
theorem dX12_takeOne_47 : decode cX12_takeOne 47 = .ok (.goto 4, 3) := by decide +kernel
theorem dX12_takeOne_50 : decode cX12_takeOne 50 = .ok (.iconst 1, 1) := by decide +kernel
theorem dX12_takeOne_51 : decode cX12_takeOne 51 = .ok (.iadd, 1) := by decide +kernel
theorem dX12_takeOne_52 : decode cX12_takeOne 52 = .ok (.putfield 182, 3) := by decide +kernel
theorem dX12_takeOne_55 : decode cX12_takeOne 55 = .ok (.aload_n 0, 1) := by decide +kernel
theorem dX12_takeOne_56 : decode cX12_takeOne 56 = .ok (.getfield 185, 3) := by decide +kernel
theorem dX12_takeOne_59 : decode cX12_takeOne 59 = .ok (.ifCond .le 7, 3) := by decide +kernel
theorem dX12_takeOne_62 : decode cX12_takeOne 62 = .ok (.iconst 0, 1) := by decide +kernel
theorem dX12_takeOne_63 : decode cX12_takeOne 63 = .ok (.goto 4, 3) := by decide +kernel
theorem dX12_takeOne_66 : decode cX12_takeOne 66 = .ok (.iload_n 3, 1) := by decide +kernel
theorem dX12_takeOne_67 : decode cX12_takeOne 67 = .ok (.ireturn, 1) := by decide +kernel
theorem dX12_isOnce_0 : decode cX12_isOnce 0 = .ok (.aload_n 0, 1) := by decide +kernel
theorem dX12_isOnce_1 : decode cX12_isOnce 1 = .ok (.getfield 79, 3) := by decide +kernel
theorem dX12_isOnce_4 : decode cX12_isOnce 4 = .ok (.bipush 54, 2) := by decide +kernel
theorem dX12_isOnce_6 : decode cX12_isOnce 6 = .ok (.iaload, 1) := by decide +kernel
theorem dX12_isOnce_7 : decode cX12_isOnce 7 = .ok (.iload_n 1, 1) := by decide +kernel
theorem dX12_isOnce_8 : decode cX12_isOnce 8 = .ok (.ishr, 1) := by decide +kernel
theorem dX12_isOnce_9 : decode cX12_isOnce 9 = .ok (.iconst 1, 1) := by decide +kernel
theorem dX12_isOnce_10 : decode cX12_isOnce 10 = .ok (.iand, 1) := by decide +kernel
theorem dX12_isOnce_11 : decode cX12_isOnce 11 = .ok (.iconst 1, 1) := by decide +kernel
theorem dX12_isOnce_12 : decode cX12_isOnce 12 = .ok (.if_icmp .ne 10, 3) := by decide +kernel
theorem dX12_isOnce_15 : decode cX12_isOnce 15 = .ok (.aload_n 0, 1) := by decide +kernel
theorem dX12_isOnce_16 : decode cX12_isOnce 16 = .ok (.iconst 3, 1) := by decide +kernel
theorem dX12_isOnce_17 : decode cX12_isOnce 17 = .ok (.invokevirtual 191, 3) := by decide +kernel
theorem dX12_isOnce_20 : decode cX12_isOnce 20 = .ok (.iconst 0, 1) := by decide +kernel
theorem dX12_isOnce_21 : decode cX12_isOnce 21 = .ok (.ireturn, 1) := by decide +kernel
theorem dX12_isOnce_22 : decode cX12_isOnce 22 = .ok (.aload_n 0, 1) := by decide +kernel
theorem dX12_isOnce_23 : decode cX12_isOnce 23 = .ok (.getfield 79, 3) := by decide +kernel
theorem dX12_isOnce_26 : decode cX12_isOnce 26 = .ok (.bipush 54, 2) := by decide +kernel
theorem dX12_isOnce_28 : decode cX12_isOnce 28 = .ok (.dup2, 1) := by decide +kernel
theorem dX12_isOnce_29 : decode cX12_isOnce 29 = .ok (.iaload, 1) := by decide +kernel
theorem dX12_isOnce_30 : decode cX12_isOnce 30 = .ok (.iconst 1, 1) := by decide +kernel
theorem dX12_isOnce_31 : decode cX12_isOnce 31 = .ok (.iload_n 1, 1) := by decide +kernel
theorem dX12_isOnce_32 : decode cX12_isOnce 32 = .ok (.ishl, 1) := by decide +kernel
theorem dX12_isOnce_33 : decode cX12_isOnce 33 = .ok (.ior, 1) := by decide +kernel
theorem dX12_isOnce_34 : decode cX12_isOnce 34 = .ok (.iastore, 1) := by decide +kernel
theorem dX12_isOnce_35 : decode cX12_isOnce 35 = .ok (.aload_n 0, 1) := by decide +kernel
theorem dX12_isOnce_36 : decode cX12_isOnce 36 = .ok (.dup, 1) := by decide +kernel
theorem dX12_isOnce_37 : decode cX12_isOnce 37 = .ok (.getfield 182, 3) := by decide +kernel
theorem dX12_isOnce_40 : decode cX12_isOnce 40 = .ok (.iconst 1, 1) := by decide +kernel
theorem dX12_isOnce_41 : decode cX12_isOnce 41 = .ok (.iadd, 1) := by decide +kernel
theorem dX12_isOnce_42 : decode cX12_isOnce 42 = .ok (.putfield 182, 3) := by decide +kernel
theorem dX12_isOnce_45 : decode cX12_isOnce 45 = .ok (.iconst 1, 1) := by decide +kernel
theorem dX12_isOnce_46 : decode cX12_isOnce 46 = .ok (.ireturn, 1) := by decide +kernel
theorem dX12_readRow_0 : decode cX12_readRow 0 = .ok (.aload_n 0, 1) := by decide +kernel
theorem dX12_readRow_1 : decode cX12_readRow 1 = .ok (.getfield 79, 3) := by decide +kernel
theorem dX12_readRow_4 : decode cX12_readRow 4 = .ok (.bipush 32, 2) := by decide +kernel
theorem dX12_readRow_6 : decode cX12_readRow 6 = .ok (.iaload, 1) := by decide +kernel
theorem dX12_readRow_7 : decode cX12_readRow 7 = .ok (.istore_n 1, 1) := by decide +kernel
theorem dX12_readRow_8 : decode cX12_readRow 8 = .ok (.iload_n 1, 1) := by decide +kernel
theorem dX12_readRow_9 : decode cX12_readRow 9 = .ok (.bipush 8, 2) := by decide +kernel
theorem dX12_readRow_11 : decode cX12_readRow 11 = .ok (.if_icmp .ne 9, 3) := by decide +kernel
theorem dX12_readRow_14 : decode cX12_readRow 14 = .ok (.aload_n 0, 1) := by decide +kernel
theorem dX12_readRow_15 : decode cX12_readRow 15 = .ok (.iconst 5, 1) := by decide +kernel
theorem dX12_readRow_16 : decode cX12_readRow 16 = .ok (.invokevirtual 191, 3) := by decide +kernel
theorem dX12_readRow_19 : decode cX12_readRow 19 = .ok (.return_, 1) := by decide +kernel
theorem dX12_readRow_20 : decode cX12_readRow 20 = .ok (.aload_n 0, 1) := by decide +kernel
theorem dX12_readRow_21 : decode cX12_readRow 21 = .ok (.dup, 1) := by decide +kernel
theorem dX12_readRow_22 : decode cX12_readRow 22 = .ok (.getfield 182, 3) := by decide +kernel
theorem dX12_readRow_25 : decode cX12_readRow 25 = .ok (.iconst 1, 1) := by decide +kernel
theorem dX12_readRow_26 : decode cX12_readRow 26 = .ok (.iadd, 1) := by decide +kernel
theorem dX12_readRow_27 : decode cX12_readRow 27 = .ok (.putfield 182, 3) := by decide +kernel
theorem dX12_readRow_30 : decode cX12_readRow 30 = .ok (.aload_n 0, 1) := by decide +kernel
theorem dX12_readRow_31 : decode cX12_readRow 31 = .ok (.iconst 0, 1) := by decide +kernel
theorem dX12_readRow_32 : decode cX12_readRow 32 = .ok (.putfield 248, 3) := by decide +kernel
theorem dX12_readRow_35 : decode cX12_readRow 35 = .ok (.aload_n 0, 1) := by decide +kernel
theorem dX12_readRow_36 : decode cX12_readRow 36 = .ok (.iconst 0, 1) := by decide +kernel
theorem dX12_readRow_37 : decode cX12_readRow 37 = .ok (.invokevirtual 251, 3) := by decide +kernel
theorem dX12_readRow_40 : decode cX12_readRow 40 = .ok (.aload_n 0, 1) := by decide +kernel
theorem dX12_readRow_41 : decode cX12_readRow 41 = .ok (.bipush 59, 2) := by decide +kernel
theorem dX12_readRow_43 : decode cX12_readRow 43 = .ok (.invokevirtual 188, 3) := by decide +kernel
theorem dX12_readRow_46 : decode cX12_readRow 46 = .ok (.ifCond .eq 17, 3) := by decide +kernel
theorem dX12_readRow_49 : decode cX12_readRow 49 = .ok (.aload_n 0, 1) := by decide +kernel
theorem dX12_readRow_50 : decode cX12_readRow 50 = .ok (.getfield 248, 3) := by decide +kernel
theorem dX12_readRow_53 : decode cX12_readRow 53 = .ok (.bipush 60, 2) := by decide +kernel
theorem dX12_readRow_55 : decode cX12_readRow 55 = .ok (.if_icmp .le 8, 3) := by decide +kernel
theorem dX12_readRow_58 : decode cX12_readRow 58 = .ok (.aload_n 0, 1) := by decide +kernel
theorem dX12_readRow_59 : decode cX12_readRow 59 = .ok (.iconst 5, 1) := by decide +kernel
theorem dX12_readRow_60 : decode cX12_readRow 60 = .ok (.invokevirtual 191, 3) := by decide +kernel
theorem dX12_readRow_63 : decode cX12_readRow 63 = .ok (.aload_n 0, 1) := by decide +kernel
theorem dX12_readRow_64 : decode cX12_readRow 64 = .ok (.getfield 185, 3) := by decide +kernel
theorem dX12_readRow_67 : decode cX12_readRow 67 = .ok (.ifCond .le 4, 3) := by decide +kernel
theorem dX12_readRow_70 : decode cX12_readRow 70 = .ok (.return_, 1) := by decide +kernel
theorem dX12_readRow_71 : decode cX12_readRow 71 = .ok (.iconst 0, 1) := by decide +kernel
theorem dX12_readRow_72 : decode cX12_readRow 72 = .ok (.istore_n 2, 1) := by decide +kernel
theorem dX12_readRow_73 : decode cX12_readRow 73 = .ok (.iload_n 2, 1) := by decide +kernel
theorem dX12_readRow_74 : decode cX12_readRow 74 = .ok (.aload_n 0, 1) := by decide +kernel
theorem dX12_readRow_75 : decode cX12_readRow 75 = .ok (.getfield 248, 3) := by decide +kernel
theorem dX12_readRow_78 : decode cX12_readRow 78 = .ok (.if_icmp .ge 36, 3) := by decide +kernel
theorem dX12_readRow_81 : decode cX12_readRow 81 = .ok (.iload_n 2, 1) := by decide +kernel
theorem dX12_readRow_82 : decode cX12_readRow 82 = .ok (.bipush 60, 2) := by decide +kernel
theorem dX12_readRow_84 : decode cX12_readRow 84 = .ok (.if_icmp .ge 30, 3) := by decide +kernel
theorem dX12_readRow_87 : decode cX12_readRow 87 = .ok (.aload_n 0, 1) := by decide +kernel
theorem dX12_readRow_88 : decode cX12_readRow 88 = .ok (.getfield 82, 3) := by decide +kernel
theorem dX12_readRow_91 : decode cX12_readRow 91 = .ok (.sipush 480, 3) := by decide +kernel
theorem dX12_readRow_94 : decode cX12_readRow 94 = .ok (.bipush 60, 2) := by decide +kernel
theorem dX12_readRow_96 : decode cX12_readRow 96 = .ok (.iload_n 1, 1) := by decide +kernel
theorem dX12_readRow_97 : decode cX12_readRow 97 = .ok (.imul, 1) := by decide +kernel
theorem dX12_readRow_98 : decode cX12_readRow 98 = .ok (.iadd, 1) := by decide +kernel
theorem dX12_readRow_99 : decode cX12_readRow 99 = .ok (.iload_n 2, 1) := by decide +kernel
theorem dX12_readRow_100 : decode cX12_readRow 100 = .ok (.iadd, 1) := by decide +kernel
theorem dX12_readRow_101 : decode cX12_readRow 101 = .ok (.aload_n 0, 1) := by decide +kernel
theorem dX12_readRow_102 : decode cX12_readRow 102 = .ok (.getfield 91, 3) := by decide +kernel
theorem dX12_readRow_105 : decode cX12_readRow 105 = .ok (.iload_n 2, 1) := by decide +kernel
theorem dX12_readRow_106 : decode cX12_readRow 106 = .ok (.iaload, 1) := by decide +kernel
theorem dX12_readRow_107 : decode cX12_readRow 107 = .ok (.iastore, 1) := by decide +kernel
theorem dX12_readRow_108 : decode cX12_readRow 108 = .ok (.iinc 2 1, 3) := by decide +kernel
theorem dX12_readRow_111 : decode cX12_readRow 111 = .ok (.goto (-38), 3) := by decide +kernel
theorem dX12_readRow_114 : decode cX12_readRow 114 = .ok (.aload_n 0, 1) := by decide +kernel
theorem dX12_readRow_115 : decode cX12_readRow 115 = .ok (.getfield 79, 3) := by decide +kernel
theorem dX12_readRow_118 : decode cX12_readRow 118 = .ok (.bipush 46, 2) := by decide +kernel
theorem dX12_readRow_120 : decode cX12_readRow 120 = .ok (.iload_n 1, 1) := by decide +kernel
theorem dX12_readRow_121 : decode cX12_readRow 121 = .ok (.iadd, 1) := by decide +kernel
theorem dX12_readRow_122 : decode cX12_readRow 122 = .ok (.aload_n 0, 1) := by decide +kernel
theorem dX12_readRow_123 : decode cX12_readRow 123 = .ok (.getfield 248, 3) := by decide +kernel
theorem dX12_readRow_126 : decode cX12_readRow 126 = .ok (.iastore, 1) := by decide +kernel
theorem dX12_readRow_127 : decode cX12_readRow 127 = .ok (.aload_n 0, 1) := by decide +kernel
theorem dX12_readRow_128 : decode cX12_readRow 128 = .ok (.getfield 79, 3) := by decide +kernel
theorem dX12_readRow_131 : decode cX12_readRow 131 = .ok (.bipush 32, 2) := by decide +kernel
theorem dX12_readRow_133 : decode cX12_readRow 133 = .ok (.dup2, 1) := by decide +kernel
theorem dX12_readRow_134 : decode cX12_readRow 134 = .ok (.iaload, 1) := by decide +kernel
theorem dX12_readRow_135 : decode cX12_readRow 135 = .ok (.iconst 1, 1) := by decide +kernel
theorem dX12_readRow_136 : decode cX12_readRow 136 = .ok (.iadd, 1) := by decide +kernel
theorem dX12_readRow_137 : decode cX12_readRow 137 = .ok (.iastore, 1) := by decide +kernel
theorem dX12_readRow_138 : decode cX12_readRow 138 = .ok (.return_, 1) := by decide +kernel
theorem dX12_readWord_0 : decode cX12_readWord 0 = .ok (.aload_n 0, 1) := by decide +kernel
theorem dX12_readWord_1 : decode cX12_readWord 1 = .ok (.getfield 79, 3) := by decide +kernel
theorem dX12_readWord_4 : decode cX12_readWord 4 = .ok (.bipush 30, 2) := by decide +kernel
theorem dX12_readWord_6 : decode cX12_readWord 6 = .ok (.iaload, 1) := by decide +kernel
theorem dX12_readWord_7 : decode cX12_readWord 7 = .ok (.istore_n 1, 1) := by decide +kernel
theorem dX12_readWord_8 : decode cX12_readWord 8 = .ok (.iload_n 1, 1) := by decide +kernel
theorem dX12_readWord_9 : decode cX12_readWord 9 = .ok (.iconst 4, 1) := by decide +kernel
theorem dX12_readWord_10 : decode cX12_readWord 10 = .ok (.if_icmp .ne 9, 3) := by decide +kernel
theorem dX12_readWord_13 : decode cX12_readWord 13 = .ok (.aload_n 0, 1) := by decide +kernel
theorem dX12_readWord_14 : decode cX12_readWord 14 = .ok (.iconst 5, 1) := by decide +kernel
theorem dX12_readWord_15 : decode cX12_readWord 15 = .ok (.invokevirtual 191, 3) := by decide +kernel
theorem dX12_readWord_18 : decode cX12_readWord 18 = .ok (.return_, 1) := by decide +kernel
theorem dX12_readWord_19 : decode cX12_readWord 19 = .ok (.aload_n 0, 1) := by decide +kernel
theorem dX12_readWord_20 : decode cX12_readWord 20 = .ok (.dup, 1) := by decide +kernel
theorem dX12_readWord_21 : decode cX12_readWord 21 = .ok (.getfield 182, 3) := by decide +kernel
theorem dX12_readWord_24 : decode cX12_readWord 24 = .ok (.iconst 1, 1) := by decide +kernel
theorem dX12_readWord_25 : decode cX12_readWord 25 = .ok (.iadd, 1) := by decide +kernel
theorem dX12_readWord_26 : decode cX12_readWord 26 = .ok (.putfield 182, 3) := by decide +kernel
theorem dX12_readWord_29 : decode cX12_readWord 29 = .ok (.aload_n 0, 1) := by decide +kernel
theorem dX12_readWord_30 : decode cX12_readWord 30 = .ok (.invokevirtual 204, 3) := by decide +kernel
theorem dX12_readWord_33 : decode cX12_readWord 33 = .ok (.ifCond .ne 11, 3) := by decide +kernel
theorem dX12_readWord_36 : decode cX12_readWord 36 = .ok (.aload_n 0, 1) := by decide +kernel
theorem dX12_readWord_37 : decode cX12_readWord 37 = .ok (.iconst 1, 1) := by decide +kernel
theorem dX12_readWord_38 : decode cX12_readWord 38 = .ok (.invokevirtual 191, 3) := by decide +kernel
theorem dX12_readWord_41 : decode cX12_readWord 41 = .ok (.goto 17, 3) := by decide +kernel
theorem dX12_readWord_44 : decode cX12_readWord 44 = .ok (.aload_n 0, 1) := by decide +kernel
theorem dX12_readWord_45 : decode cX12_readWord 45 = .ok (.iconst 4, 1) := by decide +kernel
theorem dX12_readWord_46 : decode cX12_readWord 46 = .ok (.iload_n 1, 1) := by decide +kernel
theorem dX12_readWord_47 : decode cX12_readWord 47 = .ok (.invokevirtual 208, 3) := by decide +kernel
theorem dX12_readWord_50 : decode cX12_readWord 50 = .ok (.ifCond .lt 8, 3) := by decide +kernel
theorem dX12_readWord_53 : decode cX12_readWord 53 = .ok (.aload_n 0, 1) := by decide +kernel
theorem dX12_readWord_54 : decode cX12_readWord 54 = .ok (.iconst 3, 1) := by decide +kernel
theorem dX12_readWord_55 : decode cX12_readWord 55 = .ok (.invokevirtual 191, 3) := by decide +kernel
theorem dX12_readWord_58 : decode cX12_readWord 58 = .ok (.aload_n 0, 1) := by decide +kernel
theorem dX12_readWord_59 : decode cX12_readWord 59 = .ok (.getfield 185, 3) := by decide +kernel
theorem dX12_readWord_62 : decode cX12_readWord 62 = .ok (.ifCond .le 4, 3) := by decide +kernel
theorem dX12_readWord_65 : decode cX12_readWord 65 = .ok (.return_, 1) := by decide +kernel
theorem dX12_readWord_66 : decode cX12_readWord 66 = .ok (.aload_n 0, 1) := by decide +kernel
theorem dX12_readWord_67 : decode cX12_readWord 67 = .ok (.getfield 88, 3) := by decide +kernel
theorem dX12_readWord_70 : decode cX12_readWord 70 = .ok (.iconst 4, 1) := by decide +kernel
theorem dX12_readWord_71 : decode cX12_readWord 71 = .ok (.iload_n 1, 1) := by decide +kernel
theorem dX12_readWord_72 : decode cX12_readWord 72 = .ok (.iadd, 1) := by decide +kernel
theorem dX12_readWord_73 : decode cX12_readWord 73 = .ok (.aload_n 0, 1) := by decide +kernel
theorem dX12_readWord_74 : decode cX12_readWord 74 = .ok (.getfield 30, 3) := by decide +kernel
theorem dX12_readWord_77 : decode cX12_readWord 77 = .ok (.aload_n 0, 1) := by decide +kernel
theorem dX12_readWord_78 : decode cX12_readWord 78 = .ok (.getfield 182, 3) := by decide +kernel
theorem dX12_readWord_81 : decode cX12_readWord 81 = .ok (.laload, 1) := by decide +kernel
theorem dX12_readWord_82 : decode cX12_readWord 82 = .ok (.lastore, 1) := by decide +kernel
theorem dX12_readWord_83 : decode cX12_readWord 83 = .ok (.aload_n 0, 1) := by decide +kernel
theorem dX12_readWord_84 : decode cX12_readWord 84 = .ok (.dup, 1) := by decide +kernel
theorem dX12_readWord_85 : decode cX12_readWord 85 = .ok (.getfield 182, 3) := by decide +kernel
theorem dX12_readWord_88 : decode cX12_readWord 88 = .ok (.iconst 1, 1) := by decide +kernel
theorem dX12_readWord_89 : decode cX12_readWord 89 = .ok (.iadd, 1) := by decide +kernel
theorem dX12_readWord_90 : decode cX12_readWord 90 = .ok (.putfield 182, 3) := by decide +kernel
theorem dX12_readWord_93 : decode cX12_readWord 93 = .ok (.aload_n 0, 1) := by decide +kernel
theorem dX12_readWord_94 : decode cX12_readWord 94 = .ok (.bipush 10, 2) := by decide +kernel
theorem dX12_readWord_96 : decode cX12_readWord 96 = .ok (.iconst 4, 1) := by decide +kernel
theorem dX12_readWord_97 : decode cX12_readWord 97 = .ok (.invokevirtual 245, 3) := by decide +kernel
theorem dX12_readWord_100 : decode cX12_readWord 100 = .ok (.istore_n 2, 1) := by decide +kernel
theorem dX12_readWord_101 : decode cX12_readWord 101 = .ok (.aload_n 0, 1) := by decide +kernel
theorem dX12_readWord_102 : decode cX12_readWord 102 = .ok (.getfield 185, 3) := by decide +kernel
theorem dX12_readWord_105 : decode cX12_readWord 105 = .ok (.ifCond .ne 24, 3) := by decide +kernel
theorem dX12_readWord_108 : decode cX12_readWord 108 = .ok (.aload_n 0, 1) := by decide +kernel
theorem dX12_readWord_109 : decode cX12_readWord 109 = .ok (.getfield 79, 3) := by decide +kernel
theorem dX12_readWord_112 : decode cX12_readWord 112 = .ok (.bipush 34, 2) := by decide +kernel
theorem dX12_readWord_114 : decode cX12_readWord 114 = .ok (.iload_n 1, 1) := by decide +kernel
theorem dX12_readWord_115 : decode cX12_readWord 115 = .ok (.iadd, 1) := by decide +kernel
theorem dX12_readWord_116 : decode cX12_readWord 116 = .ok (.iload_n 2, 1) := by decide +kernel
theorem dX12_readWord_117 : decode cX12_readWord 117 = .ok (.iastore, 1) := by decide +kernel
theorem dX12_readWord_118 : decode cX12_readWord 118 = .ok (.aload_n 0, 1) := by decide +kernel
theorem dX12_readWord_119 : decode cX12_readWord 119 = .ok (.getfield 79, 3) := by decide +kernel
theorem dX12_readWord_122 : decode cX12_readWord 122 = .ok (.bipush 30, 2) := by decide +kernel
theorem dX12_readWord_124 : decode cX12_readWord 124 = .ok (.dup2, 1) := by decide +kernel
theorem dX12_readWord_125 : decode cX12_readWord 125 = .ok (.iaload, 1) := by decide +kernel
theorem dX12_readWord_126 : decode cX12_readWord 126 = .ok (.iconst 1, 1) := by decide +kernel
theorem dX12_readWord_127 : decode cX12_readWord 127 = .ok (.iadd, 1) := by decide +kernel
theorem dX12_readWord_128 : decode cX12_readWord 128 = .ok (.iastore, 1) := by decide +kernel
theorem dX12_readWord_129 : decode cX12_readWord 129 = .ok (.return_, 1) := by decide +kernel
theorem dX12_readLine_0 : decode cX12_readLine 0 = .ok (.aload_n 0, 1) := by decide +kernel
theorem dX12_readLine_1 : decode cX12_readLine 1 = .ok (.iconst 0, 1) := by decide +kernel
theorem dX12_readLine_2 : decode cX12_readLine 2 = .ok (.invokevirtual 194, 3) := by decide +kernel
theorem dX12_readLine_5 : decode cX12_readLine 5 = .ok (.ifCond .eq 10, 3) := by decide +kernel
theorem dX12_readLine_8 : decode cX12_readLine 8 = .ok (.aload_n 0, 1) := by decide +kernel
theorem dX12_readLine_9 : decode cX12_readLine 9 = .ok (.invokevirtual 223, 3) := by decide +kernel
theorem dX12_readLine_12 : decode cX12_readLine 12 = .ok (.goto 197, 3) := by decide +kernel
theorem dX12_readLine_15 : decode cX12_readLine 15 = .ok (.aload_n 0, 1) := by decide +kernel
theorem dX12_readLine_16 : decode cX12_readLine 16 = .ok (.iconst 2, 1) := by decide +kernel
theorem dX12_readLine_17 : decode cX12_readLine 17 = .ok (.invokevirtual 194, 3) := by decide +kernel
theorem dX12_readLine_20 : decode cX12_readLine 20 = .ok (.ifCond .eq 10, 3) := by decide +kernel
theorem dX12_readLine_23 : decode cX12_readLine 23 = .ok (.aload_n 0, 1) := by decide +kernel
theorem dX12_readLine_24 : decode cX12_readLine 24 = .ok (.invokevirtual 226, 3) := by decide +kernel
theorem dX12_readLine_27 : decode cX12_readLine 27 = .ok (.goto 182, 3) := by decide +kernel
theorem dX12_readLine_30 : decode cX12_readLine 30 = .ok (.aload_n 0, 1) := by decide +kernel
theorem dX12_readLine_31 : decode cX12_readLine 31 = .ok (.iconst 3, 1) := by decide +kernel
theorem dX12_readLine_32 : decode cX12_readLine 32 = .ok (.invokevirtual 194, 3) := by decide +kernel
theorem dX12_readLine_35 : decode cX12_readLine 35 = .ok (.ifCond .eq 95, 3) := by decide +kernel
theorem dX12_readLine_38 : decode cX12_readLine 38 = .ok (.aload_n 0, 1) := by decide +kernel
theorem dX12_readLine_39 : decode cX12_readLine 39 = .ok (.dup, 1) := by decide +kernel
theorem dX12_readLine_40 : decode cX12_readLine 40 = .ok (.getfield 182, 3) := by decide +kernel
theorem dX12_readLine_43 : decode cX12_readLine 43 = .ok (.iconst 1, 1) := by decide +kernel
theorem dX12_readLine_44 : decode cX12_readLine 44 = .ok (.iadd, 1) := by decide +kernel
theorem dX12_readLine_45 : decode cX12_readLine 45 = .ok (.putfield 182, 3) := by decide +kernel
theorem dX12_readLine_48 : decode cX12_readLine 48 = .ok (.aload_n 0, 1) := by decide +kernel
theorem dX12_readLine_49 : decode cX12_readLine 49 = .ok (.iconst 0, 1) := by decide +kernel
theorem dX12_readLine_50 : decode cX12_readLine 50 = .ok (.aload_n 0, 1) := by decide +kernel
theorem dX12_readLine_51 : decode cX12_readLine 51 = .ok (.getfield 79, 3) := by decide +kernel
theorem dX12_readLine_54 : decode cX12_readLine 54 = .ok (.bipush 32, 2) := by decide +kernel
theorem dX12_readLine_56 : decode cX12_readLine 56 = .ok (.iaload, 1) := by decide +kernel
theorem dX12_readLine_57 : decode cX12_readLine 57 = .ok (.iconst 1, 1) := by decide +kernel
theorem dX12_readLine_58 : decode cX12_readLine 58 = .ok (.isub, 1) := by decide +kernel
theorem dX12_readLine_59 : decode cX12_readLine 59 = .ok (.invokevirtual 229, 3) := by decide +kernel
theorem dX12_readLine_62 : decode cX12_readLine 62 = .ok (.istore_n 1, 1) := by decide +kernel
theorem dX12_readLine_63 : decode cX12_readLine 63 = .ok (.aload_n 0, 1) := by decide +kernel
theorem dX12_readLine_64 : decode cX12_readLine 64 = .ok (.getfield 185, 3) := by decide +kernel
theorem dX12_readLine_67 : decode cX12_readLine 67 = .ok (.ifCond .ne 30, 3) := by decide +kernel
theorem dX12_readLine_70 : decode cX12_readLine 70 = .ok (.aload_n 0, 1) := by decide +kernel
theorem dX12_readLine_71 : decode cX12_readLine 71 = .ok (.getfield 79, 3) := by decide +kernel
theorem dX12_readLine_74 : decode cX12_readLine 74 = .ok (.bipush 38, 2) := by decide +kernel
theorem dX12_readLine_76 : decode cX12_readLine 76 = .ok (.iload_n 1, 1) := by decide +kernel
theorem dX12_readLine_77 : decode cX12_readLine 77 = .ok (.iadd, 1) := by decide +kernel
theorem dX12_readLine_78 : decode cX12_readLine 78 = .ok (.iaload, 1) := by decide +kernel
theorem dX12_readLine_79 : decode cX12_readLine 79 = .ok (.ifCond .lt 18, 3) := by decide +kernel
theorem dX12_readLine_82 : decode cX12_readLine 82 = .ok (.aload_n 0, 1) := by decide +kernel
theorem dX12_readLine_83 : decode cX12_readLine 83 = .ok (.dup, 1) := by decide +kernel
theorem dX12_readLine_84 : decode cX12_readLine 84 = .ok (.getfield 182, 3) := by decide +kernel
theorem dX12_readLine_87 : decode cX12_readLine 87 = .ok (.iconst 1, 1) := by decide +kernel
theorem dX12_readLine_88 : decode cX12_readLine 88 = .ok (.isub, 1) := by decide +kernel
theorem dX12_readLine_89 : decode cX12_readLine 89 = .ok (.putfield 182, 3) := by decide +kernel
theorem dX12_readLine_92 : decode cX12_readLine 92 = .ok (.aload_n 0, 1) := by decide +kernel
theorem dX12_readLine_93 : decode cX12_readLine 93 = .ok (.iconst 3, 1) := by decide +kernel
theorem dX12_readLine_94 : decode cX12_readLine 94 = .ok (.invokevirtual 191, 3) := by decide +kernel
theorem dX12_readLine_97 : decode cX12_readLine 97 = .ok (.aload_n 0, 1) := by decide +kernel
theorem dX12_readLine_98 : decode cX12_readLine 98 = .ok (.iconst 4, 1) := by decide +kernel
theorem dX12_readLine_99 : decode cX12_readLine 99 = .ok (.invokevirtual 232, 3) := by decide +kernel
theorem dX12_readLine_102 : decode cX12_readLine 102 = .ok (.aload_n 0, 1) := by decide +kernel
theorem dX12_readLine_103 : decode cX12_readLine 103 = .ok (.iconst 0, 1) := by decide +kernel
theorem dX12_readLine_104 : decode cX12_readLine 104 = .ok (.bipush 99, 2) := by decide +kernel
theorem dX12_readLine_106 : decode cX12_readLine 106 = .ok (.invokevirtual 229, 3) := by decide +kernel
theorem dX12_readLine_109 : decode cX12_readLine 109 = .ok (.istore_n 2, 1) := by decide +kernel
theorem dX12_readLine_110 : decode cX12_readLine 110 = .ok (.aload_n 0, 1) := by decide +kernel
theorem dX12_readLine_111 : decode cX12_readLine 111 = .ok (.getfield 185, 3) := by decide +kernel
theorem dX12_readLine_114 : decode cX12_readLine 114 = .ok (.ifCond .ne 13, 3) := by decide +kernel
theorem dX12_readLine_117 : decode cX12_readLine 117 = .ok (.aload_n 0, 1) := by decide +kernel
theorem dX12_readLine_118 : decode cX12_readLine 118 = .ok (.getfield 79, 3) := by decide +kernel
theorem dX12_readLine_121 : decode cX12_readLine 121 = .ok (.bipush 38, 2) := by decide +kernel
theorem dX12_readLine_123 : decode cX12_readLine 123 = .ok (.iload_n 1, 1) := by decide +kernel
theorem dX12_readLine_124 : decode cX12_readLine 124 = .ok (.iadd, 1) := by decide +kernel
theorem dX12_readLine_125 : decode cX12_readLine 125 = .ok (.iload_n 2, 1) := by decide +kernel
theorem dX12_readLine_126 : decode cX12_readLine 126 = .ok (.iastore, 1) := by decide +kernel
theorem dX12_readLine_127 : decode cX12_readLine 127 = .ok (.goto 82, 3) := by decide +kernel
theorem dX12_readLine_130 : decode cX12_readLine 130 = .ok (.aload_n 0, 1) := by decide +kernel
theorem dX12_readLine_131 : decode cX12_readLine 131 = .ok (.iconst 1, 1) := by decide +kernel
theorem dX12_readLine_132 : decode cX12_readLine 132 = .ok (.invokevirtual 194, 3) := by decide +kernel
theorem dX12_readLine_135 : decode cX12_readLine 135 = .ok (.ifCond .eq 28, 3) := by decide +kernel
theorem dX12_readLine_138 : decode cX12_readLine 138 = .ok (.aload_n 0, 1) := by decide +kernel
theorem dX12_readLine_139 : decode cX12_readLine 139 = .ok (.iconst 0, 1) := by decide +kernel
theorem dX12_readLine_140 : decode cX12_readLine 140 = .ok (.invokevirtual 235, 3) := by decide +kernel
theorem dX12_readLine_143 : decode cX12_readLine 143 = .ok (.ifCond .eq 66, 3) := by decide +kernel
theorem dX12_readLine_146 : decode cX12_readLine 146 = .ok (.aload_n 0, 1) := by decide +kernel
theorem dX12_readLine_147 : decode cX12_readLine 147 = .ok (.getfield 79, 3) := by decide +kernel
theorem dX12_readLine_150 : decode cX12_readLine 150 = .ok (.bipush 31, 2) := by decide +kernel
theorem dX12_readLine_152 : decode cX12_readLine 152 = .ok (.aload_n 0, 1) := by decide +kernel
theorem dX12_readLine_153 : decode cX12_readLine 153 = .ok (.iconst 1, 1) := by decide +kernel
theorem dX12_readLine_154 : decode cX12_readLine 154 = .ok (.bipush 60, 2) := by decide +kernel
theorem dX12_readLine_156 : decode cX12_readLine 156 = .ok (.invokevirtual 229, 3) := by decide +kernel
theorem dX12_readLine_159 : decode cX12_readLine 159 = .ok (.iastore, 1) := by decide +kernel
theorem dX12_readLine_160 : decode cX12_readLine 160 = .ok (.goto 49, 3) := by decide +kernel
theorem dX12_readLine_163 : decode cX12_readLine 163 = .ok (.aload_n 0, 1) := by decide +kernel
theorem dX12_readLine_164 : decode cX12_readLine 164 = .ok (.iconst 5, 1) := by decide +kernel
theorem dX12_readLine_165 : decode cX12_readLine 165 = .ok (.invokevirtual 194, 3) := by decide +kernel
theorem dX12_readLine_168 : decode cX12_readLine 168 = .ok (.ifCond .ne 11, 3) := by decide +kernel
theorem dX12_readLine_171 : decode cX12_readLine 171 = .ok (.aload_n 0, 1) := by decide +kernel
theorem dX12_readLine_172 : decode cX12_readLine 172 = .ok (.iconst 1, 1) := by decide +kernel
theorem dX12_readLine_173 : decode cX12_readLine 173 = .ok (.invokevirtual 191, 3) := by decide +kernel
theorem dX12_readLine_176 : decode cX12_readLine 176 = .ok (.goto 33, 3) := by decide +kernel
theorem dX12_readLine_179 : decode cX12_readLine 179 = .ok (.aload_n 0, 1) := by decide +kernel
theorem dX12_readLine_180 : decode cX12_readLine 180 = .ok (.iconst 1, 1) := by decide +kernel
theorem dX12_readLine_181 : decode cX12_readLine 181 = .ok (.invokevirtual 235, 3) := by decide +kernel
theorem dX12_readLine_184 : decode cX12_readLine 184 = .ok (.ifCond .eq 25, 3) := by decide +kernel
theorem dX12_readLine_187 : decode cX12_readLine 187 = .ok (.aload_n 0, 1) := by decide +kernel
theorem dX12_readLine_188 : decode cX12_readLine 188 = .ok (.getfield 79, 3) := by decide +kernel
theorem dX12_readLine_191 : decode cX12_readLine 191 = .ok (.bipush 33, 2) := by decide +kernel
theorem dX12_readLine_193 : decode cX12_readLine 193 = .ok (.aload_n 0, 1) := by decide +kernel
theorem dX12_readLine_194 : decode cX12_readLine 194 = .ok (.getfield 214, 3) := by decide +kernel
theorem dX12_readLine_197 : decode cX12_readLine 197 = .ok (.iastore, 1) := by decide +kernel
theorem dX12_readLine_198 : decode cX12_readLine 198 = .ok (.aload_n 0, 1) := by decide +kernel
theorem dX12_readLine_199 : decode cX12_readLine 199 = .ok (.iconst 0, 1) := by decide +kernel
theorem dX12_readLine_200 : decode cX12_readLine 200 = .ok (.invokevirtual 238, 3) := by decide +kernel
theorem dX12_readLine_203 : decode cX12_readLine 203 = .ok (.aload_n 0, 1) := by decide +kernel
theorem dX12_readLine_204 : decode cX12_readLine 204 = .ok (.iconst 0, 1) := by decide +kernel
theorem dX12_readLine_205 : decode cX12_readLine 205 = .ok (.iconst 0, 1) := by decide +kernel
theorem dX12_readLine_206 : decode cX12_readLine 206 = .ok (.invokevirtual 241, 3) := by decide +kernel
theorem dX12_readLine_209 : decode cX12_readLine 209 = .ok (.return_, 1) := by decide +kernel
theorem zq_140 : Cond.fieldLink RX12 14 "ForeignKnitModel" "tape" "[I" ∈ zG := List.mem_of_getElem? (i := 140) (by decide +kernel)
theorem zq_167 : Cond.fieldLink RX12 82 "ForeignKnitModel" "items" "[I" ∈ zG := List.mem_of_getElem? (i := 167) (by decide +kernel)
theorem zq_171 : Cond.fieldLink RX12 94 "ForeignKnitModel" "lines" "[I" ∈ zG := List.mem_of_getElem? (i := 171) (by decide +kernel)
theorem zq_172 : Cond.fieldLink RX12 97 "ForeignKnitModel" "facts" "[I" ∈ zG := List.mem_of_getElem? (i := 172) (by decide +kernel)
theorem zq_173 : Cond.fieldLink RX12 100 "ForeignKnitModel" "pile" "[I" ∈ zG := List.mem_of_getElem? (i := 173) (by decide +kernel)
theorem zq_174 : Cond.fieldLink RX12 103 "ForeignKnitModel" "state" "[I" ∈ zG := List.mem_of_getElem? (i := 174) (by decide +kernel)
theorem zq_175 : Cond.fieldLink RX12 106 "ForeignKnitModel" "isMarked" "[Z" ∈ zG := List.mem_of_getElem? (i := 175) (by decide +kernel)
theorem zq_176 : Cond.fieldLink RX12 110 "ForeignKnitModel" "isMeaning" "[Z" ∈ zG := List.mem_of_getElem? (i := 176) (by decide +kernel)
theorem zq_177 : Cond.fieldLink RX12 113 "ForeignKnitModel" "meanings" "[I" ∈ zG := List.mem_of_getElem? (i := 177) (by decide +kernel)
theorem zq_178 : Cond.fieldLink RX12 116 "ForeignKnitModel" "uses" "[I" ∈ zG := List.mem_of_getElem? (i := 178) (by decide +kernel)
theorem zq_198 : Cond.fieldLink RX12 305 "ForeignKnitModel" "undos" "I" ∈ zG := List.mem_of_getElem? (i := 198) (by decide +kernel)
theorem zq_199 : Cond.methodLink RX12 270 yX12_rows ∈ zG := List.mem_of_getElem? (i := 199) (by decide +kernel)
theorem zq_203 : Cond.methodLink RX12 292 yX12_longOf ∈ zG := List.mem_of_getElem? (i := 203) (by decide +kernel)
theorem zq_207 : Cond.methodLink RX12 295 yX12_itemOf ∈ zG := List.mem_of_getElem? (i := 207) (by decide +kernel)
theorem zq_211 : Cond.methodLink RX12 266 yX12_wordsTold ∈ zG := List.mem_of_getElem? (i := 211) (by decide +kernel)
theorem zq_215 : Cond.methodLink RX12 298 yX12_means ∈ zG := List.mem_of_getElem? (i := 215) (by decide +kernel)
theorem zq_219 : Cond.methodLink RX12 312 yX12_usesOf ∈ zG := List.mem_of_getElem? (i := 219) (by decide +kernel)
theorem zq_223 : Cond.methodLink RX12 315 yX12_worthAt ∈ zG := List.mem_of_getElem? (i := 223) (by decide +kernel)
theorem zq_227 : Cond.methodLink RX12 288 yX12_worked ∈ zG := List.mem_of_getElem? (i := 227) (by decide +kernel)
theorem zq_230 : Cond.methodLink RX12 302 yX12_forgets ∈ zG := List.mem_of_getElem? (i := 230) (by decide +kernel)
theorem zq_248 : Cond.fieldLink RX12 1 "ForeignKnitModel" "thrown" "I" ∈ zG := List.mem_of_getElem? (i := 248) (by decide +kernel)
theorem zq_249 : Cond.fieldLink RX12 11 "ForeignKnitModel" "taped" "I" ∈ zG := List.mem_of_getElem? (i := 249) (by decide +kernel)
theorem zq_250 : Cond.methodLink RX12 7 yX12_lay ∈ zG := List.mem_of_getElem? (i := 250) (by decide +kernel)
theorem zq_591 : Cond.fieldLink RX12 163 "ForeignKnitModel" "size" "I" ∈ zG := List.mem_of_getElem? (i := 591) (by decide +kernel)
theorem zq_592 : Cond.constantLong RX12 166 (37) ∈ zG := List.mem_of_getElem? (i := 592) (by decide +kernel)
theorem zq_593 : Cond.constantLong RX12 175 (10) ∈ zG := List.mem_of_getElem? (i := 593) (by decide +kernel)
theorem zq_594 : Cond.constantLong RX12 177 (48) ∈ zG := List.mem_of_getElem? (i := 594) (by decide +kernel)
theorem zq_595 : Cond.methodLink RX12 159 yX12_isLetter ∈ zG := List.mem_of_getElem? (i := 595) (by decide +kernel)
theorem zq_598 : Cond.methodLink RX12 168 yX12_rank ∈ zG := List.mem_of_getElem? (i := 598) (by decide +kernel)
theorem zq_601 : Cond.methodLink RX12 172 yX12_isDigit ∈ zG := List.mem_of_getElem? (i := 601) (by decide +kernel)
theorem zq_604 : Cond.methodLink RX12 179 yX12_isSignOf ∈ zG := List.mem_of_getElem? (i := 604) (by decide +kernel)
theorem zq_615 : Cond.methodLink RX12 223 yX12_readWord ∈ zG := List.mem_of_getElem? (i := 615) (by decide +kernel)
theorem zq_635 : Cond.methodLink RX12 245 yX12_takeOne ∈ zG := List.mem_of_getElem? (i := 635) (by decide +kernel)
theorem zq_639 : Cond.methodLink RX12 226 yX12_readRow ∈ zG := List.mem_of_getElem? (i := 639) (by decide +kernel)
theorem zq_672 : Cond.methodLink RX12 232 yX12_takeWord ∈ zG := List.mem_of_getElem? (i := 672) (by decide +kernel)
theorem zq_680 : Cond.methodLink RX12 235 yX12_isOnce ∈ zG := List.mem_of_getElem? (i := 680) (by decide +kernel)
theorem zfd_X12_1 : zFd RX12 1 12 0 := ⟨_, rfl, by decide, zq_248⟩
theorem zfd_X12_11 : zFd RX12 11 12 2 := ⟨_, rfl, by decide, zq_249⟩
theorem zfd_X12_14 : zFd RX12 14 12 1 := ⟨_, rfl, by decide, zq_140⟩
theorem zfd_X12_82 : zFd RX12 82 12 11 := ⟨_, rfl, by decide, zq_167⟩
theorem zfd_X12_94 : zFd RX12 94 12 17 := ⟨_, rfl, by decide, zq_171⟩
theorem zfd_X12_97 : zFd RX12 97 12 18 := ⟨_, rfl, by decide, zq_172⟩
theorem zfd_X12_100 : zFd RX12 100 12 19 := ⟨_, rfl, by decide, zq_173⟩
theorem zfd_X12_103 : zFd RX12 103 12 20 := ⟨_, rfl, by decide, zq_174⟩
theorem zfd_X12_106 : zFd RX12 106 12 22 := ⟨_, rfl, by decide, zq_175⟩
theorem zfd_X12_110 : zFd RX12 110 12 23 := ⟨_, rfl, by decide, zq_176⟩
theorem zfd_X12_113 : zFd RX12 113 12 24 := ⟨_, rfl, by decide, zq_177⟩
theorem zfd_X12_116 : zFd RX12 116 12 25 := ⟨_, rfl, by decide, zq_178⟩
theorem zfd_X12_163 : zFd RX12 163 12 3 := ⟨_, rfl, by decide, zq_591⟩
theorem zfp_X12_1 : zFp RX12 1 12 0 .int := ⟨_, rfl, by decide, zq_248, rfl, by decide +kernel⟩
theorem zfp_X12_11 : zFp RX12 11 12 2 .int := ⟨_, rfl, by decide, zq_249, rfl, by decide +kernel⟩
theorem zfp_X12_163 : zFp RX12 163 12 3 .int := ⟨_, rfl, by decide, zq_591, rfl, by decide +kernel⟩
theorem zfp_X12_305 : zFp RX12 305 12 21 .int := ⟨_, rfl, by decide, zq_198, rfl, by decide +kernel⟩
theorem zq_233 : Cond.code yX12_forgets cX12_forgets 2 none ∈ zG := List.mem_of_getElem? (i := 233) (by decide +kernel)
theorem zq_231 : Cond.instanceMethod yX12_forgets ∈ zG := List.mem_of_getElem? (i := 231) (by decide +kernel)
theorem zq_232 : Cond.selects RX12 yX12_forgets yX12_forgets ∈ zG := List.mem_of_getElem? (i := 232) (by decide +kernel)
theorem zy_X12_forgets : zyV yX12_forgets cX12_forgets 2 none 0 := ⟨zq_233, zq_231, zq_232, zq_5, ⟨by decide, by decide⟩, by decide +kernel, by decide⟩
theorem zq_683 : Cond.code yX12_isOnce cX12_isOnce 2 (some .boolean) ∈ zG := List.mem_of_getElem? (i := 683) (by decide +kernel)
theorem zq_681 : Cond.instanceMethod yX12_isOnce ∈ zG := List.mem_of_getElem? (i := 681) (by decide +kernel)
theorem zq_682 : Cond.selects RX12 yX12_isOnce yX12_isOnce ∈ zG := List.mem_of_getElem? (i := 682) (by decide +kernel)
theorem zy_X12_isOnce : zyV yX12_isOnce cX12_isOnce 2 (some .boolean) 1 := ⟨zq_683, zq_681, zq_682, zq_5, ⟨by decide, by decide⟩, by decide +kernel, by decide⟩
theorem zq_210 : Cond.code yX12_itemOf cX12_itemOf 3 (some .int) ∈ zG := List.mem_of_getElem? (i := 210) (by decide +kernel)
theorem zq_208 : Cond.instanceMethod yX12_itemOf ∈ zG := List.mem_of_getElem? (i := 208) (by decide +kernel)
theorem zq_209 : Cond.selects RX12 yX12_itemOf yX12_itemOf ∈ zG := List.mem_of_getElem? (i := 209) (by decide +kernel)
theorem zy_X12_itemOf : zyV yX12_itemOf cX12_itemOf 3 (some .int) 2 := ⟨zq_210, zq_208, zq_209, zq_5, ⟨by decide, by decide⟩, by decide +kernel, by decide⟩
theorem zq_253 : Cond.code yX12_lay cX12_lay 5 none ∈ zG := List.mem_of_getElem? (i := 253) (by decide +kernel)
theorem zq_251 : Cond.instanceMethod yX12_lay ∈ zG := List.mem_of_getElem? (i := 251) (by decide +kernel)
theorem zq_252 : Cond.selects RX12 yX12_lay yX12_lay ∈ zG := List.mem_of_getElem? (i := 252) (by decide +kernel)
theorem zy_X12_lay : zyV yX12_lay cX12_lay 5 none 1 := ⟨zq_253, zq_251, zq_252, zq_5, ⟨by decide, by decide⟩, by decide +kernel, by decide⟩
theorem zq_206 : Cond.code yX12_longOf cX12_longOf 2 (some .int) ∈ zG := List.mem_of_getElem? (i := 206) (by decide +kernel)
theorem zq_204 : Cond.instanceMethod yX12_longOf ∈ zG := List.mem_of_getElem? (i := 204) (by decide +kernel)
theorem zq_205 : Cond.selects RX12 yX12_longOf yX12_longOf ∈ zG := List.mem_of_getElem? (i := 205) (by decide +kernel)
theorem zy_X12_longOf : zyV yX12_longOf cX12_longOf 2 (some .int) 1 := ⟨zq_206, zq_204, zq_205, zq_5, ⟨by decide, by decide⟩, by decide +kernel, by decide⟩
theorem zq_218 : Cond.code yX12_means cX12_means 7 (some .boolean) ∈ zG := List.mem_of_getElem? (i := 218) (by decide +kernel)
theorem zq_216 : Cond.instanceMethod yX12_means ∈ zG := List.mem_of_getElem? (i := 216) (by decide +kernel)
theorem zq_217 : Cond.selects RX12 yX12_means yX12_means ∈ zG := List.mem_of_getElem? (i := 217) (by decide +kernel)
theorem zy_X12_means : zyV yX12_means cX12_means 7 (some .boolean) 2 := ⟨zq_218, zq_216, zq_217, zq_5, ⟨by decide, by decide⟩, by decide +kernel, by decide⟩
theorem zq_642 : Cond.code yX12_readRow cX12_readRow 3 none ∈ zG := List.mem_of_getElem? (i := 642) (by decide +kernel)
theorem zq_640 : Cond.instanceMethod yX12_readRow ∈ zG := List.mem_of_getElem? (i := 640) (by decide +kernel)
theorem zq_641 : Cond.selects RX12 yX12_readRow yX12_readRow ∈ zG := List.mem_of_getElem? (i := 641) (by decide +kernel)
theorem zy_X12_readRow : zyV yX12_readRow cX12_readRow 3 none 0 := ⟨zq_642, zq_640, zq_641, zq_5, ⟨by decide, by decide⟩, by decide +kernel, by decide⟩
theorem zq_618 : Cond.code yX12_readWord cX12_readWord 3 none ∈ zG := List.mem_of_getElem? (i := 618) (by decide +kernel)
theorem zq_616 : Cond.instanceMethod yX12_readWord ∈ zG := List.mem_of_getElem? (i := 616) (by decide +kernel)
theorem zq_617 : Cond.selects RX12 yX12_readWord yX12_readWord ∈ zG := List.mem_of_getElem? (i := 617) (by decide +kernel)
theorem zy_X12_readWord : zyV yX12_readWord cX12_readWord 3 none 0 := ⟨zq_618, zq_616, zq_617, zq_5, ⟨by decide, by decide⟩, by decide +kernel, by decide⟩
theorem zq_202 : Cond.code yX12_rows cX12_rows 1 (some .int) ∈ zG := List.mem_of_getElem? (i := 202) (by decide +kernel)
theorem zq_200 : Cond.instanceMethod yX12_rows ∈ zG := List.mem_of_getElem? (i := 200) (by decide +kernel)
theorem zq_201 : Cond.selects RX12 yX12_rows yX12_rows ∈ zG := List.mem_of_getElem? (i := 201) (by decide +kernel)
theorem zy_X12_rows : zyV yX12_rows cX12_rows 1 (some .int) 0 := ⟨zq_202, zq_200, zq_201, zq_5, ⟨by decide, by decide⟩, by decide +kernel, by decide⟩
theorem zq_638 : Cond.code yX12_takeOne cX12_takeOne 4 (some .int) ∈ zG := List.mem_of_getElem? (i := 638) (by decide +kernel)
theorem zq_636 : Cond.instanceMethod yX12_takeOne ∈ zG := List.mem_of_getElem? (i := 636) (by decide +kernel)
theorem zq_637 : Cond.selects RX12 yX12_takeOne yX12_takeOne ∈ zG := List.mem_of_getElem? (i := 637) (by decide +kernel)
theorem zy_X12_takeOne : zyV yX12_takeOne cX12_takeOne 4 (some .int) 2 := ⟨zq_638, zq_636, zq_637, zq_5, ⟨by decide, by decide⟩, by decide +kernel, by decide⟩
theorem zq_675 : Cond.code yX12_takeWord cX12_takeWord 2 none ∈ zG := List.mem_of_getElem? (i := 675) (by decide +kernel)
theorem zq_673 : Cond.instanceMethod yX12_takeWord ∈ zG := List.mem_of_getElem? (i := 673) (by decide +kernel)
theorem zq_674 : Cond.selects RX12 yX12_takeWord yX12_takeWord ∈ zG := List.mem_of_getElem? (i := 674) (by decide +kernel)
theorem zy_X12_takeWord : zyV yX12_takeWord cX12_takeWord 2 none 1 := ⟨zq_675, zq_673, zq_674, zq_5, ⟨by decide, by decide⟩, by decide +kernel, by decide⟩
theorem zq_222 : Cond.code yX12_usesOf cX12_usesOf 4 (some .int) ∈ zG := List.mem_of_getElem? (i := 222) (by decide +kernel)
theorem zq_220 : Cond.instanceMethod yX12_usesOf ∈ zG := List.mem_of_getElem? (i := 220) (by decide +kernel)
theorem zq_221 : Cond.selects RX12 yX12_usesOf yX12_usesOf ∈ zG := List.mem_of_getElem? (i := 221) (by decide +kernel)
theorem zy_X12_usesOf : zyV yX12_usesOf cX12_usesOf 4 (some .int) 1 := ⟨zq_222, zq_220, zq_221, zq_5, ⟨by decide, by decide⟩, by decide +kernel, by decide⟩
theorem zq_214 : Cond.code yX12_wordsTold cX12_wordsTold 1 (some .int) ∈ zG := List.mem_of_getElem? (i := 214) (by decide +kernel)
theorem zq_212 : Cond.instanceMethod yX12_wordsTold ∈ zG := List.mem_of_getElem? (i := 212) (by decide +kernel)
theorem zq_213 : Cond.selects RX12 yX12_wordsTold yX12_wordsTold ∈ zG := List.mem_of_getElem? (i := 213) (by decide +kernel)
theorem zy_X12_wordsTold : zyV yX12_wordsTold cX12_wordsTold 1 (some .int) 0 := ⟨zq_214, zq_212, zq_213, zq_5, ⟨by decide, by decide⟩, by decide +kernel, by decide⟩
theorem zq_226 : Cond.code yX12_worthAt cX12_worthAt 5 (some .int) ∈ zG := List.mem_of_getElem? (i := 226) (by decide +kernel)
theorem zq_224 : Cond.instanceMethod yX12_worthAt ∈ zG := List.mem_of_getElem? (i := 224) (by decide +kernel)
theorem zq_225 : Cond.selects RX12 yX12_worthAt yX12_worthAt ∈ zG := List.mem_of_getElem? (i := 225) (by decide +kernel)
theorem zy_X12_worthAt : zyV yX12_worthAt cX12_worthAt 5 (some .int) 1 := ⟨zq_226, zq_224, zq_225, zq_5, ⟨by decide, by decide⟩, by decide +kernel, by decide⟩
theorem zq_603 : Cond.code yX12_isDigit cX12_isDigit 1 (some .boolean) ∈ zG := List.mem_of_getElem? (i := 603) (by decide +kernel)
theorem zq_602 : Cond.static yX12_isDigit ∈ zG := List.mem_of_getElem? (i := 602) (by decide +kernel)
theorem zy_X12_isDigit : zyS yX12_isDigit cX12_isDigit 1 (some .boolean) 1 := ⟨zq_603, zq_602, zq_5, ⟨by decide, by decide⟩, by decide +kernel, by decide⟩
theorem zq_597 : Cond.code yX12_isLetter cX12_isLetter 1 (some .boolean) ∈ zG := List.mem_of_getElem? (i := 597) (by decide +kernel)
theorem zq_596 : Cond.static yX12_isLetter ∈ zG := List.mem_of_getElem? (i := 596) (by decide +kernel)
theorem zy_X12_isLetter : zyS yX12_isLetter cX12_isLetter 1 (some .boolean) 1 := ⟨zq_597, zq_596, zq_5, ⟨by decide, by decide⟩, by decide +kernel, by decide⟩
theorem zq_606 : Cond.code yX12_isSignOf cX12_isSignOf 1 (some .boolean) ∈ zG := List.mem_of_getElem? (i := 606) (by decide +kernel)
theorem zq_605 : Cond.static yX12_isSignOf ∈ zG := List.mem_of_getElem? (i := 605) (by decide +kernel)
theorem zy_X12_isSignOf : zyS yX12_isSignOf cX12_isSignOf 1 (some .boolean) 1 := ⟨zq_606, zq_605, zq_5, ⟨by decide, by decide⟩, by decide +kernel, by decide⟩
theorem zq_600 : Cond.code yX12_rank cX12_rank 1 (some .int) ∈ zG := List.mem_of_getElem? (i := 600) (by decide +kernel)
theorem zq_599 : Cond.static yX12_rank ∈ zG := List.mem_of_getElem? (i := 599) (by decide +kernel)
theorem zy_X12_rank : zyS yX12_rank cX12_rank 1 (some .int) 1 := ⟨zq_600, zq_599, zq_5, ⟨by decide, by decide⟩, by decide +kernel, by decide⟩
theorem zq_229 : Cond.code yX12_worked cX12_worked 3 (some .int) ∈ zG := List.mem_of_getElem? (i := 229) (by decide +kernel)
theorem zq_228 : Cond.static yX12_worked ∈ zG := List.mem_of_getElem? (i := 228) (by decide +kernel)
theorem zy_X12_worked : zyS yX12_worked cX12_worked 3 (some .int) 3 := ⟨zq_229, zq_228, zq_5, ⟨by decide, by decide⟩, by decide +kernel, by decide⟩
theorem zf_201 : zfix 201 = true := by decide +kernel
theorem zs_201 : zsh 201 = 20 := by decide +kernel
theorem zl_201 : zln 201 = 1000 := by decide +kernel
theorem zf_211 : zfix 211 = true := by decide +kernel
theorem zs_211 : zsh 211 = 20 := by decide +kernel
theorem zl_211 : zln 211 = 960 := by decide +kernel
theorem zf_217 : zfix 217 = true := by decide +kernel
theorem zs_217 : zsh 217 = 20 := by decide +kernel
theorem zl_217 : zln 217 = 330 := by decide +kernel
theorem zf_218 : zfix 218 = true := by decide +kernel
theorem zs_218 : zsh 218 = 20 := by decide +kernel
theorem zl_218 : zln 218 = 4 := by decide +kernel
theorem zf_219 : zfix 219 = true := by decide +kernel
theorem zs_219 : zsh 219 = 20 := by decide +kernel
theorem zl_219 : zln 219 = 64 := by decide +kernel
theorem zf_220 : zfix 220 = true := by decide +kernel
theorem zs_220 : zsh 220 = 20 := by decide +kernel
theorem zl_220 : zln 220 = 252 := by decide +kernel
theorem zf_222 : zfix 222 = true := by decide +kernel
theorem zs_222 : zsh 222 = 22 := by decide +kernel
theorem zl_222 : zln 222 = 4 := by decide +kernel
theorem zf_223 : zfix 223 = true := by decide +kernel
theorem zs_223 : zsh 223 = 22 := by decide +kernel
theorem zl_223 : zln 223 = 36 := by decide +kernel
theorem zf_224 : zfix 224 = true := by decide +kernel
theorem zs_224 : zsh 224 = 20 := by decide +kernel
theorem zl_224 : zln 224 = 4 := by decide +kernel
theorem zf_225 : zfix 225 = true := by decide +kernel
theorem zs_225 : zsh 225 = 20 := by decide +kernel
theorem zl_225 : zln 225 = 32 := by decide +kernel
section ZM
variable {p : Program} {l : Launch} {e : Env} {R : Room} {s : State} {m : MethodId} {args : Array Value} {below : List Frame} {meth : Method} {c : Code} {cells slots : Nat} {Q : State → Prop} {D : va_G} {dA : Nat → ClassId} {ad ad0 : Nat → Nat} {al al0 : Nat → Prop}
/-! X12_thrown -/
def fX12_thrown (w : zW) (k : Int32 → zW → Prop) : Prop :=
  k (gI w 200 0) w
set_option maxHeartbeats 4000000 in
set_option maxRecDepth 100000 in
theorem mX12_thrown {l : Launch} {D : va_G} {dA : Nat → ClassId} {ad : Nat → Nat} {al : Nat → Prop} {w : zW} {k : Int32 → zW → Prop}   (hf : fX12_thrown w k) : zmetI l yX12_thrown cX12_thrown 1 (some .int) 0 [.ref (ad 200)] D dA true ad al w k := by
  refine zmetI_of (by decide) (Nat.le_of_ble_eq_true rfl) ?_
  intro p e R s m below meth c Q H ls args locs cells slots X hr hQ hR hl
  have hx := X.1
  have hb := X.2.1
  have hml := X.2.2.1
  have hown := X.2.2.2.1
  have hts := X.2.2.2.2.1
  unfold fX12_thrown at hf
  have hl : lv_has ls 1 [(0, .ref (ad 200))] := hl
  refine lv_aload_n hx hb dX12_thrown_0 rfl (lv_at hl 0 rfl) ?_
  refine z_getI X hR (zlit hR zf_200) zs_200 (by decide) zfd_X12_1 rfl dX12_thrown_1 ?_
  exact hQ _ _ _ _ _ _ hf hR dX12_thrown_4
/-! X12_lay -/
def fX12_lay_J38 (k : zW → Prop) (g3 : Int64 → Int32 → zW → Prop) (x1 : Int64) (x3 : Int32) (x4 : Int32) (w : zW) : Prop :=
  (((1000 : Int32) ≤ (gI w 200 2) →
    g3 x1 (x3 + (-8 : Int32)) w) ∧
   (¬ (1000 : Int32) ≤ (gI w 200 2) →
    vp_in (gI w 200 2) 1000 ∧ 
    ∀ w6 : zW, w6 = sI w 201 (gI w 200 2).toNatClampNeg x4 →
    ∀ w7 : zW, w7 = sI w6 200 2 ((gI w6 200 2) + (1 : Int32)) →
    g3 x1 (x3 + (-8 : Int32)) w7))
set_option maxHeartbeats 4000000 in
set_option maxRecDepth 100000 in
theorem mX12_lay_J38 {k : zW → Prop} {g3 : Int64 → Int32 → zW → Prop} (X : zCx p s m args meth c cX12_lay 5 RX12 none) (hr : zRm R 0 cells slots) (hQ : zRetV p l e R s m args below meth c cells slots Q D dA true ad0 al0 ad al cX12_lay k) (hg3 : ∀ (x1 : Int64) (x3 : Int32) (w : zW) (H : Heap) (locs : List Loc) (ls : Array Slot), g3 x1 x3 w → zSt D dA true ad0 al0 ad al w s H locs → lv_has ls 5 [(0, .ref (ad 200)), (1, .long x1), (3, .int x3)] → W p l e R s m args below meth c H locs cells slots Q (F0 m 3 ls [])) {x1 : Int64} {x3 : Int32} {x4 : Int32} {w : zW} {H : Heap} {locs : List Loc} {ls : Array Slot} (hf : fX12_lay_J38 k g3 x1 x3 x4 w) (hR : zSt D dA true ad0 al0 ad al w s H locs) (hl : lv_has ls 5 [(0, .ref (ad 200)), (1, .long x1), (3, .int x3), (4, .int x4)]) : W p l e R s m args below meth c H locs cells slots Q (F0 m 38 ls []) := by
  have hx := X.1
  have hb := X.2.1
  have hml := X.2.2.1
  have hown := X.2.2.2.1
  have hts := X.2.2.2.2.1
  unfold fX12_lay_J38 at hf
  refine lv_aload_n hx hb dX12_lay_38 rfl (lv_at hl 0 rfl) ?_
  refine z_getI X hR (zlit hR zf_200) zs_200 (by decide) zfd_X12_11 rfl dX12_lay_39 ?_
  refine lv_sipush (v := (1000 : Int32)) hx hb dX12_lay_42 (by decide) ?_
  refine lv_icmp_ge (tgt := 69) hx hb dX12_lay_45 (by decide) (fun c4 => ?_) (fun c4 => ?_)
  · replace hf := hf.1 c4
    refine lv_iinc (v := x3 + (-8 : Int32)) (lv' := [(3, .int (x3 + (-8 : Int32))), (0, .ref (ad 200)), (1, .long x1), (4, .int x4)]) hx hb dX12_lay_69 hl (k := 2) rfl rfl (by decide) rfl (fun ls hl => ?_)
    refine lv_goto (tgt := 3) hx hb dX12_lay_72 (by decide) ?_
    exact hg3 x1 (x3 + (-8 : Int32)) w _ _ _ hf hR (lv_sub hl [1, 2, 0] rfl)
  · replace hf := hf.2 c4
    refine lv_aload_n hx hb dX12_lay_48 rfl (lv_at hl 0 rfl) ?_
    refine z_getS X hR (zlit hR zf_200) zs_200 (by decide) zfd_X12_14 rfl (r := 201) (by decide +kernel) dX12_lay_49 ?_
    refine lv_aload_n hx hb dX12_lay_52 rfl (lv_at hl 0 rfl) ?_
    refine z_getI X hR (zlit hR zf_200) zs_200 (by decide) zfd_X12_11 rfl dX12_lay_53 ?_
    refine lv_iload hx hb dX12_lay_56 (lv_at hl 3 rfl) ?_
    obtain ⟨hb5, hf⟩ := hf
    refine z_iast X hR (zlit hR zf_201) zs_201 zl_201 hb5 dX12_lay_58 (fun H locs hR => ?_)
    obtain ⟨w6, hw6⟩ : ∃ z : zW, z = sI w 201 (gI w 200 2).toNatClampNeg x4 := ⟨_, rfl⟩
    rw [← hw6] at hR
    replace hf := hf w6 hw6
    refine lv_aload_n hx hb dX12_lay_59 rfl (lv_at hl 0 rfl) ?_
    refine lv_dup hx hb dX12_lay_60 rfl ?_
    refine z_getI X hR (zlit hR zf_200) zs_200 (by decide) zfd_X12_11 rfl dX12_lay_61 ?_
    refine lv_iconst (v := (1 : Int32)) hx hb dX12_lay_64 (by decide) ?_
    refine lv_iadd hx hb dX12_lay_65 ?_
    refine z_putI X hR (zlit hR zf_200) zs_200 (by decide) zfp_X12_11 rfl dX12_lay_66 (fun H locs hR => ?_)
    obtain ⟨w7, hw7⟩ : ∃ z : zW, z = sI w6 200 2 ((gI w6 200 2) + (1 : Int32)) := ⟨_, rfl⟩
    rw [← hw7] at hR
    replace hf := hf w7 hw7
    refine lv_iinc (v := x3 + (-8 : Int32)) (lv' := [(3, .int (x3 + (-8 : Int32))), (0, .ref (ad 200)), (1, .long x1), (4, .int x4)]) hx hb dX12_lay_69 hl (k := 2) rfl rfl (by decide) rfl (fun ls hl => ?_)
    refine lv_goto (tgt := 3) hx hb dX12_lay_72 (by decide) ?_
    exact hg3 x1 (x3 + (-8 : Int32)) w7 _ _ _ hf hR (lv_sub hl [1, 2, 0] rfl)
def fX12_lay_L3 (k : zW → Prop) : Nat → Int64 → Int32 → zW → Prop
  | 0 => fun _ _ _ => False
  | n + 1 => fun x1 x3 w =>
    ((x3 < 0 →
      k w) ∧
     (¬ x3 < 0 →
      ∀ v2 : Int32, v2 = ((x1 >>> (x3.toInt64 &&& 63)).toInt32) &&& (255 : Int32) →
      ((v2 = (10 : Int32) →
        fX12_lay_J38 k (fX12_lay_L3 k n) x1 x3 v2 w) ∧
       (¬ v2 = (10 : Int32) →
        ((v2 < (32 : Int32) →
          fX12_lay_L3 k n x1 (x3 + (-8 : Int32)) w) ∧
         (¬ v2 < (32 : Int32) →
          (((126 : Int32) < v2 →
            fX12_lay_L3 k n x1 (x3 + (-8 : Int32)) w) ∧
           (¬ (126 : Int32) < v2 →
            fX12_lay_J38 k (fX12_lay_L3 k n) x1 x3 v2 w))))))))
set_option maxHeartbeats 4000000 in
set_option maxRecDepth 100000 in
theorem mX12_lay_L3 {k : zW → Prop} (X : zCx p s m args meth c cX12_lay 5 RX12 none) (hr : zRm R 0 cells slots) (hQ : zRetV p l e R s m args below meth c cells slots Q D dA true ad0 al0 ad al cX12_lay k)  : ∀ (n : Nat) (x1 : Int64) (x3 : Int32) (w : zW) (H : Heap) (locs : List Loc) (ls : Array Slot), fX12_lay_L3 k n x1 x3 w → zSt D dA true ad0 al0 ad al w s H locs → lv_has ls 5 [(0, .ref (ad 200)), (1, .long x1), (3, .int x3)] → W p l e R s m args below meth c H locs cells slots Q (F0 m 3 ls []) := by
  intro n
  induction n with
  | zero => exact fun _ _ _ _ _ _ hf => hf.elim
  | succ n ih =>
    intro x1 x3 w H locs ls hf hR hl
    have hx := X.1
    have hb := X.2.1
    have hml := X.2.2.1
    have hown := X.2.2.2.1
    have hts := X.2.2.2.2.1
    rw [fX12_lay_L3] at hf
    refine lv_iload_n hx hb dX12_lay_3 rfl (lv_at hl 2 rfl) ?_
    refine lv_if_lt (tgt := 75) hx hb dX12_lay_4 (by decide) (fun c1 => ?_) (fun c1 => ?_)
    · replace hf := hf.1 c1
      exact hQ _ _ _ _ _ hf hR dX12_lay_75
    · replace hf := hf.2 c1
      refine lv_lload_n hx hb dX12_lay_7 rfl (lv_at hl 1 rfl) ?_
      refine lv_iload_n hx hb dX12_lay_8 rfl (lv_at hl 2 rfl) ?_
      refine lv_lshr hx hb dX12_lay_9 rfl ?_
      refine lv_l2i hx hb dX12_lay_10 rfl ?_
      refine lv_sipush (v := (255 : Int32)) hx hb dX12_lay_11 (by decide) ?_
      refine lv_iand hx hb dX12_lay_14 ?_
      refine lv_topi (fun v2 hv2 => ?_)
      replace hf := hf v2 hv2
      refine lv_istore (lv' := [(4, .int v2), (0, .ref (ad 200)), (1, .long x1), (3, .int x3)]) hx hb dX12_lay_15 hl (by decide) rfl (fun ls hl => ?_)
      refine lv_iload hx hb dX12_lay_17 (lv_at hl 0 rfl) ?_
      refine lv_bipush (v := (10 : Int32)) hx hb dX12_lay_19 (by decide) ?_
      refine lv_icmp_eq (tgt := 38) hx hb dX12_lay_21 (by decide) (fun c3 => ?_) (fun c3 => ?_)
      · replace hf := hf.1 c3
        exact mX12_lay_J38 X hr hQ ih hf hR (lv_sub hl [1, 2, 3, 0] rfl)
      · replace hf := hf.2 c3
        refine lv_iload hx hb dX12_lay_24 (lv_at hl 0 rfl) ?_
        refine lv_bipush (v := (32 : Int32)) hx hb dX12_lay_26 (by decide) ?_
        refine lv_icmp_lt (tgt := 69) hx hb dX12_lay_28 (by decide) (fun c8 => ?_) (fun c8 => ?_)
        · replace hf := hf.1 c8
          refine lv_iinc (v := x3 + (-8 : Int32)) (lv' := [(3, .int (x3 + (-8 : Int32))), (4, .int v2), (0, .ref (ad 200)), (1, .long x1)]) hx hb dX12_lay_69 hl (k := 3) rfl rfl (by decide) rfl (fun ls hl => ?_)
          refine lv_goto (tgt := 3) hx hb dX12_lay_72 (by decide) ?_
          exact ih x1 (x3 + (-8 : Int32)) w _ _ _ hf hR (lv_sub hl [2, 3, 0] rfl)
        · replace hf := hf.2 c8
          refine lv_iload hx hb dX12_lay_31 (lv_at hl 0 rfl) ?_
          refine lv_bipush (v := (126 : Int32)) hx hb dX12_lay_33 (by decide) ?_
          refine lv_icmp_gt (tgt := 69) hx hb dX12_lay_35 (by decide) (fun c9 => ?_) (fun c9 => ?_)
          · replace hf := hf.1 c9
            refine lv_iinc (v := x3 + (-8 : Int32)) (lv' := [(3, .int (x3 + (-8 : Int32))), (4, .int v2), (0, .ref (ad 200)), (1, .long x1)]) hx hb dX12_lay_69 hl (k := 3) rfl rfl (by decide) rfl (fun ls hl => ?_)
            refine lv_goto (tgt := 3) hx hb dX12_lay_72 (by decide) ?_
            exact ih x1 (x3 + (-8 : Int32)) w _ _ _ hf hR (lv_sub hl [2, 3, 0] rfl)
          · replace hf := hf.2 c9
            exact mX12_lay_J38 X hr hQ ih hf hR (lv_sub hl [1, 2, 3, 0] rfl)
def fX12_lay (x1 : Int64) (w : zW) (k : zW → Prop) : Prop :=
  ∃ n9, fX12_lay_L3 k n9 x1 (56 : Int32) w
set_option maxHeartbeats 4000000 in
set_option maxRecDepth 100000 in
theorem mX12_lay {l : Launch} {D : va_G} {dA : Nat → ClassId} {ad : Nat → Nat} {al : Nat → Prop} {w : zW} {k : zW → Prop} {x1 : Int64}   (hf : fX12_lay x1 w k) : zmetV l yX12_lay cX12_lay 5 none 0 [.ref (ad 200), .long x1] D dA true ad al w k := by
  refine zmetV_of (by decide) (Nat.le_of_ble_eq_true rfl) ?_
  intro p e R s m below meth c Q H ls args locs cells slots X hr hQ hR hl
  have hx := X.1
  have hb := X.2.1
  have hml := X.2.2.1
  have hown := X.2.2.2.1
  have hts := X.2.2.2.2.1
  unfold fX12_lay at hf
  have hl : lv_has ls 5 [(0, .ref (ad 200)), (1, .long x1)] := hl
  refine lv_bipush (v := (56 : Int32)) hx hb dX12_lay_0 (by decide) ?_
  refine lv_istore_n (lv' := [(3, .int (56 : Int32)), (0, .ref (ad 200)), (1, .long x1)]) hx hb dX12_lay_2 rfl hl (by decide) rfl (fun ls hl => ?_)
  obtain ⟨n9, hf⟩ := hf
  exact mX12_lay_L3 X hr hQ  n9 x1 (56 : Int32) w _ _ _ hf hR (lv_sub hl [1, 2, 0] rfl)
/-! X12_feed -/
def fX12_feed (x1 : Int64) (x3 : Int64) (x5 : Int64) (w : zW) (k : Int32 → zW → Prop) : Prop :=
  ∀ w1 : zW, w1 = sI w 200 0 (0 : Int32) →
  fX12_lay x1 w1 (fun w2 =>
  fX12_lay x3 w2 (fun w3 =>
  fX12_lay x5 w3 (fun w4 =>
  k (gI w4 200 2) w4)))
set_option maxHeartbeats 4000000 in
set_option maxRecDepth 100000 in
theorem mX12_feed {l : Launch} {D : va_G} {dA : Nat → ClassId} {ad : Nat → Nat} {al : Nat → Prop} {w : zW} {k : Int32 → zW → Prop} {x1 : Int64} {x3 : Int64} {x5 : Int64}   (hf : fX12_feed x1 x3 x5 w k) : zmetI l yX12_feed cX12_feed 7 (some .int) 1 [.ref (ad 200), .long x1, .long x3, .long x5] D dA true ad al w k := by
  refine zmetI_of (by decide) (Nat.le_of_ble_eq_true rfl) ?_
  intro p e R s m below meth c Q H ls args locs cells slots X hr hQ hR hl
  have hx := X.1
  have hb := X.2.1
  have hml := X.2.2.1
  have hown := X.2.2.2.1
  have hts := X.2.2.2.2.1
  unfold fX12_feed at hf
  have hl : lv_has ls 7 [(0, .ref (ad 200)), (1, .long x1), (3, .long x3), (5, .long x5)] := hl
  refine lv_aload_n hx hb dX12_feed_0 rfl (lv_at hl 0 rfl) ?_
  refine lv_iconst (v := (0 : Int32)) hx hb dX12_feed_1 (by decide) ?_
  refine z_putI X hR (zlit hR zf_200) zs_200 (by decide) zfp_X12_1 rfl dX12_feed_2 (fun H locs hR => ?_)
  obtain ⟨w1, hw1⟩ : ∃ z : zW, z = sI w 200 0 (0 : Int32) := ⟨_, rfl⟩
  rw [← hw1] at hR
  replace hf := hf w1 hw1
  refine lv_aload_n hx hb dX12_feed_5 rfl (lv_at hl 0 rfl) ?_
  refine lv_lload_n hx hb dX12_feed_6 rfl (lv_at hl 1 rfl) ?_
  refine z_callVV (fr1 := 0) (b := 200) (As := [.long x1]) (rest := []) X (hr.le (by decide)) hR zy_X12_lay zq_250 (zlit hR zf_200) (by rw [zs_200]; rfl) rfl (mX12_lay  hf) rfl hl (Nat.le_of_ble_eq_true rfl) dX12_feed_7 rfl (fun w2 H locs hf hR => ?_)
  refine lv_aload_n hx hb dX12_feed_10 rfl (lv_at hl 0 rfl) ?_
  refine lv_lload_n hx hb dX12_feed_11 rfl (lv_at hl 2 rfl) ?_
  refine z_callVV (fr1 := 0) (b := 200) (As := [.long x3]) (rest := []) X (hr.le (by decide)) hR zy_X12_lay zq_250 (zlit hR zf_200) (by rw [zs_200]; rfl) rfl (mX12_lay  hf) rfl hl (Nat.le_of_ble_eq_true rfl) dX12_feed_12 rfl (fun w3 H locs hf hR => ?_)
  refine lv_aload_n hx hb dX12_feed_15 rfl (lv_at hl 0 rfl) ?_
  refine lv_lload hx hb dX12_feed_16 (lv_at hl 3 rfl) ?_
  refine z_callVV (fr1 := 0) (b := 200) (As := [.long x5]) (rest := []) X (hr.le (by decide)) hR zy_X12_lay zq_250 (zlit hR zf_200) (by rw [zs_200]; rfl) rfl (mX12_lay  hf) rfl hl (Nat.le_of_ble_eq_true rfl) dX12_feed_18 rfl (fun w4 H locs hf hR => ?_)
  refine lv_aload_n hx hb dX12_feed_21 rfl (lv_at hl 0 rfl) ?_
  refine z_getI X hR (zlit hR zf_200) zs_200 (by decide) zfd_X12_11 rfl dX12_feed_22 ?_
  exact hQ _ _ _ _ _ _ hf hR dX12_feed_25
/-! X12_forgets -/
def fX12_forgets_L22 (k : zW → Prop) : Nat → Int32 → zW → Prop
  | 0 => fun _ _ => False
  | n + 1 => fun x1 w =>
    (((8 : Int32) ≤ x1 →
      k w) ∧
     (¬ (8 : Int32) ≤ x1 →
      vp_in ((8 : Int32) + x1) 60 ∧ 
      vp_in ((4 : Int32) + x1) 252 ∧ 
      ∀ w5 : zW, w5 = sI w 220 ((4 : Int32) + x1).toNatClampNeg (gI w 210 ((8 : Int32) + x1).toNatClampNeg) →
      fX12_forgets_L22 k n (x1 + (1 : Int32)) w5))
set_option maxHeartbeats 4000000 in
set_option maxRecDepth 100000 in
theorem mX12_forgets_L22 {k : zW → Prop} (X : zCx p s m args meth c cX12_forgets 2 RX12 none) (hr : zRm R 0 cells slots) (hQ : zRetV p l e R s m args below meth c cells slots Q D dA true ad0 al0 ad al cX12_forgets k)  : ∀ (n : Nat) (x1 : Int32) (w : zW) (H : Heap) (locs : List Loc) (ls : Array Slot), fX12_forgets_L22 k n x1 w → zSt D dA true ad0 al0 ad al w s H locs → lv_has ls 2 [(0, .ref (ad 200)), (1, .int x1)] → W p l e R s m args below meth c H locs cells slots Q (F0 m 22 ls []) := by
  intro n
  induction n with
  | zero => exact fun _ _ _ _ _ hf => hf.elim
  | succ n ih =>
    intro x1 w H locs ls hf hR hl
    have hx := X.1
    have hb := X.2.1
    have hml := X.2.2.1
    have hown := X.2.2.2.1
    have hts := X.2.2.2.2.1
    rw [fX12_forgets_L22] at hf
    refine lv_iload_n hx hb dX12_forgets_22 rfl (lv_at hl 1 rfl) ?_
    refine lv_bipush (v := (8 : Int32)) hx hb dX12_forgets_23 (by decide) ?_
    refine lv_icmp_ge (tgt := 51) hx hb dX12_forgets_25 (by decide) (fun c2 => ?_) (fun c2 => ?_)
    · replace hf := hf.1 c2
      exact hQ _ _ _ _ _ hf hR dX12_forgets_51
    · replace hf := hf.2 c2
      refine lv_aload_n hx hb dX12_forgets_28 rfl (lv_at hl 0 rfl) ?_
      refine z_getS X hR (zlit hR zf_200) zs_200 (by decide) zfd_X12_103 rfl (r := 220) (by decide +kernel) dX12_forgets_29 ?_
      refine lv_iconst (v := (4 : Int32)) hx hb dX12_forgets_32 (by decide) ?_
      refine lv_iload_n hx hb dX12_forgets_33 rfl (lv_at hl 1 rfl) ?_
      refine lv_iadd hx hb dX12_forgets_34 ?_
      refine lv_aload_n hx hb dX12_forgets_35 rfl (lv_at hl 0 rfl) ?_
      refine z_getS X hR (zlit hR zf_200) zs_200 (by decide) zfd_X12_79 rfl (r := 210) (by decide +kernel) dX12_forgets_36 ?_
      refine lv_bipush (v := (8 : Int32)) hx hb dX12_forgets_39 (by decide) ?_
      refine lv_iload_n hx hb dX12_forgets_41 rfl (lv_at hl 1 rfl) ?_
      refine lv_iadd hx hb dX12_forgets_42 ?_
      obtain ⟨hb3, hf⟩ := hf
      refine z_iald X hR (zlit hR zf_210) zs_210 zl_210 hb3 dX12_forgets_43 ?_
      obtain ⟨hb4, hf⟩ := hf
      refine z_iast X hR (zlit hR zf_220) zs_220 zl_220 hb4 dX12_forgets_44 (fun H locs hR => ?_)
      obtain ⟨w5, hw5⟩ : ∃ z : zW, z = sI w 220 ((4 : Int32) + x1).toNatClampNeg (gI w 210 ((8 : Int32) + x1).toNatClampNeg) := ⟨_, rfl⟩
      rw [← hw5] at hR
      replace hf := hf w5 hw5
      refine lv_iinc (v := x1 + (1 : Int32)) (lv' := [(1, .int (x1 + (1 : Int32))), (0, .ref (ad 200))]) hx hb dX12_forgets_45 hl (k := 1) rfl rfl (by decide) rfl (fun ls hl => ?_)
      refine lv_goto (tgt := 22) hx hb dX12_forgets_48 (by decide) ?_
      exact ih (x1 + (1 : Int32)) w5 _ _ _ hf hR (lv_sub hl [1, 0] rfl)
def fX12_forgets_L2 (k : zW → Prop) : Nat → Int32 → zW → Prop
  | 0 => fun _ _ => False
  | n + 1 => fun x1 w =>
    (((4 : Int32) ≤ x1 →
      ∃ n9, fX12_forgets_L22 k n9 (0 : Int32) w) ∧
     (¬ (4 : Int32) ≤ x1 →
      vp_in x1 252 ∧ 
      ∀ w7 : zW, w7 = sI w 220 x1.toNatClampNeg (-1 : Int32) →
      fX12_forgets_L2 k n (x1 + (1 : Int32)) w7))
set_option maxHeartbeats 4000000 in
set_option maxRecDepth 100000 in
theorem mX12_forgets_L2 {k : zW → Prop} (X : zCx p s m args meth c cX12_forgets 2 RX12 none) (hr : zRm R 0 cells slots) (hQ : zRetV p l e R s m args below meth c cells slots Q D dA true ad0 al0 ad al cX12_forgets k)  : ∀ (n : Nat) (x1 : Int32) (w : zW) (H : Heap) (locs : List Loc) (ls : Array Slot), fX12_forgets_L2 k n x1 w → zSt D dA true ad0 al0 ad al w s H locs → lv_has ls 2 [(0, .ref (ad 200)), (1, .int x1)] → W p l e R s m args below meth c H locs cells slots Q (F0 m 2 ls []) := by
  intro n
  induction n with
  | zero => exact fun _ _ _ _ _ hf => hf.elim
  | succ n ih =>
    intro x1 w H locs ls hf hR hl
    have hx := X.1
    have hb := X.2.1
    have hml := X.2.2.1
    have hown := X.2.2.2.1
    have hts := X.2.2.2.2.1
    rw [fX12_forgets_L2] at hf
    refine lv_iload_n hx hb dX12_forgets_2 rfl (lv_at hl 1 rfl) ?_
    refine lv_iconst (v := (4 : Int32)) hx hb dX12_forgets_3 (by decide) ?_
    refine lv_icmp_ge (tgt := 20) hx hb dX12_forgets_4 (by decide) (fun c1 => ?_) (fun c1 => ?_)
    · replace hf := hf.1 c1
      refine lv_iconst (v := (0 : Int32)) hx hb dX12_forgets_20 (by decide) ?_
      refine lv_istore_n (lv' := [(1, .int (0 : Int32)), (0, .ref (ad 200))]) hx hb dX12_forgets_21 rfl hl (by decide) rfl (fun ls hl => ?_)
      obtain ⟨n9, hf⟩ := hf
      exact mX12_forgets_L22 X hr hQ  n9 (0 : Int32) w _ _ _ hf hR (lv_sub hl [1, 0] rfl)
    · replace hf := hf.2 c1
      refine lv_aload_n hx hb dX12_forgets_7 rfl (lv_at hl 0 rfl) ?_
      refine z_getS X hR (zlit hR zf_200) zs_200 (by decide) zfd_X12_103 rfl (r := 220) (by decide +kernel) dX12_forgets_8 ?_
      refine lv_iload_n hx hb dX12_forgets_11 rfl (lv_at hl 1 rfl) ?_
      refine lv_iconst (v := (-1 : Int32)) hx hb dX12_forgets_12 (by decide) ?_
      obtain ⟨hb6, hf⟩ := hf
      refine z_iast X hR (zlit hR zf_220) zs_220 zl_220 hb6 dX12_forgets_13 (fun H locs hR => ?_)
      obtain ⟨w7, hw7⟩ : ∃ z : zW, z = sI w 220 x1.toNatClampNeg (-1 : Int32) := ⟨_, rfl⟩
      rw [← hw7] at hR
      replace hf := hf w7 hw7
      refine lv_iinc (v := x1 + (1 : Int32)) (lv' := [(1, .int (x1 + (1 : Int32))), (0, .ref (ad 200))]) hx hb dX12_forgets_14 hl (k := 1) rfl rfl (by decide) rfl (fun ls hl => ?_)
      refine lv_goto (tgt := 2) hx hb dX12_forgets_17 (by decide) ?_
      exact ih (x1 + (1 : Int32)) w7 _ _ _ hf hR (lv_sub hl [1, 0] rfl)
def fX12_forgets (w : zW) (k : zW → Prop) : Prop :=
  ∃ n9, fX12_forgets_L2 k n9 (0 : Int32) w
set_option maxHeartbeats 4000000 in
set_option maxRecDepth 100000 in
theorem mX12_forgets {l : Launch} {D : va_G} {dA : Nat → ClassId} {ad : Nat → Nat} {al : Nat → Prop} {w : zW} {k : zW → Prop}   (hf : fX12_forgets w k) : zmetV l yX12_forgets cX12_forgets 2 none 0 [.ref (ad 200)] D dA true ad al w k := by
  refine zmetV_of (by decide) (Nat.le_of_ble_eq_true rfl) ?_
  intro p e R s m below meth c Q H ls args locs cells slots X hr hQ hR hl
  have hx := X.1
  have hb := X.2.1
  have hml := X.2.2.1
  have hown := X.2.2.2.1
  have hts := X.2.2.2.2.1
  unfold fX12_forgets at hf
  have hl : lv_has ls 2 [(0, .ref (ad 200))] := hl
  refine lv_iconst (v := (0 : Int32)) hx hb dX12_forgets_0 (by decide) ?_
  refine lv_istore_n (lv' := [(1, .int (0 : Int32)), (0, .ref (ad 200))]) hx hb dX12_forgets_1 rfl hl (by decide) rfl (fun ls hl => ?_)
  obtain ⟨n9, hf⟩ := hf
  exact mX12_forgets_L2 X hr hQ  n9 (0 : Int32) w _ _ _ hf hR (lv_sub hl [1, 0] rfl)
/-! X12_itemOf -/
def fX12_itemOf (x1 : Int32) (x2 : Int32) (w : zW) (k : Int32 → zW → Prop) : Prop :=
  vp_in (((60 : Int32) * x1) + x2) 960 ∧ 
  k (gI w 211 (((60 : Int32) * x1) + x2).toNatClampNeg) w
set_option maxHeartbeats 4000000 in
set_option maxRecDepth 100000 in
theorem mX12_itemOf {l : Launch} {D : va_G} {dA : Nat → ClassId} {ad : Nat → Nat} {al : Nat → Prop} {w : zW} {k : Int32 → zW → Prop} {x1 : Int32} {x2 : Int32}   (hf : fX12_itemOf x1 x2 w k) : zmetI l yX12_itemOf cX12_itemOf 3 (some .int) 0 [.ref (ad 200), .int x1, .int x2] D dA true ad al w k := by
  refine zmetI_of (by decide) (Nat.le_of_ble_eq_true rfl) ?_
  intro p e R s m below meth c Q H ls args locs cells slots X hr hQ hR hl
  have hx := X.1
  have hb := X.2.1
  have hml := X.2.2.1
  have hown := X.2.2.2.1
  have hts := X.2.2.2.2.1
  unfold fX12_itemOf at hf
  have hl : lv_has ls 3 [(0, .ref (ad 200)), (1, .int x1), (2, .int x2)] := hl
  refine lv_aload_n hx hb dX12_itemOf_0 rfl (lv_at hl 0 rfl) ?_
  refine z_getS X hR (zlit hR zf_200) zs_200 (by decide) zfd_X12_82 rfl (r := 211) (by decide +kernel) dX12_itemOf_1 ?_
  refine lv_bipush (v := (60 : Int32)) hx hb dX12_itemOf_4 (by decide) ?_
  refine lv_iload_n hx hb dX12_itemOf_6 rfl (lv_at hl 1 rfl) ?_
  refine lv_imul hx hb dX12_itemOf_7 ?_
  refine lv_iload_n hx hb dX12_itemOf_8 rfl (lv_at hl 2 rfl) ?_
  refine lv_iadd hx hb dX12_itemOf_9 ?_
  obtain ⟨hb1, hf⟩ := hf
  refine z_iald X hR (zlit hR zf_211) zs_211 zl_211 hb1 dX12_itemOf_10 ?_
  exact hQ _ _ _ _ _ _ hf hR dX12_itemOf_11
/-! X12_longOf -/
def fX12_longOf (x1 : Int32) (w : zW) (k : Int32 → zW → Prop) : Prop :=
  vp_in ((16 : Int32) + x1) 60 ∧ 
  k (gI w 210 ((16 : Int32) + x1).toNatClampNeg) w
set_option maxHeartbeats 4000000 in
set_option maxRecDepth 100000 in
theorem mX12_longOf {l : Launch} {D : va_G} {dA : Nat → ClassId} {ad : Nat → Nat} {al : Nat → Prop} {w : zW} {k : Int32 → zW → Prop} {x1 : Int32}   (hf : fX12_longOf x1 w k) : zmetI l yX12_longOf cX12_longOf 2 (some .int) 0 [.ref (ad 200), .int x1] D dA true ad al w k := by
  refine zmetI_of (by decide) (Nat.le_of_ble_eq_true rfl) ?_
  intro p e R s m below meth c Q H ls args locs cells slots X hr hQ hR hl
  have hx := X.1
  have hb := X.2.1
  have hml := X.2.2.1
  have hown := X.2.2.2.1
  have hts := X.2.2.2.2.1
  unfold fX12_longOf at hf
  have hl : lv_has ls 2 [(0, .ref (ad 200)), (1, .int x1)] := hl
  refine lv_aload_n hx hb dX12_longOf_0 rfl (lv_at hl 0 rfl) ?_
  refine z_getS X hR (zlit hR zf_200) zs_200 (by decide) zfd_X12_79 rfl (r := 210) (by decide +kernel) dX12_longOf_1 ?_
  refine lv_bipush (v := (16 : Int32)) hx hb dX12_longOf_4 (by decide) ?_
  refine lv_iload_n hx hb dX12_longOf_6 rfl (lv_at hl 1 rfl) ?_
  refine lv_iadd hx hb dX12_longOf_7 ?_
  obtain ⟨hb1, hf⟩ := hf
  refine z_iald X hR (zlit hR zf_210) zs_210 zl_210 hb1 dX12_longOf_8 ?_
  exact hQ _ _ _ _ _ _ hf hR dX12_longOf_9
/-! X12_rows -/
def fX12_rows (w : zW) (k : Int32 → zW → Prop) : Prop :=
  k (gI w 210 (2 : Int32).toNatClampNeg) w
set_option maxHeartbeats 4000000 in
set_option maxRecDepth 100000 in
theorem mX12_rows {l : Launch} {D : va_G} {dA : Nat → ClassId} {ad : Nat → Nat} {al : Nat → Prop} {w : zW} {k : Int32 → zW → Prop}   (hf : fX12_rows w k) : zmetI l yX12_rows cX12_rows 1 (some .int) 0 [.ref (ad 200)] D dA true ad al w k := by
  refine zmetI_of (by decide) (Nat.le_of_ble_eq_true rfl) ?_
  intro p e R s m below meth c Q H ls args locs cells slots X hr hQ hR hl
  have hx := X.1
  have hb := X.2.1
  have hml := X.2.2.1
  have hown := X.2.2.2.1
  have hts := X.2.2.2.2.1
  unfold fX12_rows at hf
  have hl : lv_has ls 1 [(0, .ref (ad 200))] := hl
  refine lv_aload_n hx hb dX12_rows_0 rfl (lv_at hl 0 rfl) ?_
  refine z_getS X hR (zlit hR zf_200) zs_200 (by decide) zfd_X12_79 rfl (r := 210) (by decide +kernel) dX12_rows_1 ?_
  refine lv_iconst (v := (2 : Int32)) hx hb dX12_rows_4 (by decide) ?_
  refine z_iald X hR (zlit hR zf_210) zs_210 zl_210 (zin (by decide)) dX12_rows_5 ?_
  exact hQ _ _ _ _ _ _ hf hR dX12_rows_6
/-! X12_usesOf -/
def fX12_usesOf_L4 (k : Int32 → zW → Prop) : Nat → Int32 → Int32 → Int32 → zW → Prop
  | 0 => fun _ _ _ _ => False
  | n + 1 => fun x1 x2 x3 w =>
    fX12_rows  w (fun r1 w1 =>
    ((r1 ≤ x3 →
      k x2 w1) ∧
     (¬ r1 ≤ x3 →
      vp_in (((4 : Int32) * x3) + x1) 32 ∧ 
      ∀ v4 : Int32, v4 = x2 + (gI w1 225 (((4 : Int32) * x3) + x1).toNatClampNeg) →
      fX12_usesOf_L4 k n x1 v4 (x3 + (1 : Int32)) w1)))
set_option maxHeartbeats 4000000 in
set_option maxRecDepth 100000 in
theorem mX12_usesOf_L4 {k : Int32 → zW → Prop} (X : zCx p s m args meth c cX12_usesOf 4 RX12 (some .int)) (hr : zRm R 1 cells slots) (hQ : zRetI p l e R s m args below meth c cells slots Q D dA true ad0 al0 ad al cX12_usesOf k)  : ∀ (n : Nat) (x1 : Int32) (x2 : Int32) (x3 : Int32) (w : zW) (H : Heap) (locs : List Loc) (ls : Array Slot), fX12_usesOf_L4 k n x1 x2 x3 w → zSt D dA true ad0 al0 ad al w s H locs → lv_has ls 4 [(0, .ref (ad 200)), (1, .int x1), (2, .int x2), (3, .int x3)] → W p l e R s m args below meth c H locs cells slots Q (F0 m 4 ls []) := by
  intro n
  induction n with
  | zero => exact fun _ _ _ _ _ _ _ hf => hf.elim
  | succ n ih =>
    intro x1 x2 x3 w H locs ls hf hR hl
    have hx := X.1
    have hb := X.2.1
    have hml := X.2.2.1
    have hown := X.2.2.2.1
    have hts := X.2.2.2.2.1
    rw [fX12_usesOf_L4] at hf
    refine lv_iload_n hx hb dX12_usesOf_4 rfl (lv_at hl 3 rfl) ?_
    refine lv_aload_n hx hb dX12_usesOf_5 rfl (lv_at hl 0 rfl) ?_
    refine z_callVI (fr1 := 0) (b := 200) (As := []) (rest := [.int x3]) X (hr.le (by decide)) hR zy_X12_rows zq_199 (zlit hR zf_200) (by rw [zs_200]; rfl) rfl (mX12_rows  hf) rfl hl (Nat.le_of_ble_eq_true rfl) dX12_usesOf_6 rfl (fun r1 w1 H locs hf hR => ?_)
    refine lv_icmp_ge (tgt := 31) hx hb dX12_usesOf_9 (by decide) (fun c2 => ?_) (fun c2 => ?_)
    · replace hf := hf.1 c2
      refine lv_iload_n hx hb dX12_usesOf_31 rfl (lv_at hl 2 rfl) ?_
      exact hQ _ _ _ _ _ _ hf hR dX12_usesOf_32
    · replace hf := hf.2 c2
      refine lv_iload_n hx hb dX12_usesOf_12 rfl (lv_at hl 2 rfl) ?_
      refine lv_aload_n hx hb dX12_usesOf_13 rfl (lv_at hl 0 rfl) ?_
      refine z_getS X hR (zlit hR zf_200) zs_200 (by decide) zfd_X12_116 rfl (r := 225) (by decide +kernel) dX12_usesOf_14 ?_
      refine lv_iconst (v := (4 : Int32)) hx hb dX12_usesOf_17 (by decide) ?_
      refine lv_iload_n hx hb dX12_usesOf_18 rfl (lv_at hl 3 rfl) ?_
      refine lv_imul hx hb dX12_usesOf_19 ?_
      refine lv_iload_n hx hb dX12_usesOf_20 rfl (lv_at hl 1 rfl) ?_
      refine lv_iadd hx hb dX12_usesOf_21 ?_
      obtain ⟨hb3, hf⟩ := hf
      refine z_iald X hR (zlit hR zf_225) zs_225 zl_225 hb3 dX12_usesOf_22 ?_
      refine lv_iadd hx hb dX12_usesOf_23 ?_
      refine lv_topi (fun v4 hv4 => ?_)
      replace hf := hf v4 hv4
      refine lv_istore_n (lv' := [(2, .int v4), (0, .ref (ad 200)), (1, .int x1), (3, .int x3)]) hx hb dX12_usesOf_24 rfl hl (by decide) rfl (fun ls hl => ?_)
      refine lv_iinc (v := x3 + (1 : Int32)) (lv' := [(3, .int (x3 + (1 : Int32))), (2, .int v4), (0, .ref (ad 200)), (1, .int x1)]) hx hb dX12_usesOf_25 hl (k := 3) rfl rfl (by decide) rfl (fun ls hl => ?_)
      refine lv_goto (tgt := 4) hx hb dX12_usesOf_28 (by decide) ?_
      exact ih x1 v4 (x3 + (1 : Int32)) w1 _ _ _ hf hR (lv_sub hl [2, 3, 1, 0] rfl)
def fX12_usesOf (x1 : Int32) (w : zW) (k : Int32 → zW → Prop) : Prop :=
  ∃ n9, fX12_usesOf_L4 k n9 x1 (0 : Int32) (0 : Int32) w
set_option maxHeartbeats 4000000 in
set_option maxRecDepth 100000 in
theorem mX12_usesOf {l : Launch} {D : va_G} {dA : Nat → ClassId} {ad : Nat → Nat} {al : Nat → Prop} {w : zW} {k : Int32 → zW → Prop} {x1 : Int32}   (hf : fX12_usesOf x1 w k) : zmetI l yX12_usesOf cX12_usesOf 4 (some .int) 1 [.ref (ad 200), .int x1] D dA true ad al w k := by
  refine zmetI_of (by decide) (Nat.le_of_ble_eq_true rfl) ?_
  intro p e R s m below meth c Q H ls args locs cells slots X hr hQ hR hl
  have hx := X.1
  have hb := X.2.1
  have hml := X.2.2.1
  have hown := X.2.2.2.1
  have hts := X.2.2.2.2.1
  unfold fX12_usesOf at hf
  have hl : lv_has ls 4 [(0, .ref (ad 200)), (1, .int x1)] := hl
  refine lv_iconst (v := (0 : Int32)) hx hb dX12_usesOf_0 (by decide) ?_
  refine lv_istore_n (lv' := [(2, .int (0 : Int32)), (0, .ref (ad 200)), (1, .int x1)]) hx hb dX12_usesOf_1 rfl hl (by decide) rfl (fun ls hl => ?_)
  refine lv_iconst (v := (0 : Int32)) hx hb dX12_usesOf_2 (by decide) ?_
  refine lv_istore_n (lv' := [(3, .int (0 : Int32)), (2, .int (0 : Int32)), (0, .ref (ad 200)), (1, .int x1)]) hx hb dX12_usesOf_3 rfl hl (by decide) rfl (fun ls hl => ?_)
  obtain ⟨n9, hf⟩ := hf
  exact mX12_usesOf_L4 X hr hQ  n9 x1 (0 : Int32) (0 : Int32) w _ _ _ hf hR (lv_sub hl [2, 3, 1, 0] rfl)
/-! X12_worked -/
def fX12_worked (x0 : Int32) (x1 : Int32) (x2 : Int32) (w : zW) (k : Int32 → zW → Prop) : Prop :=
  ∀ sv1 : Int32, sv1 = x0 →
  ((sv1 = (4 : Int32) →
    k (x1 + x2) w) ∧
  (¬ sv1 = (4 : Int32) →
  ((sv1 = (5 : Int32) →
    k (x1 - x2) w) ∧
  (¬ sv1 = (5 : Int32) →
  ((sv1 = (6 : Int32) →
    k (x1 * x2) w) ∧
  (¬ sv1 = (6 : Int32) →
  ((sv1 = (7 : Int32) →
    ∀ v6 : Int32, v6 = (if x2 ≤ x1 then (0 : Int32) else (1 : Int32)) →
    k v6 w) ∧
  (¬ sv1 = (7 : Int32) →
  ((sv1 = (8 : Int32) →
    ∀ v8 : Int32, v8 = (if ¬ x1 = x2 then (0 : Int32) else (1 : Int32)) →
    k v8 w) ∧
  (¬ sv1 = (8 : Int32) →
  ((sv1 = (9 : Int32) →
    ∀ v10 : Int32, v10 = (if x1 = 0 then (0 : Int32) else (if x2 = 0 then (0 : Int32) else (1 : Int32))) →
    k v10 w) ∧
  (¬ sv1 = (9 : Int32) →
  
  ∀ v12 : Int32, v12 = (if ¬ x1 = 0 then (1 : Int32) else (if x2 = 0 then (0 : Int32) else (1 : Int32))) →
  k v12 w))))))))))))
set_option maxHeartbeats 4000000 in
set_option maxRecDepth 100000 in
theorem mX12_worked {l : Launch} {D : va_G} {dA : Nat → ClassId} {ad : Nat → Nat} {al : Nat → Prop} {w : zW} {k : Int32 → zW → Prop} {x0 : Int32} {x1 : Int32} {x2 : Int32}   (hf : fX12_worked x0 x1 x2 w k) : zmetI l yX12_worked cX12_worked 3 (some .int) 0 [.int x0, .int x1, .int x2] D dA true ad al w k := by
  refine zmetI_of (by decide) (Nat.le_of_ble_eq_true rfl) ?_
  intro p e R s m below meth c Q H ls args locs cells slots X hr hQ hR hl
  have hx := X.1
  have hb := X.2.1
  have hml := X.2.2.1
  have hown := X.2.2.2.1
  have hts := X.2.2.2.2.1
  unfold fX12_worked at hf
  have hl : lv_has ls 3 [(0, .int x0), (1, .int x1), (2, .int x2)] := hl
  refine lv_iload_n hx hb dX12_worked_0 rfl (lv_at hl 0 rfl) ?_
  refine lv_topi (fun sv1 hsv1 => ?_)
  replace hf := hf sv1 hsv1
  by_cases c2 : sv1 = (4 : Int32)
  · replace hf := hf.1 c2
    refine lv_tableIn (off := 39) (tgt := 40) hx hb dX12_worked_1 (by rw [c2]; decide) (by rw [c2]; decide) (by rw [c2]; decide) (by decide) ?_
    refine lv_iload_n hx hb dX12_worked_40 rfl (lv_at hl 1 rfl) ?_
    refine lv_iload_n hx hb dX12_worked_41 rfl (lv_at hl 2 rfl) ?_
    refine lv_iadd hx hb dX12_worked_42 ?_
    exact hQ _ _ _ _ _ _ hf hR dX12_worked_43
  replace hf := hf.2 c2
  by_cases c3 : sv1 = (5 : Int32)
  · replace hf := hf.1 c3
    refine lv_tableIn (off := 43) (tgt := 44) hx hb dX12_worked_1 (by rw [c3]; decide) (by rw [c3]; decide) (by rw [c3]; decide) (by decide) ?_
    refine lv_iload_n hx hb dX12_worked_44 rfl (lv_at hl 1 rfl) ?_
    refine lv_iload_n hx hb dX12_worked_45 rfl (lv_at hl 2 rfl) ?_
    refine lv_isub hx hb dX12_worked_46 ?_
    exact hQ _ _ _ _ _ _ hf hR dX12_worked_47
  replace hf := hf.2 c3
  by_cases c4 : sv1 = (6 : Int32)
  · replace hf := hf.1 c4
    refine lv_tableIn (off := 47) (tgt := 48) hx hb dX12_worked_1 (by rw [c4]; decide) (by rw [c4]; decide) (by rw [c4]; decide) (by decide) ?_
    refine lv_iload_n hx hb dX12_worked_48 rfl (lv_at hl 1 rfl) ?_
    refine lv_iload_n hx hb dX12_worked_49 rfl (lv_at hl 2 rfl) ?_
    refine lv_imul hx hb dX12_worked_50 ?_
    exact hQ _ _ _ _ _ _ hf hR dX12_worked_51
  replace hf := hf.2 c4
  by_cases c5 : sv1 = (7 : Int32)
  · replace hf := hf.1 c5
    refine lv_tableIn (off := 51) (tgt := 52) hx hb dX12_worked_1 (by rw [c5]; decide) (by rw [c5]; decide) (by rw [c5]; decide) (by decide) ?_
    refine lv_iload_n hx hb dX12_worked_52 rfl (lv_at hl 1 rfl) ?_
    refine lv_iload_n hx hb dX12_worked_53 rfl (lv_at hl 2 rfl) ?_
    have kJ6 : ∀ v6 : Int32, v6 = (if x2 ≤ x1 then (0 : Int32) else (1 : Int32)) → W p l e R s m args below meth c H locs cells slots Q (F0 m 62 ls (.int v6 :: [])) := by
      intro v6 hv6
      replace hf := hf v6 hv6
      exact hQ _ _ _ _ _ _ hf hR dX12_worked_62
    refine lv_icmp_ge (tgt := 61) hx hb dX12_worked_54 (by decide) (fun c6 => ?_) (fun c6 => ?_)
    · refine lv_iconst (v := (0 : Int32)) hx hb dX12_worked_61 (by decide) ?_
      exact kJ6 _ (if_pos c6).symm
    · refine lv_iconst (v := (1 : Int32)) hx hb dX12_worked_57 (by decide) ?_
      refine lv_goto (tgt := 62) hx hb dX12_worked_58 (by decide) ?_
      exact kJ6 _ (if_neg c6).symm
  replace hf := hf.2 c5
  by_cases c7 : sv1 = (8 : Int32)
  · replace hf := hf.1 c7
    refine lv_tableIn (off := 62) (tgt := 63) hx hb dX12_worked_1 (by rw [c7]; decide) (by rw [c7]; decide) (by rw [c7]; decide) (by decide) ?_
    refine lv_iload_n hx hb dX12_worked_63 rfl (lv_at hl 1 rfl) ?_
    refine lv_iload_n hx hb dX12_worked_64 rfl (lv_at hl 2 rfl) ?_
    have kJ8 : ∀ v8 : Int32, v8 = (if ¬ x1 = x2 then (0 : Int32) else (1 : Int32)) → W p l e R s m args below meth c H locs cells slots Q (F0 m 73 ls (.int v8 :: [])) := by
      intro v8 hv8
      replace hf := hf v8 hv8
      exact hQ _ _ _ _ _ _ hf hR dX12_worked_73
    refine lv_icmp_ne (tgt := 72) hx hb dX12_worked_65 (by decide) (fun c8 => ?_) (fun c8 => ?_)
    · refine lv_iconst (v := (0 : Int32)) hx hb dX12_worked_72 (by decide) ?_
      exact kJ8 _ (if_pos c8).symm
    · refine lv_iconst (v := (1 : Int32)) hx hb dX12_worked_68 (by decide) ?_
      refine lv_goto (tgt := 73) hx hb dX12_worked_69 (by decide) ?_
      exact kJ8 _ (if_neg (fun h9 => h9 c8)).symm
  replace hf := hf.2 c7
  by_cases c9 : sv1 = (9 : Int32)
  · replace hf := hf.1 c9
    refine lv_tableIn (off := 73) (tgt := 74) hx hb dX12_worked_1 (by rw [c9]; decide) (by rw [c9]; decide) (by rw [c9]; decide) (by decide) ?_
    refine lv_iload_n hx hb dX12_worked_74 rfl (lv_at hl 1 rfl) ?_
    have kJ10 : ∀ v10 : Int32, v10 = (if x1 = 0 then (0 : Int32) else (if x2 = 0 then (0 : Int32) else (1 : Int32))) → W p l e R s m args below meth c H locs cells slots Q (F0 m 87 ls (.int v10 :: [])) := by
      intro v10 hv10
      replace hf := hf v10 hv10
      exact hQ _ _ _ _ _ _ hf hR dX12_worked_87
    refine lv_if_eq (tgt := 86) hx hb dX12_worked_75 (by decide) (fun c10 => ?_) (fun c10 => ?_)
    · refine lv_iconst (v := (0 : Int32)) hx hb dX12_worked_86 (by decide) ?_
      exact kJ10 _ (if_pos c10).symm
    · refine lv_iload_n hx hb dX12_worked_78 rfl (lv_at hl 2 rfl) ?_
      refine lv_if_eq (tgt := 86) hx hb dX12_worked_79 (by decide) (fun c11 => ?_) (fun c11 => ?_)
      · refine lv_iconst (v := (0 : Int32)) hx hb dX12_worked_86 (by decide) ?_
        exact kJ10 _ ((if_neg c10).trans (if_pos c11)).symm
      · refine lv_iconst (v := (1 : Int32)) hx hb dX12_worked_82 (by decide) ?_
        refine lv_goto (tgt := 87) hx hb dX12_worked_83 (by decide) ?_
        exact kJ10 _ ((if_neg c10).trans (if_neg c11)).symm
  replace hf := hf.2 c9
  have ho1 : sv1.toInt < 4 ∨ 9 < sv1.toInt := by
    have := z_i32ne (k := (4 : Int32)) c2
    have := z_i32ne (k := (5 : Int32)) c3
    have := z_i32ne (k := (6 : Int32)) c4
    have := z_i32ne (k := (7 : Int32)) c5
    have := z_i32ne (k := (8 : Int32)) c7
    have := z_i32ne (k := (9 : Int32)) c9
    simp only [show ((4 : Int32)).toInt = 4 from by decide, show ((5 : Int32)).toInt = 5 from by decide, show ((6 : Int32)).toInt = 6 from by decide, show ((7 : Int32)).toInt = 7 from by decide, show ((8 : Int32)).toInt = 8 from by decide, show ((9 : Int32)).toInt = 9 from by decide] at *
    omega
  refine lv_tableOut (tgt := 88) hx hb dX12_worked_1 ho1 (by decide) ?_
  refine lv_iload_n hx hb dX12_worked_88 rfl (lv_at hl 1 rfl) ?_
  have kJ12 : ∀ v12 : Int32, v12 = (if ¬ x1 = 0 then (1 : Int32) else (if x2 = 0 then (0 : Int32) else (1 : Int32))) → W p l e R s m args below meth c H locs cells slots Q (F0 m 101 ls (.int v12 :: [])) := by
    intro v12 hv12
    replace hf := hf v12 hv12
    exact hQ _ _ _ _ _ _ hf hR dX12_worked_101
  refine lv_if_ne (tgt := 96) hx hb dX12_worked_89 (by decide) (fun c12 => ?_) (fun c12 => ?_)
  · refine lv_iconst (v := (1 : Int32)) hx hb dX12_worked_96 (by decide) ?_
    refine lv_goto (tgt := 101) hx hb dX12_worked_97 (by decide) ?_
    exact kJ12 _ (if_pos c12).symm
  · refine lv_iload_n hx hb dX12_worked_92 rfl (lv_at hl 2 rfl) ?_
    refine lv_if_eq (tgt := 100) hx hb dX12_worked_93 (by decide) (fun c13 => ?_) (fun c13 => ?_)
    · refine lv_iconst (v := (0 : Int32)) hx hb dX12_worked_100 (by decide) ?_
      exact kJ12 _ ((if_neg (fun h9 => h9 c12)).trans (if_pos c13)).symm
    · refine lv_iconst (v := (1 : Int32)) hx hb dX12_worked_96 (by decide) ?_
      refine lv_goto (tgt := 101) hx hb dX12_worked_97 (by decide) ?_
      exact kJ12 _ ((if_neg (fun h9 => h9 c12)).trans (if_neg c13)).symm
/-! X12_worthAt -/
def fX12_worthAt_J76 (k : Int32 → zW → Prop) (g4 : Int32 → Int32 → zW → Prop) (x2 : Int32) (x3 : Int32) (t0 : Int32) (t1 : Int32) (w : zW) : Prop :=
  vp_in t1 64 ∧ 
  ∀ w9 : zW, w9 = sI w 219 t1.toNatClampNeg t0 →
  g4 (x2 + (1 : Int32)) (x3 + (1 : Int32)) w9
set_option maxHeartbeats 4000000 in
set_option maxRecDepth 100000 in
theorem mX12_worthAt_J76 {k : Int32 → zW → Prop} {g4 : Int32 → Int32 → zW → Prop} (X : zCx p s m args meth c cX12_worthAt 5 RX12 (some .int)) (hr : zRm R 1 cells slots) (hQ : zRetI p l e R s m args below meth c cells slots Q D dA true ad0 al0 ad al cX12_worthAt k) (hg4 : ∀ (x2 : Int32) (x3 : Int32) (w : zW) (H : Heap) (locs : List Loc) (ls : Array Slot), g4 x2 x3 w → zSt D dA true ad0 al0 ad al w s H locs → lv_has ls 5 [(0, .ref (ad 200)), (2, .int x2), (3, .int x3)] → W p l e R s m args below meth c H locs cells slots Q (F0 m 4 ls [])) {x2 : Int32} {x3 : Int32} {t0 : Int32} {t1 : Int32} {w : zW} {H : Heap} {locs : List Loc} {ls : Array Slot} (hf : fX12_worthAt_J76 k g4 x2 x3 t0 t1 w) (hR : zSt D dA true ad0 al0 ad al w s H locs) (hl : lv_has ls 5 [(0, .ref (ad 200)), (2, .int x2), (3, .int x3)]) : W p l e R s m args below meth c H locs cells slots Q (F0 m 76 ls [.int t0, .int t1, .ref (ad 219)]) := by
  have hx := X.1
  have hb := X.2.1
  have hml := X.2.2.1
  have hown := X.2.2.2.1
  have hts := X.2.2.2.2.1
  unfold fX12_worthAt_J76 at hf
  obtain ⟨hb8, hf⟩ := hf
  refine z_iast X hR (zlit hR zf_219) zs_219 zl_219 hb8 dX12_worthAt_76 (fun H locs hR => ?_)
  obtain ⟨w9, hw9⟩ : ∃ z : zW, z = sI w 219 t1.toNatClampNeg t0 := ⟨_, rfl⟩
  rw [← hw9] at hR
  replace hf := hf w9 hw9
  refine lv_iinc (v := x2 + (1 : Int32)) (lv' := [(2, .int (x2 + (1 : Int32))), (0, .ref (ad 200)), (3, .int x3)]) hx hb dX12_worthAt_77 hl (k := 1) rfl rfl (by decide) rfl (fun ls hl => ?_)
  refine lv_goto (tgt := 146) hx hb dX12_worthAt_80 (by decide) ?_
  refine lv_iinc (v := x3 + (1 : Int32)) (lv' := [(3, .int (x3 + (1 : Int32))), (2, .int (x2 + (1 : Int32))), (0, .ref (ad 200))]) hx hb dX12_worthAt_146 hl (k := 2) rfl rfl (by decide) rfl (fun ls hl => ?_)
  refine lv_goto (tgt := 4) hx hb dX12_worthAt_149 (by decide) ?_
  exact hg4 (x2 + (1 : Int32)) (x3 + (1 : Int32)) w9 _ _ _ hf hR (lv_sub hl [2, 1, 0] rfl)
def fX12_worthAt_J39 (k : Int32 → zW → Prop) (g4 : Int32 → Int32 → zW → Prop) (x2 : Int32) (x3 : Int32) (x4 : Int32) (w : zW) : Prop :=
  ((¬ x4 = (1 : Int32) →
    vp_in x3 2200 ∧ 
    vp_in ((gI w 212 x3.toNatClampNeg) / (16 : Int32)) 4 ∧ 
    fX12_worthAt_J76 k g4 x2 x3 (gI w 218 ((gI w 212 x3.toNatClampNeg) / (16 : Int32)).toNatClampNeg) x2 w) ∧
   (x4 = (1 : Int32) →
    vp_in x3 2200 ∧ 
    fX12_worthAt_J76 k g4 x2 x3 ((gI w 212 x3.toNatClampNeg) / (16 : Int32)) x2 w))
set_option maxHeartbeats 4000000 in
set_option maxRecDepth 100000 in
theorem mX12_worthAt_J39 {k : Int32 → zW → Prop} {g4 : Int32 → Int32 → zW → Prop} (X : zCx p s m args meth c cX12_worthAt 5 RX12 (some .int)) (hr : zRm R 1 cells slots) (hQ : zRetI p l e R s m args below meth c cells slots Q D dA true ad0 al0 ad al cX12_worthAt k) (hg4 : ∀ (x2 : Int32) (x3 : Int32) (w : zW) (H : Heap) (locs : List Loc) (ls : Array Slot), g4 x2 x3 w → zSt D dA true ad0 al0 ad al w s H locs → lv_has ls 5 [(0, .ref (ad 200)), (2, .int x2), (3, .int x3)] → W p l e R s m args below meth c H locs cells slots Q (F0 m 4 ls [])) {x2 : Int32} {x3 : Int32} {x4 : Int32} {w : zW} {H : Heap} {locs : List Loc} {ls : Array Slot} (hf : fX12_worthAt_J39 k g4 x2 x3 x4 w) (hR : zSt D dA true ad0 al0 ad al w s H locs) (hl : lv_has ls 5 [(0, .ref (ad 200)), (2, .int x2), (3, .int x3), (4, .int x4)]) : W p l e R s m args below meth c H locs cells slots Q (F0 m 39 ls []) := by
  have hx := X.1
  have hb := X.2.1
  have hml := X.2.2.1
  have hown := X.2.2.2.1
  have hts := X.2.2.2.2.1
  unfold fX12_worthAt_J39 at hf
  refine lv_aload_n hx hb dX12_worthAt_39 rfl (lv_at hl 0 rfl) ?_
  refine z_getS X hR (zlit hR zf_200) zs_200 (by decide) zfd_X12_100 rfl (r := 219) (by decide +kernel) dX12_worthAt_40 ?_
  refine lv_iload_n hx hb dX12_worthAt_43 rfl (lv_at hl 1 rfl) ?_
  refine lv_iload hx hb dX12_worthAt_44 (lv_at hl 3 rfl) ?_
  refine lv_iconst (v := (1 : Int32)) hx hb dX12_worthAt_46 (by decide) ?_
  refine lv_icmp_ne (tgt := 62) hx hb dX12_worthAt_47 (by decide) (fun c5 => ?_) (fun c5 => ?_)
  · replace hf := hf.1 c5
    refine lv_aload_n hx hb dX12_worthAt_62 rfl (lv_at hl 0 rfl) ?_
    refine z_getS X hR (zlit hR zf_200) zs_200 (by decide) zfd_X12_97 rfl (r := 218) (by decide +kernel) dX12_worthAt_63 ?_
    refine lv_aload_n hx hb dX12_worthAt_66 rfl (lv_at hl 0 rfl) ?_
    refine z_getS X hR (zlit hR zf_200) zs_200 (by decide) zfd_X12_85 rfl (r := 212) (by decide +kernel) dX12_worthAt_67 ?_
    refine lv_iload_n hx hb dX12_worthAt_70 rfl (lv_at hl 2 rfl) ?_
    obtain ⟨hb6, hf⟩ := hf
    refine z_iald X hR (zlit hR zf_212) zs_212 zl_212 hb6 dX12_worthAt_71 ?_
    refine lv_bipush (v := (16 : Int32)) hx hb dX12_worthAt_72 (by decide) ?_
    refine lv_idiv hx hb dX12_worthAt_74 (by decide) ?_
    obtain ⟨hb7, hf⟩ := hf
    refine z_iald X hR (zlit hR zf_218) zs_218 zl_218 hb7 dX12_worthAt_75 ?_
    exact mX12_worthAt_J76 X hr hQ hg4 hf hR (lv_sub hl [0, 1, 2] rfl)
  · replace hf := hf.2 c5
    refine lv_aload_n hx hb dX12_worthAt_50 rfl (lv_at hl 0 rfl) ?_
    refine z_getS X hR (zlit hR zf_200) zs_200 (by decide) zfd_X12_85 rfl (r := 212) (by decide +kernel) dX12_worthAt_51 ?_
    refine lv_iload_n hx hb dX12_worthAt_54 rfl (lv_at hl 2 rfl) ?_
    obtain ⟨hb10, hf⟩ := hf
    refine z_iald X hR (zlit hR zf_212) zs_212 zl_212 hb10 dX12_worthAt_55 ?_
    refine lv_bipush (v := (16 : Int32)) hx hb dX12_worthAt_56 (by decide) ?_
    refine lv_idiv hx hb dX12_worthAt_58 (by decide) ?_
    refine lv_goto (tgt := 76) hx hb dX12_worthAt_59 (by decide) ?_
    exact mX12_worthAt_J76 X hr hQ hg4 hf hR (lv_sub hl [0, 1, 2] rfl)
def fX12_worthAt_J112 (k : Int32 → zW → Prop) (g4 : Int32 → Int32 → zW → Prop) (x2 : Int32) (x3 : Int32) (t0 : Int32) (t1 : Int32) (w : zW) : Prop :=
  vp_in t1 64 ∧ 
  ∀ w20 : zW, w20 = sI w 219 t1.toNatClampNeg t0 →
  g4 x2 (x3 + (1 : Int32)) w20
set_option maxHeartbeats 4000000 in
set_option maxRecDepth 100000 in
theorem mX12_worthAt_J112 {k : Int32 → zW → Prop} {g4 : Int32 → Int32 → zW → Prop} (X : zCx p s m args meth c cX12_worthAt 5 RX12 (some .int)) (hr : zRm R 1 cells slots) (hQ : zRetI p l e R s m args below meth c cells slots Q D dA true ad0 al0 ad al cX12_worthAt k) (hg4 : ∀ (x2 : Int32) (x3 : Int32) (w : zW) (H : Heap) (locs : List Loc) (ls : Array Slot), g4 x2 x3 w → zSt D dA true ad0 al0 ad al w s H locs → lv_has ls 5 [(0, .ref (ad 200)), (2, .int x2), (3, .int x3)] → W p l e R s m args below meth c H locs cells slots Q (F0 m 4 ls [])) {x2 : Int32} {x3 : Int32} {t0 : Int32} {t1 : Int32} {w : zW} {H : Heap} {locs : List Loc} {ls : Array Slot} (hf : fX12_worthAt_J112 k g4 x2 x3 t0 t1 w) (hR : zSt D dA true ad0 al0 ad al w s H locs) (hl : lv_has ls 5 [(0, .ref (ad 200)), (2, .int x2), (3, .int x3)]) : W p l e R s m args below meth c H locs cells slots Q (F0 m 112 ls [.int t0, .int t1, .ref (ad 219)]) := by
  have hx := X.1
  have hb := X.2.1
  have hml := X.2.2.1
  have hown := X.2.2.2.1
  have hts := X.2.2.2.2.1
  unfold fX12_worthAt_J112 at hf
  obtain ⟨hb19, hf⟩ := hf
  refine z_iast X hR (zlit hR zf_219) zs_219 zl_219 hb19 dX12_worthAt_112 (fun H locs hR => ?_)
  obtain ⟨w20, hw20⟩ : ∃ z : zW, z = sI w 219 t1.toNatClampNeg t0 := ⟨_, rfl⟩
  rw [← hw20] at hR
  replace hf := hf w20 hw20
  refine lv_goto (tgt := 146) hx hb dX12_worthAt_113 (by decide) ?_
  refine lv_iinc (v := x3 + (1 : Int32)) (lv' := [(3, .int (x3 + (1 : Int32))), (0, .ref (ad 200)), (2, .int x2)]) hx hb dX12_worthAt_146 hl (k := 2) rfl rfl (by decide) rfl (fun ls hl => ?_)
  refine lv_goto (tgt := 4) hx hb dX12_worthAt_149 (by decide) ?_
  exact hg4 x2 (x3 + (1 : Int32)) w20 _ _ _ hf hR (lv_sub hl [1, 2, 0] rfl)
def fX12_worthAt_L4 (k : Int32 → zW → Prop) : Nat → Int32 → Int32 → zW → Prop
  | 0 => fun _ _ _ => False
  | n + 1 => fun x2 x3 w =>
    vp_in x3 2200 ∧ 
    ((((gI w 212 x3.toNatClampNeg) % (16 : Int32)) = 0 →
      k (gI w 219 (0 : Int32).toNatClampNeg) w) ∧
     (¬ ((gI w 212 x3.toNatClampNeg) % (16 : Int32)) = 0 →
      ∀ v3 : Int32, v3 = (gI w 212 x3.toNatClampNeg) % (16 : Int32) →
      ((v3 = (1 : Int32) →
        fX12_worthAt_J39 k (fX12_worthAt_L4 k n) x2 x3 v3 w) ∧
       (¬ v3 = (1 : Int32) →
        ((¬ v3 = (2 : Int32) →
          ((¬ v3 = (3 : Int32) →
            vp_in ((x2 + (-1 : Int32)) - (1 : Int32)) 64 ∧ 
            vp_in (x2 + (-1 : Int32)) 64 ∧ 
            fX12_worked v3 (gI w 219 ((x2 + (-1 : Int32)) - (1 : Int32)).toNatClampNeg) (gI w 219 (x2 + (-1 : Int32)).toNatClampNeg) w (fun r15 w15 =>
            ∀ w16 : zW, w16 = sI w15 219 ((x2 + (-1 : Int32)) - (1 : Int32)).toNatClampNeg r15 →
            fX12_worthAt_L4 k n (x2 + (-1 : Int32)) (x3 + (1 : Int32)) w16)) ∧
           (v3 = (3 : Int32) →
            vp_in (x2 - (1 : Int32)) 64 ∧ 
            ∀ v18 : Int32, v18 = (if ¬ (gI w 219 (x2 - (1 : Int32)).toNatClampNeg) = 0 then (0 : Int32) else (1 : Int32)) →
            fX12_worthAt_J112 k (fX12_worthAt_L4 k n) x2 x3 v18 (x2 - (1 : Int32)) w))) ∧
         (v3 = (2 : Int32) →
          fX12_worthAt_J39 k (fX12_worthAt_L4 k n) x2 x3 v3 w))))))
set_option maxHeartbeats 4000000 in
set_option maxRecDepth 100000 in
theorem mX12_worthAt_L4 {k : Int32 → zW → Prop} (X : zCx p s m args meth c cX12_worthAt 5 RX12 (some .int)) (hr : zRm R 1 cells slots) (hQ : zRetI p l e R s m args below meth c cells slots Q D dA true ad0 al0 ad al cX12_worthAt k)  : ∀ (n : Nat) (x2 : Int32) (x3 : Int32) (w : zW) (H : Heap) (locs : List Loc) (ls : Array Slot), fX12_worthAt_L4 k n x2 x3 w → zSt D dA true ad0 al0 ad al w s H locs → lv_has ls 5 [(0, .ref (ad 200)), (2, .int x2), (3, .int x3)] → W p l e R s m args below meth c H locs cells slots Q (F0 m 4 ls []) := by
  intro n
  induction n with
  | zero => exact fun _ _ _ _ _ _ hf => hf.elim
  | succ n ih =>
    intro x2 x3 w H locs ls hf hR hl
    have hx := X.1
    have hb := X.2.1
    have hml := X.2.2.1
    have hown := X.2.2.2.1
    have hts := X.2.2.2.2.1
    rw [fX12_worthAt_L4] at hf
    refine lv_aload_n hx hb dX12_worthAt_4 rfl (lv_at hl 0 rfl) ?_
    refine z_getS X hR (zlit hR zf_200) zs_200 (by decide) zfd_X12_85 rfl (r := 212) (by decide +kernel) dX12_worthAt_5 ?_
    refine lv_iload_n hx hb dX12_worthAt_8 rfl (lv_at hl 2 rfl) ?_
    obtain ⟨hb1, hf⟩ := hf
    refine z_iald X hR (zlit hR zf_212) zs_212 zl_212 hb1 dX12_worthAt_9 ?_
    refine lv_bipush (v := (16 : Int32)) hx hb dX12_worthAt_10 (by decide) ?_
    refine z_irem X dX12_worthAt_12 (by decide) ?_
    refine lv_if_eq (tgt := 152) hx hb dX12_worthAt_13 (by decide) (fun c2 => ?_) (fun c2 => ?_)
    · replace hf := hf.1 c2
      refine lv_aload_n hx hb dX12_worthAt_152 rfl (lv_at hl 0 rfl) ?_
      refine z_getS X hR (zlit hR zf_200) zs_200 (by decide) zfd_X12_100 rfl (r := 219) (by decide +kernel) dX12_worthAt_153 ?_
      refine lv_iconst (v := (0 : Int32)) hx hb dX12_worthAt_156 (by decide) ?_
      refine z_iald X hR (zlit hR zf_219) zs_219 zl_219 (zin (by decide)) dX12_worthAt_157 ?_
      exact hQ _ _ _ _ _ _ hf hR dX12_worthAt_158
    · replace hf := hf.2 c2
      refine lv_aload_n hx hb dX12_worthAt_16 rfl (lv_at hl 0 rfl) ?_
      refine z_getS X hR (zlit hR zf_200) zs_200 (by decide) zfd_X12_85 rfl (r := 212) (by decide +kernel) dX12_worthAt_17 ?_
      refine lv_iload_n hx hb dX12_worthAt_20 rfl (lv_at hl 2 rfl) ?_
      refine z_iald X hR (zlit hR zf_212) zs_212 zl_212 hb1 dX12_worthAt_21 ?_
      refine lv_bipush (v := (16 : Int32)) hx hb dX12_worthAt_22 (by decide) ?_
      refine z_irem X dX12_worthAt_24 (by decide) ?_
      refine lv_topi (fun v3 hv3 => ?_)
      replace hf := hf v3 hv3
      refine lv_istore (lv' := [(4, .int v3), (0, .ref (ad 200)), (2, .int x2), (3, .int x3)]) hx hb dX12_worthAt_25 hl (by decide) rfl (fun ls hl => ?_)
      refine lv_iload hx hb dX12_worthAt_27 (lv_at hl 0 rfl) ?_
      refine lv_iconst (v := (1 : Int32)) hx hb dX12_worthAt_29 (by decide) ?_
      refine lv_icmp_eq (tgt := 39) hx hb dX12_worthAt_30 (by decide) (fun c4 => ?_) (fun c4 => ?_)
      · replace hf := hf.1 c4
        exact mX12_worthAt_J39 X hr hQ ih hf hR (lv_sub hl [1, 2, 3, 0] rfl)
      · replace hf := hf.2 c4
        refine lv_iload hx hb dX12_worthAt_33 (lv_at hl 0 rfl) ?_
        refine lv_iconst (v := (2 : Int32)) hx hb dX12_worthAt_35 (by decide) ?_
        refine lv_icmp_ne (tgt := 83) hx hb dX12_worthAt_36 (by decide) (fun c11 => ?_) (fun c11 => ?_)
        · replace hf := hf.1 c11
          refine lv_iload hx hb dX12_worthAt_83 (lv_at hl 0 rfl) ?_
          refine lv_iconst (v := (3 : Int32)) hx hb dX12_worthAt_85 (by decide) ?_
          refine lv_icmp_ne (tgt := 116) hx hb dX12_worthAt_86 (by decide) (fun c12 => ?_) (fun c12 => ?_)
          · replace hf := hf.1 c12
            refine lv_iinc (v := x2 + (-1 : Int32)) (lv' := [(2, .int (x2 + (-1 : Int32))), (4, .int v3), (0, .ref (ad 200)), (3, .int x3)]) hx hb dX12_worthAt_116 hl (k := 2) rfl rfl (by decide) rfl (fun ls hl => ?_)
            refine lv_aload_n hx hb dX12_worthAt_119 rfl (lv_at hl 2 rfl) ?_
            refine z_getS X hR (zlit hR zf_200) zs_200 (by decide) zfd_X12_100 rfl (r := 219) (by decide +kernel) dX12_worthAt_120 ?_
            refine lv_iload_n hx hb dX12_worthAt_123 rfl (lv_at hl 0 rfl) ?_
            refine lv_iconst (v := (1 : Int32)) hx hb dX12_worthAt_124 (by decide) ?_
            refine lv_isub hx hb dX12_worthAt_125 ?_
            refine lv_iload hx hb dX12_worthAt_126 (lv_at hl 1 rfl) ?_
            refine lv_aload_n hx hb dX12_worthAt_128 rfl (lv_at hl 2 rfl) ?_
            refine z_getS X hR (zlit hR zf_200) zs_200 (by decide) zfd_X12_100 rfl (r := 219) (by decide +kernel) dX12_worthAt_129 ?_
            refine lv_iload_n hx hb dX12_worthAt_132 rfl (lv_at hl 0 rfl) ?_
            refine lv_iconst (v := (1 : Int32)) hx hb dX12_worthAt_133 (by decide) ?_
            refine lv_isub hx hb dX12_worthAt_134 ?_
            obtain ⟨hb13, hf⟩ := hf
            refine z_iald X hR (zlit hR zf_219) zs_219 zl_219 hb13 dX12_worthAt_135 ?_
            refine lv_aload_n hx hb dX12_worthAt_136 rfl (lv_at hl 2 rfl) ?_
            refine z_getS X hR (zlit hR zf_200) zs_200 (by decide) zfd_X12_100 rfl (r := 219) (by decide +kernel) dX12_worthAt_137 ?_
            refine lv_iload_n hx hb dX12_worthAt_140 rfl (lv_at hl 0 rfl) ?_
            obtain ⟨hb14, hf⟩ := hf
            refine z_iald X hR (zlit hR zf_219) zs_219 zl_219 hb14 dX12_worthAt_141 ?_
            refine z_callSI (fr1 := 0) (As := [.int v3, .int (gI w 219 ((x2 + (-1 : Int32)) - (1 : Int32)).toNatClampNeg), .int (gI w 219 (x2 + (-1 : Int32)).toNatClampNeg)]) (rest := [.int ((x2 + (-1 : Int32)) - (1 : Int32)), .ref (ad 219)]) X (hr.le (by decide)) hR zy_X12_worked zq_227 (mX12_worked  hf) rfl hl (Nat.le_of_ble_eq_true rfl) dX12_worthAt_142 rfl (fun r15 w15 H locs hf hR => ?_)
            refine z_iast X hR (zlit hR zf_219) zs_219 zl_219 hb13 dX12_worthAt_145 (fun H locs hR => ?_)
            obtain ⟨w16, hw16⟩ : ∃ z : zW, z = sI w15 219 ((x2 + (-1 : Int32)) - (1 : Int32)).toNatClampNeg r15 := ⟨_, rfl⟩
            rw [← hw16] at hR
            replace hf := hf w16 hw16
            refine lv_iinc (v := x3 + (1 : Int32)) (lv' := [(3, .int (x3 + (1 : Int32))), (2, .int (x2 + (-1 : Int32))), (4, .int v3), (0, .ref (ad 200))]) hx hb dX12_worthAt_146 hl (k := 3) rfl rfl (by decide) rfl (fun ls hl => ?_)
            refine lv_goto (tgt := 4) hx hb dX12_worthAt_149 (by decide) ?_
            exact ih (x2 + (-1 : Int32)) (x3 + (1 : Int32)) w16 _ _ _ hf hR (lv_sub hl [3, 1, 0] rfl)
          · replace hf := hf.2 c12
            refine lv_aload_n hx hb dX12_worthAt_89 rfl (lv_at hl 1 rfl) ?_
            refine z_getS X hR (zlit hR zf_200) zs_200 (by decide) zfd_X12_100 rfl (r := 219) (by decide +kernel) dX12_worthAt_90 ?_
            refine lv_iload_n hx hb dX12_worthAt_93 rfl (lv_at hl 2 rfl) ?_
            refine lv_iconst (v := (1 : Int32)) hx hb dX12_worthAt_94 (by decide) ?_
            refine lv_isub hx hb dX12_worthAt_95 ?_
            refine lv_aload_n hx hb dX12_worthAt_96 rfl (lv_at hl 1 rfl) ?_
            refine z_getS X hR (zlit hR zf_200) zs_200 (by decide) zfd_X12_100 rfl (r := 219) (by decide +kernel) dX12_worthAt_97 ?_
            refine lv_iload_n hx hb dX12_worthAt_100 rfl (lv_at hl 2 rfl) ?_
            refine lv_iconst (v := (1 : Int32)) hx hb dX12_worthAt_101 (by decide) ?_
            refine lv_isub hx hb dX12_worthAt_102 ?_
            obtain ⟨hb17, hf⟩ := hf
            refine z_iald X hR (zlit hR zf_219) zs_219 zl_219 hb17 dX12_worthAt_103 ?_
            have kJ18 : ∀ v18 : Int32, v18 = (if ¬ (gI w 219 (x2 - (1 : Int32)).toNatClampNeg) = 0 then (0 : Int32) else (1 : Int32)) → W p l e R s m args below meth c H locs cells slots Q (F0 m 112 ls (.int v18 :: .int (x2 - (1 : Int32)) :: .ref (ad 219) :: [])) := by
              intro v18 hv18
              replace hf := hf v18 hv18
              exact mX12_worthAt_J112 X hr hQ ih hf hR (lv_sub hl [1, 2, 3] rfl)
            refine lv_if_ne (tgt := 111) hx hb dX12_worthAt_104 (by decide) (fun c18 => ?_) (fun c18 => ?_)
            · refine lv_iconst (v := (0 : Int32)) hx hb dX12_worthAt_111 (by decide) ?_
              exact kJ18 _ (if_pos c18).symm
            · refine lv_iconst (v := (1 : Int32)) hx hb dX12_worthAt_107 (by decide) ?_
              refine lv_goto (tgt := 112) hx hb dX12_worthAt_108 (by decide) ?_
              exact kJ18 _ (if_neg (fun h9 => h9 c18)).symm
        · replace hf := hf.2 c11
          exact mX12_worthAt_J39 X hr hQ ih hf hR (lv_sub hl [1, 2, 3, 0] rfl)
def fX12_worthAt (x1 : Int32) (w : zW) (k : Int32 → zW → Prop) : Prop :=
  ∃ n9, fX12_worthAt_L4 k n9 (0 : Int32) x1 w
set_option maxHeartbeats 4000000 in
set_option maxRecDepth 100000 in
theorem mX12_worthAt {l : Launch} {D : va_G} {dA : Nat → ClassId} {ad : Nat → Nat} {al : Nat → Prop} {w : zW} {k : Int32 → zW → Prop} {x1 : Int32}   (hf : fX12_worthAt x1 w k) : zmetI l yX12_worthAt cX12_worthAt 5 (some .int) 1 [.ref (ad 200), .int x1] D dA true ad al w k := by
  refine zmetI_of (by decide) (Nat.le_of_ble_eq_true rfl) ?_
  intro p e R s m below meth c Q H ls args locs cells slots X hr hQ hR hl
  have hx := X.1
  have hb := X.2.1
  have hml := X.2.2.1
  have hown := X.2.2.2.1
  have hts := X.2.2.2.2.1
  unfold fX12_worthAt at hf
  have hl : lv_has ls 5 [(0, .ref (ad 200)), (1, .int x1)] := hl
  refine lv_iconst (v := (0 : Int32)) hx hb dX12_worthAt_0 (by decide) ?_
  refine lv_istore_n (lv' := [(2, .int (0 : Int32)), (0, .ref (ad 200)), (1, .int x1)]) hx hb dX12_worthAt_1 rfl hl (by decide) rfl (fun ls hl => ?_)
  refine lv_iload_n hx hb dX12_worthAt_2 rfl (lv_at hl 2 rfl) ?_
  refine lv_istore_n (lv' := [(3, .int x1), (2, .int (0 : Int32)), (0, .ref (ad 200)), (1, .int x1)]) hx hb dX12_worthAt_3 rfl hl (by decide) rfl (fun ls hl => ?_)
  obtain ⟨n9, hf⟩ := hf
  exact mX12_worthAt_L4 X hr hQ  n9 (0 : Int32) x1 w _ _ _ hf hR (lv_sub hl [2, 1, 0] rfl)
/-! X12_means -/
def fX12_means_J76 (k : Int32 → zW → Prop) (x1 : Int32) (x3 : Int32) (x4 : Int32) (t0 : Int32) (w : zW) : Prop :=
  ∀ w6 : zW, w6 = sI w 218 (0 : Int32).toNatClampNeg x3 →
  ∀ w7 : zW, w7 = sI w6 218 (1 : Int32).toNatClampNeg x4 →
  fX12_usesOf x1 w7 (fun r8 w8 =>
  ∀ w9 : zW, w9 = sI w8 218 (2 : Int32).toNatClampNeg r8 →
  ∀ w10 : zW, w10 = sI w9 218 (3 : Int32).toNatClampNeg x1 →
  ((t0 = 0 →
    k (0 : Int32) w10) ∧
   (¬ t0 = 0 →
    (((gI w10 210 (3 : Int32).toNatClampNeg) < 0 →
      k (1 : Int32) w10) ∧
     (¬ (gI w10 210 (3 : Int32).toNatClampNeg) < 0 →
      fX12_worthAt (gI w10 210 (3 : Int32).toNatClampNeg) w10 (fun r13 w13 =>
      ∀ v14 : Int32, v14 = (if r13 = 0 then (0 : Int32) else (1 : Int32)) →
      zb01 v14 ∧ k v14 w13))))))
set_option maxHeartbeats 4000000 in
set_option maxRecDepth 100000 in
theorem mX12_means_J76 {k : Int32 → zW → Prop} (X : zCx p s m args meth c cX12_means 7 RX12 (some .boolean)) (hr : zRm R 2 cells slots) (hQ : zRetZ p l e R s m args below meth c cells slots Q D dA true ad0 al0 ad al cX12_means k)  {x1 : Int32} {x3 : Int32} {x4 : Int32} {t0 : Int32} {w : zW} {H : Heap} {locs : List Loc} {ls : Array Slot} (hf : fX12_means_J76 k x1 x3 x4 t0 w) (hR : zSt D dA true ad0 al0 ad al w s H locs) (hl : lv_has ls 7 [(0, .ref (ad 200)), (1, .int x1), (3, .int x3), (4, .int x4)]) : W p l e R s m args below meth c H locs cells slots Q (F0 m 76 ls [.int t0]) := by
  have hx := X.1
  have hb := X.2.1
  have hml := X.2.2.1
  have hown := X.2.2.2.1
  have hts := X.2.2.2.2.1
  unfold fX12_means_J76 at hf
  refine lv_istore (lv' := [(6, .int t0), (0, .ref (ad 200)), (1, .int x1), (3, .int x3), (4, .int x4)]) hx hb dX12_means_76 hl (by decide) rfl (fun ls hl => ?_)
  refine lv_aload_n hx hb dX12_means_78 rfl (lv_at hl 1 rfl) ?_
  refine z_getS X hR (zlit hR zf_200) zs_200 (by decide) zfd_X12_97 rfl (r := 218) (by decide +kernel) dX12_means_79 ?_
  refine lv_iconst (v := (0 : Int32)) hx hb dX12_means_82 (by decide) ?_
  refine lv_iload_n hx hb dX12_means_83 rfl (lv_at hl 3 rfl) ?_
  refine z_iast X hR (zlit hR zf_218) zs_218 zl_218 (zin (by decide)) dX12_means_84 (fun H locs hR => ?_)
  obtain ⟨w6, hw6⟩ : ∃ z : zW, z = sI w 218 (0 : Int32).toNatClampNeg x3 := ⟨_, rfl⟩
  rw [← hw6] at hR
  replace hf := hf w6 hw6
  refine lv_aload_n hx hb dX12_means_85 rfl (lv_at hl 1 rfl) ?_
  refine z_getS X hR (zlit hR zf_200) zs_200 (by decide) zfd_X12_97 rfl (r := 218) (by decide +kernel) dX12_means_86 ?_
  refine lv_iconst (v := (1 : Int32)) hx hb dX12_means_89 (by decide) ?_
  refine lv_iload hx hb dX12_means_90 (lv_at hl 4 rfl) ?_
  refine z_iast X hR (zlit hR zf_218) zs_218 zl_218 (zin (by decide)) dX12_means_92 (fun H locs hR => ?_)
  obtain ⟨w7, hw7⟩ : ∃ z : zW, z = sI w6 218 (1 : Int32).toNatClampNeg x4 := ⟨_, rfl⟩
  rw [← hw7] at hR
  replace hf := hf w7 hw7
  refine lv_aload_n hx hb dX12_means_93 rfl (lv_at hl 1 rfl) ?_
  refine z_getS X hR (zlit hR zf_200) zs_200 (by decide) zfd_X12_97 rfl (r := 218) (by decide +kernel) dX12_means_94 ?_
  refine lv_iconst (v := (2 : Int32)) hx hb dX12_means_97 (by decide) ?_
  refine lv_aload_n hx hb dX12_means_98 rfl (lv_at hl 1 rfl) ?_
  refine lv_iload_n hx hb dX12_means_99 rfl (lv_at hl 2 rfl) ?_
  refine z_callVI (fr1 := 1) (b := 200) (As := [.int x1]) (rest := [.int (2 : Int32), .ref (ad 218)]) X (hr.le (by decide)) hR zy_X12_usesOf zq_219 (zlit hR zf_200) (by rw [zs_200]; rfl) rfl (mX12_usesOf  hf) rfl hl (Nat.le_of_ble_eq_true rfl) dX12_means_100 rfl (fun r8 w8 H locs hf hR => ?_)
  refine z_iast X hR (zlit hR zf_218) zs_218 zl_218 (zin (by decide)) dX12_means_103 (fun H locs hR => ?_)
  obtain ⟨w9, hw9⟩ : ∃ z : zW, z = sI w8 218 (2 : Int32).toNatClampNeg r8 := ⟨_, rfl⟩
  rw [← hw9] at hR
  replace hf := hf w9 hw9
  refine lv_aload_n hx hb dX12_means_104 rfl (lv_at hl 1 rfl) ?_
  refine z_getS X hR (zlit hR zf_200) zs_200 (by decide) zfd_X12_97 rfl (r := 218) (by decide +kernel) dX12_means_105 ?_
  refine lv_iconst (v := (3 : Int32)) hx hb dX12_means_108 (by decide) ?_
  refine lv_iload_n hx hb dX12_means_109 rfl (lv_at hl 2 rfl) ?_
  refine z_iast X hR (zlit hR zf_218) zs_218 zl_218 (zin (by decide)) dX12_means_110 (fun H locs hR => ?_)
  obtain ⟨w10, hw10⟩ : ∃ z : zW, z = sI w9 218 (3 : Int32).toNatClampNeg x1 := ⟨_, rfl⟩
  rw [← hw10] at hR
  replace hf := hf w10 hw10
  refine lv_iload hx hb dX12_means_111 (lv_at hl 0 rfl) ?_
  refine lv_if_eq (tgt := 142) hx hb dX12_means_113 (by decide) (fun c11 => ?_) (fun c11 => ?_)
  · replace hf := hf.1 c11
    refine lv_iconst (v := (0 : Int32)) hx hb dX12_means_142 (by decide) ?_
    exact hQ _ _ _ _ _ _ zb01_0 hf hR dX12_means_143
  · replace hf := hf.2 c11
    refine lv_aload_n hx hb dX12_means_116 rfl (lv_at hl 1 rfl) ?_
    refine z_getS X hR (zlit hR zf_200) zs_200 (by decide) zfd_X12_79 rfl (r := 210) (by decide +kernel) dX12_means_117 ?_
    refine lv_iconst (v := (3 : Int32)) hx hb dX12_means_120 (by decide) ?_
    refine z_iald X hR (zlit hR zf_210) zs_210 zl_210 (zin (by decide)) dX12_means_121 ?_
    refine lv_if_lt (tgt := 138) hx hb dX12_means_122 (by decide) (fun c12 => ?_) (fun c12 => ?_)
    · replace hf := hf.1 c12
      refine lv_iconst (v := (1 : Int32)) hx hb dX12_means_138 (by decide) ?_
      refine lv_goto (tgt := 143) hx hb dX12_means_139 (by decide) ?_
      exact hQ _ _ _ _ _ _ zb01_1 hf hR dX12_means_143
    · replace hf := hf.2 c12
      refine lv_aload_n hx hb dX12_means_125 rfl (lv_at hl 1 rfl) ?_
      refine lv_aload_n hx hb dX12_means_126 rfl (lv_at hl 1 rfl) ?_
      refine z_getS X hR (zlit hR zf_200) zs_200 (by decide) zfd_X12_79 rfl (r := 210) (by decide +kernel) dX12_means_127 ?_
      refine lv_iconst (v := (3 : Int32)) hx hb dX12_means_130 (by decide) ?_
      refine z_iald X hR (zlit hR zf_210) zs_210 zl_210 (zin (by decide)) dX12_means_131 ?_
      refine z_callVI (fr1 := 1) (b := 200) (As := [.int (gI w10 210 (3 : Int32).toNatClampNeg)]) (rest := []) X (hr.le (by decide)) hR zy_X12_worthAt zq_223 (zlit hR zf_200) (by rw [zs_200]; rfl) rfl (mX12_worthAt  hf) rfl hl (Nat.le_of_ble_eq_true rfl) dX12_means_132 rfl (fun r13 w13 H locs hf hR => ?_)
      have kJ14 : ∀ v14 : Int32, v14 = (if r13 = 0 then (0 : Int32) else (1 : Int32)) → W p l e R s m args below meth c H locs cells slots Q (F0 m 143 ls (.int v14 :: [])) := by
        intro v14 hv14
        replace hf := hf v14 hv14
        obtain ⟨h01, hf⟩ := hf
        exact hQ _ _ _ _ _ _ h01 hf hR dX12_means_143
      refine lv_if_eq (tgt := 142) hx hb dX12_means_135 (by decide) (fun c14 => ?_) (fun c14 => ?_)
      · refine lv_iconst (v := (0 : Int32)) hx hb dX12_means_142 (by decide) ?_
        exact kJ14 _ (if_pos c14).symm
      · refine lv_iconst (v := (1 : Int32)) hx hb dX12_means_138 (by decide) ?_
        refine lv_goto (tgt := 143) hx hb dX12_means_139 (by decide) ?_
        exact kJ14 _ (if_neg c14).symm
def fX12_means (x1 : Int32) (x2 : Int32) (w : zW) (k : Int32 → zW → Prop) : Prop :=
  ∀ v1 : Int32, v1 = x2 / (3 : Int32) →
  ∀ v2 : Int32, v2 = x2 % (3 : Int32) →
  vp_in ((4 : Int32) + x1) 60 ∧ 
  ∀ v4 : Int32, v4 = gI w 210 ((4 : Int32) + x1).toNatClampNeg →
  ∀ v5 : Int32, v5 = (if ¬ v4 = (1 : Int32) then (if ¬ v4 = (2 : Int32) then (if ¬ v4 = (3 : Int32) then (1 : Int32) else (if v1 ≤ v2 then (0 : Int32) else (1 : Int32))) else (if v2 ≤ v1 then (0 : Int32) else (1 : Int32))) else (if ¬ v2 = v1 then (0 : Int32) else (1 : Int32))) →
  fX12_means_J76 k x1 v1 v2 v5 w
set_option maxHeartbeats 4000000 in
set_option maxRecDepth 100000 in
theorem mX12_means {l : Launch} {D : va_G} {dA : Nat → ClassId} {ad : Nat → Nat} {al : Nat → Prop} {w : zW} {k : Int32 → zW → Prop} {x1 : Int32} {x2 : Int32}   (hf : fX12_means x1 x2 w k) : zmetI l yX12_means cX12_means 7 (some .boolean) 2 [.ref (ad 200), .int x1, .int x2] D dA true ad al w k := by
  refine zmetZ_of (by decide) (Nat.le_of_ble_eq_true rfl) ?_
  intro p e R s m below meth c Q H ls args locs cells slots X hr hQ hR hl
  have hx := X.1
  have hb := X.2.1
  have hml := X.2.2.1
  have hown := X.2.2.2.1
  have hts := X.2.2.2.2.1
  unfold fX12_means at hf
  have hl : lv_has ls 7 [(0, .ref (ad 200)), (1, .int x1), (2, .int x2)] := hl
  refine lv_iload_n hx hb dX12_means_0 rfl (lv_at hl 2 rfl) ?_
  refine lv_iconst (v := (3 : Int32)) hx hb dX12_means_1 (by decide) ?_
  refine lv_idiv hx hb dX12_means_2 (by decide) ?_
  refine lv_topi (fun v1 hv1 => ?_)
  replace hf := hf v1 hv1
  refine lv_istore_n (lv' := [(3, .int v1), (0, .ref (ad 200)), (1, .int x1), (2, .int x2)]) hx hb dX12_means_3 rfl hl (by decide) rfl (fun ls hl => ?_)
  refine lv_iload_n hx hb dX12_means_4 rfl (lv_at hl 3 rfl) ?_
  refine lv_iconst (v := (3 : Int32)) hx hb dX12_means_5 (by decide) ?_
  refine z_irem X dX12_means_6 (by decide) ?_
  refine lv_topi (fun v2 hv2 => ?_)
  replace hf := hf v2 hv2
  refine lv_istore (lv' := [(4, .int v2), (3, .int v1), (0, .ref (ad 200)), (1, .int x1), (2, .int x2)]) hx hb dX12_means_7 hl (by decide) rfl (fun ls hl => ?_)
  refine lv_aload_n hx hb dX12_means_9 rfl (lv_at hl 2 rfl) ?_
  refine z_getS X hR (zlit hR zf_200) zs_200 (by decide) zfd_X12_79 rfl (r := 210) (by decide +kernel) dX12_means_10 ?_
  refine lv_iconst (v := (4 : Int32)) hx hb dX12_means_13 (by decide) ?_
  refine lv_iload_n hx hb dX12_means_14 rfl (lv_at hl 3 rfl) ?_
  refine lv_iadd hx hb dX12_means_15 ?_
  obtain ⟨hb3, hf⟩ := hf
  refine z_iald X hR (zlit hR zf_210) zs_210 zl_210 hb3 dX12_means_16 ?_
  refine lv_topi (fun v4 hv4 => ?_)
  replace hf := hf v4 hv4
  refine lv_istore (lv' := [(5, .int v4), (4, .int v2), (3, .int v1), (0, .ref (ad 200)), (1, .int x1), (2, .int x2)]) hx hb dX12_means_17 hl (by decide) rfl (fun ls hl => ?_)
  refine lv_iload hx hb dX12_means_19 (lv_at hl 0 rfl) ?_
  refine lv_iconst (v := (1 : Int32)) hx hb dX12_means_21 (by decide) ?_
  have kJ5 : ∀ v5 : Int32, v5 = (if ¬ v4 = (1 : Int32) then (if ¬ v4 = (2 : Int32) then (if ¬ v4 = (3 : Int32) then (1 : Int32) else (if v1 ≤ v2 then (0 : Int32) else (1 : Int32))) else (if v2 ≤ v1 then (0 : Int32) else (1 : Int32))) else (if ¬ v2 = v1 then (0 : Int32) else (1 : Int32))) → W p l e R s m args below meth c H locs cells slots Q (F0 m 76 ls (.int v5 :: [])) := by
    intro v5 hv5
    replace hf := hf v5 hv5
    exact mX12_means_J76 X hr hQ  hf hR (lv_sub hl [3, 4, 2, 1] rfl)
  refine lv_icmp_ne (tgt := 39) hx hb dX12_means_22 (by decide) (fun c5 => ?_) (fun c5 => ?_)
  · refine lv_iload hx hb dX12_means_39 (lv_at hl 0 rfl) ?_
    refine lv_iconst (v := (2 : Int32)) hx hb dX12_means_41 (by decide) ?_
    refine lv_icmp_ne (tgt := 59) hx hb dX12_means_42 (by decide) (fun c15 => ?_) (fun c15 => ?_)
    · refine lv_iload hx hb dX12_means_59 (lv_at hl 0 rfl) ?_
      refine lv_iconst (v := (3 : Int32)) hx hb dX12_means_61 (by decide) ?_
      refine lv_icmp_ne (tgt := 71) hx hb dX12_means_62 (by decide) (fun c16 => ?_) (fun c16 => ?_)
      · refine lv_iconst (v := (1 : Int32)) hx hb dX12_means_71 (by decide) ?_
        refine lv_goto (tgt := 76) hx hb dX12_means_72 (by decide) ?_
        exact kJ5 _ ((if_pos c5).trans ((if_pos c15).trans (if_pos c16))).symm
      · refine lv_iload hx hb dX12_means_65 (lv_at hl 1 rfl) ?_
        refine lv_iload_n hx hb dX12_means_67 rfl (lv_at hl 2 rfl) ?_
        refine lv_icmp_ge (tgt := 75) hx hb dX12_means_68 (by decide) (fun c17 => ?_) (fun c17 => ?_)
        · refine lv_iconst (v := (0 : Int32)) hx hb dX12_means_75 (by decide) ?_
          exact kJ5 _ ((if_pos c5).trans ((if_pos c15).trans ((if_neg (fun h9 => h9 c16)).trans (if_pos c17)))).symm
        · refine lv_iconst (v := (1 : Int32)) hx hb dX12_means_71 (by decide) ?_
          refine lv_goto (tgt := 76) hx hb dX12_means_72 (by decide) ?_
          exact kJ5 _ ((if_pos c5).trans ((if_pos c15).trans ((if_neg (fun h9 => h9 c16)).trans (if_neg c17)))).symm
    · refine lv_iload hx hb dX12_means_45 (lv_at hl 1 rfl) ?_
      refine lv_iload_n hx hb dX12_means_47 rfl (lv_at hl 2 rfl) ?_
      refine lv_icmp_le (tgt := 55) hx hb dX12_means_48 (by decide) (fun c18 => ?_) (fun c18 => ?_)
      · refine lv_iconst (v := (0 : Int32)) hx hb dX12_means_55 (by decide) ?_
        refine lv_goto (tgt := 76) hx hb dX12_means_56 (by decide) ?_
        exact kJ5 _ ((if_pos c5).trans ((if_neg (fun h9 => h9 c15)).trans (if_pos c18))).symm
      · refine lv_iconst (v := (1 : Int32)) hx hb dX12_means_51 (by decide) ?_
        refine lv_goto (tgt := 76) hx hb dX12_means_52 (by decide) ?_
        exact kJ5 _ ((if_pos c5).trans ((if_neg (fun h9 => h9 c15)).trans (if_neg c18))).symm
  · refine lv_iload hx hb dX12_means_25 (lv_at hl 1 rfl) ?_
    refine lv_iload_n hx hb dX12_means_27 rfl (lv_at hl 2 rfl) ?_
    refine lv_icmp_ne (tgt := 35) hx hb dX12_means_28 (by decide) (fun c19 => ?_) (fun c19 => ?_)
    · refine lv_iconst (v := (0 : Int32)) hx hb dX12_means_35 (by decide) ?_
      refine lv_goto (tgt := 76) hx hb dX12_means_36 (by decide) ?_
      exact kJ5 _ ((if_neg (fun h9 => h9 c5)).trans (if_pos c19)).symm
    · refine lv_iconst (v := (1 : Int32)) hx hb dX12_means_31 (by decide) ?_
      refine lv_goto (tgt := 76) hx hb dX12_means_32 (by decide) ?_
      exact kJ5 _ ((if_neg (fun h9 => h9 c5)).trans (if_neg (fun h9 => h9 c19))).symm
/-! X12_wordsTold -/
def fX12_wordsTold (w : zW) (k : Int32 → zW → Prop) : Prop :=
  k (gI w 210 (0 : Int32).toNatClampNeg) w
set_option maxHeartbeats 4000000 in
set_option maxRecDepth 100000 in
theorem mX12_wordsTold {l : Launch} {D : va_G} {dA : Nat → ClassId} {ad : Nat → Nat} {al : Nat → Prop} {w : zW} {k : Int32 → zW → Prop}   (hf : fX12_wordsTold w k) : zmetI l yX12_wordsTold cX12_wordsTold 1 (some .int) 0 [.ref (ad 200)] D dA true ad al w k := by
  refine zmetI_of (by decide) (Nat.le_of_ble_eq_true rfl) ?_
  intro p e R s m below meth c Q H ls args locs cells slots X hr hQ hR hl
  have hx := X.1
  have hb := X.2.1
  have hml := X.2.2.1
  have hown := X.2.2.2.1
  have hts := X.2.2.2.2.1
  unfold fX12_wordsTold at hf
  have hl : lv_has ls 1 [(0, .ref (ad 200))] := hl
  refine lv_aload_n hx hb dX12_wordsTold_0 rfl (lv_at hl 0 rfl) ?_
  refine z_getS X hR (zlit hR zf_200) zs_200 (by decide) zfd_X12_79 rfl (r := 210) (by decide +kernel) dX12_wordsTold_1 ?_
  refine lv_iconst (v := (0 : Int32)) hx hb dX12_wordsTold_4 (by decide) ?_
  refine z_iald X hR (zlit hR zf_210) zs_210 zl_210 (zin (by decide)) dX12_wordsTold_5 ?_
  exact hQ _ _ _ _ _ _ hf hR dX12_wordsTold_6
/-! X12_begins -/
def fX12_begins_L186 (k : zW → Prop) : Nat → Int32 → zW → Prop
  | 0 => fun _ _ => False
  | n + 1 => fun x1 w =>
    (((4 : Int32) ≤ x1 →
      k w) ∧
     (¬ (4 : Int32) ≤ x1 →
      vp_in x1 4 ∧ 
      ∀ w10 : zW, w10 = sI w 222 x1.toNatClampNeg ((0 : Int32) &&& 1) →
      fX12_begins_L186 k n (x1 + (1 : Int32)) w10))
set_option maxHeartbeats 4000000 in
set_option maxRecDepth 100000 in
theorem mX12_begins_L186 {k : zW → Prop} (X : zCx p s m args meth c cX12_begins 3 RX12 none) (hr : zRm R 3 cells slots) (hQ : zRetV p l e R s m args below meth c cells slots Q D dA true ad0 al0 ad al cX12_begins k)  : ∀ (n : Nat) (x1 : Int32) (w : zW) (H : Heap) (locs : List Loc) (ls : Array Slot), fX12_begins_L186 k n x1 w → zSt D dA true ad0 al0 ad al w s H locs → lv_has ls 3 [(0, .ref (ad 200)), (1, .int x1)] → W p l e R s m args below meth c H locs cells slots Q (F0 m 186 ls []) := by
  intro n
  induction n with
  | zero => exact fun _ _ _ _ _ hf => hf.elim
  | succ n ih =>
    intro x1 w H locs ls hf hR hl
    have hx := X.1
    have hb := X.2.1
    have hml := X.2.2.1
    have hown := X.2.2.2.1
    have hts := X.2.2.2.2.1
    rw [fX12_begins_L186] at hf
    refine lv_iload_n hx hb dX12_begins_186 rfl (lv_at hl 1 rfl) ?_
    refine lv_iconst (v := (4 : Int32)) hx hb dX12_begins_187 (by decide) ?_
    refine lv_icmp_ge (tgt := 204) hx hb dX12_begins_188 (by decide) (fun c8 => ?_) (fun c8 => ?_)
    · replace hf := hf.1 c8
      exact hQ _ _ _ _ _ hf hR dX12_begins_204
    · replace hf := hf.2 c8
      refine lv_aload_n hx hb dX12_begins_191 rfl (lv_at hl 0 rfl) ?_
      refine z_getS X hR (zlit hR zf_200) zs_200 (by decide) zfd_X12_106 rfl (r := 222) (by decide +kernel) dX12_begins_192 ?_
      refine lv_iload_n hx hb dX12_begins_195 rfl (lv_at hl 1 rfl) ?_
      refine lv_iconst (v := (0 : Int32)) hx hb dX12_begins_196 (by decide) ?_
      obtain ⟨hb9, hf⟩ := hf
      refine z_zast X hR (zlit hR zf_222) zs_222 zl_222 hb9 dX12_begins_197 (fun H locs hR => ?_)
      obtain ⟨w10, hw10⟩ : ∃ z : zW, z = sI w 222 x1.toNatClampNeg ((0 : Int32) &&& 1) := ⟨_, rfl⟩
      rw [← hw10] at hR
      replace hf := hf w10 hw10
      refine lv_iinc (v := x1 + (1 : Int32)) (lv' := [(1, .int (x1 + (1 : Int32))), (0, .ref (ad 200))]) hx hb dX12_begins_198 hl (k := 1) rfl rfl (by decide) rfl (fun ls hl => ?_)
      refine lv_goto (tgt := 186) hx hb dX12_begins_201 (by decide) ?_
      exact ih (x1 + (1 : Int32)) w10 _ _ _ hf hR (lv_sub hl [1, 0] rfl)
def fX12_begins_J154 (k : zW → Prop) (g75 : Int32 → zW → Prop) (g89 : Int32 → Int32 → zW → Prop) (x1 : Int32) (x2 : Int32) (t0 : Int32) (t1 : Int32) (t2 : Int32) (w : zW) : Prop :=
  vp_in t2 4 ∧ 
  ∀ w22 : zW, w22 = sI w 224 t2.toNatClampNeg (t1 + t0) →
  g89 x1 (x2 + (1 : Int32)) w22
set_option maxHeartbeats 4000000 in
set_option maxRecDepth 100000 in
theorem mX12_begins_J154 {k : zW → Prop} {g75 : Int32 → zW → Prop} {g89 : Int32 → Int32 → zW → Prop} (X : zCx p s m args meth c cX12_begins 3 RX12 none) (hr : zRm R 3 cells slots) (hQ : zRetV p l e R s m args below meth c cells slots Q D dA true ad0 al0 ad al cX12_begins k) (hg75 : ∀ (x1 : Int32) (w : zW) (H : Heap) (locs : List Loc) (ls : Array Slot), g75 x1 w → zSt D dA true ad0 al0 ad al w s H locs → lv_has ls 3 [(0, .ref (ad 200)), (1, .int x1)] → W p l e R s m args below meth c H locs cells slots Q (F0 m 75 ls [])) (hg89 : ∀ (x1 : Int32) (x2 : Int32) (w : zW) (H : Heap) (locs : List Loc) (ls : Array Slot), g89 x1 x2 w → zSt D dA true ad0 al0 ad al w s H locs → lv_has ls 3 [(0, .ref (ad 200)), (1, .int x1), (2, .int x2)] → W p l e R s m args below meth c H locs cells slots Q (F0 m 89 ls [])) {x1 : Int32} {x2 : Int32} {t0 : Int32} {t1 : Int32} {t2 : Int32} {w : zW} {H : Heap} {locs : List Loc} {ls : Array Slot} (hf : fX12_begins_J154 k g75 g89 x1 x2 t0 t1 t2 w) (hR : zSt D dA true ad0 al0 ad al w s H locs) (hl : lv_has ls 3 [(0, .ref (ad 200)), (1, .int x1), (2, .int x2)]) : W p l e R s m args below meth c H locs cells slots Q (F0 m 154 ls [.int t0, .int t1, .int t2, .ref (ad 224)]) := by
  have hx := X.1
  have hb := X.2.1
  have hml := X.2.2.1
  have hown := X.2.2.2.1
  have hts := X.2.2.2.2.1
  unfold fX12_begins_J154 at hf
  refine lv_iadd hx hb dX12_begins_154 ?_
  obtain ⟨hb21, hf⟩ := hf
  refine z_iast X hR (zlit hR zf_224) zs_224 zl_224 hb21 dX12_begins_155 (fun H locs hR => ?_)
  obtain ⟨w22, hw22⟩ : ∃ z : zW, z = sI w 224 t2.toNatClampNeg (t1 + t0) := ⟨_, rfl⟩
  rw [← hw22] at hR
  replace hf := hf w22 hw22
  refine lv_iinc (v := x2 + (1 : Int32)) (lv' := [(2, .int (x2 + (1 : Int32))), (0, .ref (ad 200)), (1, .int x1)]) hx hb dX12_begins_156 hl (k := 2) rfl rfl (by decide) rfl (fun ls hl => ?_)
  refine lv_goto (tgt := 89) hx hb dX12_begins_159 (by decide) ?_
  exact hg89 x1 (x2 + (1 : Int32)) w22 _ _ _ hf hR (lv_sub hl [1, 2, 0] rfl)
def fX12_begins_J127 (k : zW → Prop) (g75 : Int32 → zW → Prop) (g89 : Int32 → Int32 → zW → Prop) (x1 : Int32) (x2 : Int32) (t0 : Int32) (t1 : Int32) (w : zW) : Prop :=
  vp_in t1 36 ∧ 
  ∀ w17 : zW, w17 = sI w 223 t1.toNatClampNeg (t0 &&& 1) →
  vp_in x1 4 ∧ 
  vp_in (((9 : Int32) * x1) + x2) 36 ∧ 
  ∀ v20 : Int32, v20 = (if (gI w17 223 (((9 : Int32) * x1) + x2).toNatClampNeg) = 0 then (0 : Int32) else (1 : Int32)) →
  fX12_begins_J154 k g75 g89 x1 x2 v20 (gI w17 224 x1.toNatClampNeg) x1 w17
set_option maxHeartbeats 4000000 in
set_option maxRecDepth 100000 in
theorem mX12_begins_J127 {k : zW → Prop} {g75 : Int32 → zW → Prop} {g89 : Int32 → Int32 → zW → Prop} (X : zCx p s m args meth c cX12_begins 3 RX12 none) (hr : zRm R 3 cells slots) (hQ : zRetV p l e R s m args below meth c cells slots Q D dA true ad0 al0 ad al cX12_begins k) (hg75 : ∀ (x1 : Int32) (w : zW) (H : Heap) (locs : List Loc) (ls : Array Slot), g75 x1 w → zSt D dA true ad0 al0 ad al w s H locs → lv_has ls 3 [(0, .ref (ad 200)), (1, .int x1)] → W p l e R s m args below meth c H locs cells slots Q (F0 m 75 ls [])) (hg89 : ∀ (x1 : Int32) (x2 : Int32) (w : zW) (H : Heap) (locs : List Loc) (ls : Array Slot), g89 x1 x2 w → zSt D dA true ad0 al0 ad al w s H locs → lv_has ls 3 [(0, .ref (ad 200)), (1, .int x1), (2, .int x2)] → W p l e R s m args below meth c H locs cells slots Q (F0 m 89 ls [])) {x1 : Int32} {x2 : Int32} {t0 : Int32} {t1 : Int32} {w : zW} {H : Heap} {locs : List Loc} {ls : Array Slot} (hf : fX12_begins_J127 k g75 g89 x1 x2 t0 t1 w) (hR : zSt D dA true ad0 al0 ad al w s H locs) (hl : lv_has ls 3 [(0, .ref (ad 200)), (1, .int x1), (2, .int x2)]) : W p l e R s m args below meth c H locs cells slots Q (F0 m 127 ls [.int t0, .int t1, .ref (ad 223)]) := by
  have hx := X.1
  have hb := X.2.1
  have hml := X.2.2.1
  have hown := X.2.2.2.1
  have hts := X.2.2.2.2.1
  unfold fX12_begins_J127 at hf
  obtain ⟨hb16, hf⟩ := hf
  refine z_zast X hR (zlit hR zf_223) zs_223 zl_223 hb16 dX12_begins_127 (fun H locs hR => ?_)
  obtain ⟨w17, hw17⟩ : ∃ z : zW, z = sI w 223 t1.toNatClampNeg (t0 &&& 1) := ⟨_, rfl⟩
  rw [← hw17] at hR
  replace hf := hf w17 hw17
  refine lv_aload_n hx hb dX12_begins_128 rfl (lv_at hl 0 rfl) ?_
  refine z_getS X hR (zlit hR zf_200) zs_200 (by decide) zfd_X12_113 rfl (r := 224) (by decide +kernel) dX12_begins_129 ?_
  refine lv_iload_n hx hb dX12_begins_132 rfl (lv_at hl 1 rfl) ?_
  refine lv_dup2_11 hx hb dX12_begins_133 rfl rfl ?_
  obtain ⟨hb18, hf⟩ := hf
  refine z_iald X hR (zlit hR zf_224) zs_224 zl_224 hb18 dX12_begins_134 ?_
  refine lv_aload_n hx hb dX12_begins_135 rfl (lv_at hl 0 rfl) ?_
  refine z_getS X hR (zlit hR zf_200) zs_200 (by decide) zfd_X12_110 rfl (r := 223) (by decide +kernel) dX12_begins_136 ?_
  refine lv_bipush (v := (9 : Int32)) hx hb dX12_begins_139 (by decide) ?_
  refine lv_iload_n hx hb dX12_begins_141 rfl (lv_at hl 1 rfl) ?_
  refine lv_imul hx hb dX12_begins_142 ?_
  refine lv_iload_n hx hb dX12_begins_143 rfl (lv_at hl 2 rfl) ?_
  refine lv_iadd hx hb dX12_begins_144 ?_
  obtain ⟨hb19, hf⟩ := hf
  refine z_zald X hR (zlit hR zf_223) zs_223 zl_223 hb19 dX12_begins_145 ?_
  have kJ20 : ∀ v20 : Int32, v20 = (if (gI w17 223 (((9 : Int32) * x1) + x2).toNatClampNeg) = 0 then (0 : Int32) else (1 : Int32)) → W p l e R s m args below meth c H locs cells slots Q (F0 m 154 ls (.int v20 :: .int (gI w17 224 x1.toNatClampNeg) :: .int x1 :: .ref (ad 224) :: [])) := by
    intro v20 hv20
    replace hf := hf v20 hv20
    exact mX12_begins_J154 X hr hQ hg75 hg89 hf hR (lv_sub hl [0, 1, 2] rfl)
  refine lv_if_eq (tgt := 153) hx hb dX12_begins_146 (by decide) (fun c20 => ?_) (fun c20 => ?_)
  · refine lv_iconst (v := (0 : Int32)) hx hb dX12_begins_153 (by decide) ?_
    exact kJ20 _ (if_pos c20).symm
  · refine lv_iconst (v := (1 : Int32)) hx hb dX12_begins_149 (by decide) ?_
    refine lv_goto (tgt := 154) hx hb dX12_begins_150 (by decide) ?_
    exact kJ20 _ (if_neg c20).symm
def fX12_begins_L89 (k : zW → Prop) (g75 : Int32 → zW → Prop) : Nat → Int32 → Int32 → zW → Prop
  | 0 => fun _ _ _ => False
  | n + 1 => fun x1 x2 w =>
    (((9 : Int32) ≤ x2 →
      g75 (x1 + (1 : Int32)) w) ∧
     (¬ (9 : Int32) ≤ x2 →
      fX12_wordsTold  w (fun r14 w14 =>
      ((r14 ≤ x1 →
        fX12_begins_J127 k g75 (fX12_begins_L89 k g75 n) x1 x2 (0 : Int32) (((9 : Int32) * x1) + x2) w14) ∧
       (¬ r14 ≤ x1 →
        fX12_means x1 x2 w14 (fun r23 w23 =>
        ∀ v24 : Int32, v24 = (if r23 = 0 then (0 : Int32) else (1 : Int32)) →
        fX12_begins_J127 k g75 (fX12_begins_L89 k g75 n) x1 x2 v24 (((9 : Int32) * x1) + x2) w23))))))
set_option maxHeartbeats 4000000 in
set_option maxRecDepth 100000 in
theorem mX12_begins_L89 {k : zW → Prop} {g75 : Int32 → zW → Prop} (X : zCx p s m args meth c cX12_begins 3 RX12 none) (hr : zRm R 3 cells slots) (hQ : zRetV p l e R s m args below meth c cells slots Q D dA true ad0 al0 ad al cX12_begins k) (hg75 : ∀ (x1 : Int32) (w : zW) (H : Heap) (locs : List Loc) (ls : Array Slot), g75 x1 w → zSt D dA true ad0 al0 ad al w s H locs → lv_has ls 3 [(0, .ref (ad 200)), (1, .int x1)] → W p l e R s m args below meth c H locs cells slots Q (F0 m 75 ls [])) : ∀ (n : Nat) (x1 : Int32) (x2 : Int32) (w : zW) (H : Heap) (locs : List Loc) (ls : Array Slot), fX12_begins_L89 k g75 n x1 x2 w → zSt D dA true ad0 al0 ad al w s H locs → lv_has ls 3 [(0, .ref (ad 200)), (1, .int x1), (2, .int x2)] → W p l e R s m args below meth c H locs cells slots Q (F0 m 89 ls []) := by
  intro n
  induction n with
  | zero => exact fun _ _ _ _ _ _ hf => hf.elim
  | succ n ih =>
    intro x1 x2 w H locs ls hf hR hl
    have hx := X.1
    have hb := X.2.1
    have hml := X.2.2.1
    have hown := X.2.2.2.1
    have hts := X.2.2.2.2.1
    rw [fX12_begins_L89] at hf
    refine lv_iload_n hx hb dX12_begins_89 rfl (lv_at hl 2 rfl) ?_
    refine lv_bipush (v := (9 : Int32)) hx hb dX12_begins_90 (by decide) ?_
    refine lv_icmp_ge (tgt := 162) hx hb dX12_begins_92 (by decide) (fun c13 => ?_) (fun c13 => ?_)
    · replace hf := hf.1 c13
      refine lv_iinc (v := x1 + (1 : Int32)) (lv' := [(1, .int (x1 + (1 : Int32))), (0, .ref (ad 200)), (2, .int x2)]) hx hb dX12_begins_162 hl (k := 1) rfl rfl (by decide) rfl (fun ls hl => ?_)
      refine lv_goto (tgt := 75) hx hb dX12_begins_165 (by decide) ?_
      exact hg75 (x1 + (1 : Int32)) w _ _ _ hf hR (lv_sub hl [1, 0] rfl)
    · replace hf := hf.2 c13
      refine lv_aload_n hx hb dX12_begins_95 rfl (lv_at hl 0 rfl) ?_
      refine z_getS X hR (zlit hR zf_200) zs_200 (by decide) zfd_X12_110 rfl (r := 223) (by decide +kernel) dX12_begins_96 ?_
      refine lv_bipush (v := (9 : Int32)) hx hb dX12_begins_99 (by decide) ?_
      refine lv_iload_n hx hb dX12_begins_101 rfl (lv_at hl 1 rfl) ?_
      refine lv_imul hx hb dX12_begins_102 ?_
      refine lv_iload_n hx hb dX12_begins_103 rfl (lv_at hl 2 rfl) ?_
      refine lv_iadd hx hb dX12_begins_104 ?_
      refine lv_iload_n hx hb dX12_begins_105 rfl (lv_at hl 1 rfl) ?_
      refine lv_aload_n hx hb dX12_begins_106 rfl (lv_at hl 0 rfl) ?_
      refine z_callVI (fr1 := 0) (b := 200) (As := []) (rest := [.int x1, .int (((9 : Int32) * x1) + x2), .ref (ad 223)]) X (hr.le (by decide)) hR zy_X12_wordsTold zq_211 (zlit hR zf_200) (by rw [zs_200]; rfl) rfl (mX12_wordsTold  hf) rfl hl (Nat.le_of_ble_eq_true rfl) dX12_begins_107 rfl (fun r14 w14 H locs hf hR => ?_)
      refine lv_icmp_ge (tgt := 126) hx hb dX12_begins_110 (by decide) (fun c15 => ?_) (fun c15 => ?_)
      · replace hf := hf.1 c15
        refine lv_iconst (v := (0 : Int32)) hx hb dX12_begins_126 (by decide) ?_
        exact mX12_begins_J127 X hr hQ hg75 ih hf hR (lv_sub hl [0, 1, 2] rfl)
      · replace hf := hf.2 c15
        refine lv_aload_n hx hb dX12_begins_113 rfl (lv_at hl 0 rfl) ?_
        refine lv_iload_n hx hb dX12_begins_114 rfl (lv_at hl 1 rfl) ?_
        refine lv_iload_n hx hb dX12_begins_115 rfl (lv_at hl 2 rfl) ?_
        refine z_callVI (fr1 := 2) (b := 200) (As := [.int x1, .int x2]) (rest := [.int (((9 : Int32) * x1) + x2), .ref (ad 223)]) X (hr.le (by decide)) hR zy_X12_means zq_215 (zlit hR zf_200) (by rw [zs_200]; rfl) rfl (mX12_means  hf) rfl hl (Nat.le_of_ble_eq_true rfl) dX12_begins_116 rfl (fun r23 w23 H locs hf hR => ?_)
        have kJ24 : ∀ v24 : Int32, v24 = (if r23 = 0 then (0 : Int32) else (1 : Int32)) → W p l e R s m args below meth c H locs cells slots Q (F0 m 127 ls (.int v24 :: .int (((9 : Int32) * x1) + x2) :: .ref (ad 223) :: [])) := by
          intro v24 hv24
          replace hf := hf v24 hv24
          exact mX12_begins_J127 X hr hQ hg75 ih hf hR (lv_sub hl [0, 1, 2] rfl)
        refine lv_if_eq (tgt := 126) hx hb dX12_begins_119 (by decide) (fun c24 => ?_) (fun c24 => ?_)
        · refine lv_iconst (v := (0 : Int32)) hx hb dX12_begins_126 (by decide) ?_
          exact kJ24 _ (if_pos c24).symm
        · refine lv_iconst (v := (1 : Int32)) hx hb dX12_begins_122 (by decide) ?_
          refine lv_goto (tgt := 127) hx hb dX12_begins_123 (by decide) ?_
          exact kJ24 _ (if_neg c24).symm
def fX12_begins_L75 (k : zW → Prop) : Nat → Int32 → zW → Prop
  | 0 => fun _ _ => False
  | n + 1 => fun x1 w =>
    (((4 : Int32) ≤ x1 →
      fX12_forgets  w (fun w5 =>
      ∀ w6 : zW, w6 = sI w5 217 (0 : Int32).toNatClampNeg (0 : Int32) →
      ∀ w7 : zW, w7 = sI w6 200 21 (0 : Int32) →
      ∃ n9, fX12_begins_L186 k n9 (0 : Int32) w7)) ∧
     (¬ (4 : Int32) ≤ x1 →
      vp_in x1 4 ∧ 
      ∀ w12 : zW, w12 = sI w 224 x1.toNatClampNeg (0 : Int32) →
      ∃ n9, fX12_begins_L89 k (fX12_begins_L75 k n) n9 x1 (0 : Int32) w12))
set_option maxHeartbeats 4000000 in
set_option maxRecDepth 100000 in
theorem mX12_begins_L75 {k : zW → Prop} (X : zCx p s m args meth c cX12_begins 3 RX12 none) (hr : zRm R 3 cells slots) (hQ : zRetV p l e R s m args below meth c cells slots Q D dA true ad0 al0 ad al cX12_begins k)  : ∀ (n : Nat) (x1 : Int32) (w : zW) (H : Heap) (locs : List Loc) (ls : Array Slot), fX12_begins_L75 k n x1 w → zSt D dA true ad0 al0 ad al w s H locs → lv_has ls 3 [(0, .ref (ad 200)), (1, .int x1)] → W p l e R s m args below meth c H locs cells slots Q (F0 m 75 ls []) := by
  intro n
  induction n with
  | zero => exact fun _ _ _ _ _ hf => hf.elim
  | succ n ih =>
    intro x1 w H locs ls hf hR hl
    have hx := X.1
    have hb := X.2.1
    have hml := X.2.2.1
    have hown := X.2.2.2.1
    have hts := X.2.2.2.2.1
    rw [fX12_begins_L75] at hf
    refine lv_iload_n hx hb dX12_begins_75 rfl (lv_at hl 1 rfl) ?_
    refine lv_iconst (v := (4 : Int32)) hx hb dX12_begins_76 (by decide) ?_
    refine lv_icmp_ge (tgt := 168) hx hb dX12_begins_77 (by decide) (fun c4 => ?_) (fun c4 => ?_)
    · replace hf := hf.1 c4
      refine lv_aload_n hx hb dX12_begins_168 rfl (lv_at hl 0 rfl) ?_
      refine z_callVV (fr1 := 0) (b := 200) (As := []) (rest := []) X (hr.le (by decide)) hR zy_X12_forgets zq_230 (zlit hR zf_200) (by rw [zs_200]; rfl) rfl (mX12_forgets  hf) rfl hl (Nat.le_of_ble_eq_true rfl) dX12_begins_169 rfl (fun w5 H locs hf hR => ?_)
      refine lv_aload_n hx hb dX12_begins_172 rfl (lv_at hl 0 rfl) ?_
      refine z_getS X hR (zlit hR zf_200) zs_200 (by decide) zfd_X12_94 rfl (r := 217) (by decide +kernel) dX12_begins_173 ?_
      refine lv_iconst (v := (0 : Int32)) hx hb dX12_begins_176 (by decide) ?_
      refine lv_iconst (v := (0 : Int32)) hx hb dX12_begins_177 (by decide) ?_
      refine z_iast X hR (zlit hR zf_217) zs_217 zl_217 (zin (by decide)) dX12_begins_178 (fun H locs hR => ?_)
      obtain ⟨w6, hw6⟩ : ∃ z : zW, z = sI w5 217 (0 : Int32).toNatClampNeg (0 : Int32) := ⟨_, rfl⟩
      rw [← hw6] at hR
      replace hf := hf w6 hw6
      refine lv_aload_n hx hb dX12_begins_179 rfl (lv_at hl 0 rfl) ?_
      refine lv_iconst (v := (0 : Int32)) hx hb dX12_begins_180 (by decide) ?_
      refine z_putI X hR (zlit hR zf_200) zs_200 (by decide) zfp_X12_305 rfl dX12_begins_181 (fun H locs hR => ?_)
      obtain ⟨w7, hw7⟩ : ∃ z : zW, z = sI w6 200 21 (0 : Int32) := ⟨_, rfl⟩
      rw [← hw7] at hR
      replace hf := hf w7 hw7
      refine lv_iconst (v := (0 : Int32)) hx hb dX12_begins_184 (by decide) ?_
      refine lv_istore_n (lv' := [(1, .int (0 : Int32)), (0, .ref (ad 200))]) hx hb dX12_begins_185 rfl hl (by decide) rfl (fun ls hl => ?_)
      obtain ⟨n9, hf⟩ := hf
      exact mX12_begins_L186 X hr hQ  n9 (0 : Int32) w7 _ _ _ hf hR (lv_sub hl [1, 0] rfl)
    · replace hf := hf.2 c4
      refine lv_aload_n hx hb dX12_begins_80 rfl (lv_at hl 0 rfl) ?_
      refine z_getS X hR (zlit hR zf_200) zs_200 (by decide) zfd_X12_113 rfl (r := 224) (by decide +kernel) dX12_begins_81 ?_
      refine lv_iload_n hx hb dX12_begins_84 rfl (lv_at hl 1 rfl) ?_
      refine lv_iconst (v := (0 : Int32)) hx hb dX12_begins_85 (by decide) ?_
      obtain ⟨hb11, hf⟩ := hf
      refine z_iast X hR (zlit hR zf_224) zs_224 zl_224 hb11 dX12_begins_86 (fun H locs hR => ?_)
      obtain ⟨w12, hw12⟩ : ∃ z : zW, z = sI w 224 x1.toNatClampNeg (0 : Int32) := ⟨_, rfl⟩
      rw [← hw12] at hR
      replace hf := hf w12 hw12
      refine lv_iconst (v := (0 : Int32)) hx hb dX12_begins_87 (by decide) ?_
      refine lv_istore_n (lv' := [(2, .int (0 : Int32)), (0, .ref (ad 200)), (1, .int x1)]) hx hb dX12_begins_88 rfl hl (by decide) rfl (fun ls hl => ?_)
      obtain ⟨n9, hf⟩ := hf
      exact mX12_begins_L89 X hr hQ ih n9 x1 (0 : Int32) w12 _ _ _ hf hR (lv_sub hl [1, 2, 0] rfl)
def fX12_begins_L33 (k : zW → Prop) (g23 : Int32 → zW → Prop) : Nat → Int32 → Int32 → zW → Prop
  | 0 => fun _ _ _ => False
  | n + 1 => fun x1 x2 w =>
    fX12_longOf x1 w (fun r25 w25 =>
    ((r25 ≤ x2 →
      g23 (x1 + (1 : Int32)) w25) ∧
     (¬ r25 ≤ x2 →
      fX12_itemOf x1 x2 w25 (fun r27 w27 =>
      vp_in (((4 : Int32) * x1) + r27) 32 ∧ 
      ∀ w29 : zW, w29 = sI w27 225 (((4 : Int32) * x1) + r27).toNatClampNeg ((gI w27 225 (((4 : Int32) * x1) + r27).toNatClampNeg) + (1 : Int32)) →
      fX12_begins_L33 k g23 n x1 (x2 + (1 : Int32)) w29))))
set_option maxHeartbeats 4000000 in
set_option maxRecDepth 100000 in
theorem mX12_begins_L33 {k : zW → Prop} {g23 : Int32 → zW → Prop} (X : zCx p s m args meth c cX12_begins 3 RX12 none) (hr : zRm R 3 cells slots) (hQ : zRetV p l e R s m args below meth c cells slots Q D dA true ad0 al0 ad al cX12_begins k) (hg23 : ∀ (x1 : Int32) (w : zW) (H : Heap) (locs : List Loc) (ls : Array Slot), g23 x1 w → zSt D dA true ad0 al0 ad al w s H locs → lv_has ls 3 [(0, .ref (ad 200)), (1, .int x1)] → W p l e R s m args below meth c H locs cells slots Q (F0 m 23 ls [])) : ∀ (n : Nat) (x1 : Int32) (x2 : Int32) (w : zW) (H : Heap) (locs : List Loc) (ls : Array Slot), fX12_begins_L33 k g23 n x1 x2 w → zSt D dA true ad0 al0 ad al w s H locs → lv_has ls 3 [(0, .ref (ad 200)), (1, .int x1), (2, .int x2)] → W p l e R s m args below meth c H locs cells slots Q (F0 m 33 ls []) := by
  intro n
  induction n with
  | zero => exact fun _ _ _ _ _ _ hf => hf.elim
  | succ n ih =>
    intro x1 x2 w H locs ls hf hR hl
    have hx := X.1
    have hb := X.2.1
    have hml := X.2.2.1
    have hown := X.2.2.2.1
    have hts := X.2.2.2.2.1
    rw [fX12_begins_L33] at hf
    refine lv_iload_n hx hb dX12_begins_33 rfl (lv_at hl 2 rfl) ?_
    refine lv_aload_n hx hb dX12_begins_34 rfl (lv_at hl 0 rfl) ?_
    refine lv_iload_n hx hb dX12_begins_35 rfl (lv_at hl 1 rfl) ?_
    refine z_callVI (fr1 := 0) (b := 200) (As := [.int x1]) (rest := [.int x2]) X (hr.le (by decide)) hR zy_X12_longOf zq_203 (zlit hR zf_200) (by rw [zs_200]; rfl) rfl (mX12_longOf  hf) rfl hl (Nat.le_of_ble_eq_true rfl) dX12_begins_36 rfl (fun r25 w25 H locs hf hR => ?_)
    refine lv_icmp_ge (tgt := 67) hx hb dX12_begins_39 (by decide) (fun c26 => ?_) (fun c26 => ?_)
    · replace hf := hf.1 c26
      refine lv_iinc (v := x1 + (1 : Int32)) (lv' := [(1, .int (x1 + (1 : Int32))), (0, .ref (ad 200)), (2, .int x2)]) hx hb dX12_begins_67 hl (k := 1) rfl rfl (by decide) rfl (fun ls hl => ?_)
      refine lv_goto (tgt := 23) hx hb dX12_begins_70 (by decide) ?_
      exact hg23 (x1 + (1 : Int32)) w25 _ _ _ hf hR (lv_sub hl [1, 0] rfl)
    · replace hf := hf.2 c26
      refine lv_aload_n hx hb dX12_begins_42 rfl (lv_at hl 0 rfl) ?_
      refine z_getS X hR (zlit hR zf_200) zs_200 (by decide) zfd_X12_116 rfl (r := 225) (by decide +kernel) dX12_begins_43 ?_
      refine lv_iconst (v := (4 : Int32)) hx hb dX12_begins_46 (by decide) ?_
      refine lv_iload_n hx hb dX12_begins_47 rfl (lv_at hl 1 rfl) ?_
      refine lv_imul hx hb dX12_begins_48 ?_
      refine lv_aload_n hx hb dX12_begins_49 rfl (lv_at hl 0 rfl) ?_
      refine lv_iload_n hx hb dX12_begins_50 rfl (lv_at hl 1 rfl) ?_
      refine lv_iload_n hx hb dX12_begins_51 rfl (lv_at hl 2 rfl) ?_
      refine z_callVI (fr1 := 0) (b := 200) (As := [.int x1, .int x2]) (rest := [.int ((4 : Int32) * x1), .ref (ad 225)]) X (hr.le (by decide)) hR zy_X12_itemOf zq_207 (zlit hR zf_200) (by rw [zs_200]; rfl) rfl (mX12_itemOf  hf) rfl hl (Nat.le_of_ble_eq_true rfl) dX12_begins_52 rfl (fun r27 w27 H locs hf hR => ?_)
      refine lv_iadd hx hb dX12_begins_55 ?_
      refine lv_dup2_11 hx hb dX12_begins_56 rfl rfl ?_
      obtain ⟨hb28, hf⟩ := hf
      refine z_iald X hR (zlit hR zf_225) zs_225 zl_225 hb28 dX12_begins_57 ?_
      refine lv_iconst (v := (1 : Int32)) hx hb dX12_begins_58 (by decide) ?_
      refine lv_iadd hx hb dX12_begins_59 ?_
      refine z_iast X hR (zlit hR zf_225) zs_225 zl_225 hb28 dX12_begins_60 (fun H locs hR => ?_)
      obtain ⟨w29, hw29⟩ : ∃ z : zW, z = sI w27 225 (((4 : Int32) * x1) + r27).toNatClampNeg ((gI w27 225 (((4 : Int32) * x1) + r27).toNatClampNeg) + (1 : Int32)) := ⟨_, rfl⟩
      rw [← hw29] at hR
      replace hf := hf w29 hw29
      refine lv_iinc (v := x2 + (1 : Int32)) (lv' := [(2, .int (x2 + (1 : Int32))), (0, .ref (ad 200)), (1, .int x1)]) hx hb dX12_begins_61 hl (k := 2) rfl rfl (by decide) rfl (fun ls hl => ?_)
      refine lv_goto (tgt := 33) hx hb dX12_begins_64 (by decide) ?_
      exact ih x1 (x2 + (1 : Int32)) w29 _ _ _ hf hR (lv_sub hl [1, 2, 0] rfl)
def fX12_begins_L23 (k : zW → Prop) : Nat → Int32 → zW → Prop
  | 0 => fun _ _ => False
  | n + 1 => fun x1 w =>
    fX12_rows  w (fun r2 w2 =>
    ((r2 ≤ x1 →
      ∃ n9, fX12_begins_L75 k n9 (0 : Int32) w2) ∧
     (¬ r2 ≤ x1 →
      ∃ n9, fX12_begins_L33 k (fX12_begins_L23 k n) n9 x1 (0 : Int32) w2)))
set_option maxHeartbeats 4000000 in
set_option maxRecDepth 100000 in
theorem mX12_begins_L23 {k : zW → Prop} (X : zCx p s m args meth c cX12_begins 3 RX12 none) (hr : zRm R 3 cells slots) (hQ : zRetV p l e R s m args below meth c cells slots Q D dA true ad0 al0 ad al cX12_begins k)  : ∀ (n : Nat) (x1 : Int32) (w : zW) (H : Heap) (locs : List Loc) (ls : Array Slot), fX12_begins_L23 k n x1 w → zSt D dA true ad0 al0 ad al w s H locs → lv_has ls 3 [(0, .ref (ad 200)), (1, .int x1)] → W p l e R s m args below meth c H locs cells slots Q (F0 m 23 ls []) := by
  intro n
  induction n with
  | zero => exact fun _ _ _ _ _ hf => hf.elim
  | succ n ih =>
    intro x1 w H locs ls hf hR hl
    have hx := X.1
    have hb := X.2.1
    have hml := X.2.2.1
    have hown := X.2.2.2.1
    have hts := X.2.2.2.2.1
    rw [fX12_begins_L23] at hf
    refine lv_iload_n hx hb dX12_begins_23 rfl (lv_at hl 1 rfl) ?_
    refine lv_aload_n hx hb dX12_begins_24 rfl (lv_at hl 0 rfl) ?_
    refine z_callVI (fr1 := 0) (b := 200) (As := []) (rest := [.int x1]) X (hr.le (by decide)) hR zy_X12_rows zq_199 (zlit hR zf_200) (by rw [zs_200]; rfl) rfl (mX12_rows  hf) rfl hl (Nat.le_of_ble_eq_true rfl) dX12_begins_25 rfl (fun r2 w2 H locs hf hR => ?_)
    refine lv_icmp_ge (tgt := 73) hx hb dX12_begins_28 (by decide) (fun c3 => ?_) (fun c3 => ?_)
    · replace hf := hf.1 c3
      refine lv_iconst (v := (0 : Int32)) hx hb dX12_begins_73 (by decide) ?_
      refine lv_istore_n (lv' := [(1, .int (0 : Int32)), (0, .ref (ad 200))]) hx hb dX12_begins_74 rfl hl (by decide) rfl (fun ls hl => ?_)
      obtain ⟨n9, hf⟩ := hf
      exact mX12_begins_L75 X hr hQ  n9 (0 : Int32) w2 _ _ _ hf hR (lv_sub hl [1, 0] rfl)
    · replace hf := hf.2 c3
      refine lv_iconst (v := (0 : Int32)) hx hb dX12_begins_31 (by decide) ?_
      refine lv_istore_n (lv' := [(2, .int (0 : Int32)), (0, .ref (ad 200)), (1, .int x1)]) hx hb dX12_begins_32 rfl hl (by decide) rfl (fun ls hl => ?_)
      obtain ⟨n9, hf⟩ := hf
      exact mX12_begins_L33 X hr hQ ih n9 x1 (0 : Int32) w2 _ _ _ hf hR (lv_sub hl [1, 2, 0] rfl)
def fX12_begins_L2 (k : zW → Prop) : Nat → Int32 → zW → Prop
  | 0 => fun _ _ => False
  | n + 1 => fun x1 w =>
    (((32 : Int32) ≤ x1 →
      ∃ n9, fX12_begins_L23 k n9 (0 : Int32) w) ∧
     (¬ (32 : Int32) ≤ x1 →
      vp_in x1 32 ∧ 
      ∀ w31 : zW, w31 = sI w 225 x1.toNatClampNeg (0 : Int32) →
      fX12_begins_L2 k n (x1 + (1 : Int32)) w31))
set_option maxHeartbeats 4000000 in
set_option maxRecDepth 100000 in
theorem mX12_begins_L2 {k : zW → Prop} (X : zCx p s m args meth c cX12_begins 3 RX12 none) (hr : zRm R 3 cells slots) (hQ : zRetV p l e R s m args below meth c cells slots Q D dA true ad0 al0 ad al cX12_begins k)  : ∀ (n : Nat) (x1 : Int32) (w : zW) (H : Heap) (locs : List Loc) (ls : Array Slot), fX12_begins_L2 k n x1 w → zSt D dA true ad0 al0 ad al w s H locs → lv_has ls 3 [(0, .ref (ad 200)), (1, .int x1)] → W p l e R s m args below meth c H locs cells slots Q (F0 m 2 ls []) := by
  intro n
  induction n with
  | zero => exact fun _ _ _ _ _ hf => hf.elim
  | succ n ih =>
    intro x1 w H locs ls hf hR hl
    have hx := X.1
    have hb := X.2.1
    have hml := X.2.2.1
    have hown := X.2.2.2.1
    have hts := X.2.2.2.2.1
    rw [fX12_begins_L2] at hf
    refine lv_iload_n hx hb dX12_begins_2 rfl (lv_at hl 1 rfl) ?_
    refine lv_bipush (v := (32 : Int32)) hx hb dX12_begins_3 (by decide) ?_
    refine lv_icmp_ge (tgt := 21) hx hb dX12_begins_5 (by decide) (fun c1 => ?_) (fun c1 => ?_)
    · replace hf := hf.1 c1
      refine lv_iconst (v := (0 : Int32)) hx hb dX12_begins_21 (by decide) ?_
      refine lv_istore_n (lv' := [(1, .int (0 : Int32)), (0, .ref (ad 200))]) hx hb dX12_begins_22 rfl hl (by decide) rfl (fun ls hl => ?_)
      obtain ⟨n9, hf⟩ := hf
      exact mX12_begins_L23 X hr hQ  n9 (0 : Int32) w _ _ _ hf hR (lv_sub hl [1, 0] rfl)
    · replace hf := hf.2 c1
      refine lv_aload_n hx hb dX12_begins_8 rfl (lv_at hl 0 rfl) ?_
      refine z_getS X hR (zlit hR zf_200) zs_200 (by decide) zfd_X12_116 rfl (r := 225) (by decide +kernel) dX12_begins_9 ?_
      refine lv_iload_n hx hb dX12_begins_12 rfl (lv_at hl 1 rfl) ?_
      refine lv_iconst (v := (0 : Int32)) hx hb dX12_begins_13 (by decide) ?_
      obtain ⟨hb30, hf⟩ := hf
      refine z_iast X hR (zlit hR zf_225) zs_225 zl_225 hb30 dX12_begins_14 (fun H locs hR => ?_)
      obtain ⟨w31, hw31⟩ : ∃ z : zW, z = sI w 225 x1.toNatClampNeg (0 : Int32) := ⟨_, rfl⟩
      rw [← hw31] at hR
      replace hf := hf w31 hw31
      refine lv_iinc (v := x1 + (1 : Int32)) (lv' := [(1, .int (x1 + (1 : Int32))), (0, .ref (ad 200))]) hx hb dX12_begins_15 hl (k := 1) rfl rfl (by decide) rfl (fun ls hl => ?_)
      refine lv_goto (tgt := 2) hx hb dX12_begins_18 (by decide) ?_
      exact ih (x1 + (1 : Int32)) w31 _ _ _ hf hR (lv_sub hl [1, 0] rfl)
def fX12_begins (w : zW) (k : zW → Prop) : Prop :=
  ∃ n9, fX12_begins_L2 k n9 (0 : Int32) w
set_option maxHeartbeats 4000000 in
set_option maxRecDepth 100000 in
theorem mX12_begins {l : Launch} {D : va_G} {dA : Nat → ClassId} {ad : Nat → Nat} {al : Nat → Prop} {w : zW} {k : zW → Prop}   (hf : fX12_begins w k) : zmetV l yX12_begins cX12_begins 3 none 3 [.ref (ad 200)] D dA true ad al w k := by
  refine zmetV_of (by decide) (Nat.le_of_ble_eq_true rfl) ?_
  intro p e R s m below meth c Q H ls args locs cells slots X hr hQ hR hl
  have hx := X.1
  have hb := X.2.1
  have hml := X.2.2.1
  have hown := X.2.2.2.1
  have hts := X.2.2.2.2.1
  unfold fX12_begins at hf
  have hl : lv_has ls 3 [(0, .ref (ad 200))] := hl
  refine lv_iconst (v := (0 : Int32)) hx hb dX12_begins_0 (by decide) ?_
  refine lv_istore_n (lv' := [(1, .int (0 : Int32)), (0, .ref (ad 200))]) hx hb dX12_begins_1 rfl hl (by decide) rfl (fun ls hl => ?_)
  obtain ⟨n9, hf⟩ := hf
  exact mX12_begins_L2 X hr hQ  n9 (0 : Int32) w _ _ _ hf hR (lv_sub hl [1, 0] rfl)
/-! X12_standsAsAlways -/
def fX12_standsAsAlways_L34 (k : zW → Prop) : Nat → Int32 → Int32 → zW → Prop
  | 0 => fun _ _ _ => False
  | n + 1 => fun x1 x2 w =>
    (((8 : Int32) ≤ x2 →
      k w) ∧
     (¬ (8 : Int32) ≤ x2 →
      vp_in ((x1 + (8 : Int32)) + x2) 60 ∧ 
      ∀ w6 : zW, w6 = sI w 210 ((x1 + (8 : Int32)) + x2).toNatClampNeg (-1 : Int32) →
      fX12_standsAsAlways_L34 k n x1 (x2 + (1 : Int32)) w6))
set_option maxHeartbeats 4000000 in
set_option maxRecDepth 100000 in
theorem mX12_standsAsAlways_L34 {k : zW → Prop} (X : zCx p s m args meth c cX12_standsAsAlways 3 RX12 none) (hr : zRm R 0 cells slots) (hQ : zRetV p l e R s m args below meth c cells slots Q D dA true ad0 al0 ad al cX12_standsAsAlways k)  : ∀ (n : Nat) (x1 : Int32) (x2 : Int32) (w : zW) (H : Heap) (locs : List Loc) (ls : Array Slot), fX12_standsAsAlways_L34 k n x1 x2 w → zSt D dA true ad0 al0 ad al w s H locs → lv_has ls 3 [(0, .ref (ad 200)), (1, .int x1), (2, .int x2)] → W p l e R s m args below meth c H locs cells slots Q (F0 m 34 ls []) := by
  intro n
  induction n with
  | zero => exact fun _ _ _ _ _ _ hf => hf.elim
  | succ n ih =>
    intro x1 x2 w H locs ls hf hR hl
    have hx := X.1
    have hb := X.2.1
    have hml := X.2.2.1
    have hown := X.2.2.2.1
    have hts := X.2.2.2.2.1
    rw [fX12_standsAsAlways_L34] at hf
    refine lv_iload_n hx hb dX12_standsAsAlways_34 rfl (lv_at hl 2 rfl) ?_
    refine lv_bipush (v := (8 : Int32)) hx hb dX12_standsAsAlways_35 (by decide) ?_
    refine lv_icmp_ge (tgt := 58) hx hb dX12_standsAsAlways_37 (by decide) (fun c4 => ?_) (fun c4 => ?_)
    · replace hf := hf.1 c4
      exact hQ _ _ _ _ _ hf hR dX12_standsAsAlways_58
    · replace hf := hf.2 c4
      refine lv_aload_n hx hb dX12_standsAsAlways_40 rfl (lv_at hl 0 rfl) ?_
      refine z_getS X hR (zlit hR zf_200) zs_200 (by decide) zfd_X12_79 rfl (r := 210) (by decide +kernel) dX12_standsAsAlways_41 ?_
      refine lv_iload_n hx hb dX12_standsAsAlways_44 rfl (lv_at hl 1 rfl) ?_
      refine lv_bipush (v := (8 : Int32)) hx hb dX12_standsAsAlways_45 (by decide) ?_
      refine lv_iadd hx hb dX12_standsAsAlways_47 ?_
      refine lv_iload_n hx hb dX12_standsAsAlways_48 rfl (lv_at hl 2 rfl) ?_
      refine lv_iadd hx hb dX12_standsAsAlways_49 ?_
      refine lv_iconst (v := (-1 : Int32)) hx hb dX12_standsAsAlways_50 (by decide) ?_
      obtain ⟨hb5, hf⟩ := hf
      refine z_iast X hR (zlit hR zf_210) zs_210 zl_210 hb5 dX12_standsAsAlways_51 (fun H locs hR => ?_)
      obtain ⟨w6, hw6⟩ : ∃ z : zW, z = sI w 210 ((x1 + (8 : Int32)) + x2).toNatClampNeg (-1 : Int32) := ⟨_, rfl⟩
      rw [← hw6] at hR
      replace hf := hf w6 hw6
      refine lv_iinc (v := x2 + (1 : Int32)) (lv' := [(2, .int (x2 + (1 : Int32))), (0, .ref (ad 200)), (1, .int x1)]) hx hb dX12_standsAsAlways_52 hl (k := 2) rfl rfl (by decide) rfl (fun ls hl => ?_)
      refine lv_goto (tgt := 34) hx hb dX12_standsAsAlways_55 (by decide) ?_
      exact ih x1 (x2 + (1 : Int32)) w6 _ _ _ hf hR (lv_sub hl [1, 2, 0] rfl)
def fX12_standsAsAlways_L2 (k : zW → Prop) : Nat → Int32 → Int32 → zW → Prop
  | 0 => fun _ _ _ => False
  | n + 1 => fun x1 x2 w =>
    (((30 : Int32) ≤ x2 →
      vp_in (x1 + (3 : Int32)) 60 ∧ 
      ∀ w3 : zW, w3 = sI w 210 (x1 + (3 : Int32)).toNatClampNeg (-1 : Int32) →
      ∃ n9, fX12_standsAsAlways_L34 k n9 x1 (0 : Int32) w3) ∧
     (¬ (30 : Int32) ≤ x2 →
      vp_in (x1 + x2) 60 ∧ 
      ∀ w8 : zW, w8 = sI w 210 (x1 + x2).toNatClampNeg (0 : Int32) →
      fX12_standsAsAlways_L2 k n x1 (x2 + (1 : Int32)) w8))
set_option maxHeartbeats 4000000 in
set_option maxRecDepth 100000 in
theorem mX12_standsAsAlways_L2 {k : zW → Prop} (X : zCx p s m args meth c cX12_standsAsAlways 3 RX12 none) (hr : zRm R 0 cells slots) (hQ : zRetV p l e R s m args below meth c cells slots Q D dA true ad0 al0 ad al cX12_standsAsAlways k)  : ∀ (n : Nat) (x1 : Int32) (x2 : Int32) (w : zW) (H : Heap) (locs : List Loc) (ls : Array Slot), fX12_standsAsAlways_L2 k n x1 x2 w → zSt D dA true ad0 al0 ad al w s H locs → lv_has ls 3 [(0, .ref (ad 200)), (1, .int x1), (2, .int x2)] → W p l e R s m args below meth c H locs cells slots Q (F0 m 2 ls []) := by
  intro n
  induction n with
  | zero => exact fun _ _ _ _ _ _ hf => hf.elim
  | succ n ih =>
    intro x1 x2 w H locs ls hf hR hl
    have hx := X.1
    have hb := X.2.1
    have hml := X.2.2.1
    have hown := X.2.2.2.1
    have hts := X.2.2.2.2.1
    rw [fX12_standsAsAlways_L2] at hf
    refine lv_iload_n hx hb dX12_standsAsAlways_2 rfl (lv_at hl 2 rfl) ?_
    refine lv_bipush (v := (30 : Int32)) hx hb dX12_standsAsAlways_3 (by decide) ?_
    refine lv_icmp_ge (tgt := 23) hx hb dX12_standsAsAlways_5 (by decide) (fun c1 => ?_) (fun c1 => ?_)
    · replace hf := hf.1 c1
      refine lv_aload_n hx hb dX12_standsAsAlways_23 rfl (lv_at hl 0 rfl) ?_
      refine z_getS X hR (zlit hR zf_200) zs_200 (by decide) zfd_X12_79 rfl (r := 210) (by decide +kernel) dX12_standsAsAlways_24 ?_
      refine lv_iload_n hx hb dX12_standsAsAlways_27 rfl (lv_at hl 1 rfl) ?_
      refine lv_iconst (v := (3 : Int32)) hx hb dX12_standsAsAlways_28 (by decide) ?_
      refine lv_iadd hx hb dX12_standsAsAlways_29 ?_
      refine lv_iconst (v := (-1 : Int32)) hx hb dX12_standsAsAlways_30 (by decide) ?_
      obtain ⟨hb2, hf⟩ := hf
      refine z_iast X hR (zlit hR zf_210) zs_210 zl_210 hb2 dX12_standsAsAlways_31 (fun H locs hR => ?_)
      obtain ⟨w3, hw3⟩ : ∃ z : zW, z = sI w 210 (x1 + (3 : Int32)).toNatClampNeg (-1 : Int32) := ⟨_, rfl⟩
      rw [← hw3] at hR
      replace hf := hf w3 hw3
      refine lv_iconst (v := (0 : Int32)) hx hb dX12_standsAsAlways_32 (by decide) ?_
      refine lv_istore_n (lv' := [(2, .int (0 : Int32)), (0, .ref (ad 200)), (1, .int x1)]) hx hb dX12_standsAsAlways_33 rfl hl (by decide) rfl (fun ls hl => ?_)
      obtain ⟨n9, hf⟩ := hf
      exact mX12_standsAsAlways_L34 X hr hQ  n9 x1 (0 : Int32) w3 _ _ _ hf hR (lv_sub hl [1, 2, 0] rfl)
    · replace hf := hf.2 c1
      refine lv_aload_n hx hb dX12_standsAsAlways_8 rfl (lv_at hl 0 rfl) ?_
      refine z_getS X hR (zlit hR zf_200) zs_200 (by decide) zfd_X12_79 rfl (r := 210) (by decide +kernel) dX12_standsAsAlways_9 ?_
      refine lv_iload_n hx hb dX12_standsAsAlways_12 rfl (lv_at hl 1 rfl) ?_
      refine lv_iload_n hx hb dX12_standsAsAlways_13 rfl (lv_at hl 2 rfl) ?_
      refine lv_iadd hx hb dX12_standsAsAlways_14 ?_
      refine lv_iconst (v := (0 : Int32)) hx hb dX12_standsAsAlways_15 (by decide) ?_
      obtain ⟨hb7, hf⟩ := hf
      refine z_iast X hR (zlit hR zf_210) zs_210 zl_210 hb7 dX12_standsAsAlways_16 (fun H locs hR => ?_)
      obtain ⟨w8, hw8⟩ : ∃ z : zW, z = sI w 210 (x1 + x2).toNatClampNeg (0 : Int32) := ⟨_, rfl⟩
      rw [← hw8] at hR
      replace hf := hf w8 hw8
      refine lv_iinc (v := x2 + (1 : Int32)) (lv' := [(2, .int (x2 + (1 : Int32))), (0, .ref (ad 200)), (1, .int x1)]) hx hb dX12_standsAsAlways_17 hl (k := 2) rfl rfl (by decide) rfl (fun ls hl => ?_)
      refine lv_goto (tgt := 2) hx hb dX12_standsAsAlways_20 (by decide) ?_
      exact ih x1 (x2 + (1 : Int32)) w8 _ _ _ hf hR (lv_sub hl [1, 2, 0] rfl)
def fX12_standsAsAlways (x1 : Int32) (w : zW) (k : zW → Prop) : Prop :=
  ∃ n9, fX12_standsAsAlways_L2 k n9 x1 (0 : Int32) w
set_option maxHeartbeats 4000000 in
set_option maxRecDepth 100000 in
theorem mX12_standsAsAlways {l : Launch} {D : va_G} {dA : Nat → ClassId} {ad : Nat → Nat} {al : Nat → Prop} {w : zW} {k : zW → Prop} {x1 : Int32}   (hf : fX12_standsAsAlways x1 w k) : zmetV l yX12_standsAsAlways cX12_standsAsAlways 3 none 0 [.ref (ad 200), .int x1] D dA true ad al w k := by
  refine zmetV_of (by decide) (Nat.le_of_ble_eq_true rfl) ?_
  intro p e R s m below meth c Q H ls args locs cells slots X hr hQ hR hl
  have hx := X.1
  have hb := X.2.1
  have hml := X.2.2.1
  have hown := X.2.2.2.1
  have hts := X.2.2.2.2.1
  unfold fX12_standsAsAlways at hf
  have hl : lv_has ls 3 [(0, .ref (ad 200)), (1, .int x1)] := hl
  refine lv_iconst (v := (0 : Int32)) hx hb dX12_standsAsAlways_0 (by decide) ?_
  refine lv_istore_n (lv' := [(2, .int (0 : Int32)), (0, .ref (ad 200)), (1, .int x1)]) hx hb dX12_standsAsAlways_1 rfl hl (by decide) rfl (fun ls hl => ?_)
  obtain ⟨n9, hf⟩ := hf
  exact mX12_standsAsAlways_L2 X hr hQ  n9 x1 (0 : Int32) w _ _ _ hf hR (lv_sub hl [1, 2, 0] rfl)
/-! X12_isLetter -/
def fX12_isLetter (x0 : Int32) (w : zW) (k : Int32 → zW → Prop) : Prop :=
  ∀ v1 : Int32, v1 = (if x0 < (97 : Int32) then (0 : Int32) else (if (122 : Int32) < x0 then (0 : Int32) else (1 : Int32))) →
  zb01 v1 ∧ k v1 w
set_option maxHeartbeats 4000000 in
set_option maxRecDepth 100000 in
theorem mX12_isLetter {l : Launch} {D : va_G} {dA : Nat → ClassId} {ad : Nat → Nat} {al : Nat → Prop} {w : zW} {k : Int32 → zW → Prop} {x0 : Int32}   (hf : fX12_isLetter x0 w k) : zmetI l yX12_isLetter cX12_isLetter 1 (some .boolean) 0 [.int x0] D dA true ad al w k := by
  refine zmetZ_of (by decide) (Nat.le_of_ble_eq_true rfl) ?_
  intro p e R s m below meth c Q H ls args locs cells slots X hr hQ hR hl
  have hx := X.1
  have hb := X.2.1
  have hml := X.2.2.1
  have hown := X.2.2.2.1
  have hts := X.2.2.2.2.1
  unfold fX12_isLetter at hf
  have hl : lv_has ls 1 [(0, .int x0)] := hl
  refine lv_iload_n hx hb dX12_isLetter_0 rfl (lv_at hl 0 rfl) ?_
  refine lv_bipush (v := (97 : Int32)) hx hb dX12_isLetter_1 (by decide) ?_
  have kJ1 : ∀ v1 : Int32, v1 = (if x0 < (97 : Int32) then (0 : Int32) else (if (122 : Int32) < x0 then (0 : Int32) else (1 : Int32))) → W p l e R s m args below meth c H locs cells slots Q (F0 m 17 ls (.int v1 :: [])) := by
    intro v1 hv1
    replace hf := hf v1 hv1
    obtain ⟨h01, hf⟩ := hf
    exact hQ _ _ _ _ _ _ h01 hf hR dX12_isLetter_17
  refine lv_icmp_lt (tgt := 16) hx hb dX12_isLetter_3 (by decide) (fun c1 => ?_) (fun c1 => ?_)
  · refine lv_iconst (v := (0 : Int32)) hx hb dX12_isLetter_16 (by decide) ?_
    exact kJ1 _ (if_pos c1).symm
  · refine lv_iload_n hx hb dX12_isLetter_6 rfl (lv_at hl 0 rfl) ?_
    refine lv_bipush (v := (122 : Int32)) hx hb dX12_isLetter_7 (by decide) ?_
    refine lv_icmp_gt (tgt := 16) hx hb dX12_isLetter_9 (by decide) (fun c2 => ?_) (fun c2 => ?_)
    · refine lv_iconst (v := (0 : Int32)) hx hb dX12_isLetter_16 (by decide) ?_
      exact kJ1 _ ((if_neg c1).trans (if_pos c2)).symm
    · refine lv_iconst (v := (1 : Int32)) hx hb dX12_isLetter_12 (by decide) ?_
      refine lv_goto (tgt := 17) hx hb dX12_isLetter_13 (by decide) ?_
      exact kJ1 _ ((if_neg c1).trans (if_neg c2)).symm
/-! X12_isDigit -/
def fX12_isDigit (x0 : Int32) (w : zW) (k : Int32 → zW → Prop) : Prop :=
  ∀ v1 : Int32, v1 = (if x0 < (48 : Int32) then (0 : Int32) else (if (57 : Int32) < x0 then (0 : Int32) else (1 : Int32))) →
  zb01 v1 ∧ k v1 w
set_option maxHeartbeats 4000000 in
set_option maxRecDepth 100000 in
theorem mX12_isDigit {l : Launch} {D : va_G} {dA : Nat → ClassId} {ad : Nat → Nat} {al : Nat → Prop} {w : zW} {k : Int32 → zW → Prop} {x0 : Int32}   (hf : fX12_isDigit x0 w k) : zmetI l yX12_isDigit cX12_isDigit 1 (some .boolean) 0 [.int x0] D dA true ad al w k := by
  refine zmetZ_of (by decide) (Nat.le_of_ble_eq_true rfl) ?_
  intro p e R s m below meth c Q H ls args locs cells slots X hr hQ hR hl
  have hx := X.1
  have hb := X.2.1
  have hml := X.2.2.1
  have hown := X.2.2.2.1
  have hts := X.2.2.2.2.1
  unfold fX12_isDigit at hf
  have hl : lv_has ls 1 [(0, .int x0)] := hl
  refine lv_iload_n hx hb dX12_isDigit_0 rfl (lv_at hl 0 rfl) ?_
  refine lv_bipush (v := (48 : Int32)) hx hb dX12_isDigit_1 (by decide) ?_
  have kJ1 : ∀ v1 : Int32, v1 = (if x0 < (48 : Int32) then (0 : Int32) else (if (57 : Int32) < x0 then (0 : Int32) else (1 : Int32))) → W p l e R s m args below meth c H locs cells slots Q (F0 m 17 ls (.int v1 :: [])) := by
    intro v1 hv1
    replace hf := hf v1 hv1
    obtain ⟨h01, hf⟩ := hf
    exact hQ _ _ _ _ _ _ h01 hf hR dX12_isDigit_17
  refine lv_icmp_lt (tgt := 16) hx hb dX12_isDigit_3 (by decide) (fun c1 => ?_) (fun c1 => ?_)
  · refine lv_iconst (v := (0 : Int32)) hx hb dX12_isDigit_16 (by decide) ?_
    exact kJ1 _ (if_pos c1).symm
  · refine lv_iload_n hx hb dX12_isDigit_6 rfl (lv_at hl 0 rfl) ?_
    refine lv_bipush (v := (57 : Int32)) hx hb dX12_isDigit_7 (by decide) ?_
    refine lv_icmp_gt (tgt := 16) hx hb dX12_isDigit_9 (by decide) (fun c2 => ?_) (fun c2 => ?_)
    · refine lv_iconst (v := (0 : Int32)) hx hb dX12_isDigit_16 (by decide) ?_
      exact kJ1 _ ((if_neg c1).trans (if_pos c2)).symm
    · refine lv_iconst (v := (1 : Int32)) hx hb dX12_isDigit_12 (by decide) ?_
      refine lv_goto (tgt := 17) hx hb dX12_isDigit_13 (by decide) ?_
      exact kJ1 _ ((if_neg c1).trans (if_neg c2)).symm
/-! X12_rank -/
def fX12_rank (x0 : Int32) (w : zW) (k : Int32 → zW → Prop) : Prop :=
  fX12_isLetter x0 w (fun r1 w1 =>
  ∀ v2 : Int32, v2 = (if r1 = 0 then (x0 - (21 : Int32)) else (x0 - (96 : Int32))) →
  k v2 w1)
set_option maxHeartbeats 4000000 in
set_option maxRecDepth 100000 in
theorem mX12_rank {l : Launch} {D : va_G} {dA : Nat → ClassId} {ad : Nat → Nat} {al : Nat → Prop} {w : zW} {k : Int32 → zW → Prop} {x0 : Int32}   (hf : fX12_rank x0 w k) : zmetI l yX12_rank cX12_rank 1 (some .int) 1 [.int x0] D dA true ad al w k := by
  refine zmetI_of (by decide) (Nat.le_of_ble_eq_true rfl) ?_
  intro p e R s m below meth c Q H ls args locs cells slots X hr hQ hR hl
  have hx := X.1
  have hb := X.2.1
  have hml := X.2.2.1
  have hown := X.2.2.2.1
  have hts := X.2.2.2.2.1
  unfold fX12_rank at hf
  have hl : lv_has ls 1 [(0, .int x0)] := hl
  refine lv_iload_n hx hb dX12_rank_0 rfl (lv_at hl 0 rfl) ?_
  refine z_callSI (fr1 := 0) (As := [.int x0]) (rest := []) X (hr.le (by decide)) hR zy_X12_isLetter zq_595 (mX12_isLetter  hf) rfl hl (Nat.le_of_ble_eq_true rfl) dX12_rank_1 rfl (fun r1 w1 H locs hf hR => ?_)
  have kJ2 : ∀ v2 : Int32, v2 = (if r1 = 0 then (x0 - (21 : Int32)) else (x0 - (96 : Int32))) → W p l e R s m args below meth c H locs cells slots Q (F0 m 18 ls (.int v2 :: [])) := by
    intro v2 hv2
    replace hf := hf v2 hv2
    exact hQ _ _ _ _ _ _ hf hR dX12_rank_18
  refine lv_if_eq (tgt := 14) hx hb dX12_rank_4 (by decide) (fun c2 => ?_) (fun c2 => ?_)
  · refine lv_iload_n hx hb dX12_rank_14 rfl (lv_at hl 0 rfl) ?_
    refine lv_bipush (v := (21 : Int32)) hx hb dX12_rank_15 (by decide) ?_
    refine lv_isub hx hb dX12_rank_17 ?_
    exact kJ2 _ (if_pos c2).symm
  · refine lv_iload_n hx hb dX12_rank_7 rfl (lv_at hl 0 rfl) ?_
    refine lv_bipush (v := (96 : Int32)) hx hb dX12_rank_8 (by decide) ?_
    refine lv_isub hx hb dX12_rank_10 ?_
    refine lv_goto (tgt := 18) hx hb dX12_rank_11 (by decide) ?_
    exact kJ2 _ (if_neg c2).symm
/-! X12_isSignOf -/
def fX12_isSignOf (x0 : Int32) (w : zW) (k : Int32 → zW → Prop) : Prop :=
  ∀ v1 : Int32, v1 = (if x0 = (40 : Int32) then (1 : Int32) else (if x0 = (41 : Int32) then (1 : Int32) else (if x0 = (59 : Int32) then (1 : Int32) else (if x0 = (61 : Int32) then (1 : Int32) else (if x0 = (60 : Int32) then (1 : Int32) else (if x0 = (43 : Int32) then (1 : Int32) else (if x0 = (45 : Int32) then (1 : Int32) else (if ¬ x0 = (42 : Int32) then (0 : Int32) else (1 : Int32))))))))) →
  zb01 v1 ∧ k v1 w
set_option maxHeartbeats 4000000 in
set_option maxRecDepth 100000 in
theorem mX12_isSignOf {l : Launch} {D : va_G} {dA : Nat → ClassId} {ad : Nat → Nat} {al : Nat → Prop} {w : zW} {k : Int32 → zW → Prop} {x0 : Int32}   (hf : fX12_isSignOf x0 w k) : zmetI l yX12_isSignOf cX12_isSignOf 1 (some .boolean) 0 [.int x0] D dA true ad al w k := by
  refine zmetZ_of (by decide) (Nat.le_of_ble_eq_true rfl) ?_
  intro p e R s m below meth c Q H ls args locs cells slots X hr hQ hR hl
  have hx := X.1
  have hb := X.2.1
  have hml := X.2.2.1
  have hown := X.2.2.2.1
  have hts := X.2.2.2.2.1
  unfold fX12_isSignOf at hf
  have hl : lv_has ls 1 [(0, .int x0)] := hl
  refine lv_iload_n hx hb dX12_isSignOf_0 rfl (lv_at hl 0 rfl) ?_
  refine lv_bipush (v := (40 : Int32)) hx hb dX12_isSignOf_1 (by decide) ?_
  have kJ1 : ∀ v1 : Int32, v1 = (if x0 = (40 : Int32) then (1 : Int32) else (if x0 = (41 : Int32) then (1 : Int32) else (if x0 = (59 : Int32) then (1 : Int32) else (if x0 = (61 : Int32) then (1 : Int32) else (if x0 = (60 : Int32) then (1 : Int32) else (if x0 = (43 : Int32) then (1 : Int32) else (if x0 = (45 : Int32) then (1 : Int32) else (if ¬ x0 = (42 : Int32) then (0 : Int32) else (1 : Int32))))))))) → W p l e R s m args below meth c H locs cells slots Q (F0 m 53 ls (.int v1 :: [])) := by
    intro v1 hv1
    replace hf := hf v1 hv1
    obtain ⟨h01, hf⟩ := hf
    exact hQ _ _ _ _ _ _ h01 hf hR dX12_isSignOf_53
  refine lv_icmp_eq (tgt := 48) hx hb dX12_isSignOf_3 (by decide) (fun c1 => ?_) (fun c1 => ?_)
  · refine lv_iconst (v := (1 : Int32)) hx hb dX12_isSignOf_48 (by decide) ?_
    refine lv_goto (tgt := 53) hx hb dX12_isSignOf_49 (by decide) ?_
    exact kJ1 _ (if_pos c1).symm
  · refine lv_iload_n hx hb dX12_isSignOf_6 rfl (lv_at hl 0 rfl) ?_
    refine lv_bipush (v := (41 : Int32)) hx hb dX12_isSignOf_7 (by decide) ?_
    refine lv_icmp_eq (tgt := 48) hx hb dX12_isSignOf_9 (by decide) (fun c2 => ?_) (fun c2 => ?_)
    · refine lv_iconst (v := (1 : Int32)) hx hb dX12_isSignOf_48 (by decide) ?_
      refine lv_goto (tgt := 53) hx hb dX12_isSignOf_49 (by decide) ?_
      exact kJ1 _ ((if_neg c1).trans (if_pos c2)).symm
    · refine lv_iload_n hx hb dX12_isSignOf_12 rfl (lv_at hl 0 rfl) ?_
      refine lv_bipush (v := (59 : Int32)) hx hb dX12_isSignOf_13 (by decide) ?_
      refine lv_icmp_eq (tgt := 48) hx hb dX12_isSignOf_15 (by decide) (fun c3 => ?_) (fun c3 => ?_)
      · refine lv_iconst (v := (1 : Int32)) hx hb dX12_isSignOf_48 (by decide) ?_
        refine lv_goto (tgt := 53) hx hb dX12_isSignOf_49 (by decide) ?_
        exact kJ1 _ ((if_neg c1).trans ((if_neg c2).trans (if_pos c3))).symm
      · refine lv_iload_n hx hb dX12_isSignOf_18 rfl (lv_at hl 0 rfl) ?_
        refine lv_bipush (v := (61 : Int32)) hx hb dX12_isSignOf_19 (by decide) ?_
        refine lv_icmp_eq (tgt := 48) hx hb dX12_isSignOf_21 (by decide) (fun c4 => ?_) (fun c4 => ?_)
        · refine lv_iconst (v := (1 : Int32)) hx hb dX12_isSignOf_48 (by decide) ?_
          refine lv_goto (tgt := 53) hx hb dX12_isSignOf_49 (by decide) ?_
          exact kJ1 _ ((if_neg c1).trans ((if_neg c2).trans ((if_neg c3).trans (if_pos c4)))).symm
        · refine lv_iload_n hx hb dX12_isSignOf_24 rfl (lv_at hl 0 rfl) ?_
          refine lv_bipush (v := (60 : Int32)) hx hb dX12_isSignOf_25 (by decide) ?_
          refine lv_icmp_eq (tgt := 48) hx hb dX12_isSignOf_27 (by decide) (fun c5 => ?_) (fun c5 => ?_)
          · refine lv_iconst (v := (1 : Int32)) hx hb dX12_isSignOf_48 (by decide) ?_
            refine lv_goto (tgt := 53) hx hb dX12_isSignOf_49 (by decide) ?_
            exact kJ1 _ ((if_neg c1).trans ((if_neg c2).trans ((if_neg c3).trans ((if_neg c4).trans (if_pos c5))))).symm
          · refine lv_iload_n hx hb dX12_isSignOf_30 rfl (lv_at hl 0 rfl) ?_
            refine lv_bipush (v := (43 : Int32)) hx hb dX12_isSignOf_31 (by decide) ?_
            refine lv_icmp_eq (tgt := 48) hx hb dX12_isSignOf_33 (by decide) (fun c6 => ?_) (fun c6 => ?_)
            · refine lv_iconst (v := (1 : Int32)) hx hb dX12_isSignOf_48 (by decide) ?_
              refine lv_goto (tgt := 53) hx hb dX12_isSignOf_49 (by decide) ?_
              exact kJ1 _ ((if_neg c1).trans ((if_neg c2).trans ((if_neg c3).trans ((if_neg c4).trans ((if_neg c5).trans (if_pos c6)))))).symm
            · refine lv_iload_n hx hb dX12_isSignOf_36 rfl (lv_at hl 0 rfl) ?_
              refine lv_bipush (v := (45 : Int32)) hx hb dX12_isSignOf_37 (by decide) ?_
              refine lv_icmp_eq (tgt := 48) hx hb dX12_isSignOf_39 (by decide) (fun c7 => ?_) (fun c7 => ?_)
              · refine lv_iconst (v := (1 : Int32)) hx hb dX12_isSignOf_48 (by decide) ?_
                refine lv_goto (tgt := 53) hx hb dX12_isSignOf_49 (by decide) ?_
                exact kJ1 _ ((if_neg c1).trans ((if_neg c2).trans ((if_neg c3).trans ((if_neg c4).trans ((if_neg c5).trans ((if_neg c6).trans (if_pos c7))))))).symm
              · refine lv_iload_n hx hb dX12_isSignOf_42 rfl (lv_at hl 0 rfl) ?_
                refine lv_bipush (v := (42 : Int32)) hx hb dX12_isSignOf_43 (by decide) ?_
                refine lv_icmp_ne (tgt := 52) hx hb dX12_isSignOf_45 (by decide) (fun c8 => ?_) (fun c8 => ?_)
                · refine lv_iconst (v := (0 : Int32)) hx hb dX12_isSignOf_52 (by decide) ?_
                  exact kJ1 _ ((if_neg c1).trans ((if_neg c2).trans ((if_neg c3).trans ((if_neg c4).trans ((if_neg c5).trans ((if_neg c6).trans ((if_neg c7).trans (if_pos c8)))))))).symm
                · refine lv_iconst (v := (1 : Int32)) hx hb dX12_isSignOf_48 (by decide) ?_
                  refine lv_goto (tgt := 53) hx hb dX12_isSignOf_49 (by decide) ?_
                  exact kJ1 _ ((if_neg c1).trans ((if_neg c2).trans ((if_neg c3).trans ((if_neg c4).trans ((if_neg c5).trans ((if_neg c6).trans ((if_neg c7).trans (if_neg (fun h9 => h9 c8))))))))).symm
/-! X12_cutAll -/
def fX12_cutAll_J265 (k : zW → Prop) (g17 : Int32 → Int32 → zW → Prop) (x1 : Int32) (x2 : Int32) (x5 : Int64) (w : zW) : Prop :=
  vp_in x1 1002 ∧ 
  ∀ w25 : zW, w25 = sL w 206 x1.toNatClampNeg x5 →
  g17 (x1 + (1 : Int32)) x2 w25
set_option maxHeartbeats 4000000 in
set_option maxRecDepth 100000 in
theorem mX12_cutAll_J265 {k : zW → Prop} {g17 : Int32 → Int32 → zW → Prop} (X : zCx p s m args meth c cX12_cutAll 7 RX12 none) (hr : zRm R 2 cells slots) (hQ : zRetV p l e R s m args below meth c cells slots Q D dA true ad0 al0 ad al cX12_cutAll k) (hg17 : ∀ (x1 : Int32) (x2 : Int32) (w : zW) (H : Heap) (locs : List Loc) (ls : Array Slot), g17 x1 x2 w → zSt D dA true ad0 al0 ad al w s H locs → lv_has ls 7 [(0, .ref (ad 200)), (1, .int x1), (2, .int x2)] → W p l e R s m args below meth c H locs cells slots Q (F0 m 17 ls [])) {x1 : Int32} {x2 : Int32} {x5 : Int64} {w : zW} {H : Heap} {locs : List Loc} {ls : Array Slot} (hf : fX12_cutAll_J265 k g17 x1 x2 x5 w) (hR : zSt D dA true ad0 al0 ad al w s H locs) (hl : lv_has ls 7 [(0, .ref (ad 200)), (1, .int x1), (2, .int x2), (5, .long x5)]) : W p l e R s m args below meth c H locs cells slots Q (F0 m 265 ls []) := by
  have hx := X.1
  have hb := X.2.1
  have hml := X.2.2.1
  have hown := X.2.2.2.1
  have hts := X.2.2.2.2.1
  unfold fX12_cutAll_J265 at hf
  refine lv_aload_n hx hb dX12_cutAll_265 rfl (lv_at hl 0 rfl) ?_
  refine z_getS X hR (zlit hR zf_200) zs_200 (by decide) zfd_X12_30 rfl (r := 206) (by decide +kernel) dX12_cutAll_266 ?_
  refine lv_iload_n hx hb dX12_cutAll_269 rfl (lv_at hl 1 rfl) ?_
  refine lv_lload hx hb dX12_cutAll_270 (lv_at hl 3 rfl) ?_
  obtain ⟨hb24, hf⟩ := hf
  refine z_last X hR (zlit hR zf_206) zs_206 zl_206 hb24 dX12_cutAll_272 (fun H locs hR => ?_)
  obtain ⟨w25, hw25⟩ : ∃ z : zW, z = sL w 206 x1.toNatClampNeg x5 := ⟨_, rfl⟩
  rw [← hw25] at hR
  replace hf := hf w25 hw25
  refine lv_iinc (v := x1 + (1 : Int32)) (lv' := [(1, .int (x1 + (1 : Int32))), (0, .ref (ad 200)), (2, .int x2), (5, .long x5)]) hx hb dX12_cutAll_273 hl (k := 1) rfl rfl (by decide) rfl (fun ls hl => ?_)
  refine lv_goto (tgt := 17) hx hb dX12_cutAll_276 (by decide) ?_
  exact hg17 (x1 + (1 : Int32)) x2 w25 _ _ _ hf hR (lv_sub hl [1, 0, 2] rfl)
def fX12_cutAll_J261 (k : zW → Prop) (g17 : Int32 → Int32 → zW → Prop) (x1 : Int32) (x2 : Int32) (x5 : Int64) (t0 : Int32) (t1 : Int32) (w : zW) : Prop :=
  vp_in t1 1002 ∧ 
  ∀ w23 : zW, w23 = sI w 204 t1.toNatClampNeg t0 →
  fX12_cutAll_J265 k g17 x1 (x2 + (1 : Int32)) x5 w23
set_option maxHeartbeats 4000000 in
set_option maxRecDepth 100000 in
theorem mX12_cutAll_J261 {k : zW → Prop} {g17 : Int32 → Int32 → zW → Prop} (X : zCx p s m args meth c cX12_cutAll 7 RX12 none) (hr : zRm R 2 cells slots) (hQ : zRetV p l e R s m args below meth c cells slots Q D dA true ad0 al0 ad al cX12_cutAll k) (hg17 : ∀ (x1 : Int32) (x2 : Int32) (w : zW) (H : Heap) (locs : List Loc) (ls : Array Slot), g17 x1 x2 w → zSt D dA true ad0 al0 ad al w s H locs → lv_has ls 7 [(0, .ref (ad 200)), (1, .int x1), (2, .int x2)] → W p l e R s m args below meth c H locs cells slots Q (F0 m 17 ls [])) {x1 : Int32} {x2 : Int32} {x5 : Int64} {t0 : Int32} {t1 : Int32} {w : zW} {H : Heap} {locs : List Loc} {ls : Array Slot} (hf : fX12_cutAll_J261 k g17 x1 x2 x5 t0 t1 w) (hR : zSt D dA true ad0 al0 ad al w s H locs) (hl : lv_has ls 7 [(0, .ref (ad 200)), (1, .int x1), (2, .int x2), (5, .long x5)]) : W p l e R s m args below meth c H locs cells slots Q (F0 m 261 ls [.int t0, .int t1, .ref (ad 204)]) := by
  have hx := X.1
  have hb := X.2.1
  have hml := X.2.2.1
  have hown := X.2.2.2.1
  have hts := X.2.2.2.2.1
  unfold fX12_cutAll_J261 at hf
  obtain ⟨hb22, hf⟩ := hf
  refine z_iast X hR (zlit hR zf_204) zs_204 zl_204 hb22 dX12_cutAll_261 (fun H locs hR => ?_)
  obtain ⟨w23, hw23⟩ : ∃ z : zW, z = sI w 204 t1.toNatClampNeg t0 := ⟨_, rfl⟩
  rw [← hw23] at hR
  replace hf := hf w23 hw23
  refine lv_iinc (v := x2 + (1 : Int32)) (lv' := [(2, .int (x2 + (1 : Int32))), (0, .ref (ad 200)), (1, .int x1), (5, .long x5)]) hx hb dX12_cutAll_262 hl (k := 2) rfl rfl (by decide) rfl (fun ls hl => ?_)
  exact mX12_cutAll_J265 X hr hQ hg17 hf hR (lv_sub hl [1, 2, 0, 3] rfl)
def fX12_cutAll_J236 (k : zW → Prop) (g17 : Int32 → Int32 → zW → Prop) (x1 : Int32) (x2 : Int32) (x5 : Int64) (t0 : Int32) (t1 : Int32) (w : zW) : Prop :=
  vp_in t1 1002 ∧ 
  ∀ w29 : zW, w29 = sI w 204 t1.toNatClampNeg t0 →
  fX12_cutAll_J265 k g17 x1 x2 x5 w29
set_option maxHeartbeats 4000000 in
set_option maxRecDepth 100000 in
theorem mX12_cutAll_J236 {k : zW → Prop} {g17 : Int32 → Int32 → zW → Prop} (X : zCx p s m args meth c cX12_cutAll 7 RX12 none) (hr : zRm R 2 cells slots) (hQ : zRetV p l e R s m args below meth c cells slots Q D dA true ad0 al0 ad al cX12_cutAll k) (hg17 : ∀ (x1 : Int32) (x2 : Int32) (w : zW) (H : Heap) (locs : List Loc) (ls : Array Slot), g17 x1 x2 w → zSt D dA true ad0 al0 ad al w s H locs → lv_has ls 7 [(0, .ref (ad 200)), (1, .int x1), (2, .int x2)] → W p l e R s m args below meth c H locs cells slots Q (F0 m 17 ls [])) {x1 : Int32} {x2 : Int32} {x5 : Int64} {t0 : Int32} {t1 : Int32} {w : zW} {H : Heap} {locs : List Loc} {ls : Array Slot} (hf : fX12_cutAll_J236 k g17 x1 x2 x5 t0 t1 w) (hR : zSt D dA true ad0 al0 ad al w s H locs) (hl : lv_has ls 7 [(0, .ref (ad 200)), (1, .int x1), (2, .int x2), (5, .long x5)]) : W p l e R s m args below meth c H locs cells slots Q (F0 m 236 ls [.int t0, .int t1, .ref (ad 204)]) := by
  have hx := X.1
  have hb := X.2.1
  have hml := X.2.2.1
  have hown := X.2.2.2.1
  have hts := X.2.2.2.2.1
  unfold fX12_cutAll_J236 at hf
  obtain ⟨hb28, hf⟩ := hf
  refine z_iast X hR (zlit hR zf_204) zs_204 zl_204 hb28 dX12_cutAll_236 (fun H locs hR => ?_)
  obtain ⟨w29, hw29⟩ : ∃ z : zW, z = sI w 204 t1.toNatClampNeg t0 := ⟨_, rfl⟩
  rw [← hw29] at hR
  replace hf := hf w29 hw29
  refine lv_goto (tgt := 265) hx hb dX12_cutAll_237 (by decide) ?_
  exact mX12_cutAll_J265 X hr hQ hg17 hf hR (lv_sub hl [0, 1, 2, 3] rfl)
def fX12_cutAll_J218 (k : zW → Prop) (g17 : Int32 → Int32 → zW → Prop) (x1 : Int32) (x2 : Int32) (x4 : Int32) (x5 : Int64) (w : zW) : Prop :=
  ∀ v27 : Int32, v27 = (if (x2 - x4) ≤ (4 : Int32) then (2 : Int32) else (4 : Int32)) →
  fX12_cutAll_J236 k g17 x1 x2 x5 v27 x1 w
set_option maxHeartbeats 4000000 in
set_option maxRecDepth 100000 in
theorem mX12_cutAll_J218 {k : zW → Prop} {g17 : Int32 → Int32 → zW → Prop} (X : zCx p s m args meth c cX12_cutAll 7 RX12 none) (hr : zRm R 2 cells slots) (hQ : zRetV p l e R s m args below meth c cells slots Q D dA true ad0 al0 ad al cX12_cutAll k) (hg17 : ∀ (x1 : Int32) (x2 : Int32) (w : zW) (H : Heap) (locs : List Loc) (ls : Array Slot), g17 x1 x2 w → zSt D dA true ad0 al0 ad al w s H locs → lv_has ls 7 [(0, .ref (ad 200)), (1, .int x1), (2, .int x2)] → W p l e R s m args below meth c H locs cells slots Q (F0 m 17 ls [])) {x1 : Int32} {x2 : Int32} {x4 : Int32} {x5 : Int64} {w : zW} {H : Heap} {locs : List Loc} {ls : Array Slot} (hf : fX12_cutAll_J218 k g17 x1 x2 x4 x5 w) (hR : zSt D dA true ad0 al0 ad al w s H locs) (hl : lv_has ls 7 [(0, .ref (ad 200)), (1, .int x1), (2, .int x2), (4, .int x4), (5, .long x5)]) : W p l e R s m args below meth c H locs cells slots Q (F0 m 218 ls []) := by
  have hx := X.1
  have hb := X.2.1
  have hml := X.2.2.1
  have hown := X.2.2.2.1
  have hts := X.2.2.2.2.1
  unfold fX12_cutAll_J218 at hf
  refine lv_aload_n hx hb dX12_cutAll_218 rfl (lv_at hl 0 rfl) ?_
  refine z_getS X hR (zlit hR zf_200) zs_200 (by decide) zfd_X12_24 rfl (r := 204) (by decide +kernel) dX12_cutAll_219 ?_
  refine lv_iload_n hx hb dX12_cutAll_222 rfl (lv_at hl 1 rfl) ?_
  refine lv_iload_n hx hb dX12_cutAll_223 rfl (lv_at hl 2 rfl) ?_
  refine lv_iload hx hb dX12_cutAll_224 (lv_at hl 3 rfl) ?_
  refine lv_isub hx hb dX12_cutAll_226 ?_
  refine lv_iconst (v := (4 : Int32)) hx hb dX12_cutAll_227 (by decide) ?_
  have kJ27 : ∀ v27 : Int32, v27 = (if (x2 - x4) ≤ (4 : Int32) then (2 : Int32) else (4 : Int32)) → W p l e R s m args below meth c H locs cells slots Q (F0 m 236 ls (.int v27 :: .int x1 :: .ref (ad 204) :: [])) := by
    intro v27 hv27
    replace hf := hf v27 hv27
    exact mX12_cutAll_J236 X hr hQ hg17 hf hR (lv_sub hl [0, 1, 2, 4] rfl)
  refine lv_icmp_le (tgt := 235) hx hb dX12_cutAll_228 (by decide) (fun c27 => ?_) (fun c27 => ?_)
  · refine lv_iconst (v := (2 : Int32)) hx hb dX12_cutAll_235 (by decide) ?_
    exact kJ27 _ (if_pos c27).symm
  · refine lv_iconst (v := (4 : Int32)) hx hb dX12_cutAll_231 (by decide) ?_
    refine lv_goto (tgt := 236) hx hb dX12_cutAll_232 (by decide) ?_
    exact kJ27 _ (if_neg c27).symm
def fX12_cutAll_L159 (k : zW → Prop) (g17 : Int32 → Int32 → zW → Prop) : Nat → Int32 → Int32 → Int32 → Int64 → zW → Prop
  | 0 => fun _ _ _ _ _ => False
  | n + 1 => fun x1 x2 x4 x5 w =>
    (((gI w 200 3) ≤ x2 →
      fX12_cutAll_J218 k g17 x1 x2 x4 x5 w) ∧
     (¬ (gI w 200 3) ≤ x2 →
      vp_in x2 1000 ∧ 
      fX12_isDigit (gI w 201 x2.toNatClampNeg) w (fun r31 w31 =>
      ((r31 = 0 →
        fX12_cutAll_J218 k g17 x1 x2 x4 x5 w31) ∧
       (¬ r31 = 0 →
        (((4 : Int32) ≤ (x2 - x4) →
          fX12_cutAll_L159 k g17 n x1 (x2 + (1 : Int32)) x4 x5 w31) ∧
         (¬ (4 : Int32) ≤ (x2 - x4) →
          ∀ v34 : Int64, v34 = (((10 : Int64) * x5) + ((gI w31 201 x2.toNatClampNeg).toInt64)) - (48 : Int64) →
          fX12_cutAll_L159 k g17 n x1 (x2 + (1 : Int32)) x4 v34 w31)))))))
set_option maxHeartbeats 4000000 in
set_option maxRecDepth 100000 in
theorem mX12_cutAll_L159 {k : zW → Prop} {g17 : Int32 → Int32 → zW → Prop} (X : zCx p s m args meth c cX12_cutAll 7 RX12 none) (hr : zRm R 2 cells slots) (hQ : zRetV p l e R s m args below meth c cells slots Q D dA true ad0 al0 ad al cX12_cutAll k) (hg17 : ∀ (x1 : Int32) (x2 : Int32) (w : zW) (H : Heap) (locs : List Loc) (ls : Array Slot), g17 x1 x2 w → zSt D dA true ad0 al0 ad al w s H locs → lv_has ls 7 [(0, .ref (ad 200)), (1, .int x1), (2, .int x2)] → W p l e R s m args below meth c H locs cells slots Q (F0 m 17 ls [])) : ∀ (n : Nat) (x1 : Int32) (x2 : Int32) (x4 : Int32) (x5 : Int64) (w : zW) (H : Heap) (locs : List Loc) (ls : Array Slot), fX12_cutAll_L159 k g17 n x1 x2 x4 x5 w → zSt D dA true ad0 al0 ad al w s H locs → lv_has ls 7 [(0, .ref (ad 200)), (1, .int x1), (2, .int x2), (4, .int x4), (5, .long x5)] → W p l e R s m args below meth c H locs cells slots Q (F0 m 159 ls []) := by
  intro n
  induction n with
  | zero => exact fun _ _ _ _ _ _ _ _ hf => hf.elim
  | succ n ih =>
    intro x1 x2 x4 x5 w H locs ls hf hR hl
    have hx := X.1
    have hb := X.2.1
    have hml := X.2.2.1
    have hown := X.2.2.2.1
    have hts := X.2.2.2.2.1
    rw [fX12_cutAll_L159] at hf
    refine lv_iload_n hx hb dX12_cutAll_159 rfl (lv_at hl 2 rfl) ?_
    refine lv_aload_n hx hb dX12_cutAll_160 rfl (lv_at hl 0 rfl) ?_
    refine z_getI X hR (zlit hR zf_200) zs_200 (by decide) zfd_X12_163 rfl dX12_cutAll_161 ?_
    refine lv_icmp_ge (tgt := 218) hx hb dX12_cutAll_164 (by decide) (fun c26 => ?_) (fun c26 => ?_)
    · replace hf := hf.1 c26
      exact mX12_cutAll_J218 X hr hQ hg17 hf hR (lv_sub hl [0, 1, 2, 3, 4] rfl)
    · replace hf := hf.2 c26
      refine lv_aload_n hx hb dX12_cutAll_167 rfl (lv_at hl 0 rfl) ?_
      refine z_getS X hR (zlit hR zf_200) zs_200 (by decide) zfd_X12_14 rfl (r := 201) (by decide +kernel) dX12_cutAll_168 ?_
      refine lv_iload_n hx hb dX12_cutAll_171 rfl (lv_at hl 2 rfl) ?_
      obtain ⟨hb30, hf⟩ := hf
      refine z_iald X hR (zlit hR zf_201) zs_201 zl_201 hb30 dX12_cutAll_172 ?_
      refine z_callSI (fr1 := 0) (As := [.int (gI w 201 x2.toNatClampNeg)]) (rest := []) X (hr.le (by decide)) hR zy_X12_isDigit zq_601 (mX12_isDigit  hf) rfl hl (Nat.le_of_ble_eq_true rfl) dX12_cutAll_173 rfl (fun r31 w31 H locs hf hR => ?_)
      refine lv_if_eq (tgt := 218) hx hb dX12_cutAll_176 (by decide) (fun c32 => ?_) (fun c32 => ?_)
      · replace hf := hf.1 c32
        exact mX12_cutAll_J218 X hr hQ hg17 hf hR (lv_sub hl [0, 1, 2, 3, 4] rfl)
      · replace hf := hf.2 c32
        refine lv_iload_n hx hb dX12_cutAll_179 rfl (lv_at hl 2 rfl) ?_
        refine lv_iload hx hb dX12_cutAll_180 (lv_at hl 3 rfl) ?_
        refine lv_isub hx hb dX12_cutAll_182 ?_
        refine lv_iconst (v := (4 : Int32)) hx hb dX12_cutAll_183 (by decide) ?_
        refine lv_icmp_ge (tgt := 208) hx hb dX12_cutAll_184 (by decide) (fun c33 => ?_) (fun c33 => ?_)
        · replace hf := hf.1 c33
          refine lv_lload hx hb dX12_cutAll_208 (lv_at hl 4 rfl) ?_
          refine lv_lstore (lv' := [(5, .long x5), (0, .ref (ad 200)), (1, .int x1), (2, .int x2), (4, .int x4)]) hx hb dX12_cutAll_210 hl (by decide) rfl (fun ls hl => ?_)
          refine lv_iinc (v := x2 + (1 : Int32)) (lv' := [(2, .int (x2 + (1 : Int32))), (5, .long x5), (0, .ref (ad 200)), (1, .int x1), (4, .int x4)]) hx hb dX12_cutAll_212 hl (k := 3) rfl rfl (by decide) rfl (fun ls hl => ?_)
          refine lv_goto (tgt := 159) hx hb dX12_cutAll_215 (by decide) ?_
          exact ih x1 (x2 + (1 : Int32)) x4 x5 w31 _ _ _ hf hR (lv_sub hl [2, 3, 0, 4, 1] rfl)
        · replace hf := hf.2 c33
          refine lv_ldc2 (v := (10 : Int64)) hx hb hown (hts _ zq_593) dX12_cutAll_187 ?_
          refine lv_lload hx hb dX12_cutAll_190 (lv_at hl 4 rfl) ?_
          refine lv_lmul hx hb dX12_cutAll_192 ?_
          refine lv_aload_n hx hb dX12_cutAll_193 rfl (lv_at hl 0 rfl) ?_
          refine z_getS X hR (zlit hR zf_200) zs_200 (by decide) zfd_X12_14 rfl (r := 201) (by decide +kernel) dX12_cutAll_194 ?_
          refine lv_iload_n hx hb dX12_cutAll_197 rfl (lv_at hl 2 rfl) ?_
          refine z_iald X hR (zlit hR zf_201) zs_201 zl_201 hb30 dX12_cutAll_198 ?_
          refine lv_i2l hx hb dX12_cutAll_199 rfl ?_
          refine lv_ladd hx hb dX12_cutAll_200 ?_
          refine lv_ldc2 (v := (48 : Int64)) hx hb hown (hts _ zq_594) dX12_cutAll_201 ?_
          refine lv_lsub hx hb dX12_cutAll_204 ?_
          refine lv_goto (tgt := 210) hx hb dX12_cutAll_205 (by decide) ?_
          refine lv_topl (fun v34 hv34 => ?_)
          replace hf := hf v34 hv34
          refine lv_lstore (lv' := [(5, .long v34), (0, .ref (ad 200)), (1, .int x1), (2, .int x2), (4, .int x4)]) hx hb dX12_cutAll_210 hl (by decide) rfl (fun ls hl => ?_)
          refine lv_iinc (v := x2 + (1 : Int32)) (lv' := [(2, .int (x2 + (1 : Int32))), (5, .long v34), (0, .ref (ad 200)), (1, .int x1), (4, .int x4)]) hx hb dX12_cutAll_212 hl (k := 3) rfl rfl (by decide) rfl (fun ls hl => ?_)
          refine lv_goto (tgt := 159) hx hb dX12_cutAll_215 (by decide) ?_
          exact ih x1 (x2 + (1 : Int32)) x4 v34 w31 _ _ _ hf hR (lv_sub hl [2, 3, 0, 4, 1] rfl)
def fX12_cutAll_J148 (k : zW → Prop) (g17 : Int32 → Int32 → zW → Prop) (x1 : Int32) (x2 : Int32) (x5 : Int64) (t0 : Int32) (t1 : Int32) (w : zW) : Prop :=
  vp_in t1 1002 ∧ 
  ∀ w38 : zW, w38 = sI w 204 t1.toNatClampNeg t0 →
  fX12_cutAll_J265 k g17 x1 x2 x5 w38
set_option maxHeartbeats 4000000 in
set_option maxRecDepth 100000 in
theorem mX12_cutAll_J148 {k : zW → Prop} {g17 : Int32 → Int32 → zW → Prop} (X : zCx p s m args meth c cX12_cutAll 7 RX12 none) (hr : zRm R 2 cells slots) (hQ : zRetV p l e R s m args below meth c cells slots Q D dA true ad0 al0 ad al cX12_cutAll k) (hg17 : ∀ (x1 : Int32) (x2 : Int32) (w : zW) (H : Heap) (locs : List Loc) (ls : Array Slot), g17 x1 x2 w → zSt D dA true ad0 al0 ad al w s H locs → lv_has ls 7 [(0, .ref (ad 200)), (1, .int x1), (2, .int x2)] → W p l e R s m args below meth c H locs cells slots Q (F0 m 17 ls [])) {x1 : Int32} {x2 : Int32} {x5 : Int64} {t0 : Int32} {t1 : Int32} {w : zW} {H : Heap} {locs : List Loc} {ls : Array Slot} (hf : fX12_cutAll_J148 k g17 x1 x2 x5 t0 t1 w) (hR : zSt D dA true ad0 al0 ad al w s H locs) (hl : lv_has ls 7 [(0, .ref (ad 200)), (1, .int x1), (2, .int x2), (5, .long x5)]) : W p l e R s m args below meth c H locs cells slots Q (F0 m 148 ls [.int t0, .int t1, .ref (ad 204)]) := by
  have hx := X.1
  have hb := X.2.1
  have hml := X.2.2.1
  have hown := X.2.2.2.1
  have hts := X.2.2.2.2.1
  unfold fX12_cutAll_J148 at hf
  obtain ⟨hb37, hf⟩ := hf
  refine z_iast X hR (zlit hR zf_204) zs_204 zl_204 hb37 dX12_cutAll_148 (fun H locs hR => ?_)
  obtain ⟨w38, hw38⟩ : ∃ z : zW, z = sI w 204 t1.toNatClampNeg t0 := ⟨_, rfl⟩
  rw [← hw38] at hR
  replace hf := hf w38 hw38
  refine lv_goto (tgt := 265) hx hb dX12_cutAll_149 (by decide) ?_
  exact mX12_cutAll_J265 X hr hQ hg17 hf hR (lv_sub hl [0, 1, 2, 3] rfl)
def fX12_cutAll_J129 (k : zW → Prop) (g17 : Int32 → Int32 → zW → Prop) (x1 : Int32) (x2 : Int32) (x4 : Int32) (x5 : Int64) (w : zW) : Prop :=
  ∀ v36 : Int32, v36 = (if (x2 - x4) ≤ (8 : Int32) then (1 : Int32) else (4 : Int32)) →
  fX12_cutAll_J148 k g17 x1 x2 x5 v36 x1 w
set_option maxHeartbeats 4000000 in
set_option maxRecDepth 100000 in
theorem mX12_cutAll_J129 {k : zW → Prop} {g17 : Int32 → Int32 → zW → Prop} (X : zCx p s m args meth c cX12_cutAll 7 RX12 none) (hr : zRm R 2 cells slots) (hQ : zRetV p l e R s m args below meth c cells slots Q D dA true ad0 al0 ad al cX12_cutAll k) (hg17 : ∀ (x1 : Int32) (x2 : Int32) (w : zW) (H : Heap) (locs : List Loc) (ls : Array Slot), g17 x1 x2 w → zSt D dA true ad0 al0 ad al w s H locs → lv_has ls 7 [(0, .ref (ad 200)), (1, .int x1), (2, .int x2)] → W p l e R s m args below meth c H locs cells slots Q (F0 m 17 ls [])) {x1 : Int32} {x2 : Int32} {x4 : Int32} {x5 : Int64} {w : zW} {H : Heap} {locs : List Loc} {ls : Array Slot} (hf : fX12_cutAll_J129 k g17 x1 x2 x4 x5 w) (hR : zSt D dA true ad0 al0 ad al w s H locs) (hl : lv_has ls 7 [(0, .ref (ad 200)), (1, .int x1), (2, .int x2), (4, .int x4), (5, .long x5)]) : W p l e R s m args below meth c H locs cells slots Q (F0 m 129 ls []) := by
  have hx := X.1
  have hb := X.2.1
  have hml := X.2.2.1
  have hown := X.2.2.2.1
  have hts := X.2.2.2.2.1
  unfold fX12_cutAll_J129 at hf
  refine lv_aload_n hx hb dX12_cutAll_129 rfl (lv_at hl 0 rfl) ?_
  refine z_getS X hR (zlit hR zf_200) zs_200 (by decide) zfd_X12_24 rfl (r := 204) (by decide +kernel) dX12_cutAll_130 ?_
  refine lv_iload_n hx hb dX12_cutAll_133 rfl (lv_at hl 1 rfl) ?_
  refine lv_iload_n hx hb dX12_cutAll_134 rfl (lv_at hl 2 rfl) ?_
  refine lv_iload hx hb dX12_cutAll_135 (lv_at hl 3 rfl) ?_
  refine lv_isub hx hb dX12_cutAll_137 ?_
  refine lv_bipush (v := (8 : Int32)) hx hb dX12_cutAll_138 (by decide) ?_
  have kJ36 : ∀ v36 : Int32, v36 = (if (x2 - x4) ≤ (8 : Int32) then (1 : Int32) else (4 : Int32)) → W p l e R s m args below meth c H locs cells slots Q (F0 m 148 ls (.int v36 :: .int x1 :: .ref (ad 204) :: [])) := by
    intro v36 hv36
    replace hf := hf v36 hv36
    exact mX12_cutAll_J148 X hr hQ hg17 hf hR (lv_sub hl [0, 1, 2, 4] rfl)
  refine lv_icmp_le (tgt := 147) hx hb dX12_cutAll_140 (by decide) (fun c36 => ?_) (fun c36 => ?_)
  · refine lv_iconst (v := (1 : Int32)) hx hb dX12_cutAll_147 (by decide) ?_
    exact kJ36 _ (if_pos c36).symm
  · refine lv_iconst (v := (4 : Int32)) hx hb dX12_cutAll_143 (by decide) ?_
    refine lv_goto (tgt := 148) hx hb dX12_cutAll_144 (by decide) ?_
    exact kJ36 _ (if_neg c36).symm
def fX12_cutAll_L70 (k : zW → Prop) (g17 : Int32 → Int32 → zW → Prop) : Nat → Int32 → Int32 → Int32 → Int64 → zW → Prop
  | 0 => fun _ _ _ _ _ => False
  | n + 1 => fun x1 x2 x4 x5 w =>
    (((gI w 200 3) ≤ x2 →
      fX12_cutAll_J129 k g17 x1 x2 x4 x5 w) ∧
     (¬ (gI w 200 3) ≤ x2 →
      vp_in x2 1000 ∧ 
      fX12_isLetter (gI w 201 x2.toNatClampNeg) w (fun r40 w40 =>
      ((r40 = 0 →
        fX12_cutAll_J129 k g17 x1 x2 x4 x5 w40) ∧
       (¬ r40 = 0 →
        (((8 : Int32) ≤ (x2 - x4) →
          fX12_cutAll_L70 k g17 n x1 (x2 + (1 : Int32)) x4 x5 w40) ∧
         (¬ (8 : Int32) ≤ (x2 - x4) →
          fX12_rank (gI w40 201 x2.toNatClampNeg) w40 (fun r43 w43 =>
          ∀ v44 : Int64, v44 = ((37 : Int64) * x5) + r43.toInt64 →
          fX12_cutAll_L70 k g17 n x1 (x2 + (1 : Int32)) x4 v44 w43))))))))
set_option maxHeartbeats 4000000 in
set_option maxRecDepth 100000 in
theorem mX12_cutAll_L70 {k : zW → Prop} {g17 : Int32 → Int32 → zW → Prop} (X : zCx p s m args meth c cX12_cutAll 7 RX12 none) (hr : zRm R 2 cells slots) (hQ : zRetV p l e R s m args below meth c cells slots Q D dA true ad0 al0 ad al cX12_cutAll k) (hg17 : ∀ (x1 : Int32) (x2 : Int32) (w : zW) (H : Heap) (locs : List Loc) (ls : Array Slot), g17 x1 x2 w → zSt D dA true ad0 al0 ad al w s H locs → lv_has ls 7 [(0, .ref (ad 200)), (1, .int x1), (2, .int x2)] → W p l e R s m args below meth c H locs cells slots Q (F0 m 17 ls [])) : ∀ (n : Nat) (x1 : Int32) (x2 : Int32) (x4 : Int32) (x5 : Int64) (w : zW) (H : Heap) (locs : List Loc) (ls : Array Slot), fX12_cutAll_L70 k g17 n x1 x2 x4 x5 w → zSt D dA true ad0 al0 ad al w s H locs → lv_has ls 7 [(0, .ref (ad 200)), (1, .int x1), (2, .int x2), (4, .int x4), (5, .long x5)] → W p l e R s m args below meth c H locs cells slots Q (F0 m 70 ls []) := by
  intro n
  induction n with
  | zero => exact fun _ _ _ _ _ _ _ _ hf => hf.elim
  | succ n ih =>
    intro x1 x2 x4 x5 w H locs ls hf hR hl
    have hx := X.1
    have hb := X.2.1
    have hml := X.2.2.1
    have hown := X.2.2.2.1
    have hts := X.2.2.2.2.1
    rw [fX12_cutAll_L70] at hf
    refine lv_iload_n hx hb dX12_cutAll_70 rfl (lv_at hl 2 rfl) ?_
    refine lv_aload_n hx hb dX12_cutAll_71 rfl (lv_at hl 0 rfl) ?_
    refine z_getI X hR (zlit hR zf_200) zs_200 (by decide) zfd_X12_163 rfl dX12_cutAll_72 ?_
    refine lv_icmp_ge (tgt := 129) hx hb dX12_cutAll_75 (by decide) (fun c35 => ?_) (fun c35 => ?_)
    · replace hf := hf.1 c35
      exact mX12_cutAll_J129 X hr hQ hg17 hf hR (lv_sub hl [0, 1, 2, 3, 4] rfl)
    · replace hf := hf.2 c35
      refine lv_aload_n hx hb dX12_cutAll_78 rfl (lv_at hl 0 rfl) ?_
      refine z_getS X hR (zlit hR zf_200) zs_200 (by decide) zfd_X12_14 rfl (r := 201) (by decide +kernel) dX12_cutAll_79 ?_
      refine lv_iload_n hx hb dX12_cutAll_82 rfl (lv_at hl 2 rfl) ?_
      obtain ⟨hb39, hf⟩ := hf
      refine z_iald X hR (zlit hR zf_201) zs_201 zl_201 hb39 dX12_cutAll_83 ?_
      refine z_callSI (fr1 := 0) (As := [.int (gI w 201 x2.toNatClampNeg)]) (rest := []) X (hr.le (by decide)) hR zy_X12_isLetter zq_595 (mX12_isLetter  hf) rfl hl (Nat.le_of_ble_eq_true rfl) dX12_cutAll_84 rfl (fun r40 w40 H locs hf hR => ?_)
      refine lv_if_eq (tgt := 129) hx hb dX12_cutAll_87 (by decide) (fun c41 => ?_) (fun c41 => ?_)
      · replace hf := hf.1 c41
        exact mX12_cutAll_J129 X hr hQ hg17 hf hR (lv_sub hl [0, 1, 2, 3, 4] rfl)
      · replace hf := hf.2 c41
        refine lv_iload_n hx hb dX12_cutAll_90 rfl (lv_at hl 2 rfl) ?_
        refine lv_iload hx hb dX12_cutAll_91 (lv_at hl 3 rfl) ?_
        refine lv_isub hx hb dX12_cutAll_93 ?_
        refine lv_bipush (v := (8 : Int32)) hx hb dX12_cutAll_94 (by decide) ?_
        refine lv_icmp_ge (tgt := 119) hx hb dX12_cutAll_96 (by decide) (fun c42 => ?_) (fun c42 => ?_)
        · replace hf := hf.1 c42
          refine lv_lload hx hb dX12_cutAll_119 (lv_at hl 4 rfl) ?_
          refine lv_lstore (lv' := [(5, .long x5), (0, .ref (ad 200)), (1, .int x1), (2, .int x2), (4, .int x4)]) hx hb dX12_cutAll_121 hl (by decide) rfl (fun ls hl => ?_)
          refine lv_iinc (v := x2 + (1 : Int32)) (lv' := [(2, .int (x2 + (1 : Int32))), (5, .long x5), (0, .ref (ad 200)), (1, .int x1), (4, .int x4)]) hx hb dX12_cutAll_123 hl (k := 3) rfl rfl (by decide) rfl (fun ls hl => ?_)
          refine lv_goto (tgt := 70) hx hb dX12_cutAll_126 (by decide) ?_
          exact ih x1 (x2 + (1 : Int32)) x4 x5 w40 _ _ _ hf hR (lv_sub hl [2, 3, 0, 4, 1] rfl)
        · replace hf := hf.2 c42
          refine lv_ldc2 (v := (37 : Int64)) hx hb hown (hts _ zq_592) dX12_cutAll_99 ?_
          refine lv_lload hx hb dX12_cutAll_102 (lv_at hl 4 rfl) ?_
          refine lv_lmul hx hb dX12_cutAll_104 ?_
          refine lv_aload_n hx hb dX12_cutAll_105 rfl (lv_at hl 0 rfl) ?_
          refine z_getS X hR (zlit hR zf_200) zs_200 (by decide) zfd_X12_14 rfl (r := 201) (by decide +kernel) dX12_cutAll_106 ?_
          refine lv_iload_n hx hb dX12_cutAll_109 rfl (lv_at hl 2 rfl) ?_
          refine z_iald X hR (zlit hR zf_201) zs_201 zl_201 hb39 dX12_cutAll_110 ?_
          refine z_callSI (fr1 := 1) (As := [.int (gI w40 201 x2.toNatClampNeg)]) (rest := [.long ((37 : Int64) * x5)]) X (hr.le (by decide)) hR zy_X12_rank zq_598 (mX12_rank  hf) rfl hl (Nat.le_of_ble_eq_true rfl) dX12_cutAll_111 rfl (fun r43 w43 H locs hf hR => ?_)
          refine lv_i2l hx hb dX12_cutAll_114 rfl ?_
          refine lv_ladd hx hb dX12_cutAll_115 ?_
          refine lv_goto (tgt := 121) hx hb dX12_cutAll_116 (by decide) ?_
          refine lv_topl (fun v44 hv44 => ?_)
          replace hf := hf v44 hv44
          refine lv_lstore (lv' := [(5, .long v44), (0, .ref (ad 200)), (1, .int x1), (2, .int x2), (4, .int x4)]) hx hb dX12_cutAll_121 hl (by decide) rfl (fun ls hl => ?_)
          refine lv_iinc (v := x2 + (1 : Int32)) (lv' := [(2, .int (x2 + (1 : Int32))), (5, .long v44), (0, .ref (ad 200)), (1, .int x1), (4, .int x4)]) hx hb dX12_cutAll_123 hl (k := 3) rfl rfl (by decide) rfl (fun ls hl => ?_)
          refine lv_goto (tgt := 70) hx hb dX12_cutAll_126 (by decide) ?_
          exact ih x1 (x2 + (1 : Int32)) x4 v44 w43 _ _ _ hf hR (lv_sub hl [2, 3, 0, 4, 1] rfl)
def fX12_cutAll_L17 (k : zW → Prop) : Nat → Int32 → Int32 → zW → Prop
  | 0 => fun _ _ _ => False
  | n + 1 => fun x1 x2 w =>
    (((gI w 200 3) ≤ x2 →
      vp_in x1 1002 ∧ 
      ∀ w5 : zW, w5 = sI w 204 x1.toNatClampNeg (0 : Int32) →
      ∀ w6 : zW, w6 = sI w5 205 x1.toNatClampNeg (gI w5 200 3) →
      ∀ w7 : zW, w7 = sI w6 200 7 (0 : Int32) →
      ∀ w8 : zW, w8 = sI w7 200 8 (0 : Int32) →
      k w8) ∧
     (¬ (gI w 200 3) ≤ x2 →
      vp_in x2 1000 ∧ 
      ∀ v10 : Int32, v10 = gI w 201 x2.toNatClampNeg →
      ((v10 = (10 : Int32) →
        fX12_cutAll_L17 k n x1 (x2 + (1 : Int32)) w) ∧
       (¬ v10 = (10 : Int32) →
        ((¬ v10 = (32 : Int32) →
          vp_in x1 1002 ∧ 
          ∀ w14 : zW, w14 = sI w 205 x1.toNatClampNeg x2 →
          fX12_isLetter v10 w14 (fun r15 w15 =>
          ((r15 = 0 →
            fX12_isDigit v10 w15 (fun r17 w17 =>
            ((r17 = 0 →
              ∀ v19 : Int64, v19 = v10.toInt64 →
              fX12_isSignOf v10 w17 (fun r20 w20 =>
              ∀ v21 : Int32, v21 = (if r20 = 0 then (4 : Int32) else (3 : Int32)) →
              fX12_cutAll_J261 k (fX12_cutAll_L17 k n) x1 x2 v19 v21 x1 w20)) ∧
             (¬ r17 = 0 →
              ∃ n9, fX12_cutAll_L159 k (fX12_cutAll_L17 k n) n9 x1 x2 x2 (0 : Int64) w17)))) ∧
           (¬ r15 = 0 →
            ∃ n9, fX12_cutAll_L70 k (fX12_cutAll_L17 k n) n9 x1 x2 x2 (0 : Int64) w15)))) ∧
         (v10 = (32 : Int32) →
          fX12_cutAll_L17 k n x1 (x2 + (1 : Int32)) w))))))
set_option maxHeartbeats 4000000 in
set_option maxRecDepth 100000 in
theorem mX12_cutAll_L17 {k : zW → Prop} (X : zCx p s m args meth c cX12_cutAll 7 RX12 none) (hr : zRm R 2 cells slots) (hQ : zRetV p l e R s m args below meth c cells slots Q D dA true ad0 al0 ad al cX12_cutAll k)  : ∀ (n : Nat) (x1 : Int32) (x2 : Int32) (w : zW) (H : Heap) (locs : List Loc) (ls : Array Slot), fX12_cutAll_L17 k n x1 x2 w → zSt D dA true ad0 al0 ad al w s H locs → lv_has ls 7 [(0, .ref (ad 200)), (1, .int x1), (2, .int x2)] → W p l e R s m args below meth c H locs cells slots Q (F0 m 17 ls []) := by
  intro n
  induction n with
  | zero => exact fun _ _ _ _ _ _ hf => hf.elim
  | succ n ih =>
    intro x1 x2 w H locs ls hf hR hl
    have hx := X.1
    have hb := X.2.1
    have hml := X.2.2.1
    have hown := X.2.2.2.1
    have hts := X.2.2.2.2.1
    rw [fX12_cutAll_L17] at hf
    refine lv_iload_n hx hb dX12_cutAll_17 rfl (lv_at hl 2 rfl) ?_
    refine lv_aload_n hx hb dX12_cutAll_18 rfl (lv_at hl 0 rfl) ?_
    refine z_getI X hR (zlit hR zf_200) zs_200 (by decide) zfd_X12_163 rfl dX12_cutAll_19 ?_
    refine lv_icmp_ge (tgt := 279) hx hb dX12_cutAll_22 (by decide) (fun c3 => ?_) (fun c3 => ?_)
    · replace hf := hf.1 c3
      refine lv_aload_n hx hb dX12_cutAll_279 rfl (lv_at hl 0 rfl) ?_
      refine z_getS X hR (zlit hR zf_200) zs_200 (by decide) zfd_X12_24 rfl (r := 204) (by decide +kernel) dX12_cutAll_280 ?_
      refine lv_iload_n hx hb dX12_cutAll_283 rfl (lv_at hl 1 rfl) ?_
      refine lv_iconst (v := (0 : Int32)) hx hb dX12_cutAll_284 (by decide) ?_
      obtain ⟨hb4, hf⟩ := hf
      refine z_iast X hR (zlit hR zf_204) zs_204 zl_204 hb4 dX12_cutAll_285 (fun H locs hR => ?_)
      obtain ⟨w5, hw5⟩ : ∃ z : zW, z = sI w 204 x1.toNatClampNeg (0 : Int32) := ⟨_, rfl⟩
      rw [← hw5] at hR
      replace hf := hf w5 hw5
      refine lv_aload_n hx hb dX12_cutAll_286 rfl (lv_at hl 0 rfl) ?_
      refine z_getS X hR (zlit hR zf_200) zs_200 (by decide) zfd_X12_27 rfl (r := 205) (by decide +kernel) dX12_cutAll_287 ?_
      refine lv_iload_n hx hb dX12_cutAll_290 rfl (lv_at hl 1 rfl) ?_
      refine lv_aload_n hx hb dX12_cutAll_291 rfl (lv_at hl 0 rfl) ?_
      refine z_getI X hR (zlit hR zf_200) zs_200 (by decide) zfd_X12_163 rfl dX12_cutAll_292 ?_
      refine z_iast X hR (zlit hR zf_205) zs_205 zl_205 hb4 dX12_cutAll_295 (fun H locs hR => ?_)
      obtain ⟨w6, hw6⟩ : ∃ z : zW, z = sI w5 205 x1.toNatClampNeg (gI w5 200 3) := ⟨_, rfl⟩
      rw [← hw6] at hR
      replace hf := hf w6 hw6
      refine lv_aload_n hx hb dX12_cutAll_296 rfl (lv_at hl 0 rfl) ?_
      refine lv_iconst (v := (0 : Int32)) hx hb dX12_cutAll_297 (by decide) ?_
      refine z_putI X hR (zlit hR zf_200) zs_200 (by decide) zfp_X12_182 rfl dX12_cutAll_298 (fun H locs hR => ?_)
      obtain ⟨w7, hw7⟩ : ∃ z : zW, z = sI w6 200 7 (0 : Int32) := ⟨_, rfl⟩
      rw [← hw7] at hR
      replace hf := hf w7 hw7
      refine lv_aload_n hx hb dX12_cutAll_301 rfl (lv_at hl 0 rfl) ?_
      refine lv_iconst (v := (0 : Int32)) hx hb dX12_cutAll_302 (by decide) ?_
      refine z_putI X hR (zlit hR zf_200) zs_200 (by decide) zfp_X12_185 rfl dX12_cutAll_303 (fun H locs hR => ?_)
      obtain ⟨w8, hw8⟩ : ∃ z : zW, z = sI w7 200 8 (0 : Int32) := ⟨_, rfl⟩
      rw [← hw8] at hR
      replace hf := hf w8 hw8
      exact hQ _ _ _ _ _ hf hR dX12_cutAll_306
    · replace hf := hf.2 c3
      refine lv_aload_n hx hb dX12_cutAll_25 rfl (lv_at hl 0 rfl) ?_
      refine z_getS X hR (zlit hR zf_200) zs_200 (by decide) zfd_X12_14 rfl (r := 201) (by decide +kernel) dX12_cutAll_26 ?_
      refine lv_iload_n hx hb dX12_cutAll_29 rfl (lv_at hl 2 rfl) ?_
      obtain ⟨hb9, hf⟩ := hf
      refine z_iald X hR (zlit hR zf_201) zs_201 zl_201 hb9 dX12_cutAll_30 ?_
      refine lv_topi (fun v10 hv10 => ?_)
      replace hf := hf v10 hv10
      refine lv_istore_n (lv' := [(3, .int v10), (0, .ref (ad 200)), (1, .int x1), (2, .int x2)]) hx hb dX12_cutAll_31 rfl hl (by decide) rfl (fun ls hl => ?_)
      refine lv_iload_n hx hb dX12_cutAll_32 rfl (lv_at hl 0 rfl) ?_
      refine lv_bipush (v := (10 : Int32)) hx hb dX12_cutAll_33 (by decide) ?_
      refine lv_icmp_eq (tgt := 44) hx hb dX12_cutAll_35 (by decide) (fun c11 => ?_) (fun c11 => ?_)
      · replace hf := hf.1 c11
        refine lv_iinc (v := x2 + (1 : Int32)) (lv' := [(2, .int (x2 + (1 : Int32))), (3, .int v10), (0, .ref (ad 200)), (1, .int x1)]) hx hb dX12_cutAll_44 hl (k := 3) rfl rfl (by decide) rfl (fun ls hl => ?_)
        refine lv_goto (tgt := 17) hx hb dX12_cutAll_47 (by decide) ?_
        exact ih x1 (x2 + (1 : Int32)) w _ _ _ hf hR (lv_sub hl [2, 3, 0] rfl)
      · replace hf := hf.2 c11
        refine lv_iload_n hx hb dX12_cutAll_38 rfl (lv_at hl 0 rfl) ?_
        refine lv_bipush (v := (32 : Int32)) hx hb dX12_cutAll_39 (by decide) ?_
        refine lv_icmp_ne (tgt := 50) hx hb dX12_cutAll_41 (by decide) (fun c12 => ?_) (fun c12 => ?_)
        · replace hf := hf.1 c12
          refine lv_iload_n hx hb dX12_cutAll_50 rfl (lv_at hl 3 rfl) ?_
          refine lv_istore (lv' := [(4, .int x2), (3, .int v10), (0, .ref (ad 200)), (1, .int x1), (2, .int x2)]) hx hb dX12_cutAll_51 hl (by decide) rfl (fun ls hl => ?_)
          refine lv_lconst (v := (0 : Int64)) hx hb dX12_cutAll_53 (by decide) ?_
          refine lv_lstore (lv' := [(5, .long (0 : Int64)), (4, .int x2), (3, .int v10), (0, .ref (ad 200)), (1, .int x1), (2, .int x2)]) hx hb dX12_cutAll_54 hl (by decide) rfl (fun ls hl => ?_)
          refine lv_aload_n hx hb dX12_cutAll_56 rfl (lv_at hl 3 rfl) ?_
          refine z_getS X hR (zlit hR zf_200) zs_200 (by decide) zfd_X12_27 rfl (r := 205) (by decide +kernel) dX12_cutAll_57 ?_
          refine lv_iload_n hx hb dX12_cutAll_60 rfl (lv_at hl 4 rfl) ?_
          refine lv_iload_n hx hb dX12_cutAll_61 rfl (lv_at hl 5 rfl) ?_
          obtain ⟨hb13, hf⟩ := hf
          refine z_iast X hR (zlit hR zf_205) zs_205 zl_205 hb13 dX12_cutAll_62 (fun H locs hR => ?_)
          obtain ⟨w14, hw14⟩ : ∃ z : zW, z = sI w 205 x1.toNatClampNeg x2 := ⟨_, rfl⟩
          rw [← hw14] at hR
          replace hf := hf w14 hw14
          refine lv_iload_n hx hb dX12_cutAll_63 rfl (lv_at hl 2 rfl) ?_
          refine z_callSI (fr1 := 0) (As := [.int v10]) (rest := []) X (hr.le (by decide)) hR zy_X12_isLetter zq_595 (mX12_isLetter  hf) rfl hl (Nat.le_of_ble_eq_true rfl) dX12_cutAll_64 rfl (fun r15 w15 H locs hf hR => ?_)
          refine lv_if_eq (tgt := 152) hx hb dX12_cutAll_67 (by decide) (fun c16 => ?_) (fun c16 => ?_)
          · replace hf := hf.1 c16
            refine lv_iload_n hx hb dX12_cutAll_152 rfl (lv_at hl 2 rfl) ?_
            refine z_callSI (fr1 := 0) (As := [.int v10]) (rest := []) X (hr.le (by decide)) hR zy_X12_isDigit zq_601 (mX12_isDigit  hf) rfl hl (Nat.le_of_ble_eq_true rfl) dX12_cutAll_153 rfl (fun r17 w17 H locs hf hR => ?_)
            refine lv_if_eq (tgt := 240) hx hb dX12_cutAll_156 (by decide) (fun c18 => ?_) (fun c18 => ?_)
            · replace hf := hf.1 c18
              refine lv_iload_n hx hb dX12_cutAll_240 rfl (lv_at hl 2 rfl) ?_
              refine lv_i2l hx hb dX12_cutAll_241 rfl ?_
              refine lv_topl (fun v19 hv19 => ?_)
              replace hf := hf v19 hv19
              refine lv_lstore (lv' := [(5, .long v19), (4, .int x2), (3, .int v10), (0, .ref (ad 200)), (1, .int x1), (2, .int x2)]) hx hb dX12_cutAll_242 hl (by decide) rfl (fun ls hl => ?_)
              refine lv_aload_n hx hb dX12_cutAll_244 rfl (lv_at hl 3 rfl) ?_
              refine z_getS X hR (zlit hR zf_200) zs_200 (by decide) zfd_X12_24 rfl (r := 204) (by decide +kernel) dX12_cutAll_245 ?_
              refine lv_iload_n hx hb dX12_cutAll_248 rfl (lv_at hl 4 rfl) ?_
              refine lv_iload_n hx hb dX12_cutAll_249 rfl (lv_at hl 2 rfl) ?_
              refine z_callSI (fr1 := 0) (As := [.int v10]) (rest := [.int x1, .ref (ad 204)]) X (hr.le (by decide)) hR zy_X12_isSignOf zq_604 (mX12_isSignOf  hf) rfl hl (Nat.le_of_ble_eq_true rfl) dX12_cutAll_250 rfl (fun r20 w20 H locs hf hR => ?_)
              have kJ21 : ∀ v21 : Int32, v21 = (if r20 = 0 then (4 : Int32) else (3 : Int32)) → W p l e R s m args below meth c H locs cells slots Q (F0 m 261 ls (.int v21 :: .int x1 :: .ref (ad 204) :: [])) := by
                intro v21 hv21
                replace hf := hf v21 hv21
                exact mX12_cutAll_J261 X hr hQ ih hf hR (lv_sub hl [3, 4, 5, 0] rfl)
              refine lv_if_eq (tgt := 260) hx hb dX12_cutAll_253 (by decide) (fun c21 => ?_) (fun c21 => ?_)
              · refine lv_iconst (v := (4 : Int32)) hx hb dX12_cutAll_260 (by decide) ?_
                exact kJ21 _ (if_pos c21).symm
              · refine lv_iconst (v := (3 : Int32)) hx hb dX12_cutAll_256 (by decide) ?_
                refine lv_goto (tgt := 261) hx hb dX12_cutAll_257 (by decide) ?_
                exact kJ21 _ (if_neg c21).symm
            · replace hf := hf.2 c18
              obtain ⟨n9, hf⟩ := hf
              exact mX12_cutAll_L159 X hr hQ ih n9 x1 x2 x2 (0 : Int64) w17 _ _ _ hf hR (lv_sub hl [3, 4, 5, 1, 0] rfl)
          · replace hf := hf.2 c16
            obtain ⟨n9, hf⟩ := hf
            exact mX12_cutAll_L70 X hr hQ ih n9 x1 x2 x2 (0 : Int64) w15 _ _ _ hf hR (lv_sub hl [3, 4, 5, 1, 0] rfl)
        · replace hf := hf.2 c12
          refine lv_iinc (v := x2 + (1 : Int32)) (lv' := [(2, .int (x2 + (1 : Int32))), (3, .int v10), (0, .ref (ad 200)), (1, .int x1)]) hx hb dX12_cutAll_44 hl (k := 3) rfl rfl (by decide) rfl (fun ls hl => ?_)
          refine lv_goto (tgt := 17) hx hb dX12_cutAll_47 (by decide) ?_
          exact ih x1 (x2 + (1 : Int32)) w _ _ _ hf hR (lv_sub hl [2, 3, 0] rfl)
def fX12_cutAll (w : zW) (k : zW → Prop) : Prop :=
  ∀ w1 : zW, w1 = sI w 200 3 (gI w 200 2) →
  ∀ w2 : zW, w2 = sI w1 200 2 (0 : Int32) →
  ∃ n9, fX12_cutAll_L17 k n9 (0 : Int32) (0 : Int32) w2
set_option maxHeartbeats 4000000 in
set_option maxRecDepth 100000 in
theorem mX12_cutAll {l : Launch} {D : va_G} {dA : Nat → ClassId} {ad : Nat → Nat} {al : Nat → Prop} {w : zW} {k : zW → Prop}   (hf : fX12_cutAll w k) : zmetV l yX12_cutAll cX12_cutAll 7 none 2 [.ref (ad 200)] D dA true ad al w k := by
  refine zmetV_of (by decide) (Nat.le_of_ble_eq_true rfl) ?_
  intro p e R s m below meth c Q H ls args locs cells slots X hr hQ hR hl
  have hx := X.1
  have hb := X.2.1
  have hml := X.2.2.1
  have hown := X.2.2.2.1
  have hts := X.2.2.2.2.1
  unfold fX12_cutAll at hf
  have hl : lv_has ls 7 [(0, .ref (ad 200))] := hl
  refine lv_aload_n hx hb dX12_cutAll_0 rfl (lv_at hl 0 rfl) ?_
  refine lv_aload_n hx hb dX12_cutAll_1 rfl (lv_at hl 0 rfl) ?_
  refine z_getI X hR (zlit hR zf_200) zs_200 (by decide) zfd_X12_11 rfl dX12_cutAll_2 ?_
  refine z_putI X hR (zlit hR zf_200) zs_200 (by decide) zfp_X12_163 rfl dX12_cutAll_5 (fun H locs hR => ?_)
  obtain ⟨w1, hw1⟩ : ∃ z : zW, z = sI w 200 3 (gI w 200 2) := ⟨_, rfl⟩
  rw [← hw1] at hR
  replace hf := hf w1 hw1
  refine lv_aload_n hx hb dX12_cutAll_8 rfl (lv_at hl 0 rfl) ?_
  refine lv_iconst (v := (0 : Int32)) hx hb dX12_cutAll_9 (by decide) ?_
  refine z_putI X hR (zlit hR zf_200) zs_200 (by decide) zfp_X12_11 rfl dX12_cutAll_10 (fun H locs hR => ?_)
  obtain ⟨w2, hw2⟩ : ∃ z : zW, z = sI w1 200 2 (0 : Int32) := ⟨_, rfl⟩
  rw [← hw2] at hR
  replace hf := hf w2 hw2
  refine lv_iconst (v := (0 : Int32)) hx hb dX12_cutAll_13 (by decide) ?_
  refine lv_istore_n (lv' := [(1, .int (0 : Int32)), (0, .ref (ad 200))]) hx hb dX12_cutAll_14 rfl hl (by decide) rfl (fun ls hl => ?_)
  refine lv_iconst (v := (0 : Int32)) hx hb dX12_cutAll_15 (by decide) ?_
  refine lv_istore_n (lv' := [(2, .int (0 : Int32)), (1, .int (0 : Int32)), (0, .ref (ad 200))]) hx hb dX12_cutAll_16 rfl hl (by decide) rfl (fun ls hl => ?_)
  obtain ⟨n9, hf⟩ := hf
  exact mX12_cutAll_L17 X hr hQ  n9 (0 : Int32) (0 : Int32) w2 _ _ _ hf hR (lv_sub hl [2, 1, 0] rfl)
/-! X12_takeWord -/
def fX12_takeWord (x1 : Int32) (w : zW) (k : zW → Prop) : Prop :=
  fX12_hasWord x1 w (fun r1 w1 =>
  ((¬ r1 = 0 →
    k w1) ∧
   (r1 = 0 →
    fX12_wrong (1 : Int32) w1 (fun w3 =>
    k w3))))
set_option maxHeartbeats 4000000 in
set_option maxRecDepth 100000 in
theorem mX12_takeWord {l : Launch} {D : va_G} {dA : Nat → ClassId} {ad : Nat → Nat} {al : Nat → Prop} {w : zW} {k : zW → Prop} {x1 : Int32}   (hf : fX12_takeWord x1 w k) : zmetV l yX12_takeWord cX12_takeWord 2 none 2 [.ref (ad 200), .int x1] D dA true ad al w k := by
  refine zmetV_of (by decide) (Nat.le_of_ble_eq_true rfl) ?_
  intro p e R s m below meth c Q H ls args locs cells slots X hr hQ hR hl
  have hx := X.1
  have hb := X.2.1
  have hml := X.2.2.1
  have hown := X.2.2.2.1
  have hts := X.2.2.2.2.1
  unfold fX12_takeWord at hf
  have hl : lv_has ls 2 [(0, .ref (ad 200)), (1, .int x1)] := hl
  refine lv_aload_n hx hb dX12_takeWord_0 rfl (lv_at hl 0 rfl) ?_
  refine lv_iload_n hx hb dX12_takeWord_1 rfl (lv_at hl 1 rfl) ?_
  refine z_callVI (fr1 := 1) (b := 200) (As := [.int x1]) (rest := []) X (hr.le (by decide)) hR zy_X12_hasWord zq_676 (zlit hR zf_200) (by rw [zs_200]; rfl) rfl (mX12_hasWord  hf) rfl hl (Nat.le_of_ble_eq_true rfl) dX12_takeWord_2 rfl (fun r1 w1 H locs hf hR => ?_)
  refine lv_if_ne (tgt := 13) hx hb dX12_takeWord_5 (by decide) (fun c2 => ?_) (fun c2 => ?_)
  · replace hf := hf.1 c2
    exact hQ _ _ _ _ _ hf hR dX12_takeWord_13
  · replace hf := hf.2 c2
    refine lv_aload_n hx hb dX12_takeWord_8 rfl (lv_at hl 0 rfl) ?_
    refine lv_iconst (v := (1 : Int32)) hx hb dX12_takeWord_9 (by decide) ?_
    refine z_callVV (fr1 := 0) (b := 200) (As := [.int (1 : Int32)]) (rest := []) X (hr.le (by decide)) hR zy_X12_wrong zq_619 (zlit hR zf_200) (by rw [zs_200]; rfl) rfl (mX12_wrong  hf) rfl hl (Nat.le_of_ble_eq_true rfl) dX12_takeWord_10 rfl (fun w3 H locs hf hR => ?_)
    exact hQ _ _ _ _ _ hf hR dX12_takeWord_13
/-! X12_within -/
def fX12_within (x0 : Int32) (x1 : Int32) (x2 : Int32) (w : zW) (k : Int32 → zW → Prop) : Prop :=
  ∀ v1 : Int32, v1 = (if x0 < x1 then (0 : Int32) else (if x2 < x0 then (0 : Int32) else (1 : Int32))) →
  zb01 v1 ∧ k v1 w
set_option maxHeartbeats 4000000 in
set_option maxRecDepth 100000 in
theorem mX12_within {l : Launch} {D : va_G} {dA : Nat → ClassId} {ad : Nat → Nat} {al : Nat → Prop} {w : zW} {k : Int32 → zW → Prop} {x0 : Int32} {x1 : Int32} {x2 : Int32}   (hf : fX12_within x0 x1 x2 w k) : zmetI l yX12_within cX12_within 3 (some .boolean) 0 [.int x0, .int x1, .int x2] D dA true ad al w k := by
  refine zmetZ_of (by decide) (Nat.le_of_ble_eq_true rfl) ?_
  intro p e R s m below meth c Q H ls args locs cells slots X hr hQ hR hl
  have hx := X.1
  have hb := X.2.1
  have hml := X.2.2.1
  have hown := X.2.2.2.1
  have hts := X.2.2.2.2.1
  unfold fX12_within at hf
  have hl : lv_has ls 3 [(0, .int x0), (1, .int x1), (2, .int x2)] := hl
  refine lv_iload_n hx hb dX12_within_0 rfl (lv_at hl 0 rfl) ?_
  refine lv_iload_n hx hb dX12_within_1 rfl (lv_at hl 1 rfl) ?_
  have kJ1 : ∀ v1 : Int32, v1 = (if x0 < x1 then (0 : Int32) else (if x2 < x0 then (0 : Int32) else (1 : Int32))) → W p l e R s m args below meth c H locs cells slots Q (F0 m 15 ls (.int v1 :: [])) := by
    intro v1 hv1
    replace hf := hf v1 hv1
    obtain ⟨h01, hf⟩ := hf
    exact hQ _ _ _ _ _ _ h01 hf hR dX12_within_15
  refine lv_icmp_lt (tgt := 14) hx hb dX12_within_2 (by decide) (fun c1 => ?_) (fun c1 => ?_)
  · refine lv_iconst (v := (0 : Int32)) hx hb dX12_within_14 (by decide) ?_
    exact kJ1 _ (if_pos c1).symm
  · refine lv_iload_n hx hb dX12_within_5 rfl (lv_at hl 0 rfl) ?_
    refine lv_iload_n hx hb dX12_within_6 rfl (lv_at hl 2 rfl) ?_
    refine lv_icmp_gt (tgt := 14) hx hb dX12_within_7 (by decide) (fun c2 => ?_) (fun c2 => ?_)
    · refine lv_iconst (v := (0 : Int32)) hx hb dX12_within_14 (by decide) ?_
      exact kJ1 _ ((if_neg c1).trans (if_pos c2)).symm
    · refine lv_iconst (v := (1 : Int32)) hx hb dX12_within_10 (by decide) ?_
      refine lv_goto (tgt := 15) hx hb dX12_within_11 (by decide) ?_
      exact kJ1 _ ((if_neg c1).trans (if_neg c2)).symm
/-! X12_takeOne -/
def fX12_takeOne_J51 (k : Int32 → zW → Prop) (x3 : Int32) (t0 : Int32) (t1 : Int32) (w : zW) : Prop :=
  ∀ w5 : zW, w5 = sI w 200 7 (t1 + t0) →
  ∀ v6 : Int32, v6 = (if (gI w5 200 8) ≤ 0 then x3 else (0 : Int32)) →
  k v6 w5
set_option maxHeartbeats 4000000 in
set_option maxRecDepth 100000 in
theorem mX12_takeOne_J51 {k : Int32 → zW → Prop} (X : zCx p s m args meth c cX12_takeOne 4 RX12 (some .int)) (hr : zRm R 2 cells slots) (hQ : zRetI p l e R s m args below meth c cells slots Q D dA true ad0 al0 ad al cX12_takeOne k)  {x3 : Int32} {t0 : Int32} {t1 : Int32} {w : zW} {H : Heap} {locs : List Loc} {ls : Array Slot} (hf : fX12_takeOne_J51 k x3 t0 t1 w) (hR : zSt D dA true ad0 al0 ad al w s H locs) (hl : lv_has ls 4 [(0, .ref (ad 200)), (3, .int x3)]) : W p l e R s m args below meth c H locs cells slots Q (F0 m 51 ls [.int t0, .int t1, .ref (ad 200)]) := by
  have hx := X.1
  have hb := X.2.1
  have hml := X.2.2.1
  have hown := X.2.2.2.1
  have hts := X.2.2.2.2.1
  unfold fX12_takeOne_J51 at hf
  refine lv_iadd hx hb dX12_takeOne_51 ?_
  refine z_putI X hR (zlit hR zf_200) zs_200 (by decide) zfp_X12_182 rfl dX12_takeOne_52 (fun H locs hR => ?_)
  obtain ⟨w5, hw5⟩ : ∃ z : zW, z = sI w 200 7 (t1 + t0) := ⟨_, rfl⟩
  rw [← hw5] at hR
  replace hf := hf w5 hw5
  refine lv_aload_n hx hb dX12_takeOne_55 rfl (lv_at hl 0 rfl) ?_
  refine z_getI X hR (zlit hR zf_200) zs_200 (by decide) zfd_X12_185 rfl dX12_takeOne_56 ?_
  have kJ6 : ∀ v6 : Int32, v6 = (if (gI w5 200 8) ≤ 0 then x3 else (0 : Int32)) → W p l e R s m args below meth c H locs cells slots Q (F0 m 67 ls (.int v6 :: [])) := by
    intro v6 hv6
    replace hf := hf v6 hv6
    exact hQ _ _ _ _ _ _ hf hR dX12_takeOne_67
  refine lv_if_le (tgt := 66) hx hb dX12_takeOne_59 (by decide) (fun c6 => ?_) (fun c6 => ?_)
  · refine lv_iload_n hx hb dX12_takeOne_66 rfl (lv_at hl 1 rfl) ?_
    exact kJ6 _ (if_pos c6).symm
  · refine lv_iconst (v := (0 : Int32)) hx hb dX12_takeOne_62 (by decide) ?_
    refine lv_goto (tgt := 67) hx hb dX12_takeOne_63 (by decide) ?_
    exact kJ6 _ (if_neg c6).symm
def fX12_takeOne_J34 (k : Int32 → zW → Prop) (x3 : Int32) (w : zW) : Prop :=
  ∀ v4 : Int32, v4 = (if (gI w 200 8) ≤ 0 then (1 : Int32) else (0 : Int32)) →
  fX12_takeOne_J51 k x3 v4 (gI w 200 7) w
set_option maxHeartbeats 4000000 in
set_option maxRecDepth 100000 in
theorem mX12_takeOne_J34 {k : Int32 → zW → Prop} (X : zCx p s m args meth c cX12_takeOne 4 RX12 (some .int)) (hr : zRm R 2 cells slots) (hQ : zRetI p l e R s m args below meth c cells slots Q D dA true ad0 al0 ad al cX12_takeOne k)  {x3 : Int32} {w : zW} {H : Heap} {locs : List Loc} {ls : Array Slot} (hf : fX12_takeOne_J34 k x3 w) (hR : zSt D dA true ad0 al0 ad al w s H locs) (hl : lv_has ls 4 [(0, .ref (ad 200)), (3, .int x3)]) : W p l e R s m args below meth c H locs cells slots Q (F0 m 34 ls []) := by
  have hx := X.1
  have hb := X.2.1
  have hml := X.2.2.1
  have hown := X.2.2.2.1
  have hts := X.2.2.2.2.1
  unfold fX12_takeOne_J34 at hf
  refine lv_aload_n hx hb dX12_takeOne_34 rfl (lv_at hl 0 rfl) ?_
  refine lv_dup hx hb dX12_takeOne_35 rfl ?_
  refine z_getI X hR (zlit hR zf_200) zs_200 (by decide) zfd_X12_182 rfl dX12_takeOne_36 ?_
  refine lv_aload_n hx hb dX12_takeOne_39 rfl (lv_at hl 0 rfl) ?_
  refine z_getI X hR (zlit hR zf_200) zs_200 (by decide) zfd_X12_185 rfl dX12_takeOne_40 ?_
  have kJ4 : ∀ v4 : Int32, v4 = (if (gI w 200 8) ≤ 0 then (1 : Int32) else (0 : Int32)) → W p l e R s m args below meth c H locs cells slots Q (F0 m 51 ls (.int v4 :: .int (gI w 200 7) :: .ref (ad 200) :: [])) := by
    intro v4 hv4
    replace hf := hf v4 hv4
    exact mX12_takeOne_J51 X hr hQ  hf hR (lv_sub hl [0, 1] rfl)
  refine lv_if_le (tgt := 50) hx hb dX12_takeOne_43 (by decide) (fun c4 => ?_) (fun c4 => ?_)
  · refine lv_iconst (v := (1 : Int32)) hx hb dX12_takeOne_50 (by decide) ?_
    exact kJ4 _ (if_pos c4).symm
  · refine lv_iconst (v := (0 : Int32)) hx hb dX12_takeOne_46 (by decide) ?_
    refine lv_goto (tgt := 51) hx hb dX12_takeOne_47 (by decide) ?_
    exact kJ4 _ (if_neg c4).symm
def fX12_takeOne_J17 (k : Int32 → zW → Prop) (t0 : Int32) (w : zW) : Prop :=
  ((¬ (gI w 200 8) = 0 →
    fX12_takeOne_J34 k t0 w) ∧
   ((gI w 200 8) = 0 →
    ((0 ≤ t0 →
      fX12_takeOne_J34 k t0 w) ∧
     (¬ 0 ≤ t0 →
      fX12_wrong (1 : Int32) w (fun w8 =>
      fX12_takeOne_J34 k t0 w8)))))
set_option maxHeartbeats 4000000 in
set_option maxRecDepth 100000 in
theorem mX12_takeOne_J17 {k : Int32 → zW → Prop} (X : zCx p s m args meth c cX12_takeOne 4 RX12 (some .int)) (hr : zRm R 2 cells slots) (hQ : zRetI p l e R s m args below meth c cells slots Q D dA true ad0 al0 ad al cX12_takeOne k)  {t0 : Int32} {w : zW} {H : Heap} {locs : List Loc} {ls : Array Slot} (hf : fX12_takeOne_J17 k t0 w) (hR : zSt D dA true ad0 al0 ad al w s H locs) (hl : lv_has ls 4 [(0, .ref (ad 200))]) : W p l e R s m args below meth c H locs cells slots Q (F0 m 17 ls [.int t0]) := by
  have hx := X.1
  have hb := X.2.1
  have hml := X.2.2.1
  have hown := X.2.2.2.1
  have hts := X.2.2.2.2.1
  unfold fX12_takeOne_J17 at hf
  refine lv_istore_n (lv' := [(3, .int t0), (0, .ref (ad 200))]) hx hb dX12_takeOne_17 rfl hl (by decide) rfl (fun ls hl => ?_)
  refine lv_aload_n hx hb dX12_takeOne_18 rfl (lv_at hl 1 rfl) ?_
  refine z_getI X hR (zlit hR zf_200) zs_200 (by decide) zfd_X12_185 rfl dX12_takeOne_19 ?_
  refine lv_if_ne (tgt := 34) hx hb dX12_takeOne_22 (by decide) (fun c3 => ?_) (fun c3 => ?_)
  · replace hf := hf.1 c3
    exact mX12_takeOne_J34 X hr hQ  hf hR (lv_sub hl [1, 0] rfl)
  · replace hf := hf.2 c3
    refine lv_iload_n hx hb dX12_takeOne_25 rfl (lv_at hl 0 rfl) ?_
    refine lv_if_ge (tgt := 34) hx hb dX12_takeOne_26 (by decide) (fun c7 => ?_) (fun c7 => ?_)
    · replace hf := hf.1 c7
      exact mX12_takeOne_J34 X hr hQ  hf hR (lv_sub hl [1, 0] rfl)
    · replace hf := hf.2 c7
      refine lv_aload_n hx hb dX12_takeOne_29 rfl (lv_at hl 1 rfl) ?_
      refine lv_iconst (v := (1 : Int32)) hx hb dX12_takeOne_30 (by decide) ?_
      refine z_callVV (fr1 := 0) (b := 200) (As := [.int (1 : Int32)]) (rest := []) X (hr.le (by decide)) hR zy_X12_wrong zq_619 (zlit hR zf_200) (by rw [zs_200]; rfl) rfl (mX12_wrong  hf) rfl hl (Nat.le_of_ble_eq_true rfl) dX12_takeOne_31 rfl (fun w8 H locs hf hR => ?_)
      exact mX12_takeOne_J34 X hr hQ  hf hR (lv_sub hl [1, 0] rfl)
def fX12_takeOne (x1 : Int32) (x2 : Int32) (w : zW) (k : Int32 → zW → Prop) : Prop :=
  (((gI w 200 8) ≤ 0 →
    fX12_wordHere x1 x2 w (fun r2 w2 =>
    fX12_takeOne_J17 k r2 w2)) ∧
   (¬ (gI w 200 8) ≤ 0 →
    fX12_takeOne_J17 k (-1 : Int32) w))
set_option maxHeartbeats 4000000 in
set_option maxRecDepth 100000 in
theorem mX12_takeOne {l : Launch} {D : va_G} {dA : Nat → ClassId} {ad : Nat → Nat} {al : Nat → Prop} {w : zW} {k : Int32 → zW → Prop} {x1 : Int32} {x2 : Int32}   (hf : fX12_takeOne x1 x2 w k) : zmetI l yX12_takeOne cX12_takeOne 4 (some .int) 2 [.ref (ad 200), .int x1, .int x2] D dA true ad al w k := by
  refine zmetI_of (by decide) (Nat.le_of_ble_eq_true rfl) ?_
  intro p e R s m below meth c Q H ls args locs cells slots X hr hQ hR hl
  have hx := X.1
  have hb := X.2.1
  have hml := X.2.2.1
  have hown := X.2.2.2.1
  have hts := X.2.2.2.2.1
  unfold fX12_takeOne at hf
  have hl : lv_has ls 4 [(0, .ref (ad 200)), (1, .int x1), (2, .int x2)] := hl
  refine lv_aload_n hx hb dX12_takeOne_0 rfl (lv_at hl 0 rfl) ?_
  refine z_getI X hR (zlit hR zf_200) zs_200 (by decide) zfd_X12_185 rfl dX12_takeOne_1 ?_
  refine lv_if_le (tgt := 11) hx hb dX12_takeOne_4 (by decide) (fun c1 => ?_) (fun c1 => ?_)
  · replace hf := hf.1 c1
    refine lv_aload_n hx hb dX12_takeOne_11 rfl (lv_at hl 0 rfl) ?_
    refine lv_iload_n hx hb dX12_takeOne_12 rfl (lv_at hl 1 rfl) ?_
    refine lv_iload_n hx hb dX12_takeOne_13 rfl (lv_at hl 2 rfl) ?_
    refine z_callVI (fr1 := 1) (b := 200) (As := [.int x1, .int x2]) (rest := []) X (hr.le (by decide)) hR zy_X12_wordHere zq_627 (zlit hR zf_200) (by rw [zs_200]; rfl) rfl (mX12_wordHere  hf) rfl hl (Nat.le_of_ble_eq_true rfl) dX12_takeOne_14 rfl (fun r2 w2 H locs hf hR => ?_)
    exact mX12_takeOne_J17 X hr hQ  hf hR (lv_sub hl [0] rfl)
  · replace hf := hf.2 c1
    refine lv_iconst (v := (-1 : Int32)) hx hb dX12_takeOne_7 (by decide) ?_
    refine lv_goto (tgt := 17) hx hb dX12_takeOne_8 (by decide) ?_
    exact mX12_takeOne_J17 X hr hQ  hf hR (lv_sub hl [0] rfl)
/-! X12_isOnce -/
def fX12_isOnce (x1 : Int32) (w : zW) (k : Int32 → zW → Prop) : Prop :=
  ((¬ (((gI w 210 (54 : Int32).toNatClampNeg) >>> (x1 &&& 31)) &&& (1 : Int32)) = (1 : Int32) →
    ∀ w2 : zW, w2 = sI w 210 (54 : Int32).toNatClampNeg ((gI w 210 (54 : Int32).toNatClampNeg) ||| ((1 : Int32) <<< (x1 &&& 31))) →
    ∀ w3 : zW, w3 = sI w2 200 7 ((gI w2 200 7) + (1 : Int32)) →
    k (1 : Int32) w3) ∧
   ((((gI w 210 (54 : Int32).toNatClampNeg) >>> (x1 &&& 31)) &&& (1 : Int32)) = (1 : Int32) →
    fX12_wrong (3 : Int32) w (fun w4 =>
    k (0 : Int32) w4)))
set_option maxHeartbeats 4000000 in
set_option maxRecDepth 100000 in
theorem mX12_isOnce {l : Launch} {D : va_G} {dA : Nat → ClassId} {ad : Nat → Nat} {al : Nat → Prop} {w : zW} {k : Int32 → zW → Prop} {x1 : Int32}   (hf : fX12_isOnce x1 w k) : zmetI l yX12_isOnce cX12_isOnce 2 (some .boolean) 1 [.ref (ad 200), .int x1] D dA true ad al w k := by
  refine zmetZ_of (by decide) (Nat.le_of_ble_eq_true rfl) ?_
  intro p e R s m below meth c Q H ls args locs cells slots X hr hQ hR hl
  have hx := X.1
  have hb := X.2.1
  have hml := X.2.2.1
  have hown := X.2.2.2.1
  have hts := X.2.2.2.2.1
  unfold fX12_isOnce at hf
  have hl : lv_has ls 2 [(0, .ref (ad 200)), (1, .int x1)] := hl
  refine lv_aload_n hx hb dX12_isOnce_0 rfl (lv_at hl 0 rfl) ?_
  refine z_getS X hR (zlit hR zf_200) zs_200 (by decide) zfd_X12_79 rfl (r := 210) (by decide +kernel) dX12_isOnce_1 ?_
  refine lv_bipush (v := (54 : Int32)) hx hb dX12_isOnce_4 (by decide) ?_
  refine z_iald X hR (zlit hR zf_210) zs_210 zl_210 (zin (by decide)) dX12_isOnce_6 ?_
  refine lv_iload_n hx hb dX12_isOnce_7 rfl (lv_at hl 1 rfl) ?_
  refine lv_ishr hx hb dX12_isOnce_8 ?_
  refine lv_iconst (v := (1 : Int32)) hx hb dX12_isOnce_9 (by decide) ?_
  refine lv_iand hx hb dX12_isOnce_10 ?_
  refine lv_iconst (v := (1 : Int32)) hx hb dX12_isOnce_11 (by decide) ?_
  refine lv_icmp_ne (tgt := 22) hx hb dX12_isOnce_12 (by decide) (fun c1 => ?_) (fun c1 => ?_)
  · replace hf := hf.1 c1
    refine lv_aload_n hx hb dX12_isOnce_22 rfl (lv_at hl 0 rfl) ?_
    refine z_getS X hR (zlit hR zf_200) zs_200 (by decide) zfd_X12_79 rfl (r := 210) (by decide +kernel) dX12_isOnce_23 ?_
    refine lv_bipush (v := (54 : Int32)) hx hb dX12_isOnce_26 (by decide) ?_
    refine lv_dup2_11 hx hb dX12_isOnce_28 rfl rfl ?_
    refine z_iald X hR (zlit hR zf_210) zs_210 zl_210 (zin (by decide)) dX12_isOnce_29 ?_
    refine lv_iconst (v := (1 : Int32)) hx hb dX12_isOnce_30 (by decide) ?_
    refine lv_iload_n hx hb dX12_isOnce_31 rfl (lv_at hl 1 rfl) ?_
    refine lv_ishl hx hb dX12_isOnce_32 ?_
    refine lv_ior hx hb dX12_isOnce_33 ?_
    refine z_iast X hR (zlit hR zf_210) zs_210 zl_210 (zin (by decide)) dX12_isOnce_34 (fun H locs hR => ?_)
    obtain ⟨w2, hw2⟩ : ∃ z : zW, z = sI w 210 (54 : Int32).toNatClampNeg ((gI w 210 (54 : Int32).toNatClampNeg) ||| ((1 : Int32) <<< (x1 &&& 31))) := ⟨_, rfl⟩
    rw [← hw2] at hR
    replace hf := hf w2 hw2
    refine lv_aload_n hx hb dX12_isOnce_35 rfl (lv_at hl 0 rfl) ?_
    refine lv_dup hx hb dX12_isOnce_36 rfl ?_
    refine z_getI X hR (zlit hR zf_200) zs_200 (by decide) zfd_X12_182 rfl dX12_isOnce_37 ?_
    refine lv_iconst (v := (1 : Int32)) hx hb dX12_isOnce_40 (by decide) ?_
    refine lv_iadd hx hb dX12_isOnce_41 ?_
    refine z_putI X hR (zlit hR zf_200) zs_200 (by decide) zfp_X12_182 rfl dX12_isOnce_42 (fun H locs hR => ?_)
    obtain ⟨w3, hw3⟩ : ∃ z : zW, z = sI w2 200 7 ((gI w2 200 7) + (1 : Int32)) := ⟨_, rfl⟩
    rw [← hw3] at hR
    replace hf := hf w3 hw3
    refine lv_iconst (v := (1 : Int32)) hx hb dX12_isOnce_45 (by decide) ?_
    exact hQ _ _ _ _ _ _ zb01_1 hf hR dX12_isOnce_46
  · replace hf := hf.2 c1
    refine lv_aload_n hx hb dX12_isOnce_15 rfl (lv_at hl 0 rfl) ?_
    refine lv_iconst (v := (3 : Int32)) hx hb dX12_isOnce_16 (by decide) ?_
    refine z_callVV (fr1 := 0) (b := 200) (As := [.int (3 : Int32)]) (rest := []) X (hr.le (by decide)) hR zy_X12_wrong zq_619 (zlit hR zf_200) (by rw [zs_200]; rfl) rfl (mX12_wrong  hf) rfl hl (Nat.le_of_ble_eq_true rfl) dX12_isOnce_17 rfl (fun w4 H locs hf hR => ?_)
    refine lv_iconst (v := (0 : Int32)) hx hb dX12_isOnce_20 (by decide) ?_
    exact hQ _ _ _ _ _ _ zb01_0 hf hR dX12_isOnce_21
/-! X12_readRow -/
def fX12_readRow_J114 (k : zW → Prop) (x1 : Int32) (w : zW) : Prop :=
  vp_in ((46 : Int32) + x1) 60 ∧ 
  ∀ w11 : zW, w11 = sI w 210 ((46 : Int32) + x1).toNatClampNeg (gI w 200 16) →
  ∀ w12 : zW, w12 = sI w11 210 (32 : Int32).toNatClampNeg ((gI w11 210 (32 : Int32).toNatClampNeg) + (1 : Int32)) →
  k w12
set_option maxHeartbeats 4000000 in
set_option maxRecDepth 100000 in
theorem mX12_readRow_J114 {k : zW → Prop} (X : zCx p s m args meth c cX12_readRow 3 RX12 none) (hr : zRm R 16 cells slots) (hQ : zRetV p l e R s m args below meth c cells slots Q D dA true ad0 al0 ad al cX12_readRow k)  {x1 : Int32} {w : zW} {H : Heap} {locs : List Loc} {ls : Array Slot} (hf : fX12_readRow_J114 k x1 w) (hR : zSt D dA true ad0 al0 ad al w s H locs) (hl : lv_has ls 3 [(0, .ref (ad 200)), (1, .int x1)]) : W p l e R s m args below meth c H locs cells slots Q (F0 m 114 ls []) := by
  have hx := X.1
  have hb := X.2.1
  have hml := X.2.2.1
  have hown := X.2.2.2.1
  have hts := X.2.2.2.2.1
  unfold fX12_readRow_J114 at hf
  refine lv_aload_n hx hb dX12_readRow_114 rfl (lv_at hl 0 rfl) ?_
  refine z_getS X hR (zlit hR zf_200) zs_200 (by decide) zfd_X12_79 rfl (r := 210) (by decide +kernel) dX12_readRow_115 ?_
  refine lv_bipush (v := (46 : Int32)) hx hb dX12_readRow_118 (by decide) ?_
  refine lv_iload_n hx hb dX12_readRow_120 rfl (lv_at hl 1 rfl) ?_
  refine lv_iadd hx hb dX12_readRow_121 ?_
  refine lv_aload_n hx hb dX12_readRow_122 rfl (lv_at hl 0 rfl) ?_
  refine z_getI X hR (zlit hR zf_200) zs_200 (by decide) zfd_X12_248 rfl dX12_readRow_123 ?_
  obtain ⟨hb10, hf⟩ := hf
  refine z_iast X hR (zlit hR zf_210) zs_210 zl_210 hb10 dX12_readRow_126 (fun H locs hR => ?_)
  obtain ⟨w11, hw11⟩ : ∃ z : zW, z = sI w 210 ((46 : Int32) + x1).toNatClampNeg (gI w 200 16) := ⟨_, rfl⟩
  rw [← hw11] at hR
  replace hf := hf w11 hw11
  refine lv_aload_n hx hb dX12_readRow_127 rfl (lv_at hl 0 rfl) ?_
  refine z_getS X hR (zlit hR zf_200) zs_200 (by decide) zfd_X12_79 rfl (r := 210) (by decide +kernel) dX12_readRow_128 ?_
  refine lv_bipush (v := (32 : Int32)) hx hb dX12_readRow_131 (by decide) ?_
  refine lv_dup2_11 hx hb dX12_readRow_133 rfl rfl ?_
  refine z_iald X hR (zlit hR zf_210) zs_210 zl_210 (zin (by decide)) dX12_readRow_134 ?_
  refine lv_iconst (v := (1 : Int32)) hx hb dX12_readRow_135 (by decide) ?_
  refine lv_iadd hx hb dX12_readRow_136 ?_
  refine z_iast X hR (zlit hR zf_210) zs_210 zl_210 (zin (by decide)) dX12_readRow_137 (fun H locs hR => ?_)
  obtain ⟨w12, hw12⟩ : ∃ z : zW, z = sI w11 210 (32 : Int32).toNatClampNeg ((gI w11 210 (32 : Int32).toNatClampNeg) + (1 : Int32)) := ⟨_, rfl⟩
  rw [← hw12] at hR
  replace hf := hf w12 hw12
  exact hQ _ _ _ _ _ hf hR dX12_readRow_138
def fX12_readRow_L73 (k : zW → Prop) : Nat → Int32 → Int32 → zW → Prop
  | 0 => fun _ _ _ => False
  | n + 1 => fun x1 x2 w =>
    (((gI w 200 16) ≤ x2 →
      fX12_readRow_J114 k x1 w) ∧
     (¬ (gI w 200 16) ≤ x2 →
      (((60 : Int32) ≤ x2 →
        fX12_readRow_J114 k x1 w) ∧
       (¬ (60 : Int32) ≤ x2 →
        vp_in x2 61 ∧ 
        vp_in (((480 : Int32) + ((60 : Int32) * x1)) + x2) 960 ∧ 
        ∀ w16 : zW, w16 = sI w 211 (((480 : Int32) + ((60 : Int32) * x1)) + x2).toNatClampNeg (gI w 215 x2.toNatClampNeg) →
        fX12_readRow_L73 k n x1 (x2 + (1 : Int32)) w16))))
set_option maxHeartbeats 4000000 in
set_option maxRecDepth 100000 in
theorem mX12_readRow_L73 {k : zW → Prop} (X : zCx p s m args meth c cX12_readRow 3 RX12 none) (hr : zRm R 16 cells slots) (hQ : zRetV p l e R s m args below meth c cells slots Q D dA true ad0 al0 ad al cX12_readRow k)  : ∀ (n : Nat) (x1 : Int32) (x2 : Int32) (w : zW) (H : Heap) (locs : List Loc) (ls : Array Slot), fX12_readRow_L73 k n x1 x2 w → zSt D dA true ad0 al0 ad al w s H locs → lv_has ls 3 [(0, .ref (ad 200)), (1, .int x1), (2, .int x2)] → W p l e R s m args below meth c H locs cells slots Q (F0 m 73 ls []) := by
  intro n
  induction n with
  | zero => exact fun _ _ _ _ _ _ hf => hf.elim
  | succ n ih =>
    intro x1 x2 w H locs ls hf hR hl
    have hx := X.1
    have hb := X.2.1
    have hml := X.2.2.1
    have hown := X.2.2.2.1
    have hts := X.2.2.2.2.1
    rw [fX12_readRow_L73] at hf
    refine lv_iload_n hx hb dX12_readRow_73 rfl (lv_at hl 2 rfl) ?_
    refine lv_aload_n hx hb dX12_readRow_74 rfl (lv_at hl 0 rfl) ?_
    refine z_getI X hR (zlit hR zf_200) zs_200 (by decide) zfd_X12_248 rfl dX12_readRow_75 ?_
    refine lv_icmp_ge (tgt := 114) hx hb dX12_readRow_78 (by decide) (fun c9 => ?_) (fun c9 => ?_)
    · replace hf := hf.1 c9
      exact mX12_readRow_J114 X hr hQ  hf hR (lv_sub hl [0, 1] rfl)
    · replace hf := hf.2 c9
      refine lv_iload_n hx hb dX12_readRow_81 rfl (lv_at hl 2 rfl) ?_
      refine lv_bipush (v := (60 : Int32)) hx hb dX12_readRow_82 (by decide) ?_
      refine lv_icmp_ge (tgt := 114) hx hb dX12_readRow_84 (by decide) (fun c13 => ?_) (fun c13 => ?_)
      · replace hf := hf.1 c13
        exact mX12_readRow_J114 X hr hQ  hf hR (lv_sub hl [0, 1] rfl)
      · replace hf := hf.2 c13
        refine lv_aload_n hx hb dX12_readRow_87 rfl (lv_at hl 0 rfl) ?_
        refine z_getS X hR (zlit hR zf_200) zs_200 (by decide) zfd_X12_82 rfl (r := 211) (by decide +kernel) dX12_readRow_88 ?_
        refine lv_sipush (v := (480 : Int32)) hx hb dX12_readRow_91 (by decide) ?_
        refine lv_bipush (v := (60 : Int32)) hx hb dX12_readRow_94 (by decide) ?_
        refine lv_iload_n hx hb dX12_readRow_96 rfl (lv_at hl 1 rfl) ?_
        refine lv_imul hx hb dX12_readRow_97 ?_
        refine lv_iadd hx hb dX12_readRow_98 ?_
        refine lv_iload_n hx hb dX12_readRow_99 rfl (lv_at hl 2 rfl) ?_
        refine lv_iadd hx hb dX12_readRow_100 ?_
        refine lv_aload_n hx hb dX12_readRow_101 rfl (lv_at hl 0 rfl) ?_
        refine z_getS X hR (zlit hR zf_200) zs_200 (by decide) zfd_X12_91 rfl (r := 215) (by decide +kernel) dX12_readRow_102 ?_
        refine lv_iload_n hx hb dX12_readRow_105 rfl (lv_at hl 2 rfl) ?_
        obtain ⟨hb14, hf⟩ := hf
        refine z_iald X hR (zlit hR zf_215) zs_215 zl_215 hb14 dX12_readRow_106 ?_
        obtain ⟨hb15, hf⟩ := hf
        refine z_iast X hR (zlit hR zf_211) zs_211 zl_211 hb15 dX12_readRow_107 (fun H locs hR => ?_)
        obtain ⟨w16, hw16⟩ : ∃ z : zW, z = sI w 211 (((480 : Int32) + ((60 : Int32) * x1)) + x2).toNatClampNeg (gI w 215 x2.toNatClampNeg) := ⟨_, rfl⟩
        rw [← hw16] at hR
        replace hf := hf w16 hw16
        refine lv_iinc (v := x2 + (1 : Int32)) (lv' := [(2, .int (x2 + (1 : Int32))), (0, .ref (ad 200)), (1, .int x1)]) hx hb dX12_readRow_108 hl (k := 2) rfl rfl (by decide) rfl (fun ls hl => ?_)
        refine lv_goto (tgt := 73) hx hb dX12_readRow_111 (by decide) ?_
        exact ih x1 (x2 + (1 : Int32)) w16 _ _ _ hf hR (lv_sub hl [1, 2, 0] rfl)
def fX12_readRow_J63 (k : zW → Prop) (x1 : Int32) (w : zW) : Prop :=
  (((gI w 200 8) ≤ 0 →
    ∃ n9, fX12_readRow_L73 k n9 x1 (0 : Int32) w) ∧
   (¬ (gI w 200 8) ≤ 0 →
    k w))
set_option maxHeartbeats 4000000 in
set_option maxRecDepth 100000 in
theorem mX12_readRow_J63 {k : zW → Prop} (X : zCx p s m args meth c cX12_readRow 3 RX12 none) (hr : zRm R 16 cells slots) (hQ : zRetV p l e R s m args below meth c cells slots Q D dA true ad0 al0 ad al cX12_readRow k)  {x1 : Int32} {w : zW} {H : Heap} {locs : List Loc} {ls : Array Slot} (hf : fX12_readRow_J63 k x1 w) (hR : zSt D dA true ad0 al0 ad al w s H locs) (hl : lv_has ls 3 [(0, .ref (ad 200)), (1, .int x1)]) : W p l e R s m args below meth c H locs cells slots Q (F0 m 63 ls []) := by
  have hx := X.1
  have hb := X.2.1
  have hml := X.2.2.1
  have hown := X.2.2.2.1
  have hts := X.2.2.2.2.1
  unfold fX12_readRow_J63 at hf
  refine lv_aload_n hx hb dX12_readRow_63 rfl (lv_at hl 0 rfl) ?_
  refine z_getI X hR (zlit hR zf_200) zs_200 (by decide) zfd_X12_185 rfl dX12_readRow_64 ?_
  refine lv_if_le (tgt := 71) hx hb dX12_readRow_67 (by decide) (fun c8 => ?_) (fun c8 => ?_)
  · replace hf := hf.1 c8
    refine lv_iconst (v := (0 : Int32)) hx hb dX12_readRow_71 (by decide) ?_
    refine lv_istore_n (lv' := [(2, .int (0 : Int32)), (0, .ref (ad 200)), (1, .int x1)]) hx hb dX12_readRow_72 rfl hl (by decide) rfl (fun ls hl => ?_)
    obtain ⟨n9, hf⟩ := hf
    exact mX12_readRow_L73 X hr hQ  n9 x1 (0 : Int32) w _ _ _ hf hR (lv_sub hl [1, 2, 0] rfl)
  · replace hf := hf.2 c8
    exact hQ _ _ _ _ _ hf hR dX12_readRow_70
def fX12_readRow (w : zW) (k : zW → Prop) : Prop :=
  ∀ v1 : Int32, v1 = gI w 210 (32 : Int32).toNatClampNeg →
  ((¬ v1 = (8 : Int32) →
    ∀ w3 : zW, w3 = sI w 200 7 ((gI w 200 7) + (1 : Int32)) →
    ∀ w4 : zW, w4 = sI w3 200 16 (0 : Int32) →
    fX12_readItemsT (0 : Int32) w4 (fun w5 =>
    fX12_isSign (59 : Int32) w5 (fun r6 w6 =>
    ((r6 = 0 →
      fX12_readRow_J63 k v1 w6) ∧
     (¬ r6 = 0 →
      (((gI w6 200 16) ≤ (60 : Int32) →
        fX12_readRow_J63 k v1 w6) ∧
       (¬ (gI w6 200 16) ≤ (60 : Int32) →
        fX12_wrong (5 : Int32) w6 (fun w18 =>
        fX12_readRow_J63 k v1 w18)))))))) ∧
   (v1 = (8 : Int32) →
    fX12_wrong (5 : Int32) w (fun w19 =>
    k w19)))
set_option maxHeartbeats 4000000 in
set_option maxRecDepth 100000 in
theorem mX12_readRow {l : Launch} {D : va_G} {dA : Nat → ClassId} {ad : Nat → Nat} {al : Nat → Prop} {w : zW} {k : zW → Prop}   (hf : fX12_readRow w k) : zmetV l yX12_readRow cX12_readRow 3 none 16 [.ref (ad 200)] D dA true ad al w k := by
  refine zmetV_of (by decide) (Nat.le_of_ble_eq_true rfl) ?_
  intro p e R s m below meth c Q H ls args locs cells slots X hr hQ hR hl
  have hx := X.1
  have hb := X.2.1
  have hml := X.2.2.1
  have hown := X.2.2.2.1
  have hts := X.2.2.2.2.1
  unfold fX12_readRow at hf
  have hl : lv_has ls 3 [(0, .ref (ad 200))] := hl
  refine lv_aload_n hx hb dX12_readRow_0 rfl (lv_at hl 0 rfl) ?_
  refine z_getS X hR (zlit hR zf_200) zs_200 (by decide) zfd_X12_79 rfl (r := 210) (by decide +kernel) dX12_readRow_1 ?_
  refine lv_bipush (v := (32 : Int32)) hx hb dX12_readRow_4 (by decide) ?_
  refine z_iald X hR (zlit hR zf_210) zs_210 zl_210 (zin (by decide)) dX12_readRow_6 ?_
  refine lv_topi (fun v1 hv1 => ?_)
  replace hf := hf v1 hv1
  refine lv_istore_n (lv' := [(1, .int v1), (0, .ref (ad 200))]) hx hb dX12_readRow_7 rfl hl (by decide) rfl (fun ls hl => ?_)
  refine lv_iload_n hx hb dX12_readRow_8 rfl (lv_at hl 0 rfl) ?_
  refine lv_bipush (v := (8 : Int32)) hx hb dX12_readRow_9 (by decide) ?_
  refine lv_icmp_ne (tgt := 20) hx hb dX12_readRow_11 (by decide) (fun c2 => ?_) (fun c2 => ?_)
  · replace hf := hf.1 c2
    refine lv_aload_n hx hb dX12_readRow_20 rfl (lv_at hl 1 rfl) ?_
    refine lv_dup hx hb dX12_readRow_21 rfl ?_
    refine z_getI X hR (zlit hR zf_200) zs_200 (by decide) zfd_X12_182 rfl dX12_readRow_22 ?_
    refine lv_iconst (v := (1 : Int32)) hx hb dX12_readRow_25 (by decide) ?_
    refine lv_iadd hx hb dX12_readRow_26 ?_
    refine z_putI X hR (zlit hR zf_200) zs_200 (by decide) zfp_X12_182 rfl dX12_readRow_27 (fun H locs hR => ?_)
    obtain ⟨w3, hw3⟩ : ∃ z : zW, z = sI w 200 7 ((gI w 200 7) + (1 : Int32)) := ⟨_, rfl⟩
    rw [← hw3] at hR
    replace hf := hf w3 hw3
    refine lv_aload_n hx hb dX12_readRow_30 rfl (lv_at hl 1 rfl) ?_
    refine lv_iconst (v := (0 : Int32)) hx hb dX12_readRow_31 (by decide) ?_
    refine z_putI X hR (zlit hR zf_200) zs_200 (by decide) zfp_X12_248 rfl dX12_readRow_32 (fun H locs hR => ?_)
    obtain ⟨w4, hw4⟩ : ∃ z : zW, z = sI w3 200 16 (0 : Int32) := ⟨_, rfl⟩
    rw [← hw4] at hR
    replace hf := hf w4 hw4
    refine lv_aload_n hx hb dX12_readRow_35 rfl (lv_at hl 1 rfl) ?_
    refine lv_iconst (v := (0 : Int32)) hx hb dX12_readRow_36 (by decide) ?_
    refine z_callVV (fr1 := 15) (b := 200) (As := [.int (0 : Int32)]) (rest := []) X (hr.le (by decide)) hR zy_X12_readItems zq_644 (zlit hR zf_200) (by rw [zs_200]; rfl) rfl (mX12_readItemsT  hf) rfl hl (Nat.le_of_ble_eq_true rfl) dX12_readRow_37 rfl (fun w5 H locs hf hR => ?_)
    refine lv_aload_n hx hb dX12_readRow_40 rfl (lv_at hl 1 rfl) ?_
    refine lv_bipush (v := (59 : Int32)) hx hb dX12_readRow_41 (by decide) ?_
    refine z_callVI (fr1 := 0) (b := 200) (As := [.int (59 : Int32)]) (rest := []) X (hr.le (by decide)) hR zy_X12_isSign zq_648 (zlit hR zf_200) (by rw [zs_200]; rfl) rfl (mX12_isSign  hf) rfl hl (Nat.le_of_ble_eq_true rfl) dX12_readRow_43 rfl (fun r6 w6 H locs hf hR => ?_)
    refine lv_if_eq (tgt := 63) hx hb dX12_readRow_46 (by decide) (fun c7 => ?_) (fun c7 => ?_)
    · replace hf := hf.1 c7
      exact mX12_readRow_J63 X hr hQ  hf hR (lv_sub hl [1, 0] rfl)
    · replace hf := hf.2 c7
      refine lv_aload_n hx hb dX12_readRow_49 rfl (lv_at hl 1 rfl) ?_
      refine z_getI X hR (zlit hR zf_200) zs_200 (by decide) zfd_X12_248 rfl dX12_readRow_50 ?_
      refine lv_bipush (v := (60 : Int32)) hx hb dX12_readRow_53 (by decide) ?_
      refine lv_icmp_le (tgt := 63) hx hb dX12_readRow_55 (by decide) (fun c17 => ?_) (fun c17 => ?_)
      · replace hf := hf.1 c17
        exact mX12_readRow_J63 X hr hQ  hf hR (lv_sub hl [1, 0] rfl)
      · replace hf := hf.2 c17
        refine lv_aload_n hx hb dX12_readRow_58 rfl (lv_at hl 1 rfl) ?_
        refine lv_iconst (v := (5 : Int32)) hx hb dX12_readRow_59 (by decide) ?_
        refine z_callVV (fr1 := 0) (b := 200) (As := [.int (5 : Int32)]) (rest := []) X (hr.le (by decide)) hR zy_X12_wrong zq_619 (zlit hR zf_200) (by rw [zs_200]; rfl) rfl (mX12_wrong  hf) rfl hl (Nat.le_of_ble_eq_true rfl) dX12_readRow_60 rfl (fun w18 H locs hf hR => ?_)
        exact mX12_readRow_J63 X hr hQ  hf hR (lv_sub hl [1, 0] rfl)
  · replace hf := hf.2 c2
    refine lv_aload_n hx hb dX12_readRow_14 rfl (lv_at hl 1 rfl) ?_
    refine lv_iconst (v := (5 : Int32)) hx hb dX12_readRow_15 (by decide) ?_
    refine z_callVV (fr1 := 0) (b := 200) (As := [.int (5 : Int32)]) (rest := []) X (hr.le (by decide)) hR zy_X12_wrong zq_619 (zlit hR zf_200) (by rw [zs_200]; rfl) rfl (mX12_wrong  hf) rfl hl (Nat.le_of_ble_eq_true rfl) dX12_readRow_16 rfl (fun w19 H locs hf hR => ?_)
    exact hQ _ _ _ _ _ hf hR dX12_readRow_19
/-! X12_readWord -/
def fX12_readWord_J58 (k : zW → Prop) (x1 : Int32) (w : zW) : Prop :=
  (((gI w 200 8) ≤ 0 →
    vp_in (gI w 200 7) 1002 ∧ 
    vp_in ((4 : Int32) + x1) 8 ∧ 
    ∀ w11 : zW, w11 = sL w 214 ((4 : Int32) + x1).toNatClampNeg (gL w 206 (gI w 200 7).toNatClampNeg) →
    ∀ w12 : zW, w12 = sI w11 200 7 ((gI w11 200 7) + (1 : Int32)) →
    fX12_takeOne (10 : Int32) (4 : Int32) w12 (fun r13 w13 =>
    ((¬ (gI w13 200 8) = 0 →
      k w13) ∧
     ((gI w13 200 8) = 0 →
      vp_in ((34 : Int32) + x1) 60 ∧ 
      ∀ w16 : zW, w16 = sI w13 210 ((34 : Int32) + x1).toNatClampNeg r13 →
      ∀ w17 : zW, w17 = sI w16 210 (30 : Int32).toNatClampNeg ((gI w16 210 (30 : Int32).toNatClampNeg) + (1 : Int32)) →
      k w17)))) ∧
   (¬ (gI w 200 8) ≤ 0 →
    k w))
set_option maxHeartbeats 4000000 in
set_option maxRecDepth 100000 in
theorem mX12_readWord_J58 {k : zW → Prop} (X : zCx p s m args meth c cX12_readWord 3 RX12 none) (hr : zRm R 3 cells slots) (hQ : zRetV p l e R s m args below meth c cells slots Q D dA true ad0 al0 ad al cX12_readWord k)  {x1 : Int32} {w : zW} {H : Heap} {locs : List Loc} {ls : Array Slot} (hf : fX12_readWord_J58 k x1 w) (hR : zSt D dA true ad0 al0 ad al w s H locs) (hl : lv_has ls 3 [(0, .ref (ad 200)), (1, .int x1)]) : W p l e R s m args below meth c H locs cells slots Q (F0 m 58 ls []) := by
  have hx := X.1
  have hb := X.2.1
  have hml := X.2.2.1
  have hown := X.2.2.2.1
  have hts := X.2.2.2.2.1
  unfold fX12_readWord_J58 at hf
  refine lv_aload_n hx hb dX12_readWord_58 rfl (lv_at hl 0 rfl) ?_
  refine z_getI X hR (zlit hR zf_200) zs_200 (by decide) zfd_X12_185 rfl dX12_readWord_59 ?_
  refine lv_if_le (tgt := 66) hx hb dX12_readWord_62 (by decide) (fun c8 => ?_) (fun c8 => ?_)
  · replace hf := hf.1 c8
    refine lv_aload_n hx hb dX12_readWord_66 rfl (lv_at hl 0 rfl) ?_
    refine z_getS X hR (zlit hR zf_200) zs_200 (by decide) zfd_X12_88 rfl (r := 214) (by decide +kernel) dX12_readWord_67 ?_
    refine lv_iconst (v := (4 : Int32)) hx hb dX12_readWord_70 (by decide) ?_
    refine lv_iload_n hx hb dX12_readWord_71 rfl (lv_at hl 1 rfl) ?_
    refine lv_iadd hx hb dX12_readWord_72 ?_
    refine lv_aload_n hx hb dX12_readWord_73 rfl (lv_at hl 0 rfl) ?_
    refine z_getS X hR (zlit hR zf_200) zs_200 (by decide) zfd_X12_30 rfl (r := 206) (by decide +kernel) dX12_readWord_74 ?_
    refine lv_aload_n hx hb dX12_readWord_77 rfl (lv_at hl 0 rfl) ?_
    refine z_getI X hR (zlit hR zf_200) zs_200 (by decide) zfd_X12_182 rfl dX12_readWord_78 ?_
    obtain ⟨hb9, hf⟩ := hf
    refine z_lald X hR (zlit hR zf_206) zs_206 zl_206 hb9 dX12_readWord_81 ?_
    obtain ⟨hb10, hf⟩ := hf
    refine z_last X hR (zlit hR zf_214) zs_214 zl_214 hb10 dX12_readWord_82 (fun H locs hR => ?_)
    obtain ⟨w11, hw11⟩ : ∃ z : zW, z = sL w 214 ((4 : Int32) + x1).toNatClampNeg (gL w 206 (gI w 200 7).toNatClampNeg) := ⟨_, rfl⟩
    rw [← hw11] at hR
    replace hf := hf w11 hw11
    refine lv_aload_n hx hb dX12_readWord_83 rfl (lv_at hl 0 rfl) ?_
    refine lv_dup hx hb dX12_readWord_84 rfl ?_
    refine z_getI X hR (zlit hR zf_200) zs_200 (by decide) zfd_X12_182 rfl dX12_readWord_85 ?_
    refine lv_iconst (v := (1 : Int32)) hx hb dX12_readWord_88 (by decide) ?_
    refine lv_iadd hx hb dX12_readWord_89 ?_
    refine z_putI X hR (zlit hR zf_200) zs_200 (by decide) zfp_X12_182 rfl dX12_readWord_90 (fun H locs hR => ?_)
    obtain ⟨w12, hw12⟩ : ∃ z : zW, z = sI w11 200 7 ((gI w11 200 7) + (1 : Int32)) := ⟨_, rfl⟩
    rw [← hw12] at hR
    replace hf := hf w12 hw12
    refine lv_aload_n hx hb dX12_readWord_93 rfl (lv_at hl 0 rfl) ?_
    refine lv_bipush (v := (10 : Int32)) hx hb dX12_readWord_94 (by decide) ?_
    refine lv_iconst (v := (4 : Int32)) hx hb dX12_readWord_96 (by decide) ?_
    refine z_callVI (fr1 := 2) (b := 200) (As := [.int (10 : Int32), .int (4 : Int32)]) (rest := []) X (hr.le (by decide)) hR zy_X12_takeOne zq_635 (zlit hR zf_200) (by rw [zs_200]; rfl) rfl (mX12_takeOne  hf) rfl hl (Nat.le_of_ble_eq_true rfl) dX12_readWord_97 rfl (fun r13 w13 H locs hf hR => ?_)
    refine lv_istore_n (lv' := [(2, .int r13), (0, .ref (ad 200)), (1, .int x1)]) hx hb dX12_readWord_100 rfl hl (by decide) rfl (fun ls hl => ?_)
    refine lv_aload_n hx hb dX12_readWord_101 rfl (lv_at hl 1 rfl) ?_
    refine z_getI X hR (zlit hR zf_200) zs_200 (by decide) zfd_X12_185 rfl dX12_readWord_102 ?_
    refine lv_if_ne (tgt := 129) hx hb dX12_readWord_105 (by decide) (fun c14 => ?_) (fun c14 => ?_)
    · replace hf := hf.1 c14
      exact hQ _ _ _ _ _ hf hR dX12_readWord_129
    · replace hf := hf.2 c14
      refine lv_aload_n hx hb dX12_readWord_108 rfl (lv_at hl 1 rfl) ?_
      refine z_getS X hR (zlit hR zf_200) zs_200 (by decide) zfd_X12_79 rfl (r := 210) (by decide +kernel) dX12_readWord_109 ?_
      refine lv_bipush (v := (34 : Int32)) hx hb dX12_readWord_112 (by decide) ?_
      refine lv_iload_n hx hb dX12_readWord_114 rfl (lv_at hl 2 rfl) ?_
      refine lv_iadd hx hb dX12_readWord_115 ?_
      refine lv_iload_n hx hb dX12_readWord_116 rfl (lv_at hl 0 rfl) ?_
      obtain ⟨hb15, hf⟩ := hf
      refine z_iast X hR (zlit hR zf_210) zs_210 zl_210 hb15 dX12_readWord_117 (fun H locs hR => ?_)
      obtain ⟨w16, hw16⟩ : ∃ z : zW, z = sI w13 210 ((34 : Int32) + x1).toNatClampNeg r13 := ⟨_, rfl⟩
      rw [← hw16] at hR
      replace hf := hf w16 hw16
      refine lv_aload_n hx hb dX12_readWord_118 rfl (lv_at hl 1 rfl) ?_
      refine z_getS X hR (zlit hR zf_200) zs_200 (by decide) zfd_X12_79 rfl (r := 210) (by decide +kernel) dX12_readWord_119 ?_
      refine lv_bipush (v := (30 : Int32)) hx hb dX12_readWord_122 (by decide) ?_
      refine lv_dup2_11 hx hb dX12_readWord_124 rfl rfl ?_
      refine z_iald X hR (zlit hR zf_210) zs_210 zl_210 (zin (by decide)) dX12_readWord_125 ?_
      refine lv_iconst (v := (1 : Int32)) hx hb dX12_readWord_126 (by decide) ?_
      refine lv_iadd hx hb dX12_readWord_127 ?_
      refine z_iast X hR (zlit hR zf_210) zs_210 zl_210 (zin (by decide)) dX12_readWord_128 (fun H locs hR => ?_)
      obtain ⟨w17, hw17⟩ : ∃ z : zW, z = sI w16 210 (30 : Int32).toNatClampNeg ((gI w16 210 (30 : Int32).toNatClampNeg) + (1 : Int32)) := ⟨_, rfl⟩
      rw [← hw17] at hR
      replace hf := hf w17 hw17
      exact hQ _ _ _ _ _ hf hR dX12_readWord_129
  · replace hf := hf.2 c8
    exact hQ _ _ _ _ _ hf hR dX12_readWord_65
def fX12_readWord (w : zW) (k : zW → Prop) : Prop :=
  ∀ v1 : Int32, v1 = gI w 210 (30 : Int32).toNatClampNeg →
  ((¬ v1 = (4 : Int32) →
    ∀ w3 : zW, w3 = sI w 200 7 ((gI w 200 7) + (1 : Int32)) →
    fX12_isName  w3 (fun r4 w4 =>
    ((¬ r4 = 0 →
      fX12_nameAt (4 : Int32) v1 w4 (fun r6 w6 =>
      ((r6 < 0 →
        fX12_readWord_J58 k v1 w6) ∧
       (¬ r6 < 0 →
        fX12_wrong (3 : Int32) w6 (fun w18 =>
        fX12_readWord_J58 k v1 w18))))) ∧
     (r4 = 0 →
      fX12_wrong (1 : Int32) w4 (fun w19 =>
      fX12_readWord_J58 k v1 w19))))) ∧
   (v1 = (4 : Int32) →
    fX12_wrong (5 : Int32) w (fun w20 =>
    k w20)))
set_option maxHeartbeats 4000000 in
set_option maxRecDepth 100000 in
theorem mX12_readWord {l : Launch} {D : va_G} {dA : Nat → ClassId} {ad : Nat → Nat} {al : Nat → Prop} {w : zW} {k : zW → Prop}   (hf : fX12_readWord w k) : zmetV l yX12_readWord cX12_readWord 3 none 3 [.ref (ad 200)] D dA true ad al w k := by
  refine zmetV_of (by decide) (Nat.le_of_ble_eq_true rfl) ?_
  intro p e R s m below meth c Q H ls args locs cells slots X hr hQ hR hl
  have hx := X.1
  have hb := X.2.1
  have hml := X.2.2.1
  have hown := X.2.2.2.1
  have hts := X.2.2.2.2.1
  unfold fX12_readWord at hf
  have hl : lv_has ls 3 [(0, .ref (ad 200))] := hl
  refine lv_aload_n hx hb dX12_readWord_0 rfl (lv_at hl 0 rfl) ?_
  refine z_getS X hR (zlit hR zf_200) zs_200 (by decide) zfd_X12_79 rfl (r := 210) (by decide +kernel) dX12_readWord_1 ?_
  refine lv_bipush (v := (30 : Int32)) hx hb dX12_readWord_4 (by decide) ?_
  refine z_iald X hR (zlit hR zf_210) zs_210 zl_210 (zin (by decide)) dX12_readWord_6 ?_
  refine lv_topi (fun v1 hv1 => ?_)
  replace hf := hf v1 hv1
  refine lv_istore_n (lv' := [(1, .int v1), (0, .ref (ad 200))]) hx hb dX12_readWord_7 rfl hl (by decide) rfl (fun ls hl => ?_)
  refine lv_iload_n hx hb dX12_readWord_8 rfl (lv_at hl 0 rfl) ?_
  refine lv_iconst (v := (4 : Int32)) hx hb dX12_readWord_9 (by decide) ?_
  refine lv_icmp_ne (tgt := 19) hx hb dX12_readWord_10 (by decide) (fun c2 => ?_) (fun c2 => ?_)
  · replace hf := hf.1 c2
    refine lv_aload_n hx hb dX12_readWord_19 rfl (lv_at hl 1 rfl) ?_
    refine lv_dup hx hb dX12_readWord_20 rfl ?_
    refine z_getI X hR (zlit hR zf_200) zs_200 (by decide) zfd_X12_182 rfl dX12_readWord_21 ?_
    refine lv_iconst (v := (1 : Int32)) hx hb dX12_readWord_24 (by decide) ?_
    refine lv_iadd hx hb dX12_readWord_25 ?_
    refine z_putI X hR (zlit hR zf_200) zs_200 (by decide) zfp_X12_182 rfl dX12_readWord_26 (fun H locs hR => ?_)
    obtain ⟨w3, hw3⟩ : ∃ z : zW, z = sI w 200 7 ((gI w 200 7) + (1 : Int32)) := ⟨_, rfl⟩
    rw [← hw3] at hR
    replace hf := hf w3 hw3
    refine lv_aload_n hx hb dX12_readWord_29 rfl (lv_at hl 1 rfl) ?_
    refine z_callVI (fr1 := 2) (b := 200) (As := []) (rest := []) X (hr.le (by decide)) hR zy_X12_isName zq_623 (zlit hR zf_200) (by rw [zs_200]; rfl) rfl (mX12_isName  hf) rfl hl (Nat.le_of_ble_eq_true rfl) dX12_readWord_30 rfl (fun r4 w4 H locs hf hR => ?_)
    refine lv_if_ne (tgt := 44) hx hb dX12_readWord_33 (by decide) (fun c5 => ?_) (fun c5 => ?_)
    · replace hf := hf.1 c5
      refine lv_aload_n hx hb dX12_readWord_44 rfl (lv_at hl 1 rfl) ?_
      refine lv_iconst (v := (4 : Int32)) hx hb dX12_readWord_45 (by decide) ?_
      refine lv_iload_n hx hb dX12_readWord_46 rfl (lv_at hl 0 rfl) ?_
      refine z_callVI (fr1 := 0) (b := 200) (As := [.int (4 : Int32), .int v1]) (rest := []) X (hr.le (by decide)) hR zy_X12_nameAt zq_631 (zlit hR zf_200) (by rw [zs_200]; rfl) rfl (mX12_nameAt  hf) rfl hl (Nat.le_of_ble_eq_true rfl) dX12_readWord_47 rfl (fun r6 w6 H locs hf hR => ?_)
      refine lv_if_lt (tgt := 58) hx hb dX12_readWord_50 (by decide) (fun c7 => ?_) (fun c7 => ?_)
      · replace hf := hf.1 c7
        exact mX12_readWord_J58 X hr hQ  hf hR (lv_sub hl [1, 0] rfl)
      · replace hf := hf.2 c7
        refine lv_aload_n hx hb dX12_readWord_53 rfl (lv_at hl 1 rfl) ?_
        refine lv_iconst (v := (3 : Int32)) hx hb dX12_readWord_54 (by decide) ?_
        refine z_callVV (fr1 := 0) (b := 200) (As := [.int (3 : Int32)]) (rest := []) X (hr.le (by decide)) hR zy_X12_wrong zq_619 (zlit hR zf_200) (by rw [zs_200]; rfl) rfl (mX12_wrong  hf) rfl hl (Nat.le_of_ble_eq_true rfl) dX12_readWord_55 rfl (fun w18 H locs hf hR => ?_)
        exact mX12_readWord_J58 X hr hQ  hf hR (lv_sub hl [1, 0] rfl)
    · replace hf := hf.2 c5
      refine lv_aload_n hx hb dX12_readWord_36 rfl (lv_at hl 1 rfl) ?_
      refine lv_iconst (v := (1 : Int32)) hx hb dX12_readWord_37 (by decide) ?_
      refine z_callVV (fr1 := 0) (b := 200) (As := [.int (1 : Int32)]) (rest := []) X (hr.le (by decide)) hR zy_X12_wrong zq_619 (zlit hR zf_200) (by rw [zs_200]; rfl) rfl (mX12_wrong  hf) rfl hl (Nat.le_of_ble_eq_true rfl) dX12_readWord_38 rfl (fun w19 H locs hf hR => ?_)
      refine lv_goto (tgt := 58) hx hb dX12_readWord_41 (by decide) ?_
      exact mX12_readWord_J58 X hr hQ  hf hR (lv_sub hl [1, 0] rfl)
  · replace hf := hf.2 c2
    refine lv_aload_n hx hb dX12_readWord_13 rfl (lv_at hl 1 rfl) ?_
    refine lv_iconst (v := (5 : Int32)) hx hb dX12_readWord_14 (by decide) ?_
    refine z_callVV (fr1 := 0) (b := 200) (As := [.int (5 : Int32)]) (rest := []) X (hr.le (by decide)) hR zy_X12_wrong zq_619 (zlit hR zf_200) (by rw [zs_200]; rfl) rfl (mX12_wrong  hf) rfl hl (Nat.le_of_ble_eq_true rfl) dX12_readWord_15 rfl (fun w20 H locs hf hR => ?_)
    exact hQ _ _ _ _ _ hf hR dX12_readWord_18
/-! X12_readLine -/
def fX12_readLine_J97 (k : zW → Prop) (x1 : Int32) (w : zW) : Prop :=
  fX12_takeWord (4 : Int32) w (fun w24 =>
  fX12_takeNumber (0 : Int32) (99 : Int32) w24 (fun r25 w25 =>
  ((¬ (gI w25 200 8) = 0 →
    k w25) ∧
   ((gI w25 200 8) = 0 →
    vp_in ((38 : Int32) + x1) 60 ∧ 
    ∀ w28 : zW, w28 = sI w25 210 ((38 : Int32) + x1).toNatClampNeg r25 →
    k w28))))
set_option maxHeartbeats 4000000 in
set_option maxRecDepth 100000 in
theorem mX12_readLine_J97 {k : zW → Prop} (X : zCx p s m args meth c cX12_readLine 3 RX12 none) (hr : zRm R 131 cells slots) (hQ : zRetV p l e R s m args below meth c cells slots Q D dA true ad0 al0 ad al cX12_readLine k)  {x1 : Int32} {w : zW} {H : Heap} {locs : List Loc} {ls : Array Slot} (hf : fX12_readLine_J97 k x1 w) (hR : zSt D dA true ad0 al0 ad al w s H locs) (hl : lv_has ls 3 [(0, .ref (ad 200)), (1, .int x1)]) : W p l e R s m args below meth c H locs cells slots Q (F0 m 97 ls []) := by
  have hx := X.1
  have hb := X.2.1
  have hml := X.2.2.1
  have hown := X.2.2.2.1
  have hts := X.2.2.2.2.1
  unfold fX12_readLine_J97 at hf
  refine lv_aload_n hx hb dX12_readLine_97 rfl (lv_at hl 0 rfl) ?_
  refine lv_iconst (v := (4 : Int32)) hx hb dX12_readLine_98 (by decide) ?_
  refine z_callVV (fr1 := 2) (b := 200) (As := [.int (4 : Int32)]) (rest := []) X (hr.le (by decide)) hR zy_X12_takeWord zq_672 (zlit hR zf_200) (by rw [zs_200]; rfl) rfl (mX12_takeWord  hf) rfl hl (Nat.le_of_ble_eq_true rfl) dX12_readLine_99 rfl (fun w24 H locs hf hR => ?_)
  refine lv_aload_n hx hb dX12_readLine_102 rfl (lv_at hl 0 rfl) ?_
  refine lv_iconst (v := (0 : Int32)) hx hb dX12_readLine_103 (by decide) ?_
  refine lv_bipush (v := (99 : Int32)) hx hb dX12_readLine_104 (by decide) ?_
  refine z_callVI (fr1 := 1) (b := 200) (As := [.int (0 : Int32), .int (99 : Int32)]) (rest := []) X (hr.le (by decide)) hR zy_X12_takeNumber zq_656 (zlit hR zf_200) (by rw [zs_200]; rfl) rfl (mX12_takeNumber  hf) rfl hl (Nat.le_of_ble_eq_true rfl) dX12_readLine_106 rfl (fun r25 w25 H locs hf hR => ?_)
  refine lv_istore_n (lv' := [(2, .int r25), (0, .ref (ad 200)), (1, .int x1)]) hx hb dX12_readLine_109 rfl hl (by decide) rfl (fun ls hl => ?_)
  refine lv_aload_n hx hb dX12_readLine_110 rfl (lv_at hl 1 rfl) ?_
  refine z_getI X hR (zlit hR zf_200) zs_200 (by decide) zfd_X12_185 rfl dX12_readLine_111 ?_
  refine lv_if_ne (tgt := 127) hx hb dX12_readLine_114 (by decide) (fun c26 => ?_) (fun c26 => ?_)
  · replace hf := hf.1 c26
    refine lv_goto (tgt := 209) hx hb dX12_readLine_127 (by decide) ?_
    exact hQ _ _ _ _ _ hf hR dX12_readLine_209
  · replace hf := hf.2 c26
    refine lv_aload_n hx hb dX12_readLine_117 rfl (lv_at hl 1 rfl) ?_
    refine z_getS X hR (zlit hR zf_200) zs_200 (by decide) zfd_X12_79 rfl (r := 210) (by decide +kernel) dX12_readLine_118 ?_
    refine lv_bipush (v := (38 : Int32)) hx hb dX12_readLine_121 (by decide) ?_
    refine lv_iload_n hx hb dX12_readLine_123 rfl (lv_at hl 2 rfl) ?_
    refine lv_iadd hx hb dX12_readLine_124 ?_
    refine lv_iload_n hx hb dX12_readLine_125 rfl (lv_at hl 0 rfl) ?_
    obtain ⟨hb27, hf⟩ := hf
    refine z_iast X hR (zlit hR zf_210) zs_210 zl_210 hb27 dX12_readLine_126 (fun H locs hR => ?_)
    obtain ⟨w28, hw28⟩ : ∃ z : zW, z = sI w25 210 ((38 : Int32) + x1).toNatClampNeg r25 := ⟨_, rfl⟩
    rw [← hw28] at hR
    replace hf := hf w28 hw28
    refine lv_goto (tgt := 209) hx hb dX12_readLine_127 (by decide) ?_
    exact hQ _ _ _ _ _ hf hR dX12_readLine_209
def fX12_readLine (w : zW) (k : zW → Prop) : Prop :=
  fX12_isWord (0 : Int32) w (fun r1 w1 =>
  ((r1 = 0 →
    fX12_isWord (2 : Int32) w1 (fun r3 w3 =>
    ((r3 = 0 →
      fX12_isWord (3 : Int32) w3 (fun r5 w5 =>
      ((r5 = 0 →
        fX12_isWord (1 : Int32) w5 (fun r7 w7 =>
        ((r7 = 0 →
          fX12_isWord (5 : Int32) w7 (fun r9 w9 =>
          ((¬ r9 = 0 →
            fX12_isOnce (1 : Int32) w9 (fun r11 w11 =>
            ((r11 = 0 →
              k w11) ∧
             (¬ r11 = 0 →
              ∀ w13 : zW, w13 = sI w11 210 (33 : Int32).toNatClampNeg (gI w11 200 13) →
              fX12_wholeT (0 : Int32) w13 (fun w14 =>
              fX12_emit (0 : Int32) (0 : Int32) w14 (fun w15 =>
              k w15)))))) ∧
           (r9 = 0 →
            fX12_wrong (1 : Int32) w9 (fun w16 =>
            k w16))))) ∧
         (¬ r7 = 0 →
          fX12_isOnce (0 : Int32) w7 (fun r17 w17 =>
          ((r17 = 0 →
            k w17) ∧
           (¬ r17 = 0 →
            fX12_takeNumber (1 : Int32) (60 : Int32) w17 (fun r19 w19 =>
            ∀ w20 : zW, w20 = sI w19 210 (31 : Int32).toNatClampNeg r19 →
            k w20)))))))) ∧
       (¬ r5 = 0 →
        ∀ w21 : zW, w21 = sI w5 200 7 ((gI w5 200 7) + (1 : Int32)) →
        fX12_takeNumber (0 : Int32) ((gI w21 210 (32 : Int32).toNatClampNeg) - (1 : Int32)) w21 (fun r22 w22 =>
        ((¬ (gI w22 200 8) = 0 →
          fX12_readLine_J97 k r22 w22) ∧
         ((gI w22 200 8) = 0 →
          vp_in ((38 : Int32) + r22) 60 ∧ 
          (((gI w22 210 ((38 : Int32) + r22).toNatClampNeg) < 0 →
            fX12_readLine_J97 k r22 w22) ∧
           (¬ (gI w22 210 ((38 : Int32) + r22).toNatClampNeg) < 0 →
            ∀ w31 : zW, w31 = sI w22 200 7 ((gI w22 200 7) - (1 : Int32)) →
            fX12_wrong (3 : Int32) w31 (fun w32 =>
            fX12_readLine_J97 k r22 w32)))))))))) ∧
     (¬ r3 = 0 →
      fX12_readRow  w3 (fun w33 =>
      k w33))))) ∧
   (¬ r1 = 0 →
    fX12_readWord  w1 (fun w34 =>
    k w34))))
set_option maxHeartbeats 4000000 in
set_option maxRecDepth 100000 in
theorem mX12_readLine {l : Launch} {D : va_G} {dA : Nat → ClassId} {ad : Nat → Nat} {al : Nat → Prop} {w : zW} {k : zW → Prop}   (hf : fX12_readLine w k) : zmetV l yX12_readLine cX12_readLine 3 none 131 [.ref (ad 200)] D dA true ad al w k := by
  refine zmetV_of (by decide) (Nat.le_of_ble_eq_true rfl) ?_
  intro p e R s m below meth c Q H ls args locs cells slots X hr hQ hR hl
  have hx := X.1
  have hb := X.2.1
  have hml := X.2.2.1
  have hown := X.2.2.2.1
  have hts := X.2.2.2.2.1
  unfold fX12_readLine at hf
  have hl : lv_has ls 3 [(0, .ref (ad 200))] := hl
  refine lv_aload_n hx hb dX12_readLine_0 rfl (lv_at hl 0 rfl) ?_
  refine lv_iconst (v := (0 : Int32)) hx hb dX12_readLine_1 (by decide) ?_
  refine z_callVI (fr1 := 0) (b := 200) (As := [.int (0 : Int32)]) (rest := []) X (hr.le (by decide)) hR zy_X12_isWord zq_611 (zlit hR zf_200) (by rw [zs_200]; rfl) rfl (mX12_isWord  hf) rfl hl (Nat.le_of_ble_eq_true rfl) dX12_readLine_2 rfl (fun r1 w1 H locs hf hR => ?_)
  refine lv_if_eq (tgt := 15) hx hb dX12_readLine_5 (by decide) (fun c2 => ?_) (fun c2 => ?_)
  · replace hf := hf.1 c2
    refine lv_aload_n hx hb dX12_readLine_15 rfl (lv_at hl 0 rfl) ?_
    refine lv_iconst (v := (2 : Int32)) hx hb dX12_readLine_16 (by decide) ?_
    refine z_callVI (fr1 := 0) (b := 200) (As := [.int (2 : Int32)]) (rest := []) X (hr.le (by decide)) hR zy_X12_isWord zq_611 (zlit hR zf_200) (by rw [zs_200]; rfl) rfl (mX12_isWord  hf) rfl hl (Nat.le_of_ble_eq_true rfl) dX12_readLine_17 rfl (fun r3 w3 H locs hf hR => ?_)
    refine lv_if_eq (tgt := 30) hx hb dX12_readLine_20 (by decide) (fun c4 => ?_) (fun c4 => ?_)
    · replace hf := hf.1 c4
      refine lv_aload_n hx hb dX12_readLine_30 rfl (lv_at hl 0 rfl) ?_
      refine lv_iconst (v := (3 : Int32)) hx hb dX12_readLine_31 (by decide) ?_
      refine z_callVI (fr1 := 0) (b := 200) (As := [.int (3 : Int32)]) (rest := []) X (hr.le (by decide)) hR zy_X12_isWord zq_611 (zlit hR zf_200) (by rw [zs_200]; rfl) rfl (mX12_isWord  hf) rfl hl (Nat.le_of_ble_eq_true rfl) dX12_readLine_32 rfl (fun r5 w5 H locs hf hR => ?_)
      refine lv_if_eq (tgt := 130) hx hb dX12_readLine_35 (by decide) (fun c6 => ?_) (fun c6 => ?_)
      · replace hf := hf.1 c6
        refine lv_aload_n hx hb dX12_readLine_130 rfl (lv_at hl 0 rfl) ?_
        refine lv_iconst (v := (1 : Int32)) hx hb dX12_readLine_131 (by decide) ?_
        refine z_callVI (fr1 := 0) (b := 200) (As := [.int (1 : Int32)]) (rest := []) X (hr.le (by decide)) hR zy_X12_isWord zq_611 (zlit hR zf_200) (by rw [zs_200]; rfl) rfl (mX12_isWord  hf) rfl hl (Nat.le_of_ble_eq_true rfl) dX12_readLine_132 rfl (fun r7 w7 H locs hf hR => ?_)
        refine lv_if_eq (tgt := 163) hx hb dX12_readLine_135 (by decide) (fun c8 => ?_) (fun c8 => ?_)
        · replace hf := hf.1 c8
          refine lv_aload_n hx hb dX12_readLine_163 rfl (lv_at hl 0 rfl) ?_
          refine lv_iconst (v := (5 : Int32)) hx hb dX12_readLine_164 (by decide) ?_
          refine z_callVI (fr1 := 0) (b := 200) (As := [.int (5 : Int32)]) (rest := []) X (hr.le (by decide)) hR zy_X12_isWord zq_611 (zlit hR zf_200) (by rw [zs_200]; rfl) rfl (mX12_isWord  hf) rfl hl (Nat.le_of_ble_eq_true rfl) dX12_readLine_165 rfl (fun r9 w9 H locs hf hR => ?_)
          refine lv_if_ne (tgt := 179) hx hb dX12_readLine_168 (by decide) (fun c10 => ?_) (fun c10 => ?_)
          · replace hf := hf.1 c10
            refine lv_aload_n hx hb dX12_readLine_179 rfl (lv_at hl 0 rfl) ?_
            refine lv_iconst (v := (1 : Int32)) hx hb dX12_readLine_180 (by decide) ?_
            refine z_callVI (fr1 := 1) (b := 200) (As := [.int (1 : Int32)]) (rest := []) X (hr.le (by decide)) hR zy_X12_isOnce zq_680 (zlit hR zf_200) (by rw [zs_200]; rfl) rfl (mX12_isOnce  hf) rfl hl (Nat.le_of_ble_eq_true rfl) dX12_readLine_181 rfl (fun r11 w11 H locs hf hR => ?_)
            refine lv_if_eq (tgt := 209) hx hb dX12_readLine_184 (by decide) (fun c12 => ?_) (fun c12 => ?_)
            · replace hf := hf.1 c12
              exact hQ _ _ _ _ _ hf hR dX12_readLine_209
            · replace hf := hf.2 c12
              refine lv_aload_n hx hb dX12_readLine_187 rfl (lv_at hl 0 rfl) ?_
              refine z_getS X hR (zlit hR zf_200) zs_200 (by decide) zfd_X12_79 rfl (r := 210) (by decide +kernel) dX12_readLine_188 ?_
              refine lv_bipush (v := (33 : Int32)) hx hb dX12_readLine_191 (by decide) ?_
              refine lv_aload_n hx hb dX12_readLine_193 rfl (lv_at hl 0 rfl) ?_
              refine z_getI X hR (zlit hR zf_200) zs_200 (by decide) zfd_X12_214 rfl dX12_readLine_194 ?_
              refine z_iast X hR (zlit hR zf_210) zs_210 zl_210 (zin (by decide)) dX12_readLine_197 (fun H locs hR => ?_)
              obtain ⟨w13, hw13⟩ : ∃ z : zW, z = sI w11 210 (33 : Int32).toNatClampNeg (gI w11 200 13) := ⟨_, rfl⟩
              rw [← hw13] at hR
              replace hf := hf w13 hw13
              refine lv_aload_n hx hb dX12_readLine_198 rfl (lv_at hl 0 rfl) ?_
              refine lv_iconst (v := (0 : Int32)) hx hb dX12_readLine_199 (by decide) ?_
              refine z_callVV (fr1 := 130) (b := 200) (As := [.int (0 : Int32)]) (rest := []) X (hr.le (by decide)) hR zy_X12_whole zq_684 (zlit hR zf_200) (by rw [zs_200]; rfl) rfl (mX12_wholeT  hf) rfl hl (Nat.le_of_ble_eq_true rfl) dX12_readLine_200 rfl (fun w14 H locs hf hR => ?_)
              refine lv_aload_n hx hb dX12_readLine_203 rfl (lv_at hl 0 rfl) ?_
              refine lv_iconst (v := (0 : Int32)) hx hb dX12_readLine_204 (by decide) ?_
              refine lv_iconst (v := (0 : Int32)) hx hb dX12_readLine_205 (by decide) ?_
              refine z_callVV (fr1 := 0) (b := 200) (As := [.int (0 : Int32), .int (0 : Int32)]) (rest := []) X (hr.le (by decide)) hR zy_X12_emit zq_691 (zlit hR zf_200) (by rw [zs_200]; rfl) rfl (mX12_emit  hf) rfl hl (Nat.le_of_ble_eq_true rfl) dX12_readLine_206 rfl (fun w15 H locs hf hR => ?_)
              exact hQ _ _ _ _ _ hf hR dX12_readLine_209
          · replace hf := hf.2 c10
            refine lv_aload_n hx hb dX12_readLine_171 rfl (lv_at hl 0 rfl) ?_
            refine lv_iconst (v := (1 : Int32)) hx hb dX12_readLine_172 (by decide) ?_
            refine z_callVV (fr1 := 0) (b := 200) (As := [.int (1 : Int32)]) (rest := []) X (hr.le (by decide)) hR zy_X12_wrong zq_619 (zlit hR zf_200) (by rw [zs_200]; rfl) rfl (mX12_wrong  hf) rfl hl (Nat.le_of_ble_eq_true rfl) dX12_readLine_173 rfl (fun w16 H locs hf hR => ?_)
            refine lv_goto (tgt := 209) hx hb dX12_readLine_176 (by decide) ?_
            exact hQ _ _ _ _ _ hf hR dX12_readLine_209
        · replace hf := hf.2 c8
          refine lv_aload_n hx hb dX12_readLine_138 rfl (lv_at hl 0 rfl) ?_
          refine lv_iconst (v := (0 : Int32)) hx hb dX12_readLine_139 (by decide) ?_
          refine z_callVI (fr1 := 1) (b := 200) (As := [.int (0 : Int32)]) (rest := []) X (hr.le (by decide)) hR zy_X12_isOnce zq_680 (zlit hR zf_200) (by rw [zs_200]; rfl) rfl (mX12_isOnce  hf) rfl hl (Nat.le_of_ble_eq_true rfl) dX12_readLine_140 rfl (fun r17 w17 H locs hf hR => ?_)
          refine lv_if_eq (tgt := 209) hx hb dX12_readLine_143 (by decide) (fun c18 => ?_) (fun c18 => ?_)
          · replace hf := hf.1 c18
            exact hQ _ _ _ _ _ hf hR dX12_readLine_209
          · replace hf := hf.2 c18
            refine lv_aload_n hx hb dX12_readLine_146 rfl (lv_at hl 0 rfl) ?_
            refine z_getS X hR (zlit hR zf_200) zs_200 (by decide) zfd_X12_79 rfl (r := 210) (by decide +kernel) dX12_readLine_147 ?_
            refine lv_bipush (v := (31 : Int32)) hx hb dX12_readLine_150 (by decide) ?_
            refine lv_aload_n hx hb dX12_readLine_152 rfl (lv_at hl 0 rfl) ?_
            refine lv_iconst (v := (1 : Int32)) hx hb dX12_readLine_153 (by decide) ?_
            refine lv_bipush (v := (60 : Int32)) hx hb dX12_readLine_154 (by decide) ?_
            refine z_callVI (fr1 := 1) (b := 200) (As := [.int (1 : Int32), .int (60 : Int32)]) (rest := [.int (31 : Int32), .ref (ad 210)]) X (hr.le (by decide)) hR zy_X12_takeNumber zq_656 (zlit hR zf_200) (by rw [zs_200]; rfl) rfl (mX12_takeNumber  hf) rfl hl (Nat.le_of_ble_eq_true rfl) dX12_readLine_156 rfl (fun r19 w19 H locs hf hR => ?_)
            refine z_iast X hR (zlit hR zf_210) zs_210 zl_210 (zin (by decide)) dX12_readLine_159 (fun H locs hR => ?_)
            obtain ⟨w20, hw20⟩ : ∃ z : zW, z = sI w19 210 (31 : Int32).toNatClampNeg r19 := ⟨_, rfl⟩
            rw [← hw20] at hR
            replace hf := hf w20 hw20
            refine lv_goto (tgt := 209) hx hb dX12_readLine_160 (by decide) ?_
            exact hQ _ _ _ _ _ hf hR dX12_readLine_209
      · replace hf := hf.2 c6
        refine lv_aload_n hx hb dX12_readLine_38 rfl (lv_at hl 0 rfl) ?_
        refine lv_dup hx hb dX12_readLine_39 rfl ?_
        refine z_getI X hR (zlit hR zf_200) zs_200 (by decide) zfd_X12_182 rfl dX12_readLine_40 ?_
        refine lv_iconst (v := (1 : Int32)) hx hb dX12_readLine_43 (by decide) ?_
        refine lv_iadd hx hb dX12_readLine_44 ?_
        refine z_putI X hR (zlit hR zf_200) zs_200 (by decide) zfp_X12_182 rfl dX12_readLine_45 (fun H locs hR => ?_)
        obtain ⟨w21, hw21⟩ : ∃ z : zW, z = sI w5 200 7 ((gI w5 200 7) + (1 : Int32)) := ⟨_, rfl⟩
        rw [← hw21] at hR
        replace hf := hf w21 hw21
        refine lv_aload_n hx hb dX12_readLine_48 rfl (lv_at hl 0 rfl) ?_
        refine lv_iconst (v := (0 : Int32)) hx hb dX12_readLine_49 (by decide) ?_
        refine lv_aload_n hx hb dX12_readLine_50 rfl (lv_at hl 0 rfl) ?_
        refine z_getS X hR (zlit hR zf_200) zs_200 (by decide) zfd_X12_79 rfl (r := 210) (by decide +kernel) dX12_readLine_51 ?_
        refine lv_bipush (v := (32 : Int32)) hx hb dX12_readLine_54 (by decide) ?_
        refine z_iald X hR (zlit hR zf_210) zs_210 zl_210 (zin (by decide)) dX12_readLine_56 ?_
        refine lv_iconst (v := (1 : Int32)) hx hb dX12_readLine_57 (by decide) ?_
        refine lv_isub hx hb dX12_readLine_58 ?_
        refine z_callVI (fr1 := 1) (b := 200) (As := [.int (0 : Int32), .int ((gI w21 210 (32 : Int32).toNatClampNeg) - (1 : Int32))]) (rest := []) X (hr.le (by decide)) hR zy_X12_takeNumber zq_656 (zlit hR zf_200) (by rw [zs_200]; rfl) rfl (mX12_takeNumber  hf) rfl hl (Nat.le_of_ble_eq_true rfl) dX12_readLine_59 rfl (fun r22 w22 H locs hf hR => ?_)
        refine lv_istore_n (lv' := [(1, .int r22), (0, .ref (ad 200))]) hx hb dX12_readLine_62 rfl hl (by decide) rfl (fun ls hl => ?_)
        refine lv_aload_n hx hb dX12_readLine_63 rfl (lv_at hl 1 rfl) ?_
        refine z_getI X hR (zlit hR zf_200) zs_200 (by decide) zfd_X12_185 rfl dX12_readLine_64 ?_
        refine lv_if_ne (tgt := 97) hx hb dX12_readLine_67 (by decide) (fun c23 => ?_) (fun c23 => ?_)
        · replace hf := hf.1 c23
          exact mX12_readLine_J97 X hr hQ  hf hR (lv_sub hl [1, 0] rfl)
        · replace hf := hf.2 c23
          refine lv_aload_n hx hb dX12_readLine_70 rfl (lv_at hl 1 rfl) ?_
          refine z_getS X hR (zlit hR zf_200) zs_200 (by decide) zfd_X12_79 rfl (r := 210) (by decide +kernel) dX12_readLine_71 ?_
          refine lv_bipush (v := (38 : Int32)) hx hb dX12_readLine_74 (by decide) ?_
          refine lv_iload_n hx hb dX12_readLine_76 rfl (lv_at hl 0 rfl) ?_
          refine lv_iadd hx hb dX12_readLine_77 ?_
          obtain ⟨hb29, hf⟩ := hf
          refine z_iald X hR (zlit hR zf_210) zs_210 zl_210 hb29 dX12_readLine_78 ?_
          refine lv_if_lt (tgt := 97) hx hb dX12_readLine_79 (by decide) (fun c30 => ?_) (fun c30 => ?_)
          · replace hf := hf.1 c30
            exact mX12_readLine_J97 X hr hQ  hf hR (lv_sub hl [1, 0] rfl)
          · replace hf := hf.2 c30
            refine lv_aload_n hx hb dX12_readLine_82 rfl (lv_at hl 1 rfl) ?_
            refine lv_dup hx hb dX12_readLine_83 rfl ?_
            refine z_getI X hR (zlit hR zf_200) zs_200 (by decide) zfd_X12_182 rfl dX12_readLine_84 ?_
            refine lv_iconst (v := (1 : Int32)) hx hb dX12_readLine_87 (by decide) ?_
            refine lv_isub hx hb dX12_readLine_88 ?_
            refine z_putI X hR (zlit hR zf_200) zs_200 (by decide) zfp_X12_182 rfl dX12_readLine_89 (fun H locs hR => ?_)
            obtain ⟨w31, hw31⟩ : ∃ z : zW, z = sI w22 200 7 ((gI w22 200 7) - (1 : Int32)) := ⟨_, rfl⟩
            rw [← hw31] at hR
            replace hf := hf w31 hw31
            refine lv_aload_n hx hb dX12_readLine_92 rfl (lv_at hl 1 rfl) ?_
            refine lv_iconst (v := (3 : Int32)) hx hb dX12_readLine_93 (by decide) ?_
            refine z_callVV (fr1 := 0) (b := 200) (As := [.int (3 : Int32)]) (rest := []) X (hr.le (by decide)) hR zy_X12_wrong zq_619 (zlit hR zf_200) (by rw [zs_200]; rfl) rfl (mX12_wrong  hf) rfl hl (Nat.le_of_ble_eq_true rfl) dX12_readLine_94 rfl (fun w32 H locs hf hR => ?_)
            exact mX12_readLine_J97 X hr hQ  hf hR (lv_sub hl [1, 0] rfl)
    · replace hf := hf.2 c4
      refine lv_aload_n hx hb dX12_readLine_23 rfl (lv_at hl 0 rfl) ?_
      refine z_callVV (fr1 := 16) (b := 200) (As := []) (rest := []) X (hr.le (by decide)) hR zy_X12_readRow zq_639 (zlit hR zf_200) (by rw [zs_200]; rfl) rfl (mX12_readRow  hf) rfl hl (Nat.le_of_ble_eq_true rfl) dX12_readLine_24 rfl (fun w33 H locs hf hR => ?_)
      refine lv_goto (tgt := 209) hx hb dX12_readLine_27 (by decide) ?_
      exact hQ _ _ _ _ _ hf hR dX12_readLine_209
  · replace hf := hf.2 c2
    refine lv_aload_n hx hb dX12_readLine_8 rfl (lv_at hl 0 rfl) ?_
    refine z_callVV (fr1 := 3) (b := 200) (As := []) (rest := []) X (hr.le (by decide)) hR zy_X12_readWord zq_615 (zlit hR zf_200) (by rw [zs_200]; rfl) rfl (mX12_readWord  hf) rfl hl (Nat.le_of_ble_eq_true rfl) dX12_readLine_9 rfl (fun w34 H locs hf hR => ?_)
    refine lv_goto (tgt := 209) hx hb dX12_readLine_12 (by decide) ?_
    exact hQ _ _ _ _ _ hf hR dX12_readLine_209
end ZM
