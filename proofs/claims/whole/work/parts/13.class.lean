theorem dX0_clear_0 : decode cX0_clear 0 = .ok (.aload_n 0, 1) := by decide +kernel
theorem dX0_clear_1 : decode cX0_clear 1 = .ok (.iconst 0, 1) := by decide +kernel
theorem dX0_clear_2 : decode cX0_clear 2 = .ok (.putfield 51, 3) := by decide +kernel
theorem dX0_clear_5 : decode cX0_clear 5 = .ok (.aload_n 0, 1) := by decide +kernel
theorem dX0_clear_6 : decode cX0_clear 6 = .ok (.iconst 0, 1) := by decide +kernel
theorem dX0_clear_7 : decode cX0_clear 7 = .ok (.putfield 55, 3) := by decide +kernel
theorem dX0_clear_10 : decode cX0_clear 10 = .ok (.aload_n 0, 1) := by decide +kernel
theorem dX0_clear_11 : decode cX0_clear 11 = .ok (.iconst 0, 1) := by decide +kernel
theorem dX0_clear_12 : decode cX0_clear 12 = .ok (.putfield 58, 3) := by decide +kernel
theorem dX0_clear_15 : decode cX0_clear 15 = .ok (.aload_n 0, 1) := by decide +kernel
theorem dX0_clear_16 : decode cX0_clear 16 = .ok (.getfield 19, 3) := by decide +kernel
theorem dX0_clear_19 : decode cX0_clear 19 = .ok (.iconst 0, 1) := by decide +kernel
theorem dX0_clear_20 : decode cX0_clear 20 = .ok (.invokestatic 45, 3) := by decide +kernel
theorem dX0_clear_23 : decode cX0_clear 23 = .ok (.aload_n 0, 1) := by decide +kernel
theorem dX0_clear_24 : decode cX0_clear 24 = .ok (.getfield 22, 3) := by decide +kernel
theorem dX0_clear_27 : decode cX0_clear 27 = .ok (.iconst 0, 1) := by decide +kernel
theorem dX0_clear_28 : decode cX0_clear 28 = .ok (.invokestatic 45, 3) := by decide +kernel
theorem dX0_clear_31 : decode cX0_clear 31 = .ok (.aload_n 0, 1) := by decide +kernel
theorem dX0_clear_32 : decode cX0_clear 32 = .ok (.getfield 39, 3) := by decide +kernel
theorem dX0_clear_35 : decode cX0_clear 35 = .ok (.iconst (-1), 1) := by decide +kernel
theorem dX0_clear_36 : decode cX0_clear 36 = .ok (.invokestatic 45, 3) := by decide +kernel
theorem dX0_clear_39 : decode cX0_clear 39 = .ok (.aload_n 0, 1) := by decide +kernel
theorem dX0_clear_40 : decode cX0_clear 40 = .ok (.getfield 42, 3) := by decide +kernel
theorem dX0_clear_43 : decode cX0_clear 43 = .ok (.iconst 0, 1) := by decide +kernel
theorem dX0_clear_44 : decode cX0_clear 44 = .ok (.invokestatic 45, 3) := by decide +kernel
theorem dX0_clear_47 : decode cX0_clear 47 = .ok (.return_, 1) := by decide +kernel
theorem dX0_wordNamed_0 : decode cX0_wordNamed 0 = .ok (.iconst 0, 1) := by decide +kernel
theorem dX0_wordNamed_1 : decode cX0_wordNamed 1 = .ok (.istore_n 3, 1) := by decide +kernel
theorem dX0_wordNamed_2 : decode cX0_wordNamed 2 = .ok (.iload_n 3, 1) := by decide +kernel
theorem dX0_wordNamed_3 : decode cX0_wordNamed 3 = .ok (.aload_n 0, 1) := by decide +kernel
theorem dX0_wordNamed_4 : decode cX0_wordNamed 4 = .ok (.getfield 51, 3) := by decide +kernel
theorem dX0_wordNamed_7 : decode cX0_wordNamed 7 = .ok (.if_icmp .ge 27, 3) := by decide +kernel
theorem dX0_wordNamed_10 : decode cX0_wordNamed 10 = .ok (.iload_n 3, 1) := by decide +kernel
theorem dX0_wordNamed_11 : decode cX0_wordNamed 11 = .ok (.iconst 4, 1) := by decide +kernel
theorem dX0_wordNamed_12 : decode cX0_wordNamed 12 = .ok (.if_icmp .ge 22, 3) := by decide +kernel
theorem dX0_wordNamed_15 : decode cX0_wordNamed 15 = .ok (.aload_n 0, 1) := by decide +kernel
theorem dX0_wordNamed_16 : decode cX0_wordNamed 16 = .ok (.getfield 9, 3) := by decide +kernel
theorem dX0_wordNamed_19 : decode cX0_wordNamed 19 = .ok (.iload_n 3, 1) := by decide +kernel
theorem dX0_wordNamed_20 : decode cX0_wordNamed 20 = .ok (.laload, 1) := by decide +kernel
theorem dX0_wordNamed_21 : decode cX0_wordNamed 21 = .ok (.lload_n 1, 1) := by decide +kernel
theorem dX0_wordNamed_22 : decode cX0_wordNamed 22 = .ok (.lcmp, 1) := by decide +kernel
theorem dX0_wordNamed_23 : decode cX0_wordNamed 23 = .ok (.ifCond .ne 5, 3) := by decide +kernel
theorem dX0_wordNamed_26 : decode cX0_wordNamed 26 = .ok (.iload_n 3, 1) := by decide +kernel
theorem dX0_wordNamed_27 : decode cX0_wordNamed 27 = .ok (.ireturn, 1) := by decide +kernel
theorem dX0_wordNamed_28 : decode cX0_wordNamed 28 = .ok (.iinc 3 1, 3) := by decide +kernel
theorem dX0_wordNamed_31 : decode cX0_wordNamed 31 = .ok (.goto (-29), 3) := by decide +kernel
theorem dX0_wordNamed_34 : decode cX0_wordNamed 34 = .ok (.iconst (-1), 1) := by decide +kernel
theorem dX0_wordNamed_35 : decode cX0_wordNamed 35 = .ok (.ireturn, 1) := by decide +kernel
theorem dX0_wordAt_0 : decode cX0_wordAt 0 = .ok (.iload_n 2, 1) := by decide +kernel
theorem dX0_wordAt_1 : decode cX0_wordAt 1 = .ok (.ifCond .lt 30, 3) := by decide +kernel
theorem dX0_wordAt_4 : decode cX0_wordAt 4 = .ok (.iload_n 2, 1) := by decide +kernel
theorem dX0_wordAt_5 : decode cX0_wordAt 5 = .ok (.aload_n 0, 1) := by decide +kernel
theorem dX0_wordAt_6 : decode cX0_wordAt 6 = .ok (.getfield 30, 3) := by decide +kernel
theorem dX0_wordAt_9 : decode cX0_wordAt 9 = .ok (.iload_n 1, 1) := by decide +kernel
theorem dX0_wordAt_10 : decode cX0_wordAt 10 = .ok (.iaload, 1) := by decide +kernel
theorem dX0_wordAt_11 : decode cX0_wordAt 11 = .ok (.if_icmp .ge 20, 3) := by decide +kernel
theorem dX0_wordAt_14 : decode cX0_wordAt 14 = .ok (.iload_n 2, 1) := by decide +kernel
theorem dX0_wordAt_15 : decode cX0_wordAt 15 = .ok (.bipush 60, 2) := by decide +kernel
theorem dX0_wordAt_17 : decode cX0_wordAt 17 = .ok (.if_icmp .ge 14, 3) := by decide +kernel
theorem dX0_wordAt_20 : decode cX0_wordAt 20 = .ok (.aload_n 0, 1) := by decide +kernel
theorem dX0_wordAt_21 : decode cX0_wordAt 21 = .ok (.getfield 33, 3) := by decide +kernel
theorem dX0_wordAt_24 : decode cX0_wordAt 24 = .ok (.iload_n 1, 1) := by decide +kernel
theorem dX0_wordAt_25 : decode cX0_wordAt 25 = .ok (.aaload, 1) := by decide +kernel
theorem dX0_wordAt_26 : decode cX0_wordAt 26 = .ok (.iload_n 2, 1) := by decide +kernel
theorem dX0_wordAt_27 : decode cX0_wordAt 27 = .ok (.iaload, 1) := by decide +kernel
theorem dX0_wordAt_28 : decode cX0_wordAt 28 = .ok (.goto 4, 3) := by decide +kernel
theorem dX0_wordAt_31 : decode cX0_wordAt 31 = .ok (.iconst (-1), 1) := by decide +kernel
theorem dX0_wordAt_32 : decode cX0_wordAt 32 = .ok (.ireturn, 1) := by decide +kernel
theorem dX0_countUses_0 : decode cX0_countUses 0 = .ok (.iconst 0, 1) := by decide +kernel
theorem dX0_countUses_1 : decode cX0_countUses 1 = .ok (.istore_n 1, 1) := by decide +kernel
theorem dX0_countUses_2 : decode cX0_countUses 2 = .ok (.iload_n 1, 1) := by decide +kernel
theorem dX0_countUses_3 : decode cX0_countUses 3 = .ok (.aload_n 0, 1) := by decide +kernel
theorem dX0_countUses_4 : decode cX0_countUses 4 = .ok (.getfield 58, 3) := by decide +kernel
theorem dX0_countUses_7 : decode cX0_countUses 7 = .ok (.if_icmp .ge 81, 3) := by decide +kernel
theorem dX0_countUses_10 : decode cX0_countUses 10 = .ok (.iload_n 1, 1) := by decide +kernel
theorem dX0_countUses_11 : decode cX0_countUses 11 = .ok (.bipush 8, 2) := by decide +kernel
theorem dX0_countUses_13 : decode cX0_countUses 13 = .ok (.if_icmp .ge 75, 3) := by decide +kernel
theorem dX0_countUses_16 : decode cX0_countUses 16 = .ok (.aload_n 0, 1) := by decide +kernel
theorem dX0_countUses_17 : decode cX0_countUses 17 = .ok (.getfield 36, 3) := by decide +kernel
theorem dX0_countUses_20 : decode cX0_countUses 20 = .ok (.iload_n 1, 1) := by decide +kernel
theorem dX0_countUses_21 : decode cX0_countUses 21 = .ok (.aaload, 1) := by decide +kernel
theorem dX0_countUses_22 : decode cX0_countUses 22 = .ok (.iconst 0, 1) := by decide +kernel
theorem dX0_countUses_23 : decode cX0_countUses 23 = .ok (.invokestatic 45, 3) := by decide +kernel
theorem dX0_countUses_26 : decode cX0_countUses 26 = .ok (.iconst 0, 1) := by decide +kernel
theorem dX0_countUses_27 : decode cX0_countUses 27 = .ok (.istore_n 2, 1) := by decide +kernel
theorem dX0_countUses_28 : decode cX0_countUses 28 = .ok (.iload_n 2, 1) := by decide +kernel
theorem dX0_countUses_29 : decode cX0_countUses 29 = .ok (.aload_n 0, 1) := by decide +kernel
theorem dX0_countUses_30 : decode cX0_countUses 30 = .ok (.getfield 30, 3) := by decide +kernel
theorem dX0_countUses_33 : decode cX0_countUses 33 = .ok (.iload_n 1, 1) := by decide +kernel
theorem dX0_countUses_34 : decode cX0_countUses 34 = .ok (.iaload, 1) := by decide +kernel
theorem dX0_countUses_35 : decode cX0_countUses 35 = .ok (.if_icmp .ge 47, 3) := by decide +kernel
theorem dX0_countUses_38 : decode cX0_countUses 38 = .ok (.aload_n 0, 1) := by decide +kernel
theorem dX0_countUses_39 : decode cX0_countUses 39 = .ok (.iload_n 1, 1) := by decide +kernel
theorem dX0_countUses_40 : decode cX0_countUses 40 = .ok (.iload_n 2, 1) := by decide +kernel
theorem dX0_countUses_41 : decode cX0_countUses 41 = .ok (.invokevirtual 61, 3) := by decide +kernel
theorem dX0_countUses_44 : decode cX0_countUses 44 = .ok (.istore_n 3, 1) := by decide +kernel
theorem dX0_countUses_45 : decode cX0_countUses 45 = .ok (.iload_n 3, 1) := by decide +kernel
theorem dX0_countUses_46 : decode cX0_countUses 46 = .ok (.ifCond .lt 30, 3) := by decide +kernel
theorem dX0_countUses_49 : decode cX0_countUses 49 = .ok (.iload_n 3, 1) := by decide +kernel
theorem dX0_countUses_50 : decode cX0_countUses 50 = .ok (.iconst 4, 1) := by decide +kernel
theorem dX0_countUses_51 : decode cX0_countUses 51 = .ok (.if_icmp .ge 25, 3) := by decide +kernel
theorem dX0_countUses_54 : decode cX0_countUses 54 = .ok (.aload_n 0, 1) := by decide +kernel
theorem dX0_countUses_55 : decode cX0_countUses 55 = .ok (.getfield 36, 3) := by decide +kernel
theorem dX0_countUses_58 : decode cX0_countUses 58 = .ok (.iload_n 1, 1) := by decide +kernel
theorem dX0_countUses_59 : decode cX0_countUses 59 = .ok (.aaload, 1) := by decide +kernel
theorem dX0_countUses_60 : decode cX0_countUses 60 = .ok (.iload_n 3, 1) := by decide +kernel
theorem dX0_countUses_61 : decode cX0_countUses 61 = .ok (.dup2, 1) := by decide +kernel
theorem dX0_countUses_62 : decode cX0_countUses 62 = .ok (.iaload, 1) := by decide +kernel
theorem dX0_countUses_63 : decode cX0_countUses 63 = .ok (.iconst 1, 1) := by decide +kernel
theorem dX0_countUses_64 : decode cX0_countUses 64 = .ok (.iadd, 1) := by decide +kernel
theorem dX0_countUses_65 : decode cX0_countUses 65 = .ok (.iastore, 1) := by decide +kernel
theorem dX0_countUses_66 : decode cX0_countUses 66 = .ok (.aload_n 0, 1) := by decide +kernel
theorem dX0_countUses_67 : decode cX0_countUses 67 = .ok (.getfield 19, 3) := by decide +kernel
theorem dX0_countUses_70 : decode cX0_countUses 70 = .ok (.iload_n 3, 1) := by decide +kernel
theorem dX0_countUses_71 : decode cX0_countUses 71 = .ok (.dup2, 1) := by decide +kernel
theorem dX0_countUses_72 : decode cX0_countUses 72 = .ok (.iaload, 1) := by decide +kernel
theorem dX0_countUses_73 : decode cX0_countUses 73 = .ok (.iconst 1, 1) := by decide +kernel
theorem dX0_countUses_74 : decode cX0_countUses 74 = .ok (.iadd, 1) := by decide +kernel
theorem dX0_countUses_75 : decode cX0_countUses 75 = .ok (.iastore, 1) := by decide +kernel
theorem dX0_countUses_76 : decode cX0_countUses 76 = .ok (.iinc 2 1, 3) := by decide +kernel
theorem dX0_countUses_79 : decode cX0_countUses 79 = .ok (.goto (-51), 3) := by decide +kernel
theorem dX0_countUses_82 : decode cX0_countUses 82 = .ok (.iinc 1 1, 3) := by decide +kernel
theorem dX0_countUses_85 : decode cX0_countUses 85 = .ok (.goto (-83), 3) := by decide +kernel
theorem dX0_countUses_88 : decode cX0_countUses 88 = .ok (.return_, 1) := by decide +kernel
theorem dX0_isOfKind_0 : decode cX0_isOfKind 0 = .ok (.iload_n 0, 1) := by decide +kernel
theorem dX0_isOfKind_1 : decode cX0_isOfKind 1 = .ok (.tableswitch 60 1 3 #[27, 38, 49], 27) := by decide +kernel
theorem dX0_isOfKind_28 : decode cX0_isOfKind 28 = .ok (.iload_n 2, 1) := by decide +kernel
theorem dX0_isOfKind_29 : decode cX0_isOfKind 29 = .ok (.iload_n 1, 1) := by decide +kernel
theorem dX0_isOfKind_30 : decode cX0_isOfKind 30 = .ok (.if_icmp .ne 7, 3) := by decide +kernel
theorem dX0_isOfKind_33 : decode cX0_isOfKind 33 = .ok (.iconst 1, 1) := by decide +kernel
theorem dX0_isOfKind_34 : decode cX0_isOfKind 34 = .ok (.goto 4, 3) := by decide +kernel
theorem dX0_isOfKind_37 : decode cX0_isOfKind 37 = .ok (.iconst 0, 1) := by decide +kernel
theorem dX0_isOfKind_38 : decode cX0_isOfKind 38 = .ok (.ireturn, 1) := by decide +kernel
theorem dX0_isOfKind_39 : decode cX0_isOfKind 39 = .ok (.iload_n 2, 1) := by decide +kernel
theorem dX0_isOfKind_40 : decode cX0_isOfKind 40 = .ok (.iload_n 1, 1) := by decide +kernel
theorem dX0_isOfKind_41 : decode cX0_isOfKind 41 = .ok (.if_icmp .le 7, 3) := by decide +kernel
theorem dX0_isOfKind_44 : decode cX0_isOfKind 44 = .ok (.iconst 1, 1) := by decide +kernel
theorem dX0_isOfKind_45 : decode cX0_isOfKind 45 = .ok (.goto 4, 3) := by decide +kernel
theorem dX0_isOfKind_48 : decode cX0_isOfKind 48 = .ok (.iconst 0, 1) := by decide +kernel
theorem dX0_isOfKind_49 : decode cX0_isOfKind 49 = .ok (.ireturn, 1) := by decide +kernel
theorem dX0_isOfKind_50 : decode cX0_isOfKind 50 = .ok (.iload_n 2, 1) := by decide +kernel
theorem dX0_isOfKind_51 : decode cX0_isOfKind 51 = .ok (.iload_n 1, 1) := by decide +kernel
theorem dX0_isOfKind_52 : decode cX0_isOfKind 52 = .ok (.if_icmp .ge 7, 3) := by decide +kernel
theorem dX0_isOfKind_55 : decode cX0_isOfKind 55 = .ok (.iconst 1, 1) := by decide +kernel
theorem dX0_isOfKind_56 : decode cX0_isOfKind 56 = .ok (.goto 4, 3) := by decide +kernel
theorem dX0_isOfKind_59 : decode cX0_isOfKind 59 = .ok (.iconst 0, 1) := by decide +kernel
theorem dX0_isOfKind_60 : decode cX0_isOfKind 60 = .ok (.ireturn, 1) := by decide +kernel
theorem dX0_isOfKind_61 : decode cX0_isOfKind 61 = .ok (.iconst 1, 1) := by decide +kernel
theorem dX0_isOfKind_62 : decode cX0_isOfKind 62 = .ok (.ireturn, 1) := by decide +kernel
theorem dX7_fact_0 : decode cX7_fact 0 = .ok (.iload_n 0, 1) := by decide +kernel
theorem dX7_fact_1 : decode cX7_fact 1 = .ok (.tableswitch 33 (-3) (-1) #[31, 29, 27], 27) := by decide +kernel
theorem dX7_fact_28 : decode cX7_fact 28 = .ok (.iload_n 1, 1) := by decide +kernel
theorem dX7_fact_29 : decode cX7_fact 29 = .ok (.ireturn, 1) := by decide +kernel
theorem dX7_fact_30 : decode cX7_fact 30 = .ok (.iload_n 2, 1) := by decide +kernel
theorem dX7_fact_31 : decode cX7_fact 31 = .ok (.ireturn, 1) := by decide +kernel
theorem dX7_fact_32 : decode cX7_fact 32 = .ok (.iload_n 3, 1) := by decide +kernel
theorem dX7_fact_33 : decode cX7_fact 33 = .ok (.ireturn, 1) := by decide +kernel
theorem dX7_fact_34 : decode cX7_fact 34 = .ok (.iload 4, 2) := by decide +kernel
theorem dX7_fact_36 : decode cX7_fact 36 = .ok (.ireturn, 1) := by decide +kernel
theorem dX7_join_0 : decode cX7_join 0 = .ok (.iload_n 0, 1) := by decide +kernel
theorem dX7_join_1 : decode cX7_join 1 = .ok (.tableswitch 97 (-11) (-6) #[93, 89, 78, 67, 53, 39], 39) := by decide +kernel
theorem dX7_join_40 : decode cX7_join 40 = .ok (.iload_n 1, 1) := by decide +kernel
theorem dX7_join_41 : decode cX7_join 41 = .ok (.ifCond .eq 11, 3) := by decide +kernel
theorem dX7_join_44 : decode cX7_join 44 = .ok (.iload_n 2, 1) := by decide +kernel
theorem dX7_join_45 : decode cX7_join 45 = .ok (.ifCond .eq 7, 3) := by decide +kernel
theorem dX7_join_48 : decode cX7_join 48 = .ok (.iconst 1, 1) := by decide +kernel
theorem dX7_join_49 : decode cX7_join 49 = .ok (.goto 4, 3) := by decide +kernel
theorem dX7_join_52 : decode cX7_join 52 = .ok (.iconst 0, 1) := by decide +kernel
theorem dX7_join_53 : decode cX7_join 53 = .ok (.ireturn, 1) := by decide +kernel
theorem dX7_join_54 : decode cX7_join 54 = .ok (.iload_n 1, 1) := by decide +kernel
theorem dX7_join_55 : decode cX7_join 55 = .ok (.ifCond .ne 7, 3) := by decide +kernel
theorem dX7_join_58 : decode cX7_join 58 = .ok (.iload_n 2, 1) := by decide +kernel
theorem dX7_join_59 : decode cX7_join 59 = .ok (.ifCond .eq 7, 3) := by decide +kernel
theorem dX7_join_62 : decode cX7_join 62 = .ok (.iconst 1, 1) := by decide +kernel
theorem dX7_join_63 : decode cX7_join 63 = .ok (.goto 4, 3) := by decide +kernel
theorem dX7_join_66 : decode cX7_join 66 = .ok (.iconst 0, 1) := by decide +kernel
theorem dX7_join_67 : decode cX7_join 67 = .ok (.ireturn, 1) := by decide +kernel
theorem dX7_join_68 : decode cX7_join 68 = .ok (.iload_n 1, 1) := by decide +kernel
theorem dX7_join_69 : decode cX7_join 69 = .ok (.iload_n 2, 1) := by decide +kernel
theorem dX7_join_70 : decode cX7_join 70 = .ok (.if_icmp .ge 7, 3) := by decide +kernel
theorem dX7_join_73 : decode cX7_join 73 = .ok (.iconst 1, 1) := by decide +kernel
theorem dX7_join_74 : decode cX7_join 74 = .ok (.goto 4, 3) := by decide +kernel
theorem dX7_join_77 : decode cX7_join 77 = .ok (.iconst 0, 1) := by decide +kernel
theorem dX7_join_78 : decode cX7_join 78 = .ok (.ireturn, 1) := by decide +kernel
theorem dX7_join_79 : decode cX7_join 79 = .ok (.iload_n 1, 1) := by decide +kernel
theorem dX7_join_80 : decode cX7_join 80 = .ok (.iload_n 2, 1) := by decide +kernel
theorem dX7_join_81 : decode cX7_join 81 = .ok (.if_icmp .ne 7, 3) := by decide +kernel
theorem dX7_join_84 : decode cX7_join 84 = .ok (.iconst 1, 1) := by decide +kernel
theorem dX7_join_85 : decode cX7_join 85 = .ok (.goto 4, 3) := by decide +kernel
theorem dX7_join_88 : decode cX7_join 88 = .ok (.iconst 0, 1) := by decide +kernel
theorem dX7_join_89 : decode cX7_join 89 = .ok (.ireturn, 1) := by decide +kernel
theorem dX7_join_90 : decode cX7_join 90 = .ok (.iload_n 1, 1) := by decide +kernel
theorem dX7_join_91 : decode cX7_join 91 = .ok (.iload_n 2, 1) := by decide +kernel
theorem dX7_join_92 : decode cX7_join 92 = .ok (.iadd, 1) := by decide +kernel
theorem dX7_join_93 : decode cX7_join 93 = .ok (.ireturn, 1) := by decide +kernel
theorem dX7_join_94 : decode cX7_join 94 = .ok (.iload_n 1, 1) := by decide +kernel
theorem dX7_join_95 : decode cX7_join 95 = .ok (.iload_n 2, 1) := by decide +kernel
theorem dX7_join_96 : decode cX7_join 96 = .ok (.isub, 1) := by decide +kernel
theorem dX7_join_97 : decode cX7_join 97 = .ok (.ireturn, 1) := by decide +kernel
theorem dX7_join_98 : decode cX7_join 98 = .ok (.iload_n 1, 1) := by decide +kernel
theorem dX7_join_99 : decode cX7_join 99 = .ok (.iload_n 2, 1) := by decide +kernel
theorem dX7_join_100 : decode cX7_join 100 = .ok (.imul, 1) := by decide +kernel
theorem dX7_join_101 : decode cX7_join 101 = .ok (.ireturn, 1) := by decide +kernel
theorem dX7_value_0 : decode cX7_value 0 = .ok (.iconst 0, 1) := by decide +kernel
theorem dX7_value_1 : decode cX7_value 1 = .ok (.istore 5, 2) := by decide +kernel
theorem dX7_value_3 : decode cX7_value 3 = .ok (.iconst 0, 1) := by decide +kernel
theorem dX7_value_4 : decode cX7_value 4 = .ok (.istore 6, 2) := by decide +kernel
theorem dX7_value_6 : decode cX7_value 6 = .ok (.iload 6, 2) := by decide +kernel
theorem dX7_value_8 : decode cX7_value 8 = .ok (.aload_n 0, 1) := by decide +kernel
theorem dX7_value_9 : decode cX7_value 9 = .ok (.getfield 22, 3) := by decide +kernel
theorem dX7_value_12 : decode cX7_value 12 = .ok (.if_icmp .ge 190, 3) := by decide +kernel
theorem dX7_value_15 : decode cX7_value 15 = .ok (.iload 6, 2) := by decide +kernel
theorem dX7_value_17 : decode cX7_value 17 = .ok (.aload_n 0, 1) := by decide +kernel
theorem dX7_value_18 : decode cX7_value 18 = .ok (.getfield 9, 3) := by decide +kernel
theorem dX7_value_21 : decode cX7_value 21 = .ok (.arraylength, 1) := by decide +kernel
theorem dX7_value_22 : decode cX7_value 22 = .ok (.if_icmp .ge 180, 3) := by decide +kernel
theorem dX7_value_25 : decode cX7_value 25 = .ok (.aload_n 0, 1) := by decide +kernel
theorem dX7_value_26 : decode cX7_value 26 = .ok (.getfield 9, 3) := by decide +kernel
theorem dX7_value_29 : decode cX7_value 29 = .ok (.iload 6, 2) := by decide +kernel
theorem dX7_value_31 : decode cX7_value 31 = .ok (.iaload, 1) := by decide +kernel
theorem dX7_value_32 : decode cX7_value 32 = .ok (.istore 7, 2) := by decide +kernel
theorem dX7_value_34 : decode cX7_value 34 = .ok (.iload 7, 2) := by decide +kernel
theorem dX7_value_36 : decode cX7_value 36 = .ok (.bipush (-5), 2) := by decide +kernel
theorem dX7_value_38 : decode cX7_value 38 = .ok (.if_icmp .le 53, 3) := by decide +kernel
theorem dX7_value_41 : decode cX7_value 41 = .ok (.iload 5, 2) := by decide +kernel
theorem dX7_value_43 : decode cX7_value 43 = .ok (.ifCond .lt 13, 3) := by decide +kernel
theorem dX7_value_46 : decode cX7_value 46 = .ok (.iload 5, 2) := by decide +kernel
theorem dX7_value_48 : decode cX7_value 48 = .ok (.aload_n 0, 1) := by decide +kernel
theorem dX7_value_49 : decode cX7_value 49 = .ok (.getfield 15, 3) := by decide +kernel
theorem dX7_value_52 : decode cX7_value 52 = .ok (.arraylength, 1) := by decide +kernel
theorem dX7_value_53 : decode cX7_value 53 = .ok (.if_icmp .lt 5, 3) := by decide +kernel
theorem dX7_value_56 : decode cX7_value 56 = .ok (.iconst 0, 1) := by decide +kernel
theorem dX7_value_57 : decode cX7_value 57 = .ok (.ireturn, 1) := by decide +kernel
theorem dX7_value_58 : decode cX7_value 58 = .ok (.aload_n 0, 1) := by decide +kernel
theorem dX7_value_59 : decode cX7_value 59 = .ok (.getfield 15, 3) := by decide +kernel
theorem dX7_value_62 : decode cX7_value 62 = .ok (.iload 5, 2) := by decide +kernel
theorem dX7_value_64 : decode cX7_value 64 = .ok (.iload 7, 2) := by decide +kernel
theorem dX7_value_66 : decode cX7_value 66 = .ok (.ifCond .lt 8, 3) := by decide +kernel
theorem dX7_value_69 : decode cX7_value 69 = .ok (.iload 7, 2) := by decide +kernel
theorem dX7_value_71 : decode cX7_value 71 = .ok (.goto 13, 3) := by decide +kernel
theorem dX7_value_74 : decode cX7_value 74 = .ok (.iload 7, 2) := by decide +kernel
theorem dX7_value_76 : decode cX7_value 76 = .ok (.iload_n 1, 1) := by decide +kernel
theorem dX7_value_77 : decode cX7_value 77 = .ok (.iload_n 2, 1) := by decide +kernel
theorem dX7_value_78 : decode cX7_value 78 = .ok (.iload_n 3, 1) := by decide +kernel
theorem dX7_value_79 : decode cX7_value 79 = .ok (.iload 4, 2) := by decide +kernel
theorem dX7_value_81 : decode cX7_value 81 = .ok (.invokestatic 71, 3) := by decide +kernel
theorem dX7_value_84 : decode cX7_value 84 = .ok (.iastore, 1) := by decide +kernel
theorem dX7_value_85 : decode cX7_value 85 = .ok (.iinc 5 1, 3) := by decide +kernel
theorem dX7_value_88 : decode cX7_value 88 = .ok (.goto 108, 3) := by decide +kernel
theorem dX7_value_91 : decode cX7_value 91 = .ok (.iload 7, 2) := by decide +kernel
theorem dX7_value_93 : decode cX7_value 93 = .ok (.bipush (-5), 2) := by decide +kernel
theorem dX7_value_95 : decode cX7_value 95 = .ok (.if_icmp .ne 50, 3) := by decide +kernel
theorem dX7_value_98 : decode cX7_value 98 = .ok (.iload 5, 2) := by decide +kernel
theorem dX7_value_100 : decode cX7_value 100 = .ok (.iconst 1, 1) := by decide +kernel
theorem dX7_value_101 : decode cX7_value 101 = .ok (.if_icmp .lt 13, 3) := by decide +kernel
theorem dX7_value_104 : decode cX7_value 104 = .ok (.iload 5, 2) := by decide +kernel
theorem dX7_value_106 : decode cX7_value 106 = .ok (.aload_n 0, 1) := by decide +kernel
theorem dX7_value_107 : decode cX7_value 107 = .ok (.getfield 15, 3) := by decide +kernel
theorem dX7_value_110 : decode cX7_value 110 = .ok (.arraylength, 1) := by decide +kernel
theorem dX7_value_111 : decode cX7_value 111 = .ok (.if_icmp .le 5, 3) := by decide +kernel
theorem dX7_value_114 : decode cX7_value 114 = .ok (.iconst 0, 1) := by decide +kernel
theorem dX7_value_115 : decode cX7_value 115 = .ok (.ireturn, 1) := by decide +kernel
theorem dX7_value_116 : decode cX7_value 116 = .ok (.aload_n 0, 1) := by decide +kernel
theorem dX7_value_117 : decode cX7_value 117 = .ok (.getfield 15, 3) := by decide +kernel
theorem dX7_value_120 : decode cX7_value 120 = .ok (.iload 5, 2) := by decide +kernel
theorem dX7_value_122 : decode cX7_value 122 = .ok (.iconst 1, 1) := by decide +kernel
theorem dX7_value_123 : decode cX7_value 123 = .ok (.isub, 1) := by decide +kernel
theorem dX7_value_124 : decode cX7_value 124 = .ok (.aload_n 0, 1) := by decide +kernel
theorem dX7_value_125 : decode cX7_value 125 = .ok (.getfield 15, 3) := by decide +kernel
theorem dX7_value_128 : decode cX7_value 128 = .ok (.iload 5, 2) := by decide +kernel
theorem dX7_value_130 : decode cX7_value 130 = .ok (.iconst 1, 1) := by decide +kernel
theorem dX7_value_131 : decode cX7_value 131 = .ok (.isub, 1) := by decide +kernel
theorem dX7_value_132 : decode cX7_value 132 = .ok (.iaload, 1) := by decide +kernel
theorem dX7_value_133 : decode cX7_value 133 = .ok (.ifCond .ne 7, 3) := by decide +kernel
theorem dX7_value_136 : decode cX7_value 136 = .ok (.iconst 1, 1) := by decide +kernel
theorem dX7_value_137 : decode cX7_value 137 = .ok (.goto 4, 3) := by decide +kernel
theorem dX7_value_140 : decode cX7_value 140 = .ok (.iconst 0, 1) := by decide +kernel
theorem dX7_value_141 : decode cX7_value 141 = .ok (.iastore, 1) := by decide +kernel
theorem dX7_value_142 : decode cX7_value 142 = .ok (.goto 54, 3) := by decide +kernel
theorem dX7_value_145 : decode cX7_value 145 = .ok (.iload 5, 2) := by decide +kernel
theorem dX7_value_147 : decode cX7_value 147 = .ok (.iconst 2, 1) := by decide +kernel
theorem dX7_value_148 : decode cX7_value 148 = .ok (.if_icmp .lt 13, 3) := by decide +kernel
theorem dX7_value_151 : decode cX7_value 151 = .ok (.iload 5, 2) := by decide +kernel
theorem dX7_value_153 : decode cX7_value 153 = .ok (.aload_n 0, 1) := by decide +kernel
theorem dX7_value_154 : decode cX7_value 154 = .ok (.getfield 15, 3) := by decide +kernel
theorem dX7_value_157 : decode cX7_value 157 = .ok (.arraylength, 1) := by decide +kernel
theorem dX7_value_158 : decode cX7_value 158 = .ok (.if_icmp .le 5, 3) := by decide +kernel
theorem dX7_value_161 : decode cX7_value 161 = .ok (.iconst 0, 1) := by decide +kernel
theorem dX7_value_162 : decode cX7_value 162 = .ok (.ireturn, 1) := by decide +kernel
theorem dX7_value_163 : decode cX7_value 163 = .ok (.iinc 5 (-1), 3) := by decide +kernel
theorem dX7_value_166 : decode cX7_value 166 = .ok (.aload_n 0, 1) := by decide +kernel
theorem dX7_value_167 : decode cX7_value 167 = .ok (.getfield 15, 3) := by decide +kernel
theorem dX7_value_170 : decode cX7_value 170 = .ok (.iload 5, 2) := by decide +kernel
theorem dX7_value_172 : decode cX7_value 172 = .ok (.iconst 1, 1) := by decide +kernel
theorem dX7_value_173 : decode cX7_value 173 = .ok (.isub, 1) := by decide +kernel
theorem dX7_value_174 : decode cX7_value 174 = .ok (.iload 7, 2) := by decide +kernel
theorem dX7_value_176 : decode cX7_value 176 = .ok (.aload_n 0, 1) := by decide +kernel
theorem dX7_value_177 : decode cX7_value 177 = .ok (.getfield 15, 3) := by decide +kernel
theorem dX7_value_180 : decode cX7_value 180 = .ok (.iload 5, 2) := by decide +kernel
theorem dX7_value_182 : decode cX7_value 182 = .ok (.iconst 1, 1) := by decide +kernel
theorem dX7_value_183 : decode cX7_value 183 = .ok (.isub, 1) := by decide +kernel
theorem dX7_value_184 : decode cX7_value 184 = .ok (.iaload, 1) := by decide +kernel
theorem dX7_value_185 : decode cX7_value 185 = .ok (.aload_n 0, 1) := by decide +kernel
theorem dX7_value_186 : decode cX7_value 186 = .ok (.getfield 15, 3) := by decide +kernel
theorem dX7_value_189 : decode cX7_value 189 = .ok (.iload 5, 2) := by decide +kernel
theorem dX7_value_191 : decode cX7_value 191 = .ok (.iaload, 1) := by decide +kernel
theorem dX7_value_192 : decode cX7_value 192 = .ok (.invokestatic 75, 3) := by decide +kernel
theorem dX7_value_195 : decode cX7_value 195 = .ok (.iastore, 1) := by decide +kernel
theorem dX7_value_196 : decode cX7_value 196 = .ok (.iinc 6 1, 3) := by decide +kernel
theorem dX7_value_199 : decode cX7_value 199 = .ok (.goto (-193), 3) := by decide +kernel
theorem dX7_value_202 : decode cX7_value 202 = .ok (.aload_n 0, 1) := by decide +kernel
theorem dX7_value_203 : decode cX7_value 203 = .ok (.getfield 15, 3) := by decide +kernel
theorem dX7_value_206 : decode cX7_value 206 = .ok (.iconst 0, 1) := by decide +kernel
theorem dX7_value_207 : decode cX7_value 207 = .ok (.iaload, 1) := by decide +kernel
theorem dX7_value_208 : decode cX7_value 208 = .ok (.ireturn, 1) := by decide +kernel
theorem dX0_findMeanings_0 : decode cX0_findMeanings 0 = .ok (.iconst 0, 1) := by decide +kernel
theorem dX0_findMeanings_1 : decode cX0_findMeanings 1 = .ok (.istore_n 2, 1) := by decide +kernel
theorem dX0_findMeanings_2 : decode cX0_findMeanings 2 = .ok (.iload_n 2, 1) := by decide +kernel
theorem dX0_findMeanings_3 : decode cX0_findMeanings 3 = .ok (.aload_n 0, 1) := by decide +kernel
theorem dX0_findMeanings_4 : decode cX0_findMeanings 4 = .ok (.getfield 51, 3) := by decide +kernel
theorem dX0_findMeanings_7 : decode cX0_findMeanings 7 = .ok (.if_icmp .ge 116, 3) := by decide +kernel
theorem dX0_findMeanings_10 : decode cX0_findMeanings 10 = .ok (.iload_n 2, 1) := by decide +kernel
theorem dX0_findMeanings_11 : decode cX0_findMeanings 11 = .ok (.iconst 4, 1) := by decide +kernel
theorem dX0_findMeanings_12 : decode cX0_findMeanings 12 = .ok (.if_icmp .ge 111, 3) := by decide +kernel
theorem dX0_findMeanings_15 : decode cX0_findMeanings 15 = .ok (.iconst 0, 1) := by decide +kernel
theorem dX0_findMeanings_16 : decode cX0_findMeanings 16 = .ok (.istore_n 3, 1) := by decide +kernel
theorem dX0_findMeanings_17 : decode cX0_findMeanings 17 = .ok (.iconst 0, 1) := by decide +kernel
theorem dX0_findMeanings_18 : decode cX0_findMeanings 18 = .ok (.istore 4, 2) := by decide +kernel
theorem dX0_findMeanings_20 : decode cX0_findMeanings 20 = .ok (.iload 4, 2) := by decide +kernel
theorem dX0_findMeanings_22 : decode cX0_findMeanings 22 = .ok (.bipush 9, 2) := by decide +kernel
theorem dX0_findMeanings_24 : decode cX0_findMeanings 24 = .ok (.if_icmp .ge 86, 3) := by decide +kernel
theorem dX0_findMeanings_27 : decode cX0_findMeanings 27 = .ok (.iload 4, 2) := by decide +kernel
theorem dX0_findMeanings_29 : decode cX0_findMeanings 29 = .ok (.iconst 3, 1) := by decide +kernel
theorem dX0_findMeanings_30 : decode cX0_findMeanings 30 = .ok (.idiv, 1) := by decide +kernel
theorem dX0_findMeanings_31 : decode cX0_findMeanings 31 = .ok (.istore 5, 2) := by decide +kernel
theorem dX0_findMeanings_33 : decode cX0_findMeanings 33 = .ok (.iload 4, 2) := by decide +kernel
theorem dX0_findMeanings_35 : decode cX0_findMeanings 35 = .ok (.iconst 3, 1) := by decide +kernel
theorem dX0_findMeanings_36 : decode cX0_findMeanings 36 = .ok (.irem, 1) := by decide +kernel
theorem dX0_findMeanings_37 : decode cX0_findMeanings 37 = .ok (.istore 6, 2) := by decide +kernel
theorem dX0_findMeanings_39 : decode cX0_findMeanings 39 = .ok (.aload_n 0, 1) := by decide +kernel
theorem dX0_findMeanings_40 : decode cX0_findMeanings 40 = .ok (.getfield 15, 3) := by decide +kernel
theorem dX0_findMeanings_43 : decode cX0_findMeanings 43 = .ok (.iload_n 2, 1) := by decide +kernel
theorem dX0_findMeanings_44 : decode cX0_findMeanings 44 = .ok (.iaload, 1) := by decide +kernel
theorem dX0_findMeanings_45 : decode cX0_findMeanings 45 = .ok (.iload 5, 2) := by decide +kernel
theorem dX0_findMeanings_47 : decode cX0_findMeanings 47 = .ok (.iload 6, 2) := by decide +kernel
theorem dX0_findMeanings_49 : decode cX0_findMeanings 49 = .ok (.invokestatic 65, 3) := by decide +kernel
theorem dX0_findMeanings_52 : decode cX0_findMeanings 52 = .ok (.ifCond .eq 25, 3) := by decide +kernel
theorem dX0_findMeanings_55 : decode cX0_findMeanings 55 = .ok (.aload_n 1, 1) := by decide +kernel
theorem dX0_findMeanings_56 : decode cX0_findMeanings 56 = .ok (.iload 5, 2) := by decide +kernel
theorem dX0_findMeanings_58 : decode cX0_findMeanings 58 = .ok (.iload 6, 2) := by decide +kernel
theorem dX0_findMeanings_60 : decode cX0_findMeanings 60 = .ok (.aload_n 0, 1) := by decide +kernel
theorem dX0_findMeanings_61 : decode cX0_findMeanings 61 = .ok (.getfield 19, 3) := by decide +kernel
theorem dX0_findMeanings_64 : decode cX0_findMeanings 64 = .ok (.iload_n 2, 1) := by decide +kernel
theorem dX0_findMeanings_65 : decode cX0_findMeanings 65 = .ok (.iaload, 1) := by decide +kernel
theorem dX0_findMeanings_66 : decode cX0_findMeanings 66 = .ok (.iload_n 2, 1) := by decide +kernel
theorem dX0_findMeanings_67 : decode cX0_findMeanings 67 = .ok (.invokevirtual 69, 3) := by decide +kernel
theorem dX0_findMeanings_70 : decode cX0_findMeanings 70 = .ok (.ifCond .eq 7, 3) := by decide +kernel
theorem dX0_findMeanings_73 : decode cX0_findMeanings 73 = .ok (.iconst 1, 1) := by decide +kernel
theorem dX0_findMeanings_74 : decode cX0_findMeanings 74 = .ok (.goto 4, 3) := by decide +kernel
theorem dX0_findMeanings_77 : decode cX0_findMeanings 77 = .ok (.iconst 0, 1) := by decide +kernel
theorem dX0_findMeanings_78 : decode cX0_findMeanings 78 = .ok (.istore 7, 2) := by decide +kernel
theorem dX0_findMeanings_80 : decode cX0_findMeanings 80 = .ok (.iload 7, 2) := by decide +kernel
theorem dX0_findMeanings_82 : decode cX0_findMeanings 82 = .ok (.ifCond .eq 22, 3) := by decide +kernel
theorem dX0_findMeanings_85 : decode cX0_findMeanings 85 = .ok (.iload_n 3, 1) := by decide +kernel
theorem dX0_findMeanings_86 : decode cX0_findMeanings 86 = .ok (.bipush 9, 2) := by decide +kernel
theorem dX0_findMeanings_88 : decode cX0_findMeanings 88 = .ok (.if_icmp .ge 16, 3) := by decide +kernel
theorem dX0_findMeanings_91 : decode cX0_findMeanings 91 = .ok (.aload_n 0, 1) := by decide +kernel
theorem dX0_findMeanings_92 : decode cX0_findMeanings 92 = .ok (.getfield 27, 3) := by decide +kernel
theorem dX0_findMeanings_95 : decode cX0_findMeanings 95 = .ok (.iload_n 2, 1) := by decide +kernel
theorem dX0_findMeanings_96 : decode cX0_findMeanings 96 = .ok (.aaload, 1) := by decide +kernel
theorem dX0_findMeanings_97 : decode cX0_findMeanings 97 = .ok (.iload_n 3, 1) := by decide +kernel
theorem dX0_findMeanings_98 : decode cX0_findMeanings 98 = .ok (.iload 4, 2) := by decide +kernel
theorem dX0_findMeanings_100 : decode cX0_findMeanings 100 = .ok (.iastore, 1) := by decide +kernel
theorem dX0_findMeanings_101 : decode cX0_findMeanings 101 = .ok (.iinc 3 1, 3) := by decide +kernel
theorem dX0_findMeanings_104 : decode cX0_findMeanings 104 = .ok (.iinc 4 1, 3) := by decide +kernel
theorem dX0_findMeanings_107 : decode cX0_findMeanings 107 = .ok (.goto (-87), 3) := by decide +kernel
theorem dX0_findMeanings_110 : decode cX0_findMeanings 110 = .ok (.aload_n 0, 1) := by decide +kernel
theorem dX0_findMeanings_111 : decode cX0_findMeanings 111 = .ok (.getfield 22, 3) := by decide +kernel
theorem dX0_findMeanings_114 : decode cX0_findMeanings 114 = .ok (.iload_n 2, 1) := by decide +kernel
theorem dX0_findMeanings_115 : decode cX0_findMeanings 115 = .ok (.iload_n 3, 1) := by decide +kernel
theorem dX0_findMeanings_116 : decode cX0_findMeanings 116 = .ok (.iastore, 1) := by decide +kernel
theorem dX0_findMeanings_117 : decode cX0_findMeanings 117 = .ok (.iinc 2 1, 3) := by decide +kernel
theorem dX0_findMeanings_120 : decode cX0_findMeanings 120 = .ok (.goto (-118), 3) := by decide +kernel
theorem dX0_findMeanings_123 : decode cX0_findMeanings 123 = .ok (.return_, 1) := by decide +kernel
theorem dX0_means_0 : decode cX0_means 0 = .ok (.iconst 0, 1) := by decide +kernel
theorem dX0_means_1 : decode cX0_means 1 = .ok (.istore_n 3, 1) := by decide +kernel
theorem dX0_means_2 : decode cX0_means 2 = .ok (.iload_n 1, 1) := by decide +kernel
theorem dX0_means_3 : decode cX0_means 3 = .ok (.ifCond .lt 44, 3) := by decide +kernel
theorem dX0_means_6 : decode cX0_means 6 = .ok (.iload_n 1, 1) := by decide +kernel
theorem dX0_means_7 : decode cX0_means 7 = .ok (.iconst 4, 1) := by decide +kernel
theorem dX0_means_8 : decode cX0_means 8 = .ok (.if_icmp .ge 39, 3) := by decide +kernel
theorem dX0_means_11 : decode cX0_means 11 = .ok (.iload_n 3, 1) := by decide +kernel
theorem dX0_means_12 : decode cX0_means 12 = .ok (.aload_n 0, 1) := by decide +kernel
theorem dX0_means_13 : decode cX0_means 13 = .ok (.getfield 22, 3) := by decide +kernel
theorem dX0_means_16 : decode cX0_means 16 = .ok (.iload_n 1, 1) := by decide +kernel
theorem dX0_means_17 : decode cX0_means 17 = .ok (.iaload, 1) := by decide +kernel
theorem dX0_means_18 : decode cX0_means 18 = .ok (.if_icmp .ge 29, 3) := by decide +kernel
theorem dX0_means_21 : decode cX0_means 21 = .ok (.iload_n 3, 1) := by decide +kernel
theorem dX0_means_22 : decode cX0_means 22 = .ok (.bipush 9, 2) := by decide +kernel
theorem dX0_means_24 : decode cX0_means 24 = .ok (.if_icmp .ge 23, 3) := by decide +kernel
theorem dX0_means_27 : decode cX0_means 27 = .ok (.aload_n 0, 1) := by decide +kernel
theorem dX0_means_28 : decode cX0_means 28 = .ok (.getfield 27, 3) := by decide +kernel
theorem dX0_means_31 : decode cX0_means 31 = .ok (.iload_n 1, 1) := by decide +kernel
theorem dX0_means_32 : decode cX0_means 32 = .ok (.aaload, 1) := by decide +kernel
theorem dX0_means_33 : decode cX0_means 33 = .ok (.iload_n 3, 1) := by decide +kernel
theorem dX0_means_34 : decode cX0_means 34 = .ok (.iaload, 1) := by decide +kernel
theorem dX0_means_35 : decode cX0_means 35 = .ok (.iload_n 2, 1) := by decide +kernel
theorem dX0_means_36 : decode cX0_means 36 = .ok (.if_icmp .ne 5, 3) := by decide +kernel
theorem dX0_means_39 : decode cX0_means 39 = .ok (.iconst 1, 1) := by decide +kernel
theorem dX0_means_40 : decode cX0_means 40 = .ok (.ireturn, 1) := by decide +kernel
theorem dX0_means_41 : decode cX0_means 41 = .ok (.iinc 3 1, 3) := by decide +kernel
theorem dX0_means_44 : decode cX0_means 44 = .ok (.goto (-42), 3) := by decide +kernel
theorem dX0_means_47 : decode cX0_means 47 = .ok (.iconst 0, 1) := by decide +kernel
theorem dX0_means_48 : decode cX0_means 48 = .ok (.ireturn, 1) := by decide +kernel
theorem dX0_meaningBelow_0 : decode cX0_meaningBelow 0 = .ok (.aload_n 0, 1) := by decide +kernel
theorem dX0_meaningBelow_1 : decode cX0_meaningBelow 1 = .ok (.getfield 22, 3) := by decide +kernel
theorem dX0_meaningBelow_4 : decode cX0_meaningBelow 4 = .ok (.iload_n 1, 1) := by decide +kernel
theorem dX0_meaningBelow_5 : decode cX0_meaningBelow 5 = .ok (.iaload, 1) := by decide +kernel
theorem dX0_meaningBelow_6 : decode cX0_meaningBelow 6 = .ok (.istore 4, 2) := by decide +kernel
theorem dX0_meaningBelow_8 : decode cX0_meaningBelow 8 = .ok (.iload 4, 2) := by decide +kernel
theorem dX0_meaningBelow_10 : decode cX0_meaningBelow 10 = .ok (.ifCond .le 9, 3) := by decide +kernel
theorem dX0_meaningBelow_13 : decode cX0_meaningBelow 13 = .ok (.lload_n 2, 1) := by decide +kernel
theorem dX0_meaningBelow_14 : decode cX0_meaningBelow 14 = .ok (.lconst 0, 1) := by decide +kernel
theorem dX0_meaningBelow_15 : decode cX0_meaningBelow 15 = .ok (.lcmp, 1) := by decide +kernel
theorem dX0_meaningBelow_16 : decode cX0_meaningBelow 16 = .ok (.ifCond .ge 5, 3) := by decide +kernel
theorem dX0_meaningBelow_19 : decode cX0_meaningBelow 19 = .ok (.iconst 0, 1) := by decide +kernel
theorem dX0_meaningBelow_20 : decode cX0_meaningBelow 20 = .ok (.ireturn, 1) := by decide +kernel
theorem dX0_meaningBelow_21 : decode cX0_meaningBelow 21 = .ok (.lload_n 2, 1) := by decide +kernel
theorem dX0_meaningBelow_22 : decode cX0_meaningBelow 22 = .ok (.iload 4, 2) := by decide +kernel
theorem dX0_meaningBelow_24 : decode cX0_meaningBelow 24 = .ok (.i2l, 1) := by decide +kernel
theorem dX0_meaningBelow_25 : decode cX0_meaningBelow 25 = .ok (.lrem, 1) := by decide +kernel
theorem dX0_meaningBelow_26 : decode cX0_meaningBelow 26 = .ok (.l2i, 1) := by decide +kernel
theorem dX0_meaningBelow_27 : decode cX0_meaningBelow 27 = .ok (.istore 5, 2) := by decide +kernel
theorem dX0_meaningBelow_29 : decode cX0_meaningBelow 29 = .ok (.iload 5, 2) := by decide +kernel
theorem dX0_meaningBelow_31 : decode cX0_meaningBelow 31 = .ok (.bipush 9, 2) := by decide +kernel
theorem dX0_meaningBelow_33 : decode cX0_meaningBelow 33 = .ok (.if_icmp .ge 15, 3) := by decide +kernel
theorem dX0_meaningBelow_36 : decode cX0_meaningBelow 36 = .ok (.aload_n 0, 1) := by decide +kernel
theorem dX0_meaningBelow_37 : decode cX0_meaningBelow 37 = .ok (.getfield 27, 3) := by decide +kernel
theorem dX0_meaningBelow_40 : decode cX0_meaningBelow 40 = .ok (.iload_n 1, 1) := by decide +kernel
theorem dX0_meaningBelow_41 : decode cX0_meaningBelow 41 = .ok (.aaload, 1) := by decide +kernel
theorem dX0_meaningBelow_42 : decode cX0_meaningBelow 42 = .ok (.iload 5, 2) := by decide +kernel
theorem dX0_meaningBelow_44 : decode cX0_meaningBelow 44 = .ok (.iaload, 1) := by decide +kernel
theorem dX0_meaningBelow_45 : decode cX0_meaningBelow 45 = .ok (.goto 4, 3) := by decide +kernel
theorem dX0_meaningBelow_48 : decode cX0_meaningBelow 48 = .ok (.iconst 0, 1) := by decide +kernel
theorem dX0_meaningBelow_49 : decode cX0_meaningBelow 49 = .ok (.ireturn, 1) := by decide +kernel
theorem dX0_dictionaries_0 : decode cX0_dictionaries 0 = .ok (.iconst 1, 1) := by decide +kernel
theorem dX0_dictionaries_1 : decode cX0_dictionaries 1 = .ok (.istore_n 1, 1) := by decide +kernel
theorem dX0_dictionaries_2 : decode cX0_dictionaries 2 = .ok (.iconst 0, 1) := by decide +kernel
theorem dX0_dictionaries_3 : decode cX0_dictionaries 3 = .ok (.istore_n 2, 1) := by decide +kernel
theorem dX0_dictionaries_4 : decode cX0_dictionaries 4 = .ok (.iload_n 2, 1) := by decide +kernel
theorem dX0_dictionaries_5 : decode cX0_dictionaries 5 = .ok (.aload_n 0, 1) := by decide +kernel
theorem dX0_dictionaries_6 : decode cX0_dictionaries 6 = .ok (.getfield 51, 3) := by decide +kernel
theorem dX0_dictionaries_9 : decode cX0_dictionaries 9 = .ok (.if_icmp .ge 23, 3) := by decide +kernel
theorem dX0_dictionaries_12 : decode cX0_dictionaries 12 = .ok (.iload_n 2, 1) := by decide +kernel
theorem dX0_dictionaries_13 : decode cX0_dictionaries 13 = .ok (.iconst 4, 1) := by decide +kernel
theorem dX0_dictionaries_14 : decode cX0_dictionaries 14 = .ok (.if_icmp .ge 18, 3) := by decide +kernel
theorem dX0_dictionaries_17 : decode cX0_dictionaries 17 = .ok (.iload_n 1, 1) := by decide +kernel
theorem dX0_dictionaries_18 : decode cX0_dictionaries 18 = .ok (.aload_n 0, 1) := by decide +kernel
theorem dX0_dictionaries_19 : decode cX0_dictionaries 19 = .ok (.getfield 22, 3) := by decide +kernel
theorem dX0_dictionaries_22 : decode cX0_dictionaries 22 = .ok (.iload_n 2, 1) := by decide +kernel
theorem dX0_dictionaries_23 : decode cX0_dictionaries 23 = .ok (.iaload, 1) := by decide +kernel
theorem dX0_dictionaries_24 : decode cX0_dictionaries 24 = .ok (.imul, 1) := by decide +kernel
theorem dX0_dictionaries_25 : decode cX0_dictionaries 25 = .ok (.istore_n 1, 1) := by decide +kernel
theorem dX0_dictionaries_26 : decode cX0_dictionaries 26 = .ok (.iinc 2 1, 3) := by decide +kernel
theorem dX0_dictionaries_29 : decode cX0_dictionaries 29 = .ok (.goto (-25), 3) := by decide +kernel
theorem dX0_dictionaries_32 : decode cX0_dictionaries 32 = .ok (.iload_n 1, 1) := by decide +kernel
theorem dX0_dictionaries_33 : decode cX0_dictionaries 33 = .ok (.ireturn, 1) := by decide +kernel
theorem dX0_takesOf_0 : decode cX0_takesOf 0 = .ok (.iconst 0, 1) := by decide +kernel
theorem dX0_takesOf_1 : decode cX0_takesOf 1 = .ok (.istore_n 3, 1) := by decide +kernel
theorem dX0_takesOf_2 : decode cX0_takesOf 2 = .ok (.iconst 0, 1) := by decide +kernel
theorem dX0_takesOf_3 : decode cX0_takesOf 3 = .ok (.istore 4, 2) := by decide +kernel
theorem dX0_takesOf_5 : decode cX0_takesOf 5 = .ok (.iload 4, 2) := by decide +kernel
theorem dX0_takesOf_7 : decode cX0_takesOf 7 = .ok (.aload_n 0, 1) := by decide +kernel
theorem dX0_takesOf_8 : decode cX0_takesOf 8 = .ok (.getfield 51, 3) := by decide +kernel
theorem dX0_takesOf_11 : decode cX0_takesOf 11 = .ok (.if_icmp .ge 39, 3) := by decide +kernel
theorem dX0_takesOf_14 : decode cX0_takesOf 14 = .ok (.iload 4, 2) := by decide +kernel
theorem dX0_takesOf_16 : decode cX0_takesOf 16 = .ok (.iconst 4, 1) := by decide +kernel
theorem dX0_takesOf_17 : decode cX0_takesOf 17 = .ok (.if_icmp .ge 33, 3) := by decide +kernel
theorem dX0_takesOf_20 : decode cX0_takesOf 20 = .ok (.iload_n 3, 1) := by decide +kernel
theorem dX0_takesOf_21 : decode cX0_takesOf 21 = .ok (.aload_n 0, 1) := by decide +kernel
theorem dX0_takesOf_22 : decode cX0_takesOf 22 = .ok (.getfield 36, 3) := by decide +kernel
theorem dX0_takesOf_25 : decode cX0_takesOf 25 = .ok (.iload_n 1, 1) := by decide +kernel
theorem dX0_takesOf_26 : decode cX0_takesOf 26 = .ok (.aaload, 1) := by decide +kernel
theorem dX0_takesOf_27 : decode cX0_takesOf 27 = .ok (.iload 4, 2) := by decide +kernel
theorem dX0_takesOf_29 : decode cX0_takesOf 29 = .ok (.iaload, 1) := by decide +kernel
theorem dX0_takesOf_30 : decode cX0_takesOf 30 = .ok (.iload_n 2, 1) := by decide +kernel
theorem dX0_takesOf_31 : decode cX0_takesOf 31 = .ok (.iconst 4, 1) := by decide +kernel
theorem dX0_takesOf_32 : decode cX0_takesOf 32 = .ok (.iload 4, 2) := by decide +kernel
theorem dX0_takesOf_34 : decode cX0_takesOf 34 = .ok (.imul, 1) := by decide +kernel
theorem dX0_takesOf_35 : decode cX0_takesOf 35 = .ok (.ishr, 1) := by decide +kernel
theorem dX0_takesOf_36 : decode cX0_takesOf 36 = .ok (.bipush 15, 2) := by decide +kernel
theorem dX0_takesOf_38 : decode cX0_takesOf 38 = .ok (.iand, 1) := by decide +kernel
theorem dX0_takesOf_39 : decode cX0_takesOf 39 = .ok (.iconst 3, 1) := by decide +kernel
theorem dX0_takesOf_40 : decode cX0_takesOf 40 = .ok (.idiv, 1) := by decide +kernel
theorem dX0_takesOf_41 : decode cX0_takesOf 41 = .ok (.imul, 1) := by decide +kernel
theorem dX0_takesOf_42 : decode cX0_takesOf 42 = .ok (.iadd, 1) := by decide +kernel
theorem dX0_takesOf_43 : decode cX0_takesOf 43 = .ok (.istore_n 3, 1) := by decide +kernel
theorem dX0_takesOf_44 : decode cX0_takesOf 44 = .ok (.iinc 4 1, 3) := by decide +kernel
theorem dX0_takesOf_47 : decode cX0_takesOf 47 = .ok (.goto (-42), 3) := by decide +kernel
theorem dX0_takesOf_50 : decode cX0_takesOf 50 = .ok (.iload_n 3, 1) := by decide +kernel
theorem dX0_takesOf_51 : decode cX0_takesOf 51 = .ok (.ireturn, 1) := by decide +kernel
theorem dX0_leavesOf_0 : decode cX0_leavesOf 0 = .ok (.iconst 0, 1) := by decide +kernel
theorem dX0_leavesOf_1 : decode cX0_leavesOf 1 = .ok (.istore_n 3, 1) := by decide +kernel
theorem dX0_leavesOf_2 : decode cX0_leavesOf 2 = .ok (.iconst 0, 1) := by decide +kernel
theorem dX0_leavesOf_3 : decode cX0_leavesOf 3 = .ok (.istore 4, 2) := by decide +kernel
theorem dX0_leavesOf_5 : decode cX0_leavesOf 5 = .ok (.iload 4, 2) := by decide +kernel
theorem dX0_leavesOf_7 : decode cX0_leavesOf 7 = .ok (.aload_n 0, 1) := by decide +kernel
theorem dX0_leavesOf_8 : decode cX0_leavesOf 8 = .ok (.getfield 51, 3) := by decide +kernel
theorem dX0_leavesOf_11 : decode cX0_leavesOf 11 = .ok (.if_icmp .ge 39, 3) := by decide +kernel
theorem dX0_leavesOf_14 : decode cX0_leavesOf 14 = .ok (.iload 4, 2) := by decide +kernel
theorem dX0_leavesOf_16 : decode cX0_leavesOf 16 = .ok (.iconst 4, 1) := by decide +kernel
theorem dX0_leavesOf_17 : decode cX0_leavesOf 17 = .ok (.if_icmp .ge 33, 3) := by decide +kernel
theorem dX0_leavesOf_20 : decode cX0_leavesOf 20 = .ok (.iload_n 3, 1) := by decide +kernel
theorem dX0_leavesOf_21 : decode cX0_leavesOf 21 = .ok (.aload_n 0, 1) := by decide +kernel
theorem dX0_leavesOf_22 : decode cX0_leavesOf 22 = .ok (.getfield 36, 3) := by decide +kernel
theorem dX0_leavesOf_25 : decode cX0_leavesOf 25 = .ok (.iload_n 1, 1) := by decide +kernel
theorem dX0_leavesOf_26 : decode cX0_leavesOf 26 = .ok (.aaload, 1) := by decide +kernel
theorem dX0_leavesOf_27 : decode cX0_leavesOf 27 = .ok (.iload 4, 2) := by decide +kernel
theorem dX0_leavesOf_29 : decode cX0_leavesOf 29 = .ok (.iaload, 1) := by decide +kernel
theorem dX0_leavesOf_30 : decode cX0_leavesOf 30 = .ok (.iload_n 2, 1) := by decide +kernel
theorem dX0_leavesOf_31 : decode cX0_leavesOf 31 = .ok (.iconst 4, 1) := by decide +kernel
theorem dX0_leavesOf_32 : decode cX0_leavesOf 32 = .ok (.iload 4, 2) := by decide +kernel
theorem dX0_leavesOf_34 : decode cX0_leavesOf 34 = .ok (.imul, 1) := by decide +kernel
theorem dX0_leavesOf_35 : decode cX0_leavesOf 35 = .ok (.ishr, 1) := by decide +kernel
theorem dX0_leavesOf_36 : decode cX0_leavesOf 36 = .ok (.bipush 15, 2) := by decide +kernel
theorem dX0_leavesOf_38 : decode cX0_leavesOf 38 = .ok (.iand, 1) := by decide +kernel
theorem dX0_leavesOf_39 : decode cX0_leavesOf 39 = .ok (.iconst 3, 1) := by decide +kernel
theorem dX0_leavesOf_40 : decode cX0_leavesOf 40 = .ok (.irem, 1) := by decide +kernel
theorem dX0_leavesOf_41 : decode cX0_leavesOf 41 = .ok (.imul, 1) := by decide +kernel
theorem dX0_leavesOf_42 : decode cX0_leavesOf 42 = .ok (.iadd, 1) := by decide +kernel
theorem dX0_leavesOf_43 : decode cX0_leavesOf 43 = .ok (.istore_n 3, 1) := by decide +kernel
theorem dX0_leavesOf_44 : decode cX0_leavesOf 44 = .ok (.iinc 4 1, 3) := by decide +kernel
theorem dX0_leavesOf_47 : decode cX0_leavesOf 47 = .ok (.goto (-42), 3) := by decide +kernel
theorem dX0_leavesOf_50 : decode cX0_leavesOf 50 = .ok (.iload_n 3, 1) := by decide +kernel
theorem dX0_leavesOf_51 : decode cX0_leavesOf 51 = .ok (.ireturn, 1) := by decide +kernel
theorem dX0_excess_0 : decode cX0_excess 0 = .ok (.iload_n 1, 1) := by decide +kernel
theorem dX0_excess_1 : decode cX0_excess 1 = .ok (.ifCond .ne 10, 3) := by decide +kernel
theorem dX0_excess_4 : decode cX0_excess 4 = .ok (.aload_n 0, 1) := by decide +kernel
theorem dX0_excess_5 : decode cX0_excess 5 = .ok (.getfield 55, 3) := by decide +kernel
theorem dX0_excess_8 : decode cX0_excess 8 = .ok (.goto 11, 3) := by decide +kernel
theorem dX0_excess_11 : decode cX0_excess 11 = .ok (.aload_n 0, 1) := by decide +kernel
theorem dX0_excess_12 : decode cX0_excess 12 = .ok (.iload_n 1, 1) := by decide +kernel
theorem dX0_excess_13 : decode cX0_excess 13 = .ok (.iconst 1, 1) := by decide +kernel
theorem dX0_excess_14 : decode cX0_excess 14 = .ok (.isub, 1) := by decide +kernel
theorem dX0_excess_15 : decode cX0_excess 15 = .ok (.iload_n 2, 1) := by decide +kernel
theorem dX0_excess_16 : decode cX0_excess 16 = .ok (.invokevirtual 75, 3) := by decide +kernel
theorem dX0_excess_19 : decode cX0_excess 19 = .ok (.istore_n 3, 1) := by decide +kernel
theorem dX0_excess_20 : decode cX0_excess 20 = .ok (.aload_n 0, 1) := by decide +kernel
theorem dX0_excess_21 : decode cX0_excess 21 = .ok (.iload_n 1, 1) := by decide +kernel
theorem dX0_excess_22 : decode cX0_excess 22 = .ok (.iload_n 2, 1) := by decide +kernel
theorem dX0_excess_23 : decode cX0_excess 23 = .ok (.invokevirtual 78, 3) := by decide +kernel
theorem dX0_excess_26 : decode cX0_excess 26 = .ok (.iload_n 3, 1) := by decide +kernel
theorem dX0_excess_27 : decode cX0_excess 27 = .ok (.isub, 1) := by decide +kernel
theorem dX0_excess_28 : decode cX0_excess 28 = .ok (.ireturn, 1) := by decide +kernel
theorem dX0_rowsDown_0 : decode cX0_rowsDown 0 = .ok (.iconst 0, 1) := by decide +kernel
theorem dX0_rowsDown_1 : decode cX0_rowsDown 1 = .ok (.istore_n 3, 1) := by decide +kernel
theorem dX0_rowsDown_2 : decode cX0_rowsDown 2 = .ok (.aload_n 0, 1) := by decide +kernel
theorem dX0_rowsDown_3 : decode cX0_rowsDown 3 = .ok (.getfield 55, 3) := by decide +kernel
theorem dX0_rowsDown_6 : decode cX0_rowsDown 6 = .ok (.istore 4, 2) := by decide +kernel
theorem dX0_rowsDown_8 : decode cX0_rowsDown 8 = .ok (.iconst 0, 1) := by decide +kernel
theorem dX0_rowsDown_9 : decode cX0_rowsDown 9 = .ok (.istore 5, 2) := by decide +kernel
theorem dX0_rowsDown_11 : decode cX0_rowsDown 11 = .ok (.iload 5, 2) := by decide +kernel
theorem dX0_rowsDown_13 : decode cX0_rowsDown 13 = .ok (.aload_n 0, 1) := by decide +kernel
theorem dX0_rowsDown_14 : decode cX0_rowsDown 14 = .ok (.getfield 58, 3) := by decide +kernel
theorem dX0_rowsDown_17 : decode cX0_rowsDown 17 = .ok (.if_icmp .ge 56, 3) := by decide +kernel
theorem dX0_rowsDown_20 : decode cX0_rowsDown 20 = .ok (.iload 5, 2) := by decide +kernel
theorem dX0_rowsDown_22 : decode cX0_rowsDown 22 = .ok (.bipush 8, 2) := by decide +kernel
theorem dX0_rowsDown_24 : decode cX0_rowsDown 24 = .ok (.if_icmp .ge 49, 3) := by decide +kernel
theorem dX0_rowsDown_27 : decode cX0_rowsDown 27 = .ok (.aload_n 0, 1) := by decide +kernel
theorem dX0_rowsDown_28 : decode cX0_rowsDown 28 = .ok (.iload 5, 2) := by decide +kernel
theorem dX0_rowsDown_30 : decode cX0_rowsDown 30 = .ok (.iload_n 1, 1) := by decide +kernel
theorem dX0_rowsDown_31 : decode cX0_rowsDown 31 = .ok (.invokevirtual 78, 3) := by decide +kernel
theorem dX0_rowsDown_34 : decode cX0_rowsDown 34 = .ok (.iload 4, 2) := by decide +kernel
theorem dX0_rowsDown_36 : decode cX0_rowsDown 36 = .ok (.if_icmp .eq 22, 3) := by decide +kernel
theorem dX0_rowsDown_39 : decode cX0_rowsDown 39 = .ok (.iload_n 3, 1) := by decide +kernel
theorem dX0_rowsDown_40 : decode cX0_rowsDown 40 = .ok (.invokestatic 81, 3) := by decide +kernel
theorem dX0_rowsDown_43 : decode cX0_rowsDown 43 = .ok (.iload_n 2, 1) := by decide +kernel
theorem dX0_rowsDown_44 : decode cX0_rowsDown 44 = .ok (.if_icmp .lt 7, 3) := by decide +kernel
theorem dX0_rowsDown_47 : decode cX0_rowsDown 47 = .ok (.sipush 255, 3) := by decide +kernel
theorem dX0_rowsDown_50 : decode cX0_rowsDown 50 = .ok (.ireturn, 1) := by decide +kernel
theorem dX0_rowsDown_51 : decode cX0_rowsDown 51 = .ok (.iload_n 3, 1) := by decide +kernel
theorem dX0_rowsDown_52 : decode cX0_rowsDown 52 = .ok (.iconst 1, 1) := by decide +kernel
theorem dX0_rowsDown_53 : decode cX0_rowsDown 53 = .ok (.iload 5, 2) := by decide +kernel
theorem dX0_rowsDown_55 : decode cX0_rowsDown 55 = .ok (.ishl, 1) := by decide +kernel
theorem dX0_rowsDown_56 : decode cX0_rowsDown 56 = .ok (.ior, 1) := by decide +kernel
theorem dX0_rowsDown_57 : decode cX0_rowsDown 57 = .ok (.istore_n 3, 1) := by decide +kernel
theorem dX0_rowsDown_58 : decode cX0_rowsDown 58 = .ok (.aload_n 0, 1) := by decide +kernel
theorem dX0_rowsDown_59 : decode cX0_rowsDown 59 = .ok (.iload 5, 2) := by decide +kernel
theorem dX0_rowsDown_61 : decode cX0_rowsDown 61 = .ok (.iload_n 1, 1) := by decide +kernel
theorem dX0_rowsDown_62 : decode cX0_rowsDown 62 = .ok (.invokevirtual 75, 3) := by decide +kernel
theorem dX0_rowsDown_65 : decode cX0_rowsDown 65 = .ok (.istore 4, 2) := by decide +kernel
theorem dX0_rowsDown_67 : decode cX0_rowsDown 67 = .ok (.iinc 5 1, 3) := by decide +kernel
theorem dX0_rowsDown_70 : decode cX0_rowsDown 70 = .ok (.goto (-59), 3) := by decide +kernel
theorem dX0_rowsDown_73 : decode cX0_rowsDown 73 = .ok (.iload_n 3, 1) := by decide +kernel
theorem dX0_rowsDown_74 : decode cX0_rowsDown 74 = .ok (.ireturn, 1) := by decide +kernel
theorem dX0_repeats_0 : decode cX0_repeats 0 = .ok (.iload_n 1, 1) := by decide +kernel
theorem dX0_repeats_1 : decode cX0_repeats 1 = .ok (.ifCond .lt 16, 3) := by decide +kernel
theorem dX0_repeats_4 : decode cX0_repeats 4 = .ok (.iload_n 3, 1) := by decide +kernel
theorem dX0_repeats_5 : decode cX0_repeats 5 = .ok (.iconst 1, 1) := by decide +kernel
theorem dX0_repeats_6 : decode cX0_repeats 6 = .ok (.if_icmp .lt 11, 3) := by decide +kernel
theorem dX0_repeats_9 : decode cX0_repeats 9 = .ok (.iload_n 1, 1) := by decide +kernel
theorem dX0_repeats_10 : decode cX0_repeats 10 = .ok (.iload_n 2, 1) := by decide +kernel
theorem dX0_repeats_11 : decode cX0_repeats 11 = .ok (.iadd, 1) := by decide +kernel
theorem dX0_repeats_12 : decode cX0_repeats 12 = .ok (.aload_n 0, 1) := by decide +kernel
theorem dX0_repeats_13 : decode cX0_repeats 13 = .ok (.arraylength, 1) := by decide +kernel
theorem dX0_repeats_14 : decode cX0_repeats 14 = .ok (.if_icmp .le 5, 3) := by decide +kernel
theorem dX0_repeats_17 : decode cX0_repeats 17 = .ok (.iconst 0, 1) := by decide +kernel
theorem dX0_repeats_18 : decode cX0_repeats 18 = .ok (.ireturn, 1) := by decide +kernel
theorem dX0_repeats_19 : decode cX0_repeats 19 = .ok (.iload_n 1, 1) := by decide +kernel
theorem dX0_repeats_20 : decode cX0_repeats 20 = .ok (.istore 4, 2) := by decide +kernel
theorem dX0_repeats_22 : decode cX0_repeats 22 = .ok (.iload 4, 2) := by decide +kernel
theorem dX0_repeats_24 : decode cX0_repeats 24 = .ok (.iload_n 3, 1) := by decide +kernel
theorem dX0_repeats_25 : decode cX0_repeats 25 = .ok (.iadd, 1) := by decide +kernel
theorem dX0_repeats_26 : decode cX0_repeats 26 = .ok (.iload_n 1, 1) := by decide +kernel
theorem dX0_repeats_27 : decode cX0_repeats 27 = .ok (.iload_n 2, 1) := by decide +kernel
theorem dX0_repeats_28 : decode cX0_repeats 28 = .ok (.iadd, 1) := by decide +kernel
theorem dX0_repeats_29 : decode cX0_repeats 29 = .ok (.if_icmp .ge 24, 3) := by decide +kernel
theorem dX0_repeats_32 : decode cX0_repeats 32 = .ok (.aload_n 0, 1) := by decide +kernel
theorem dX0_repeats_33 : decode cX0_repeats 33 = .ok (.iload 4, 2) := by decide +kernel
theorem dX0_repeats_35 : decode cX0_repeats 35 = .ok (.iaload, 1) := by decide +kernel
theorem dX0_repeats_36 : decode cX0_repeats 36 = .ok (.aload_n 0, 1) := by decide +kernel
theorem dX0_repeats_37 : decode cX0_repeats 37 = .ok (.iload 4, 2) := by decide +kernel
theorem dX0_repeats_39 : decode cX0_repeats 39 = .ok (.iload_n 3, 1) := by decide +kernel
theorem dX0_repeats_40 : decode cX0_repeats 40 = .ok (.iadd, 1) := by decide +kernel
theorem dX0_repeats_41 : decode cX0_repeats 41 = .ok (.iaload, 1) := by decide +kernel
theorem dX0_repeats_42 : decode cX0_repeats 42 = .ok (.if_icmp .eq 5, 3) := by decide +kernel
theorem dX0_repeats_45 : decode cX0_repeats 45 = .ok (.iconst 0, 1) := by decide +kernel
theorem dX0_repeats_46 : decode cX0_repeats 46 = .ok (.ireturn, 1) := by decide +kernel
theorem dX0_repeats_47 : decode cX0_repeats 47 = .ok (.iinc 4 1, 3) := by decide +kernel
theorem dX0_repeats_50 : decode cX0_repeats 50 = .ok (.goto (-28), 3) := by decide +kernel
theorem dX0_repeats_53 : decode cX0_repeats 53 = .ok (.iconst 1, 1) := by decide +kernel
theorem dX0_repeats_54 : decode cX0_repeats 54 = .ok (.ireturn, 1) := by decide +kernel
theorem dX0_beat_0 : decode cX0_beat 0 = .ok (.aload_n 0, 1) := by decide +kernel
theorem dX0_beat_1 : decode cX0_beat 1 = .ok (.getfield 30, 3) := by decide +kernel
theorem dX0_beat_4 : decode cX0_beat 4 = .ok (.iload_n 1, 1) := by decide +kernel
theorem dX0_beat_5 : decode cX0_beat 5 = .ok (.iaload, 1) := by decide +kernel
theorem dX0_beat_6 : decode cX0_beat 6 = .ok (.istore_n 2, 1) := by decide +kernel
theorem dX0_beat_7 : decode cX0_beat 7 = .ok (.iconst 1, 1) := by decide +kernel
theorem dX0_beat_8 : decode cX0_beat 8 = .ok (.istore_n 3, 1) := by decide +kernel
theorem dX0_beat_9 : decode cX0_beat 9 = .ok (.iload_n 3, 1) := by decide +kernel
theorem dX0_beat_10 : decode cX0_beat 10 = .ok (.iload_n 2, 1) := by decide +kernel
theorem dX0_beat_11 : decode cX0_beat 11 = .ok (.if_icmp .ge 32, 3) := by decide +kernel
theorem dX0_beat_14 : decode cX0_beat 14 = .ok (.iload_n 2, 1) := by decide +kernel
theorem dX0_beat_15 : decode cX0_beat 15 = .ok (.iload_n 3, 1) := by decide +kernel
theorem dX0_beat_16 : decode cX0_beat 16 = .ok (.irem, 1) := by decide +kernel
theorem dX0_beat_17 : decode cX0_beat 17 = .ok (.ifCond .ne 20, 3) := by decide +kernel
theorem dX0_beat_20 : decode cX0_beat 20 = .ok (.aload_n 0, 1) := by decide +kernel
theorem dX0_beat_21 : decode cX0_beat 21 = .ok (.getfield 33, 3) := by decide +kernel
theorem dX0_beat_24 : decode cX0_beat 24 = .ok (.iload_n 1, 1) := by decide +kernel
theorem dX0_beat_25 : decode cX0_beat 25 = .ok (.aaload, 1) := by decide +kernel
theorem dX0_beat_26 : decode cX0_beat 26 = .ok (.iconst 0, 1) := by decide +kernel
theorem dX0_beat_27 : decode cX0_beat 27 = .ok (.iload_n 2, 1) := by decide +kernel
theorem dX0_beat_28 : decode cX0_beat 28 = .ok (.iload_n 3, 1) := by decide +kernel
theorem dX0_beat_29 : decode cX0_beat 29 = .ok (.invokestatic 87, 3) := by decide +kernel
theorem dX0_beat_32 : decode cX0_beat 32 = .ok (.ifCond .eq 5, 3) := by decide +kernel
theorem dX0_beat_35 : decode cX0_beat 35 = .ok (.iload_n 3, 1) := by decide +kernel
theorem dX0_beat_36 : decode cX0_beat 36 = .ok (.ireturn, 1) := by decide +kernel
theorem dX0_beat_37 : decode cX0_beat 37 = .ok (.iinc 3 1, 3) := by decide +kernel
theorem dX0_beat_40 : decode cX0_beat 40 = .ok (.goto (-31), 3) := by decide +kernel
theorem dX0_beat_43 : decode cX0_beat 43 = .ok (.iload_n 2, 1) := by decide +kernel
theorem dX0_beat_44 : decode cX0_beat 44 = .ok (.ireturn, 1) := by decide +kernel
theorem dX0_sameTurned_0 : decode cX0_sameTurned 0 = .ok (.aload_n 0, 1) := by decide +kernel
theorem dX0_sameTurned_1 : decode cX0_sameTurned 1 = .ok (.getfield 30, 3) := by decide +kernel
theorem dX0_sameTurned_4 : decode cX0_sameTurned 4 = .ok (.iload_n 1, 1) := by decide +kernel
theorem dX0_sameTurned_5 : decode cX0_sameTurned 5 = .ok (.iaload, 1) := by decide +kernel
theorem dX0_sameTurned_6 : decode cX0_sameTurned 6 = .ok (.istore_n 2, 1) := by decide +kernel
theorem dX0_sameTurned_7 : decode cX0_sameTurned 7 = .ok (.iconst 0, 1) := by decide +kernel
theorem dX0_sameTurned_8 : decode cX0_sameTurned 8 = .ok (.istore_n 3, 1) := by decide +kernel
theorem dX0_sameTurned_9 : decode cX0_sameTurned 9 = .ok (.iload_n 3, 1) := by decide +kernel
theorem dX0_sameTurned_10 : decode cX0_sameTurned 10 = .ok (.iload_n 2, 1) := by decide +kernel
theorem dX0_sameTurned_11 : decode cX0_sameTurned 11 = .ok (.iconst 2, 1) := by decide +kernel
theorem dX0_sameTurned_12 : decode cX0_sameTurned 12 = .ok (.idiv, 1) := by decide +kernel
theorem dX0_sameTurned_13 : decode cX0_sameTurned 13 = .ok (.if_icmp .ge 30, 3) := by decide +kernel
theorem dX0_sameTurned_16 : decode cX0_sameTurned 16 = .ok (.aload_n 0, 1) := by decide +kernel
theorem dX0_sameTurned_17 : decode cX0_sameTurned 17 = .ok (.iload_n 1, 1) := by decide +kernel
theorem dX0_sameTurned_18 : decode cX0_sameTurned 18 = .ok (.iload_n 3, 1) := by decide +kernel
theorem dX0_sameTurned_19 : decode cX0_sameTurned 19 = .ok (.invokevirtual 61, 3) := by decide +kernel
theorem dX0_sameTurned_22 : decode cX0_sameTurned 22 = .ok (.aload_n 0, 1) := by decide +kernel
theorem dX0_sameTurned_23 : decode cX0_sameTurned 23 = .ok (.iload_n 1, 1) := by decide +kernel
theorem dX0_sameTurned_24 : decode cX0_sameTurned 24 = .ok (.iload_n 2, 1) := by decide +kernel
theorem dX0_sameTurned_25 : decode cX0_sameTurned 25 = .ok (.iconst 1, 1) := by decide +kernel
theorem dX0_sameTurned_26 : decode cX0_sameTurned 26 = .ok (.isub, 1) := by decide +kernel
theorem dX0_sameTurned_27 : decode cX0_sameTurned 27 = .ok (.iload_n 3, 1) := by decide +kernel
theorem dX0_sameTurned_28 : decode cX0_sameTurned 28 = .ok (.isub, 1) := by decide +kernel
theorem dX0_sameTurned_29 : decode cX0_sameTurned 29 = .ok (.invokevirtual 61, 3) := by decide +kernel
theorem dX0_sameTurned_32 : decode cX0_sameTurned 32 = .ok (.if_icmp .eq 5, 3) := by decide +kernel
theorem dX0_sameTurned_35 : decode cX0_sameTurned 35 = .ok (.iconst 0, 1) := by decide +kernel
theorem dX0_sameTurned_36 : decode cX0_sameTurned 36 = .ok (.ireturn, 1) := by decide +kernel
theorem dX0_sameTurned_37 : decode cX0_sameTurned 37 = .ok (.iinc 3 1, 3) := by decide +kernel
theorem dX0_sameTurned_40 : decode cX0_sameTurned 40 = .ok (.goto (-31), 3) := by decide +kernel
theorem dX0_sameTurned_43 : decode cX0_sameTurned 43 = .ok (.iconst 1, 1) := by decide +kernel
theorem dX0_sameTurned_44 : decode cX0_sameTurned 44 = .ok (.ireturn, 1) := by decide +kernel
theorem dX0_sameShape_0 : decode cX0_sameShape 0 = .ok (.aload_n 0, 1) := by decide +kernel
theorem dX0_sameShape_1 : decode cX0_sameShape 1 = .ok (.getfield 30, 3) := by decide +kernel
theorem dX0_sameShape_4 : decode cX0_sameShape 4 = .ok (.iload_n 1, 1) := by decide +kernel
theorem dX0_sameShape_5 : decode cX0_sameShape 5 = .ok (.iaload, 1) := by decide +kernel
theorem dX0_sameShape_6 : decode cX0_sameShape 6 = .ok (.aload_n 0, 1) := by decide +kernel
theorem dX0_sameShape_7 : decode cX0_sameShape 7 = .ok (.getfield 30, 3) := by decide +kernel
theorem dX0_sameShape_10 : decode cX0_sameShape 10 = .ok (.iload_n 2, 1) := by decide +kernel
theorem dX0_sameShape_11 : decode cX0_sameShape 11 = .ok (.iaload, 1) := by decide +kernel
theorem dX0_sameShape_12 : decode cX0_sameShape 12 = .ok (.if_icmp .eq 5, 3) := by decide +kernel
theorem dX0_sameShape_15 : decode cX0_sameShape 15 = .ok (.iconst 0, 1) := by decide +kernel
theorem dX0_sameShape_16 : decode cX0_sameShape 16 = .ok (.ireturn, 1) := by decide +kernel
theorem dX0_sameShape_17 : decode cX0_sameShape 17 = .ok (.iconst 0, 1) := by decide +kernel
theorem dX0_sameShape_18 : decode cX0_sameShape 18 = .ok (.istore_n 3, 1) := by decide +kernel
theorem dX0_sameShape_19 : decode cX0_sameShape 19 = .ok (.iload_n 3, 1) := by decide +kernel
theorem dX0_sameShape_20 : decode cX0_sameShape 20 = .ok (.aload_n 0, 1) := by decide +kernel
theorem dX0_sameShape_21 : decode cX0_sameShape 21 = .ok (.getfield 30, 3) := by decide +kernel
theorem dX0_sameShape_24 : decode cX0_sameShape 24 = .ok (.iload_n 1, 1) := by decide +kernel
theorem dX0_sameShape_25 : decode cX0_sameShape 25 = .ok (.iaload, 1) := by decide +kernel
theorem dX0_sameShape_26 : decode cX0_sameShape 26 = .ok (.if_icmp .ge 75, 3) := by decide +kernel
theorem dX0_sameShape_29 : decode cX0_sameShape 29 = .ok (.iconst 0, 1) := by decide +kernel
theorem dX0_sameShape_30 : decode cX0_sameShape 30 = .ok (.istore 4, 2) := by decide +kernel
theorem dX0_sameShape_32 : decode cX0_sameShape 32 = .ok (.iload 4, 2) := by decide +kernel
theorem dX0_sameShape_34 : decode cX0_sameShape 34 = .ok (.iload_n 3, 1) := by decide +kernel
theorem dX0_sameShape_35 : decode cX0_sameShape 35 = .ok (.if_icmp .ge 60, 3) := by decide +kernel
theorem dX0_sameShape_38 : decode cX0_sameShape 38 = .ok (.aload_n 0, 1) := by decide +kernel
theorem dX0_sameShape_39 : decode cX0_sameShape 39 = .ok (.iload_n 1, 1) := by decide +kernel
theorem dX0_sameShape_40 : decode cX0_sameShape 40 = .ok (.iload_n 3, 1) := by decide +kernel
theorem dX0_sameShape_41 : decode cX0_sameShape 41 = .ok (.invokevirtual 61, 3) := by decide +kernel
theorem dX0_sameShape_44 : decode cX0_sameShape 44 = .ok (.aload_n 0, 1) := by decide +kernel
theorem dX0_sameShape_45 : decode cX0_sameShape 45 = .ok (.iload_n 1, 1) := by decide +kernel
theorem dX0_sameShape_46 : decode cX0_sameShape 46 = .ok (.iload 4, 2) := by decide +kernel
theorem dX0_sameShape_48 : decode cX0_sameShape 48 = .ok (.invokevirtual 61, 3) := by decide +kernel
theorem dX0_sameShape_51 : decode cX0_sameShape 51 = .ok (.if_icmp .ne 7, 3) := by decide +kernel
theorem dX0_sameShape_54 : decode cX0_sameShape 54 = .ok (.iconst 1, 1) := by decide +kernel
theorem dX0_sameShape_55 : decode cX0_sameShape 55 = .ok (.goto 4, 3) := by decide +kernel
theorem dX0_sameShape_58 : decode cX0_sameShape 58 = .ok (.iconst 0, 1) := by decide +kernel
theorem dX0_sameShape_59 : decode cX0_sameShape 59 = .ok (.istore 5, 2) := by decide +kernel
theorem dX0_sameShape_61 : decode cX0_sameShape 61 = .ok (.iload 5, 2) := by decide +kernel
theorem dX0_sameShape_63 : decode cX0_sameShape 63 = .ok (.aload_n 0, 1) := by decide +kernel
theorem dX0_sameShape_64 : decode cX0_sameShape 64 = .ok (.iload_n 2, 1) := by decide +kernel
theorem dX0_sameShape_65 : decode cX0_sameShape 65 = .ok (.iload_n 3, 1) := by decide +kernel
theorem dX0_sameShape_66 : decode cX0_sameShape 66 = .ok (.invokevirtual 61, 3) := by decide +kernel
theorem dX0_sameShape_69 : decode cX0_sameShape 69 = .ok (.aload_n 0, 1) := by decide +kernel
theorem dX0_sameShape_70 : decode cX0_sameShape 70 = .ok (.iload_n 2, 1) := by decide +kernel
theorem dX0_sameShape_71 : decode cX0_sameShape 71 = .ok (.iload 4, 2) := by decide +kernel
theorem dX0_sameShape_73 : decode cX0_sameShape 73 = .ok (.invokevirtual 61, 3) := by decide +kernel
theorem dX0_sameShape_76 : decode cX0_sameShape 76 = .ok (.if_icmp .ne 7, 3) := by decide +kernel
theorem dX0_sameShape_79 : decode cX0_sameShape 79 = .ok (.iconst 1, 1) := by decide +kernel
theorem dX0_sameShape_80 : decode cX0_sameShape 80 = .ok (.goto 4, 3) := by decide +kernel
theorem dX0_sameShape_83 : decode cX0_sameShape 83 = .ok (.iconst 0, 1) := by decide +kernel
theorem dX0_sameShape_84 : decode cX0_sameShape 84 = .ok (.if_icmp .eq 5, 3) := by decide +kernel
theorem dX0_sameShape_87 : decode cX0_sameShape 87 = .ok (.iconst 0, 1) := by decide +kernel
theorem dX0_sameShape_88 : decode cX0_sameShape 88 = .ok (.ireturn, 1) := by decide +kernel
theorem dX0_sameShape_89 : decode cX0_sameShape 89 = .ok (.iinc 4 1, 3) := by decide +kernel
theorem dX0_sameShape_92 : decode cX0_sameShape 92 = .ok (.goto (-60), 3) := by decide +kernel
theorem dX0_sameShape_95 : decode cX0_sameShape 95 = .ok (.iinc 3 1, 3) := by decide +kernel
theorem dX0_sameShape_98 : decode cX0_sameShape 98 = .ok (.goto (-79), 3) := by decide +kernel
theorem dX0_sameShape_101 : decode cX0_sameShape 101 = .ok (.iconst 1, 1) := by decide +kernel
theorem dX0_sameShape_102 : decode cX0_sameShape 102 = .ok (.ireturn, 1) := by decide +kernel
theorem dX10_begin_0 : decode cX10_begin 0 = .ok (.aload_n 0, 1) := by decide +kernel
theorem dX10_begin_1 : decode cX10_begin 1 = .ok (.iconst 0, 1) := by decide +kernel
theorem dX10_begin_2 : decode cX10_begin 2 = .ok (.putfield 19, 3) := by decide +kernel
theorem dX10_begin_5 : decode cX10_begin 5 = .ok (.aload_n 0, 1) := by decide +kernel
theorem dX10_begin_6 : decode cX10_begin 6 = .ok (.iconst 0, 1) := by decide +kernel
theorem dX10_begin_7 : decode cX10_begin 7 = .ok (.putfield 22, 3) := by decide +kernel
theorem dX10_begin_10 : decode cX10_begin 10 = .ok (.aload_n 0, 1) := by decide +kernel
theorem dX10_begin_11 : decode cX10_begin 11 = .ok (.invokevirtual 25, 3) := by decide +kernel
theorem dX10_begin_14 : decode cX10_begin 14 = .ok (.return_, 1) := by decide +kernel
theorem dX10_takeEnd_0 : decode cX10_takeEnd 0 = .ok (.aload_n 0, 1) := by decide +kernel
theorem dX10_takeEnd_1 : decode cX10_takeEnd 1 = .ok (.bipush 59, 2) := by decide +kernel
theorem dX10_takeEnd_3 : decode cX10_takeEnd 3 = .ok (.invokevirtual 78, 3) := by decide +kernel
theorem dX10_takeEnd_6 : decode cX10_takeEnd 6 = .ok (.ifCond .ne 9, 3) := by decide +kernel
theorem dX10_takeEnd_9 : decode cX10_takeEnd 9 = .ok (.aload_n 0, 1) := by decide +kernel
theorem dX10_takeEnd_10 : decode cX10_takeEnd 10 = .ok (.iconst 1, 1) := by decide +kernel
theorem dX10_takeEnd_11 : decode cX10_takeEnd 11 = .ok (.invokevirtual 82, 3) := by decide +kernel
theorem dX10_takeEnd_14 : decode cX10_takeEnd 14 = .ok (.ireturn, 1) := by decide +kernel
theorem dX10_takeEnd_15 : decode cX10_takeEnd 15 = .ok (.aload_n 0, 1) := by decide +kernel
theorem dX10_takeEnd_16 : decode cX10_takeEnd 16 = .ok (.invokevirtual 25, 3) := by decide +kernel
theorem dX10_takeEnd_19 : decode cX10_takeEnd 19 = .ok (.iconst 1, 1) := by decide +kernel
theorem dX10_takeEnd_20 : decode cX10_takeEnd 20 = .ok (.ireturn, 1) := by decide +kernel
theorem dX10_takeNumber_0 : decode cX10_takeNumber 0 = .ok (.aload_n 0, 1) := by decide +kernel
theorem dX10_takeNumber_1 : decode cX10_takeNumber 1 = .ok (.getfield 34, 3) := by decide +kernel
theorem dX10_takeNumber_4 : decode cX10_takeNumber 4 = .ok (.iconst 2, 1) := by decide +kernel
theorem dX10_takeNumber_5 : decode cX10_takeNumber 5 = .ok (.if_icmp .eq 11, 3) := by decide +kernel
theorem dX10_takeNumber_8 : decode cX10_takeNumber 8 = .ok (.aload_n 0, 1) := by decide +kernel
theorem dX10_takeNumber_9 : decode cX10_takeNumber 9 = .ok (.iconst 1, 1) := by decide +kernel
theorem dX10_takeNumber_10 : decode cX10_takeNumber 10 = .ok (.invokevirtual 82, 3) := by decide +kernel
theorem dX10_takeNumber_13 : decode cX10_takeNumber 13 = .ok (.pop, 1) := by decide +kernel
theorem dX10_takeNumber_14 : decode cX10_takeNumber 14 = .ok (.iconst (-1), 1) := by decide +kernel
theorem dX10_takeNumber_15 : decode cX10_takeNumber 15 = .ok (.ireturn, 1) := by decide +kernel
theorem dX10_takeNumber_16 : decode cX10_takeNumber 16 = .ok (.aload_n 0, 1) := by decide +kernel
theorem dX10_takeNumber_17 : decode cX10_takeNumber 17 = .ok (.getfield 56, 3) := by decide +kernel
theorem dX10_takeNumber_20 : decode cX10_takeNumber 20 = .ok (.iload_n 1, 1) := by decide +kernel
theorem dX10_takeNumber_21 : decode cX10_takeNumber 21 = .ok (.if_icmp .lt 11, 3) := by decide +kernel
theorem dX10_takeNumber_24 : decode cX10_takeNumber 24 = .ok (.aload_n 0, 1) := by decide +kernel
theorem dX10_takeNumber_25 : decode cX10_takeNumber 25 = .ok (.getfield 56, 3) := by decide +kernel
theorem dX10_takeNumber_28 : decode cX10_takeNumber 28 = .ok (.iload_n 2, 1) := by decide +kernel
theorem dX10_takeNumber_29 : decode cX10_takeNumber 29 = .ok (.if_icmp .le 11, 3) := by decide +kernel
theorem dX10_takeNumber_32 : decode cX10_takeNumber 32 = .ok (.aload_n 0, 1) := by decide +kernel
theorem dX10_takeNumber_33 : decode cX10_takeNumber 33 = .ok (.iconst 4, 1) := by decide +kernel
theorem dX10_takeNumber_34 : decode cX10_takeNumber 34 = .ok (.invokevirtual 82, 3) := by decide +kernel
theorem dX10_takeNumber_37 : decode cX10_takeNumber 37 = .ok (.pop, 1) := by decide +kernel
theorem dX10_takeNumber_38 : decode cX10_takeNumber 38 = .ok (.iconst (-1), 1) := by decide +kernel
theorem dX10_takeNumber_39 : decode cX10_takeNumber 39 = .ok (.ireturn, 1) := by decide +kernel
theorem dX10_takeNumber_40 : decode cX10_takeNumber 40 = .ok (.aload_n 0, 1) := by decide +kernel
theorem dX10_takeNumber_41 : decode cX10_takeNumber 41 = .ok (.getfield 56, 3) := by decide +kernel
theorem dX10_takeNumber_44 : decode cX10_takeNumber 44 = .ok (.istore_n 3, 1) := by decide +kernel
theorem dX10_takeNumber_45 : decode cX10_takeNumber 45 = .ok (.aload_n 0, 1) := by decide +kernel
theorem dX10_takeNumber_46 : decode cX10_takeNumber 46 = .ok (.invokevirtual 25, 3) := by decide +kernel
theorem dX10_takeNumber_49 : decode cX10_takeNumber 49 = .ok (.iload_n 3, 1) := by decide +kernel
theorem dX10_takeNumber_50 : decode cX10_takeNumber 50 = .ok (.ireturn, 1) := by decide +kernel
theorem dX1_readAfter_0 : decode cX1_readAfter 0 = .ok (.aload_n 0, 1) := by decide +kernel
theorem dX1_readAfter_1 : decode cX1_readAfter 1 = .ok (.getfield 15, 3) := by decide +kernel
theorem dX1_readAfter_4 : decode cX1_readAfter 4 = .ok (.invokevirtual 87, 3) := by decide +kernel
theorem dX1_readAfter_7 : decode cX1_readAfter 7 = .ok (.aload_n 0, 1) := by decide +kernel
theorem dX1_readAfter_8 : decode cX1_readAfter 8 = .ok (.getfield 15, 3) := by decide +kernel
theorem dX1_readAfter_11 : decode cX1_readAfter 11 = .ok (.getfield 47, 3) := by decide +kernel
theorem dX1_readAfter_14 : decode cX1_readAfter 14 = .ok (.iconst 2, 1) := by decide +kernel
theorem dX1_readAfter_15 : decode cX1_readAfter 15 = .ok (.if_icmp .ne 13, 3) := by decide +kernel
theorem dX1_readAfter_18 : decode cX1_readAfter 18 = .ok (.aload_n 0, 1) := by decide +kernel
theorem dX1_readAfter_19 : decode cX1_readAfter 19 = .ok (.getfield 15, 3) := by decide +kernel
theorem dX1_readAfter_22 : decode cX1_readAfter 22 = .ok (.getfield 118, 3) := by decide +kernel
theorem dX1_readAfter_25 : decode cX1_readAfter 25 = .ok (.goto 4, 3) := by decide +kernel
theorem dX1_readAfter_28 : decode cX1_readAfter 28 = .ok (.iconst (-1), 1) := by decide +kernel
theorem dX1_readAfter_29 : decode cX1_readAfter 29 = .ok (.istore_n 1, 1) := by decide +kernel
theorem dX1_readAfter_30 : decode cX1_readAfter 30 = .ok (.iload_n 1, 1) := by decide +kernel
theorem dX1_readAfter_31 : decode cX1_readAfter 31 = .ok (.ifCond .lt 42, 3) := by decide +kernel
theorem dX1_readAfter_34 : decode cX1_readAfter 34 = .ok (.iload_n 1, 1) := by decide +kernel
theorem dX1_readAfter_35 : decode cX1_readAfter 35 = .ok (.aload_n 0, 1) := by decide +kernel
theorem dX1_readAfter_36 : decode cX1_readAfter 36 = .ok (.getfield 28, 3) := by decide +kernel
theorem dX1_readAfter_39 : decode cX1_readAfter 39 = .ok (.getfield 121, 3) := by decide +kernel
theorem dX1_readAfter_42 : decode cX1_readAfter 42 = .ok (.if_icmp .ge 31, 3) := by decide +kernel
theorem dX1_readAfter_45 : decode cX1_readAfter 45 = .ok (.iload_n 1, 1) := by decide +kernel
theorem dX1_readAfter_46 : decode cX1_readAfter 46 = .ok (.bipush 8, 2) := by decide +kernel
theorem dX1_readAfter_48 : decode cX1_readAfter 48 = .ok (.if_icmp .ge 25, 3) := by decide +kernel
theorem dX1_readAfter_51 : decode cX1_readAfter 51 = .ok (.aload_n 0, 1) := by decide +kernel
theorem dX1_readAfter_52 : decode cX1_readAfter 52 = .ok (.getfield 28, 3) := by decide +kernel
theorem dX1_readAfter_55 : decode cX1_readAfter 55 = .ok (.getfield 124, 3) := by decide +kernel
theorem dX1_readAfter_58 : decode cX1_readAfter 58 = .ok (.iload_n 1, 1) := by decide +kernel
theorem dX1_readAfter_59 : decode cX1_readAfter 59 = .ok (.iaload, 1) := by decide +kernel
theorem dX1_readAfter_60 : decode cX1_readAfter 60 = .ok (.iconst (-1), 1) := by decide +kernel
theorem dX1_readAfter_61 : decode cX1_readAfter 61 = .ok (.if_icmp .eq 12, 3) := by decide +kernel
theorem dX1_readAfter_64 : decode cX1_readAfter 64 = .ok (.aload_n 0, 1) := by decide +kernel
theorem dX1_readAfter_65 : decode cX1_readAfter 65 = .ok (.getfield 15, 3) := by decide +kernel
theorem dX1_readAfter_68 : decode cX1_readAfter 68 = .ok (.iconst 3, 1) := by decide +kernel
theorem dX1_readAfter_69 : decode cX1_readAfter 69 = .ok (.invokevirtual 70, 3) := by decide +kernel
theorem dX1_readAfter_72 : decode cX1_readAfter 72 = .ok (.ireturn, 1) := by decide +kernel
theorem dX1_readAfter_73 : decode cX1_readAfter 73 = .ok (.aload_n 0, 1) := by decide +kernel
theorem dX1_readAfter_74 : decode cX1_readAfter 74 = .ok (.getfield 15, 3) := by decide +kernel
theorem dX1_readAfter_77 : decode cX1_readAfter 77 = .ok (.iconst 0, 1) := by decide +kernel
theorem dX1_readAfter_78 : decode cX1_readAfter 78 = .ok (.aload_n 0, 1) := by decide +kernel
theorem dX1_readAfter_79 : decode cX1_readAfter 79 = .ok (.getfield 28, 3) := by decide +kernel
theorem dX1_readAfter_82 : decode cX1_readAfter 82 = .ok (.getfield 121, 3) := by decide +kernel
theorem dX1_readAfter_85 : decode cX1_readAfter 85 = .ok (.iconst 1, 1) := by decide +kernel
theorem dX1_readAfter_86 : decode cX1_readAfter 86 = .ok (.isub, 1) := by decide +kernel
theorem dX1_readAfter_87 : decode cX1_readAfter 87 = .ok (.invokevirtual 114, 3) := by decide +kernel
theorem dX1_readAfter_90 : decode cX1_readAfter 90 = .ok (.istore_n 1, 1) := by decide +kernel
theorem dX1_readAfter_91 : decode cX1_readAfter 91 = .ok (.iload_n 1, 1) := by decide +kernel
theorem dX1_readAfter_92 : decode cX1_readAfter 92 = .ok (.ifCond .lt 9, 3) := by decide +kernel
theorem dX1_readAfter_95 : decode cX1_readAfter 95 = .ok (.iload_n 1, 1) := by decide +kernel
theorem dX1_readAfter_96 : decode cX1_readAfter 96 = .ok (.bipush 8, 2) := by decide +kernel
theorem dX1_readAfter_98 : decode cX1_readAfter 98 = .ok (.if_icmp .lt 5, 3) := by decide +kernel
theorem dX1_readAfter_101 : decode cX1_readAfter 101 = .ok (.iconst 0, 1) := by decide +kernel
theorem dX1_readAfter_102 : decode cX1_readAfter 102 = .ok (.ireturn, 1) := by decide +kernel
theorem dX1_readAfter_103 : decode cX1_readAfter 103 = .ok (.aload_n 0, 1) := by decide +kernel
theorem dX1_readAfter_104 : decode cX1_readAfter 104 = .ok (.getfield 15, 3) := by decide +kernel
theorem dX1_readAfter_107 : decode cX1_readAfter 107 = .ok (.getfield 51, 3) := by decide +kernel
theorem dX1_readAfter_110 : decode cX1_readAfter 110 = .ok (.iconst 4, 1) := by decide +kernel
theorem dX1_readAfter_111 : decode cX1_readAfter 111 = .ok (.if_icmp .eq 12, 3) := by decide +kernel
theorem dX1_readAfter_114 : decode cX1_readAfter 114 = .ok (.aload_n 0, 1) := by decide +kernel
theorem dX1_readAfter_115 : decode cX1_readAfter 115 = .ok (.getfield 15, 3) := by decide +kernel
theorem dX1_readAfter_118 : decode cX1_readAfter 118 = .ok (.iconst 1, 1) := by decide +kernel
theorem dX1_readAfter_119 : decode cX1_readAfter 119 = .ok (.invokevirtual 70, 3) := by decide +kernel
theorem dX1_readAfter_122 : decode cX1_readAfter 122 = .ok (.ireturn, 1) := by decide +kernel
theorem dX1_readAfter_123 : decode cX1_readAfter 123 = .ok (.aload_n 0, 1) := by decide +kernel
theorem dX1_readAfter_124 : decode cX1_readAfter 124 = .ok (.getfield 15, 3) := by decide +kernel
theorem dX1_readAfter_127 : decode cX1_readAfter 127 = .ok (.invokevirtual 87, 3) := by decide +kernel
theorem dX1_readAfter_130 : decode cX1_readAfter 130 = .ok (.aload_n 0, 1) := by decide +kernel
theorem dX1_readAfter_131 : decode cX1_readAfter 131 = .ok (.getfield 15, 3) := by decide +kernel
theorem dX1_readAfter_134 : decode cX1_readAfter 134 = .ok (.iconst 0, 1) := by decide +kernel
theorem dX1_readAfter_135 : decode cX1_readAfter 135 = .ok (.bipush 99, 2) := by decide +kernel
theorem dX1_readAfter_137 : decode cX1_readAfter 137 = .ok (.invokevirtual 114, 3) := by decide +kernel
theorem dX1_readAfter_140 : decode cX1_readAfter 140 = .ok (.istore_n 2, 1) := by decide +kernel
theorem dX1_readAfter_141 : decode cX1_readAfter 141 = .ok (.iload_n 2, 1) := by decide +kernel
theorem dX1_readAfter_142 : decode cX1_readAfter 142 = .ok (.iconst (-1), 1) := by decide +kernel
theorem dX1_readAfter_143 : decode cX1_readAfter 143 = .ok (.if_icmp .ne 5, 3) := by decide +kernel
theorem dX1_readAfter_146 : decode cX1_readAfter 146 = .ok (.iconst 0, 1) := by decide +kernel
theorem dX1_readAfter_147 : decode cX1_readAfter 147 = .ok (.ireturn, 1) := by decide +kernel
theorem dX1_readAfter_148 : decode cX1_readAfter 148 = .ok (.aload_n 0, 1) := by decide +kernel
theorem dX1_readAfter_149 : decode cX1_readAfter 149 = .ok (.getfield 28, 3) := by decide +kernel
theorem dX1_readAfter_152 : decode cX1_readAfter 152 = .ok (.getfield 124, 3) := by decide +kernel
theorem dX1_readAfter_155 : decode cX1_readAfter 155 = .ok (.iload_n 1, 1) := by decide +kernel
theorem dX1_readAfter_156 : decode cX1_readAfter 156 = .ok (.iload_n 2, 1) := by decide +kernel
theorem dX1_readAfter_157 : decode cX1_readAfter 157 = .ok (.iastore, 1) := by decide +kernel
theorem dX1_readAfter_158 : decode cX1_readAfter 158 = .ok (.aload_n 0, 1) := by decide +kernel
theorem dX1_readAfter_159 : decode cX1_readAfter 159 = .ok (.getfield 15, 3) := by decide +kernel
theorem dX1_readAfter_162 : decode cX1_readAfter 162 = .ok (.invokevirtual 108, 3) := by decide +kernel
theorem dX1_readAfter_165 : decode cX1_readAfter 165 = .ok (.ireturn, 1) := by decide +kernel
theorem dX1_readCasts_0 : decode cX1_readCasts 0 = .ok (.aload_n 0, 1) := by decide +kernel
theorem dX1_readCasts_1 : decode cX1_readCasts 1 = .ok (.getfield 28, 3) := by decide +kernel
theorem dX1_readCasts_4 : decode cX1_readCasts 4 = .ok (.getfield 111, 3) := by decide +kernel
theorem dX1_readCasts_7 : decode cX1_readCasts 7 = .ok (.ifCond .eq 12, 3) := by decide +kernel
theorem dX1_readCasts_10 : decode cX1_readCasts 10 = .ok (.aload_n 0, 1) := by decide +kernel
theorem dX1_readCasts_11 : decode cX1_readCasts 11 = .ok (.getfield 15, 3) := by decide +kernel
theorem dX1_readCasts_14 : decode cX1_readCasts 14 = .ok (.iconst 3, 1) := by decide +kernel
theorem dX1_readCasts_15 : decode cX1_readCasts 15 = .ok (.invokevirtual 70, 3) := by decide +kernel
theorem dX1_readCasts_18 : decode cX1_readCasts 18 = .ok (.ireturn, 1) := by decide +kernel
theorem dX1_readCasts_19 : decode cX1_readCasts 19 = .ok (.aload_n 0, 1) := by decide +kernel
theorem dX1_readCasts_20 : decode cX1_readCasts 20 = .ok (.getfield 15, 3) := by decide +kernel
theorem dX1_readCasts_23 : decode cX1_readCasts 23 = .ok (.invokevirtual 87, 3) := by decide +kernel
theorem dX1_readCasts_26 : decode cX1_readCasts 26 = .ok (.aload_n 0, 1) := by decide +kernel
theorem dX1_readCasts_27 : decode cX1_readCasts 27 = .ok (.getfield 15, 3) := by decide +kernel
theorem dX1_readCasts_30 : decode cX1_readCasts 30 = .ok (.iconst 1, 1) := by decide +kernel
theorem dX1_readCasts_31 : decode cX1_readCasts 31 = .ok (.bipush 60, 2) := by decide +kernel
theorem dX1_readCasts_33 : decode cX1_readCasts 33 = .ok (.invokevirtual 114, 3) := by decide +kernel
theorem dX1_readCasts_36 : decode cX1_readCasts 36 = .ok (.istore_n 1, 1) := by decide +kernel
theorem dX1_readCasts_37 : decode cX1_readCasts 37 = .ok (.iload_n 1, 1) := by decide +kernel
theorem dX1_readCasts_38 : decode cX1_readCasts 38 = .ok (.iconst (-1), 1) := by decide +kernel
theorem dX1_readCasts_39 : decode cX1_readCasts 39 = .ok (.if_icmp .ne 5, 3) := by decide +kernel
theorem dX1_readCasts_42 : decode cX1_readCasts 42 = .ok (.iconst 0, 1) := by decide +kernel
theorem dX1_readCasts_43 : decode cX1_readCasts 43 = .ok (.ireturn, 1) := by decide +kernel
theorem dX1_readCasts_44 : decode cX1_readCasts 44 = .ok (.aload_n 0, 1) := by decide +kernel
theorem dX1_readCasts_45 : decode cX1_readCasts 45 = .ok (.getfield 28, 3) := by decide +kernel
theorem dX1_readCasts_48 : decode cX1_readCasts 48 = .ok (.iload_n 1, 1) := by decide +kernel
theorem dX1_readCasts_49 : decode cX1_readCasts 49 = .ok (.putfield 111, 3) := by decide +kernel
theorem dX1_readCasts_52 : decode cX1_readCasts 52 = .ok (.aload_n 0, 1) := by decide +kernel
theorem dX1_readCasts_53 : decode cX1_readCasts 53 = .ok (.getfield 15, 3) := by decide +kernel
theorem dX1_readCasts_56 : decode cX1_readCasts 56 = .ok (.invokevirtual 108, 3) := by decide +kernel
theorem dX1_readCasts_59 : decode cX1_readCasts 59 = .ok (.ireturn, 1) := by decide +kernel
theorem dX1_endRow_0 : decode cX1_endRow 0 = .ok (.aload_n 0, 1) := by decide +kernel
theorem dX1_endRow_1 : decode cX1_endRow 1 = .ok (.getfield 130, 3) := by decide +kernel
theorem dX1_endRow_4 : decode cX1_endRow 4 = .ok (.bipush 60, 2) := by decide +kernel
theorem dX1_endRow_6 : decode cX1_endRow 6 = .ok (.if_icmp .le 12, 3) := by decide +kernel
theorem dX1_endRow_9 : decode cX1_endRow 9 = .ok (.aload_n 0, 1) := by decide +kernel
theorem dX1_endRow_10 : decode cX1_endRow 10 = .ok (.getfield 15, 3) := by decide +kernel
theorem dX1_endRow_13 : decode cX1_endRow 13 = .ok (.iconst 5, 1) := by decide +kernel
theorem dX1_endRow_14 : decode cX1_endRow 14 = .ok (.invokevirtual 70, 3) := by decide +kernel
theorem dX1_endRow_17 : decode cX1_endRow 17 = .ok (.ireturn, 1) := by decide +kernel
theorem dX1_endRow_18 : decode cX1_endRow 18 = .ok (.aload_n 0, 1) := by decide +kernel
theorem dX1_endRow_19 : decode cX1_endRow 19 = .ok (.getfield 28, 3) := by decide +kernel
theorem dX1_endRow_22 : decode cX1_endRow 22 = .ok (.getfield 146, 3) := by decide +kernel
theorem dX1_endRow_25 : decode cX1_endRow 25 = .ok (.aload_n 0, 1) := by decide +kernel
theorem dX1_endRow_26 : decode cX1_endRow 26 = .ok (.getfield 28, 3) := by decide +kernel
theorem dX1_endRow_29 : decode cX1_endRow 29 = .ok (.getfield 121, 3) := by decide +kernel
theorem dX1_endRow_32 : decode cX1_endRow 32 = .ok (.aload_n 0, 1) := by decide +kernel
theorem dX1_endRow_33 : decode cX1_endRow 33 = .ok (.getfield 130, 3) := by decide +kernel
theorem dX1_endRow_36 : decode cX1_endRow 36 = .ok (.iastore, 1) := by decide +kernel
theorem dX1_endRow_37 : decode cX1_endRow 37 = .ok (.aload_n 0, 1) := by decide +kernel
theorem dX1_endRow_38 : decode cX1_endRow 38 = .ok (.getfield 28, 3) := by decide +kernel
theorem dX1_endRow_41 : decode cX1_endRow 41 = .ok (.dup, 1) := by decide +kernel
theorem dX1_endRow_42 : decode cX1_endRow 42 = .ok (.getfield 121, 3) := by decide +kernel
theorem dX1_endRow_45 : decode cX1_endRow 45 = .ok (.iconst 1, 1) := by decide +kernel
theorem dX1_endRow_46 : decode cX1_endRow 46 = .ok (.iadd, 1) := by decide +kernel
theorem dX1_endRow_47 : decode cX1_endRow 47 = .ok (.putfield 121, 3) := by decide +kernel
theorem dX1_endRow_50 : decode cX1_endRow 50 = .ok (.aload_n 0, 1) := by decide +kernel
theorem dX1_endRow_51 : decode cX1_endRow 51 = .ok (.getfield 15, 3) := by decide +kernel
theorem dX1_endRow_54 : decode cX1_endRow 54 = .ok (.invokevirtual 87, 3) := by decide +kernel
theorem dX1_endRow_57 : decode cX1_endRow 57 = .ok (.iconst 1, 1) := by decide +kernel
theorem dX1_endRow_58 : decode cX1_endRow 58 = .ok (.ireturn, 1) := by decide +kernel
theorem dX10_isName_0 : decode cX10_isName 0 = .ok (.aload_n 0, 1) := by decide +kernel
theorem dX10_isName_1 : decode cX10_isName 1 = .ok (.getfield 34, 3) := by decide +kernel
theorem dX10_isName_4 : decode cX10_isName 4 = .ok (.iconst 1, 1) := by decide +kernel
theorem dX10_isName_5 : decode cX10_isName 5 = .ok (.if_icmp .ne 24, 3) := by decide +kernel
theorem dX10_isName_8 : decode cX10_isName 8 = .ok (.aload_n 0, 1) := by decide +kernel
theorem dX10_isName_9 : decode cX10_isName 9 = .ok (.getfield 31, 3) := by decide +kernel
theorem dX10_isName_12 : decode cX10_isName 12 = .ok (.iconst (-1), 1) := by decide +kernel
theorem dX10_isName_13 : decode cX10_isName 13 = .ok (.if_icmp .eq 12, 3) := by decide +kernel
theorem dX10_isName_16 : decode cX10_isName 16 = .ok (.aload_n 0, 1) := by decide +kernel
theorem dX10_isName_17 : decode cX10_isName 17 = .ok (.getfield 31, 3) := by decide +kernel
theorem dX10_isName_20 : decode cX10_isName 20 = .ok (.bipush 17, 2) := by decide +kernel
theorem dX10_isName_22 : decode cX10_isName 22 = .ok (.if_icmp .lt 7, 3) := by decide +kernel
theorem dX10_isName_25 : decode cX10_isName 25 = .ok (.iconst 1, 1) := by decide +kernel
theorem dX10_isName_26 : decode cX10_isName 26 = .ok (.goto 4, 3) := by decide +kernel
theorem dX10_isName_29 : decode cX10_isName 29 = .ok (.iconst 0, 1) := by decide +kernel
theorem dX10_isName_30 : decode cX10_isName 30 = .ok (.ireturn, 1) := by decide +kernel
theorem dX10_takeName_0 : decode cX10_takeName 0 = .ok (.aload_n 0, 1) := by decide +kernel
theorem dX10_takeName_1 : decode cX10_takeName 1 = .ok (.invokevirtual 86, 3) := by decide +kernel
theorem dX10_takeName_4 : decode cX10_takeName 4 = .ok (.ifCond .ne 11, 3) := by decide +kernel
theorem dX10_takeName_7 : decode cX10_takeName 7 = .ok (.aload_n 0, 1) := by decide +kernel
theorem dX10_takeName_8 : decode cX10_takeName 8 = .ok (.iconst 1, 1) := by decide +kernel
theorem dX10_takeName_9 : decode cX10_takeName 9 = .ok (.invokevirtual 82, 3) := by decide +kernel
theorem dX10_takeName_12 : decode cX10_takeName 12 = .ok (.pop, 1) := by decide +kernel
theorem dX10_takeName_13 : decode cX10_takeName 13 = .ok (.iconst (-1), 1) := by decide +kernel
theorem dX10_takeName_14 : decode cX10_takeName 14 = .ok (.ireturn, 1) := by decide +kernel
theorem dX10_takeName_15 : decode cX10_takeName 15 = .ok (.aload_n 1, 1) := by decide +kernel
theorem dX10_takeName_16 : decode cX10_takeName 16 = .ok (.aload_n 0, 1) := by decide +kernel
theorem dX10_takeName_17 : decode cX10_takeName 17 = .ok (.getfield 48, 3) := by decide +kernel
theorem dX10_takeName_20 : decode cX10_takeName 20 = .ok (.invokevirtual 90, 3) := by decide +kernel
theorem dX10_takeName_23 : decode cX10_takeName 23 = .ok (.istore_n 2, 1) := by decide +kernel
theorem dX10_takeName_24 : decode cX10_takeName 24 = .ok (.iload_n 2, 1) := by decide +kernel
theorem dX10_takeName_25 : decode cX10_takeName 25 = .ok (.iconst (-1), 1) := by decide +kernel
theorem dX10_takeName_26 : decode cX10_takeName 26 = .ok (.if_icmp .ne 11, 3) := by decide +kernel
theorem dX10_takeName_29 : decode cX10_takeName 29 = .ok (.aload_n 0, 1) := by decide +kernel
theorem dX10_takeName_30 : decode cX10_takeName 30 = .ok (.iconst 2, 1) := by decide +kernel
theorem dX10_takeName_31 : decode cX10_takeName 31 = .ok (.invokevirtual 82, 3) := by decide +kernel
theorem dX10_takeName_34 : decode cX10_takeName 34 = .ok (.pop, 1) := by decide +kernel
theorem dX10_takeName_35 : decode cX10_takeName 35 = .ok (.iconst (-1), 1) := by decide +kernel
theorem dX10_takeName_36 : decode cX10_takeName 36 = .ok (.ireturn, 1) := by decide +kernel
theorem dX10_takeName_37 : decode cX10_takeName 37 = .ok (.aload_n 0, 1) := by decide +kernel
theorem dX10_takeName_38 : decode cX10_takeName 38 = .ok (.invokevirtual 25, 3) := by decide +kernel
theorem dX10_takeName_41 : decode cX10_takeName 41 = .ok (.iload_n 2, 1) := by decide +kernel
theorem dX10_takeName_42 : decode cX10_takeName 42 = .ok (.ireturn, 1) := by decide +kernel
theorem dX1_put_0 : decode cX1_put 0 = .ok (.aload_n 0, 1) := by decide +kernel
theorem dX1_put_1 : decode cX1_put 1 = .ok (.getfield 130, 3) := by decide +kernel
theorem dX1_put_4 : decode cX1_put 4 = .ok (.ifCond .lt 33, 3) := by decide +kernel
theorem dX1_put_7 : decode cX1_put 7 = .ok (.aload_n 0, 1) := by decide +kernel
theorem dX1_put_8 : decode cX1_put 8 = .ok (.getfield 130, 3) := by decide +kernel
theorem dX1_put_11 : decode cX1_put 11 = .ok (.bipush 60, 2) := by decide +kernel
theorem dX1_put_13 : decode cX1_put 13 = .ok (.if_icmp .ge 24, 3) := by decide +kernel
theorem dX1_put_16 : decode cX1_put 16 = .ok (.aload_n 0, 1) := by decide +kernel
theorem dX1_put_17 : decode cX1_put 17 = .ok (.getfield 28, 3) := by decide +kernel
theorem dX1_put_20 : decode cX1_put 20 = .ok (.getfield 149, 3) := by decide +kernel
theorem dX1_put_23 : decode cX1_put 23 = .ok (.aload_n 0, 1) := by decide +kernel
theorem dX1_put_24 : decode cX1_put 24 = .ok (.getfield 28, 3) := by decide +kernel
theorem dX1_put_27 : decode cX1_put 27 = .ok (.getfield 121, 3) := by decide +kernel
theorem dX1_put_30 : decode cX1_put 30 = .ok (.aaload, 1) := by decide +kernel
theorem dX1_put_31 : decode cX1_put 31 = .ok (.aload_n 0, 1) := by decide +kernel
theorem dX1_put_32 : decode cX1_put 32 = .ok (.getfield 130, 3) := by decide +kernel
theorem dX1_put_35 : decode cX1_put 35 = .ok (.iload_n 1, 1) := by decide +kernel
theorem dX1_put_36 : decode cX1_put 36 = .ok (.iastore, 1) := by decide +kernel
theorem dX1_put_37 : decode cX1_put 37 = .ok (.aload_n 0, 1) := by decide +kernel
theorem dX1_put_38 : decode cX1_put 38 = .ok (.aload_n 0, 1) := by decide +kernel
theorem dX1_put_39 : decode cX1_put 39 = .ok (.getfield 130, 3) := by decide +kernel
theorem dX1_put_42 : decode cX1_put 42 = .ok (.bipush 60, 2) := by decide +kernel
theorem dX1_put_44 : decode cX1_put 44 = .ok (.if_icmp .ge 12, 3) := by decide +kernel
theorem dX1_put_47 : decode cX1_put 47 = .ok (.aload_n 0, 1) := by decide +kernel
theorem dX1_put_48 : decode cX1_put 48 = .ok (.getfield 130, 3) := by decide +kernel
theorem dX1_put_51 : decode cX1_put 51 = .ok (.iconst 1, 1) := by decide +kernel
theorem dX1_put_52 : decode cX1_put 52 = .ok (.iadd, 1) := by decide +kernel
theorem dX1_put_53 : decode cX1_put 53 = .ok (.goto 5, 3) := by decide +kernel
theorem dX1_put_56 : decode cX1_put 56 = .ok (.bipush 61, 2) := by decide +kernel
theorem dX1_put_58 : decode cX1_put 58 = .ok (.putfield 130, 3) := by decide +kernel
theorem dX1_put_61 : decode cX1_put 61 = .ok (.return_, 1) := by decide +kernel
theorem dX1_readNamed_0 : decode cX1_readNamed 0 = .ok (.aload_n 0, 1) := by decide +kernel
theorem dX1_readNamed_1 : decode cX1_readNamed 1 = .ok (.getfield 15, 3) := by decide +kernel
theorem dX1_readNamed_4 : decode cX1_readNamed 4 = .ok (.aload_n 0, 1) := by decide +kernel
theorem dX1_readNamed_5 : decode cX1_readNamed 5 = .ok (.getfield 28, 3) := by decide +kernel
theorem dX1_readNamed_8 : decode cX1_readNamed 8 = .ok (.invokevirtual 157, 3) := by decide +kernel
theorem dX1_readNamed_11 : decode cX1_readNamed 11 = .ok (.istore_n 1, 1) := by decide +kernel
theorem dX1_readNamed_12 : decode cX1_readNamed 12 = .ok (.iload_n 1, 1) := by decide +kernel
theorem dX1_readNamed_13 : decode cX1_readNamed 13 = .ok (.iconst (-1), 1) := by decide +kernel
theorem dX1_readNamed_14 : decode cX1_readNamed 14 = .ok (.if_icmp .ne 5, 3) := by decide +kernel
theorem dX1_readNamed_17 : decode cX1_readNamed 17 = .ok (.iconst 0, 1) := by decide +kernel
theorem dX1_readNamed_18 : decode cX1_readNamed 18 = .ok (.ireturn, 1) := by decide +kernel
theorem dX1_readNamed_19 : decode cX1_readNamed 19 = .ok (.iconst 1, 1) := by decide +kernel
theorem dX1_readNamed_20 : decode cX1_readNamed 20 = .ok (.istore_n 2, 1) := by decide +kernel
theorem dX1_readNamed_21 : decode cX1_readNamed 21 = .ok (.aload_n 0, 1) := by decide +kernel
theorem dX1_readNamed_22 : decode cX1_readNamed 22 = .ok (.getfield 15, 3) := by decide +kernel
theorem dX1_readNamed_25 : decode cX1_readNamed 25 = .ok (.getfield 47, 3) := by decide +kernel
theorem dX1_readNamed_28 : decode cX1_readNamed 28 = .ok (.iconst 2, 1) := by decide +kernel
theorem dX1_readNamed_29 : decode cX1_readNamed 29 = .ok (.if_icmp .ne 14, 3) := by decide +kernel
theorem dX1_readNamed_32 : decode cX1_readNamed 32 = .ok (.aload_n 0, 1) := by decide +kernel
theorem dX1_readNamed_33 : decode cX1_readNamed 33 = .ok (.getfield 15, 3) := by decide +kernel
theorem dX1_readNamed_36 : decode cX1_readNamed 36 = .ok (.iconst 1, 1) := by decide +kernel
theorem dX1_readNamed_37 : decode cX1_readNamed 37 = .ok (.bipush 20, 2) := by decide +kernel
theorem dX1_readNamed_39 : decode cX1_readNamed 39 = .ok (.invokevirtual 114, 3) := by decide +kernel
theorem dX1_readNamed_42 : decode cX1_readNamed 42 = .ok (.istore_n 2, 1) := by decide +kernel
theorem dX1_readNamed_43 : decode cX1_readNamed 43 = .ok (.iconst 0, 1) := by decide +kernel
theorem dX1_readNamed_44 : decode cX1_readNamed 44 = .ok (.istore_n 3, 1) := by decide +kernel
theorem dX1_readNamed_45 : decode cX1_readNamed 45 = .ok (.iload_n 3, 1) := by decide +kernel
theorem dX1_readNamed_46 : decode cX1_readNamed 46 = .ok (.iload_n 2, 1) := by decide +kernel
theorem dX1_readNamed_47 : decode cX1_readNamed 47 = .ok (.if_icmp .ge 14, 3) := by decide +kernel
theorem dX1_readNamed_50 : decode cX1_readNamed 50 = .ok (.aload_n 0, 1) := by decide +kernel
theorem dX1_readNamed_51 : decode cX1_readNamed 51 = .ok (.iload_n 1, 1) := by decide +kernel
theorem dX1_readNamed_52 : decode cX1_readNamed 52 = .ok (.invokevirtual 153, 3) := by decide +kernel
theorem dX1_readNamed_55 : decode cX1_readNamed 55 = .ok (.iinc 3 1, 3) := by decide +kernel
theorem dX1_readNamed_58 : decode cX1_readNamed 58 = .ok (.goto (-13), 3) := by decide +kernel
theorem dX1_readNamed_61 : decode cX1_readNamed 61 = .ok (.iload_n 2, 1) := by decide +kernel
theorem dX1_readNamed_62 : decode cX1_readNamed 62 = .ok (.iconst (-1), 1) := by decide +kernel
theorem dX1_readNamed_63 : decode cX1_readNamed 63 = .ok (.if_icmp .eq 7, 3) := by decide +kernel
theorem dX1_readNamed_66 : decode cX1_readNamed 66 = .ok (.iconst 1, 1) := by decide +kernel
theorem dX1_readNamed_67 : decode cX1_readNamed 67 = .ok (.goto 4, 3) := by decide +kernel
theorem dX1_readNamed_70 : decode cX1_readNamed 70 = .ok (.iconst 0, 1) := by decide +kernel
theorem dX1_readNamed_71 : decode cX1_readNamed 71 = .ok (.ireturn, 1) := by decide +kernel
theorem dX1_readTimes_0 : decode cX1_readTimes 0 = .ok (.aload_n 0, 1) := by decide +kernel
theorem dX1_readTimes_1 : decode cX1_readTimes 1 = .ok (.getfield 15, 3) := by decide +kernel
theorem dX1_readTimes_4 : decode cX1_readTimes 4 = .ok (.invokevirtual 87, 3) := by decide +kernel
theorem dX1_readTimes_7 : decode cX1_readTimes 7 = .ok (.aload_n 0, 1) := by decide +kernel
theorem dX1_readTimes_8 : decode cX1_readTimes 8 = .ok (.getfield 15, 3) := by decide +kernel
theorem dX1_readTimes_11 : decode cX1_readTimes 11 = .ok (.iconst 1, 1) := by decide +kernel
theorem dX1_readTimes_12 : decode cX1_readTimes 12 = .ok (.bipush 20, 2) := by decide +kernel
theorem dX1_readTimes_14 : decode cX1_readTimes 14 = .ok (.invokevirtual 114, 3) := by decide +kernel
theorem dX1_readTimes_17 : decode cX1_readTimes 17 = .ok (.istore_n 2, 1) := by decide +kernel
theorem dX1_readTimes_18 : decode cX1_readTimes 18 = .ok (.aload_n 0, 1) := by decide +kernel
theorem dX1_readTimes_19 : decode cX1_readTimes 19 = .ok (.getfield 130, 3) := by decide +kernel
theorem dX1_readTimes_22 : decode cX1_readTimes 22 = .ok (.iload_n 1, 1) := by decide +kernel
theorem dX1_readTimes_23 : decode cX1_readTimes 23 = .ok (.isub, 1) := by decide +kernel
theorem dX1_readTimes_24 : decode cX1_readTimes 24 = .ok (.istore_n 3, 1) := by decide +kernel
theorem dX1_readTimes_25 : decode cX1_readTimes 25 = .ok (.iload_n 3, 1) := by decide +kernel
theorem dX1_readTimes_26 : decode cX1_readTimes 26 = .ok (.istore 4, 2) := by decide +kernel
theorem dX1_readTimes_28 : decode cX1_readTimes 28 = .ok (.iload 4, 2) := by decide +kernel
theorem dX1_readTimes_30 : decode cX1_readTimes 30 = .ok (.iload_n 3, 1) := by decide +kernel
theorem dX1_readTimes_31 : decode cX1_readTimes 31 = .ok (.iload_n 2, 1) := by decide +kernel
theorem dX1_readTimes_32 : decode cX1_readTimes 32 = .ok (.imul, 1) := by decide +kernel
theorem dX1_readTimes_33 : decode cX1_readTimes 33 = .ok (.if_icmp .ge 44, 3) := by decide +kernel
theorem dX1_readTimes_36 : decode cX1_readTimes 36 = .ok (.aload_n 0, 1) := by decide +kernel
theorem dX1_readTimes_37 : decode cX1_readTimes 37 = .ok (.getfield 130, 3) := by decide +kernel
theorem dX1_readTimes_40 : decode cX1_readTimes 40 = .ok (.bipush 60, 2) := by decide +kernel
theorem dX1_readTimes_42 : decode cX1_readTimes 42 = .ok (.if_icmp .gt 35, 3) := by decide +kernel
theorem dX1_readTimes_45 : decode cX1_readTimes 45 = .ok (.aload_n 0, 1) := by decide +kernel
theorem dX1_readTimes_46 : decode cX1_readTimes 46 = .ok (.aload_n 0, 1) := by decide +kernel
theorem dX1_readTimes_47 : decode cX1_readTimes 47 = .ok (.getfield 28, 3) := by decide +kernel
theorem dX1_readTimes_50 : decode cX1_readTimes 50 = .ok (.getfield 149, 3) := by decide +kernel
theorem dX1_readTimes_53 : decode cX1_readTimes 53 = .ok (.aload_n 0, 1) := by decide +kernel
theorem dX1_readTimes_54 : decode cX1_readTimes 54 = .ok (.getfield 28, 3) := by decide +kernel
theorem dX1_readTimes_57 : decode cX1_readTimes 57 = .ok (.getfield 121, 3) := by decide +kernel
theorem dX1_readTimes_60 : decode cX1_readTimes 60 = .ok (.aaload, 1) := by decide +kernel
theorem dX1_readTimes_61 : decode cX1_readTimes 61 = .ok (.aload_n 0, 1) := by decide +kernel
theorem dX1_readTimes_62 : decode cX1_readTimes 62 = .ok (.getfield 130, 3) := by decide +kernel
theorem dX1_readTimes_65 : decode cX1_readTimes 65 = .ok (.iload_n 3, 1) := by decide +kernel
theorem dX1_readTimes_66 : decode cX1_readTimes 66 = .ok (.isub, 1) := by decide +kernel
theorem dX1_readTimes_67 : decode cX1_readTimes 67 = .ok (.iaload, 1) := by decide +kernel
theorem dX1_readTimes_68 : decode cX1_readTimes 68 = .ok (.invokevirtual 153, 3) := by decide +kernel
theorem dX1_readTimes_71 : decode cX1_readTimes 71 = .ok (.iinc 4 1, 3) := by decide +kernel
theorem dX1_readTimes_74 : decode cX1_readTimes 74 = .ok (.goto (-46), 3) := by decide +kernel
theorem dX1_readTimes_77 : decode cX1_readTimes 77 = .ok (.iload_n 2, 1) := by decide +kernel
theorem dX1_readTimes_78 : decode cX1_readTimes 78 = .ok (.iconst (-1), 1) := by decide +kernel
theorem dX1_readTimes_79 : decode cX1_readTimes 79 = .ok (.if_icmp .eq 7, 3) := by decide +kernel
theorem dX1_readTimes_82 : decode cX1_readTimes 82 = .ok (.iconst 1, 1) := by decide +kernel
theorem dX1_readTimes_83 : decode cX1_readTimes 83 = .ok (.goto 4, 3) := by decide +kernel
theorem dX1_readTimes_86 : decode cX1_readTimes 86 = .ok (.iconst 0, 1) := by decide +kernel
theorem dX1_readTimes_87 : decode cX1_readTimes 87 = .ok (.ireturn, 1) := by decide +kernel
theorem zq_266 : Cond.fieldLink RX1 28 "ForeignKnit$BookReader" "into" "LForeignKnit$Book;" ∈ zG := List.mem_of_getElem? (i := 266) (by decide +kernel)
theorem zq_268 : Cond.fieldLink RX1 47 "ForeignKnit$Tape" "kind" "I" ∈ zG := List.mem_of_getElem? (i := 268) (by decide +kernel)
theorem zq_269 : Cond.fieldLink RX1 51 "ForeignKnit$Tape" "key" "I" ∈ zG := List.mem_of_getElem? (i := 269) (by decide +kernel)
theorem zq_275 : Cond.fieldLink RX0 51 "ForeignKnit$Book" "words" "I" ∈ zG := List.mem_of_getElem? (i := 275) (by decide +kernel)
theorem zq_276 : Cond.fieldLink RX0 55 "ForeignKnit$Book" "casts" "I" ∈ zG := List.mem_of_getElem? (i := 276) (by decide +kernel)
theorem zq_277 : Cond.fieldLink RX0 58 "ForeignKnit$Book" "rows" "I" ∈ zG := List.mem_of_getElem? (i := 277) (by decide +kernel)
theorem zq_293 : Cond.methodLink RX10 25 yX10_next ∈ zG := List.mem_of_getElem? (i := 293) (by decide +kernel)
theorem zq_431 : Cond.methodLink RX1 70 yX10_wrong ∈ zG := List.mem_of_getElem? (i := 431) (by decide +kernel)
theorem zq_435 : Cond.methodLink RX1 87 yX10_next ∈ zG := List.mem_of_getElem? (i := 435) (by decide +kernel)
theorem zq_444 : Cond.methodLink RX1 108 yX10_takeEnd ∈ zG := List.mem_of_getElem? (i := 444) (by decide +kernel)
theorem zq_448 : Cond.methodLink RX10 78 yX10_isSign ∈ zG := List.mem_of_getElem? (i := 448) (by decide +kernel)
theorem zq_452 : Cond.methodLink RX10 82 yX10_wrong ∈ zG := List.mem_of_getElem? (i := 452) (by decide +kernel)
theorem zq_457 : Cond.fieldLink RX1 111 "ForeignKnit$Book" "casts" "I" ∈ zG := List.mem_of_getElem? (i := 457) (by decide +kernel)
theorem zq_458 : Cond.methodLink RX1 114 yX10_takeNumber ∈ zG := List.mem_of_getElem? (i := 458) (by decide +kernel)
theorem zq_466 : Cond.fieldLink RX1 121 "ForeignKnit$Book" "rows" "I" ∈ zG := List.mem_of_getElem? (i := 466) (by decide +kernel)
theorem zq_467 : Cond.fieldLink RX1 130 "ForeignKnit$BookReader" "length" "I" ∈ zG := List.mem_of_getElem? (i := 467) (by decide +kernel)
theorem zq_473 : Cond.fieldLink RX1 146 "ForeignKnit$Book" "lengths" "[I" ∈ zG := List.mem_of_getElem? (i := 473) (by decide +kernel)
theorem zq_478 : Cond.fieldLink RX1 149 "ForeignKnit$Book" "places" "[[I" ∈ zG := List.mem_of_getElem? (i := 478) (by decide +kernel)
theorem zq_479 : Cond.methodLink RX1 153 yX1_put ∈ zG := List.mem_of_getElem? (i := 479) (by decide +kernel)
theorem zq_487 : Cond.methodLink RX1 157 yX10_takeName ∈ zG := List.mem_of_getElem? (i := 487) (by decide +kernel)
theorem zq_491 : Cond.methodLink RX10 86 yX10_isName ∈ zG := List.mem_of_getElem? (i := 491) (by decide +kernel)
theorem zq_492 : Cond.methodLink RX10 90 yX0_wordNamed ∈ zG := List.mem_of_getElem? (i := 492) (by decide +kernel)
theorem zq_497 : Cond.fieldLink RX1 118 "ForeignKnit$Tape" "number" "I" ∈ zG := List.mem_of_getElem? (i := 497) (by decide +kernel)
theorem zq_498 : Cond.fieldLink RX1 124 "ForeignKnit$Book" "counts" "[I" ∈ zG := List.mem_of_getElem? (i := 498) (by decide +kernel)
theorem zq_545 : Cond.methodLink RX0 61 yX0_wordAt ∈ zG := List.mem_of_getElem? (i := 545) (by decide +kernel)
theorem zq_553 : Cond.methodLink RX0 65 yX0_isOfKind ∈ zG := List.mem_of_getElem? (i := 553) (by decide +kernel)
theorem zq_556 : Cond.methodLink RX0 69 yX7_value ∈ zG := List.mem_of_getElem? (i := 556) (by decide +kernel)
theorem zq_560 : Cond.methodLink RX7 71 yX7_fact ∈ zG := List.mem_of_getElem? (i := 560) (by decide +kernel)
theorem zq_563 : Cond.methodLink RX7 75 yX7_join ∈ zG := List.mem_of_getElem? (i := 563) (by decide +kernel)
theorem zq_794 : Cond.methodLink RX0 87 yX0_repeats ∈ zG := List.mem_of_getElem? (i := 794) (by decide +kernel)
theorem zq_998 : Cond.methodLink RX0 78 yX0_takesOf ∈ zG := List.mem_of_getElem? (i := 998) (by decide +kernel)
theorem zq_1002 : Cond.methodLink RX0 81 yJ6_bitCount_0f7a4 ∈ zG := List.mem_of_getElem? (i := 1002) (by decide +kernel)
theorem zq_1009 : Cond.methodLink RX0 75 yX0_leavesOf ∈ zG := List.mem_of_getElem? (i := 1009) (by decide +kernel)
theorem zfd_X0_9 : zFd RX0 9 0 1 := ⟨_, rfl, by decide, zq_114⟩
theorem zfd_X0_15 : zFd RX0 15 0 2 := ⟨_, rfl, by decide, zq_115⟩
theorem zfd_X0_19 : zFd RX0 19 0 3 := ⟨_, rfl, by decide, zq_116⟩
theorem zfd_X0_22 : zFd RX0 22 0 4 := ⟨_, rfl, by decide, zq_117⟩
theorem zfd_X0_27 : zFd RX0 27 0 5 := ⟨_, rfl, by decide, zq_119⟩
theorem zfd_X0_30 : zFd RX0 30 0 8 := ⟨_, rfl, by decide, zq_120⟩
theorem zfd_X0_33 : zFd RX0 33 0 9 := ⟨_, rfl, by decide, zq_121⟩
theorem zfd_X0_36 : zFd RX0 36 0 10 := ⟨_, rfl, by decide, zq_122⟩
theorem zfd_X0_42 : zFd RX0 42 0 12 := ⟨_, rfl, by decide, zq_124⟩
theorem zfd_X0_51 : zFd RX0 51 0 0 := ⟨_, rfl, by decide, zq_275⟩
theorem zfd_X0_55 : zFd RX0 55 0 6 := ⟨_, rfl, by decide, zq_276⟩
theorem zfd_X0_58 : zFd RX0 58 0 7 := ⟨_, rfl, by decide, zq_277⟩
theorem zfd_X1_15 : zFd RX1 15 1 0 := ⟨_, rfl, by decide, zq_66⟩
theorem zfd_X1_28 : zFd RX1 28 1 3 := ⟨_, rfl, by decide, zq_266⟩
theorem zfd_X1_47 : zFd RX1 47 10 2 := ⟨_, rfl, by decide, zq_268⟩
theorem zfd_X1_51 : zFd RX1 51 10 5 := ⟨_, rfl, by decide, zq_269⟩
theorem zfd_X1_111 : zFd RX1 111 0 6 := ⟨_, rfl, by decide, zq_457⟩
theorem zfd_X1_118 : zFd RX1 118 10 4 := ⟨_, rfl, by decide, zq_497⟩
theorem zfd_X1_121 : zFd RX1 121 0 7 := ⟨_, rfl, by decide, zq_466⟩
theorem zfd_X1_124 : zFd RX1 124 0 11 := ⟨_, rfl, by decide, zq_498⟩
theorem zfd_X1_130 : zFd RX1 130 1 5 := ⟨_, rfl, by decide, zq_467⟩
theorem zfd_X1_146 : zFd RX1 146 0 8 := ⟨_, rfl, by decide, zq_473⟩
theorem zfd_X1_149 : zFd RX1 149 0 9 := ⟨_, rfl, by decide, zq_478⟩
theorem zfd_X10_31 : zFd RX10 31 10 5 := ⟨_, rfl, by decide, zq_298⟩
theorem zfd_X10_48 : zFd RX10 48 10 7 := ⟨_, rfl, by decide, zq_301⟩
theorem zfd_X10_56 : zFd RX10 56 10 4 := ⟨_, rfl, by decide, zq_302⟩
theorem zfd_X7_15 : zFd RX7 15 7 2 := ⟨_, rfl, by decide, zq_76⟩
theorem zfp_X0_51 : zFp RX0 51 0 0 .int := ⟨_, rfl, by decide, zq_275, rfl, by decide +kernel⟩
theorem zfp_X0_55 : zFp RX0 55 0 6 .int := ⟨_, rfl, by decide, zq_276, rfl, by decide +kernel⟩
theorem zfp_X0_58 : zFp RX0 58 0 7 .int := ⟨_, rfl, by decide, zq_277, rfl, by decide +kernel⟩
theorem zfp_X1_111 : zFp RX1 111 0 6 .int := ⟨_, rfl, by decide, zq_457, rfl, by decide +kernel⟩
theorem zfp_X1_121 : zFp RX1 121 0 7 .int := ⟨_, rfl, by decide, zq_466, rfl, by decide +kernel⟩
theorem zfp_X1_130 : zFp RX1 130 1 5 .int := ⟨_, rfl, by decide, zq_467, rfl, by decide +kernel⟩
theorem zq_1012 : Cond.code yX0_leavesOf cX0_leavesOf 5 (some .int) ∈ zG := List.mem_of_getElem? (i := 1012) (by decide +kernel)
theorem zq_1010 : Cond.instanceMethod yX0_leavesOf ∈ zG := List.mem_of_getElem? (i := 1010) (by decide +kernel)
theorem zq_1011 : Cond.selects RX0 yX0_leavesOf yX0_leavesOf ∈ zG := List.mem_of_getElem? (i := 1011) (by decide +kernel)
theorem zy_X0_leavesOf : zyV yX0_leavesOf cX0_leavesOf 5 (some .int) 2 := ⟨zq_1012, zq_1010, zq_1011, zq_47, ⟨by decide, by decide⟩, by decide +kernel, by decide⟩
theorem zq_1001 : Cond.code yX0_takesOf cX0_takesOf 5 (some .int) ∈ zG := List.mem_of_getElem? (i := 1001) (by decide +kernel)
theorem zq_999 : Cond.instanceMethod yX0_takesOf ∈ zG := List.mem_of_getElem? (i := 999) (by decide +kernel)
theorem zq_1000 : Cond.selects RX0 yX0_takesOf yX0_takesOf ∈ zG := List.mem_of_getElem? (i := 1000) (by decide +kernel)
theorem zy_X0_takesOf : zyV yX0_takesOf cX0_takesOf 5 (some .int) 2 := ⟨zq_1001, zq_999, zq_1000, zq_47, ⟨by decide, by decide⟩, by decide +kernel, by decide⟩
theorem zq_548 : Cond.code yX0_wordAt cX0_wordAt 3 (some .int) ∈ zG := List.mem_of_getElem? (i := 548) (by decide +kernel)
theorem zq_546 : Cond.instanceMethod yX0_wordAt ∈ zG := List.mem_of_getElem? (i := 546) (by decide +kernel)
theorem zq_547 : Cond.selects RX0 yX0_wordAt yX0_wordAt ∈ zG := List.mem_of_getElem? (i := 547) (by decide +kernel)
theorem zy_X0_wordAt : zyV yX0_wordAt cX0_wordAt 3 (some .int) 2 := ⟨zq_548, zq_546, zq_547, zq_47, ⟨by decide, by decide⟩, by decide +kernel, by decide⟩
theorem zq_443 : Cond.code yX0_wordNamed cX0_wordNamed 4 (some .int) ∈ zG := List.mem_of_getElem? (i := 443) (by decide +kernel)
theorem zq_441 : Cond.instanceMethod yX0_wordNamed ∈ zG := List.mem_of_getElem? (i := 441) (by decide +kernel)
theorem zq_442 : Cond.selects RX0 yX0_wordNamed yX0_wordNamed ∈ zG := List.mem_of_getElem? (i := 442) (by decide +kernel)
theorem zy_X0_wordNamed : zyV yX0_wordNamed cX0_wordNamed 4 (some .int) 1 := ⟨zq_443, zq_441, zq_442, zq_47, ⟨by decide, by decide⟩, by decide +kernel, by decide⟩
theorem zq_439 : Cond.code yX10_isName cX10_isName 1 (some .boolean) ∈ zG := List.mem_of_getElem? (i := 439) (by decide +kernel)
theorem zq_437 : Cond.instanceMethod yX10_isName ∈ zG := List.mem_of_getElem? (i := 437) (by decide +kernel)
theorem zq_438 : Cond.selects RX10 yX10_isName yX10_isName ∈ zG := List.mem_of_getElem? (i := 438) (by decide +kernel)
theorem zy_X10_isName : zyV yX10_isName cX10_isName 1 (some .boolean) 0 := ⟨zq_439, zq_437, zq_438, zq_16, ⟨by decide, by decide⟩, by decide +kernel, by decide⟩
theorem zq_447 : Cond.code yX10_takeEnd cX10_takeEnd 1 (some .boolean) ∈ zG := List.mem_of_getElem? (i := 447) (by decide +kernel)
theorem zq_445 : Cond.instanceMethod yX10_takeEnd ∈ zG := List.mem_of_getElem? (i := 445) (by decide +kernel)
theorem zq_446 : Cond.selects RX10 yX10_takeEnd yX10_takeEnd ∈ zG := List.mem_of_getElem? (i := 446) (by decide +kernel)
theorem zy_X10_takeEnd : zyV yX10_takeEnd cX10_takeEnd 1 (some .boolean) 0 := ⟨zq_447, zq_445, zq_446, zq_16, ⟨by decide, by decide⟩, by decide +kernel, by decide⟩
theorem zq_490 : Cond.code yX10_takeName cX10_takeName 3 (some .int) ∈ zG := List.mem_of_getElem? (i := 490) (by decide +kernel)
theorem zq_488 : Cond.instanceMethod yX10_takeName ∈ zG := List.mem_of_getElem? (i := 488) (by decide +kernel)
theorem zq_489 : Cond.selects RX10 yX10_takeName yX10_takeName ∈ zG := List.mem_of_getElem? (i := 489) (by decide +kernel)
theorem zy_X10_takeName : zyV yX10_takeName cX10_takeName 3 (some .int) 1 := ⟨zq_490, zq_488, zq_489, zq_16, ⟨by decide, by decide⟩, by decide +kernel, by decide⟩
theorem zq_461 : Cond.code yX10_takeNumber cX10_takeNumber 4 (some .int) ∈ zG := List.mem_of_getElem? (i := 461) (by decide +kernel)
theorem zq_459 : Cond.instanceMethod yX10_takeNumber ∈ zG := List.mem_of_getElem? (i := 459) (by decide +kernel)
theorem zq_460 : Cond.selects RX10 yX10_takeNumber yX10_takeNumber ∈ zG := List.mem_of_getElem? (i := 460) (by decide +kernel)
theorem zy_X10_takeNumber : zyV yX10_takeNumber cX10_takeNumber 4 (some .int) 2 := ⟨zq_461, zq_459, zq_460, zq_16, ⟨by decide, by decide⟩, by decide +kernel, by decide⟩
theorem zq_482 : Cond.code yX1_put cX1_put 2 none ∈ zG := List.mem_of_getElem? (i := 482) (by decide +kernel)
theorem zq_480 : Cond.instanceMethod yX1_put ∈ zG := List.mem_of_getElem? (i := 480) (by decide +kernel)
theorem zq_481 : Cond.selects RX1 yX1_put yX1_put ∈ zG := List.mem_of_getElem? (i := 481) (by decide +kernel)
theorem zy_X1_put : zyV yX1_put cX1_put 2 none 1 := ⟨zq_482, zq_480, zq_481, zq_20, ⟨by decide, by decide⟩, by decide +kernel, by decide⟩
theorem zq_559 : Cond.code yX7_value cX7_value 8 (some .int) ∈ zG := List.mem_of_getElem? (i := 559) (by decide +kernel)
theorem zq_557 : Cond.instanceMethod yX7_value ∈ zG := List.mem_of_getElem? (i := 557) (by decide +kernel)
theorem zq_558 : Cond.selects RX7 yX7_value yX7_value ∈ zG := List.mem_of_getElem? (i := 558) (by decide +kernel)
theorem zy_X7_value : zyV yX7_value cX7_value 8 (some .int) 4 := ⟨zq_559, zq_557, zq_558, zq_69, ⟨by decide, by decide⟩, by decide +kernel, by decide⟩
theorem zq_1005 : Cond.code yJ6_bitCount_0f7a4 cJ6_bitCount_0f7a4 1 (some .int) ∈ zG := List.mem_of_getElem? (i := 1005) (by decide +kernel)
theorem zq_1003 : Cond.static yJ6_bitCount_0f7a4 ∈ zG := List.mem_of_getElem? (i := 1003) (by decide +kernel)
theorem zq_1004 : Cond.initialized RJ6 ∈ zG := List.mem_of_getElem? (i := 1004) (by decide +kernel)
theorem zy_J6_bitCount_0f7a4 : zyS yJ6_bitCount_0f7a4 cJ6_bitCount_0f7a4 1 (some .int) 1 := ⟨zq_1005, zq_1003, zq_1004, ⟨by decide, by decide⟩, by decide +kernel, by decide⟩
theorem zq_555 : Cond.code yX0_isOfKind cX0_isOfKind 3 (some .boolean) ∈ zG := List.mem_of_getElem? (i := 555) (by decide +kernel)
theorem zq_554 : Cond.static yX0_isOfKind ∈ zG := List.mem_of_getElem? (i := 554) (by decide +kernel)
theorem zy_X0_isOfKind : zyS yX0_isOfKind cX0_isOfKind 3 (some .boolean) 3 := ⟨zq_555, zq_554, zq_47, ⟨by decide, by decide⟩, by decide +kernel, by decide⟩
theorem zq_796 : Cond.code yX0_repeats cX0_repeats 5 (some .boolean) ∈ zG := List.mem_of_getElem? (i := 796) (by decide +kernel)
theorem zq_795 : Cond.static yX0_repeats ∈ zG := List.mem_of_getElem? (i := 795) (by decide +kernel)
theorem zy_X0_repeats : zyS yX0_repeats cX0_repeats 5 (some .boolean) 4 := ⟨zq_796, zq_795, zq_47, ⟨by decide, by decide⟩, by decide +kernel, by decide⟩
theorem zq_562 : Cond.code yX7_fact cX7_fact 5 (some .int) ∈ zG := List.mem_of_getElem? (i := 562) (by decide +kernel)
theorem zq_561 : Cond.static yX7_fact ∈ zG := List.mem_of_getElem? (i := 561) (by decide +kernel)
theorem zy_X7_fact : zyS yX7_fact cX7_fact 5 (some .int) 5 := ⟨zq_562, zq_561, zq_69, ⟨by decide, by decide⟩, by decide +kernel, by decide⟩
theorem zq_565 : Cond.code yX7_join cX7_join 3 (some .int) ∈ zG := List.mem_of_getElem? (i := 565) (by decide +kernel)
theorem zq_564 : Cond.static yX7_join ∈ zG := List.mem_of_getElem? (i := 564) (by decide +kernel)
theorem zy_X7_join : zyS yX7_join cX7_join 3 (some .int) 3 := ⟨zq_565, zq_564, zq_69, ⟨by decide, by decide⟩, by decide +kernel, by decide⟩
theorem zo_0_1 : zoffok 0 1 21 4 = true := by decide +kernel
theorem zo_0_2 : zoffok 0 2 20 4 = true := by decide +kernel
theorem zo_0_3 : zoffok 0 3 20 4 = true := by decide +kernel
theorem zo_0_4 : zoffok 0 4 20 4 = true := by decide +kernel
theorem zo_0_5 : zoffok 0 5 24 4 = true := by decide +kernel
theorem zo_0_10 : zoffok 0 10 20 8 = true := by decide +kernel
theorem zo_0_11 : zoffok 0 11 24 8 = true := by decide +kernel
theorem zo_0_20 : zoffok 0 20 24 8 = true := by decide +kernel
theorem zo_0_29 : zoffok 0 29 20 8 = true := by decide +kernel
theorem zo_0_30 : zoffok 0 30 20 8 = true := by decide +kernel
theorem zr_0_5 : zrowok 0 5 4 9 = true := by decide +kernel
theorem zr_0_11 : zrowok 0 11 8 60 = true := by decide +kernel
theorem zr_0_20 : zrowok 0 20 8 4 = true := by decide +kernel
section ZM
variable {p : Program} {l : Launch} {e : Env} {R : Room} {s : State} {m : MethodId} {args : Array Value} {below : List Frame} {meth : Method} {c : Code} {cells slots : Nat} {Q : State → Prop} {D : va_G} {dA : Nat → ClassId} {ad ad0 : Nat → Nat} {al al0 : Nat → Prop}
/-! X0_clear -/
def fX0_clear (a0 : Nat) (w : zW) (k : zW → Prop) : Prop :=
  ∀ w1 : zW, w1 = sI w a0 0 (0 : Int32) →
  ∀ w2 : zW, w2 = sI w1 a0 6 (0 : Int32) →
  ∀ w3 : zW, w3 = sI w2 a0 7 (0 : Int32) →
  fJ7_fill_53178 (a0 + 3) (0 : Int32) w3 (fun w4 =>
  fJ7_fill_53178 (a0 + 4) (0 : Int32) w4 (fun w5 =>
  fJ7_fill_53178 (a0 + 29) (-1 : Int32) w5 (fun w6 =>
  fJ7_fill_53178 (a0 + 30) (0 : Int32) w6 (fun w7 =>
  k w7))))
set_option maxHeartbeats 4000000 in
set_option maxRecDepth 100000 in
theorem mX0_clear {l : Launch} {D : va_G} {dA : Nat → ClassId} {ad : Nat → Nat} {al : Nat → Prop} {w : zW} {k : zW → Prop} {a0 : Nat} (ha0 : al a0 ∧ zsh a0 = 0)  (hf : fX0_clear a0 w k) : zmetV l yX0_clear cX0_clear 1 none 1 [.ref (ad a0)] D dA true ad al w k := by
  refine zmetV_of (by decide) (Nat.le_of_ble_eq_true rfl) ?_
  intro p e R s m below meth c Q H ls args locs cells slots X hr hQ hR hl
  have hx := X.1
  have hb := X.2.1
  have hml := X.2.2.1
  have hown := X.2.2.2.1
  have hts := X.2.2.2.2.1
  unfold fX0_clear at hf
  have hl : lv_has ls 1 [(0, .ref (ad a0))] := hl
  refine lv_aload_n hx hb dX0_clear_0 rfl (lv_at hl 0 rfl) ?_
  refine lv_iconst (v := (0 : Int32)) hx hb dX0_clear_1 (by decide) ?_
  refine z_putI X hR ha0.1 ha0.2 (by decide) zfp_X0_51 rfl dX0_clear_2 (fun H locs hR => ?_)
  obtain ⟨w1, hw1⟩ : ∃ z : zW, z = sI w a0 0 (0 : Int32) := ⟨_, rfl⟩
  rw [← hw1] at hR
  replace hf := hf w1 hw1
  refine lv_aload_n hx hb dX0_clear_5 rfl (lv_at hl 0 rfl) ?_
  refine lv_iconst (v := (0 : Int32)) hx hb dX0_clear_6 (by decide) ?_
  refine z_putI X hR ha0.1 ha0.2 (by decide) zfp_X0_55 rfl dX0_clear_7 (fun H locs hR => ?_)
  obtain ⟨w2, hw2⟩ : ∃ z : zW, z = sI w1 a0 6 (0 : Int32) := ⟨_, rfl⟩
  rw [← hw2] at hR
  replace hf := hf w2 hw2
  refine lv_aload_n hx hb dX0_clear_10 rfl (lv_at hl 0 rfl) ?_
  refine lv_iconst (v := (0 : Int32)) hx hb dX0_clear_11 (by decide) ?_
  refine z_putI X hR ha0.1 ha0.2 (by decide) zfp_X0_58 rfl dX0_clear_12 (fun H locs hR => ?_)
  obtain ⟨w3, hw3⟩ : ∃ z : zW, z = sI w2 a0 7 (0 : Int32) := ⟨_, rfl⟩
  rw [← hw3] at hR
  replace hf := hf w3 hw3
  refine lv_aload_n hx hb dX0_clear_15 rfl (lv_at hl 0 rfl) ?_
  refine z_getS X hR ha0.1 ha0.2 (by decide) zfd_X0_19 rfl (r := a0 + 3) (zst_0 ha0.2 3 rfl) dX0_clear_16 ?_
  refine lv_iconst (v := (0 : Int32)) hx hb dX0_clear_19 (by decide) ?_
  refine z_callSV (fr1 := 0) (As := [.ref (ad (a0 + 3)), .int (0 : Int32)]) (rest := []) X (hr.le (by decide)) hR zy_J7_fill_53178 zq_125 (mJ7_fill_53178 ⟨(zoff hR ha0.2 zo_0_3).1, (zoff hR ha0.2 zo_0_3).2.1⟩ hf) rfl hl (Nat.le_of_ble_eq_true rfl) dX0_clear_20 rfl (fun w4 H locs hf hR => ?_)
  refine lv_aload_n hx hb dX0_clear_23 rfl (lv_at hl 0 rfl) ?_
  refine z_getS X hR ha0.1 ha0.2 (by decide) zfd_X0_22 rfl (r := a0 + 4) (zst_0 ha0.2 4 rfl) dX0_clear_24 ?_
  refine lv_iconst (v := (0 : Int32)) hx hb dX0_clear_27 (by decide) ?_
  refine z_callSV (fr1 := 0) (As := [.ref (ad (a0 + 4)), .int (0 : Int32)]) (rest := []) X (hr.le (by decide)) hR zy_J7_fill_53178 zq_125 (mJ7_fill_53178 ⟨(zoff hR ha0.2 zo_0_4).1, (zoff hR ha0.2 zo_0_4).2.1⟩ hf) rfl hl (Nat.le_of_ble_eq_true rfl) dX0_clear_28 rfl (fun w5 H locs hf hR => ?_)
  refine lv_aload_n hx hb dX0_clear_31 rfl (lv_at hl 0 rfl) ?_
  refine z_getS X hR ha0.1 ha0.2 (by decide) zfd_X0_39 rfl (r := a0 + 29) (zst_0 ha0.2 11 rfl) dX0_clear_32 ?_
  refine lv_iconst (v := (-1 : Int32)) hx hb dX0_clear_35 (by decide) ?_
  refine z_callSV (fr1 := 0) (As := [.ref (ad (a0 + 29)), .int (-1 : Int32)]) (rest := []) X (hr.le (by decide)) hR zy_J7_fill_53178 zq_125 (mJ7_fill_53178 ⟨(zoff hR ha0.2 zo_0_29).1, (zoff hR ha0.2 zo_0_29).2.1⟩ hf) rfl hl (Nat.le_of_ble_eq_true rfl) dX0_clear_36 rfl (fun w6 H locs hf hR => ?_)
  refine lv_aload_n hx hb dX0_clear_39 rfl (lv_at hl 0 rfl) ?_
  refine z_getS X hR ha0.1 ha0.2 (by decide) zfd_X0_42 rfl (r := a0 + 30) (zst_0 ha0.2 12 rfl) dX0_clear_40 ?_
  refine lv_iconst (v := (0 : Int32)) hx hb dX0_clear_43 (by decide) ?_
  refine z_callSV (fr1 := 0) (As := [.ref (ad (a0 + 30)), .int (0 : Int32)]) (rest := []) X (hr.le (by decide)) hR zy_J7_fill_53178 zq_125 (mJ7_fill_53178 ⟨(zoff hR ha0.2 zo_0_30).1, (zoff hR ha0.2 zo_0_30).2.1⟩ hf) rfl hl (Nat.le_of_ble_eq_true rfl) dX0_clear_44 rfl (fun w7 H locs hf hR => ?_)
  exact hQ _ _ _ _ _ hf hR dX0_clear_47
/-! X0_wordNamed -/
def fX0_wordNamed_L2 (a0 : Nat) (k : Int32 → zW → Prop) : Nat → Int64 → Int32 → zW → Prop
  | 0 => fun _ _ _ => False
  | n + 1 => fun x1 x3 w =>
    (((gI w a0 0) ≤ x3 →
      k (-1 : Int32) w) ∧
     (¬ (gI w a0 0) ≤ x3 →
      (((4 : Int32) ≤ x3 →
        k (-1 : Int32) w) ∧
       (¬ (4 : Int32) ≤ x3 →
        vp_in x3 4 ∧ 
        ((¬ (lg_cmp (gL w (a0 + 1) x3.toNatClampNeg) x1) = 0 →
          fX0_wordNamed_L2 a0 k n x1 (x3 + (1 : Int32)) w) ∧
         ((lg_cmp (gL w (a0 + 1) x3.toNatClampNeg) x1) = 0 →
          k x3 w))))))
set_option maxHeartbeats 4000000 in
set_option maxRecDepth 100000 in
theorem mX0_wordNamed_L2 {k : Int32 → zW → Prop} {a0 : Nat} (X : zCx p s m args meth c cX0_wordNamed 4 RX0 (some .int)) (hr : zRm R 0 cells slots) (hQ : zRetI p l e R s m args below meth c cells slots Q D dA true ad0 al0 ad al cX0_wordNamed k) (ha0 : al a0 ∧ zsh a0 = 0)  : ∀ (n : Nat) (x1 : Int64) (x3 : Int32) (w : zW) (H : Heap) (locs : List Loc) (ls : Array Slot), fX0_wordNamed_L2 a0 k n x1 x3 w → zSt D dA true ad0 al0 ad al w s H locs → lv_has ls 4 [(0, .ref (ad a0)), (1, .long x1), (3, .int x3)] → W p l e R s m args below meth c H locs cells slots Q (F0 m 2 ls []) := by
  intro n
  induction n with
  | zero => exact fun _ _ _ _ _ _ hf => hf.elim
  | succ n ih =>
    intro x1 x3 w H locs ls hf hR hl
    have hx := X.1
    have hb := X.2.1
    have hml := X.2.2.1
    have hown := X.2.2.2.1
    have hts := X.2.2.2.2.1
    rw [fX0_wordNamed_L2] at hf
    refine lv_iload_n hx hb dX0_wordNamed_2 rfl (lv_at hl 2 rfl) ?_
    refine lv_aload_n hx hb dX0_wordNamed_3 rfl (lv_at hl 0 rfl) ?_
    refine z_getI X hR ha0.1 ha0.2 (by decide) zfd_X0_51 rfl dX0_wordNamed_4 ?_
    refine lv_icmp_ge (tgt := 34) hx hb dX0_wordNamed_7 (by decide) (fun c1 => ?_) (fun c1 => ?_)
    · replace hf := hf.1 c1
      refine lv_iconst (v := (-1 : Int32)) hx hb dX0_wordNamed_34 (by decide) ?_
      exact hQ _ _ _ _ _ _ hf hR dX0_wordNamed_35
    · replace hf := hf.2 c1
      refine lv_iload_n hx hb dX0_wordNamed_10 rfl (lv_at hl 2 rfl) ?_
      refine lv_iconst (v := (4 : Int32)) hx hb dX0_wordNamed_11 (by decide) ?_
      refine lv_icmp_ge (tgt := 34) hx hb dX0_wordNamed_12 (by decide) (fun c2 => ?_) (fun c2 => ?_)
      · replace hf := hf.1 c2
        refine lv_iconst (v := (-1 : Int32)) hx hb dX0_wordNamed_34 (by decide) ?_
        exact hQ _ _ _ _ _ _ hf hR dX0_wordNamed_35
      · replace hf := hf.2 c2
        refine lv_aload_n hx hb dX0_wordNamed_15 rfl (lv_at hl 0 rfl) ?_
        refine z_getS X hR ha0.1 ha0.2 (by decide) zfd_X0_9 rfl (r := a0 + 1) (zst_0 ha0.2 1 rfl) dX0_wordNamed_16 ?_
        refine lv_iload_n hx hb dX0_wordNamed_19 rfl (lv_at hl 2 rfl) ?_
        obtain ⟨hb3, hf⟩ := hf
        refine z_lald X hR (zoff hR ha0.2 zo_0_1).1 (zoff hR ha0.2 zo_0_1).2.1 (zoff hR ha0.2 zo_0_1).2.2 hb3 dX0_wordNamed_20 ?_
        refine lv_lload_n hx hb dX0_wordNamed_21 rfl (lv_at hl 1 rfl) ?_
        refine W.lcmp hx hb dX0_wordNamed_22 ?_
        refine lv_if_ne (tgt := 28) hx hb dX0_wordNamed_23 (by decide) (fun c4 => ?_) (fun c4 => ?_)
        · replace hf := hf.1 c4
          refine lv_iinc (v := x3 + (1 : Int32)) (lv' := [(3, .int (x3 + (1 : Int32))), (0, .ref (ad a0)), (1, .long x1)]) hx hb dX0_wordNamed_28 hl (k := 2) rfl rfl (by decide) rfl (fun ls hl => ?_)
          refine lv_goto (tgt := 2) hx hb dX0_wordNamed_31 (by decide) ?_
          exact ih x1 (x3 + (1 : Int32)) w _ _ _ hf hR (lv_sub hl [1, 2, 0] rfl)
        · replace hf := hf.2 c4
          refine lv_iload_n hx hb dX0_wordNamed_26 rfl (lv_at hl 2 rfl) ?_
          exact hQ _ _ _ _ _ _ hf hR dX0_wordNamed_27
def fX0_wordNamed (a0 : Nat) (x1 : Int64) (w : zW) (k : Int32 → zW → Prop) : Prop :=
  ∃ n9, fX0_wordNamed_L2 a0 k n9 x1 (0 : Int32) w
set_option maxHeartbeats 4000000 in
set_option maxRecDepth 100000 in
theorem mX0_wordNamed {l : Launch} {D : va_G} {dA : Nat → ClassId} {ad : Nat → Nat} {al : Nat → Prop} {w : zW} {k : Int32 → zW → Prop} {a0 : Nat} {x1 : Int64} (ha0 : al a0 ∧ zsh a0 = 0)  (hf : fX0_wordNamed a0 x1 w k) : zmetI l yX0_wordNamed cX0_wordNamed 4 (some .int) 0 [.ref (ad a0), .long x1] D dA true ad al w k := by
  refine zmetI_of (by decide) (Nat.le_of_ble_eq_true rfl) ?_
  intro p e R s m below meth c Q H ls args locs cells slots X hr hQ hR hl
  have hx := X.1
  have hb := X.2.1
  have hml := X.2.2.1
  have hown := X.2.2.2.1
  have hts := X.2.2.2.2.1
  unfold fX0_wordNamed at hf
  have hl : lv_has ls 4 [(0, .ref (ad a0)), (1, .long x1)] := hl
  refine lv_iconst (v := (0 : Int32)) hx hb dX0_wordNamed_0 (by decide) ?_
  refine lv_istore_n (lv' := [(3, .int (0 : Int32)), (0, .ref (ad a0)), (1, .long x1)]) hx hb dX0_wordNamed_1 rfl hl (by decide) rfl (fun ls hl => ?_)
  obtain ⟨n9, hf⟩ := hf
  exact mX0_wordNamed_L2 X hr hQ ha0  n9 x1 (0 : Int32) w _ _ _ hf hR (lv_sub hl [1, 2, 0] rfl)
/-! X0_wordAt -/
def fX0_wordAt (a0 : Nat) (x1 : Int32) (x2 : Int32) (w : zW) (k : Int32 → zW → Prop) : Prop :=
  ((x2 < 0 →
    k (-1 : Int32) w) ∧
   (¬ x2 < 0 →
    vp_in x1 8 ∧ 
    (((gI w (a0 + 10) x1.toNatClampNeg) ≤ x2 →
      k (-1 : Int32) w) ∧
     (¬ (gI w (a0 + 10) x1.toNatClampNeg) ≤ x2 →
      (((60 : Int32) ≤ x2 →
        k (-1 : Int32) w) ∧
       (¬ (60 : Int32) ≤ x2 →
        vp_in x2 60 ∧ 
        k (gI w (a0 + 11 + 1 + x1.toNatClampNeg) x2.toNatClampNeg) w))))))
set_option maxHeartbeats 4000000 in
set_option maxRecDepth 100000 in
theorem mX0_wordAt {l : Launch} {D : va_G} {dA : Nat → ClassId} {ad : Nat → Nat} {al : Nat → Prop} {w : zW} {k : Int32 → zW → Prop} {a0 : Nat} {x1 : Int32} {x2 : Int32} (ha0 : al a0 ∧ zsh a0 = 0)  (hf : fX0_wordAt a0 x1 x2 w k) : zmetI l yX0_wordAt cX0_wordAt 3 (some .int) 0 [.ref (ad a0), .int x1, .int x2] D dA true ad al w k := by
  refine zmetI_of (by decide) (Nat.le_of_ble_eq_true rfl) ?_
  intro p e R s m below meth c Q H ls args locs cells slots X hr hQ hR hl
  have hx := X.1
  have hb := X.2.1
  have hml := X.2.2.1
  have hown := X.2.2.2.1
  have hts := X.2.2.2.2.1
  unfold fX0_wordAt at hf
  have hl : lv_has ls 3 [(0, .ref (ad a0)), (1, .int x1), (2, .int x2)] := hl
  refine lv_iload_n hx hb dX0_wordAt_0 rfl (lv_at hl 2 rfl) ?_
  refine lv_if_lt (tgt := 31) hx hb dX0_wordAt_1 (by decide) (fun c1 => ?_) (fun c1 => ?_)
  · replace hf := hf.1 c1
    refine lv_iconst (v := (-1 : Int32)) hx hb dX0_wordAt_31 (by decide) ?_
    exact hQ _ _ _ _ _ _ hf hR dX0_wordAt_32
  · replace hf := hf.2 c1
    refine lv_iload_n hx hb dX0_wordAt_4 rfl (lv_at hl 2 rfl) ?_
    refine lv_aload_n hx hb dX0_wordAt_5 rfl (lv_at hl 0 rfl) ?_
    refine z_getS X hR ha0.1 ha0.2 (by decide) zfd_X0_30 rfl (r := a0 + 10) (zst_0 ha0.2 8 rfl) dX0_wordAt_6 ?_
    refine lv_iload_n hx hb dX0_wordAt_9 rfl (lv_at hl 1 rfl) ?_
    obtain ⟨hb2, hf⟩ := hf
    refine z_iald X hR (zoff hR ha0.2 zo_0_10).1 (zoff hR ha0.2 zo_0_10).2.1 (zoff hR ha0.2 zo_0_10).2.2 hb2 dX0_wordAt_10 ?_
    refine lv_icmp_ge (tgt := 31) hx hb dX0_wordAt_11 (by decide) (fun c3 => ?_) (fun c3 => ?_)
    · replace hf := hf.1 c3
      refine lv_iconst (v := (-1 : Int32)) hx hb dX0_wordAt_31 (by decide) ?_
      exact hQ _ _ _ _ _ _ hf hR dX0_wordAt_32
    · replace hf := hf.2 c3
      refine lv_iload_n hx hb dX0_wordAt_14 rfl (lv_at hl 2 rfl) ?_
      refine lv_bipush (v := (60 : Int32)) hx hb dX0_wordAt_15 (by decide) ?_
      refine lv_icmp_ge (tgt := 31) hx hb dX0_wordAt_17 (by decide) (fun c4 => ?_) (fun c4 => ?_)
      · replace hf := hf.1 c4
        refine lv_iconst (v := (-1 : Int32)) hx hb dX0_wordAt_31 (by decide) ?_
        exact hQ _ _ _ _ _ _ hf hR dX0_wordAt_32
      · replace hf := hf.2 c4
        refine lv_aload_n hx hb dX0_wordAt_20 rfl (lv_at hl 0 rfl) ?_
        refine z_getS X hR ha0.1 ha0.2 (by decide) zfd_X0_33 rfl (r := a0 + 11) (zst_0 ha0.2 9 rfl) dX0_wordAt_21 ?_
        refine lv_iload_n hx hb dX0_wordAt_24 rfl (lv_at hl 1 rfl) ?_
        refine z_aald X hR (zoff hR ha0.2 zo_0_11).1 (zoff hR ha0.2 zo_0_11).2.1 (zoff hR ha0.2 zo_0_11).2.2 hb2 dX0_wordAt_25 ?_
        refine lv_iload_n hx hb dX0_wordAt_26 rfl (lv_at hl 2 rfl) ?_
        obtain ⟨hb5, hf⟩ := hf
        refine z_iald X hR (zrow hR ha0.2 zr_0_11 hb2).1 (zrow hR ha0.2 zr_0_11 hb2).2.1 (zrow hR ha0.2 zr_0_11 hb2).2.2 hb5 dX0_wordAt_27 ?_
        refine lv_goto (tgt := 32) hx hb dX0_wordAt_28 (by decide) ?_
        exact hQ _ _ _ _ _ _ hf hR dX0_wordAt_32
/-! X0_countUses -/
def fX0_countUses_L28 (a0 : Nat) (k : zW → Prop) (g2 : Int32 → zW → Prop) : Nat → Int32 → Int32 → zW → Prop
  | 0 => fun _ _ _ => False
  | n + 1 => fun x1 x2 w =>
    vp_in x1 8 ∧ 
    (((gI w (a0 + 10) x1.toNatClampNeg) ≤ x2 →
      g2 (x1 + (1 : Int32)) w) ∧
     (¬ (gI w (a0 + 10) x1.toNatClampNeg) ≤ x2 →
      fX0_wordAt a0 x1 x2 w (fun r7 w7 =>
      ((r7 < 0 →
        fX0_countUses_L28 a0 k g2 n x1 (x2 + (1 : Int32)) w7) ∧
       (¬ r7 < 0 →
        (((4 : Int32) ≤ r7 →
          fX0_countUses_L28 a0 k g2 n x1 (x2 + (1 : Int32)) w7) ∧
         (¬ (4 : Int32) ≤ r7 →
          vp_in r7 4 ∧ 
          ∀ w11 : zW, w11 = sI w7 (a0 + 20 + 1 + x1.toNatClampNeg) r7.toNatClampNeg ((gI w7 (a0 + 20 + 1 + x1.toNatClampNeg) r7.toNatClampNeg) + (1 : Int32)) →
          ∀ w12 : zW, w12 = sI w11 (a0 + 3) r7.toNatClampNeg ((gI w11 (a0 + 3) r7.toNatClampNeg) + (1 : Int32)) →
          fX0_countUses_L28 a0 k g2 n x1 (x2 + (1 : Int32)) w12)))))))
set_option maxHeartbeats 4000000 in
set_option maxRecDepth 100000 in
theorem mX0_countUses_L28 {k : zW → Prop} {g2 : Int32 → zW → Prop} {a0 : Nat} (X : zCx p s m args meth c cX0_countUses 4 RX0 none) (hr : zRm R 1 cells slots) (hQ : zRetV p l e R s m args below meth c cells slots Q D dA true ad0 al0 ad al cX0_countUses k) (ha0 : al a0 ∧ zsh a0 = 0) (hg2 : ∀ (x1 : Int32) (w : zW) (H : Heap) (locs : List Loc) (ls : Array Slot), g2 x1 w → zSt D dA true ad0 al0 ad al w s H locs → lv_has ls 4 [(0, .ref (ad a0)), (1, .int x1)] → W p l e R s m args below meth c H locs cells slots Q (F0 m 2 ls [])) : ∀ (n : Nat) (x1 : Int32) (x2 : Int32) (w : zW) (H : Heap) (locs : List Loc) (ls : Array Slot), fX0_countUses_L28 a0 k g2 n x1 x2 w → zSt D dA true ad0 al0 ad al w s H locs → lv_has ls 4 [(0, .ref (ad a0)), (1, .int x1), (2, .int x2)] → W p l e R s m args below meth c H locs cells slots Q (F0 m 28 ls []) := by
  intro n
  induction n with
  | zero => exact fun _ _ _ _ _ _ hf => hf.elim
  | succ n ih =>
    intro x1 x2 w H locs ls hf hR hl
    have hx := X.1
    have hb := X.2.1
    have hml := X.2.2.1
    have hown := X.2.2.2.1
    have hts := X.2.2.2.2.1
    rw [fX0_countUses_L28] at hf
    refine lv_iload_n hx hb dX0_countUses_28 rfl (lv_at hl 2 rfl) ?_
    refine lv_aload_n hx hb dX0_countUses_29 rfl (lv_at hl 0 rfl) ?_
    refine z_getS X hR ha0.1 ha0.2 (by decide) zfd_X0_30 rfl (r := a0 + 10) (zst_0 ha0.2 8 rfl) dX0_countUses_30 ?_
    refine lv_iload_n hx hb dX0_countUses_33 rfl (lv_at hl 1 rfl) ?_
    obtain ⟨hb5, hf⟩ := hf
    refine z_iald X hR (zoff hR ha0.2 zo_0_10).1 (zoff hR ha0.2 zo_0_10).2.1 (zoff hR ha0.2 zo_0_10).2.2 hb5 dX0_countUses_34 ?_
    refine lv_icmp_ge (tgt := 82) hx hb dX0_countUses_35 (by decide) (fun c6 => ?_) (fun c6 => ?_)
    · replace hf := hf.1 c6
      refine lv_iinc (v := x1 + (1 : Int32)) (lv' := [(1, .int (x1 + (1 : Int32))), (0, .ref (ad a0)), (2, .int x2)]) hx hb dX0_countUses_82 hl (k := 1) rfl rfl (by decide) rfl (fun ls hl => ?_)
      refine lv_goto (tgt := 2) hx hb dX0_countUses_85 (by decide) ?_
      exact hg2 (x1 + (1 : Int32)) w _ _ _ hf hR (lv_sub hl [1, 0] rfl)
    · replace hf := hf.2 c6
      refine lv_aload_n hx hb dX0_countUses_38 rfl (lv_at hl 0 rfl) ?_
      refine lv_iload_n hx hb dX0_countUses_39 rfl (lv_at hl 1 rfl) ?_
      refine lv_iload_n hx hb dX0_countUses_40 rfl (lv_at hl 2 rfl) ?_
      refine z_callVI (fr1 := 0) (b := a0) (As := [.int x1, .int x2]) (rest := []) X (hr.le (by decide)) hR zy_X0_wordAt zq_545 ha0.1 (by rw [ha0.2]; rfl) rfl (mX0_wordAt ⟨ha0.1, ha0.2⟩ hf) rfl hl (Nat.le_of_ble_eq_true rfl) dX0_countUses_41 rfl (fun r7 w7 H locs hf hR => ?_)
      refine lv_istore_n (lv' := [(3, .int r7), (0, .ref (ad a0)), (1, .int x1), (2, .int x2)]) hx hb dX0_countUses_44 rfl hl (by decide) rfl (fun ls hl => ?_)
      refine lv_iload_n hx hb dX0_countUses_45 rfl (lv_at hl 0 rfl) ?_
      refine lv_if_lt (tgt := 76) hx hb dX0_countUses_46 (by decide) (fun c8 => ?_) (fun c8 => ?_)
      · replace hf := hf.1 c8
        refine lv_iinc (v := x2 + (1 : Int32)) (lv' := [(2, .int (x2 + (1 : Int32))), (3, .int r7), (0, .ref (ad a0)), (1, .int x1)]) hx hb dX0_countUses_76 hl (k := 3) rfl rfl (by decide) rfl (fun ls hl => ?_)
        refine lv_goto (tgt := 28) hx hb dX0_countUses_79 (by decide) ?_
        exact ih x1 (x2 + (1 : Int32)) w7 _ _ _ hf hR (lv_sub hl [2, 3, 0] rfl)
      · replace hf := hf.2 c8
        refine lv_iload_n hx hb dX0_countUses_49 rfl (lv_at hl 0 rfl) ?_
        refine lv_iconst (v := (4 : Int32)) hx hb dX0_countUses_50 (by decide) ?_
        refine lv_icmp_ge (tgt := 76) hx hb dX0_countUses_51 (by decide) (fun c9 => ?_) (fun c9 => ?_)
        · replace hf := hf.1 c9
          refine lv_iinc (v := x2 + (1 : Int32)) (lv' := [(2, .int (x2 + (1 : Int32))), (3, .int r7), (0, .ref (ad a0)), (1, .int x1)]) hx hb dX0_countUses_76 hl (k := 3) rfl rfl (by decide) rfl (fun ls hl => ?_)
          refine lv_goto (tgt := 28) hx hb dX0_countUses_79 (by decide) ?_
          exact ih x1 (x2 + (1 : Int32)) w7 _ _ _ hf hR (lv_sub hl [2, 3, 0] rfl)
        · replace hf := hf.2 c9
          refine lv_aload_n hx hb dX0_countUses_54 rfl (lv_at hl 1 rfl) ?_
          refine z_getS X hR ha0.1 ha0.2 (by decide) zfd_X0_36 rfl (r := a0 + 20) (zst_0 ha0.2 10 rfl) dX0_countUses_55 ?_
          refine lv_iload_n hx hb dX0_countUses_58 rfl (lv_at hl 2 rfl) ?_
          refine z_aald X hR (zoff hR ha0.2 zo_0_20).1 (zoff hR ha0.2 zo_0_20).2.1 (zoff hR ha0.2 zo_0_20).2.2 hb5 dX0_countUses_59 ?_
          refine lv_iload_n hx hb dX0_countUses_60 rfl (lv_at hl 0 rfl) ?_
          refine lv_dup2_11 hx hb dX0_countUses_61 rfl rfl ?_
          obtain ⟨hb10, hf⟩ := hf
          refine z_iald X hR (zrow hR ha0.2 zr_0_20 hb5).1 (zrow hR ha0.2 zr_0_20 hb5).2.1 (zrow hR ha0.2 zr_0_20 hb5).2.2 hb10 dX0_countUses_62 ?_
          refine lv_iconst (v := (1 : Int32)) hx hb dX0_countUses_63 (by decide) ?_
          refine lv_iadd hx hb dX0_countUses_64 ?_
          refine z_iast X hR (zrow hR ha0.2 zr_0_20 hb5).1 (zrow hR ha0.2 zr_0_20 hb5).2.1 (zrow hR ha0.2 zr_0_20 hb5).2.2 hb10 dX0_countUses_65 (fun H locs hR => ?_)
          obtain ⟨w11, hw11⟩ : ∃ z : zW, z = sI w7 (a0 + 20 + 1 + x1.toNatClampNeg) r7.toNatClampNeg ((gI w7 (a0 + 20 + 1 + x1.toNatClampNeg) r7.toNatClampNeg) + (1 : Int32)) := ⟨_, rfl⟩
          rw [← hw11] at hR
          replace hf := hf w11 hw11
          refine lv_aload_n hx hb dX0_countUses_66 rfl (lv_at hl 1 rfl) ?_
          refine z_getS X hR ha0.1 ha0.2 (by decide) zfd_X0_19 rfl (r := a0 + 3) (zst_0 ha0.2 3 rfl) dX0_countUses_67 ?_
          refine lv_iload_n hx hb dX0_countUses_70 rfl (lv_at hl 0 rfl) ?_
          refine lv_dup2_11 hx hb dX0_countUses_71 rfl rfl ?_
          refine z_iald X hR (zoff hR ha0.2 zo_0_3).1 (zoff hR ha0.2 zo_0_3).2.1 (zoff hR ha0.2 zo_0_3).2.2 hb10 dX0_countUses_72 ?_
          refine lv_iconst (v := (1 : Int32)) hx hb dX0_countUses_73 (by decide) ?_
          refine lv_iadd hx hb dX0_countUses_74 ?_
          refine z_iast X hR (zoff hR ha0.2 zo_0_3).1 (zoff hR ha0.2 zo_0_3).2.1 (zoff hR ha0.2 zo_0_3).2.2 hb10 dX0_countUses_75 (fun H locs hR => ?_)
          obtain ⟨w12, hw12⟩ : ∃ z : zW, z = sI w11 (a0 + 3) r7.toNatClampNeg ((gI w11 (a0 + 3) r7.toNatClampNeg) + (1 : Int32)) := ⟨_, rfl⟩
          rw [← hw12] at hR
          replace hf := hf w12 hw12
          refine lv_iinc (v := x2 + (1 : Int32)) (lv' := [(2, .int (x2 + (1 : Int32))), (3, .int r7), (0, .ref (ad a0)), (1, .int x1)]) hx hb dX0_countUses_76 hl (k := 3) rfl rfl (by decide) rfl (fun ls hl => ?_)
          refine lv_goto (tgt := 28) hx hb dX0_countUses_79 (by decide) ?_
          exact ih x1 (x2 + (1 : Int32)) w12 _ _ _ hf hR (lv_sub hl [2, 3, 0] rfl)
def fX0_countUses_L2 (a0 : Nat) (k : zW → Prop) : Nat → Int32 → zW → Prop
  | 0 => fun _ _ => False
  | n + 1 => fun x1 w =>
    (((gI w a0 7) ≤ x1 →
      k w) ∧
     (¬ (gI w a0 7) ≤ x1 →
      (((8 : Int32) ≤ x1 →
        k w) ∧
       (¬ (8 : Int32) ≤ x1 →
        vp_in x1 8 ∧ 
        fJ7_fill_53178 (a0 + 20 + 1 + x1.toNatClampNeg) (0 : Int32) w (fun w4 =>
        ∃ n9, fX0_countUses_L28 a0 k (fX0_countUses_L2 a0 k n) n9 x1 (0 : Int32) w4)))))
set_option maxHeartbeats 4000000 in
set_option maxRecDepth 100000 in
theorem mX0_countUses_L2 {k : zW → Prop} {a0 : Nat} (X : zCx p s m args meth c cX0_countUses 4 RX0 none) (hr : zRm R 1 cells slots) (hQ : zRetV p l e R s m args below meth c cells slots Q D dA true ad0 al0 ad al cX0_countUses k) (ha0 : al a0 ∧ zsh a0 = 0)  : ∀ (n : Nat) (x1 : Int32) (w : zW) (H : Heap) (locs : List Loc) (ls : Array Slot), fX0_countUses_L2 a0 k n x1 w → zSt D dA true ad0 al0 ad al w s H locs → lv_has ls 4 [(0, .ref (ad a0)), (1, .int x1)] → W p l e R s m args below meth c H locs cells slots Q (F0 m 2 ls []) := by
  intro n
  induction n with
  | zero => exact fun _ _ _ _ _ hf => hf.elim
  | succ n ih =>
    intro x1 w H locs ls hf hR hl
    have hx := X.1
    have hb := X.2.1
    have hml := X.2.2.1
    have hown := X.2.2.2.1
    have hts := X.2.2.2.2.1
    rw [fX0_countUses_L2] at hf
    refine lv_iload_n hx hb dX0_countUses_2 rfl (lv_at hl 1 rfl) ?_
    refine lv_aload_n hx hb dX0_countUses_3 rfl (lv_at hl 0 rfl) ?_
    refine z_getI X hR ha0.1 ha0.2 (by decide) zfd_X0_58 rfl dX0_countUses_4 ?_
    refine lv_icmp_ge (tgt := 88) hx hb dX0_countUses_7 (by decide) (fun c1 => ?_) (fun c1 => ?_)
    · replace hf := hf.1 c1
      exact hQ _ _ _ _ _ hf hR dX0_countUses_88
    · replace hf := hf.2 c1
      refine lv_iload_n hx hb dX0_countUses_10 rfl (lv_at hl 1 rfl) ?_
      refine lv_bipush (v := (8 : Int32)) hx hb dX0_countUses_11 (by decide) ?_
      refine lv_icmp_ge (tgt := 88) hx hb dX0_countUses_13 (by decide) (fun c2 => ?_) (fun c2 => ?_)
      · replace hf := hf.1 c2
        exact hQ _ _ _ _ _ hf hR dX0_countUses_88
      · replace hf := hf.2 c2
        refine lv_aload_n hx hb dX0_countUses_16 rfl (lv_at hl 0 rfl) ?_
        refine z_getS X hR ha0.1 ha0.2 (by decide) zfd_X0_36 rfl (r := a0 + 20) (zst_0 ha0.2 10 rfl) dX0_countUses_17 ?_
        refine lv_iload_n hx hb dX0_countUses_20 rfl (lv_at hl 1 rfl) ?_
        obtain ⟨hb3, hf⟩ := hf
        refine z_aald X hR (zoff hR ha0.2 zo_0_20).1 (zoff hR ha0.2 zo_0_20).2.1 (zoff hR ha0.2 zo_0_20).2.2 hb3 dX0_countUses_21 ?_
        refine lv_iconst (v := (0 : Int32)) hx hb dX0_countUses_22 (by decide) ?_
        refine z_callSV (fr1 := 0) (As := [.ref (ad (a0 + 20 + 1 + x1.toNatClampNeg)), .int (0 : Int32)]) (rest := []) X (hr.le (by decide)) hR zy_J7_fill_53178 zq_125 (mJ7_fill_53178 ⟨(zrow hR ha0.2 zr_0_20 hb3).1, (zrow hR ha0.2 zr_0_20 hb3).2.1⟩ hf) rfl hl (Nat.le_of_ble_eq_true rfl) dX0_countUses_23 rfl (fun w4 H locs hf hR => ?_)
        refine lv_iconst (v := (0 : Int32)) hx hb dX0_countUses_26 (by decide) ?_
        refine lv_istore_n (lv' := [(2, .int (0 : Int32)), (0, .ref (ad a0)), (1, .int x1)]) hx hb dX0_countUses_27 rfl hl (by decide) rfl (fun ls hl => ?_)
        obtain ⟨n9, hf⟩ := hf
        exact mX0_countUses_L28 X hr hQ ha0 ih n9 x1 (0 : Int32) w4 _ _ _ hf hR (lv_sub hl [1, 2, 0] rfl)
def fX0_countUses (a0 : Nat) (w : zW) (k : zW → Prop) : Prop :=
  ∃ n9, fX0_countUses_L2 a0 k n9 (0 : Int32) w
set_option maxHeartbeats 4000000 in
set_option maxRecDepth 100000 in
theorem mX0_countUses {l : Launch} {D : va_G} {dA : Nat → ClassId} {ad : Nat → Nat} {al : Nat → Prop} {w : zW} {k : zW → Prop} {a0 : Nat} (ha0 : al a0 ∧ zsh a0 = 0)  (hf : fX0_countUses a0 w k) : zmetV l yX0_countUses cX0_countUses 4 none 1 [.ref (ad a0)] D dA true ad al w k := by
  refine zmetV_of (by decide) (Nat.le_of_ble_eq_true rfl) ?_
  intro p e R s m below meth c Q H ls args locs cells slots X hr hQ hR hl
  have hx := X.1
  have hb := X.2.1
  have hml := X.2.2.1
  have hown := X.2.2.2.1
  have hts := X.2.2.2.2.1
  unfold fX0_countUses at hf
  have hl : lv_has ls 4 [(0, .ref (ad a0))] := hl
  refine lv_iconst (v := (0 : Int32)) hx hb dX0_countUses_0 (by decide) ?_
  refine lv_istore_n (lv' := [(1, .int (0 : Int32)), (0, .ref (ad a0))]) hx hb dX0_countUses_1 rfl hl (by decide) rfl (fun ls hl => ?_)
  obtain ⟨n9, hf⟩ := hf
  exact mX0_countUses_L2 X hr hQ ha0  n9 (0 : Int32) w _ _ _ hf hR (lv_sub hl [1, 0] rfl)
/-! X0_isOfKind -/
def fX0_isOfKind (x0 : Int32) (x1 : Int32) (x2 : Int32) (w : zW) (k : Int32 → zW → Prop) : Prop :=
  ∀ sv1 : Int32, sv1 = x0 →
  ((sv1 = (1 : Int32) →
    ∀ v3 : Int32, v3 = (if ¬ x2 = x1 then (0 : Int32) else (1 : Int32)) →
    zb01 v3 ∧ k v3 w) ∧
  (¬ sv1 = (1 : Int32) →
  ((sv1 = (2 : Int32) →
    ∀ v5 : Int32, v5 = (if x2 ≤ x1 then (0 : Int32) else (1 : Int32)) →
    zb01 v5 ∧ k v5 w) ∧
  (¬ sv1 = (2 : Int32) →
  ((sv1 = (3 : Int32) →
    ∀ v7 : Int32, v7 = (if x1 ≤ x2 then (0 : Int32) else (1 : Int32)) →
    zb01 v7 ∧ k v7 w) ∧
  (¬ sv1 = (3 : Int32) →
  
  k (1 : Int32) w))))))
set_option maxHeartbeats 4000000 in
set_option maxRecDepth 100000 in
theorem mX0_isOfKind {l : Launch} {D : va_G} {dA : Nat → ClassId} {ad : Nat → Nat} {al : Nat → Prop} {w : zW} {k : Int32 → zW → Prop} {x0 : Int32} {x1 : Int32} {x2 : Int32}   (hf : fX0_isOfKind x0 x1 x2 w k) : zmetI l yX0_isOfKind cX0_isOfKind 3 (some .boolean) 0 [.int x0, .int x1, .int x2] D dA true ad al w k := by
  refine zmetZ_of (by decide) (Nat.le_of_ble_eq_true rfl) ?_
  intro p e R s m below meth c Q H ls args locs cells slots X hr hQ hR hl
  have hx := X.1
  have hb := X.2.1
  have hml := X.2.2.1
  have hown := X.2.2.2.1
  have hts := X.2.2.2.2.1
  unfold fX0_isOfKind at hf
  have hl : lv_has ls 3 [(0, .int x0), (1, .int x1), (2, .int x2)] := hl
  refine lv_iload_n hx hb dX0_isOfKind_0 rfl (lv_at hl 0 rfl) ?_
  refine lv_topi (fun sv1 hsv1 => ?_)
  replace hf := hf sv1 hsv1
  by_cases c2 : sv1 = (1 : Int32)
  · replace hf := hf.1 c2
    refine lv_tableIn (off := 27) (tgt := 28) hx hb dX0_isOfKind_1 (by rw [c2]; decide) (by rw [c2]; decide) (by rw [c2]; decide) (by decide) ?_
    refine lv_iload_n hx hb dX0_isOfKind_28 rfl (lv_at hl 2 rfl) ?_
    refine lv_iload_n hx hb dX0_isOfKind_29 rfl (lv_at hl 1 rfl) ?_
    have kJ3 : ∀ v3 : Int32, v3 = (if ¬ x2 = x1 then (0 : Int32) else (1 : Int32)) → W p l e R s m args below meth c H locs cells slots Q (F0 m 38 ls (.int v3 :: [])) := by
      intro v3 hv3
      replace hf := hf v3 hv3
      obtain ⟨h01, hf⟩ := hf
      exact hQ _ _ _ _ _ _ h01 hf hR dX0_isOfKind_38
    refine lv_icmp_ne (tgt := 37) hx hb dX0_isOfKind_30 (by decide) (fun c3 => ?_) (fun c3 => ?_)
    · refine lv_iconst (v := (0 : Int32)) hx hb dX0_isOfKind_37 (by decide) ?_
      exact kJ3 _ (if_pos c3).symm
    · refine lv_iconst (v := (1 : Int32)) hx hb dX0_isOfKind_33 (by decide) ?_
      refine lv_goto (tgt := 38) hx hb dX0_isOfKind_34 (by decide) ?_
      exact kJ3 _ (if_neg (fun h9 => h9 c3)).symm
  replace hf := hf.2 c2
  by_cases c4 : sv1 = (2 : Int32)
  · replace hf := hf.1 c4
    refine lv_tableIn (off := 38) (tgt := 39) hx hb dX0_isOfKind_1 (by rw [c4]; decide) (by rw [c4]; decide) (by rw [c4]; decide) (by decide) ?_
    refine lv_iload_n hx hb dX0_isOfKind_39 rfl (lv_at hl 2 rfl) ?_
    refine lv_iload_n hx hb dX0_isOfKind_40 rfl (lv_at hl 1 rfl) ?_
    have kJ5 : ∀ v5 : Int32, v5 = (if x2 ≤ x1 then (0 : Int32) else (1 : Int32)) → W p l e R s m args below meth c H locs cells slots Q (F0 m 49 ls (.int v5 :: [])) := by
      intro v5 hv5
      replace hf := hf v5 hv5
      obtain ⟨h01, hf⟩ := hf
      exact hQ _ _ _ _ _ _ h01 hf hR dX0_isOfKind_49
    refine lv_icmp_le (tgt := 48) hx hb dX0_isOfKind_41 (by decide) (fun c5 => ?_) (fun c5 => ?_)
    · refine lv_iconst (v := (0 : Int32)) hx hb dX0_isOfKind_48 (by decide) ?_
      exact kJ5 _ (if_pos c5).symm
    · refine lv_iconst (v := (1 : Int32)) hx hb dX0_isOfKind_44 (by decide) ?_
      refine lv_goto (tgt := 49) hx hb dX0_isOfKind_45 (by decide) ?_
      exact kJ5 _ (if_neg c5).symm
  replace hf := hf.2 c4
  by_cases c6 : sv1 = (3 : Int32)
  · replace hf := hf.1 c6
    refine lv_tableIn (off := 49) (tgt := 50) hx hb dX0_isOfKind_1 (by rw [c6]; decide) (by rw [c6]; decide) (by rw [c6]; decide) (by decide) ?_
    refine lv_iload_n hx hb dX0_isOfKind_50 rfl (lv_at hl 2 rfl) ?_
    refine lv_iload_n hx hb dX0_isOfKind_51 rfl (lv_at hl 1 rfl) ?_
    have kJ7 : ∀ v7 : Int32, v7 = (if x1 ≤ x2 then (0 : Int32) else (1 : Int32)) → W p l e R s m args below meth c H locs cells slots Q (F0 m 60 ls (.int v7 :: [])) := by
      intro v7 hv7
      replace hf := hf v7 hv7
      obtain ⟨h01, hf⟩ := hf
      exact hQ _ _ _ _ _ _ h01 hf hR dX0_isOfKind_60
    refine lv_icmp_ge (tgt := 59) hx hb dX0_isOfKind_52 (by decide) (fun c7 => ?_) (fun c7 => ?_)
    · refine lv_iconst (v := (0 : Int32)) hx hb dX0_isOfKind_59 (by decide) ?_
      exact kJ7 _ (if_pos c7).symm
    · refine lv_iconst (v := (1 : Int32)) hx hb dX0_isOfKind_55 (by decide) ?_
      refine lv_goto (tgt := 60) hx hb dX0_isOfKind_56 (by decide) ?_
      exact kJ7 _ (if_neg c7).symm
  replace hf := hf.2 c6
  have ho1 : sv1.toInt < 1 ∨ 3 < sv1.toInt := by
    have := z_i32ne (k := (1 : Int32)) c2
    have := z_i32ne (k := (2 : Int32)) c4
    have := z_i32ne (k := (3 : Int32)) c6
    simp only [show ((1 : Int32)).toInt = 1 from by decide, show ((2 : Int32)).toInt = 2 from by decide, show ((3 : Int32)).toInt = 3 from by decide] at *
    omega
  refine lv_tableOut (tgt := 61) hx hb dX0_isOfKind_1 ho1 (by decide) ?_
  refine lv_iconst (v := (1 : Int32)) hx hb dX0_isOfKind_61 (by decide) ?_
  exact hQ _ _ _ _ _ _ zb01_1 hf hR dX0_isOfKind_62
/-! X7_fact -/
def fX7_fact (x0 : Int32) (x1 : Int32) (x2 : Int32) (x3 : Int32) (x4 : Int32) (w : zW) (k : Int32 → zW → Prop) : Prop :=
  ∀ sv1 : Int32, sv1 = x0 →
  ((sv1 = (-3 : Int32) →
    k x3 w) ∧
  (¬ sv1 = (-3 : Int32) →
  ((sv1 = (-2 : Int32) →
    k x2 w) ∧
  (¬ sv1 = (-2 : Int32) →
  ((sv1 = (-1 : Int32) →
    k x1 w) ∧
  (¬ sv1 = (-1 : Int32) →
  
  k x4 w))))))
set_option maxHeartbeats 4000000 in
set_option maxRecDepth 100000 in
theorem mX7_fact {l : Launch} {D : va_G} {dA : Nat → ClassId} {ad : Nat → Nat} {al : Nat → Prop} {w : zW} {k : Int32 → zW → Prop} {x0 : Int32} {x1 : Int32} {x2 : Int32} {x3 : Int32} {x4 : Int32}   (hf : fX7_fact x0 x1 x2 x3 x4 w k) : zmetI l yX7_fact cX7_fact 5 (some .int) 0 [.int x0, .int x1, .int x2, .int x3, .int x4] D dA true ad al w k := by
  refine zmetI_of (by decide) (Nat.le_of_ble_eq_true rfl) ?_
  intro p e R s m below meth c Q H ls args locs cells slots X hr hQ hR hl
  have hx := X.1
  have hb := X.2.1
  have hml := X.2.2.1
  have hown := X.2.2.2.1
  have hts := X.2.2.2.2.1
  unfold fX7_fact at hf
  have hl : lv_has ls 5 [(0, .int x0), (1, .int x1), (2, .int x2), (3, .int x3), (4, .int x4)] := hl
  refine lv_iload_n hx hb dX7_fact_0 rfl (lv_at hl 0 rfl) ?_
  refine lv_topi (fun sv1 hsv1 => ?_)
  replace hf := hf sv1 hsv1
  by_cases c2 : sv1 = (-3 : Int32)
  · replace hf := hf.1 c2
    refine lv_tableIn (off := 31) (tgt := 32) hx hb dX7_fact_1 (by rw [c2]; decide) (by rw [c2]; decide) (by rw [c2]; decide) (by decide) ?_
    refine lv_iload_n hx hb dX7_fact_32 rfl (lv_at hl 3 rfl) ?_
    exact hQ _ _ _ _ _ _ hf hR dX7_fact_33
  replace hf := hf.2 c2
  by_cases c3 : sv1 = (-2 : Int32)
  · replace hf := hf.1 c3
    refine lv_tableIn (off := 29) (tgt := 30) hx hb dX7_fact_1 (by rw [c3]; decide) (by rw [c3]; decide) (by rw [c3]; decide) (by decide) ?_
    refine lv_iload_n hx hb dX7_fact_30 rfl (lv_at hl 2 rfl) ?_
    exact hQ _ _ _ _ _ _ hf hR dX7_fact_31
  replace hf := hf.2 c3
  by_cases c4 : sv1 = (-1 : Int32)
  · replace hf := hf.1 c4
    refine lv_tableIn (off := 27) (tgt := 28) hx hb dX7_fact_1 (by rw [c4]; decide) (by rw [c4]; decide) (by rw [c4]; decide) (by decide) ?_
    refine lv_iload_n hx hb dX7_fact_28 rfl (lv_at hl 1 rfl) ?_
    exact hQ _ _ _ _ _ _ hf hR dX7_fact_29
  replace hf := hf.2 c4
  have ho1 : sv1.toInt < -3 ∨ -1 < sv1.toInt := by
    have := z_i32ne (k := (-3 : Int32)) c2
    have := z_i32ne (k := (-2 : Int32)) c3
    have := z_i32ne (k := (-1 : Int32)) c4
    simp only [show ((-3 : Int32)).toInt = -3 from by decide, show ((-2 : Int32)).toInt = -2 from by decide, show ((-1 : Int32)).toInt = -1 from by decide] at *
    omega
  refine lv_tableOut (tgt := 34) hx hb dX7_fact_1 ho1 (by decide) ?_
  refine lv_iload hx hb dX7_fact_34 (lv_at hl 4 rfl) ?_
  exact hQ _ _ _ _ _ _ hf hR dX7_fact_36
/-! X7_join -/
def fX7_join (x0 : Int32) (x1 : Int32) (x2 : Int32) (w : zW) (k : Int32 → zW → Prop) : Prop :=
  ∀ sv1 : Int32, sv1 = x0 →
  ((sv1 = (-11 : Int32) →
    k (x1 - x2) w) ∧
  (¬ sv1 = (-11 : Int32) →
  ((sv1 = (-10 : Int32) →
    k (x1 + x2) w) ∧
  (¬ sv1 = (-10 : Int32) →
  ((sv1 = (-9 : Int32) →
    ∀ v5 : Int32, v5 = (if ¬ x1 = x2 then (0 : Int32) else (1 : Int32)) →
    k v5 w) ∧
  (¬ sv1 = (-9 : Int32) →
  ((sv1 = (-8 : Int32) →
    ∀ v7 : Int32, v7 = (if x2 ≤ x1 then (0 : Int32) else (1 : Int32)) →
    k v7 w) ∧
  (¬ sv1 = (-8 : Int32) →
  ((sv1 = (-7 : Int32) →
    ∀ v9 : Int32, v9 = (if ¬ x1 = 0 then (1 : Int32) else (if x2 = 0 then (0 : Int32) else (1 : Int32))) →
    k v9 w) ∧
  (¬ sv1 = (-7 : Int32) →
  ((sv1 = (-6 : Int32) →
    ∀ v12 : Int32, v12 = (if x1 = 0 then (0 : Int32) else (if x2 = 0 then (0 : Int32) else (1 : Int32))) →
    k v12 w) ∧
  (¬ sv1 = (-6 : Int32) →
  
  k (x1 * x2) w))))))))))))
set_option maxHeartbeats 4000000 in
set_option maxRecDepth 100000 in
theorem mX7_join {l : Launch} {D : va_G} {dA : Nat → ClassId} {ad : Nat → Nat} {al : Nat → Prop} {w : zW} {k : Int32 → zW → Prop} {x0 : Int32} {x1 : Int32} {x2 : Int32}   (hf : fX7_join x0 x1 x2 w k) : zmetI l yX7_join cX7_join 3 (some .int) 0 [.int x0, .int x1, .int x2] D dA true ad al w k := by
  refine zmetI_of (by decide) (Nat.le_of_ble_eq_true rfl) ?_
  intro p e R s m below meth c Q H ls args locs cells slots X hr hQ hR hl
  have hx := X.1
  have hb := X.2.1
  have hml := X.2.2.1
  have hown := X.2.2.2.1
  have hts := X.2.2.2.2.1
  unfold fX7_join at hf
  have hl : lv_has ls 3 [(0, .int x0), (1, .int x1), (2, .int x2)] := hl
  refine lv_iload_n hx hb dX7_join_0 rfl (lv_at hl 0 rfl) ?_
  refine lv_topi (fun sv1 hsv1 => ?_)
  replace hf := hf sv1 hsv1
  by_cases c2 : sv1 = (-11 : Int32)
  · replace hf := hf.1 c2
    refine lv_tableIn (off := 93) (tgt := 94) hx hb dX7_join_1 (by rw [c2]; decide) (by rw [c2]; decide) (by rw [c2]; decide) (by decide) ?_
    refine lv_iload_n hx hb dX7_join_94 rfl (lv_at hl 1 rfl) ?_
    refine lv_iload_n hx hb dX7_join_95 rfl (lv_at hl 2 rfl) ?_
    refine lv_isub hx hb dX7_join_96 ?_
    exact hQ _ _ _ _ _ _ hf hR dX7_join_97
  replace hf := hf.2 c2
  by_cases c3 : sv1 = (-10 : Int32)
  · replace hf := hf.1 c3
    refine lv_tableIn (off := 89) (tgt := 90) hx hb dX7_join_1 (by rw [c3]; decide) (by rw [c3]; decide) (by rw [c3]; decide) (by decide) ?_
    refine lv_iload_n hx hb dX7_join_90 rfl (lv_at hl 1 rfl) ?_
    refine lv_iload_n hx hb dX7_join_91 rfl (lv_at hl 2 rfl) ?_
    refine lv_iadd hx hb dX7_join_92 ?_
    exact hQ _ _ _ _ _ _ hf hR dX7_join_93
  replace hf := hf.2 c3
  by_cases c4 : sv1 = (-9 : Int32)
  · replace hf := hf.1 c4
    refine lv_tableIn (off := 78) (tgt := 79) hx hb dX7_join_1 (by rw [c4]; decide) (by rw [c4]; decide) (by rw [c4]; decide) (by decide) ?_
    refine lv_iload_n hx hb dX7_join_79 rfl (lv_at hl 1 rfl) ?_
    refine lv_iload_n hx hb dX7_join_80 rfl (lv_at hl 2 rfl) ?_
    have kJ5 : ∀ v5 : Int32, v5 = (if ¬ x1 = x2 then (0 : Int32) else (1 : Int32)) → W p l e R s m args below meth c H locs cells slots Q (F0 m 89 ls (.int v5 :: [])) := by
      intro v5 hv5
      replace hf := hf v5 hv5
      exact hQ _ _ _ _ _ _ hf hR dX7_join_89
    refine lv_icmp_ne (tgt := 88) hx hb dX7_join_81 (by decide) (fun c5 => ?_) (fun c5 => ?_)
    · refine lv_iconst (v := (0 : Int32)) hx hb dX7_join_88 (by decide) ?_
      exact kJ5 _ (if_pos c5).symm
    · refine lv_iconst (v := (1 : Int32)) hx hb dX7_join_84 (by decide) ?_
      refine lv_goto (tgt := 89) hx hb dX7_join_85 (by decide) ?_
      exact kJ5 _ (if_neg (fun h9 => h9 c5)).symm
  replace hf := hf.2 c4
  by_cases c6 : sv1 = (-8 : Int32)
  · replace hf := hf.1 c6
    refine lv_tableIn (off := 67) (tgt := 68) hx hb dX7_join_1 (by rw [c6]; decide) (by rw [c6]; decide) (by rw [c6]; decide) (by decide) ?_
    refine lv_iload_n hx hb dX7_join_68 rfl (lv_at hl 1 rfl) ?_
    refine lv_iload_n hx hb dX7_join_69 rfl (lv_at hl 2 rfl) ?_
    have kJ7 : ∀ v7 : Int32, v7 = (if x2 ≤ x1 then (0 : Int32) else (1 : Int32)) → W p l e R s m args below meth c H locs cells slots Q (F0 m 78 ls (.int v7 :: [])) := by
      intro v7 hv7
      replace hf := hf v7 hv7
      exact hQ _ _ _ _ _ _ hf hR dX7_join_78
    refine lv_icmp_ge (tgt := 77) hx hb dX7_join_70 (by decide) (fun c7 => ?_) (fun c7 => ?_)
    · refine lv_iconst (v := (0 : Int32)) hx hb dX7_join_77 (by decide) ?_
      exact kJ7 _ (if_pos c7).symm
    · refine lv_iconst (v := (1 : Int32)) hx hb dX7_join_73 (by decide) ?_
      refine lv_goto (tgt := 78) hx hb dX7_join_74 (by decide) ?_
      exact kJ7 _ (if_neg c7).symm
  replace hf := hf.2 c6
  by_cases c8 : sv1 = (-7 : Int32)
  · replace hf := hf.1 c8
    refine lv_tableIn (off := 53) (tgt := 54) hx hb dX7_join_1 (by rw [c8]; decide) (by rw [c8]; decide) (by rw [c8]; decide) (by decide) ?_
    refine lv_iload_n hx hb dX7_join_54 rfl (lv_at hl 1 rfl) ?_
    have kJ9 : ∀ v9 : Int32, v9 = (if ¬ x1 = 0 then (1 : Int32) else (if x2 = 0 then (0 : Int32) else (1 : Int32))) → W p l e R s m args below meth c H locs cells slots Q (F0 m 67 ls (.int v9 :: [])) := by
      intro v9 hv9
      replace hf := hf v9 hv9
      exact hQ _ _ _ _ _ _ hf hR dX7_join_67
    refine lv_if_ne (tgt := 62) hx hb dX7_join_55 (by decide) (fun c9 => ?_) (fun c9 => ?_)
    · refine lv_iconst (v := (1 : Int32)) hx hb dX7_join_62 (by decide) ?_
      refine lv_goto (tgt := 67) hx hb dX7_join_63 (by decide) ?_
      exact kJ9 _ (if_pos c9).symm
    · refine lv_iload_n hx hb dX7_join_58 rfl (lv_at hl 2 rfl) ?_
      refine lv_if_eq (tgt := 66) hx hb dX7_join_59 (by decide) (fun c10 => ?_) (fun c10 => ?_)
      · refine lv_iconst (v := (0 : Int32)) hx hb dX7_join_66 (by decide) ?_
        exact kJ9 _ ((if_neg (fun h9 => h9 c9)).trans (if_pos c10)).symm
      · refine lv_iconst (v := (1 : Int32)) hx hb dX7_join_62 (by decide) ?_
        refine lv_goto (tgt := 67) hx hb dX7_join_63 (by decide) ?_
        exact kJ9 _ ((if_neg (fun h9 => h9 c9)).trans (if_neg c10)).symm
  replace hf := hf.2 c8
  by_cases c11 : sv1 = (-6 : Int32)
  · replace hf := hf.1 c11
    refine lv_tableIn (off := 39) (tgt := 40) hx hb dX7_join_1 (by rw [c11]; decide) (by rw [c11]; decide) (by rw [c11]; decide) (by decide) ?_
    refine lv_iload_n hx hb dX7_join_40 rfl (lv_at hl 1 rfl) ?_
    have kJ12 : ∀ v12 : Int32, v12 = (if x1 = 0 then (0 : Int32) else (if x2 = 0 then (0 : Int32) else (1 : Int32))) → W p l e R s m args below meth c H locs cells slots Q (F0 m 53 ls (.int v12 :: [])) := by
      intro v12 hv12
      replace hf := hf v12 hv12
      exact hQ _ _ _ _ _ _ hf hR dX7_join_53
    refine lv_if_eq (tgt := 52) hx hb dX7_join_41 (by decide) (fun c12 => ?_) (fun c12 => ?_)
    · refine lv_iconst (v := (0 : Int32)) hx hb dX7_join_52 (by decide) ?_
      exact kJ12 _ (if_pos c12).symm
    · refine lv_iload_n hx hb dX7_join_44 rfl (lv_at hl 2 rfl) ?_
      refine lv_if_eq (tgt := 52) hx hb dX7_join_45 (by decide) (fun c13 => ?_) (fun c13 => ?_)
      · refine lv_iconst (v := (0 : Int32)) hx hb dX7_join_52 (by decide) ?_
        exact kJ12 _ ((if_neg c12).trans (if_pos c13)).symm
      · refine lv_iconst (v := (1 : Int32)) hx hb dX7_join_48 (by decide) ?_
        refine lv_goto (tgt := 53) hx hb dX7_join_49 (by decide) ?_
        exact kJ12 _ ((if_neg c12).trans (if_neg c13)).symm
  replace hf := hf.2 c11
  have ho1 : sv1.toInt < -11 ∨ -6 < sv1.toInt := by
    have := z_i32ne (k := (-11 : Int32)) c2
    have := z_i32ne (k := (-10 : Int32)) c3
    have := z_i32ne (k := (-9 : Int32)) c4
    have := z_i32ne (k := (-8 : Int32)) c6
    have := z_i32ne (k := (-7 : Int32)) c8
    have := z_i32ne (k := (-6 : Int32)) c11
    simp only [show ((-11 : Int32)).toInt = -11 from by decide, show ((-10 : Int32)).toInt = -10 from by decide, show ((-9 : Int32)).toInt = -9 from by decide, show ((-8 : Int32)).toInt = -8 from by decide, show ((-7 : Int32)).toInt = -7 from by decide, show ((-6 : Int32)).toInt = -6 from by decide] at *
    omega
  refine lv_tableOut (tgt := 98) hx hb dX7_join_1 ho1 (by decide) ?_
  refine lv_iload_n hx hb dX7_join_98 rfl (lv_at hl 1 rfl) ?_
  refine lv_iload_n hx hb dX7_join_99 rfl (lv_at hl 2 rfl) ?_
  refine lv_imul hx hb dX7_join_100 ?_
  exact hQ _ _ _ _ _ _ hf hR dX7_join_101
/-! X7_value -/
def fX7_value_J202 (k : Int32 → zW → Prop)  (w : zW) : Prop :=
  k (gI w 8 (0 : Int32).toNatClampNeg) w
set_option maxHeartbeats 4000000 in
set_option maxRecDepth 100000 in
theorem mX7_value_J202 {k : Int32 → zW → Prop} (X : zCx p s m args meth c cX7_value 8 RX7 (some .int)) (hr : zRm R 1 cells slots) (hQ : zRetI p l e R s m args below meth c cells slots Q D dA true ad0 al0 ad al cX7_value k)   {w : zW} {H : Heap} {locs : List Loc} {ls : Array Slot} (hf : fX7_value_J202 k  w) (hR : zSt D dA true ad0 al0 ad al w s H locs) (hl : lv_has ls 8 [(0, .ref (ad 6))]) : W p l e R s m args below meth c H locs cells slots Q (F0 m 202 ls []) := by
  have hx := X.1
  have hb := X.2.1
  have hml := X.2.2.1
  have hown := X.2.2.2.1
  have hts := X.2.2.2.2.1
  unfold fX7_value_J202 at hf
  refine lv_aload_n hx hb dX7_value_202 rfl (lv_at hl 0 rfl) ?_
  refine z_getS X hR (zlit hR zf_6) zs_6 (by decide) zfd_X7_15 rfl (r := 8) (by decide +kernel) dX7_value_203 ?_
  refine lv_iconst (v := (0 : Int32)) hx hb dX7_value_206 (by decide) ?_
  refine z_iald X hR (zlit hR zf_8) zs_8 zl_8 (zin (by decide)) dX7_value_207 ?_
  exact hQ _ _ _ _ _ _ hf hR dX7_value_208
def fX7_value_J141 (k : Int32 → zW → Prop) (g6 : Int32 → Int32 → Int32 → Int32 → Int32 → Int32 → zW → Prop) (x1 : Int32) (x2 : Int32) (x3 : Int32) (x4 : Int32) (x5 : Int32) (x6 : Int32) (t0 : Int32) (t1 : Int32) (w : zW) : Prop :=
  vp_in t1 32 ∧ 
  ∀ w18 : zW, w18 = sI w 8 t1.toNatClampNeg t0 →
  g6 x1 x2 x3 x4 x5 (x6 + (1 : Int32)) w18
set_option maxHeartbeats 4000000 in
set_option maxRecDepth 100000 in
theorem mX7_value_J141 {k : Int32 → zW → Prop} {g6 : Int32 → Int32 → Int32 → Int32 → Int32 → Int32 → zW → Prop} (X : zCx p s m args meth c cX7_value 8 RX7 (some .int)) (hr : zRm R 1 cells slots) (hQ : zRetI p l e R s m args below meth c cells slots Q D dA true ad0 al0 ad al cX7_value k) (hg6 : ∀ (x1 : Int32) (x2 : Int32) (x3 : Int32) (x4 : Int32) (x5 : Int32) (x6 : Int32) (w : zW) (H : Heap) (locs : List Loc) (ls : Array Slot), g6 x1 x2 x3 x4 x5 x6 w → zSt D dA true ad0 al0 ad al w s H locs → lv_has ls 8 [(0, .ref (ad 6)), (1, .int x1), (2, .int x2), (3, .int x3), (4, .int x4), (5, .int x5), (6, .int x6)] → W p l e R s m args below meth c H locs cells slots Q (F0 m 6 ls [])) {x1 : Int32} {x2 : Int32} {x3 : Int32} {x4 : Int32} {x5 : Int32} {x6 : Int32} {t0 : Int32} {t1 : Int32} {w : zW} {H : Heap} {locs : List Loc} {ls : Array Slot} (hf : fX7_value_J141 k g6 x1 x2 x3 x4 x5 x6 t0 t1 w) (hR : zSt D dA true ad0 al0 ad al w s H locs) (hl : lv_has ls 8 [(0, .ref (ad 6)), (1, .int x1), (2, .int x2), (3, .int x3), (4, .int x4), (5, .int x5), (6, .int x6)]) : W p l e R s m args below meth c H locs cells slots Q (F0 m 141 ls [.int t0, .int t1, .ref (ad 8)]) := by
  have hx := X.1
  have hb := X.2.1
  have hml := X.2.2.1
  have hown := X.2.2.2.1
  have hts := X.2.2.2.2.1
  unfold fX7_value_J141 at hf
  obtain ⟨hb17, hf⟩ := hf
  refine z_iast X hR (zlit hR zf_8) zs_8 zl_8 hb17 dX7_value_141 (fun H locs hR => ?_)
  obtain ⟨w18, hw18⟩ : ∃ z : zW, z = sI w 8 t1.toNatClampNeg t0 := ⟨_, rfl⟩
  rw [← hw18] at hR
  replace hf := hf w18 hw18
  refine lv_goto (tgt := 196) hx hb dX7_value_142 (by decide) ?_
  refine lv_iinc (v := x6 + (1 : Int32)) (lv' := [(6, .int (x6 + (1 : Int32))), (0, .ref (ad 6)), (1, .int x1), (2, .int x2), (3, .int x3), (4, .int x4), (5, .int x5)]) hx hb dX7_value_196 hl (k := 6) rfl rfl (by decide) rfl (fun ls hl => ?_)
  refine lv_goto (tgt := 6) hx hb dX7_value_199 (by decide) ?_
  exact hg6 x1 x2 x3 x4 x5 (x6 + (1 : Int32)) w18 _ _ _ hf hR (lv_sub hl [1, 2, 3, 4, 5, 6, 0] rfl)
def fX7_value_J84 (k : Int32 → zW → Prop) (g6 : Int32 → Int32 → Int32 → Int32 → Int32 → Int32 → zW → Prop) (x1 : Int32) (x2 : Int32) (x3 : Int32) (x4 : Int32) (x5 : Int32) (x6 : Int32) (t0 : Int32) (t1 : Int32) (w : zW) : Prop :=
  vp_in t1 32 ∧ 
  ∀ w24 : zW, w24 = sI w 8 t1.toNatClampNeg t0 →
  g6 x1 x2 x3 x4 (x5 + (1 : Int32)) (x6 + (1 : Int32)) w24
set_option maxHeartbeats 4000000 in
set_option maxRecDepth 100000 in
theorem mX7_value_J84 {k : Int32 → zW → Prop} {g6 : Int32 → Int32 → Int32 → Int32 → Int32 → Int32 → zW → Prop} (X : zCx p s m args meth c cX7_value 8 RX7 (some .int)) (hr : zRm R 1 cells slots) (hQ : zRetI p l e R s m args below meth c cells slots Q D dA true ad0 al0 ad al cX7_value k) (hg6 : ∀ (x1 : Int32) (x2 : Int32) (x3 : Int32) (x4 : Int32) (x5 : Int32) (x6 : Int32) (w : zW) (H : Heap) (locs : List Loc) (ls : Array Slot), g6 x1 x2 x3 x4 x5 x6 w → zSt D dA true ad0 al0 ad al w s H locs → lv_has ls 8 [(0, .ref (ad 6)), (1, .int x1), (2, .int x2), (3, .int x3), (4, .int x4), (5, .int x5), (6, .int x6)] → W p l e R s m args below meth c H locs cells slots Q (F0 m 6 ls [])) {x1 : Int32} {x2 : Int32} {x3 : Int32} {x4 : Int32} {x5 : Int32} {x6 : Int32} {t0 : Int32} {t1 : Int32} {w : zW} {H : Heap} {locs : List Loc} {ls : Array Slot} (hf : fX7_value_J84 k g6 x1 x2 x3 x4 x5 x6 t0 t1 w) (hR : zSt D dA true ad0 al0 ad al w s H locs) (hl : lv_has ls 8 [(0, .ref (ad 6)), (1, .int x1), (2, .int x2), (3, .int x3), (4, .int x4), (5, .int x5), (6, .int x6)]) : W p l e R s m args below meth c H locs cells slots Q (F0 m 84 ls [.int t0, .int t1, .ref (ad 8)]) := by
  have hx := X.1
  have hb := X.2.1
  have hml := X.2.2.1
  have hown := X.2.2.2.1
  have hts := X.2.2.2.2.1
  unfold fX7_value_J84 at hf
  obtain ⟨hb23, hf⟩ := hf
  refine z_iast X hR (zlit hR zf_8) zs_8 zl_8 hb23 dX7_value_84 (fun H locs hR => ?_)
  obtain ⟨w24, hw24⟩ : ∃ z : zW, z = sI w 8 t1.toNatClampNeg t0 := ⟨_, rfl⟩
  rw [← hw24] at hR
  replace hf := hf w24 hw24
  refine lv_iinc (v := x5 + (1 : Int32)) (lv' := [(5, .int (x5 + (1 : Int32))), (0, .ref (ad 6)), (1, .int x1), (2, .int x2), (3, .int x3), (4, .int x4), (6, .int x6)]) hx hb dX7_value_85 hl (k := 5) rfl rfl (by decide) rfl (fun ls hl => ?_)
  refine lv_goto (tgt := 196) hx hb dX7_value_88 (by decide) ?_
  refine lv_iinc (v := x6 + (1 : Int32)) (lv' := [(6, .int (x6 + (1 : Int32))), (5, .int (x5 + (1 : Int32))), (0, .ref (ad 6)), (1, .int x1), (2, .int x2), (3, .int x3), (4, .int x4)]) hx hb dX7_value_196 hl (k := 6) rfl rfl (by decide) rfl (fun ls hl => ?_)
  refine lv_goto (tgt := 6) hx hb dX7_value_199 (by decide) ?_
  exact hg6 x1 x2 x3 x4 (x5 + (1 : Int32)) (x6 + (1 : Int32)) w24 _ _ _ hf hR (lv_sub hl [2, 3, 4, 5, 6, 1, 0] rfl)
def fX7_value_L6 (k : Int32 → zW → Prop) : Nat → Int32 → Int32 → Int32 → Int32 → Int32 → Int32 → zW → Prop
  | 0 => fun _ _ _ _ _ _ _ => False
  | n + 1 => fun x1 x2 x3 x4 x5 x6 w =>
    (((gI w 6 3) ≤ x6 →
      fX7_value_J202 k  w) ∧
     (¬ (gI w 6 3) ≤ x6 →
      (((1000 : Int32) ≤ x6 →
        fX7_value_J202 k  w) ∧
       (¬ (1000 : Int32) ≤ x6 →
        vp_in x6 1000 ∧ 
        ∀ v4 : Int32, v4 = gI w 7 x6.toNatClampNeg →
        ((v4 ≤ (-5 : Int32) →
          ((¬ v4 = (-5 : Int32) →
            ((x5 < (2 : Int32) →
              k (0 : Int32) w) ∧
             (¬ x5 < (2 : Int32) →
              ((x5 ≤ (32 : Int32) →
                vp_in ((x5 + (-1 : Int32)) - (1 : Int32)) 32 ∧ 
                vp_in (x5 + (-1 : Int32)) 32 ∧ 
                fX7_join v4 (gI w 8 ((x5 + (-1 : Int32)) - (1 : Int32)).toNatClampNeg) (gI w 8 (x5 + (-1 : Int32)).toNatClampNeg) w (fun r11 w11 =>
                ∀ w12 : zW, w12 = sI w11 8 ((x5 + (-1 : Int32)) - (1 : Int32)).toNatClampNeg r11 →
                fX7_value_L6 k n x1 x2 x3 x4 (x5 + (-1 : Int32)) (x6 + (1 : Int32)) w12)) ∧
               (¬ x5 ≤ (32 : Int32) →
                k (0 : Int32) w))))) ∧
           (v4 = (-5 : Int32) →
            ((x5 < (1 : Int32) →
              k (0 : Int32) w) ∧
             (¬ x5 < (1 : Int32) →
              ((x5 ≤ (32 : Int32) →
                vp_in (x5 - (1 : Int32)) 32 ∧ 
                ∀ v16 : Int32, v16 = (if ¬ (gI w 8 (x5 - (1 : Int32)).toNatClampNeg) = 0 then (0 : Int32) else (1 : Int32)) →
                fX7_value_J141 k (fX7_value_L6 k n) x1 x2 x3 x4 x5 x6 v16 (x5 - (1 : Int32)) w) ∧
               (¬ x5 ≤ (32 : Int32) →
                k (0 : Int32) w))))))) ∧
         (¬ v4 ≤ (-5 : Int32) →
          ((x5 < 0 →
            k (0 : Int32) w) ∧
           (¬ x5 < 0 →
            ((x5 < (32 : Int32) →
              ((v4 < 0 →
                fX7_fact v4 x1 x2 x3 x4 w (fun r22 w22 =>
                fX7_value_J84 k (fX7_value_L6 k n) x1 x2 x3 x4 x5 x6 r22 x5 w22)) ∧
               (¬ v4 < 0 →
                fX7_value_J84 k (fX7_value_L6 k n) x1 x2 x3 x4 x5 x6 v4 x5 w))) ∧
             (¬ x5 < (32 : Int32) →
              k (0 : Int32) w))))))))))
set_option maxHeartbeats 4000000 in
set_option maxRecDepth 100000 in
theorem mX7_value_L6 {k : Int32 → zW → Prop} (X : zCx p s m args meth c cX7_value 8 RX7 (some .int)) (hr : zRm R 1 cells slots) (hQ : zRetI p l e R s m args below meth c cells slots Q D dA true ad0 al0 ad al cX7_value k)  : ∀ (n : Nat) (x1 : Int32) (x2 : Int32) (x3 : Int32) (x4 : Int32) (x5 : Int32) (x6 : Int32) (w : zW) (H : Heap) (locs : List Loc) (ls : Array Slot), fX7_value_L6 k n x1 x2 x3 x4 x5 x6 w → zSt D dA true ad0 al0 ad al w s H locs → lv_has ls 8 [(0, .ref (ad 6)), (1, .int x1), (2, .int x2), (3, .int x3), (4, .int x4), (5, .int x5), (6, .int x6)] → W p l e R s m args below meth c H locs cells slots Q (F0 m 6 ls []) := by
  intro n
  induction n with
  | zero => exact fun _ _ _ _ _ _ _ _ _ _ hf => hf.elim
  | succ n ih =>
    intro x1 x2 x3 x4 x5 x6 w H locs ls hf hR hl
    have hx := X.1
    have hb := X.2.1
    have hml := X.2.2.1
    have hown := X.2.2.2.1
    have hts := X.2.2.2.2.1
    rw [fX7_value_L6] at hf
    refine lv_iload hx hb dX7_value_6 (lv_at hl 6 rfl) ?_
    refine lv_aload_n hx hb dX7_value_8 rfl (lv_at hl 0 rfl) ?_
    refine z_getI X hR (zlit hR zf_6) zs_6 (by decide) zfd_X7_22 rfl dX7_value_9 ?_
    refine lv_icmp_ge (tgt := 202) hx hb dX7_value_12 (by decide) (fun c1 => ?_) (fun c1 => ?_)
    · replace hf := hf.1 c1
      exact mX7_value_J202 X hr hQ  hf hR (lv_sub hl [0] rfl)
    · replace hf := hf.2 c1
      refine lv_iload hx hb dX7_value_15 (lv_at hl 6 rfl) ?_
      refine lv_aload_n hx hb dX7_value_17 rfl (lv_at hl 0 rfl) ?_
      refine z_getS X hR (zlit hR zf_6) zs_6 (by decide) zfd_X7_9 rfl (r := 7) (by decide +kernel) dX7_value_18 ?_
      refine z_alen X hR (zlit hR zf_7) zs_7 (by decide) (by decide) zl_7 (v := (1000 : Int32)) rfl dX7_value_21 ?_
      refine lv_icmp_ge (tgt := 202) hx hb dX7_value_22 (by decide) (fun c2 => ?_) (fun c2 => ?_)
      · replace hf := hf.1 c2
        exact mX7_value_J202 X hr hQ  hf hR (lv_sub hl [0] rfl)
      · replace hf := hf.2 c2
        refine lv_aload_n hx hb dX7_value_25 rfl (lv_at hl 0 rfl) ?_
        refine z_getS X hR (zlit hR zf_6) zs_6 (by decide) zfd_X7_9 rfl (r := 7) (by decide +kernel) dX7_value_26 ?_
        refine lv_iload hx hb dX7_value_29 (lv_at hl 6 rfl) ?_
        obtain ⟨hb3, hf⟩ := hf
        refine z_iald X hR (zlit hR zf_7) zs_7 zl_7 hb3 dX7_value_31 ?_
        refine lv_topi (fun v4 hv4 => ?_)
        replace hf := hf v4 hv4
        refine lv_istore (lv' := [(7, .int v4), (0, .ref (ad 6)), (1, .int x1), (2, .int x2), (3, .int x3), (4, .int x4), (5, .int x5), (6, .int x6)]) hx hb dX7_value_32 hl (by decide) rfl (fun ls hl => ?_)
        refine lv_iload hx hb dX7_value_34 (lv_at hl 0 rfl) ?_
        refine lv_bipush (v := (-5 : Int32)) hx hb dX7_value_36 (by decide) ?_
        refine lv_icmp_le (tgt := 91) hx hb dX7_value_38 (by decide) (fun c5 => ?_) (fun c5 => ?_)
        · replace hf := hf.1 c5
          refine lv_iload hx hb dX7_value_91 (lv_at hl 0 rfl) ?_
          refine lv_bipush (v := (-5 : Int32)) hx hb dX7_value_93 (by decide) ?_
          refine lv_icmp_ne (tgt := 145) hx hb dX7_value_95 (by decide) (fun c6 => ?_) (fun c6 => ?_)
          · replace hf := hf.1 c6
            refine lv_iload hx hb dX7_value_145 (lv_at hl 6 rfl) ?_
            refine lv_iconst (v := (2 : Int32)) hx hb dX7_value_147 (by decide) ?_
            refine lv_icmp_lt (tgt := 161) hx hb dX7_value_148 (by decide) (fun c7 => ?_) (fun c7 => ?_)
            · replace hf := hf.1 c7
              refine lv_iconst (v := (0 : Int32)) hx hb dX7_value_161 (by decide) ?_
              exact hQ _ _ _ _ _ _ hf hR dX7_value_162
            · replace hf := hf.2 c7
              refine lv_iload hx hb dX7_value_151 (lv_at hl 6 rfl) ?_
              refine lv_aload_n hx hb dX7_value_153 rfl (lv_at hl 1 rfl) ?_
              refine z_getS X hR (zlit hR zf_6) zs_6 (by decide) zfd_X7_15 rfl (r := 8) (by decide +kernel) dX7_value_154 ?_
              refine z_alen X hR (zlit hR zf_8) zs_8 (by decide) (by decide) zl_8 (v := (32 : Int32)) rfl dX7_value_157 ?_
              refine lv_icmp_le (tgt := 163) hx hb dX7_value_158 (by decide) (fun c8 => ?_) (fun c8 => ?_)
              · replace hf := hf.1 c8
                refine lv_iinc (v := x5 + (-1 : Int32)) (lv' := [(5, .int (x5 + (-1 : Int32))), (7, .int v4), (0, .ref (ad 6)), (1, .int x1), (2, .int x2), (3, .int x3), (4, .int x4), (6, .int x6)]) hx hb dX7_value_163 hl (k := 6) rfl rfl (by decide) rfl (fun ls hl => ?_)
                refine lv_aload_n hx hb dX7_value_166 rfl (lv_at hl 2 rfl) ?_
                refine z_getS X hR (zlit hR zf_6) zs_6 (by decide) zfd_X7_15 rfl (r := 8) (by decide +kernel) dX7_value_167 ?_
                refine lv_iload hx hb dX7_value_170 (lv_at hl 0 rfl) ?_
                refine lv_iconst (v := (1 : Int32)) hx hb dX7_value_172 (by decide) ?_
                refine lv_isub hx hb dX7_value_173 ?_
                refine lv_iload hx hb dX7_value_174 (lv_at hl 1 rfl) ?_
                refine lv_aload_n hx hb dX7_value_176 rfl (lv_at hl 2 rfl) ?_
                refine z_getS X hR (zlit hR zf_6) zs_6 (by decide) zfd_X7_15 rfl (r := 8) (by decide +kernel) dX7_value_177 ?_
                refine lv_iload hx hb dX7_value_180 (lv_at hl 0 rfl) ?_
                refine lv_iconst (v := (1 : Int32)) hx hb dX7_value_182 (by decide) ?_
                refine lv_isub hx hb dX7_value_183 ?_
                obtain ⟨hb9, hf⟩ := hf
                refine z_iald X hR (zlit hR zf_8) zs_8 zl_8 hb9 dX7_value_184 ?_
                refine lv_aload_n hx hb dX7_value_185 rfl (lv_at hl 2 rfl) ?_
                refine z_getS X hR (zlit hR zf_6) zs_6 (by decide) zfd_X7_15 rfl (r := 8) (by decide +kernel) dX7_value_186 ?_
                refine lv_iload hx hb dX7_value_189 (lv_at hl 0 rfl) ?_
                obtain ⟨hb10, hf⟩ := hf
                refine z_iald X hR (zlit hR zf_8) zs_8 zl_8 hb10 dX7_value_191 ?_
                refine z_callSI (fr1 := 0) (As := [.int v4, .int (gI w 8 ((x5 + (-1 : Int32)) - (1 : Int32)).toNatClampNeg), .int (gI w 8 (x5 + (-1 : Int32)).toNatClampNeg)]) (rest := [.int ((x5 + (-1 : Int32)) - (1 : Int32)), .ref (ad 8)]) X (hr.le (by decide)) hR zy_X7_join zq_563 (mX7_join  hf) rfl hl (Nat.le_of_ble_eq_true rfl) dX7_value_192 rfl (fun r11 w11 H locs hf hR => ?_)
                refine z_iast X hR (zlit hR zf_8) zs_8 zl_8 hb9 dX7_value_195 (fun H locs hR => ?_)
                obtain ⟨w12, hw12⟩ : ∃ z : zW, z = sI w11 8 ((x5 + (-1 : Int32)) - (1 : Int32)).toNatClampNeg r11 := ⟨_, rfl⟩
                rw [← hw12] at hR
                replace hf := hf w12 hw12
                refine lv_iinc (v := x6 + (1 : Int32)) (lv' := [(6, .int (x6 + (1 : Int32))), (5, .int (x5 + (-1 : Int32))), (7, .int v4), (0, .ref (ad 6)), (1, .int x1), (2, .int x2), (3, .int x3), (4, .int x4)]) hx hb dX7_value_196 hl (k := 7) rfl rfl (by decide) rfl (fun ls hl => ?_)
                refine lv_goto (tgt := 6) hx hb dX7_value_199 (by decide) ?_
                exact ih x1 x2 x3 x4 (x5 + (-1 : Int32)) (x6 + (1 : Int32)) w12 _ _ _ hf hR (lv_sub hl [3, 4, 5, 6, 7, 1, 0] rfl)
              · replace hf := hf.2 c8
                refine lv_iconst (v := (0 : Int32)) hx hb dX7_value_161 (by decide) ?_
                exact hQ _ _ _ _ _ _ hf hR dX7_value_162
          · replace hf := hf.2 c6
            refine lv_iload hx hb dX7_value_98 (lv_at hl 6 rfl) ?_
            refine lv_iconst (v := (1 : Int32)) hx hb dX7_value_100 (by decide) ?_
            refine lv_icmp_lt (tgt := 114) hx hb dX7_value_101 (by decide) (fun c13 => ?_) (fun c13 => ?_)
            · replace hf := hf.1 c13
              refine lv_iconst (v := (0 : Int32)) hx hb dX7_value_114 (by decide) ?_
              exact hQ _ _ _ _ _ _ hf hR dX7_value_115
            · replace hf := hf.2 c13
              refine lv_iload hx hb dX7_value_104 (lv_at hl 6 rfl) ?_
              refine lv_aload_n hx hb dX7_value_106 rfl (lv_at hl 1 rfl) ?_
              refine z_getS X hR (zlit hR zf_6) zs_6 (by decide) zfd_X7_15 rfl (r := 8) (by decide +kernel) dX7_value_107 ?_
              refine z_alen X hR (zlit hR zf_8) zs_8 (by decide) (by decide) zl_8 (v := (32 : Int32)) rfl dX7_value_110 ?_
              refine lv_icmp_le (tgt := 116) hx hb dX7_value_111 (by decide) (fun c14 => ?_) (fun c14 => ?_)
              · replace hf := hf.1 c14
                refine lv_aload_n hx hb dX7_value_116 rfl (lv_at hl 1 rfl) ?_
                refine z_getS X hR (zlit hR zf_6) zs_6 (by decide) zfd_X7_15 rfl (r := 8) (by decide +kernel) dX7_value_117 ?_
                refine lv_iload hx hb dX7_value_120 (lv_at hl 6 rfl) ?_
                refine lv_iconst (v := (1 : Int32)) hx hb dX7_value_122 (by decide) ?_
                refine lv_isub hx hb dX7_value_123 ?_
                refine lv_aload_n hx hb dX7_value_124 rfl (lv_at hl 1 rfl) ?_
                refine z_getS X hR (zlit hR zf_6) zs_6 (by decide) zfd_X7_15 rfl (r := 8) (by decide +kernel) dX7_value_125 ?_
                refine lv_iload hx hb dX7_value_128 (lv_at hl 6 rfl) ?_
                refine lv_iconst (v := (1 : Int32)) hx hb dX7_value_130 (by decide) ?_
                refine lv_isub hx hb dX7_value_131 ?_
                obtain ⟨hb15, hf⟩ := hf
                refine z_iald X hR (zlit hR zf_8) zs_8 zl_8 hb15 dX7_value_132 ?_
                have kJ16 : ∀ v16 : Int32, v16 = (if ¬ (gI w 8 (x5 - (1 : Int32)).toNatClampNeg) = 0 then (0 : Int32) else (1 : Int32)) → W p l e R s m args below meth c H locs cells slots Q (F0 m 141 ls (.int v16 :: .int (x5 - (1 : Int32)) :: .ref (ad 8) :: [])) := by
                  intro v16 hv16
                  replace hf := hf v16 hv16
                  exact mX7_value_J141 X hr hQ ih hf hR (lv_sub hl [1, 2, 3, 4, 5, 6, 7] rfl)
                refine lv_if_ne (tgt := 140) hx hb dX7_value_133 (by decide) (fun c16 => ?_) (fun c16 => ?_)
                · refine lv_iconst (v := (0 : Int32)) hx hb dX7_value_140 (by decide) ?_
                  exact kJ16 _ (if_pos c16).symm
                · refine lv_iconst (v := (1 : Int32)) hx hb dX7_value_136 (by decide) ?_
                  refine lv_goto (tgt := 141) hx hb dX7_value_137 (by decide) ?_
                  exact kJ16 _ (if_neg (fun h9 => h9 c16)).symm
              · replace hf := hf.2 c14
                refine lv_iconst (v := (0 : Int32)) hx hb dX7_value_114 (by decide) ?_
                exact hQ _ _ _ _ _ _ hf hR dX7_value_115
        · replace hf := hf.2 c5
          refine lv_iload hx hb dX7_value_41 (lv_at hl 6 rfl) ?_
          refine lv_if_lt (tgt := 56) hx hb dX7_value_43 (by decide) (fun c19 => ?_) (fun c19 => ?_)
          · replace hf := hf.1 c19
            refine lv_iconst (v := (0 : Int32)) hx hb dX7_value_56 (by decide) ?_
            exact hQ _ _ _ _ _ _ hf hR dX7_value_57
          · replace hf := hf.2 c19
            refine lv_iload hx hb dX7_value_46 (lv_at hl 6 rfl) ?_
            refine lv_aload_n hx hb dX7_value_48 rfl (lv_at hl 1 rfl) ?_
            refine z_getS X hR (zlit hR zf_6) zs_6 (by decide) zfd_X7_15 rfl (r := 8) (by decide +kernel) dX7_value_49 ?_
            refine z_alen X hR (zlit hR zf_8) zs_8 (by decide) (by decide) zl_8 (v := (32 : Int32)) rfl dX7_value_52 ?_
            refine lv_icmp_lt (tgt := 58) hx hb dX7_value_53 (by decide) (fun c20 => ?_) (fun c20 => ?_)
            · replace hf := hf.1 c20
              refine lv_aload_n hx hb dX7_value_58 rfl (lv_at hl 1 rfl) ?_
              refine z_getS X hR (zlit hR zf_6) zs_6 (by decide) zfd_X7_15 rfl (r := 8) (by decide +kernel) dX7_value_59 ?_
              refine lv_iload hx hb dX7_value_62 (lv_at hl 6 rfl) ?_
              refine lv_iload hx hb dX7_value_64 (lv_at hl 0 rfl) ?_
              refine lv_if_lt (tgt := 74) hx hb dX7_value_66 (by decide) (fun c21 => ?_) (fun c21 => ?_)
              · replace hf := hf.1 c21
                refine lv_iload hx hb dX7_value_74 (lv_at hl 0 rfl) ?_
                refine lv_iload_n hx hb dX7_value_76 rfl (lv_at hl 2 rfl) ?_
                refine lv_iload_n hx hb dX7_value_77 rfl (lv_at hl 3 rfl) ?_
                refine lv_iload_n hx hb dX7_value_78 rfl (lv_at hl 4 rfl) ?_
                refine lv_iload hx hb dX7_value_79 (lv_at hl 5 rfl) ?_
                refine z_callSI (fr1 := 0) (As := [.int v4, .int x1, .int x2, .int x3, .int x4]) (rest := [.int x5, .ref (ad 8)]) X (hr.le (by decide)) hR zy_X7_fact zq_560 (mX7_fact  hf) rfl hl (Nat.le_of_ble_eq_true rfl) dX7_value_81 rfl (fun r22 w22 H locs hf hR => ?_)
                exact mX7_value_J84 X hr hQ ih hf hR (lv_sub hl [1, 2, 3, 4, 5, 6, 7] rfl)
              · replace hf := hf.2 c21
                refine lv_iload hx hb dX7_value_69 (lv_at hl 0 rfl) ?_
                refine lv_goto (tgt := 84) hx hb dX7_value_71 (by decide) ?_
                exact mX7_value_J84 X hr hQ ih hf hR (lv_sub hl [1, 2, 3, 4, 5, 6, 7] rfl)
            · replace hf := hf.2 c20
              refine lv_iconst (v := (0 : Int32)) hx hb dX7_value_56 (by decide) ?_
              exact hQ _ _ _ _ _ _ hf hR dX7_value_57
def fX7_value (x1 : Int32) (x2 : Int32) (x3 : Int32) (x4 : Int32) (w : zW) (k : Int32 → zW → Prop) : Prop :=
  ∃ n9, fX7_value_L6 k n9 x1 x2 x3 x4 (0 : Int32) (0 : Int32) w
set_option maxHeartbeats 4000000 in
set_option maxRecDepth 100000 in
theorem mX7_value {l : Launch} {D : va_G} {dA : Nat → ClassId} {ad : Nat → Nat} {al : Nat → Prop} {w : zW} {k : Int32 → zW → Prop} {x1 : Int32} {x2 : Int32} {x3 : Int32} {x4 : Int32}   (hf : fX7_value x1 x2 x3 x4 w k) : zmetI l yX7_value cX7_value 8 (some .int) 1 [.ref (ad 6), .int x1, .int x2, .int x3, .int x4] D dA true ad al w k := by
  refine zmetI_of (by decide) (Nat.le_of_ble_eq_true rfl) ?_
  intro p e R s m below meth c Q H ls args locs cells slots X hr hQ hR hl
  have hx := X.1
  have hb := X.2.1
  have hml := X.2.2.1
  have hown := X.2.2.2.1
  have hts := X.2.2.2.2.1
  unfold fX7_value at hf
  have hl : lv_has ls 8 [(0, .ref (ad 6)), (1, .int x1), (2, .int x2), (3, .int x3), (4, .int x4)] := hl
  refine lv_iconst (v := (0 : Int32)) hx hb dX7_value_0 (by decide) ?_
  refine lv_istore (lv' := [(5, .int (0 : Int32)), (0, .ref (ad 6)), (1, .int x1), (2, .int x2), (3, .int x3), (4, .int x4)]) hx hb dX7_value_1 hl (by decide) rfl (fun ls hl => ?_)
  refine lv_iconst (v := (0 : Int32)) hx hb dX7_value_3 (by decide) ?_
  refine lv_istore (lv' := [(6, .int (0 : Int32)), (5, .int (0 : Int32)), (0, .ref (ad 6)), (1, .int x1), (2, .int x2), (3, .int x3), (4, .int x4)]) hx hb dX7_value_4 hl (by decide) rfl (fun ls hl => ?_)
  obtain ⟨n9, hf⟩ := hf
  exact mX7_value_L6 X hr hQ  n9 x1 x2 x3 x4 (0 : Int32) (0 : Int32) w _ _ _ hf hR (lv_sub hl [2, 3, 4, 5, 6, 1, 0] rfl)
/-! X0_findMeanings -/
def fX0_findMeanings_J78 (a0 : Nat) (k : zW → Prop) (g2 : Int32 → zW → Prop) (g20 : Int32 → Int32 → Int32 → zW → Prop) (x2 : Int32) (x3 : Int32) (x4 : Int32) (t0 : Int32) (w : zW) : Prop :=
  ((t0 = 0 →
    g20 x2 x3 (x4 + (1 : Int32)) w) ∧
   (¬ t0 = 0 →
    (((9 : Int32) ≤ x3 →
      g20 x2 x3 (x4 + (1 : Int32)) w) ∧
     (¬ (9 : Int32) ≤ x3 →
      vp_in x2 4 ∧ 
      vp_in x3 9 ∧ 
      ∀ w15 : zW, w15 = sI w (a0 + 5 + 1 + x2.toNatClampNeg) x3.toNatClampNeg x4 →
      g20 x2 (x3 + (1 : Int32)) (x4 + (1 : Int32)) w15))))
set_option maxHeartbeats 4000000 in
set_option maxRecDepth 100000 in
theorem mX0_findMeanings_J78 {k : zW → Prop} {g2 : Int32 → zW → Prop} {g20 : Int32 → Int32 → Int32 → zW → Prop} {a0 : Nat} (X : zCx p s m args meth c cX0_findMeanings 8 RX0 none) (hr : zRm R 2 cells slots) (hQ : zRetV p l e R s m args below meth c cells slots Q D dA true ad0 al0 ad al cX0_findMeanings k) (ha0 : al a0 ∧ zsh a0 = 0) (hg2 : ∀ (x2 : Int32) (w : zW) (H : Heap) (locs : List Loc) (ls : Array Slot), g2 x2 w → zSt D dA true ad0 al0 ad al w s H locs → lv_has ls 8 [(0, .ref (ad a0)), (1, .ref (ad 6)), (2, .int x2)] → W p l e R s m args below meth c H locs cells slots Q (F0 m 2 ls [])) (hg20 : ∀ (x2 : Int32) (x3 : Int32) (x4 : Int32) (w : zW) (H : Heap) (locs : List Loc) (ls : Array Slot), g20 x2 x3 x4 w → zSt D dA true ad0 al0 ad al w s H locs → lv_has ls 8 [(0, .ref (ad a0)), (1, .ref (ad 6)), (2, .int x2), (3, .int x3), (4, .int x4)] → W p l e R s m args below meth c H locs cells slots Q (F0 m 20 ls [])) {x2 : Int32} {x3 : Int32} {x4 : Int32} {t0 : Int32} {w : zW} {H : Heap} {locs : List Loc} {ls : Array Slot} (hf : fX0_findMeanings_J78 a0 k g2 g20 x2 x3 x4 t0 w) (hR : zSt D dA true ad0 al0 ad al w s H locs) (hl : lv_has ls 8 [(0, .ref (ad a0)), (1, .ref (ad 6)), (2, .int x2), (3, .int x3), (4, .int x4)]) : W p l e R s m args below meth c H locs cells slots Q (F0 m 78 ls [.int t0]) := by
  have hx := X.1
  have hb := X.2.1
  have hml := X.2.2.1
  have hown := X.2.2.2.1
  have hts := X.2.2.2.2.1
  unfold fX0_findMeanings_J78 at hf
  refine lv_istore (lv' := [(7, .int t0), (0, .ref (ad a0)), (1, .ref (ad 6)), (2, .int x2), (3, .int x3), (4, .int x4)]) hx hb dX0_findMeanings_78 hl (by decide) rfl (fun ls hl => ?_)
  refine lv_iload hx hb dX0_findMeanings_80 (lv_at hl 0 rfl) ?_
  refine lv_if_eq (tgt := 104) hx hb dX0_findMeanings_82 (by decide) (fun c11 => ?_) (fun c11 => ?_)
  · replace hf := hf.1 c11
    refine lv_iinc (v := x4 + (1 : Int32)) (lv' := [(4, .int (x4 + (1 : Int32))), (7, .int t0), (0, .ref (ad a0)), (1, .ref (ad 6)), (2, .int x2), (3, .int x3)]) hx hb dX0_findMeanings_104 hl (k := 5) rfl rfl (by decide) rfl (fun ls hl => ?_)
    refine lv_goto (tgt := 20) hx hb dX0_findMeanings_107 (by decide) ?_
    exact hg20 x2 x3 (x4 + (1 : Int32)) w _ _ _ hf hR (lv_sub hl [2, 3, 4, 5, 0] rfl)
  · replace hf := hf.2 c11
    refine lv_iload_n hx hb dX0_findMeanings_85 rfl (lv_at hl 4 rfl) ?_
    refine lv_bipush (v := (9 : Int32)) hx hb dX0_findMeanings_86 (by decide) ?_
    refine lv_icmp_ge (tgt := 104) hx hb dX0_findMeanings_88 (by decide) (fun c12 => ?_) (fun c12 => ?_)
    · replace hf := hf.1 c12
      refine lv_iinc (v := x4 + (1 : Int32)) (lv' := [(4, .int (x4 + (1 : Int32))), (7, .int t0), (0, .ref (ad a0)), (1, .ref (ad 6)), (2, .int x2), (3, .int x3)]) hx hb dX0_findMeanings_104 hl (k := 5) rfl rfl (by decide) rfl (fun ls hl => ?_)
      refine lv_goto (tgt := 20) hx hb dX0_findMeanings_107 (by decide) ?_
      exact hg20 x2 x3 (x4 + (1 : Int32)) w _ _ _ hf hR (lv_sub hl [2, 3, 4, 5, 0] rfl)
    · replace hf := hf.2 c12
      refine lv_aload_n hx hb dX0_findMeanings_91 rfl (lv_at hl 1 rfl) ?_
      refine z_getS X hR ha0.1 ha0.2 (by decide) zfd_X0_27 rfl (r := a0 + 5) (zst_0 ha0.2 5 rfl) dX0_findMeanings_92 ?_
      refine lv_iload_n hx hb dX0_findMeanings_95 rfl (lv_at hl 3 rfl) ?_
      obtain ⟨hb13, hf⟩ := hf
      refine z_aald X hR (zoff hR ha0.2 zo_0_5).1 (zoff hR ha0.2 zo_0_5).2.1 (zoff hR ha0.2 zo_0_5).2.2 hb13 dX0_findMeanings_96 ?_
      refine lv_iload_n hx hb dX0_findMeanings_97 rfl (lv_at hl 4 rfl) ?_
      refine lv_iload hx hb dX0_findMeanings_98 (lv_at hl 5 rfl) ?_
      obtain ⟨hb14, hf⟩ := hf
      refine z_iast X hR (zrow hR ha0.2 zr_0_5 hb13).1 (zrow hR ha0.2 zr_0_5 hb13).2.1 (zrow hR ha0.2 zr_0_5 hb13).2.2 hb14 dX0_findMeanings_100 (fun H locs hR => ?_)
      obtain ⟨w15, hw15⟩ : ∃ z : zW, z = sI w (a0 + 5 + 1 + x2.toNatClampNeg) x3.toNatClampNeg x4 := ⟨_, rfl⟩
      rw [← hw15] at hR
      replace hf := hf w15 hw15
      refine lv_iinc (v := x3 + (1 : Int32)) (lv' := [(3, .int (x3 + (1 : Int32))), (7, .int t0), (0, .ref (ad a0)), (1, .ref (ad 6)), (2, .int x2), (4, .int x4)]) hx hb dX0_findMeanings_101 hl (k := 4) rfl rfl (by decide) rfl (fun ls hl => ?_)
      refine lv_iinc (v := x4 + (1 : Int32)) (lv' := [(4, .int (x4 + (1 : Int32))), (3, .int (x3 + (1 : Int32))), (7, .int t0), (0, .ref (ad a0)), (1, .ref (ad 6)), (2, .int x2)]) hx hb dX0_findMeanings_104 hl (k := 5) rfl rfl (by decide) rfl (fun ls hl => ?_)
      refine lv_goto (tgt := 20) hx hb dX0_findMeanings_107 (by decide) ?_
      exact hg20 x2 (x3 + (1 : Int32)) (x4 + (1 : Int32)) w15 _ _ _ hf hR (lv_sub hl [3, 4, 5, 1, 0] rfl)
def fX0_findMeanings_L20 (a0 : Nat) (k : zW → Prop) (g2 : Int32 → zW → Prop) : Nat → Int32 → Int32 → Int32 → zW → Prop
  | 0 => fun _ _ _ _ => False
  | n + 1 => fun x2 x3 x4 w =>
    (((9 : Int32) ≤ x4 →
      vp_in x2 4 ∧ 
      ∀ w5 : zW, w5 = sI w (a0 + 4) x2.toNatClampNeg x3 →
      g2 (x2 + (1 : Int32)) w5) ∧
     (¬ (9 : Int32) ≤ x4 →
      ∀ v6 : Int32, v6 = x4 / (3 : Int32) →
      ∀ v7 : Int32, v7 = x4 % (3 : Int32) →
      vp_in x2 4 ∧ 
      fX0_isOfKind (gI w (a0 + 2) x2.toNatClampNeg) v6 v7 w (fun r9 w9 =>
      ((r9 = 0 →
        fX0_findMeanings_J78 a0 k g2 (fX0_findMeanings_L20 a0 k g2 n) x2 x3 x4 (0 : Int32) w9) ∧
       (¬ r9 = 0 →
        fX7_value v6 v7 (gI w9 (a0 + 3) x2.toNatClampNeg) x2 w9 (fun r16 w16 =>
        ∀ v17 : Int32, v17 = (if r16 = 0 then (0 : Int32) else (1 : Int32)) →
        fX0_findMeanings_J78 a0 k g2 (fX0_findMeanings_L20 a0 k g2 n) x2 x3 x4 v17 w16))))))
set_option maxHeartbeats 4000000 in
set_option maxRecDepth 100000 in
theorem mX0_findMeanings_L20 {k : zW → Prop} {g2 : Int32 → zW → Prop} {a0 : Nat} (X : zCx p s m args meth c cX0_findMeanings 8 RX0 none) (hr : zRm R 2 cells slots) (hQ : zRetV p l e R s m args below meth c cells slots Q D dA true ad0 al0 ad al cX0_findMeanings k) (ha0 : al a0 ∧ zsh a0 = 0) (hg2 : ∀ (x2 : Int32) (w : zW) (H : Heap) (locs : List Loc) (ls : Array Slot), g2 x2 w → zSt D dA true ad0 al0 ad al w s H locs → lv_has ls 8 [(0, .ref (ad a0)), (1, .ref (ad 6)), (2, .int x2)] → W p l e R s m args below meth c H locs cells slots Q (F0 m 2 ls [])) : ∀ (n : Nat) (x2 : Int32) (x3 : Int32) (x4 : Int32) (w : zW) (H : Heap) (locs : List Loc) (ls : Array Slot), fX0_findMeanings_L20 a0 k g2 n x2 x3 x4 w → zSt D dA true ad0 al0 ad al w s H locs → lv_has ls 8 [(0, .ref (ad a0)), (1, .ref (ad 6)), (2, .int x2), (3, .int x3), (4, .int x4)] → W p l e R s m args below meth c H locs cells slots Q (F0 m 20 ls []) := by
  intro n
  induction n with
  | zero => exact fun _ _ _ _ _ _ _ hf => hf.elim
  | succ n ih =>
    intro x2 x3 x4 w H locs ls hf hR hl
    have hx := X.1
    have hb := X.2.1
    have hml := X.2.2.1
    have hown := X.2.2.2.1
    have hts := X.2.2.2.2.1
    rw [fX0_findMeanings_L20] at hf
    refine lv_iload hx hb dX0_findMeanings_20 (lv_at hl 4 rfl) ?_
    refine lv_bipush (v := (9 : Int32)) hx hb dX0_findMeanings_22 (by decide) ?_
    refine lv_icmp_ge (tgt := 110) hx hb dX0_findMeanings_24 (by decide) (fun c3 => ?_) (fun c3 => ?_)
    · replace hf := hf.1 c3
      refine lv_aload_n hx hb dX0_findMeanings_110 rfl (lv_at hl 0 rfl) ?_
      refine z_getS X hR ha0.1 ha0.2 (by decide) zfd_X0_22 rfl (r := a0 + 4) (zst_0 ha0.2 4 rfl) dX0_findMeanings_111 ?_
      refine lv_iload_n hx hb dX0_findMeanings_114 rfl (lv_at hl 2 rfl) ?_
      refine lv_iload_n hx hb dX0_findMeanings_115 rfl (lv_at hl 3 rfl) ?_
      obtain ⟨hb4, hf⟩ := hf
      refine z_iast X hR (zoff hR ha0.2 zo_0_4).1 (zoff hR ha0.2 zo_0_4).2.1 (zoff hR ha0.2 zo_0_4).2.2 hb4 dX0_findMeanings_116 (fun H locs hR => ?_)
      obtain ⟨w5, hw5⟩ : ∃ z : zW, z = sI w (a0 + 4) x2.toNatClampNeg x3 := ⟨_, rfl⟩
      rw [← hw5] at hR
      replace hf := hf w5 hw5
      refine lv_iinc (v := x2 + (1 : Int32)) (lv' := [(2, .int (x2 + (1 : Int32))), (0, .ref (ad a0)), (1, .ref (ad 6)), (3, .int x3), (4, .int x4)]) hx hb dX0_findMeanings_117 hl (k := 2) rfl rfl (by decide) rfl (fun ls hl => ?_)
      refine lv_goto (tgt := 2) hx hb dX0_findMeanings_120 (by decide) ?_
      exact hg2 (x2 + (1 : Int32)) w5 _ _ _ hf hR (lv_sub hl [1, 2, 0] rfl)
    · replace hf := hf.2 c3
      refine lv_iload hx hb dX0_findMeanings_27 (lv_at hl 4 rfl) ?_
      refine lv_iconst (v := (3 : Int32)) hx hb dX0_findMeanings_29 (by decide) ?_
      refine lv_idiv hx hb dX0_findMeanings_30 (by decide) ?_
      refine lv_topi (fun v6 hv6 => ?_)
      replace hf := hf v6 hv6
      refine lv_istore (lv' := [(5, .int v6), (0, .ref (ad a0)), (1, .ref (ad 6)), (2, .int x2), (3, .int x3), (4, .int x4)]) hx hb dX0_findMeanings_31 hl (by decide) rfl (fun ls hl => ?_)
      refine lv_iload hx hb dX0_findMeanings_33 (lv_at hl 5 rfl) ?_
      refine lv_iconst (v := (3 : Int32)) hx hb dX0_findMeanings_35 (by decide) ?_
      refine z_irem X dX0_findMeanings_36 (by decide) ?_
      refine lv_topi (fun v7 hv7 => ?_)
      replace hf := hf v7 hv7
      refine lv_istore (lv' := [(6, .int v7), (5, .int v6), (0, .ref (ad a0)), (1, .ref (ad 6)), (2, .int x2), (3, .int x3), (4, .int x4)]) hx hb dX0_findMeanings_37 hl (by decide) rfl (fun ls hl => ?_)
      refine lv_aload_n hx hb dX0_findMeanings_39 rfl (lv_at hl 2 rfl) ?_
      refine z_getS X hR ha0.1 ha0.2 (by decide) zfd_X0_15 rfl (r := a0 + 2) (zst_0 ha0.2 2 rfl) dX0_findMeanings_40 ?_
      refine lv_iload_n hx hb dX0_findMeanings_43 rfl (lv_at hl 4 rfl) ?_
      obtain ⟨hb8, hf⟩ := hf
      refine z_iald X hR (zoff hR ha0.2 zo_0_2).1 (zoff hR ha0.2 zo_0_2).2.1 (zoff hR ha0.2 zo_0_2).2.2 hb8 dX0_findMeanings_44 ?_
      refine lv_iload hx hb dX0_findMeanings_45 (lv_at hl 1 rfl) ?_
      refine lv_iload hx hb dX0_findMeanings_47 (lv_at hl 0 rfl) ?_
      refine z_callSI (fr1 := 0) (As := [.int (gI w (a0 + 2) x2.toNatClampNeg), .int v6, .int v7]) (rest := []) X (hr.le (by decide)) hR zy_X0_isOfKind zq_553 (mX0_isOfKind  hf) rfl hl (Nat.le_of_ble_eq_true rfl) dX0_findMeanings_49 rfl (fun r9 w9 H locs hf hR => ?_)
      refine lv_if_eq (tgt := 77) hx hb dX0_findMeanings_52 (by decide) (fun c10 => ?_) (fun c10 => ?_)
      · replace hf := hf.1 c10
        refine lv_iconst (v := (0 : Int32)) hx hb dX0_findMeanings_77 (by decide) ?_
        exact mX0_findMeanings_J78 X hr hQ ha0 hg2 ih hf hR (lv_sub hl [2, 3, 4, 5, 6] rfl)
      · replace hf := hf.2 c10
        refine lv_aload_n hx hb dX0_findMeanings_55 rfl (lv_at hl 3 rfl) ?_
        refine lv_iload hx hb dX0_findMeanings_56 (lv_at hl 1 rfl) ?_
        refine lv_iload hx hb dX0_findMeanings_58 (lv_at hl 0 rfl) ?_
        refine lv_aload_n hx hb dX0_findMeanings_60 rfl (lv_at hl 2 rfl) ?_
        refine z_getS X hR ha0.1 ha0.2 (by decide) zfd_X0_19 rfl (r := a0 + 3) (zst_0 ha0.2 3 rfl) dX0_findMeanings_61 ?_
        refine lv_iload_n hx hb dX0_findMeanings_64 rfl (lv_at hl 4 rfl) ?_
        refine z_iald X hR (zoff hR ha0.2 zo_0_3).1 (zoff hR ha0.2 zo_0_3).2.1 (zoff hR ha0.2 zo_0_3).2.2 hb8 dX0_findMeanings_65 ?_
        refine lv_iload_n hx hb dX0_findMeanings_66 rfl (lv_at hl 4 rfl) ?_
        refine z_callVI (fr1 := 1) (b := 6) (As := [.int v6, .int v7, .int (gI w9 (a0 + 3) x2.toNatClampNeg), .int x2]) (rest := []) X (hr.le (by decide)) hR zy_X7_value zq_556 (zlit hR zf_6) (by rw [zs_6]; rfl) rfl (mX7_value  hf) rfl hl (Nat.le_of_ble_eq_true rfl) dX0_findMeanings_67 rfl (fun r16 w16 H locs hf hR => ?_)
        have kJ17 : ∀ v17 : Int32, v17 = (if r16 = 0 then (0 : Int32) else (1 : Int32)) → W p l e R s m args below meth c H locs cells slots Q (F0 m 78 ls (.int v17 :: [])) := by
          intro v17 hv17
          replace hf := hf v17 hv17
          exact mX0_findMeanings_J78 X hr hQ ha0 hg2 ih hf hR (lv_sub hl [2, 3, 4, 5, 6] rfl)
        refine lv_if_eq (tgt := 77) hx hb dX0_findMeanings_70 (by decide) (fun c17 => ?_) (fun c17 => ?_)
        · refine lv_iconst (v := (0 : Int32)) hx hb dX0_findMeanings_77 (by decide) ?_
          exact kJ17 _ (if_pos c17).symm
        · refine lv_iconst (v := (1 : Int32)) hx hb dX0_findMeanings_73 (by decide) ?_
          refine lv_goto (tgt := 78) hx hb dX0_findMeanings_74 (by decide) ?_
          exact kJ17 _ (if_neg c17).symm
def fX0_findMeanings_L2 (a0 : Nat) (k : zW → Prop) : Nat → Int32 → zW → Prop
  | 0 => fun _ _ => False
  | n + 1 => fun x2 w =>
    (((gI w a0 0) ≤ x2 →
      k w) ∧
     (¬ (gI w a0 0) ≤ x2 →
      (((4 : Int32) ≤ x2 →
        k w) ∧
       (¬ (4 : Int32) ≤ x2 →
        ∃ n9, fX0_findMeanings_L20 a0 k (fX0_findMeanings_L2 a0 k n) n9 x2 (0 : Int32) (0 : Int32) w))))
set_option maxHeartbeats 4000000 in
set_option maxRecDepth 100000 in
theorem mX0_findMeanings_L2 {k : zW → Prop} {a0 : Nat} (X : zCx p s m args meth c cX0_findMeanings 8 RX0 none) (hr : zRm R 2 cells slots) (hQ : zRetV p l e R s m args below meth c cells slots Q D dA true ad0 al0 ad al cX0_findMeanings k) (ha0 : al a0 ∧ zsh a0 = 0)  : ∀ (n : Nat) (x2 : Int32) (w : zW) (H : Heap) (locs : List Loc) (ls : Array Slot), fX0_findMeanings_L2 a0 k n x2 w → zSt D dA true ad0 al0 ad al w s H locs → lv_has ls 8 [(0, .ref (ad a0)), (1, .ref (ad 6)), (2, .int x2)] → W p l e R s m args below meth c H locs cells slots Q (F0 m 2 ls []) := by
  intro n
  induction n with
  | zero => exact fun _ _ _ _ _ hf => hf.elim
  | succ n ih =>
    intro x2 w H locs ls hf hR hl
    have hx := X.1
    have hb := X.2.1
    have hml := X.2.2.1
    have hown := X.2.2.2.1
    have hts := X.2.2.2.2.1
    rw [fX0_findMeanings_L2] at hf
    refine lv_iload_n hx hb dX0_findMeanings_2 rfl (lv_at hl 2 rfl) ?_
    refine lv_aload_n hx hb dX0_findMeanings_3 rfl (lv_at hl 0 rfl) ?_
    refine z_getI X hR ha0.1 ha0.2 (by decide) zfd_X0_51 rfl dX0_findMeanings_4 ?_
    refine lv_icmp_ge (tgt := 123) hx hb dX0_findMeanings_7 (by decide) (fun c1 => ?_) (fun c1 => ?_)
    · replace hf := hf.1 c1
      exact hQ _ _ _ _ _ hf hR dX0_findMeanings_123
    · replace hf := hf.2 c1
      refine lv_iload_n hx hb dX0_findMeanings_10 rfl (lv_at hl 2 rfl) ?_
      refine lv_iconst (v := (4 : Int32)) hx hb dX0_findMeanings_11 (by decide) ?_
      refine lv_icmp_ge (tgt := 123) hx hb dX0_findMeanings_12 (by decide) (fun c2 => ?_) (fun c2 => ?_)
      · replace hf := hf.1 c2
        exact hQ _ _ _ _ _ hf hR dX0_findMeanings_123
      · replace hf := hf.2 c2
        refine lv_iconst (v := (0 : Int32)) hx hb dX0_findMeanings_15 (by decide) ?_
        refine lv_istore_n (lv' := [(3, .int (0 : Int32)), (0, .ref (ad a0)), (1, .ref (ad 6)), (2, .int x2)]) hx hb dX0_findMeanings_16 rfl hl (by decide) rfl (fun ls hl => ?_)
        refine lv_iconst (v := (0 : Int32)) hx hb dX0_findMeanings_17 (by decide) ?_
        refine lv_istore (lv' := [(4, .int (0 : Int32)), (3, .int (0 : Int32)), (0, .ref (ad a0)), (1, .ref (ad 6)), (2, .int x2)]) hx hb dX0_findMeanings_18 hl (by decide) rfl (fun ls hl => ?_)
        obtain ⟨n9, hf⟩ := hf
        exact mX0_findMeanings_L20 X hr hQ ha0 ih n9 x2 (0 : Int32) (0 : Int32) w _ _ _ hf hR (lv_sub hl [2, 3, 4, 1, 0] rfl)
def fX0_findMeanings (a0 : Nat) (w : zW) (k : zW → Prop) : Prop :=
  ∃ n9, fX0_findMeanings_L2 a0 k n9 (0 : Int32) w
set_option maxHeartbeats 4000000 in
set_option maxRecDepth 100000 in
theorem mX0_findMeanings {l : Launch} {D : va_G} {dA : Nat → ClassId} {ad : Nat → Nat} {al : Nat → Prop} {w : zW} {k : zW → Prop} {a0 : Nat} (ha0 : al a0 ∧ zsh a0 = 0)  (hf : fX0_findMeanings a0 w k) : zmetV l yX0_findMeanings cX0_findMeanings 8 none 2 [.ref (ad a0), .ref (ad 6)] D dA true ad al w k := by
  refine zmetV_of (by decide) (Nat.le_of_ble_eq_true rfl) ?_
  intro p e R s m below meth c Q H ls args locs cells slots X hr hQ hR hl
  have hx := X.1
  have hb := X.2.1
  have hml := X.2.2.1
  have hown := X.2.2.2.1
  have hts := X.2.2.2.2.1
  unfold fX0_findMeanings at hf
  have hl : lv_has ls 8 [(0, .ref (ad a0)), (1, .ref (ad 6))] := hl
  refine lv_iconst (v := (0 : Int32)) hx hb dX0_findMeanings_0 (by decide) ?_
  refine lv_istore_n (lv' := [(2, .int (0 : Int32)), (0, .ref (ad a0)), (1, .ref (ad 6))]) hx hb dX0_findMeanings_1 rfl hl (by decide) rfl (fun ls hl => ?_)
  obtain ⟨n9, hf⟩ := hf
  exact mX0_findMeanings_L2 X hr hQ ha0  n9 (0 : Int32) w _ _ _ hf hR (lv_sub hl [1, 2, 0] rfl)
/-! X0_means -/
def fX0_means_L2 (a0 : Nat) (k : Int32 → zW → Prop) : Nat → Int32 → Int32 → Int32 → zW → Prop
  | 0 => fun _ _ _ _ => False
  | n + 1 => fun x1 x2 x3 w =>
    ((x1 < 0 →
      k (0 : Int32) w) ∧
     (¬ x1 < 0 →
      (((4 : Int32) ≤ x1 →
        k (0 : Int32) w) ∧
       (¬ (4 : Int32) ≤ x1 →
        vp_in x1 4 ∧ 
        (((gI w (a0 + 4) x1.toNatClampNeg) ≤ x3 →
          k (0 : Int32) w) ∧
         (¬ (gI w (a0 + 4) x1.toNatClampNeg) ≤ x3 →
          (((9 : Int32) ≤ x3 →
            k (0 : Int32) w) ∧
           (¬ (9 : Int32) ≤ x3 →
            vp_in x3 9 ∧ 
            ((¬ (gI w (a0 + 5 + 1 + x1.toNatClampNeg) x3.toNatClampNeg) = x2 →
              fX0_means_L2 a0 k n x1 x2 (x3 + (1 : Int32)) w) ∧
             ((gI w (a0 + 5 + 1 + x1.toNatClampNeg) x3.toNatClampNeg) = x2 →
              k (1 : Int32) w))))))))))
set_option maxHeartbeats 4000000 in
set_option maxRecDepth 100000 in
theorem mX0_means_L2 {k : Int32 → zW → Prop} {a0 : Nat} (X : zCx p s m args meth c cX0_means 4 RX0 (some .boolean)) (hr : zRm R 0 cells slots) (hQ : zRetZ p l e R s m args below meth c cells slots Q D dA true ad0 al0 ad al cX0_means k) (ha0 : al a0 ∧ zsh a0 = 0)  : ∀ (n : Nat) (x1 : Int32) (x2 : Int32) (x3 : Int32) (w : zW) (H : Heap) (locs : List Loc) (ls : Array Slot), fX0_means_L2 a0 k n x1 x2 x3 w → zSt D dA true ad0 al0 ad al w s H locs → lv_has ls 4 [(0, .ref (ad a0)), (1, .int x1), (2, .int x2), (3, .int x3)] → W p l e R s m args below meth c H locs cells slots Q (F0 m 2 ls []) := by
  intro n
  induction n with
  | zero => exact fun _ _ _ _ _ _ _ hf => hf.elim
  | succ n ih =>
    intro x1 x2 x3 w H locs ls hf hR hl
    have hx := X.1
    have hb := X.2.1
    have hml := X.2.2.1
    have hown := X.2.2.2.1
    have hts := X.2.2.2.2.1
    rw [fX0_means_L2] at hf
    refine lv_iload_n hx hb dX0_means_2 rfl (lv_at hl 1 rfl) ?_
    refine lv_if_lt (tgt := 47) hx hb dX0_means_3 (by decide) (fun c1 => ?_) (fun c1 => ?_)
    · replace hf := hf.1 c1
      refine lv_iconst (v := (0 : Int32)) hx hb dX0_means_47 (by decide) ?_
      exact hQ _ _ _ _ _ _ zb01_0 hf hR dX0_means_48
    · replace hf := hf.2 c1
      refine lv_iload_n hx hb dX0_means_6 rfl (lv_at hl 1 rfl) ?_
      refine lv_iconst (v := (4 : Int32)) hx hb dX0_means_7 (by decide) ?_
      refine lv_icmp_ge (tgt := 47) hx hb dX0_means_8 (by decide) (fun c2 => ?_) (fun c2 => ?_)
      · replace hf := hf.1 c2
        refine lv_iconst (v := (0 : Int32)) hx hb dX0_means_47 (by decide) ?_
        exact hQ _ _ _ _ _ _ zb01_0 hf hR dX0_means_48
      · replace hf := hf.2 c2
        refine lv_iload_n hx hb dX0_means_11 rfl (lv_at hl 3 rfl) ?_
        refine lv_aload_n hx hb dX0_means_12 rfl (lv_at hl 0 rfl) ?_
        refine z_getS X hR ha0.1 ha0.2 (by decide) zfd_X0_22 rfl (r := a0 + 4) (zst_0 ha0.2 4 rfl) dX0_means_13 ?_
        refine lv_iload_n hx hb dX0_means_16 rfl (lv_at hl 1 rfl) ?_
        obtain ⟨hb3, hf⟩ := hf
        refine z_iald X hR (zoff hR ha0.2 zo_0_4).1 (zoff hR ha0.2 zo_0_4).2.1 (zoff hR ha0.2 zo_0_4).2.2 hb3 dX0_means_17 ?_
        refine lv_icmp_ge (tgt := 47) hx hb dX0_means_18 (by decide) (fun c4 => ?_) (fun c4 => ?_)
        · replace hf := hf.1 c4
          refine lv_iconst (v := (0 : Int32)) hx hb dX0_means_47 (by decide) ?_
          exact hQ _ _ _ _ _ _ zb01_0 hf hR dX0_means_48
        · replace hf := hf.2 c4
          refine lv_iload_n hx hb dX0_means_21 rfl (lv_at hl 3 rfl) ?_
          refine lv_bipush (v := (9 : Int32)) hx hb dX0_means_22 (by decide) ?_
          refine lv_icmp_ge (tgt := 47) hx hb dX0_means_24 (by decide) (fun c5 => ?_) (fun c5 => ?_)
          · replace hf := hf.1 c5
            refine lv_iconst (v := (0 : Int32)) hx hb dX0_means_47 (by decide) ?_
            exact hQ _ _ _ _ _ _ zb01_0 hf hR dX0_means_48
          · replace hf := hf.2 c5
            refine lv_aload_n hx hb dX0_means_27 rfl (lv_at hl 0 rfl) ?_
            refine z_getS X hR ha0.1 ha0.2 (by decide) zfd_X0_27 rfl (r := a0 + 5) (zst_0 ha0.2 5 rfl) dX0_means_28 ?_
            refine lv_iload_n hx hb dX0_means_31 rfl (lv_at hl 1 rfl) ?_
            refine z_aald X hR (zoff hR ha0.2 zo_0_5).1 (zoff hR ha0.2 zo_0_5).2.1 (zoff hR ha0.2 zo_0_5).2.2 hb3 dX0_means_32 ?_
            refine lv_iload_n hx hb dX0_means_33 rfl (lv_at hl 3 rfl) ?_
            obtain ⟨hb6, hf⟩ := hf
            refine z_iald X hR (zrow hR ha0.2 zr_0_5 hb3).1 (zrow hR ha0.2 zr_0_5 hb3).2.1 (zrow hR ha0.2 zr_0_5 hb3).2.2 hb6 dX0_means_34 ?_
            refine lv_iload_n hx hb dX0_means_35 rfl (lv_at hl 2 rfl) ?_
            refine lv_icmp_ne (tgt := 41) hx hb dX0_means_36 (by decide) (fun c7 => ?_) (fun c7 => ?_)
            · replace hf := hf.1 c7
              refine lv_iinc (v := x3 + (1 : Int32)) (lv' := [(3, .int (x3 + (1 : Int32))), (0, .ref (ad a0)), (1, .int x1), (2, .int x2)]) hx hb dX0_means_41 hl (k := 3) rfl rfl (by decide) rfl (fun ls hl => ?_)
              refine lv_goto (tgt := 2) hx hb dX0_means_44 (by decide) ?_
              exact ih x1 x2 (x3 + (1 : Int32)) w _ _ _ hf hR (lv_sub hl [1, 2, 3, 0] rfl)
            · replace hf := hf.2 c7
              refine lv_iconst (v := (1 : Int32)) hx hb dX0_means_39 (by decide) ?_
              exact hQ _ _ _ _ _ _ zb01_1 hf hR dX0_means_40
def fX0_means (a0 : Nat) (x1 : Int32) (x2 : Int32) (w : zW) (k : Int32 → zW → Prop) : Prop :=
  ∃ n9, fX0_means_L2 a0 k n9 x1 x2 (0 : Int32) w
set_option maxHeartbeats 4000000 in
set_option maxRecDepth 100000 in
theorem mX0_means {l : Launch} {D : va_G} {dA : Nat → ClassId} {ad : Nat → Nat} {al : Nat → Prop} {w : zW} {k : Int32 → zW → Prop} {a0 : Nat} {x1 : Int32} {x2 : Int32} (ha0 : al a0 ∧ zsh a0 = 0)  (hf : fX0_means a0 x1 x2 w k) : zmetI l yX0_means cX0_means 4 (some .boolean) 0 [.ref (ad a0), .int x1, .int x2] D dA true ad al w k := by
  refine zmetZ_of (by decide) (Nat.le_of_ble_eq_true rfl) ?_
  intro p e R s m below meth c Q H ls args locs cells slots X hr hQ hR hl
  have hx := X.1
  have hb := X.2.1
  have hml := X.2.2.1
  have hown := X.2.2.2.1
  have hts := X.2.2.2.2.1
  unfold fX0_means at hf
  have hl : lv_has ls 4 [(0, .ref (ad a0)), (1, .int x1), (2, .int x2)] := hl
  refine lv_iconst (v := (0 : Int32)) hx hb dX0_means_0 (by decide) ?_
  refine lv_istore_n (lv' := [(3, .int (0 : Int32)), (0, .ref (ad a0)), (1, .int x1), (2, .int x2)]) hx hb dX0_means_1 rfl hl (by decide) rfl (fun ls hl => ?_)
  obtain ⟨n9, hf⟩ := hf
  exact mX0_means_L2 X hr hQ ha0  n9 x1 x2 (0 : Int32) w _ _ _ hf hR (lv_sub hl [1, 2, 3, 0] rfl)
/-! X0_meaningBelow -/
def fX0_meaningBelow (a0 : Nat) (x1 : Int32) (x2 : Int64) (w : zW) (k : Int32 → zW → Prop) : Prop :=
  vp_in x1 4 ∧ 
  ∀ v2 : Int32, v2 = gI w (a0 + 4) x1.toNatClampNeg →
  ((v2 ≤ 0 →
    k (0 : Int32) w) ∧
   (¬ v2 ≤ 0 →
    ((0 ≤ (lg_cmp x2 (0 : Int64)) →
      ¬ v2.toInt64 = 0 ∧
      ∀ v6 : Int32, v6 = (x2 % v2.toInt64).toInt32 →
      (((9 : Int32) ≤ v6 →
        k (0 : Int32) w) ∧
       (¬ (9 : Int32) ≤ v6 →
        vp_in v6 9 ∧ 
        k (gI w (a0 + 5 + 1 + x1.toNatClampNeg) v6.toNatClampNeg) w))) ∧
     (¬ 0 ≤ (lg_cmp x2 (0 : Int64)) →
      k (0 : Int32) w))))
set_option maxHeartbeats 4000000 in
set_option maxRecDepth 100000 in
theorem mX0_meaningBelow {l : Launch} {D : va_G} {dA : Nat → ClassId} {ad : Nat → Nat} {al : Nat → Prop} {w : zW} {k : Int32 → zW → Prop} {a0 : Nat} {x1 : Int32} {x2 : Int64} (ha0 : al a0 ∧ zsh a0 = 0)  (hf : fX0_meaningBelow a0 x1 x2 w k) : zmetI l yX0_meaningBelow cX0_meaningBelow 6 (some .int) 0 [.ref (ad a0), .int x1, .long x2] D dA true ad al w k := by
  refine zmetI_of (by decide) (Nat.le_of_ble_eq_true rfl) ?_
  intro p e R s m below meth c Q H ls args locs cells slots X hr hQ hR hl
  have hx := X.1
  have hb := X.2.1
  have hml := X.2.2.1
  have hown := X.2.2.2.1
  have hts := X.2.2.2.2.1
  unfold fX0_meaningBelow at hf
  have hl : lv_has ls 6 [(0, .ref (ad a0)), (1, .int x1), (2, .long x2)] := hl
  refine lv_aload_n hx hb dX0_meaningBelow_0 rfl (lv_at hl 0 rfl) ?_
  refine z_getS X hR ha0.1 ha0.2 (by decide) zfd_X0_22 rfl (r := a0 + 4) (zst_0 ha0.2 4 rfl) dX0_meaningBelow_1 ?_
  refine lv_iload_n hx hb dX0_meaningBelow_4 rfl (lv_at hl 1 rfl) ?_
  obtain ⟨hb1, hf⟩ := hf
  refine z_iald X hR (zoff hR ha0.2 zo_0_4).1 (zoff hR ha0.2 zo_0_4).2.1 (zoff hR ha0.2 zo_0_4).2.2 hb1 dX0_meaningBelow_5 ?_
  refine lv_topi (fun v2 hv2 => ?_)
  replace hf := hf v2 hv2
  refine lv_istore (lv' := [(4, .int v2), (0, .ref (ad a0)), (1, .int x1), (2, .long x2)]) hx hb dX0_meaningBelow_6 hl (by decide) rfl (fun ls hl => ?_)
  refine lv_iload hx hb dX0_meaningBelow_8 (lv_at hl 0 rfl) ?_
  refine lv_if_le (tgt := 19) hx hb dX0_meaningBelow_10 (by decide) (fun c3 => ?_) (fun c3 => ?_)
  · replace hf := hf.1 c3
    refine lv_iconst (v := (0 : Int32)) hx hb dX0_meaningBelow_19 (by decide) ?_
    exact hQ _ _ _ _ _ _ hf hR dX0_meaningBelow_20
  · replace hf := hf.2 c3
    refine lv_lload_n hx hb dX0_meaningBelow_13 rfl (lv_at hl 3 rfl) ?_
    refine lv_lconst (v := (0 : Int64)) hx hb dX0_meaningBelow_14 (by decide) ?_
    refine W.lcmp hx hb dX0_meaningBelow_15 ?_
    refine lv_if_ge (tgt := 21) hx hb dX0_meaningBelow_16 (by decide) (fun c4 => ?_) (fun c4 => ?_)
    · replace hf := hf.1 c4
      refine lv_lload_n hx hb dX0_meaningBelow_21 rfl (lv_at hl 3 rfl) ?_
      refine lv_iload hx hb dX0_meaningBelow_22 (lv_at hl 0 rfl) ?_
      refine lv_i2l hx hb dX0_meaningBelow_24 rfl ?_
      obtain ⟨hd5, hf⟩ := hf
      refine z_lrem X dX0_meaningBelow_25 hd5 ?_
      refine lv_l2i hx hb dX0_meaningBelow_26 rfl ?_
      refine lv_topi (fun v6 hv6 => ?_)
      replace hf := hf v6 hv6
      refine lv_istore (lv' := [(5, .int v6), (4, .int v2), (0, .ref (ad a0)), (1, .int x1), (2, .long x2)]) hx hb dX0_meaningBelow_27 hl (by decide) rfl (fun ls hl => ?_)
      refine lv_iload hx hb dX0_meaningBelow_29 (lv_at hl 0 rfl) ?_
      refine lv_bipush (v := (9 : Int32)) hx hb dX0_meaningBelow_31 (by decide) ?_
      refine lv_icmp_ge (tgt := 48) hx hb dX0_meaningBelow_33 (by decide) (fun c7 => ?_) (fun c7 => ?_)
      · replace hf := hf.1 c7
        refine lv_iconst (v := (0 : Int32)) hx hb dX0_meaningBelow_48 (by decide) ?_
        exact hQ _ _ _ _ _ _ hf hR dX0_meaningBelow_49
      · replace hf := hf.2 c7
        refine lv_aload_n hx hb dX0_meaningBelow_36 rfl (lv_at hl 2 rfl) ?_
        refine z_getS X hR ha0.1 ha0.2 (by decide) zfd_X0_27 rfl (r := a0 + 5) (zst_0 ha0.2 5 rfl) dX0_meaningBelow_37 ?_
        refine lv_iload_n hx hb dX0_meaningBelow_40 rfl (lv_at hl 3 rfl) ?_
        refine z_aald X hR (zoff hR ha0.2 zo_0_5).1 (zoff hR ha0.2 zo_0_5).2.1 (zoff hR ha0.2 zo_0_5).2.2 hb1 dX0_meaningBelow_41 ?_
        refine lv_iload hx hb dX0_meaningBelow_42 (lv_at hl 0 rfl) ?_
        obtain ⟨hb8, hf⟩ := hf
        refine z_iald X hR (zrow hR ha0.2 zr_0_5 hb1).1 (zrow hR ha0.2 zr_0_5 hb1).2.1 (zrow hR ha0.2 zr_0_5 hb1).2.2 hb8 dX0_meaningBelow_44 ?_
        refine lv_goto (tgt := 49) hx hb dX0_meaningBelow_45 (by decide) ?_
        exact hQ _ _ _ _ _ _ hf hR dX0_meaningBelow_49
    · replace hf := hf.2 c4
      refine lv_iconst (v := (0 : Int32)) hx hb dX0_meaningBelow_19 (by decide) ?_
      exact hQ _ _ _ _ _ _ hf hR dX0_meaningBelow_20
/-! X0_dictionaries -/
def fX0_dictionaries_L4 (a0 : Nat) (k : Int32 → zW → Prop) : Nat → Int32 → Int32 → zW → Prop
  | 0 => fun _ _ _ => False
  | n + 1 => fun x1 x2 w =>
    (((gI w a0 0) ≤ x2 →
      k x1 w) ∧
     (¬ (gI w a0 0) ≤ x2 →
      (((4 : Int32) ≤ x2 →
        k x1 w) ∧
       (¬ (4 : Int32) ≤ x2 →
        vp_in x2 4 ∧ 
        ∀ v4 : Int32, v4 = x1 * (gI w (a0 + 4) x2.toNatClampNeg) →
        fX0_dictionaries_L4 a0 k n v4 (x2 + (1 : Int32)) w))))
set_option maxHeartbeats 4000000 in
set_option maxRecDepth 100000 in
theorem mX0_dictionaries_L4 {k : Int32 → zW → Prop} {a0 : Nat} (X : zCx p s m args meth c cX0_dictionaries 3 RX0 (some .int)) (hr : zRm R 0 cells slots) (hQ : zRetI p l e R s m args below meth c cells slots Q D dA true ad0 al0 ad al cX0_dictionaries k) (ha0 : al a0 ∧ zsh a0 = 0)  : ∀ (n : Nat) (x1 : Int32) (x2 : Int32) (w : zW) (H : Heap) (locs : List Loc) (ls : Array Slot), fX0_dictionaries_L4 a0 k n x1 x2 w → zSt D dA true ad0 al0 ad al w s H locs → lv_has ls 3 [(0, .ref (ad a0)), (1, .int x1), (2, .int x2)] → W p l e R s m args below meth c H locs cells slots Q (F0 m 4 ls []) := by
  intro n
  induction n with
  | zero => exact fun _ _ _ _ _ _ hf => hf.elim
  | succ n ih =>
    intro x1 x2 w H locs ls hf hR hl
    have hx := X.1
    have hb := X.2.1
    have hml := X.2.2.1
    have hown := X.2.2.2.1
    have hts := X.2.2.2.2.1
    rw [fX0_dictionaries_L4] at hf
    refine lv_iload_n hx hb dX0_dictionaries_4 rfl (lv_at hl 2 rfl) ?_
    refine lv_aload_n hx hb dX0_dictionaries_5 rfl (lv_at hl 0 rfl) ?_
    refine z_getI X hR ha0.1 ha0.2 (by decide) zfd_X0_51 rfl dX0_dictionaries_6 ?_
    refine lv_icmp_ge (tgt := 32) hx hb dX0_dictionaries_9 (by decide) (fun c1 => ?_) (fun c1 => ?_)
    · replace hf := hf.1 c1
      refine lv_iload_n hx hb dX0_dictionaries_32 rfl (lv_at hl 1 rfl) ?_
      exact hQ _ _ _ _ _ _ hf hR dX0_dictionaries_33
    · replace hf := hf.2 c1
      refine lv_iload_n hx hb dX0_dictionaries_12 rfl (lv_at hl 2 rfl) ?_
      refine lv_iconst (v := (4 : Int32)) hx hb dX0_dictionaries_13 (by decide) ?_
      refine lv_icmp_ge (tgt := 32) hx hb dX0_dictionaries_14 (by decide) (fun c2 => ?_) (fun c2 => ?_)
      · replace hf := hf.1 c2
        refine lv_iload_n hx hb dX0_dictionaries_32 rfl (lv_at hl 1 rfl) ?_
        exact hQ _ _ _ _ _ _ hf hR dX0_dictionaries_33
      · replace hf := hf.2 c2
        refine lv_iload_n hx hb dX0_dictionaries_17 rfl (lv_at hl 1 rfl) ?_
        refine lv_aload_n hx hb dX0_dictionaries_18 rfl (lv_at hl 0 rfl) ?_
        refine z_getS X hR ha0.1 ha0.2 (by decide) zfd_X0_22 rfl (r := a0 + 4) (zst_0 ha0.2 4 rfl) dX0_dictionaries_19 ?_
        refine lv_iload_n hx hb dX0_dictionaries_22 rfl (lv_at hl 2 rfl) ?_
        obtain ⟨hb3, hf⟩ := hf
        refine z_iald X hR (zoff hR ha0.2 zo_0_4).1 (zoff hR ha0.2 zo_0_4).2.1 (zoff hR ha0.2 zo_0_4).2.2 hb3 dX0_dictionaries_23 ?_
        refine lv_imul hx hb dX0_dictionaries_24 ?_
        refine lv_topi (fun v4 hv4 => ?_)
        replace hf := hf v4 hv4
        refine lv_istore_n (lv' := [(1, .int v4), (0, .ref (ad a0)), (2, .int x2)]) hx hb dX0_dictionaries_25 rfl hl (by decide) rfl (fun ls hl => ?_)
        refine lv_iinc (v := x2 + (1 : Int32)) (lv' := [(2, .int (x2 + (1 : Int32))), (1, .int v4), (0, .ref (ad a0))]) hx hb dX0_dictionaries_26 hl (k := 2) rfl rfl (by decide) rfl (fun ls hl => ?_)
        refine lv_goto (tgt := 4) hx hb dX0_dictionaries_29 (by decide) ?_
        exact ih v4 (x2 + (1 : Int32)) w _ _ _ hf hR (lv_sub hl [2, 1, 0] rfl)
def fX0_dictionaries (a0 : Nat) (w : zW) (k : Int32 → zW → Prop) : Prop :=
  ∃ n9, fX0_dictionaries_L4 a0 k n9 (1 : Int32) (0 : Int32) w
set_option maxHeartbeats 4000000 in
set_option maxRecDepth 100000 in
theorem mX0_dictionaries {l : Launch} {D : va_G} {dA : Nat → ClassId} {ad : Nat → Nat} {al : Nat → Prop} {w : zW} {k : Int32 → zW → Prop} {a0 : Nat} (ha0 : al a0 ∧ zsh a0 = 0)  (hf : fX0_dictionaries a0 w k) : zmetI l yX0_dictionaries cX0_dictionaries 3 (some .int) 0 [.ref (ad a0)] D dA true ad al w k := by
  refine zmetI_of (by decide) (Nat.le_of_ble_eq_true rfl) ?_
  intro p e R s m below meth c Q H ls args locs cells slots X hr hQ hR hl
  have hx := X.1
  have hb := X.2.1
  have hml := X.2.2.1
  have hown := X.2.2.2.1
  have hts := X.2.2.2.2.1
  unfold fX0_dictionaries at hf
  have hl : lv_has ls 3 [(0, .ref (ad a0))] := hl
  refine lv_iconst (v := (1 : Int32)) hx hb dX0_dictionaries_0 (by decide) ?_
  refine lv_istore_n (lv' := [(1, .int (1 : Int32)), (0, .ref (ad a0))]) hx hb dX0_dictionaries_1 rfl hl (by decide) rfl (fun ls hl => ?_)
  refine lv_iconst (v := (0 : Int32)) hx hb dX0_dictionaries_2 (by decide) ?_
  refine lv_istore_n (lv' := [(2, .int (0 : Int32)), (1, .int (1 : Int32)), (0, .ref (ad a0))]) hx hb dX0_dictionaries_3 rfl hl (by decide) rfl (fun ls hl => ?_)
  obtain ⟨n9, hf⟩ := hf
  exact mX0_dictionaries_L4 X hr hQ ha0  n9 (1 : Int32) (0 : Int32) w _ _ _ hf hR (lv_sub hl [2, 1, 0] rfl)
/-! X0_takesOf -/
def fX0_takesOf_L5 (a0 : Nat) (k : Int32 → zW → Prop) : Nat → Int32 → Int32 → Int32 → Int32 → zW → Prop
  | 0 => fun _ _ _ _ _ => False
  | n + 1 => fun x1 x2 x3 x4 w =>
    (((gI w a0 0) ≤ x4 →
      k x3 w) ∧
     (¬ (gI w a0 0) ≤ x4 →
      (((4 : Int32) ≤ x4 →
        k x3 w) ∧
       (¬ (4 : Int32) ≤ x4 →
        vp_in x1 8 ∧ 
        vp_in x4 4 ∧ 
        ∀ v5 : Int32, v5 = x3 + ((gI w (a0 + 20 + 1 + x1.toNatClampNeg) x4.toNatClampNeg) * (((x2 >>> (((4 : Int32) * x4) &&& 31)) &&& (15 : Int32)) / (3 : Int32))) →
        fX0_takesOf_L5 a0 k n x1 x2 v5 (x4 + (1 : Int32)) w))))
set_option maxHeartbeats 4000000 in
set_option maxRecDepth 100000 in
theorem mX0_takesOf_L5 {k : Int32 → zW → Prop} {a0 : Nat} (X : zCx p s m args meth c cX0_takesOf 5 RX0 (some .int)) (hr : zRm R 0 cells slots) (hQ : zRetI p l e R s m args below meth c cells slots Q D dA true ad0 al0 ad al cX0_takesOf k) (ha0 : al a0 ∧ zsh a0 = 0)  : ∀ (n : Nat) (x1 : Int32) (x2 : Int32) (x3 : Int32) (x4 : Int32) (w : zW) (H : Heap) (locs : List Loc) (ls : Array Slot), fX0_takesOf_L5 a0 k n x1 x2 x3 x4 w → zSt D dA true ad0 al0 ad al w s H locs → lv_has ls 5 [(0, .ref (ad a0)), (1, .int x1), (2, .int x2), (3, .int x3), (4, .int x4)] → W p l e R s m args below meth c H locs cells slots Q (F0 m 5 ls []) := by
  intro n
  induction n with
  | zero => exact fun _ _ _ _ _ _ _ _ hf => hf.elim
  | succ n ih =>
    intro x1 x2 x3 x4 w H locs ls hf hR hl
    have hx := X.1
    have hb := X.2.1
    have hml := X.2.2.1
    have hown := X.2.2.2.1
    have hts := X.2.2.2.2.1
    rw [fX0_takesOf_L5] at hf
    refine lv_iload hx hb dX0_takesOf_5 (lv_at hl 4 rfl) ?_
    refine lv_aload_n hx hb dX0_takesOf_7 rfl (lv_at hl 0 rfl) ?_
    refine z_getI X hR ha0.1 ha0.2 (by decide) zfd_X0_51 rfl dX0_takesOf_8 ?_
    refine lv_icmp_ge (tgt := 50) hx hb dX0_takesOf_11 (by decide) (fun c1 => ?_) (fun c1 => ?_)
    · replace hf := hf.1 c1
      refine lv_iload_n hx hb dX0_takesOf_50 rfl (lv_at hl 3 rfl) ?_
      exact hQ _ _ _ _ _ _ hf hR dX0_takesOf_51
    · replace hf := hf.2 c1
      refine lv_iload hx hb dX0_takesOf_14 (lv_at hl 4 rfl) ?_
      refine lv_iconst (v := (4 : Int32)) hx hb dX0_takesOf_16 (by decide) ?_
      refine lv_icmp_ge (tgt := 50) hx hb dX0_takesOf_17 (by decide) (fun c2 => ?_) (fun c2 => ?_)
      · replace hf := hf.1 c2
        refine lv_iload_n hx hb dX0_takesOf_50 rfl (lv_at hl 3 rfl) ?_
        exact hQ _ _ _ _ _ _ hf hR dX0_takesOf_51
      · replace hf := hf.2 c2
        refine lv_iload_n hx hb dX0_takesOf_20 rfl (lv_at hl 3 rfl) ?_
        refine lv_aload_n hx hb dX0_takesOf_21 rfl (lv_at hl 0 rfl) ?_
        refine z_getS X hR ha0.1 ha0.2 (by decide) zfd_X0_36 rfl (r := a0 + 20) (zst_0 ha0.2 10 rfl) dX0_takesOf_22 ?_
        refine lv_iload_n hx hb dX0_takesOf_25 rfl (lv_at hl 1 rfl) ?_
        obtain ⟨hb3, hf⟩ := hf
        refine z_aald X hR (zoff hR ha0.2 zo_0_20).1 (zoff hR ha0.2 zo_0_20).2.1 (zoff hR ha0.2 zo_0_20).2.2 hb3 dX0_takesOf_26 ?_
        refine lv_iload hx hb dX0_takesOf_27 (lv_at hl 4 rfl) ?_
        obtain ⟨hb4, hf⟩ := hf
        refine z_iald X hR (zrow hR ha0.2 zr_0_20 hb3).1 (zrow hR ha0.2 zr_0_20 hb3).2.1 (zrow hR ha0.2 zr_0_20 hb3).2.2 hb4 dX0_takesOf_29 ?_
        refine lv_iload_n hx hb dX0_takesOf_30 rfl (lv_at hl 2 rfl) ?_
        refine lv_iconst (v := (4 : Int32)) hx hb dX0_takesOf_31 (by decide) ?_
        refine lv_iload hx hb dX0_takesOf_32 (lv_at hl 4 rfl) ?_
        refine lv_imul hx hb dX0_takesOf_34 ?_
        refine lv_ishr hx hb dX0_takesOf_35 ?_
        refine lv_bipush (v := (15 : Int32)) hx hb dX0_takesOf_36 (by decide) ?_
        refine lv_iand hx hb dX0_takesOf_38 ?_
        refine lv_iconst (v := (3 : Int32)) hx hb dX0_takesOf_39 (by decide) ?_
        refine lv_idiv hx hb dX0_takesOf_40 (by decide) ?_
        refine lv_imul hx hb dX0_takesOf_41 ?_
        refine lv_iadd hx hb dX0_takesOf_42 ?_
        refine lv_topi (fun v5 hv5 => ?_)
        replace hf := hf v5 hv5
        refine lv_istore_n (lv' := [(3, .int v5), (0, .ref (ad a0)), (1, .int x1), (2, .int x2), (4, .int x4)]) hx hb dX0_takesOf_43 rfl hl (by decide) rfl (fun ls hl => ?_)
        refine lv_iinc (v := x4 + (1 : Int32)) (lv' := [(4, .int (x4 + (1 : Int32))), (3, .int v5), (0, .ref (ad a0)), (1, .int x1), (2, .int x2)]) hx hb dX0_takesOf_44 hl (k := 4) rfl rfl (by decide) rfl (fun ls hl => ?_)
        refine lv_goto (tgt := 5) hx hb dX0_takesOf_47 (by decide) ?_
        exact ih x1 x2 v5 (x4 + (1 : Int32)) w _ _ _ hf hR (lv_sub hl [2, 3, 4, 1, 0] rfl)
def fX0_takesOf (a0 : Nat) (x1 : Int32) (x2 : Int32) (w : zW) (k : Int32 → zW → Prop) : Prop :=
  ∃ n9, fX0_takesOf_L5 a0 k n9 x1 x2 (0 : Int32) (0 : Int32) w
set_option maxHeartbeats 4000000 in
set_option maxRecDepth 100000 in
theorem mX0_takesOf {l : Launch} {D : va_G} {dA : Nat → ClassId} {ad : Nat → Nat} {al : Nat → Prop} {w : zW} {k : Int32 → zW → Prop} {a0 : Nat} {x1 : Int32} {x2 : Int32} (ha0 : al a0 ∧ zsh a0 = 0)  (hf : fX0_takesOf a0 x1 x2 w k) : zmetI l yX0_takesOf cX0_takesOf 5 (some .int) 0 [.ref (ad a0), .int x1, .int x2] D dA true ad al w k := by
  refine zmetI_of (by decide) (Nat.le_of_ble_eq_true rfl) ?_
  intro p e R s m below meth c Q H ls args locs cells slots X hr hQ hR hl
  have hx := X.1
  have hb := X.2.1
  have hml := X.2.2.1
  have hown := X.2.2.2.1
  have hts := X.2.2.2.2.1
  unfold fX0_takesOf at hf
  have hl : lv_has ls 5 [(0, .ref (ad a0)), (1, .int x1), (2, .int x2)] := hl
  refine lv_iconst (v := (0 : Int32)) hx hb dX0_takesOf_0 (by decide) ?_
  refine lv_istore_n (lv' := [(3, .int (0 : Int32)), (0, .ref (ad a0)), (1, .int x1), (2, .int x2)]) hx hb dX0_takesOf_1 rfl hl (by decide) rfl (fun ls hl => ?_)
  refine lv_iconst (v := (0 : Int32)) hx hb dX0_takesOf_2 (by decide) ?_
  refine lv_istore (lv' := [(4, .int (0 : Int32)), (3, .int (0 : Int32)), (0, .ref (ad a0)), (1, .int x1), (2, .int x2)]) hx hb dX0_takesOf_3 hl (by decide) rfl (fun ls hl => ?_)
  obtain ⟨n9, hf⟩ := hf
  exact mX0_takesOf_L5 X hr hQ ha0  n9 x1 x2 (0 : Int32) (0 : Int32) w _ _ _ hf hR (lv_sub hl [2, 3, 4, 1, 0] rfl)
/-! X0_leavesOf -/
def fX0_leavesOf_L5 (a0 : Nat) (k : Int32 → zW → Prop) : Nat → Int32 → Int32 → Int32 → Int32 → zW → Prop
  | 0 => fun _ _ _ _ _ => False
  | n + 1 => fun x1 x2 x3 x4 w =>
    (((gI w a0 0) ≤ x4 →
      k x3 w) ∧
     (¬ (gI w a0 0) ≤ x4 →
      (((4 : Int32) ≤ x4 →
        k x3 w) ∧
       (¬ (4 : Int32) ≤ x4 →
        vp_in x1 8 ∧ 
        vp_in x4 4 ∧ 
        ∀ v5 : Int32, v5 = x3 + ((gI w (a0 + 20 + 1 + x1.toNatClampNeg) x4.toNatClampNeg) * (((x2 >>> (((4 : Int32) * x4) &&& 31)) &&& (15 : Int32)) % (3 : Int32))) →
        fX0_leavesOf_L5 a0 k n x1 x2 v5 (x4 + (1 : Int32)) w))))
set_option maxHeartbeats 4000000 in
set_option maxRecDepth 100000 in
theorem mX0_leavesOf_L5 {k : Int32 → zW → Prop} {a0 : Nat} (X : zCx p s m args meth c cX0_leavesOf 5 RX0 (some .int)) (hr : zRm R 0 cells slots) (hQ : zRetI p l e R s m args below meth c cells slots Q D dA true ad0 al0 ad al cX0_leavesOf k) (ha0 : al a0 ∧ zsh a0 = 0)  : ∀ (n : Nat) (x1 : Int32) (x2 : Int32) (x3 : Int32) (x4 : Int32) (w : zW) (H : Heap) (locs : List Loc) (ls : Array Slot), fX0_leavesOf_L5 a0 k n x1 x2 x3 x4 w → zSt D dA true ad0 al0 ad al w s H locs → lv_has ls 5 [(0, .ref (ad a0)), (1, .int x1), (2, .int x2), (3, .int x3), (4, .int x4)] → W p l e R s m args below meth c H locs cells slots Q (F0 m 5 ls []) := by
  intro n
  induction n with
  | zero => exact fun _ _ _ _ _ _ _ _ hf => hf.elim
  | succ n ih =>
    intro x1 x2 x3 x4 w H locs ls hf hR hl
    have hx := X.1
    have hb := X.2.1
    have hml := X.2.2.1
    have hown := X.2.2.2.1
    have hts := X.2.2.2.2.1
    rw [fX0_leavesOf_L5] at hf
    refine lv_iload hx hb dX0_leavesOf_5 (lv_at hl 4 rfl) ?_
    refine lv_aload_n hx hb dX0_leavesOf_7 rfl (lv_at hl 0 rfl) ?_
    refine z_getI X hR ha0.1 ha0.2 (by decide) zfd_X0_51 rfl dX0_leavesOf_8 ?_
    refine lv_icmp_ge (tgt := 50) hx hb dX0_leavesOf_11 (by decide) (fun c1 => ?_) (fun c1 => ?_)
    · replace hf := hf.1 c1
      refine lv_iload_n hx hb dX0_leavesOf_50 rfl (lv_at hl 3 rfl) ?_
      exact hQ _ _ _ _ _ _ hf hR dX0_leavesOf_51
    · replace hf := hf.2 c1
      refine lv_iload hx hb dX0_leavesOf_14 (lv_at hl 4 rfl) ?_
      refine lv_iconst (v := (4 : Int32)) hx hb dX0_leavesOf_16 (by decide) ?_
      refine lv_icmp_ge (tgt := 50) hx hb dX0_leavesOf_17 (by decide) (fun c2 => ?_) (fun c2 => ?_)
      · replace hf := hf.1 c2
        refine lv_iload_n hx hb dX0_leavesOf_50 rfl (lv_at hl 3 rfl) ?_
        exact hQ _ _ _ _ _ _ hf hR dX0_leavesOf_51
      · replace hf := hf.2 c2
        refine lv_iload_n hx hb dX0_leavesOf_20 rfl (lv_at hl 3 rfl) ?_
        refine lv_aload_n hx hb dX0_leavesOf_21 rfl (lv_at hl 0 rfl) ?_
        refine z_getS X hR ha0.1 ha0.2 (by decide) zfd_X0_36 rfl (r := a0 + 20) (zst_0 ha0.2 10 rfl) dX0_leavesOf_22 ?_
        refine lv_iload_n hx hb dX0_leavesOf_25 rfl (lv_at hl 1 rfl) ?_
        obtain ⟨hb3, hf⟩ := hf
        refine z_aald X hR (zoff hR ha0.2 zo_0_20).1 (zoff hR ha0.2 zo_0_20).2.1 (zoff hR ha0.2 zo_0_20).2.2 hb3 dX0_leavesOf_26 ?_
        refine lv_iload hx hb dX0_leavesOf_27 (lv_at hl 4 rfl) ?_
        obtain ⟨hb4, hf⟩ := hf
        refine z_iald X hR (zrow hR ha0.2 zr_0_20 hb3).1 (zrow hR ha0.2 zr_0_20 hb3).2.1 (zrow hR ha0.2 zr_0_20 hb3).2.2 hb4 dX0_leavesOf_29 ?_
        refine lv_iload_n hx hb dX0_leavesOf_30 rfl (lv_at hl 2 rfl) ?_
        refine lv_iconst (v := (4 : Int32)) hx hb dX0_leavesOf_31 (by decide) ?_
        refine lv_iload hx hb dX0_leavesOf_32 (lv_at hl 4 rfl) ?_
        refine lv_imul hx hb dX0_leavesOf_34 ?_
        refine lv_ishr hx hb dX0_leavesOf_35 ?_
        refine lv_bipush (v := (15 : Int32)) hx hb dX0_leavesOf_36 (by decide) ?_
        refine lv_iand hx hb dX0_leavesOf_38 ?_
        refine lv_iconst (v := (3 : Int32)) hx hb dX0_leavesOf_39 (by decide) ?_
        refine z_irem X dX0_leavesOf_40 (by decide) ?_
        refine lv_imul hx hb dX0_leavesOf_41 ?_
        refine lv_iadd hx hb dX0_leavesOf_42 ?_
        refine lv_topi (fun v5 hv5 => ?_)
        replace hf := hf v5 hv5
        refine lv_istore_n (lv' := [(3, .int v5), (0, .ref (ad a0)), (1, .int x1), (2, .int x2), (4, .int x4)]) hx hb dX0_leavesOf_43 rfl hl (by decide) rfl (fun ls hl => ?_)
        refine lv_iinc (v := x4 + (1 : Int32)) (lv' := [(4, .int (x4 + (1 : Int32))), (3, .int v5), (0, .ref (ad a0)), (1, .int x1), (2, .int x2)]) hx hb dX0_leavesOf_44 hl (k := 4) rfl rfl (by decide) rfl (fun ls hl => ?_)
        refine lv_goto (tgt := 5) hx hb dX0_leavesOf_47 (by decide) ?_
        exact ih x1 x2 v5 (x4 + (1 : Int32)) w _ _ _ hf hR (lv_sub hl [2, 3, 4, 1, 0] rfl)
def fX0_leavesOf (a0 : Nat) (x1 : Int32) (x2 : Int32) (w : zW) (k : Int32 → zW → Prop) : Prop :=
  ∃ n9, fX0_leavesOf_L5 a0 k n9 x1 x2 (0 : Int32) (0 : Int32) w
set_option maxHeartbeats 4000000 in
set_option maxRecDepth 100000 in
theorem mX0_leavesOf {l : Launch} {D : va_G} {dA : Nat → ClassId} {ad : Nat → Nat} {al : Nat → Prop} {w : zW} {k : Int32 → zW → Prop} {a0 : Nat} {x1 : Int32} {x2 : Int32} (ha0 : al a0 ∧ zsh a0 = 0)  (hf : fX0_leavesOf a0 x1 x2 w k) : zmetI l yX0_leavesOf cX0_leavesOf 5 (some .int) 0 [.ref (ad a0), .int x1, .int x2] D dA true ad al w k := by
  refine zmetI_of (by decide) (Nat.le_of_ble_eq_true rfl) ?_
  intro p e R s m below meth c Q H ls args locs cells slots X hr hQ hR hl
  have hx := X.1
  have hb := X.2.1
  have hml := X.2.2.1
  have hown := X.2.2.2.1
  have hts := X.2.2.2.2.1
  unfold fX0_leavesOf at hf
  have hl : lv_has ls 5 [(0, .ref (ad a0)), (1, .int x1), (2, .int x2)] := hl
  refine lv_iconst (v := (0 : Int32)) hx hb dX0_leavesOf_0 (by decide) ?_
  refine lv_istore_n (lv' := [(3, .int (0 : Int32)), (0, .ref (ad a0)), (1, .int x1), (2, .int x2)]) hx hb dX0_leavesOf_1 rfl hl (by decide) rfl (fun ls hl => ?_)
  refine lv_iconst (v := (0 : Int32)) hx hb dX0_leavesOf_2 (by decide) ?_
  refine lv_istore (lv' := [(4, .int (0 : Int32)), (3, .int (0 : Int32)), (0, .ref (ad a0)), (1, .int x1), (2, .int x2)]) hx hb dX0_leavesOf_3 hl (by decide) rfl (fun ls hl => ?_)
  obtain ⟨n9, hf⟩ := hf
  exact mX0_leavesOf_L5 X hr hQ ha0  n9 x1 x2 (0 : Int32) (0 : Int32) w _ _ _ hf hR (lv_sub hl [2, 3, 4, 1, 0] rfl)
/-! X0_excess -/
def fX0_excess_J19 (a0 : Nat) (k : Int32 → zW → Prop) (x1 : Int32) (x2 : Int32) (t0 : Int32) (w : zW) : Prop :=
  fX0_takesOf a0 x1 x2 w (fun r3 w3 =>
  k (r3 - t0) w3)
set_option maxHeartbeats 4000000 in
set_option maxRecDepth 100000 in
theorem mX0_excess_J19 {k : Int32 → zW → Prop} {a0 : Nat} (X : zCx p s m args meth c cX0_excess 4 RX0 (some .int)) (hr : zRm R 1 cells slots) (hQ : zRetI p l e R s m args below meth c cells slots Q D dA true ad0 al0 ad al cX0_excess k) (ha0 : al a0 ∧ zsh a0 = 0)  {x1 : Int32} {x2 : Int32} {t0 : Int32} {w : zW} {H : Heap} {locs : List Loc} {ls : Array Slot} (hf : fX0_excess_J19 a0 k x1 x2 t0 w) (hR : zSt D dA true ad0 al0 ad al w s H locs) (hl : lv_has ls 4 [(0, .ref (ad a0)), (1, .int x1), (2, .int x2)]) : W p l e R s m args below meth c H locs cells slots Q (F0 m 19 ls [.int t0]) := by
  have hx := X.1
  have hb := X.2.1
  have hml := X.2.2.1
  have hown := X.2.2.2.1
  have hts := X.2.2.2.2.1
  unfold fX0_excess_J19 at hf
  refine lv_istore_n (lv' := [(3, .int t0), (0, .ref (ad a0)), (1, .int x1), (2, .int x2)]) hx hb dX0_excess_19 rfl hl (by decide) rfl (fun ls hl => ?_)
  refine lv_aload_n hx hb dX0_excess_20 rfl (lv_at hl 1 rfl) ?_
  refine lv_iload_n hx hb dX0_excess_21 rfl (lv_at hl 2 rfl) ?_
  refine lv_iload_n hx hb dX0_excess_22 rfl (lv_at hl 3 rfl) ?_
  refine z_callVI (fr1 := 0) (b := a0) (As := [.int x1, .int x2]) (rest := []) X (hr.le (by decide)) hR zy_X0_takesOf zq_998 ha0.1 (by rw [ha0.2]; rfl) rfl (mX0_takesOf ⟨ha0.1, ha0.2⟩ hf) rfl hl (Nat.le_of_ble_eq_true rfl) dX0_excess_23 rfl (fun r3 w3 H locs hf hR => ?_)
  refine lv_iload_n hx hb dX0_excess_26 rfl (lv_at hl 0 rfl) ?_
  refine lv_isub hx hb dX0_excess_27 ?_
  exact hQ _ _ _ _ _ _ hf hR dX0_excess_28
def fX0_excess (a0 : Nat) (x1 : Int32) (x2 : Int32) (w : zW) (k : Int32 → zW → Prop) : Prop :=
  ((¬ x1 = 0 →
    fX0_leavesOf a0 (x1 - (1 : Int32)) x2 w (fun r2 w2 =>
    fX0_excess_J19 a0 k x1 x2 r2 w2)) ∧
   (x1 = 0 →
    fX0_excess_J19 a0 k x1 x2 (gI w a0 6) w))
set_option maxHeartbeats 4000000 in
set_option maxRecDepth 100000 in
theorem mX0_excess {l : Launch} {D : va_G} {dA : Nat → ClassId} {ad : Nat → Nat} {al : Nat → Prop} {w : zW} {k : Int32 → zW → Prop} {a0 : Nat} {x1 : Int32} {x2 : Int32} (ha0 : al a0 ∧ zsh a0 = 0)  (hf : fX0_excess a0 x1 x2 w k) : zmetI l yX0_excess cX0_excess 4 (some .int) 1 [.ref (ad a0), .int x1, .int x2] D dA true ad al w k := by
  refine zmetI_of (by decide) (Nat.le_of_ble_eq_true rfl) ?_
  intro p e R s m below meth c Q H ls args locs cells slots X hr hQ hR hl
  have hx := X.1
  have hb := X.2.1
  have hml := X.2.2.1
  have hown := X.2.2.2.1
  have hts := X.2.2.2.2.1
  unfold fX0_excess at hf
  have hl : lv_has ls 4 [(0, .ref (ad a0)), (1, .int x1), (2, .int x2)] := hl
  refine lv_iload_n hx hb dX0_excess_0 rfl (lv_at hl 1 rfl) ?_
  refine lv_if_ne (tgt := 11) hx hb dX0_excess_1 (by decide) (fun c1 => ?_) (fun c1 => ?_)
  · replace hf := hf.1 c1
    refine lv_aload_n hx hb dX0_excess_11 rfl (lv_at hl 0 rfl) ?_
    refine lv_iload_n hx hb dX0_excess_12 rfl (lv_at hl 1 rfl) ?_
    refine lv_iconst (v := (1 : Int32)) hx hb dX0_excess_13 (by decide) ?_
    refine lv_isub hx hb dX0_excess_14 ?_
    refine lv_iload_n hx hb dX0_excess_15 rfl (lv_at hl 2 rfl) ?_
    refine z_callVI (fr1 := 0) (b := a0) (As := [.int (x1 - (1 : Int32)), .int x2]) (rest := []) X (hr.le (by decide)) hR zy_X0_leavesOf zq_1009 ha0.1 (by rw [ha0.2]; rfl) rfl (mX0_leavesOf ⟨ha0.1, ha0.2⟩ hf) rfl hl (Nat.le_of_ble_eq_true rfl) dX0_excess_16 rfl (fun r2 w2 H locs hf hR => ?_)
    exact mX0_excess_J19 X hr hQ ha0  hf hR (lv_sub hl [0, 1, 2] rfl)
  · replace hf := hf.2 c1
    refine lv_aload_n hx hb dX0_excess_4 rfl (lv_at hl 0 rfl) ?_
    refine z_getI X hR ha0.1 ha0.2 (by decide) zfd_X0_55 rfl dX0_excess_5 ?_
    refine lv_goto (tgt := 19) hx hb dX0_excess_8 (by decide) ?_
    exact mX0_excess_J19 X hr hQ ha0  hf hR (lv_sub hl [0, 1, 2] rfl)
/-! X0_rowsDown -/
def fX0_rowsDown_J58 (a0 : Nat) (k : Int32 → zW → Prop) (g11 : Int32 → Int32 → Int32 → Int32 → Int32 → zW → Prop) (x1 : Int32) (x2 : Int32) (x3 : Int32) (x5 : Int32) (w : zW) : Prop :=
  fX0_leavesOf a0 x5 x1 w (fun r6 w6 =>
  g11 x1 x2 x3 r6 (x5 + (1 : Int32)) w6)
set_option maxHeartbeats 4000000 in
set_option maxRecDepth 100000 in
theorem mX0_rowsDown_J58 {k : Int32 → zW → Prop} {g11 : Int32 → Int32 → Int32 → Int32 → Int32 → zW → Prop} {a0 : Nat} (X : zCx p s m args meth c cX0_rowsDown 6 RX0 (some .int)) (hr : zRm R 1 cells slots) (hQ : zRetI p l e R s m args below meth c cells slots Q D dA true ad0 al0 ad al cX0_rowsDown k) (ha0 : al a0 ∧ zsh a0 = 0) (hg11 : ∀ (x1 : Int32) (x2 : Int32) (x3 : Int32) (x4 : Int32) (x5 : Int32) (w : zW) (H : Heap) (locs : List Loc) (ls : Array Slot), g11 x1 x2 x3 x4 x5 w → zSt D dA true ad0 al0 ad al w s H locs → lv_has ls 6 [(0, .ref (ad a0)), (1, .int x1), (2, .int x2), (3, .int x3), (4, .int x4), (5, .int x5)] → W p l e R s m args below meth c H locs cells slots Q (F0 m 11 ls [])) {x1 : Int32} {x2 : Int32} {x3 : Int32} {x5 : Int32} {w : zW} {H : Heap} {locs : List Loc} {ls : Array Slot} (hf : fX0_rowsDown_J58 a0 k g11 x1 x2 x3 x5 w) (hR : zSt D dA true ad0 al0 ad al w s H locs) (hl : lv_has ls 6 [(0, .ref (ad a0)), (1, .int x1), (2, .int x2), (3, .int x3), (5, .int x5)]) : W p l e R s m args below meth c H locs cells slots Q (F0 m 58 ls []) := by
  have hx := X.1
  have hb := X.2.1
  have hml := X.2.2.1
  have hown := X.2.2.2.1
  have hts := X.2.2.2.2.1
  unfold fX0_rowsDown_J58 at hf
  refine lv_aload_n hx hb dX0_rowsDown_58 rfl (lv_at hl 0 rfl) ?_
  refine lv_iload hx hb dX0_rowsDown_59 (lv_at hl 4 rfl) ?_
  refine lv_iload_n hx hb dX0_rowsDown_61 rfl (lv_at hl 1 rfl) ?_
  refine z_callVI (fr1 := 0) (b := a0) (As := [.int x5, .int x1]) (rest := []) X (hr.le (by decide)) hR zy_X0_leavesOf zq_1009 ha0.1 (by rw [ha0.2]; rfl) rfl (mX0_leavesOf ⟨ha0.1, ha0.2⟩ hf) rfl hl (Nat.le_of_ble_eq_true rfl) dX0_rowsDown_62 rfl (fun r6 w6 H locs hf hR => ?_)
  refine lv_istore (lv' := [(4, .int r6), (0, .ref (ad a0)), (1, .int x1), (2, .int x2), (3, .int x3), (5, .int x5)]) hx hb dX0_rowsDown_65 hl (by decide) rfl (fun ls hl => ?_)
  refine lv_iinc (v := x5 + (1 : Int32)) (lv' := [(5, .int (x5 + (1 : Int32))), (4, .int r6), (0, .ref (ad a0)), (1, .int x1), (2, .int x2), (3, .int x3)]) hx hb dX0_rowsDown_67 hl (k := 5) rfl rfl (by decide) rfl (fun ls hl => ?_)
  refine lv_goto (tgt := 11) hx hb dX0_rowsDown_70 (by decide) ?_
  exact hg11 x1 x2 x3 r6 (x5 + (1 : Int32)) w6 _ _ _ hf hR (lv_sub hl [2, 3, 4, 5, 1, 0] rfl)
def fX0_rowsDown_L11 (a0 : Nat) (k : Int32 → zW → Prop) : Nat → Int32 → Int32 → Int32 → Int32 → Int32 → zW → Prop
  | 0 => fun _ _ _ _ _ _ => False
  | n + 1 => fun x1 x2 x3 x4 x5 w =>
    (((gI w a0 7) ≤ x5 →
      k x3 w) ∧
     (¬ (gI w a0 7) ≤ x5 →
      (((8 : Int32) ≤ x5 →
        k x3 w) ∧
       (¬ (8 : Int32) ≤ x5 →
        fX0_takesOf a0 x5 x1 w (fun r4 w4 =>
        ((r4 = x4 →
          fX0_rowsDown_J58 a0 k (fX0_rowsDown_L11 a0 k n) x1 x2 x3 x5 w4) ∧
         (¬ r4 = x4 →
          fJ6_bitCount_0f7a4 x3 w4 (fun r7 w7 =>
          ((r7 < x2 →
            ∀ v9 : Int32, v9 = x3 ||| ((1 : Int32) <<< (x5 &&& 31)) →
            fX0_rowsDown_J58 a0 k (fX0_rowsDown_L11 a0 k n) x1 x2 v9 x5 w7) ∧
           (¬ r7 < x2 →
            k (255 : Int32) w7))))))))))
set_option maxHeartbeats 4000000 in
set_option maxRecDepth 100000 in
theorem mX0_rowsDown_L11 {k : Int32 → zW → Prop} {a0 : Nat} (X : zCx p s m args meth c cX0_rowsDown 6 RX0 (some .int)) (hr : zRm R 1 cells slots) (hQ : zRetI p l e R s m args below meth c cells slots Q D dA true ad0 al0 ad al cX0_rowsDown k) (ha0 : al a0 ∧ zsh a0 = 0)  : ∀ (n : Nat) (x1 : Int32) (x2 : Int32) (x3 : Int32) (x4 : Int32) (x5 : Int32) (w : zW) (H : Heap) (locs : List Loc) (ls : Array Slot), fX0_rowsDown_L11 a0 k n x1 x2 x3 x4 x5 w → zSt D dA true ad0 al0 ad al w s H locs → lv_has ls 6 [(0, .ref (ad a0)), (1, .int x1), (2, .int x2), (3, .int x3), (4, .int x4), (5, .int x5)] → W p l e R s m args below meth c H locs cells slots Q (F0 m 11 ls []) := by
  intro n
  induction n with
  | zero => exact fun _ _ _ _ _ _ _ _ _ hf => hf.elim
  | succ n ih =>
    intro x1 x2 x3 x4 x5 w H locs ls hf hR hl
    have hx := X.1
    have hb := X.2.1
    have hml := X.2.2.1
    have hown := X.2.2.2.1
    have hts := X.2.2.2.2.1
    rw [fX0_rowsDown_L11] at hf
    refine lv_iload hx hb dX0_rowsDown_11 (lv_at hl 5 rfl) ?_
    refine lv_aload_n hx hb dX0_rowsDown_13 rfl (lv_at hl 0 rfl) ?_
    refine z_getI X hR ha0.1 ha0.2 (by decide) zfd_X0_58 rfl dX0_rowsDown_14 ?_
    refine lv_icmp_ge (tgt := 73) hx hb dX0_rowsDown_17 (by decide) (fun c2 => ?_) (fun c2 => ?_)
    · replace hf := hf.1 c2
      refine lv_iload_n hx hb dX0_rowsDown_73 rfl (lv_at hl 3 rfl) ?_
      exact hQ _ _ _ _ _ _ hf hR dX0_rowsDown_74
    · replace hf := hf.2 c2
      refine lv_iload hx hb dX0_rowsDown_20 (lv_at hl 5 rfl) ?_
      refine lv_bipush (v := (8 : Int32)) hx hb dX0_rowsDown_22 (by decide) ?_
      refine lv_icmp_ge (tgt := 73) hx hb dX0_rowsDown_24 (by decide) (fun c3 => ?_) (fun c3 => ?_)
      · replace hf := hf.1 c3
        refine lv_iload_n hx hb dX0_rowsDown_73 rfl (lv_at hl 3 rfl) ?_
        exact hQ _ _ _ _ _ _ hf hR dX0_rowsDown_74
      · replace hf := hf.2 c3
        refine lv_aload_n hx hb dX0_rowsDown_27 rfl (lv_at hl 0 rfl) ?_
        refine lv_iload hx hb dX0_rowsDown_28 (lv_at hl 5 rfl) ?_
        refine lv_iload_n hx hb dX0_rowsDown_30 rfl (lv_at hl 1 rfl) ?_
        refine z_callVI (fr1 := 0) (b := a0) (As := [.int x5, .int x1]) (rest := []) X (hr.le (by decide)) hR zy_X0_takesOf zq_998 ha0.1 (by rw [ha0.2]; rfl) rfl (mX0_takesOf ⟨ha0.1, ha0.2⟩ hf) rfl hl (Nat.le_of_ble_eq_true rfl) dX0_rowsDown_31 rfl (fun r4 w4 H locs hf hR => ?_)
        refine lv_iload hx hb dX0_rowsDown_34 (lv_at hl 4 rfl) ?_
        refine lv_icmp_eq (tgt := 58) hx hb dX0_rowsDown_36 (by decide) (fun c5 => ?_) (fun c5 => ?_)
        · replace hf := hf.1 c5
          exact mX0_rowsDown_J58 X hr hQ ha0 ih hf hR (lv_sub hl [0, 1, 2, 3, 5] rfl)
        · replace hf := hf.2 c5
          refine lv_iload_n hx hb dX0_rowsDown_39 rfl (lv_at hl 3 rfl) ?_
          refine z_callSI (fr1 := 0) (As := [.int x3]) (rest := []) X (hr.le (by decide)) hR zy_J6_bitCount_0f7a4 zq_1002 (mJ6_bitCount_0f7a4  hf) rfl hl (Nat.le_of_ble_eq_true rfl) dX0_rowsDown_40 rfl (fun r7 w7 H locs hf hR => ?_)
          refine lv_iload_n hx hb dX0_rowsDown_43 rfl (lv_at hl 2 rfl) ?_
          refine lv_icmp_lt (tgt := 51) hx hb dX0_rowsDown_44 (by decide) (fun c8 => ?_) (fun c8 => ?_)
          · replace hf := hf.1 c8
            refine lv_iload_n hx hb dX0_rowsDown_51 rfl (lv_at hl 3 rfl) ?_
            refine lv_iconst (v := (1 : Int32)) hx hb dX0_rowsDown_52 (by decide) ?_
            refine lv_iload hx hb dX0_rowsDown_53 (lv_at hl 5 rfl) ?_
            refine lv_ishl hx hb dX0_rowsDown_55 ?_
            refine lv_ior hx hb dX0_rowsDown_56 ?_
            refine lv_topi (fun v9 hv9 => ?_)
            replace hf := hf v9 hv9
            refine lv_istore_n (lv' := [(3, .int v9), (0, .ref (ad a0)), (1, .int x1), (2, .int x2), (4, .int x4), (5, .int x5)]) hx hb dX0_rowsDown_57 rfl hl (by decide) rfl (fun ls hl => ?_)
            exact mX0_rowsDown_J58 X hr hQ ha0 ih hf hR (lv_sub hl [1, 2, 3, 0, 5] rfl)
          · replace hf := hf.2 c8
            refine lv_sipush (v := (255 : Int32)) hx hb dX0_rowsDown_47 (by decide) ?_
            exact hQ _ _ _ _ _ _ hf hR dX0_rowsDown_50
def fX0_rowsDown (a0 : Nat) (x1 : Int32) (x2 : Int32) (w : zW) (k : Int32 → zW → Prop) : Prop :=
  ∀ v1 : Int32, v1 = gI w a0 6 →
  ∃ n9, fX0_rowsDown_L11 a0 k n9 x1 x2 (0 : Int32) v1 (0 : Int32) w
set_option maxHeartbeats 4000000 in
set_option maxRecDepth 100000 in
theorem mX0_rowsDown {l : Launch} {D : va_G} {dA : Nat → ClassId} {ad : Nat → Nat} {al : Nat → Prop} {w : zW} {k : Int32 → zW → Prop} {a0 : Nat} {x1 : Int32} {x2 : Int32} (ha0 : al a0 ∧ zsh a0 = 0)  (hf : fX0_rowsDown a0 x1 x2 w k) : zmetI l yX0_rowsDown cX0_rowsDown 6 (some .int) 1 [.ref (ad a0), .int x1, .int x2] D dA true ad al w k := by
  refine zmetI_of (by decide) (Nat.le_of_ble_eq_true rfl) ?_
  intro p e R s m below meth c Q H ls args locs cells slots X hr hQ hR hl
  have hx := X.1
  have hb := X.2.1
  have hml := X.2.2.1
  have hown := X.2.2.2.1
  have hts := X.2.2.2.2.1
  unfold fX0_rowsDown at hf
  have hl : lv_has ls 6 [(0, .ref (ad a0)), (1, .int x1), (2, .int x2)] := hl
  refine lv_iconst (v := (0 : Int32)) hx hb dX0_rowsDown_0 (by decide) ?_
  refine lv_istore_n (lv' := [(3, .int (0 : Int32)), (0, .ref (ad a0)), (1, .int x1), (2, .int x2)]) hx hb dX0_rowsDown_1 rfl hl (by decide) rfl (fun ls hl => ?_)
  refine lv_aload_n hx hb dX0_rowsDown_2 rfl (lv_at hl 1 rfl) ?_
  refine z_getI X hR ha0.1 ha0.2 (by decide) zfd_X0_55 rfl dX0_rowsDown_3 ?_
  refine lv_topi (fun v1 hv1 => ?_)
  replace hf := hf v1 hv1
  refine lv_istore (lv' := [(4, .int v1), (3, .int (0 : Int32)), (0, .ref (ad a0)), (1, .int x1), (2, .int x2)]) hx hb dX0_rowsDown_6 hl (by decide) rfl (fun ls hl => ?_)
  refine lv_iconst (v := (0 : Int32)) hx hb dX0_rowsDown_8 (by decide) ?_
  refine lv_istore (lv' := [(5, .int (0 : Int32)), (4, .int v1), (3, .int (0 : Int32)), (0, .ref (ad a0)), (1, .int x1), (2, .int x2)]) hx hb dX0_rowsDown_9 hl (by decide) rfl (fun ls hl => ?_)
  obtain ⟨n9, hf⟩ := hf
  exact mX0_rowsDown_L11 X hr hQ ha0  n9 x1 x2 (0 : Int32) v1 (0 : Int32) w _ _ _ hf hR (lv_sub hl [3, 4, 5, 2, 1, 0] rfl)
/-! X0_repeats -/
def fX0_repeats_L22 (a0 : Nat) (k : Int32 → zW → Prop) : Nat → Int32 → Int32 → Int32 → Int32 → zW → Prop
  | 0 => fun _ _ _ _ _ => False
  | n + 1 => fun x1 x2 x3 x4 w =>
    (((x1 + x2) ≤ (x4 + x3) →
      k (1 : Int32) w) ∧
     (¬ (x1 + x2) ≤ (x4 + x3) →
      vp_in x4 (zln a0) ∧ 
      vp_in (x4 + x3) (zln a0) ∧ 
      (((gI w a0 x4.toNatClampNeg) = (gI w a0 (x4 + x3).toNatClampNeg) →
        fX0_repeats_L22 a0 k n x1 x2 x3 (x4 + (1 : Int32)) w) ∧
       (¬ (gI w a0 x4.toNatClampNeg) = (gI w a0 (x4 + x3).toNatClampNeg) →
        k (0 : Int32) w))))
set_option maxHeartbeats 4000000 in
set_option maxRecDepth 100000 in
theorem mX0_repeats_L22 {k : Int32 → zW → Prop} {a0 : Nat} (X : zCx p s m args meth c cX0_repeats 5 RX0 (some .boolean)) (hr : zRm R 0 cells slots) (hQ : zRetZ p l e R s m args below meth c cells slots Q D dA true ad0 al0 ad al cX0_repeats k) (ha0 : al a0 ∧ zsh a0 = 20)  : ∀ (n : Nat) (x1 : Int32) (x2 : Int32) (x3 : Int32) (x4 : Int32) (w : zW) (H : Heap) (locs : List Loc) (ls : Array Slot), fX0_repeats_L22 a0 k n x1 x2 x3 x4 w → zSt D dA true ad0 al0 ad al w s H locs → lv_has ls 5 [(0, .ref (ad a0)), (1, .int x1), (2, .int x2), (3, .int x3), (4, .int x4)] → W p l e R s m args below meth c H locs cells slots Q (F0 m 22 ls []) := by
  intro n
  induction n with
  | zero => exact fun _ _ _ _ _ _ _ _ hf => hf.elim
  | succ n ih =>
    intro x1 x2 x3 x4 w H locs ls hf hR hl
    have hx := X.1
    have hb := X.2.1
    have hml := X.2.2.1
    have hown := X.2.2.2.1
    have hts := X.2.2.2.2.1
    rw [fX0_repeats_L22] at hf
    refine lv_iload hx hb dX0_repeats_22 (lv_at hl 4 rfl) ?_
    refine lv_iload_n hx hb dX0_repeats_24 rfl (lv_at hl 3 rfl) ?_
    refine lv_iadd hx hb dX0_repeats_25 ?_
    refine lv_iload_n hx hb dX0_repeats_26 rfl (lv_at hl 1 rfl) ?_
    refine lv_iload_n hx hb dX0_repeats_27 rfl (lv_at hl 2 rfl) ?_
    refine lv_iadd hx hb dX0_repeats_28 ?_
    refine lv_icmp_ge (tgt := 53) hx hb dX0_repeats_29 (by decide) (fun c4 => ?_) (fun c4 => ?_)
    · replace hf := hf.1 c4
      refine lv_iconst (v := (1 : Int32)) hx hb dX0_repeats_53 (by decide) ?_
      exact hQ _ _ _ _ _ _ zb01_1 hf hR dX0_repeats_54
    · replace hf := hf.2 c4
      refine lv_aload_n hx hb dX0_repeats_32 rfl (lv_at hl 0 rfl) ?_
      refine lv_iload hx hb dX0_repeats_33 (lv_at hl 4 rfl) ?_
      obtain ⟨hb5, hf⟩ := hf
      refine z_iald X hR ha0.1 ha0.2 rfl hb5 dX0_repeats_35 ?_
      refine lv_aload_n hx hb dX0_repeats_36 rfl (lv_at hl 0 rfl) ?_
      refine lv_iload hx hb dX0_repeats_37 (lv_at hl 4 rfl) ?_
      refine lv_iload_n hx hb dX0_repeats_39 rfl (lv_at hl 3 rfl) ?_
      refine lv_iadd hx hb dX0_repeats_40 ?_
      obtain ⟨hb6, hf⟩ := hf
      refine z_iald X hR ha0.1 ha0.2 rfl hb6 dX0_repeats_41 ?_
      refine lv_icmp_eq (tgt := 47) hx hb dX0_repeats_42 (by decide) (fun c7 => ?_) (fun c7 => ?_)
      · replace hf := hf.1 c7
        refine lv_iinc (v := x4 + (1 : Int32)) (lv' := [(4, .int (x4 + (1 : Int32))), (0, .ref (ad a0)), (1, .int x1), (2, .int x2), (3, .int x3)]) hx hb dX0_repeats_47 hl (k := 4) rfl rfl (by decide) rfl (fun ls hl => ?_)
        refine lv_goto (tgt := 22) hx hb dX0_repeats_50 (by decide) ?_
        exact ih x1 x2 x3 (x4 + (1 : Int32)) w _ _ _ hf hR (lv_sub hl [1, 2, 3, 4, 0] rfl)
      · replace hf := hf.2 c7
        refine lv_iconst (v := (0 : Int32)) hx hb dX0_repeats_45 (by decide) ?_
        exact hQ _ _ _ _ _ _ zb01_0 hf hR dX0_repeats_46
def fX0_repeats (a0 : Nat) (x1 : Int32) (x2 : Int32) (x3 : Int32) (w : zW) (k : Int32 → zW → Prop) : Prop :=
  ((x1 < 0 →
    k (0 : Int32) w) ∧
   (¬ x1 < 0 →
    ((x3 < (1 : Int32) →
      k (0 : Int32) w) ∧
     (¬ x3 < (1 : Int32) →
      (((x1 + x2) ≤ (Int32.ofNat (zln a0)) →
        ∃ n9, fX0_repeats_L22 a0 k n9 x1 x2 x3 x1 w) ∧
       (¬ (x1 + x2) ≤ (Int32.ofNat (zln a0)) →
        k (0 : Int32) w))))))
set_option maxHeartbeats 4000000 in
set_option maxRecDepth 100000 in
theorem mX0_repeats {l : Launch} {D : va_G} {dA : Nat → ClassId} {ad : Nat → Nat} {al : Nat → Prop} {w : zW} {k : Int32 → zW → Prop} {a0 : Nat} {x1 : Int32} {x2 : Int32} {x3 : Int32} (ha0 : al a0 ∧ zsh a0 = 20)  (hf : fX0_repeats a0 x1 x2 x3 w k) : zmetI l yX0_repeats cX0_repeats 5 (some .boolean) 0 [.ref (ad a0), .int x1, .int x2, .int x3] D dA true ad al w k := by
  refine zmetZ_of (by decide) (Nat.le_of_ble_eq_true rfl) ?_
  intro p e R s m below meth c Q H ls args locs cells slots X hr hQ hR hl
  have hx := X.1
  have hb := X.2.1
  have hml := X.2.2.1
  have hown := X.2.2.2.1
  have hts := X.2.2.2.2.1
  unfold fX0_repeats at hf
  have hl : lv_has ls 5 [(0, .ref (ad a0)), (1, .int x1), (2, .int x2), (3, .int x3)] := hl
  refine lv_iload_n hx hb dX0_repeats_0 rfl (lv_at hl 1 rfl) ?_
  refine lv_if_lt (tgt := 17) hx hb dX0_repeats_1 (by decide) (fun c1 => ?_) (fun c1 => ?_)
  · replace hf := hf.1 c1
    refine lv_iconst (v := (0 : Int32)) hx hb dX0_repeats_17 (by decide) ?_
    exact hQ _ _ _ _ _ _ zb01_0 hf hR dX0_repeats_18
  · replace hf := hf.2 c1
    refine lv_iload_n hx hb dX0_repeats_4 rfl (lv_at hl 3 rfl) ?_
    refine lv_iconst (v := (1 : Int32)) hx hb dX0_repeats_5 (by decide) ?_
    refine lv_icmp_lt (tgt := 17) hx hb dX0_repeats_6 (by decide) (fun c2 => ?_) (fun c2 => ?_)
    · replace hf := hf.1 c2
      refine lv_iconst (v := (0 : Int32)) hx hb dX0_repeats_17 (by decide) ?_
      exact hQ _ _ _ _ _ _ zb01_0 hf hR dX0_repeats_18
    · replace hf := hf.2 c2
      refine lv_iload_n hx hb dX0_repeats_9 rfl (lv_at hl 1 rfl) ?_
      refine lv_iload_n hx hb dX0_repeats_10 rfl (lv_at hl 2 rfl) ?_
      refine lv_iadd hx hb dX0_repeats_11 ?_
      refine lv_aload_n hx hb dX0_repeats_12 rfl (lv_at hl 0 rfl) ?_
      refine z_alen X hR ha0.1 ha0.2 (by decide) (by decide) rfl (v := Int32.ofNat (zln a0)) rfl dX0_repeats_13 ?_
      refine lv_icmp_le (tgt := 19) hx hb dX0_repeats_14 (by decide) (fun c3 => ?_) (fun c3 => ?_)
      · replace hf := hf.1 c3
        refine lv_iload_n hx hb dX0_repeats_19 rfl (lv_at hl 1 rfl) ?_
        refine lv_istore (lv' := [(4, .int x1), (0, .ref (ad a0)), (1, .int x1), (2, .int x2), (3, .int x3)]) hx hb dX0_repeats_20 hl (by decide) rfl (fun ls hl => ?_)
        obtain ⟨n9, hf⟩ := hf
        exact mX0_repeats_L22 X hr hQ ha0  n9 x1 x2 x3 x1 w _ _ _ hf hR (lv_sub hl [1, 2, 3, 4, 0] rfl)
      · replace hf := hf.2 c3
        refine lv_iconst (v := (0 : Int32)) hx hb dX0_repeats_17 (by decide) ?_
        exact hQ _ _ _ _ _ _ zb01_0 hf hR dX0_repeats_18
/-! X0_beat -/
def fX0_beat_L9 (a0 : Nat) (k : Int32 → zW → Prop) : Nat → Int32 → Int32 → Int32 → zW → Prop
  | 0 => fun _ _ _ _ => False
  | n + 1 => fun x1 x2 x3 w =>
    ((x2 ≤ x3 →
      k x2 w) ∧
     (¬ x2 ≤ x3 →
      ¬ x3 = 0 ∧
      ((¬ (x2 % x3) = 0 →
        fX0_beat_L9 a0 k n x1 x2 (x3 + (1 : Int32)) w) ∧
       ((x2 % x3) = 0 →
        vp_in x1 8 ∧ 
        fX0_repeats (a0 + 11 + 1 + x1.toNatClampNeg) (0 : Int32) x2 x3 w (fun r7 w7 =>
        ((r7 = 0 →
          fX0_beat_L9 a0 k n x1 x2 (x3 + (1 : Int32)) w7) ∧
         (¬ r7 = 0 →
          k x3 w7)))))))
set_option maxHeartbeats 4000000 in
set_option maxRecDepth 100000 in
theorem mX0_beat_L9 {k : Int32 → zW → Prop} {a0 : Nat} (X : zCx p s m args meth c cX0_beat 4 RX0 (some .int)) (hr : zRm R 1 cells slots) (hQ : zRetI p l e R s m args below meth c cells slots Q D dA true ad0 al0 ad al cX0_beat k) (ha0 : al a0 ∧ zsh a0 = 0)  : ∀ (n : Nat) (x1 : Int32) (x2 : Int32) (x3 : Int32) (w : zW) (H : Heap) (locs : List Loc) (ls : Array Slot), fX0_beat_L9 a0 k n x1 x2 x3 w → zSt D dA true ad0 al0 ad al w s H locs → lv_has ls 4 [(0, .ref (ad a0)), (1, .int x1), (2, .int x2), (3, .int x3)] → W p l e R s m args below meth c H locs cells slots Q (F0 m 9 ls []) := by
  intro n
  induction n with
  | zero => exact fun _ _ _ _ _ _ _ hf => hf.elim
  | succ n ih =>
    intro x1 x2 x3 w H locs ls hf hR hl
    have hx := X.1
    have hb := X.2.1
    have hml := X.2.2.1
    have hown := X.2.2.2.1
    have hts := X.2.2.2.2.1
    rw [fX0_beat_L9] at hf
    refine lv_iload_n hx hb dX0_beat_9 rfl (lv_at hl 3 rfl) ?_
    refine lv_iload_n hx hb dX0_beat_10 rfl (lv_at hl 2 rfl) ?_
    refine lv_icmp_ge (tgt := 43) hx hb dX0_beat_11 (by decide) (fun c3 => ?_) (fun c3 => ?_)
    · replace hf := hf.1 c3
      refine lv_iload_n hx hb dX0_beat_43 rfl (lv_at hl 2 rfl) ?_
      exact hQ _ _ _ _ _ _ hf hR dX0_beat_44
    · replace hf := hf.2 c3
      refine lv_iload_n hx hb dX0_beat_14 rfl (lv_at hl 2 rfl) ?_
      refine lv_iload_n hx hb dX0_beat_15 rfl (lv_at hl 3 rfl) ?_
      obtain ⟨hd4, hf⟩ := hf
      refine z_irem X dX0_beat_16 hd4 ?_
      refine lv_if_ne (tgt := 37) hx hb dX0_beat_17 (by decide) (fun c5 => ?_) (fun c5 => ?_)
      · replace hf := hf.1 c5
        refine lv_iinc (v := x3 + (1 : Int32)) (lv' := [(3, .int (x3 + (1 : Int32))), (0, .ref (ad a0)), (1, .int x1), (2, .int x2)]) hx hb dX0_beat_37 hl (k := 3) rfl rfl (by decide) rfl (fun ls hl => ?_)
        refine lv_goto (tgt := 9) hx hb dX0_beat_40 (by decide) ?_
        exact ih x1 x2 (x3 + (1 : Int32)) w _ _ _ hf hR (lv_sub hl [1, 2, 3, 0] rfl)
      · replace hf := hf.2 c5
        refine lv_aload_n hx hb dX0_beat_20 rfl (lv_at hl 0 rfl) ?_
        refine z_getS X hR ha0.1 ha0.2 (by decide) zfd_X0_33 rfl (r := a0 + 11) (zst_0 ha0.2 9 rfl) dX0_beat_21 ?_
        refine lv_iload_n hx hb dX0_beat_24 rfl (lv_at hl 1 rfl) ?_
        obtain ⟨hb6, hf⟩ := hf
        refine z_aald X hR (zoff hR ha0.2 zo_0_11).1 (zoff hR ha0.2 zo_0_11).2.1 (zoff hR ha0.2 zo_0_11).2.2 hb6 dX0_beat_25 ?_
        refine lv_iconst (v := (0 : Int32)) hx hb dX0_beat_26 (by decide) ?_
        refine lv_iload_n hx hb dX0_beat_27 rfl (lv_at hl 2 rfl) ?_
        refine lv_iload_n hx hb dX0_beat_28 rfl (lv_at hl 3 rfl) ?_
        refine z_callSI (fr1 := 0) (As := [.ref (ad (a0 + 11 + 1 + x1.toNatClampNeg)), .int (0 : Int32), .int x2, .int x3]) (rest := []) X (hr.le (by decide)) hR zy_X0_repeats zq_794 (mX0_repeats ⟨(zrow hR ha0.2 zr_0_11 hb6).1, (zrow hR ha0.2 zr_0_11 hb6).2.1⟩ hf) rfl hl (Nat.le_of_ble_eq_true rfl) dX0_beat_29 rfl (fun r7 w7 H locs hf hR => ?_)
        refine lv_if_eq (tgt := 37) hx hb dX0_beat_32 (by decide) (fun c8 => ?_) (fun c8 => ?_)
        · replace hf := hf.1 c8
          refine lv_iinc (v := x3 + (1 : Int32)) (lv' := [(3, .int (x3 + (1 : Int32))), (0, .ref (ad a0)), (1, .int x1), (2, .int x2)]) hx hb dX0_beat_37 hl (k := 3) rfl rfl (by decide) rfl (fun ls hl => ?_)
          refine lv_goto (tgt := 9) hx hb dX0_beat_40 (by decide) ?_
          exact ih x1 x2 (x3 + (1 : Int32)) w7 _ _ _ hf hR (lv_sub hl [1, 2, 3, 0] rfl)
        · replace hf := hf.2 c8
          refine lv_iload_n hx hb dX0_beat_35 rfl (lv_at hl 3 rfl) ?_
          exact hQ _ _ _ _ _ _ hf hR dX0_beat_36
def fX0_beat (a0 : Nat) (x1 : Int32) (w : zW) (k : Int32 → zW → Prop) : Prop :=
  vp_in x1 8 ∧ 
  ∀ v2 : Int32, v2 = gI w (a0 + 10) x1.toNatClampNeg →
  ∃ n9, fX0_beat_L9 a0 k n9 x1 v2 (1 : Int32) w
set_option maxHeartbeats 4000000 in
set_option maxRecDepth 100000 in
theorem mX0_beat {l : Launch} {D : va_G} {dA : Nat → ClassId} {ad : Nat → Nat} {al : Nat → Prop} {w : zW} {k : Int32 → zW → Prop} {a0 : Nat} {x1 : Int32} (ha0 : al a0 ∧ zsh a0 = 0)  (hf : fX0_beat a0 x1 w k) : zmetI l yX0_beat cX0_beat 4 (some .int) 1 [.ref (ad a0), .int x1] D dA true ad al w k := by
  refine zmetI_of (by decide) (Nat.le_of_ble_eq_true rfl) ?_
  intro p e R s m below meth c Q H ls args locs cells slots X hr hQ hR hl
  have hx := X.1
  have hb := X.2.1
  have hml := X.2.2.1
  have hown := X.2.2.2.1
  have hts := X.2.2.2.2.1
  unfold fX0_beat at hf
  have hl : lv_has ls 4 [(0, .ref (ad a0)), (1, .int x1)] := hl
  refine lv_aload_n hx hb dX0_beat_0 rfl (lv_at hl 0 rfl) ?_
  refine z_getS X hR ha0.1 ha0.2 (by decide) zfd_X0_30 rfl (r := a0 + 10) (zst_0 ha0.2 8 rfl) dX0_beat_1 ?_
  refine lv_iload_n hx hb dX0_beat_4 rfl (lv_at hl 1 rfl) ?_
  obtain ⟨hb1, hf⟩ := hf
  refine z_iald X hR (zoff hR ha0.2 zo_0_10).1 (zoff hR ha0.2 zo_0_10).2.1 (zoff hR ha0.2 zo_0_10).2.2 hb1 dX0_beat_5 ?_
  refine lv_topi (fun v2 hv2 => ?_)
  replace hf := hf v2 hv2
  refine lv_istore_n (lv' := [(2, .int v2), (0, .ref (ad a0)), (1, .int x1)]) hx hb dX0_beat_6 rfl hl (by decide) rfl (fun ls hl => ?_)
  refine lv_iconst (v := (1 : Int32)) hx hb dX0_beat_7 (by decide) ?_
  refine lv_istore_n (lv' := [(3, .int (1 : Int32)), (2, .int v2), (0, .ref (ad a0)), (1, .int x1)]) hx hb dX0_beat_8 rfl hl (by decide) rfl (fun ls hl => ?_)
  obtain ⟨n9, hf⟩ := hf
  exact mX0_beat_L9 X hr hQ ha0  n9 x1 v2 (1 : Int32) w _ _ _ hf hR (lv_sub hl [2, 3, 1, 0] rfl)
/-! X0_sameTurned -/
def fX0_sameTurned_L9 (a0 : Nat) (k : Int32 → zW → Prop) : Nat → Int32 → Int32 → Int32 → zW → Prop
  | 0 => fun _ _ _ _ => False
  | n + 1 => fun x1 x2 x3 w =>
    (((x2 / (2 : Int32)) ≤ x3 →
      k (1 : Int32) w) ∧
     (¬ (x2 / (2 : Int32)) ≤ x3 →
      fX0_wordAt a0 x1 x3 w (fun r4 w4 =>
      fX0_wordAt a0 x1 ((x2 - (1 : Int32)) - x3) w4 (fun r5 w5 =>
      ((r4 = r5 →
        fX0_sameTurned_L9 a0 k n x1 x2 (x3 + (1 : Int32)) w5) ∧
       (¬ r4 = r5 →
        k (0 : Int32) w5))))))
set_option maxHeartbeats 4000000 in
set_option maxRecDepth 100000 in
theorem mX0_sameTurned_L9 {k : Int32 → zW → Prop} {a0 : Nat} (X : zCx p s m args meth c cX0_sameTurned 4 RX0 (some .boolean)) (hr : zRm R 1 cells slots) (hQ : zRetZ p l e R s m args below meth c cells slots Q D dA true ad0 al0 ad al cX0_sameTurned k) (ha0 : al a0 ∧ zsh a0 = 0)  : ∀ (n : Nat) (x1 : Int32) (x2 : Int32) (x3 : Int32) (w : zW) (H : Heap) (locs : List Loc) (ls : Array Slot), fX0_sameTurned_L9 a0 k n x1 x2 x3 w → zSt D dA true ad0 al0 ad al w s H locs → lv_has ls 4 [(0, .ref (ad a0)), (1, .int x1), (2, .int x2), (3, .int x3)] → W p l e R s m args below meth c H locs cells slots Q (F0 m 9 ls []) := by
  intro n
  induction n with
  | zero => exact fun _ _ _ _ _ _ _ hf => hf.elim
  | succ n ih =>
    intro x1 x2 x3 w H locs ls hf hR hl
    have hx := X.1
    have hb := X.2.1
    have hml := X.2.2.1
    have hown := X.2.2.2.1
    have hts := X.2.2.2.2.1
    rw [fX0_sameTurned_L9] at hf
    refine lv_iload_n hx hb dX0_sameTurned_9 rfl (lv_at hl 3 rfl) ?_
    refine lv_iload_n hx hb dX0_sameTurned_10 rfl (lv_at hl 2 rfl) ?_
    refine lv_iconst (v := (2 : Int32)) hx hb dX0_sameTurned_11 (by decide) ?_
    refine lv_idiv hx hb dX0_sameTurned_12 (by decide) ?_
    refine lv_icmp_ge (tgt := 43) hx hb dX0_sameTurned_13 (by decide) (fun c3 => ?_) (fun c3 => ?_)
    · replace hf := hf.1 c3
      refine lv_iconst (v := (1 : Int32)) hx hb dX0_sameTurned_43 (by decide) ?_
      exact hQ _ _ _ _ _ _ zb01_1 hf hR dX0_sameTurned_44
    · replace hf := hf.2 c3
      refine lv_aload_n hx hb dX0_sameTurned_16 rfl (lv_at hl 0 rfl) ?_
      refine lv_iload_n hx hb dX0_sameTurned_17 rfl (lv_at hl 1 rfl) ?_
      refine lv_iload_n hx hb dX0_sameTurned_18 rfl (lv_at hl 3 rfl) ?_
      refine z_callVI (fr1 := 0) (b := a0) (As := [.int x1, .int x3]) (rest := []) X (hr.le (by decide)) hR zy_X0_wordAt zq_545 ha0.1 (by rw [ha0.2]; rfl) rfl (mX0_wordAt ⟨ha0.1, ha0.2⟩ hf) rfl hl (Nat.le_of_ble_eq_true rfl) dX0_sameTurned_19 rfl (fun r4 w4 H locs hf hR => ?_)
      refine lv_aload_n hx hb dX0_sameTurned_22 rfl (lv_at hl 0 rfl) ?_
      refine lv_iload_n hx hb dX0_sameTurned_23 rfl (lv_at hl 1 rfl) ?_
      refine lv_iload_n hx hb dX0_sameTurned_24 rfl (lv_at hl 2 rfl) ?_
      refine lv_iconst (v := (1 : Int32)) hx hb dX0_sameTurned_25 (by decide) ?_
      refine lv_isub hx hb dX0_sameTurned_26 ?_
      refine lv_iload_n hx hb dX0_sameTurned_27 rfl (lv_at hl 3 rfl) ?_
      refine lv_isub hx hb dX0_sameTurned_28 ?_
      refine z_callVI (fr1 := 0) (b := a0) (As := [.int x1, .int ((x2 - (1 : Int32)) - x3)]) (rest := [.int r4]) X (hr.le (by decide)) hR zy_X0_wordAt zq_545 ha0.1 (by rw [ha0.2]; rfl) rfl (mX0_wordAt ⟨ha0.1, ha0.2⟩ hf) rfl hl (Nat.le_of_ble_eq_true rfl) dX0_sameTurned_29 rfl (fun r5 w5 H locs hf hR => ?_)
      refine lv_icmp_eq (tgt := 37) hx hb dX0_sameTurned_32 (by decide) (fun c6 => ?_) (fun c6 => ?_)
      · replace hf := hf.1 c6
        refine lv_iinc (v := x3 + (1 : Int32)) (lv' := [(3, .int (x3 + (1 : Int32))), (0, .ref (ad a0)), (1, .int x1), (2, .int x2)]) hx hb dX0_sameTurned_37 hl (k := 3) rfl rfl (by decide) rfl (fun ls hl => ?_)
        refine lv_goto (tgt := 9) hx hb dX0_sameTurned_40 (by decide) ?_
        exact ih x1 x2 (x3 + (1 : Int32)) w5 _ _ _ hf hR (lv_sub hl [1, 2, 3, 0] rfl)
      · replace hf := hf.2 c6
        refine lv_iconst (v := (0 : Int32)) hx hb dX0_sameTurned_35 (by decide) ?_
        exact hQ _ _ _ _ _ _ zb01_0 hf hR dX0_sameTurned_36
def fX0_sameTurned (a0 : Nat) (x1 : Int32) (w : zW) (k : Int32 → zW → Prop) : Prop :=
  vp_in x1 8 ∧ 
  ∀ v2 : Int32, v2 = gI w (a0 + 10) x1.toNatClampNeg →
  ∃ n9, fX0_sameTurned_L9 a0 k n9 x1 v2 (0 : Int32) w
set_option maxHeartbeats 4000000 in
set_option maxRecDepth 100000 in
theorem mX0_sameTurned {l : Launch} {D : va_G} {dA : Nat → ClassId} {ad : Nat → Nat} {al : Nat → Prop} {w : zW} {k : Int32 → zW → Prop} {a0 : Nat} {x1 : Int32} (ha0 : al a0 ∧ zsh a0 = 0)  (hf : fX0_sameTurned a0 x1 w k) : zmetI l yX0_sameTurned cX0_sameTurned 4 (some .boolean) 1 [.ref (ad a0), .int x1] D dA true ad al w k := by
  refine zmetZ_of (by decide) (Nat.le_of_ble_eq_true rfl) ?_
  intro p e R s m below meth c Q H ls args locs cells slots X hr hQ hR hl
  have hx := X.1
  have hb := X.2.1
  have hml := X.2.2.1
  have hown := X.2.2.2.1
  have hts := X.2.2.2.2.1
  unfold fX0_sameTurned at hf
  have hl : lv_has ls 4 [(0, .ref (ad a0)), (1, .int x1)] := hl
  refine lv_aload_n hx hb dX0_sameTurned_0 rfl (lv_at hl 0 rfl) ?_
  refine z_getS X hR ha0.1 ha0.2 (by decide) zfd_X0_30 rfl (r := a0 + 10) (zst_0 ha0.2 8 rfl) dX0_sameTurned_1 ?_
  refine lv_iload_n hx hb dX0_sameTurned_4 rfl (lv_at hl 1 rfl) ?_
  obtain ⟨hb1, hf⟩ := hf
  refine z_iald X hR (zoff hR ha0.2 zo_0_10).1 (zoff hR ha0.2 zo_0_10).2.1 (zoff hR ha0.2 zo_0_10).2.2 hb1 dX0_sameTurned_5 ?_
  refine lv_topi (fun v2 hv2 => ?_)
  replace hf := hf v2 hv2
  refine lv_istore_n (lv' := [(2, .int v2), (0, .ref (ad a0)), (1, .int x1)]) hx hb dX0_sameTurned_6 rfl hl (by decide) rfl (fun ls hl => ?_)
  refine lv_iconst (v := (0 : Int32)) hx hb dX0_sameTurned_7 (by decide) ?_
  refine lv_istore_n (lv' := [(3, .int (0 : Int32)), (2, .int v2), (0, .ref (ad a0)), (1, .int x1)]) hx hb dX0_sameTurned_8 rfl hl (by decide) rfl (fun ls hl => ?_)
  obtain ⟨n9, hf⟩ := hf
  exact mX0_sameTurned_L9 X hr hQ ha0  n9 x1 v2 (0 : Int32) w _ _ _ hf hR (lv_sub hl [2, 3, 1, 0] rfl)
/-! X0_sameShape -/
def fX0_sameShape_J84 (a0 : Nat) (k : Int32 → zW → Prop) (g19 : Int32 → Int32 → Int32 → zW → Prop) (g32 : Int32 → Int32 → Int32 → Int32 → zW → Prop) (x1 : Int32) (x2 : Int32) (x3 : Int32) (x4 : Int32) (t0 : Int32) (t1 : Int32) (w : zW) : Prop :=
  ((t1 = t0 →
    g32 x1 x2 x3 (x4 + (1 : Int32)) w) ∧
   (¬ t1 = t0 →
    k (0 : Int32) w))
set_option maxHeartbeats 4000000 in
set_option maxRecDepth 100000 in
theorem mX0_sameShape_J84 {k : Int32 → zW → Prop} {g19 : Int32 → Int32 → Int32 → zW → Prop} {g32 : Int32 → Int32 → Int32 → Int32 → zW → Prop} {a0 : Nat} (X : zCx p s m args meth c cX0_sameShape 6 RX0 (some .boolean)) (hr : zRm R 1 cells slots) (hQ : zRetZ p l e R s m args below meth c cells slots Q D dA true ad0 al0 ad al cX0_sameShape k) (ha0 : al a0 ∧ zsh a0 = 0) (hg19 : ∀ (x1 : Int32) (x2 : Int32) (x3 : Int32) (w : zW) (H : Heap) (locs : List Loc) (ls : Array Slot), g19 x1 x2 x3 w → zSt D dA true ad0 al0 ad al w s H locs → lv_has ls 6 [(0, .ref (ad a0)), (1, .int x1), (2, .int x2), (3, .int x3)] → W p l e R s m args below meth c H locs cells slots Q (F0 m 19 ls [])) (hg32 : ∀ (x1 : Int32) (x2 : Int32) (x3 : Int32) (x4 : Int32) (w : zW) (H : Heap) (locs : List Loc) (ls : Array Slot), g32 x1 x2 x3 x4 w → zSt D dA true ad0 al0 ad al w s H locs → lv_has ls 6 [(0, .ref (ad a0)), (1, .int x1), (2, .int x2), (3, .int x3), (4, .int x4)] → W p l e R s m args below meth c H locs cells slots Q (F0 m 32 ls [])) {x1 : Int32} {x2 : Int32} {x3 : Int32} {x4 : Int32} {t0 : Int32} {t1 : Int32} {w : zW} {H : Heap} {locs : List Loc} {ls : Array Slot} (hf : fX0_sameShape_J84 a0 k g19 g32 x1 x2 x3 x4 t0 t1 w) (hR : zSt D dA true ad0 al0 ad al w s H locs) (hl : lv_has ls 6 [(0, .ref (ad a0)), (1, .int x1), (2, .int x2), (3, .int x3), (4, .int x4)]) : W p l e R s m args below meth c H locs cells slots Q (F0 m 84 ls [.int t0, .int t1]) := by
  have hx := X.1
  have hb := X.2.1
  have hml := X.2.2.1
  have hown := X.2.2.2.1
  have hts := X.2.2.2.2.1
  unfold fX0_sameShape_J84 at hf
  refine lv_icmp_eq (tgt := 89) hx hb dX0_sameShape_84 (by decide) (fun c13 => ?_) (fun c13 => ?_)
  · replace hf := hf.1 c13
    refine lv_iinc (v := x4 + (1 : Int32)) (lv' := [(4, .int (x4 + (1 : Int32))), (0, .ref (ad a0)), (1, .int x1), (2, .int x2), (3, .int x3)]) hx hb dX0_sameShape_89 hl (k := 4) rfl rfl (by decide) rfl (fun ls hl => ?_)
    refine lv_goto (tgt := 32) hx hb dX0_sameShape_92 (by decide) ?_
    exact hg32 x1 x2 x3 (x4 + (1 : Int32)) w _ _ _ hf hR (lv_sub hl [1, 2, 3, 4, 0] rfl)
  · replace hf := hf.2 c13
    refine lv_iconst (v := (0 : Int32)) hx hb dX0_sameShape_87 (by decide) ?_
    exact hQ _ _ _ _ _ _ zb01_0 hf hR dX0_sameShape_88
def fX0_sameShape_J59 (a0 : Nat) (k : Int32 → zW → Prop) (g19 : Int32 → Int32 → Int32 → zW → Prop) (g32 : Int32 → Int32 → Int32 → Int32 → zW → Prop) (x1 : Int32) (x2 : Int32) (x3 : Int32) (x4 : Int32) (t0 : Int32) (w : zW) : Prop :=
  fX0_wordAt a0 x2 x3 w (fun r10 w10 =>
  fX0_wordAt a0 x2 x4 w10 (fun r11 w11 =>
  ∀ v12 : Int32, v12 = (if ¬ r10 = r11 then (0 : Int32) else (1 : Int32)) →
  fX0_sameShape_J84 a0 k g19 g32 x1 x2 x3 x4 v12 t0 w11))
set_option maxHeartbeats 4000000 in
set_option maxRecDepth 100000 in
theorem mX0_sameShape_J59 {k : Int32 → zW → Prop} {g19 : Int32 → Int32 → Int32 → zW → Prop} {g32 : Int32 → Int32 → Int32 → Int32 → zW → Prop} {a0 : Nat} (X : zCx p s m args meth c cX0_sameShape 6 RX0 (some .boolean)) (hr : zRm R 1 cells slots) (hQ : zRetZ p l e R s m args below meth c cells slots Q D dA true ad0 al0 ad al cX0_sameShape k) (ha0 : al a0 ∧ zsh a0 = 0) (hg19 : ∀ (x1 : Int32) (x2 : Int32) (x3 : Int32) (w : zW) (H : Heap) (locs : List Loc) (ls : Array Slot), g19 x1 x2 x3 w → zSt D dA true ad0 al0 ad al w s H locs → lv_has ls 6 [(0, .ref (ad a0)), (1, .int x1), (2, .int x2), (3, .int x3)] → W p l e R s m args below meth c H locs cells slots Q (F0 m 19 ls [])) (hg32 : ∀ (x1 : Int32) (x2 : Int32) (x3 : Int32) (x4 : Int32) (w : zW) (H : Heap) (locs : List Loc) (ls : Array Slot), g32 x1 x2 x3 x4 w → zSt D dA true ad0 al0 ad al w s H locs → lv_has ls 6 [(0, .ref (ad a0)), (1, .int x1), (2, .int x2), (3, .int x3), (4, .int x4)] → W p l e R s m args below meth c H locs cells slots Q (F0 m 32 ls [])) {x1 : Int32} {x2 : Int32} {x3 : Int32} {x4 : Int32} {t0 : Int32} {w : zW} {H : Heap} {locs : List Loc} {ls : Array Slot} (hf : fX0_sameShape_J59 a0 k g19 g32 x1 x2 x3 x4 t0 w) (hR : zSt D dA true ad0 al0 ad al w s H locs) (hl : lv_has ls 6 [(0, .ref (ad a0)), (1, .int x1), (2, .int x2), (3, .int x3), (4, .int x4)]) : W p l e R s m args below meth c H locs cells slots Q (F0 m 59 ls [.int t0]) := by
  have hx := X.1
  have hb := X.2.1
  have hml := X.2.2.1
  have hown := X.2.2.2.1
  have hts := X.2.2.2.2.1
  unfold fX0_sameShape_J59 at hf
  refine lv_istore (lv' := [(5, .int t0), (0, .ref (ad a0)), (1, .int x1), (2, .int x2), (3, .int x3), (4, .int x4)]) hx hb dX0_sameShape_59 hl (by decide) rfl (fun ls hl => ?_)
  refine lv_iload hx hb dX0_sameShape_61 (lv_at hl 0 rfl) ?_
  refine lv_aload_n hx hb dX0_sameShape_63 rfl (lv_at hl 1 rfl) ?_
  refine lv_iload_n hx hb dX0_sameShape_64 rfl (lv_at hl 3 rfl) ?_
  refine lv_iload_n hx hb dX0_sameShape_65 rfl (lv_at hl 4 rfl) ?_
  refine z_callVI (fr1 := 0) (b := a0) (As := [.int x2, .int x3]) (rest := [.int t0]) X (hr.le (by decide)) hR zy_X0_wordAt zq_545 ha0.1 (by rw [ha0.2]; rfl) rfl (mX0_wordAt ⟨ha0.1, ha0.2⟩ hf) rfl hl (Nat.le_of_ble_eq_true rfl) dX0_sameShape_66 rfl (fun r10 w10 H locs hf hR => ?_)
  refine lv_aload_n hx hb dX0_sameShape_69 rfl (lv_at hl 1 rfl) ?_
  refine lv_iload_n hx hb dX0_sameShape_70 rfl (lv_at hl 3 rfl) ?_
  refine lv_iload hx hb dX0_sameShape_71 (lv_at hl 5 rfl) ?_
  refine z_callVI (fr1 := 0) (b := a0) (As := [.int x2, .int x4]) (rest := [.int r10, .int t0]) X (hr.le (by decide)) hR zy_X0_wordAt zq_545 ha0.1 (by rw [ha0.2]; rfl) rfl (mX0_wordAt ⟨ha0.1, ha0.2⟩ hf) rfl hl (Nat.le_of_ble_eq_true rfl) dX0_sameShape_73 rfl (fun r11 w11 H locs hf hR => ?_)
  have kJ12 : ∀ v12 : Int32, v12 = (if ¬ r10 = r11 then (0 : Int32) else (1 : Int32)) → W p l e R s m args below meth c H locs cells slots Q (F0 m 84 ls (.int v12 :: .int t0 :: [])) := by
    intro v12 hv12
    replace hf := hf v12 hv12
    exact mX0_sameShape_J84 X hr hQ ha0 hg19 hg32 hf hR (lv_sub hl [1, 2, 3, 4, 5] rfl)
  refine lv_icmp_ne (tgt := 83) hx hb dX0_sameShape_76 (by decide) (fun c12 => ?_) (fun c12 => ?_)
  · refine lv_iconst (v := (0 : Int32)) hx hb dX0_sameShape_83 (by decide) ?_
    exact kJ12 _ (if_pos c12).symm
  · refine lv_iconst (v := (1 : Int32)) hx hb dX0_sameShape_79 (by decide) ?_
    refine lv_goto (tgt := 84) hx hb dX0_sameShape_80 (by decide) ?_
    exact kJ12 _ (if_neg (fun h9 => h9 c12)).symm
def fX0_sameShape_L32 (a0 : Nat) (k : Int32 → zW → Prop) (g19 : Int32 → Int32 → Int32 → zW → Prop) : Nat → Int32 → Int32 → Int32 → Int32 → zW → Prop
  | 0 => fun _ _ _ _ _ => False
  | n + 1 => fun x1 x2 x3 x4 w =>
    ((x3 ≤ x4 →
      g19 x1 x2 (x3 + (1 : Int32)) w) ∧
     (¬ x3 ≤ x4 →
      fX0_wordAt a0 x1 x3 w (fun r7 w7 =>
      fX0_wordAt a0 x1 x4 w7 (fun r8 w8 =>
      ∀ v9 : Int32, v9 = (if ¬ r7 = r8 then (0 : Int32) else (1 : Int32)) →
      fX0_sameShape_J59 a0 k g19 (fX0_sameShape_L32 a0 k g19 n) x1 x2 x3 x4 v9 w8))))
set_option maxHeartbeats 4000000 in
set_option maxRecDepth 100000 in
theorem mX0_sameShape_L32 {k : Int32 → zW → Prop} {g19 : Int32 → Int32 → Int32 → zW → Prop} {a0 : Nat} (X : zCx p s m args meth c cX0_sameShape 6 RX0 (some .boolean)) (hr : zRm R 1 cells slots) (hQ : zRetZ p l e R s m args below meth c cells slots Q D dA true ad0 al0 ad al cX0_sameShape k) (ha0 : al a0 ∧ zsh a0 = 0) (hg19 : ∀ (x1 : Int32) (x2 : Int32) (x3 : Int32) (w : zW) (H : Heap) (locs : List Loc) (ls : Array Slot), g19 x1 x2 x3 w → zSt D dA true ad0 al0 ad al w s H locs → lv_has ls 6 [(0, .ref (ad a0)), (1, .int x1), (2, .int x2), (3, .int x3)] → W p l e R s m args below meth c H locs cells slots Q (F0 m 19 ls [])) : ∀ (n : Nat) (x1 : Int32) (x2 : Int32) (x3 : Int32) (x4 : Int32) (w : zW) (H : Heap) (locs : List Loc) (ls : Array Slot), fX0_sameShape_L32 a0 k g19 n x1 x2 x3 x4 w → zSt D dA true ad0 al0 ad al w s H locs → lv_has ls 6 [(0, .ref (ad a0)), (1, .int x1), (2, .int x2), (3, .int x3), (4, .int x4)] → W p l e R s m args below meth c H locs cells slots Q (F0 m 32 ls []) := by
  intro n
  induction n with
  | zero => exact fun _ _ _ _ _ _ _ _ hf => hf.elim
  | succ n ih =>
    intro x1 x2 x3 x4 w H locs ls hf hR hl
    have hx := X.1
    have hb := X.2.1
    have hml := X.2.2.1
    have hown := X.2.2.2.1
    have hts := X.2.2.2.2.1
    rw [fX0_sameShape_L32] at hf
    refine lv_iload hx hb dX0_sameShape_32 (lv_at hl 4 rfl) ?_
    refine lv_iload_n hx hb dX0_sameShape_34 rfl (lv_at hl 3 rfl) ?_
    refine lv_icmp_ge (tgt := 95) hx hb dX0_sameShape_35 (by decide) (fun c6 => ?_) (fun c6 => ?_)
    · replace hf := hf.1 c6
      refine lv_iinc (v := x3 + (1 : Int32)) (lv' := [(3, .int (x3 + (1 : Int32))), (0, .ref (ad a0)), (1, .int x1), (2, .int x2), (4, .int x4)]) hx hb dX0_sameShape_95 hl (k := 3) rfl rfl (by decide) rfl (fun ls hl => ?_)
      refine lv_goto (tgt := 19) hx hb dX0_sameShape_98 (by decide) ?_
      exact hg19 x1 x2 (x3 + (1 : Int32)) w _ _ _ hf hR (lv_sub hl [1, 2, 3, 0] rfl)
    · replace hf := hf.2 c6
      refine lv_aload_n hx hb dX0_sameShape_38 rfl (lv_at hl 0 rfl) ?_
      refine lv_iload_n hx hb dX0_sameShape_39 rfl (lv_at hl 1 rfl) ?_
      refine lv_iload_n hx hb dX0_sameShape_40 rfl (lv_at hl 3 rfl) ?_
      refine z_callVI (fr1 := 0) (b := a0) (As := [.int x1, .int x3]) (rest := []) X (hr.le (by decide)) hR zy_X0_wordAt zq_545 ha0.1 (by rw [ha0.2]; rfl) rfl (mX0_wordAt ⟨ha0.1, ha0.2⟩ hf) rfl hl (Nat.le_of_ble_eq_true rfl) dX0_sameShape_41 rfl (fun r7 w7 H locs hf hR => ?_)
      refine lv_aload_n hx hb dX0_sameShape_44 rfl (lv_at hl 0 rfl) ?_
      refine lv_iload_n hx hb dX0_sameShape_45 rfl (lv_at hl 1 rfl) ?_
      refine lv_iload hx hb dX0_sameShape_46 (lv_at hl 4 rfl) ?_
      refine z_callVI (fr1 := 0) (b := a0) (As := [.int x1, .int x4]) (rest := [.int r7]) X (hr.le (by decide)) hR zy_X0_wordAt zq_545 ha0.1 (by rw [ha0.2]; rfl) rfl (mX0_wordAt ⟨ha0.1, ha0.2⟩ hf) rfl hl (Nat.le_of_ble_eq_true rfl) dX0_sameShape_48 rfl (fun r8 w8 H locs hf hR => ?_)
      have kJ9 : ∀ v9 : Int32, v9 = (if ¬ r7 = r8 then (0 : Int32) else (1 : Int32)) → W p l e R s m args below meth c H locs cells slots Q (F0 m 59 ls (.int v9 :: [])) := by
        intro v9 hv9
        replace hf := hf v9 hv9
        exact mX0_sameShape_J59 X hr hQ ha0 hg19 ih hf hR (lv_sub hl [0, 1, 2, 3, 4] rfl)
      refine lv_icmp_ne (tgt := 58) hx hb dX0_sameShape_51 (by decide) (fun c9 => ?_) (fun c9 => ?_)
      · refine lv_iconst (v := (0 : Int32)) hx hb dX0_sameShape_58 (by decide) ?_
        exact kJ9 _ (if_pos c9).symm
      · refine lv_iconst (v := (1 : Int32)) hx hb dX0_sameShape_54 (by decide) ?_
        refine lv_goto (tgt := 59) hx hb dX0_sameShape_55 (by decide) ?_
        exact kJ9 _ (if_neg (fun h9 => h9 c9)).symm
def fX0_sameShape_L19 (a0 : Nat) (k : Int32 → zW → Prop) : Nat → Int32 → Int32 → Int32 → zW → Prop
  | 0 => fun _ _ _ _ => False
  | n + 1 => fun x1 x2 x3 w =>
    vp_in x1 8 ∧ 
    (((gI w (a0 + 10) x1.toNatClampNeg) ≤ x3 →
      k (1 : Int32) w) ∧
     (¬ (gI w (a0 + 10) x1.toNatClampNeg) ≤ x3 →
      ∃ n9, fX0_sameShape_L32 a0 k (fX0_sameShape_L19 a0 k n) n9 x1 x2 x3 (0 : Int32) w))
set_option maxHeartbeats 4000000 in
set_option maxRecDepth 100000 in
theorem mX0_sameShape_L19 {k : Int32 → zW → Prop} {a0 : Nat} (X : zCx p s m args meth c cX0_sameShape 6 RX0 (some .boolean)) (hr : zRm R 1 cells slots) (hQ : zRetZ p l e R s m args below meth c cells slots Q D dA true ad0 al0 ad al cX0_sameShape k) (ha0 : al a0 ∧ zsh a0 = 0)  : ∀ (n : Nat) (x1 : Int32) (x2 : Int32) (x3 : Int32) (w : zW) (H : Heap) (locs : List Loc) (ls : Array Slot), fX0_sameShape_L19 a0 k n x1 x2 x3 w → zSt D dA true ad0 al0 ad al w s H locs → lv_has ls 6 [(0, .ref (ad a0)), (1, .int x1), (2, .int x2), (3, .int x3)] → W p l e R s m args below meth c H locs cells slots Q (F0 m 19 ls []) := by
  intro n
  induction n with
  | zero => exact fun _ _ _ _ _ _ _ hf => hf.elim
  | succ n ih =>
    intro x1 x2 x3 w H locs ls hf hR hl
    have hx := X.1
    have hb := X.2.1
    have hml := X.2.2.1
    have hown := X.2.2.2.1
    have hts := X.2.2.2.2.1
    rw [fX0_sameShape_L19] at hf
    refine lv_iload_n hx hb dX0_sameShape_19 rfl (lv_at hl 3 rfl) ?_
    refine lv_aload_n hx hb dX0_sameShape_20 rfl (lv_at hl 0 rfl) ?_
    refine z_getS X hR ha0.1 ha0.2 (by decide) zfd_X0_30 rfl (r := a0 + 10) (zst_0 ha0.2 8 rfl) dX0_sameShape_21 ?_
    refine lv_iload_n hx hb dX0_sameShape_24 rfl (lv_at hl 1 rfl) ?_
    obtain ⟨hb4, hf⟩ := hf
    refine z_iald X hR (zoff hR ha0.2 zo_0_10).1 (zoff hR ha0.2 zo_0_10).2.1 (zoff hR ha0.2 zo_0_10).2.2 hb4 dX0_sameShape_25 ?_
    refine lv_icmp_ge (tgt := 101) hx hb dX0_sameShape_26 (by decide) (fun c5 => ?_) (fun c5 => ?_)
    · replace hf := hf.1 c5
      refine lv_iconst (v := (1 : Int32)) hx hb dX0_sameShape_101 (by decide) ?_
      exact hQ _ _ _ _ _ _ zb01_1 hf hR dX0_sameShape_102
    · replace hf := hf.2 c5
      refine lv_iconst (v := (0 : Int32)) hx hb dX0_sameShape_29 (by decide) ?_
      refine lv_istore (lv' := [(4, .int (0 : Int32)), (0, .ref (ad a0)), (1, .int x1), (2, .int x2), (3, .int x3)]) hx hb dX0_sameShape_30 hl (by decide) rfl (fun ls hl => ?_)
      obtain ⟨n9, hf⟩ := hf
      exact mX0_sameShape_L32 X hr hQ ha0 ih n9 x1 x2 x3 (0 : Int32) w _ _ _ hf hR (lv_sub hl [1, 2, 3, 4, 0] rfl)
def fX0_sameShape (a0 : Nat) (x1 : Int32) (x2 : Int32) (w : zW) (k : Int32 → zW → Prop) : Prop :=
  vp_in x1 8 ∧ 
  vp_in x2 8 ∧ 
  (((gI w (a0 + 10) x1.toNatClampNeg) = (gI w (a0 + 10) x2.toNatClampNeg) →
    ∃ n9, fX0_sameShape_L19 a0 k n9 x1 x2 (0 : Int32) w) ∧
   (¬ (gI w (a0 + 10) x1.toNatClampNeg) = (gI w (a0 + 10) x2.toNatClampNeg) →
    k (0 : Int32) w))
set_option maxHeartbeats 4000000 in
set_option maxRecDepth 100000 in
theorem mX0_sameShape {l : Launch} {D : va_G} {dA : Nat → ClassId} {ad : Nat → Nat} {al : Nat → Prop} {w : zW} {k : Int32 → zW → Prop} {a0 : Nat} {x1 : Int32} {x2 : Int32} (ha0 : al a0 ∧ zsh a0 = 0)  (hf : fX0_sameShape a0 x1 x2 w k) : zmetI l yX0_sameShape cX0_sameShape 6 (some .boolean) 1 [.ref (ad a0), .int x1, .int x2] D dA true ad al w k := by
  refine zmetZ_of (by decide) (Nat.le_of_ble_eq_true rfl) ?_
  intro p e R s m below meth c Q H ls args locs cells slots X hr hQ hR hl
  have hx := X.1
  have hb := X.2.1
  have hml := X.2.2.1
  have hown := X.2.2.2.1
  have hts := X.2.2.2.2.1
  unfold fX0_sameShape at hf
  have hl : lv_has ls 6 [(0, .ref (ad a0)), (1, .int x1), (2, .int x2)] := hl
  refine lv_aload_n hx hb dX0_sameShape_0 rfl (lv_at hl 0 rfl) ?_
  refine z_getS X hR ha0.1 ha0.2 (by decide) zfd_X0_30 rfl (r := a0 + 10) (zst_0 ha0.2 8 rfl) dX0_sameShape_1 ?_
  refine lv_iload_n hx hb dX0_sameShape_4 rfl (lv_at hl 1 rfl) ?_
  obtain ⟨hb1, hf⟩ := hf
  refine z_iald X hR (zoff hR ha0.2 zo_0_10).1 (zoff hR ha0.2 zo_0_10).2.1 (zoff hR ha0.2 zo_0_10).2.2 hb1 dX0_sameShape_5 ?_
  refine lv_aload_n hx hb dX0_sameShape_6 rfl (lv_at hl 0 rfl) ?_
  refine z_getS X hR ha0.1 ha0.2 (by decide) zfd_X0_30 rfl (r := a0 + 10) (zst_0 ha0.2 8 rfl) dX0_sameShape_7 ?_
  refine lv_iload_n hx hb dX0_sameShape_10 rfl (lv_at hl 2 rfl) ?_
  obtain ⟨hb2, hf⟩ := hf
  refine z_iald X hR (zoff hR ha0.2 zo_0_10).1 (zoff hR ha0.2 zo_0_10).2.1 (zoff hR ha0.2 zo_0_10).2.2 hb2 dX0_sameShape_11 ?_
  refine lv_icmp_eq (tgt := 17) hx hb dX0_sameShape_12 (by decide) (fun c3 => ?_) (fun c3 => ?_)
  · replace hf := hf.1 c3
    refine lv_iconst (v := (0 : Int32)) hx hb dX0_sameShape_17 (by decide) ?_
    refine lv_istore_n (lv' := [(3, .int (0 : Int32)), (0, .ref (ad a0)), (1, .int x1), (2, .int x2)]) hx hb dX0_sameShape_18 rfl hl (by decide) rfl (fun ls hl => ?_)
    obtain ⟨n9, hf⟩ := hf
    exact mX0_sameShape_L19 X hr hQ ha0  n9 x1 x2 (0 : Int32) w _ _ _ hf hR (lv_sub hl [1, 2, 3, 0] rfl)
  · replace hf := hf.2 c3
    refine lv_iconst (v := (0 : Int32)) hx hb dX0_sameShape_15 (by decide) ?_
    exact hQ _ _ _ _ _ _ zb01_0 hf hR dX0_sameShape_16
/-! X10_begin -/
def fX10_begin (w : zW) (k : zW → Prop) : Prop :=
  ∀ w1 : zW, w1 = sI w 2 9 (0 : Int32) →
  ∀ w2 : zW, w2 = sI w1 2 8 (0 : Int32) →
  fX10_next  w2 (fun w3 =>
  k w3)
set_option maxHeartbeats 4000000 in
set_option maxRecDepth 100000 in
theorem mX10_begin {l : Launch} {D : va_G} {dA : Nat → ClassId} {ad : Nat → Nat} {al : Nat → Prop} {w : zW} {k : zW → Prop}   (hf : fX10_begin w k) : zmetV l yX10_begin cX10_begin 1 none 6 [.ref (ad 2)] D dA true ad al w k := by
  refine zmetV_of (by decide) (Nat.le_of_ble_eq_true rfl) ?_
  intro p e R s m below meth c Q H ls args locs cells slots X hr hQ hR hl
  have hx := X.1
  have hb := X.2.1
  have hml := X.2.2.1
  have hown := X.2.2.2.1
  have hts := X.2.2.2.2.1
  unfold fX10_begin at hf
  have hl : lv_has ls 1 [(0, .ref (ad 2))] := hl
  refine lv_aload_n hx hb dX10_begin_0 rfl (lv_at hl 0 rfl) ?_
  refine lv_iconst (v := (0 : Int32)) hx hb dX10_begin_1 (by decide) ?_
  refine z_putI X hR (zlit hR zf_2) zs_2 (by decide) zfp_X10_19 rfl dX10_begin_2 (fun H locs hR => ?_)
  obtain ⟨w1, hw1⟩ : ∃ z : zW, z = sI w 2 9 (0 : Int32) := ⟨_, rfl⟩
  rw [← hw1] at hR
  replace hf := hf w1 hw1
  refine lv_aload_n hx hb dX10_begin_5 rfl (lv_at hl 0 rfl) ?_
  refine lv_iconst (v := (0 : Int32)) hx hb dX10_begin_6 (by decide) ?_
  refine z_putI X hR (zlit hR zf_2) zs_2 (by decide) zfp_X10_22 rfl dX10_begin_7 (fun H locs hR => ?_)
  obtain ⟨w2, hw2⟩ : ∃ z : zW, z = sI w1 2 8 (0 : Int32) := ⟨_, rfl⟩
  rw [← hw2] at hR
  replace hf := hf w2 hw2
  refine lv_aload_n hx hb dX10_begin_10 rfl (lv_at hl 0 rfl) ?_
  refine z_callVV (fr1 := 5) (b := 2) (As := []) (rest := []) X (hr.le (by decide)) hR zy_X10_next zq_293 (zlit hR zf_2) (by rw [zs_2]; rfl) rfl (mX10_next  hf) rfl hl (Nat.le_of_ble_eq_true rfl) dX10_begin_11 rfl (fun w3 H locs hf hR => ?_)
  exact hQ _ _ _ _ _ hf hR dX10_begin_14
/-! X10_takeEnd -/
def fX10_takeEnd (w : zW) (k : Int32 → zW → Prop) : Prop :=
  fX10_isSign (59 : Int32) w (fun r1 w1 =>
  ((¬ r1 = 0 →
    fX10_next  w1 (fun w3 =>
    k (1 : Int32) w3)) ∧
   (r1 = 0 →
    fX10_wrong (1 : Int32) w1 (fun r4 w4 =>
    zb01 r4 ∧ k r4 w4))))
set_option maxHeartbeats 4000000 in
set_option maxRecDepth 100000 in
theorem mX10_takeEnd {l : Launch} {D : va_G} {dA : Nat → ClassId} {ad : Nat → Nat} {al : Nat → Prop} {w : zW} {k : Int32 → zW → Prop}   (hf : fX10_takeEnd w k) : zmetI l yX10_takeEnd cX10_takeEnd 1 (some .boolean) 6 [.ref (ad 2)] D dA true ad al w k := by
  refine zmetZ_of (by decide) (Nat.le_of_ble_eq_true rfl) ?_
  intro p e R s m below meth c Q H ls args locs cells slots X hr hQ hR hl
  have hx := X.1
  have hb := X.2.1
  have hml := X.2.2.1
  have hown := X.2.2.2.1
  have hts := X.2.2.2.2.1
  unfold fX10_takeEnd at hf
  have hl : lv_has ls 1 [(0, .ref (ad 2))] := hl
  refine lv_aload_n hx hb dX10_takeEnd_0 rfl (lv_at hl 0 rfl) ?_
  refine lv_bipush (v := (59 : Int32)) hx hb dX10_takeEnd_1 (by decide) ?_
  refine z_callVI (fr1 := 0) (b := 2) (As := [.int (59 : Int32)]) (rest := []) X (hr.le (by decide)) hR zy_X10_isSign zq_448 (zlit hR zf_2) (by rw [zs_2]; rfl) rfl (mX10_isSign  hf) rfl hl (Nat.le_of_ble_eq_true rfl) dX10_takeEnd_3 rfl (fun r1 w1 H locs hf hR => ?_)
  refine lv_if_ne (tgt := 15) hx hb dX10_takeEnd_6 (by decide) (fun c2 => ?_) (fun c2 => ?_)
  · replace hf := hf.1 c2
    refine lv_aload_n hx hb dX10_takeEnd_15 rfl (lv_at hl 0 rfl) ?_
    refine z_callVV (fr1 := 5) (b := 2) (As := []) (rest := []) X (hr.le (by decide)) hR zy_X10_next zq_293 (zlit hR zf_2) (by rw [zs_2]; rfl) rfl (mX10_next  hf) rfl hl (Nat.le_of_ble_eq_true rfl) dX10_takeEnd_16 rfl (fun w3 H locs hf hR => ?_)
    refine lv_iconst (v := (1 : Int32)) hx hb dX10_takeEnd_19 (by decide) ?_
    exact hQ _ _ _ _ _ _ zb01_1 hf hR dX10_takeEnd_20
  · replace hf := hf.2 c2
    refine lv_aload_n hx hb dX10_takeEnd_9 rfl (lv_at hl 0 rfl) ?_
    refine lv_iconst (v := (1 : Int32)) hx hb dX10_takeEnd_10 (by decide) ?_
    refine z_callVI (fr1 := 0) (b := 2) (As := [.int (1 : Int32)]) (rest := []) X (hr.le (by decide)) hR zy_X10_wrong zq_452 (zlit hR zf_2) (by rw [zs_2]; rfl) rfl (mX10_wrong  hf) rfl hl (Nat.le_of_ble_eq_true rfl) dX10_takeEnd_11 rfl (fun r4 w4 H locs hf hR => ?_)
    obtain ⟨h01, hf⟩ := hf
    exact hQ _ _ _ _ _ _ h01 hf hR dX10_takeEnd_14
/-! X10_takeNumber -/
def fX10_takeNumber_J32 (k : Int32 → zW → Prop)  (w : zW) : Prop :=
  fX10_wrong (4 : Int32) w (fun r3 w3 =>
  k (-1 : Int32) w3)
set_option maxHeartbeats 4000000 in
set_option maxRecDepth 100000 in
theorem mX10_takeNumber_J32 {k : Int32 → zW → Prop} (X : zCx p s m args meth c cX10_takeNumber 4 RX10 (some .int)) (hr : zRm R 6 cells slots) (hQ : zRetI p l e R s m args below meth c cells slots Q D dA true ad0 al0 ad al cX10_takeNumber k)   {w : zW} {H : Heap} {locs : List Loc} {ls : Array Slot} (hf : fX10_takeNumber_J32 k  w) (hR : zSt D dA true ad0 al0 ad al w s H locs) (hl : lv_has ls 4 [(0, .ref (ad 2))]) : W p l e R s m args below meth c H locs cells slots Q (F0 m 32 ls []) := by
  have hx := X.1
  have hb := X.2.1
  have hml := X.2.2.1
  have hown := X.2.2.2.1
  have hts := X.2.2.2.2.1
  unfold fX10_takeNumber_J32 at hf
  refine lv_aload_n hx hb dX10_takeNumber_32 rfl (lv_at hl 0 rfl) ?_
  refine lv_iconst (v := (4 : Int32)) hx hb dX10_takeNumber_33 (by decide) ?_
  refine z_callVI (fr1 := 0) (b := 2) (As := [.int (4 : Int32)]) (rest := []) X (hr.le (by decide)) hR zy_X10_wrong zq_452 (zlit hR zf_2) (by rw [zs_2]; rfl) rfl (mX10_wrong  hf) rfl hl (Nat.le_of_ble_eq_true rfl) dX10_takeNumber_34 rfl (fun r3 w3 H locs hf hR => ?_)
  refine lv_pop hx hb dX10_takeNumber_37 rfl ?_
  refine lv_iconst (v := (-1 : Int32)) hx hb dX10_takeNumber_38 (by decide) ?_
  exact hQ _ _ _ _ _ _ hf hR dX10_takeNumber_39
def fX10_takeNumber (x1 : Int32) (x2 : Int32) (w : zW) (k : Int32 → zW → Prop) : Prop :=
  (((gI w 2 2) = (2 : Int32) →
    (((gI w 2 4) < x1 →
      fX10_takeNumber_J32 k  w) ∧
     (¬ (gI w 2 4) < x1 →
      (((gI w 2 4) ≤ x2 →
        ∀ v5 : Int32, v5 = gI w 2 4 →
        fX10_next  w (fun w6 =>
        k v5 w6)) ∧
       (¬ (gI w 2 4) ≤ x2 →
        fX10_takeNumber_J32 k  w))))) ∧
   (¬ (gI w 2 2) = (2 : Int32) →
    fX10_wrong (1 : Int32) w (fun r7 w7 =>
    k (-1 : Int32) w7)))
set_option maxHeartbeats 4000000 in
set_option maxRecDepth 100000 in
theorem mX10_takeNumber {l : Launch} {D : va_G} {dA : Nat → ClassId} {ad : Nat → Nat} {al : Nat → Prop} {w : zW} {k : Int32 → zW → Prop} {x1 : Int32} {x2 : Int32}   (hf : fX10_takeNumber x1 x2 w k) : zmetI l yX10_takeNumber cX10_takeNumber 4 (some .int) 6 [.ref (ad 2), .int x1, .int x2] D dA true ad al w k := by
  refine zmetI_of (by decide) (Nat.le_of_ble_eq_true rfl) ?_
  intro p e R s m below meth c Q H ls args locs cells slots X hr hQ hR hl
  have hx := X.1
  have hb := X.2.1
  have hml := X.2.2.1
  have hown := X.2.2.2.1
  have hts := X.2.2.2.2.1
  unfold fX10_takeNumber at hf
  have hl : lv_has ls 4 [(0, .ref (ad 2)), (1, .int x1), (2, .int x2)] := hl
  refine lv_aload_n hx hb dX10_takeNumber_0 rfl (lv_at hl 0 rfl) ?_
  refine z_getI X hR (zlit hR zf_2) zs_2 (by decide) zfd_X10_34 rfl dX10_takeNumber_1 ?_
  refine lv_iconst (v := (2 : Int32)) hx hb dX10_takeNumber_4 (by decide) ?_
  refine lv_icmp_eq (tgt := 16) hx hb dX10_takeNumber_5 (by decide) (fun c1 => ?_) (fun c1 => ?_)
  · replace hf := hf.1 c1
    refine lv_aload_n hx hb dX10_takeNumber_16 rfl (lv_at hl 0 rfl) ?_
    refine z_getI X hR (zlit hR zf_2) zs_2 (by decide) zfd_X10_56 rfl dX10_takeNumber_17 ?_
    refine lv_iload_n hx hb dX10_takeNumber_20 rfl (lv_at hl 1 rfl) ?_
    refine lv_icmp_lt (tgt := 32) hx hb dX10_takeNumber_21 (by decide) (fun c2 => ?_) (fun c2 => ?_)
    · replace hf := hf.1 c2
      exact mX10_takeNumber_J32 X hr hQ  hf hR (lv_sub hl [0] rfl)
    · replace hf := hf.2 c2
      refine lv_aload_n hx hb dX10_takeNumber_24 rfl (lv_at hl 0 rfl) ?_
      refine z_getI X hR (zlit hR zf_2) zs_2 (by decide) zfd_X10_56 rfl dX10_takeNumber_25 ?_
      refine lv_iload_n hx hb dX10_takeNumber_28 rfl (lv_at hl 2 rfl) ?_
      refine lv_icmp_le (tgt := 40) hx hb dX10_takeNumber_29 (by decide) (fun c4 => ?_) (fun c4 => ?_)
      · replace hf := hf.1 c4
        refine lv_aload_n hx hb dX10_takeNumber_40 rfl (lv_at hl 0 rfl) ?_
        refine z_getI X hR (zlit hR zf_2) zs_2 (by decide) zfd_X10_56 rfl dX10_takeNumber_41 ?_
        refine lv_topi (fun v5 hv5 => ?_)
        replace hf := hf v5 hv5
        refine lv_istore_n (lv' := [(3, .int v5), (0, .ref (ad 2)), (1, .int x1), (2, .int x2)]) hx hb dX10_takeNumber_44 rfl hl (by decide) rfl (fun ls hl => ?_)
        refine lv_aload_n hx hb dX10_takeNumber_45 rfl (lv_at hl 1 rfl) ?_
        refine z_callVV (fr1 := 5) (b := 2) (As := []) (rest := []) X (hr.le (by decide)) hR zy_X10_next zq_293 (zlit hR zf_2) (by rw [zs_2]; rfl) rfl (mX10_next  hf) rfl hl (Nat.le_of_ble_eq_true rfl) dX10_takeNumber_46 rfl (fun w6 H locs hf hR => ?_)
        refine lv_iload_n hx hb dX10_takeNumber_49 rfl (lv_at hl 0 rfl) ?_
        exact hQ _ _ _ _ _ _ hf hR dX10_takeNumber_50
      · replace hf := hf.2 c4
        exact mX10_takeNumber_J32 X hr hQ  hf hR (lv_sub hl [0] rfl)
  · replace hf := hf.2 c1
    refine lv_aload_n hx hb dX10_takeNumber_8 rfl (lv_at hl 0 rfl) ?_
    refine lv_iconst (v := (1 : Int32)) hx hb dX10_takeNumber_9 (by decide) ?_
    refine z_callVI (fr1 := 0) (b := 2) (As := [.int (1 : Int32)]) (rest := []) X (hr.le (by decide)) hR zy_X10_wrong zq_452 (zlit hR zf_2) (by rw [zs_2]; rfl) rfl (mX10_wrong  hf) rfl hl (Nat.le_of_ble_eq_true rfl) dX10_takeNumber_10 rfl (fun r7 w7 H locs hf hR => ?_)
    refine lv_pop hx hb dX10_takeNumber_13 rfl ?_
    refine lv_iconst (v := (-1 : Int32)) hx hb dX10_takeNumber_14 (by decide) ?_
    exact hQ _ _ _ _ _ _ hf hR dX10_takeNumber_15
/-! X1_readAfter -/
def fX1_readAfter_J73 (k : Int32 → zW → Prop)  (w : zW) : Prop :=
  ¬ gR w 4 3 = 0 ∧
  fX10_takeNumber (0 : Int32) ((gI w (gR w 4 3) 7) - (1 : Int32)) w (fun r5 w5 =>
  ((r5 < 0 →
    k (0 : Int32) w5) ∧
   (¬ r5 < 0 →
    ((r5 < (8 : Int32) →
      (((gI w5 2 5) = (4 : Int32) →
        fX10_next  w5 (fun w9 =>
        fX10_takeNumber (0 : Int32) (99 : Int32) w9 (fun r10 w10 =>
        ((¬ r10 = (-1 : Int32) →
          ¬ gR w10 4 3 = 0 ∧
          vp_in r5 8 ∧ 
          ∀ w14 : zW, w14 = sI w10 ((gR w10 4 3) + 29) r5.toNatClampNeg r10 →
          fX10_takeEnd  w14 (fun r15 w15 =>
          zb01 r15 ∧ k r15 w15)) ∧
         (r10 = (-1 : Int32) →
          k (0 : Int32) w10))))) ∧
       (¬ (gI w5 2 5) = (4 : Int32) →
        fX10_wrong (1 : Int32) w5 (fun r16 w16 =>
        zb01 r16 ∧ k r16 w16)))) ∧
     (¬ r5 < (8 : Int32) →
      k (0 : Int32) w5)))))
set_option maxHeartbeats 4000000 in
set_option maxRecDepth 100000 in
theorem mX1_readAfter_J73 {k : Int32 → zW → Prop} (X : zCx p s m args meth c cX1_readAfter 3 RX1 (some .boolean)) (hr : zRm R 7 cells slots) (hQ : zRetZ p l e R s m args below meth c cells slots Q D dA true ad0 al0 ad al cX1_readAfter k)   {w : zW} {H : Heap} {locs : List Loc} {ls : Array Slot} (hf : fX1_readAfter_J73 k  w) (hR : zSt D dA true ad0 al0 ad al w s H locs) (hl : lv_has ls 3 [(0, .ref (ad 4))]) : W p l e R s m args below meth c H locs cells slots Q (F0 m 73 ls []) := by
  have hx := X.1
  have hb := X.2.1
  have hml := X.2.2.1
  have hown := X.2.2.2.1
  have hts := X.2.2.2.2.1
  unfold fX1_readAfter_J73 at hf
  refine lv_aload_n hx hb dX1_readAfter_73 rfl (lv_at hl 0 rfl) ?_
  refine z_getS X hR (zlit hR zf_4) zs_4 (by decide) zfd_X1_15 rfl (r := 2) (by decide +kernel) dX1_readAfter_74 ?_
  refine lv_iconst (v := (0 : Int32)) hx hb dX1_readAfter_77 (by decide) ?_
  refine lv_aload_n hx hb dX1_readAfter_78 rfl (lv_at hl 0 rfl) ?_
  refine z_getR X hR (zlit hR zf_4) zs_4 (by decide) zfd_X1_28 rfl dX1_readAfter_79 ?_
  obtain ⟨hn40, hf⟩ := hf
  have hn4 : al (gR w 4 3) ∧ zsh (gR w 4 3) = 0 := zwt_of hR (zlit hR zf_4) zs_4 rfl hn40 (zdc_of zs_4 rfl)
  rw [zrf_pos hn40]
  refine z_getI X hR hn4.1 hn4.2 (by decide) zfd_X1_121 rfl dX1_readAfter_82 ?_
  refine lv_iconst (v := (1 : Int32)) hx hb dX1_readAfter_85 (by decide) ?_
  refine lv_isub hx hb dX1_readAfter_86 ?_
  refine z_callVI (fr1 := 6) (b := 2) (As := [.int (0 : Int32), .int ((gI w (gR w 4 3) 7) - (1 : Int32))]) (rest := []) X (hr.le (by decide)) hR zy_X10_takeNumber zq_458 (zlit hR zf_2) (by rw [zs_2]; rfl) rfl (mX10_takeNumber  hf) rfl hl (Nat.le_of_ble_eq_true rfl) dX1_readAfter_87 rfl (fun r5 w5 H locs hf hR => ?_)
  refine lv_istore_n (lv' := [(1, .int r5), (0, .ref (ad 4))]) hx hb dX1_readAfter_90 rfl hl (by decide) rfl (fun ls hl => ?_)
  refine lv_iload_n hx hb dX1_readAfter_91 rfl (lv_at hl 0 rfl) ?_
  refine lv_if_lt (tgt := 101) hx hb dX1_readAfter_92 (by decide) (fun c6 => ?_) (fun c6 => ?_)
  · replace hf := hf.1 c6
    refine lv_iconst (v := (0 : Int32)) hx hb dX1_readAfter_101 (by decide) ?_
    exact hQ _ _ _ _ _ _ zb01_0 hf hR dX1_readAfter_102
  · replace hf := hf.2 c6
    refine lv_iload_n hx hb dX1_readAfter_95 rfl (lv_at hl 0 rfl) ?_
    refine lv_bipush (v := (8 : Int32)) hx hb dX1_readAfter_96 (by decide) ?_
    refine lv_icmp_lt (tgt := 103) hx hb dX1_readAfter_98 (by decide) (fun c7 => ?_) (fun c7 => ?_)
    · replace hf := hf.1 c7
      refine lv_aload_n hx hb dX1_readAfter_103 rfl (lv_at hl 1 rfl) ?_
      refine z_getS X hR (zlit hR zf_4) zs_4 (by decide) zfd_X1_15 rfl (r := 2) (by decide +kernel) dX1_readAfter_104 ?_
      refine z_getI X hR (zlit hR zf_2) zs_2 (by decide) zfd_X1_51 rfl dX1_readAfter_107 ?_
      refine lv_iconst (v := (4 : Int32)) hx hb dX1_readAfter_110 (by decide) ?_
      refine lv_icmp_eq (tgt := 123) hx hb dX1_readAfter_111 (by decide) (fun c8 => ?_) (fun c8 => ?_)
      · replace hf := hf.1 c8
        refine lv_aload_n hx hb dX1_readAfter_123 rfl (lv_at hl 1 rfl) ?_
        refine z_getS X hR (zlit hR zf_4) zs_4 (by decide) zfd_X1_15 rfl (r := 2) (by decide +kernel) dX1_readAfter_124 ?_
        refine z_callVV (fr1 := 5) (b := 2) (As := []) (rest := []) X (hr.le (by decide)) hR zy_X10_next zq_435 (zlit hR zf_2) (by rw [zs_2]; rfl) rfl (mX10_next  hf) rfl hl (Nat.le_of_ble_eq_true rfl) dX1_readAfter_127 rfl (fun w9 H locs hf hR => ?_)
        refine lv_aload_n hx hb dX1_readAfter_130 rfl (lv_at hl 1 rfl) ?_
        refine z_getS X hR (zlit hR zf_4) zs_4 (by decide) zfd_X1_15 rfl (r := 2) (by decide +kernel) dX1_readAfter_131 ?_
        refine lv_iconst (v := (0 : Int32)) hx hb dX1_readAfter_134 (by decide) ?_
        refine lv_bipush (v := (99 : Int32)) hx hb dX1_readAfter_135 (by decide) ?_
        refine z_callVI (fr1 := 6) (b := 2) (As := [.int (0 : Int32), .int (99 : Int32)]) (rest := []) X (hr.le (by decide)) hR zy_X10_takeNumber zq_458 (zlit hR zf_2) (by rw [zs_2]; rfl) rfl (mX10_takeNumber  hf) rfl hl (Nat.le_of_ble_eq_true rfl) dX1_readAfter_137 rfl (fun r10 w10 H locs hf hR => ?_)
        refine lv_istore_n (lv' := [(2, .int r10), (1, .int r5), (0, .ref (ad 4))]) hx hb dX1_readAfter_140 rfl hl (by decide) rfl (fun ls hl => ?_)
        refine lv_iload_n hx hb dX1_readAfter_141 rfl (lv_at hl 0 rfl) ?_
        refine lv_iconst (v := (-1 : Int32)) hx hb dX1_readAfter_142 (by decide) ?_
        refine lv_icmp_ne (tgt := 148) hx hb dX1_readAfter_143 (by decide) (fun c11 => ?_) (fun c11 => ?_)
        · replace hf := hf.1 c11
          refine lv_aload_n hx hb dX1_readAfter_148 rfl (lv_at hl 2 rfl) ?_
          refine z_getR X hR (zlit hR zf_4) zs_4 (by decide) zfd_X1_28 rfl dX1_readAfter_149 ?_
          obtain ⟨hn120, hf⟩ := hf
          have hn12 : al (gR w10 4 3) ∧ zsh (gR w10 4 3) = 0 := zwt_of hR (zlit hR zf_4) zs_4 rfl hn120 (zdc_of zs_4 rfl)
          rw [zrf_pos hn120]
          refine z_getS X hR hn12.1 hn12.2 (by decide) zfd_X1_124 rfl (r := (gR w10 4 3) + 29) (zst_0 hn12.2 11 rfl) dX1_readAfter_152 ?_
          refine lv_iload_n hx hb dX1_readAfter_155 rfl (lv_at hl 1 rfl) ?_
          refine lv_iload_n hx hb dX1_readAfter_156 rfl (lv_at hl 0 rfl) ?_
          obtain ⟨hb13, hf⟩ := hf
          refine z_iast X hR (zoff hR hn12.2 zo_0_29).1 (zoff hR hn12.2 zo_0_29).2.1 (zoff hR hn12.2 zo_0_29).2.2 hb13 dX1_readAfter_157 (fun H locs hR => ?_)
          obtain ⟨w14, hw14⟩ : ∃ z : zW, z = sI w10 ((gR w10 4 3) + 29) r5.toNatClampNeg r10 := ⟨_, rfl⟩
          rw [← hw14] at hR
          replace hf := hf w14 hw14
          refine lv_aload_n hx hb dX1_readAfter_158 rfl (lv_at hl 2 rfl) ?_
          refine z_getS X hR (zlit hR zf_4) zs_4 (by decide) zfd_X1_15 rfl (r := 2) (by decide +kernel) dX1_readAfter_159 ?_
          refine z_callVI (fr1 := 6) (b := 2) (As := []) (rest := []) X (hr.le (by decide)) hR zy_X10_takeEnd zq_444 (zlit hR zf_2) (by rw [zs_2]; rfl) rfl (mX10_takeEnd  hf) rfl hl (Nat.le_of_ble_eq_true rfl) dX1_readAfter_162 rfl (fun r15 w15 H locs hf hR => ?_)
          obtain ⟨h01, hf⟩ := hf
          exact hQ _ _ _ _ _ _ h01 hf hR dX1_readAfter_165
        · replace hf := hf.2 c11
          refine lv_iconst (v := (0 : Int32)) hx hb dX1_readAfter_146 (by decide) ?_
          exact hQ _ _ _ _ _ _ zb01_0 hf hR dX1_readAfter_147
      · replace hf := hf.2 c8
        refine lv_aload_n hx hb dX1_readAfter_114 rfl (lv_at hl 1 rfl) ?_
        refine z_getS X hR (zlit hR zf_4) zs_4 (by decide) zfd_X1_15 rfl (r := 2) (by decide +kernel) dX1_readAfter_115 ?_
        refine lv_iconst (v := (1 : Int32)) hx hb dX1_readAfter_118 (by decide) ?_
        refine z_callVI (fr1 := 0) (b := 2) (As := [.int (1 : Int32)]) (rest := []) X (hr.le (by decide)) hR zy_X10_wrong zq_431 (zlit hR zf_2) (by rw [zs_2]; rfl) rfl (mX10_wrong  hf) rfl hl (Nat.le_of_ble_eq_true rfl) dX1_readAfter_119 rfl (fun r16 w16 H locs hf hR => ?_)
        obtain ⟨h01, hf⟩ := hf
        exact hQ _ _ _ _ _ _ h01 hf hR dX1_readAfter_122
    · replace hf := hf.2 c7
      refine lv_iconst (v := (0 : Int32)) hx hb dX1_readAfter_101 (by decide) ?_
      exact hQ _ _ _ _ _ _ zb01_0 hf hR dX1_readAfter_102
def fX1_readAfter_J29 (k : Int32 → zW → Prop) (t0 : Int32) (w : zW) : Prop :=
  ((t0 < 0 →
    fX1_readAfter_J73 k  w) ∧
   (¬ t0 < 0 →
    ¬ gR w 4 3 = 0 ∧
    (((gI w (gR w 4 3) 7) ≤ t0 →
      fX1_readAfter_J73 k  w) ∧
     (¬ (gI w (gR w 4 3) 7) ≤ t0 →
      (((8 : Int32) ≤ t0 →
        fX1_readAfter_J73 k  w) ∧
       (¬ (8 : Int32) ≤ t0 →
        vp_in t0 8 ∧ 
        (((gI w ((gR w 4 3) + 29) t0.toNatClampNeg) = (-1 : Int32) →
          fX1_readAfter_J73 k  w) ∧
         (¬ (gI w ((gR w 4 3) + 29) t0.toNatClampNeg) = (-1 : Int32) →
          fX10_wrong (3 : Int32) w (fun r22 w22 =>
          zb01 r22 ∧ k r22 w22)))))))))
set_option maxHeartbeats 4000000 in
set_option maxRecDepth 100000 in
theorem mX1_readAfter_J29 {k : Int32 → zW → Prop} (X : zCx p s m args meth c cX1_readAfter 3 RX1 (some .boolean)) (hr : zRm R 7 cells slots) (hQ : zRetZ p l e R s m args below meth c cells slots Q D dA true ad0 al0 ad al cX1_readAfter k)  {t0 : Int32} {w : zW} {H : Heap} {locs : List Loc} {ls : Array Slot} (hf : fX1_readAfter_J29 k t0 w) (hR : zSt D dA true ad0 al0 ad al w s H locs) (hl : lv_has ls 3 [(0, .ref (ad 4))]) : W p l e R s m args below meth c H locs cells slots Q (F0 m 29 ls [.int t0]) := by
  have hx := X.1
  have hb := X.2.1
  have hml := X.2.2.1
  have hown := X.2.2.2.1
  have hts := X.2.2.2.2.1
  unfold fX1_readAfter_J29 at hf
  refine lv_istore_n (lv' := [(1, .int t0), (0, .ref (ad 4))]) hx hb dX1_readAfter_29 rfl hl (by decide) rfl (fun ls hl => ?_)
  refine lv_iload_n hx hb dX1_readAfter_30 rfl (lv_at hl 0 rfl) ?_
  refine lv_if_lt (tgt := 73) hx hb dX1_readAfter_31 (by decide) (fun c3 => ?_) (fun c3 => ?_)
  · replace hf := hf.1 c3
    exact mX1_readAfter_J73 X hr hQ  hf hR (lv_sub hl [1] rfl)
  · replace hf := hf.2 c3
    refine lv_iload_n hx hb dX1_readAfter_34 rfl (lv_at hl 0 rfl) ?_
    refine lv_aload_n hx hb dX1_readAfter_35 rfl (lv_at hl 1 rfl) ?_
    refine z_getR X hR (zlit hR zf_4) zs_4 (by decide) zfd_X1_28 rfl dX1_readAfter_36 ?_
    obtain ⟨hn170, hf⟩ := hf
    have hn17 : al (gR w 4 3) ∧ zsh (gR w 4 3) = 0 := zwt_of hR (zlit hR zf_4) zs_4 rfl hn170 (zdc_of zs_4 rfl)
    rw [zrf_pos hn170]
    refine z_getI X hR hn17.1 hn17.2 (by decide) zfd_X1_121 rfl dX1_readAfter_39 ?_
    refine lv_icmp_ge (tgt := 73) hx hb dX1_readAfter_42 (by decide) (fun c18 => ?_) (fun c18 => ?_)
    · replace hf := hf.1 c18
      exact mX1_readAfter_J73 X hr hQ  hf hR (lv_sub hl [1] rfl)
    · replace hf := hf.2 c18
      refine lv_iload_n hx hb dX1_readAfter_45 rfl (lv_at hl 0 rfl) ?_
      refine lv_bipush (v := (8 : Int32)) hx hb dX1_readAfter_46 (by decide) ?_
      refine lv_icmp_ge (tgt := 73) hx hb dX1_readAfter_48 (by decide) (fun c19 => ?_) (fun c19 => ?_)
      · replace hf := hf.1 c19
        exact mX1_readAfter_J73 X hr hQ  hf hR (lv_sub hl [1] rfl)
      · replace hf := hf.2 c19
        refine lv_aload_n hx hb dX1_readAfter_51 rfl (lv_at hl 1 rfl) ?_
        refine z_getR X hR (zlit hR zf_4) zs_4 (by decide) zfd_X1_28 rfl dX1_readAfter_52 ?_
        rw [zrf_pos hn170]
        refine z_getS X hR hn17.1 hn17.2 (by decide) zfd_X1_124 rfl (r := (gR w 4 3) + 29) (zst_0 hn17.2 11 rfl) dX1_readAfter_55 ?_
        refine lv_iload_n hx hb dX1_readAfter_58 rfl (lv_at hl 0 rfl) ?_
        obtain ⟨hb20, hf⟩ := hf
        refine z_iald X hR (zoff hR hn17.2 zo_0_29).1 (zoff hR hn17.2 zo_0_29).2.1 (zoff hR hn17.2 zo_0_29).2.2 hb20 dX1_readAfter_59 ?_
        refine lv_iconst (v := (-1 : Int32)) hx hb dX1_readAfter_60 (by decide) ?_
        refine lv_icmp_eq (tgt := 73) hx hb dX1_readAfter_61 (by decide) (fun c21 => ?_) (fun c21 => ?_)
        · replace hf := hf.1 c21
          exact mX1_readAfter_J73 X hr hQ  hf hR (lv_sub hl [1] rfl)
        · replace hf := hf.2 c21
          refine lv_aload_n hx hb dX1_readAfter_64 rfl (lv_at hl 1 rfl) ?_
          refine z_getS X hR (zlit hR zf_4) zs_4 (by decide) zfd_X1_15 rfl (r := 2) (by decide +kernel) dX1_readAfter_65 ?_
          refine lv_iconst (v := (3 : Int32)) hx hb dX1_readAfter_68 (by decide) ?_
          refine z_callVI (fr1 := 0) (b := 2) (As := [.int (3 : Int32)]) (rest := []) X (hr.le (by decide)) hR zy_X10_wrong zq_431 (zlit hR zf_2) (by rw [zs_2]; rfl) rfl (mX10_wrong  hf) rfl hl (Nat.le_of_ble_eq_true rfl) dX1_readAfter_69 rfl (fun r22 w22 H locs hf hR => ?_)
          obtain ⟨h01, hf⟩ := hf
          exact hQ _ _ _ _ _ _ h01 hf hR dX1_readAfter_72
def fX1_readAfter (w : zW) (k : Int32 → zW → Prop) : Prop :=
  fX10_next  w (fun w1 =>
  ((¬ (gI w1 2 2) = (2 : Int32) →
    fX1_readAfter_J29 k (-1 : Int32) w1) ∧
   ((gI w1 2 2) = (2 : Int32) →
    fX1_readAfter_J29 k (gI w1 2 4) w1)))
set_option maxHeartbeats 4000000 in
set_option maxRecDepth 100000 in
theorem mX1_readAfter {l : Launch} {D : va_G} {dA : Nat → ClassId} {ad : Nat → Nat} {al : Nat → Prop} {w : zW} {k : Int32 → zW → Prop}   (hf : fX1_readAfter w k) : zmetI l yX1_readAfter cX1_readAfter 3 (some .boolean) 7 [.ref (ad 4)] D dA true ad al w k := by
  refine zmetZ_of (by decide) (Nat.le_of_ble_eq_true rfl) ?_
  intro p e R s m below meth c Q H ls args locs cells slots X hr hQ hR hl
  have hx := X.1
  have hb := X.2.1
  have hml := X.2.2.1
  have hown := X.2.2.2.1
  have hts := X.2.2.2.2.1
  unfold fX1_readAfter at hf
  have hl : lv_has ls 3 [(0, .ref (ad 4))] := hl
  refine lv_aload_n hx hb dX1_readAfter_0 rfl (lv_at hl 0 rfl) ?_
  refine z_getS X hR (zlit hR zf_4) zs_4 (by decide) zfd_X1_15 rfl (r := 2) (by decide +kernel) dX1_readAfter_1 ?_
  refine z_callVV (fr1 := 5) (b := 2) (As := []) (rest := []) X (hr.le (by decide)) hR zy_X10_next zq_435 (zlit hR zf_2) (by rw [zs_2]; rfl) rfl (mX10_next  hf) rfl hl (Nat.le_of_ble_eq_true rfl) dX1_readAfter_4 rfl (fun w1 H locs hf hR => ?_)
  refine lv_aload_n hx hb dX1_readAfter_7 rfl (lv_at hl 0 rfl) ?_
  refine z_getS X hR (zlit hR zf_4) zs_4 (by decide) zfd_X1_15 rfl (r := 2) (by decide +kernel) dX1_readAfter_8 ?_
  refine z_getI X hR (zlit hR zf_2) zs_2 (by decide) zfd_X1_47 rfl dX1_readAfter_11 ?_
  refine lv_iconst (v := (2 : Int32)) hx hb dX1_readAfter_14 (by decide) ?_
  refine lv_icmp_ne (tgt := 28) hx hb dX1_readAfter_15 (by decide) (fun c2 => ?_) (fun c2 => ?_)
  · replace hf := hf.1 c2
    refine lv_iconst (v := (-1 : Int32)) hx hb dX1_readAfter_28 (by decide) ?_
    exact mX1_readAfter_J29 X hr hQ  hf hR (lv_sub hl [0] rfl)
  · replace hf := hf.2 c2
    refine lv_aload_n hx hb dX1_readAfter_18 rfl (lv_at hl 0 rfl) ?_
    refine z_getS X hR (zlit hR zf_4) zs_4 (by decide) zfd_X1_15 rfl (r := 2) (by decide +kernel) dX1_readAfter_19 ?_
    refine z_getI X hR (zlit hR zf_2) zs_2 (by decide) zfd_X1_118 rfl dX1_readAfter_22 ?_
    refine lv_goto (tgt := 29) hx hb dX1_readAfter_25 (by decide) ?_
    exact mX1_readAfter_J29 X hr hQ  hf hR (lv_sub hl [0] rfl)
/-! X1_readCasts -/
def fX1_readCasts (w : zW) (k : Int32 → zW → Prop) : Prop :=
  ¬ gR w 4 3 = 0 ∧
  (((gI w (gR w 4 3) 6) = 0 →
    fX10_next  w (fun w3 =>
    fX10_takeNumber (1 : Int32) (60 : Int32) w3 (fun r4 w4 =>
    ((¬ r4 = (-1 : Int32) →
      ¬ gR w4 4 3 = 0 ∧
      ∀ w7 : zW, w7 = sI w4 (gR w4 4 3) 6 r4 →
      fX10_takeEnd  w7 (fun r8 w8 =>
      zb01 r8 ∧ k r8 w8)) ∧
     (r4 = (-1 : Int32) →
      k (0 : Int32) w4))))) ∧
   (¬ (gI w (gR w 4 3) 6) = 0 →
    fX10_wrong (3 : Int32) w (fun r9 w9 =>
    zb01 r9 ∧ k r9 w9)))
set_option maxHeartbeats 4000000 in
set_option maxRecDepth 100000 in
theorem mX1_readCasts {l : Launch} {D : va_G} {dA : Nat → ClassId} {ad : Nat → Nat} {al : Nat → Prop} {w : zW} {k : Int32 → zW → Prop}   (hf : fX1_readCasts w k) : zmetI l yX1_readCasts cX1_readCasts 2 (some .boolean) 7 [.ref (ad 4)] D dA true ad al w k := by
  refine zmetZ_of (by decide) (Nat.le_of_ble_eq_true rfl) ?_
  intro p e R s m below meth c Q H ls args locs cells slots X hr hQ hR hl
  have hx := X.1
  have hb := X.2.1
  have hml := X.2.2.1
  have hown := X.2.2.2.1
  have hts := X.2.2.2.2.1
  unfold fX1_readCasts at hf
  have hl : lv_has ls 2 [(0, .ref (ad 4))] := hl
  refine lv_aload_n hx hb dX1_readCasts_0 rfl (lv_at hl 0 rfl) ?_
  refine z_getR X hR (zlit hR zf_4) zs_4 (by decide) zfd_X1_28 rfl dX1_readCasts_1 ?_
  obtain ⟨hn10, hf⟩ := hf
  have hn1 : al (gR w 4 3) ∧ zsh (gR w 4 3) = 0 := zwt_of hR (zlit hR zf_4) zs_4 rfl hn10 (zdc_of zs_4 rfl)
  rw [zrf_pos hn10]
  refine z_getI X hR hn1.1 hn1.2 (by decide) zfd_X1_111 rfl dX1_readCasts_4 ?_
  refine lv_if_eq (tgt := 19) hx hb dX1_readCasts_7 (by decide) (fun c2 => ?_) (fun c2 => ?_)
  · replace hf := hf.1 c2
    refine lv_aload_n hx hb dX1_readCasts_19 rfl (lv_at hl 0 rfl) ?_
    refine z_getS X hR (zlit hR zf_4) zs_4 (by decide) zfd_X1_15 rfl (r := 2) (by decide +kernel) dX1_readCasts_20 ?_
    refine z_callVV (fr1 := 5) (b := 2) (As := []) (rest := []) X (hr.le (by decide)) hR zy_X10_next zq_435 (zlit hR zf_2) (by rw [zs_2]; rfl) rfl (mX10_next  hf) rfl hl (Nat.le_of_ble_eq_true rfl) dX1_readCasts_23 rfl (fun w3 H locs hf hR => ?_)
    refine lv_aload_n hx hb dX1_readCasts_26 rfl (lv_at hl 0 rfl) ?_
    refine z_getS X hR (zlit hR zf_4) zs_4 (by decide) zfd_X1_15 rfl (r := 2) (by decide +kernel) dX1_readCasts_27 ?_
    refine lv_iconst (v := (1 : Int32)) hx hb dX1_readCasts_30 (by decide) ?_
    refine lv_bipush (v := (60 : Int32)) hx hb dX1_readCasts_31 (by decide) ?_
    refine z_callVI (fr1 := 6) (b := 2) (As := [.int (1 : Int32), .int (60 : Int32)]) (rest := []) X (hr.le (by decide)) hR zy_X10_takeNumber zq_458 (zlit hR zf_2) (by rw [zs_2]; rfl) rfl (mX10_takeNumber  hf) rfl hl (Nat.le_of_ble_eq_true rfl) dX1_readCasts_33 rfl (fun r4 w4 H locs hf hR => ?_)
    refine lv_istore_n (lv' := [(1, .int r4), (0, .ref (ad 4))]) hx hb dX1_readCasts_36 rfl hl (by decide) rfl (fun ls hl => ?_)
    refine lv_iload_n hx hb dX1_readCasts_37 rfl (lv_at hl 0 rfl) ?_
    refine lv_iconst (v := (-1 : Int32)) hx hb dX1_readCasts_38 (by decide) ?_
    refine lv_icmp_ne (tgt := 44) hx hb dX1_readCasts_39 (by decide) (fun c5 => ?_) (fun c5 => ?_)
    · replace hf := hf.1 c5
      refine lv_aload_n hx hb dX1_readCasts_44 rfl (lv_at hl 1 rfl) ?_
      refine z_getR X hR (zlit hR zf_4) zs_4 (by decide) zfd_X1_28 rfl dX1_readCasts_45 ?_
      obtain ⟨hn60, hf⟩ := hf
      have hn6 : al (gR w4 4 3) ∧ zsh (gR w4 4 3) = 0 := zwt_of hR (zlit hR zf_4) zs_4 rfl hn60 (zdc_of zs_4 rfl)
      rw [zrf_pos hn60]
      refine lv_iload_n hx hb dX1_readCasts_48 rfl (lv_at hl 0 rfl) ?_
      refine z_putI X hR hn6.1 hn6.2 (by decide) zfp_X1_111 rfl dX1_readCasts_49 (fun H locs hR => ?_)
      obtain ⟨w7, hw7⟩ : ∃ z : zW, z = sI w4 (gR w4 4 3) 6 r4 := ⟨_, rfl⟩
      rw [← hw7] at hR
      replace hf := hf w7 hw7
      refine lv_aload_n hx hb dX1_readCasts_52 rfl (lv_at hl 1 rfl) ?_
      refine z_getS X hR (zlit hR zf_4) zs_4 (by decide) zfd_X1_15 rfl (r := 2) (by decide +kernel) dX1_readCasts_53 ?_
      refine z_callVI (fr1 := 6) (b := 2) (As := []) (rest := []) X (hr.le (by decide)) hR zy_X10_takeEnd zq_444 (zlit hR zf_2) (by rw [zs_2]; rfl) rfl (mX10_takeEnd  hf) rfl hl (Nat.le_of_ble_eq_true rfl) dX1_readCasts_56 rfl (fun r8 w8 H locs hf hR => ?_)
      obtain ⟨h01, hf⟩ := hf
      exact hQ _ _ _ _ _ _ h01 hf hR dX1_readCasts_59
    · replace hf := hf.2 c5
      refine lv_iconst (v := (0 : Int32)) hx hb dX1_readCasts_42 (by decide) ?_
      exact hQ _ _ _ _ _ _ zb01_0 hf hR dX1_readCasts_43
  · replace hf := hf.2 c2
    refine lv_aload_n hx hb dX1_readCasts_10 rfl (lv_at hl 0 rfl) ?_
    refine z_getS X hR (zlit hR zf_4) zs_4 (by decide) zfd_X1_15 rfl (r := 2) (by decide +kernel) dX1_readCasts_11 ?_
    refine lv_iconst (v := (3 : Int32)) hx hb dX1_readCasts_14 (by decide) ?_
    refine z_callVI (fr1 := 0) (b := 2) (As := [.int (3 : Int32)]) (rest := []) X (hr.le (by decide)) hR zy_X10_wrong zq_431 (zlit hR zf_2) (by rw [zs_2]; rfl) rfl (mX10_wrong  hf) rfl hl (Nat.le_of_ble_eq_true rfl) dX1_readCasts_15 rfl (fun r9 w9 H locs hf hR => ?_)
    obtain ⟨h01, hf⟩ := hf
    exact hQ _ _ _ _ _ _ h01 hf hR dX1_readCasts_18
/-! X1_endRow -/
def fX1_endRow (w : zW) (k : Int32 → zW → Prop) : Prop :=
  (((gI w 4 5) ≤ (60 : Int32) →
    ¬ gR w 4 3 = 0 ∧
    vp_in (gI w (gR w 4 3) 7) 8 ∧ 
    ∀ w4 : zW, w4 = sI w ((gR w 4 3) + 10) (gI w (gR w 4 3) 7).toNatClampNeg (gI w 4 5) →
    ¬ gR w4 4 3 = 0 ∧
    ∀ w6 : zW, w6 = sI w4 (gR w4 4 3) 7 ((gI w4 (gR w4 4 3) 7) + (1 : Int32)) →
    fX10_next  w6 (fun w7 =>
    k (1 : Int32) w7)) ∧
   (¬ (gI w 4 5) ≤ (60 : Int32) →
    fX10_wrong (5 : Int32) w (fun r8 w8 =>
    zb01 r8 ∧ k r8 w8)))
set_option maxHeartbeats 4000000 in
set_option maxRecDepth 100000 in
theorem mX1_endRow {l : Launch} {D : va_G} {dA : Nat → ClassId} {ad : Nat → Nat} {al : Nat → Prop} {w : zW} {k : Int32 → zW → Prop}   (hf : fX1_endRow w k) : zmetI l yX1_endRow cX1_endRow 1 (some .boolean) 6 [.ref (ad 4)] D dA true ad al w k := by
  refine zmetZ_of (by decide) (Nat.le_of_ble_eq_true rfl) ?_
  intro p e R s m below meth c Q H ls args locs cells slots X hr hQ hR hl
  have hx := X.1
  have hb := X.2.1
  have hml := X.2.2.1
  have hown := X.2.2.2.1
  have hts := X.2.2.2.2.1
  unfold fX1_endRow at hf
  have hl : lv_has ls 1 [(0, .ref (ad 4))] := hl
  refine lv_aload_n hx hb dX1_endRow_0 rfl (lv_at hl 0 rfl) ?_
  refine z_getI X hR (zlit hR zf_4) zs_4 (by decide) zfd_X1_130 rfl dX1_endRow_1 ?_
  refine lv_bipush (v := (60 : Int32)) hx hb dX1_endRow_4 (by decide) ?_
  refine lv_icmp_le (tgt := 18) hx hb dX1_endRow_6 (by decide) (fun c1 => ?_) (fun c1 => ?_)
  · replace hf := hf.1 c1
    refine lv_aload_n hx hb dX1_endRow_18 rfl (lv_at hl 0 rfl) ?_
    refine z_getR X hR (zlit hR zf_4) zs_4 (by decide) zfd_X1_28 rfl dX1_endRow_19 ?_
    obtain ⟨hn20, hf⟩ := hf
    have hn2 : al (gR w 4 3) ∧ zsh (gR w 4 3) = 0 := zwt_of hR (zlit hR zf_4) zs_4 rfl hn20 (zdc_of zs_4 rfl)
    rw [zrf_pos hn20]
    refine z_getS X hR hn2.1 hn2.2 (by decide) zfd_X1_146 rfl (r := (gR w 4 3) + 10) (zst_0 hn2.2 8 rfl) dX1_endRow_22 ?_
    refine lv_aload_n hx hb dX1_endRow_25 rfl (lv_at hl 0 rfl) ?_
    refine z_getR X hR (zlit hR zf_4) zs_4 (by decide) zfd_X1_28 rfl dX1_endRow_26 ?_
    rw [zrf_pos hn20]
    refine z_getI X hR hn2.1 hn2.2 (by decide) zfd_X1_121 rfl dX1_endRow_29 ?_
    refine lv_aload_n hx hb dX1_endRow_32 rfl (lv_at hl 0 rfl) ?_
    refine z_getI X hR (zlit hR zf_4) zs_4 (by decide) zfd_X1_130 rfl dX1_endRow_33 ?_
    obtain ⟨hb3, hf⟩ := hf
    refine z_iast X hR (zoff hR hn2.2 zo_0_10).1 (zoff hR hn2.2 zo_0_10).2.1 (zoff hR hn2.2 zo_0_10).2.2 hb3 dX1_endRow_36 (fun H locs hR => ?_)
    obtain ⟨w4, hw4⟩ : ∃ z : zW, z = sI w ((gR w 4 3) + 10) (gI w (gR w 4 3) 7).toNatClampNeg (gI w 4 5) := ⟨_, rfl⟩
    rw [← hw4] at hR
    replace hf := hf w4 hw4
    refine lv_aload_n hx hb dX1_endRow_37 rfl (lv_at hl 0 rfl) ?_
    refine z_getR X hR (zlit hR zf_4) zs_4 (by decide) zfd_X1_28 rfl dX1_endRow_38 ?_
    obtain ⟨hn50, hf⟩ := hf
    have hn5 : al (gR w4 4 3) ∧ zsh (gR w4 4 3) = 0 := zwt_of hR (zlit hR zf_4) zs_4 rfl hn50 (zdc_of zs_4 rfl)
    rw [zrf_pos hn50]
    refine lv_dup hx hb dX1_endRow_41 rfl ?_
    refine z_getI X hR hn5.1 hn5.2 (by decide) zfd_X1_121 rfl dX1_endRow_42 ?_
    refine lv_iconst (v := (1 : Int32)) hx hb dX1_endRow_45 (by decide) ?_
    refine lv_iadd hx hb dX1_endRow_46 ?_
    refine z_putI X hR hn5.1 hn5.2 (by decide) zfp_X1_121 rfl dX1_endRow_47 (fun H locs hR => ?_)
    obtain ⟨w6, hw6⟩ : ∃ z : zW, z = sI w4 (gR w4 4 3) 7 ((gI w4 (gR w4 4 3) 7) + (1 : Int32)) := ⟨_, rfl⟩
    rw [← hw6] at hR
    replace hf := hf w6 hw6
    refine lv_aload_n hx hb dX1_endRow_50 rfl (lv_at hl 0 rfl) ?_
    refine z_getS X hR (zlit hR zf_4) zs_4 (by decide) zfd_X1_15 rfl (r := 2) (by decide +kernel) dX1_endRow_51 ?_
    refine z_callVV (fr1 := 5) (b := 2) (As := []) (rest := []) X (hr.le (by decide)) hR zy_X10_next zq_435 (zlit hR zf_2) (by rw [zs_2]; rfl) rfl (mX10_next  hf) rfl hl (Nat.le_of_ble_eq_true rfl) dX1_endRow_54 rfl (fun w7 H locs hf hR => ?_)
    refine lv_iconst (v := (1 : Int32)) hx hb dX1_endRow_57 (by decide) ?_
    exact hQ _ _ _ _ _ _ zb01_1 hf hR dX1_endRow_58
  · replace hf := hf.2 c1
    refine lv_aload_n hx hb dX1_endRow_9 rfl (lv_at hl 0 rfl) ?_
    refine z_getS X hR (zlit hR zf_4) zs_4 (by decide) zfd_X1_15 rfl (r := 2) (by decide +kernel) dX1_endRow_10 ?_
    refine lv_iconst (v := (5 : Int32)) hx hb dX1_endRow_13 (by decide) ?_
    refine z_callVI (fr1 := 0) (b := 2) (As := [.int (5 : Int32)]) (rest := []) X (hr.le (by decide)) hR zy_X10_wrong zq_431 (zlit hR zf_2) (by rw [zs_2]; rfl) rfl (mX10_wrong  hf) rfl hl (Nat.le_of_ble_eq_true rfl) dX1_endRow_14 rfl (fun r8 w8 H locs hf hR => ?_)
    obtain ⟨h01, hf⟩ := hf
    exact hQ _ _ _ _ _ _ h01 hf hR dX1_endRow_17
/-! X10_isName -/
def fX10_isName (w : zW) (k : Int32 → zW → Prop) : Prop :=
  ((¬ (gI w 2 2) = (1 : Int32) →
    k (0 : Int32) w) ∧
   ((gI w 2 2) = (1 : Int32) →
    (((gI w 2 5) = (-1 : Int32) →
      k (1 : Int32) w) ∧
     (¬ (gI w 2 5) = (-1 : Int32) →
      ∀ v3 : Int32, v3 = (if (gI w 2 5) < (17 : Int32) then (0 : Int32) else (1 : Int32)) →
      zb01 v3 ∧ k v3 w))))
set_option maxHeartbeats 4000000 in
set_option maxRecDepth 100000 in
theorem mX10_isName {l : Launch} {D : va_G} {dA : Nat → ClassId} {ad : Nat → Nat} {al : Nat → Prop} {w : zW} {k : Int32 → zW → Prop}   (hf : fX10_isName w k) : zmetI l yX10_isName cX10_isName 1 (some .boolean) 0 [.ref (ad 2)] D dA true ad al w k := by
  refine zmetZ_of (by decide) (Nat.le_of_ble_eq_true rfl) ?_
  intro p e R s m below meth c Q H ls args locs cells slots X hr hQ hR hl
  have hx := X.1
  have hb := X.2.1
  have hml := X.2.2.1
  have hown := X.2.2.2.1
  have hts := X.2.2.2.2.1
  unfold fX10_isName at hf
  have hl : lv_has ls 1 [(0, .ref (ad 2))] := hl
  refine lv_aload_n hx hb dX10_isName_0 rfl (lv_at hl 0 rfl) ?_
  refine z_getI X hR (zlit hR zf_2) zs_2 (by decide) zfd_X10_34 rfl dX10_isName_1 ?_
  refine lv_iconst (v := (1 : Int32)) hx hb dX10_isName_4 (by decide) ?_
  refine lv_icmp_ne (tgt := 29) hx hb dX10_isName_5 (by decide) (fun c1 => ?_) (fun c1 => ?_)
  · replace hf := hf.1 c1
    refine lv_iconst (v := (0 : Int32)) hx hb dX10_isName_29 (by decide) ?_
    exact hQ _ _ _ _ _ _ zb01_0 hf hR dX10_isName_30
  · replace hf := hf.2 c1
    refine lv_aload_n hx hb dX10_isName_8 rfl (lv_at hl 0 rfl) ?_
    refine z_getI X hR (zlit hR zf_2) zs_2 (by decide) zfd_X10_31 rfl dX10_isName_9 ?_
    refine lv_iconst (v := (-1 : Int32)) hx hb dX10_isName_12 (by decide) ?_
    refine lv_icmp_eq (tgt := 25) hx hb dX10_isName_13 (by decide) (fun c2 => ?_) (fun c2 => ?_)
    · replace hf := hf.1 c2
      refine lv_iconst (v := (1 : Int32)) hx hb dX10_isName_25 (by decide) ?_
      refine lv_goto (tgt := 30) hx hb dX10_isName_26 (by decide) ?_
      exact hQ _ _ _ _ _ _ zb01_1 hf hR dX10_isName_30
    · replace hf := hf.2 c2
      refine lv_aload_n hx hb dX10_isName_16 rfl (lv_at hl 0 rfl) ?_
      refine z_getI X hR (zlit hR zf_2) zs_2 (by decide) zfd_X10_31 rfl dX10_isName_17 ?_
      refine lv_bipush (v := (17 : Int32)) hx hb dX10_isName_20 (by decide) ?_
      have kJ3 : ∀ v3 : Int32, v3 = (if (gI w 2 5) < (17 : Int32) then (0 : Int32) else (1 : Int32)) → W p l e R s m args below meth c H locs cells slots Q (F0 m 30 ls (.int v3 :: [])) := by
        intro v3 hv3
        replace hf := hf v3 hv3
        obtain ⟨h01, hf⟩ := hf
        exact hQ _ _ _ _ _ _ h01 hf hR dX10_isName_30
      refine lv_icmp_lt (tgt := 29) hx hb dX10_isName_22 (by decide) (fun c3 => ?_) (fun c3 => ?_)
      · refine lv_iconst (v := (0 : Int32)) hx hb dX10_isName_29 (by decide) ?_
        exact kJ3 _ (if_pos c3).symm
      · refine lv_iconst (v := (1 : Int32)) hx hb dX10_isName_25 (by decide) ?_
        refine lv_goto (tgt := 30) hx hb dX10_isName_26 (by decide) ?_
        exact kJ3 _ (if_neg c3).symm
/-! X10_takeName -/
def fX10_takeName (a1 : Nat) (w : zW) (k : Int32 → zW → Prop) : Prop :=
  fX10_isName  w (fun r1 w1 =>
  ((¬ r1 = 0 →
    fX0_wordNamed a1 (gL w1 2 7) w1 (fun r3 w3 =>
    ((¬ r3 = (-1 : Int32) →
      fX10_next  w3 (fun w5 =>
      k r3 w5)) ∧
     (r3 = (-1 : Int32) →
      fX10_wrong (2 : Int32) w3 (fun r6 w6 =>
      k (-1 : Int32) w6))))) ∧
   (r1 = 0 →
    fX10_wrong (1 : Int32) w1 (fun r7 w7 =>
    k (-1 : Int32) w7))))
set_option maxHeartbeats 4000000 in
set_option maxRecDepth 100000 in
theorem mX10_takeName {l : Launch} {D : va_G} {dA : Nat → ClassId} {ad : Nat → Nat} {al : Nat → Prop} {w : zW} {k : Int32 → zW → Prop} {a1 : Nat} (ha1 : al a1 ∧ zsh a1 = 0)  (hf : fX10_takeName a1 w k) : zmetI l yX10_takeName cX10_takeName 3 (some .int) 6 [.ref (ad 2), .ref (ad a1)] D dA true ad al w k := by
  refine zmetI_of (by decide) (Nat.le_of_ble_eq_true rfl) ?_
  intro p e R s m below meth c Q H ls args locs cells slots X hr hQ hR hl
  have hx := X.1
  have hb := X.2.1
  have hml := X.2.2.1
  have hown := X.2.2.2.1
  have hts := X.2.2.2.2.1
  unfold fX10_takeName at hf
  have hl : lv_has ls 3 [(0, .ref (ad 2)), (1, .ref (ad a1))] := hl
  refine lv_aload_n hx hb dX10_takeName_0 rfl (lv_at hl 0 rfl) ?_
  refine z_callVI (fr1 := 0) (b := 2) (As := []) (rest := []) X (hr.le (by decide)) hR zy_X10_isName zq_491 (zlit hR zf_2) (by rw [zs_2]; rfl) rfl (mX10_isName  hf) rfl hl (Nat.le_of_ble_eq_true rfl) dX10_takeName_1 rfl (fun r1 w1 H locs hf hR => ?_)
  refine lv_if_ne (tgt := 15) hx hb dX10_takeName_4 (by decide) (fun c2 => ?_) (fun c2 => ?_)
  · replace hf := hf.1 c2
    refine lv_aload_n hx hb dX10_takeName_15 rfl (lv_at hl 1 rfl) ?_
    refine lv_aload_n hx hb dX10_takeName_16 rfl (lv_at hl 0 rfl) ?_
    refine z_getL X hR (zlit hR zf_2) zs_2 (by decide) zfd_X10_48 rfl dX10_takeName_17 ?_
    refine z_callVI (fr1 := 0) (b := a1) (As := [.long (gL w1 2 7)]) (rest := []) X (hr.le (by decide)) hR zy_X0_wordNamed zq_492 ha1.1 (by rw [ha1.2]; rfl) rfl (mX0_wordNamed ⟨ha1.1, ha1.2⟩ hf) rfl hl (Nat.le_of_ble_eq_true rfl) dX10_takeName_20 rfl (fun r3 w3 H locs hf hR => ?_)
    refine lv_istore_n (lv' := [(2, .int r3), (0, .ref (ad 2)), (1, .ref (ad a1))]) hx hb dX10_takeName_23 rfl hl (by decide) rfl (fun ls hl => ?_)
    refine lv_iload_n hx hb dX10_takeName_24 rfl (lv_at hl 0 rfl) ?_
    refine lv_iconst (v := (-1 : Int32)) hx hb dX10_takeName_25 (by decide) ?_
    refine lv_icmp_ne (tgt := 37) hx hb dX10_takeName_26 (by decide) (fun c4 => ?_) (fun c4 => ?_)
    · replace hf := hf.1 c4
      refine lv_aload_n hx hb dX10_takeName_37 rfl (lv_at hl 1 rfl) ?_
      refine z_callVV (fr1 := 5) (b := 2) (As := []) (rest := []) X (hr.le (by decide)) hR zy_X10_next zq_293 (zlit hR zf_2) (by rw [zs_2]; rfl) rfl (mX10_next  hf) rfl hl (Nat.le_of_ble_eq_true rfl) dX10_takeName_38 rfl (fun w5 H locs hf hR => ?_)
      refine lv_iload_n hx hb dX10_takeName_41 rfl (lv_at hl 0 rfl) ?_
      exact hQ _ _ _ _ _ _ hf hR dX10_takeName_42
    · replace hf := hf.2 c4
      refine lv_aload_n hx hb dX10_takeName_29 rfl (lv_at hl 1 rfl) ?_
      refine lv_iconst (v := (2 : Int32)) hx hb dX10_takeName_30 (by decide) ?_
      refine z_callVI (fr1 := 0) (b := 2) (As := [.int (2 : Int32)]) (rest := []) X (hr.le (by decide)) hR zy_X10_wrong zq_452 (zlit hR zf_2) (by rw [zs_2]; rfl) rfl (mX10_wrong  hf) rfl hl (Nat.le_of_ble_eq_true rfl) dX10_takeName_31 rfl (fun r6 w6 H locs hf hR => ?_)
      refine lv_pop hx hb dX10_takeName_34 rfl ?_
      refine lv_iconst (v := (-1 : Int32)) hx hb dX10_takeName_35 (by decide) ?_
      exact hQ _ _ _ _ _ _ hf hR dX10_takeName_36
  · replace hf := hf.2 c2
    refine lv_aload_n hx hb dX10_takeName_7 rfl (lv_at hl 0 rfl) ?_
    refine lv_iconst (v := (1 : Int32)) hx hb dX10_takeName_8 (by decide) ?_
    refine z_callVI (fr1 := 0) (b := 2) (As := [.int (1 : Int32)]) (rest := []) X (hr.le (by decide)) hR zy_X10_wrong zq_452 (zlit hR zf_2) (by rw [zs_2]; rfl) rfl (mX10_wrong  hf) rfl hl (Nat.le_of_ble_eq_true rfl) dX10_takeName_9 rfl (fun r7 w7 H locs hf hR => ?_)
    refine lv_pop hx hb dX10_takeName_12 rfl ?_
    refine lv_iconst (v := (-1 : Int32)) hx hb dX10_takeName_13 (by decide) ?_
    exact hQ _ _ _ _ _ _ hf hR dX10_takeName_14
/-! X1_put -/
def fX1_put_J58 (k : zW → Prop) (t0 : Int32) (w : zW) : Prop :=
  ∀ w3 : zW, w3 = sI w 4 5 t0 →
  k w3
set_option maxHeartbeats 4000000 in
set_option maxRecDepth 100000 in
theorem mX1_put_J58 {k : zW → Prop} (X : zCx p s m args meth c cX1_put 2 RX1 none) (hr : zRm R 0 cells slots) (hQ : zRetV p l e R s m args below meth c cells slots Q D dA true ad0 al0 ad al cX1_put k)  {t0 : Int32} {w : zW} {H : Heap} {locs : List Loc} {ls : Array Slot} (hf : fX1_put_J58 k t0 w) (hR : zSt D dA true ad0 al0 ad al w s H locs) (hl : lv_has ls 2 []) : W p l e R s m args below meth c H locs cells slots Q (F0 m 58 ls [.int t0, .ref (ad 4)]) := by
  have hx := X.1
  have hb := X.2.1
  have hml := X.2.2.1
  have hown := X.2.2.2.1
  have hts := X.2.2.2.2.1
  unfold fX1_put_J58 at hf
  refine z_putI X hR (zlit hR zf_4) zs_4 (by decide) zfp_X1_130 rfl dX1_put_58 (fun H locs hR => ?_)
  obtain ⟨w3, hw3⟩ : ∃ z : zW, z = sI w 4 5 t0 := ⟨_, rfl⟩
  rw [← hw3] at hR
  replace hf := hf w3 hw3
  exact hQ _ _ _ _ _ hf hR dX1_put_61
def fX1_put_J37 (k : zW → Prop)  (w : zW) : Prop :=
  (((60 : Int32) ≤ (gI w 4 5) →
    fX1_put_J58 k (61 : Int32) w) ∧
   (¬ (60 : Int32) ≤ (gI w 4 5) →
    fX1_put_J58 k ((gI w 4 5) + (1 : Int32)) w))
set_option maxHeartbeats 4000000 in
set_option maxRecDepth 100000 in
theorem mX1_put_J37 {k : zW → Prop} (X : zCx p s m args meth c cX1_put 2 RX1 none) (hr : zRm R 0 cells slots) (hQ : zRetV p l e R s m args below meth c cells slots Q D dA true ad0 al0 ad al cX1_put k)   {w : zW} {H : Heap} {locs : List Loc} {ls : Array Slot} (hf : fX1_put_J37 k  w) (hR : zSt D dA true ad0 al0 ad al w s H locs) (hl : lv_has ls 2 [(0, .ref (ad 4))]) : W p l e R s m args below meth c H locs cells slots Q (F0 m 37 ls []) := by
  have hx := X.1
  have hb := X.2.1
  have hml := X.2.2.1
  have hown := X.2.2.2.1
  have hts := X.2.2.2.2.1
  unfold fX1_put_J37 at hf
  refine lv_aload_n hx hb dX1_put_37 rfl (lv_at hl 0 rfl) ?_
  refine lv_aload_n hx hb dX1_put_38 rfl (lv_at hl 0 rfl) ?_
  refine z_getI X hR (zlit hR zf_4) zs_4 (by decide) zfd_X1_130 rfl dX1_put_39 ?_
  refine lv_bipush (v := (60 : Int32)) hx hb dX1_put_42 (by decide) ?_
  refine lv_icmp_ge (tgt := 56) hx hb dX1_put_44 (by decide) (fun c2 => ?_) (fun c2 => ?_)
  · replace hf := hf.1 c2
    refine lv_bipush (v := (61 : Int32)) hx hb dX1_put_56 (by decide) ?_
    exact mX1_put_J58 X hr hQ  hf hR (lv_sub hl [] rfl)
  · replace hf := hf.2 c2
    refine lv_aload_n hx hb dX1_put_47 rfl (lv_at hl 0 rfl) ?_
    refine z_getI X hR (zlit hR zf_4) zs_4 (by decide) zfd_X1_130 rfl dX1_put_48 ?_
    refine lv_iconst (v := (1 : Int32)) hx hb dX1_put_51 (by decide) ?_
    refine lv_iadd hx hb dX1_put_52 ?_
    refine lv_goto (tgt := 58) hx hb dX1_put_53 (by decide) ?_
    exact mX1_put_J58 X hr hQ  hf hR (lv_sub hl [] rfl)
def fX1_put (x1 : Int32) (w : zW) (k : zW → Prop) : Prop :=
  (((gI w 4 5) < 0 →
    fX1_put_J37 k  w) ∧
   (¬ (gI w 4 5) < 0 →
    (((60 : Int32) ≤ (gI w 4 5) →
      fX1_put_J37 k  w) ∧
     (¬ (60 : Int32) ≤ (gI w 4 5) →
      ¬ gR w 4 3 = 0 ∧
      vp_in (gI w (gR w 4 3) 7) 8 ∧ 
      vp_in (gI w 4 5) 60 ∧ 
      ∀ w8 : zW, w8 = sI w ((gR w 4 3) + 11 + 1 + (gI w (gR w 4 3) 7).toNatClampNeg) (gI w 4 5).toNatClampNeg x1 →
      fX1_put_J37 k  w8))))
set_option maxHeartbeats 4000000 in
set_option maxRecDepth 100000 in
theorem mX1_put {l : Launch} {D : va_G} {dA : Nat → ClassId} {ad : Nat → Nat} {al : Nat → Prop} {w : zW} {k : zW → Prop} {x1 : Int32}   (hf : fX1_put x1 w k) : zmetV l yX1_put cX1_put 2 none 0 [.ref (ad 4), .int x1] D dA true ad al w k := by
  refine zmetV_of (by decide) (Nat.le_of_ble_eq_true rfl) ?_
  intro p e R s m below meth c Q H ls args locs cells slots X hr hQ hR hl
  have hx := X.1
  have hb := X.2.1
  have hml := X.2.2.1
  have hown := X.2.2.2.1
  have hts := X.2.2.2.2.1
  unfold fX1_put at hf
  have hl : lv_has ls 2 [(0, .ref (ad 4)), (1, .int x1)] := hl
  refine lv_aload_n hx hb dX1_put_0 rfl (lv_at hl 0 rfl) ?_
  refine z_getI X hR (zlit hR zf_4) zs_4 (by decide) zfd_X1_130 rfl dX1_put_1 ?_
  refine lv_if_lt (tgt := 37) hx hb dX1_put_4 (by decide) (fun c1 => ?_) (fun c1 => ?_)
  · replace hf := hf.1 c1
    exact mX1_put_J37 X hr hQ  hf hR (lv_sub hl [0] rfl)
  · replace hf := hf.2 c1
    refine lv_aload_n hx hb dX1_put_7 rfl (lv_at hl 0 rfl) ?_
    refine z_getI X hR (zlit hR zf_4) zs_4 (by decide) zfd_X1_130 rfl dX1_put_8 ?_
    refine lv_bipush (v := (60 : Int32)) hx hb dX1_put_11 (by decide) ?_
    refine lv_icmp_ge (tgt := 37) hx hb dX1_put_13 (by decide) (fun c4 => ?_) (fun c4 => ?_)
    · replace hf := hf.1 c4
      exact mX1_put_J37 X hr hQ  hf hR (lv_sub hl [0] rfl)
    · replace hf := hf.2 c4
      refine lv_aload_n hx hb dX1_put_16 rfl (lv_at hl 0 rfl) ?_
      refine z_getR X hR (zlit hR zf_4) zs_4 (by decide) zfd_X1_28 rfl dX1_put_17 ?_
      obtain ⟨hn50, hf⟩ := hf
      have hn5 : al (gR w 4 3) ∧ zsh (gR w 4 3) = 0 := zwt_of hR (zlit hR zf_4) zs_4 rfl hn50 (zdc_of zs_4 rfl)
      rw [zrf_pos hn50]
      refine z_getS X hR hn5.1 hn5.2 (by decide) zfd_X1_149 rfl (r := (gR w 4 3) + 11) (zst_0 hn5.2 9 rfl) dX1_put_20 ?_
      refine lv_aload_n hx hb dX1_put_23 rfl (lv_at hl 0 rfl) ?_
      refine z_getR X hR (zlit hR zf_4) zs_4 (by decide) zfd_X1_28 rfl dX1_put_24 ?_
      rw [zrf_pos hn50]
      refine z_getI X hR hn5.1 hn5.2 (by decide) zfd_X1_121 rfl dX1_put_27 ?_
      obtain ⟨hb6, hf⟩ := hf
      refine z_aald X hR (zoff hR hn5.2 zo_0_11).1 (zoff hR hn5.2 zo_0_11).2.1 (zoff hR hn5.2 zo_0_11).2.2 hb6 dX1_put_30 ?_
      refine lv_aload_n hx hb dX1_put_31 rfl (lv_at hl 0 rfl) ?_
      refine z_getI X hR (zlit hR zf_4) zs_4 (by decide) zfd_X1_130 rfl dX1_put_32 ?_
      refine lv_iload_n hx hb dX1_put_35 rfl (lv_at hl 1 rfl) ?_
      obtain ⟨hb7, hf⟩ := hf
      refine z_iast X hR (zrow hR hn5.2 zr_0_11 hb6).1 (zrow hR hn5.2 zr_0_11 hb6).2.1 (zrow hR hn5.2 zr_0_11 hb6).2.2 hb7 dX1_put_36 (fun H locs hR => ?_)
      obtain ⟨w8, hw8⟩ : ∃ z : zW, z = sI w ((gR w 4 3) + 11 + 1 + (gI w (gR w 4 3) 7).toNatClampNeg) (gI w 4 5).toNatClampNeg x1 := ⟨_, rfl⟩
      rw [← hw8] at hR
      replace hf := hf w8 hw8
      exact mX1_put_J37 X hr hQ  hf hR (lv_sub hl [0] rfl)
/-! X1_readNamed -/
def fX1_readNamed_L45 (k : Int32 → zW → Prop) : Nat → Int32 → Int32 → Int32 → zW → Prop
  | 0 => fun _ _ _ _ => False
  | n + 1 => fun x1 x2 x3 w =>
    ((x2 ≤ x3 →
      ∀ v6 : Int32, v6 = (if x2 = (-1 : Int32) then (0 : Int32) else (1 : Int32)) →
      zb01 v6 ∧ k v6 w) ∧
     (¬ x2 ≤ x3 →
      fX1_put x1 w (fun w7 =>
      fX1_readNamed_L45 k n x1 x2 (x3 + (1 : Int32)) w7)))
set_option maxHeartbeats 4000000 in
set_option maxRecDepth 100000 in
theorem mX1_readNamed_L45 {k : Int32 → zW → Prop} (X : zCx p s m args meth c cX1_readNamed 4 RX1 (some .boolean)) (hr : zRm R 7 cells slots) (hQ : zRetZ p l e R s m args below meth c cells slots Q D dA true ad0 al0 ad al cX1_readNamed k)  : ∀ (n : Nat) (x1 : Int32) (x2 : Int32) (x3 : Int32) (w : zW) (H : Heap) (locs : List Loc) (ls : Array Slot), fX1_readNamed_L45 k n x1 x2 x3 w → zSt D dA true ad0 al0 ad al w s H locs → lv_has ls 4 [(0, .ref (ad 4)), (1, .int x1), (2, .int x2), (3, .int x3)] → W p l e R s m args below meth c H locs cells slots Q (F0 m 45 ls []) := by
  intro n
  induction n with
  | zero => exact fun _ _ _ _ _ _ _ hf => hf.elim
  | succ n ih =>
    intro x1 x2 x3 w H locs ls hf hR hl
    have hx := X.1
    have hb := X.2.1
    have hml := X.2.2.1
    have hown := X.2.2.2.1
    have hts := X.2.2.2.2.1
    rw [fX1_readNamed_L45] at hf
    refine lv_iload_n hx hb dX1_readNamed_45 rfl (lv_at hl 3 rfl) ?_
    refine lv_iload_n hx hb dX1_readNamed_46 rfl (lv_at hl 2 rfl) ?_
    refine lv_icmp_ge (tgt := 61) hx hb dX1_readNamed_47 (by decide) (fun c5 => ?_) (fun c5 => ?_)
    · replace hf := hf.1 c5
      refine lv_iload_n hx hb dX1_readNamed_61 rfl (lv_at hl 2 rfl) ?_
      refine lv_iconst (v := (-1 : Int32)) hx hb dX1_readNamed_62 (by decide) ?_
      have kJ6 : ∀ v6 : Int32, v6 = (if x2 = (-1 : Int32) then (0 : Int32) else (1 : Int32)) → W p l e R s m args below meth c H locs cells slots Q (F0 m 71 ls (.int v6 :: [])) := by
        intro v6 hv6
        replace hf := hf v6 hv6
        obtain ⟨h01, hf⟩ := hf
        exact hQ _ _ _ _ _ _ h01 hf hR dX1_readNamed_71
      refine lv_icmp_eq (tgt := 70) hx hb dX1_readNamed_63 (by decide) (fun c6 => ?_) (fun c6 => ?_)
      · refine lv_iconst (v := (0 : Int32)) hx hb dX1_readNamed_70 (by decide) ?_
        exact kJ6 _ (if_pos c6).symm
      · refine lv_iconst (v := (1 : Int32)) hx hb dX1_readNamed_66 (by decide) ?_
        refine lv_goto (tgt := 71) hx hb dX1_readNamed_67 (by decide) ?_
        exact kJ6 _ (if_neg c6).symm
    · replace hf := hf.2 c5
      refine lv_aload_n hx hb dX1_readNamed_50 rfl (lv_at hl 0 rfl) ?_
      refine lv_iload_n hx hb dX1_readNamed_51 rfl (lv_at hl 1 rfl) ?_
      refine z_callVV (fr1 := 0) (b := 4) (As := [.int x1]) (rest := []) X (hr.le (by decide)) hR zy_X1_put zq_479 (zlit hR zf_4) (by rw [zs_4]; rfl) rfl (mX1_put  hf) rfl hl (Nat.le_of_ble_eq_true rfl) dX1_readNamed_52 rfl (fun w7 H locs hf hR => ?_)
      refine lv_iinc (v := x3 + (1 : Int32)) (lv' := [(3, .int (x3 + (1 : Int32))), (0, .ref (ad 4)), (1, .int x1), (2, .int x2)]) hx hb dX1_readNamed_55 hl (k := 3) rfl rfl (by decide) rfl (fun ls hl => ?_)
      refine lv_goto (tgt := 45) hx hb dX1_readNamed_58 (by decide) ?_
      exact ih x1 x2 (x3 + (1 : Int32)) w7 _ _ _ hf hR (lv_sub hl [1, 2, 3, 0] rfl)
def fX1_readNamed (w : zW) (k : Int32 → zW → Prop) : Prop :=
  ¬ gR w 4 3 = 0 ∧
  fX10_takeName (gR w 4 3) w (fun r2 w2 =>
  ((¬ r2 = (-1 : Int32) →
    ((¬ (gI w2 2 2) = (2 : Int32) →
      ∃ n9, fX1_readNamed_L45 k n9 r2 (1 : Int32) (0 : Int32) w2) ∧
     ((gI w2 2 2) = (2 : Int32) →
      fX10_takeNumber (1 : Int32) (20 : Int32) w2 (fun r8 w8 =>
      ∃ n9, fX1_readNamed_L45 k n9 r2 r8 (0 : Int32) w8)))) ∧
   (r2 = (-1 : Int32) →
    k (0 : Int32) w2)))
set_option maxHeartbeats 4000000 in
set_option maxRecDepth 100000 in
theorem mX1_readNamed {l : Launch} {D : va_G} {dA : Nat → ClassId} {ad : Nat → Nat} {al : Nat → Prop} {w : zW} {k : Int32 → zW → Prop}   (hf : fX1_readNamed w k) : zmetI l yX1_readNamed cX1_readNamed 4 (some .boolean) 7 [.ref (ad 4)] D dA true ad al w k := by
  refine zmetZ_of (by decide) (Nat.le_of_ble_eq_true rfl) ?_
  intro p e R s m below meth c Q H ls args locs cells slots X hr hQ hR hl
  have hx := X.1
  have hb := X.2.1
  have hml := X.2.2.1
  have hown := X.2.2.2.1
  have hts := X.2.2.2.2.1
  unfold fX1_readNamed at hf
  have hl : lv_has ls 4 [(0, .ref (ad 4))] := hl
  refine lv_aload_n hx hb dX1_readNamed_0 rfl (lv_at hl 0 rfl) ?_
  refine z_getS X hR (zlit hR zf_4) zs_4 (by decide) zfd_X1_15 rfl (r := 2) (by decide +kernel) dX1_readNamed_1 ?_
  refine lv_aload_n hx hb dX1_readNamed_4 rfl (lv_at hl 0 rfl) ?_
  refine z_getR X hR (zlit hR zf_4) zs_4 (by decide) zfd_X1_28 rfl dX1_readNamed_5 ?_
  obtain ⟨hn10, hf⟩ := hf
  have hn1 : al (gR w 4 3) ∧ zsh (gR w 4 3) = 0 := zwt_of hR (zlit hR zf_4) zs_4 rfl hn10 (zdc_of zs_4 rfl)
  rw [zrf_pos hn10]
  refine z_callVI (fr1 := 6) (b := 2) (As := [.ref (ad (gR w 4 3))]) (rest := []) X (hr.le (by decide)) hR zy_X10_takeName zq_487 (zlit hR zf_2) (by rw [zs_2]; rfl) rfl (mX10_takeName ⟨hn1.1, hn1.2⟩ hf) rfl hl (Nat.le_of_ble_eq_true rfl) dX1_readNamed_8 rfl (fun r2 w2 H locs hf hR => ?_)
  refine lv_istore_n (lv' := [(1, .int r2), (0, .ref (ad 4))]) hx hb dX1_readNamed_11 rfl hl (by decide) rfl (fun ls hl => ?_)
  refine lv_iload_n hx hb dX1_readNamed_12 rfl (lv_at hl 0 rfl) ?_
  refine lv_iconst (v := (-1 : Int32)) hx hb dX1_readNamed_13 (by decide) ?_
  refine lv_icmp_ne (tgt := 19) hx hb dX1_readNamed_14 (by decide) (fun c3 => ?_) (fun c3 => ?_)
  · replace hf := hf.1 c3
    refine lv_iconst (v := (1 : Int32)) hx hb dX1_readNamed_19 (by decide) ?_
    refine lv_istore_n (lv' := [(2, .int (1 : Int32)), (1, .int r2), (0, .ref (ad 4))]) hx hb dX1_readNamed_20 rfl hl (by decide) rfl (fun ls hl => ?_)
    refine lv_aload_n hx hb dX1_readNamed_21 rfl (lv_at hl 2 rfl) ?_
    refine z_getS X hR (zlit hR zf_4) zs_4 (by decide) zfd_X1_15 rfl (r := 2) (by decide +kernel) dX1_readNamed_22 ?_
    refine z_getI X hR (zlit hR zf_2) zs_2 (by decide) zfd_X1_47 rfl dX1_readNamed_25 ?_
    refine lv_iconst (v := (2 : Int32)) hx hb dX1_readNamed_28 (by decide) ?_
    refine lv_icmp_ne (tgt := 43) hx hb dX1_readNamed_29 (by decide) (fun c4 => ?_) (fun c4 => ?_)
    · replace hf := hf.1 c4
      refine lv_iconst (v := (0 : Int32)) hx hb dX1_readNamed_43 (by decide) ?_
      refine lv_istore_n (lv' := [(3, .int (0 : Int32)), (2, .int (1 : Int32)), (1, .int r2), (0, .ref (ad 4))]) hx hb dX1_readNamed_44 rfl hl (by decide) rfl (fun ls hl => ?_)
      obtain ⟨n9, hf⟩ := hf
      exact mX1_readNamed_L45 X hr hQ  n9 r2 (1 : Int32) (0 : Int32) w2 _ _ _ hf hR (lv_sub hl [3, 2, 1, 0] rfl)
    · replace hf := hf.2 c4
      refine lv_aload_n hx hb dX1_readNamed_32 rfl (lv_at hl 2 rfl) ?_
      refine z_getS X hR (zlit hR zf_4) zs_4 (by decide) zfd_X1_15 rfl (r := 2) (by decide +kernel) dX1_readNamed_33 ?_
      refine lv_iconst (v := (1 : Int32)) hx hb dX1_readNamed_36 (by decide) ?_
      refine lv_bipush (v := (20 : Int32)) hx hb dX1_readNamed_37 (by decide) ?_
      refine z_callVI (fr1 := 6) (b := 2) (As := [.int (1 : Int32), .int (20 : Int32)]) (rest := []) X (hr.le (by decide)) hR zy_X10_takeNumber zq_458 (zlit hR zf_2) (by rw [zs_2]; rfl) rfl (mX10_takeNumber  hf) rfl hl (Nat.le_of_ble_eq_true rfl) dX1_readNamed_39 rfl (fun r8 w8 H locs hf hR => ?_)
      refine lv_istore_n (lv' := [(2, .int r8), (1, .int r2), (0, .ref (ad 4))]) hx hb dX1_readNamed_42 rfl hl (by decide) rfl (fun ls hl => ?_)
      refine lv_iconst (v := (0 : Int32)) hx hb dX1_readNamed_43 (by decide) ?_
      refine lv_istore_n (lv' := [(3, .int (0 : Int32)), (2, .int r8), (1, .int r2), (0, .ref (ad 4))]) hx hb dX1_readNamed_44 rfl hl (by decide) rfl (fun ls hl => ?_)
      obtain ⟨n9, hf⟩ := hf
      exact mX1_readNamed_L45 X hr hQ  n9 r2 r8 (0 : Int32) w8 _ _ _ hf hR (lv_sub hl [3, 2, 1, 0] rfl)
  · replace hf := hf.2 c3
    refine lv_iconst (v := (0 : Int32)) hx hb dX1_readNamed_17 (by decide) ?_
    exact hQ _ _ _ _ _ _ zb01_0 hf hR dX1_readNamed_18
/-! X1_readTimes -/
def fX1_readTimes_J77 (k : Int32 → zW → Prop) (x2 : Int32) (w : zW) : Prop :=
  ∀ v5 : Int32, v5 = (if x2 = (-1 : Int32) then (0 : Int32) else (1 : Int32)) →
  zb01 v5 ∧ k v5 w
set_option maxHeartbeats 4000000 in
set_option maxRecDepth 100000 in
theorem mX1_readTimes_J77 {k : Int32 → zW → Prop} (X : zCx p s m args meth c cX1_readTimes 5 RX1 (some .boolean)) (hr : zRm R 7 cells slots) (hQ : zRetZ p l e R s m args below meth c cells slots Q D dA true ad0 al0 ad al cX1_readTimes k)  {x2 : Int32} {w : zW} {H : Heap} {locs : List Loc} {ls : Array Slot} (hf : fX1_readTimes_J77 k x2 w) (hR : zSt D dA true ad0 al0 ad al w s H locs) (hl : lv_has ls 5 [(2, .int x2)]) : W p l e R s m args below meth c H locs cells slots Q (F0 m 77 ls []) := by
  have hx := X.1
  have hb := X.2.1
  have hml := X.2.2.1
  have hown := X.2.2.2.1
  have hts := X.2.2.2.2.1
  unfold fX1_readTimes_J77 at hf
  refine lv_iload_n hx hb dX1_readTimes_77 rfl (lv_at hl 0 rfl) ?_
  refine lv_iconst (v := (-1 : Int32)) hx hb dX1_readTimes_78 (by decide) ?_
  have kJ5 : ∀ v5 : Int32, v5 = (if x2 = (-1 : Int32) then (0 : Int32) else (1 : Int32)) → W p l e R s m args below meth c H locs cells slots Q (F0 m 87 ls (.int v5 :: [])) := by
    intro v5 hv5
    replace hf := hf v5 hv5
    obtain ⟨h01, hf⟩ := hf
    exact hQ _ _ _ _ _ _ h01 hf hR dX1_readTimes_87
  refine lv_icmp_eq (tgt := 86) hx hb dX1_readTimes_79 (by decide) (fun c5 => ?_) (fun c5 => ?_)
  · refine lv_iconst (v := (0 : Int32)) hx hb dX1_readTimes_86 (by decide) ?_
    exact kJ5 _ (if_pos c5).symm
  · refine lv_iconst (v := (1 : Int32)) hx hb dX1_readTimes_82 (by decide) ?_
    refine lv_goto (tgt := 87) hx hb dX1_readTimes_83 (by decide) ?_
    exact kJ5 _ (if_neg c5).symm
def fX1_readTimes_L28 (k : Int32 → zW → Prop) : Nat → Int32 → Int32 → Int32 → zW → Prop
  | 0 => fun _ _ _ _ => False
  | n + 1 => fun x2 x3 x4 w =>
    (((x3 * x2) ≤ x4 →
      fX1_readTimes_J77 k x2 w) ∧
     (¬ (x3 * x2) ≤ x4 →
      (((60 : Int32) < (gI w 4 5) →
        fX1_readTimes_J77 k x2 w) ∧
       (¬ (60 : Int32) < (gI w 4 5) →
        ¬ gR w 4 3 = 0 ∧
        vp_in (gI w (gR w 4 3) 7) 8 ∧ 
        vp_in ((gI w 4 5) - x3) 60 ∧ 
        fX1_put (gI w ((gR w 4 3) + 11 + 1 + (gI w (gR w 4 3) 7).toNatClampNeg) ((gI w 4 5) - x3).toNatClampNeg) w (fun w10 =>
        fX1_readTimes_L28 k n x2 x3 (x4 + (1 : Int32)) w10)))))
set_option maxHeartbeats 4000000 in
set_option maxRecDepth 100000 in
theorem mX1_readTimes_L28 {k : Int32 → zW → Prop} (X : zCx p s m args meth c cX1_readTimes 5 RX1 (some .boolean)) (hr : zRm R 7 cells slots) (hQ : zRetZ p l e R s m args below meth c cells slots Q D dA true ad0 al0 ad al cX1_readTimes k)  : ∀ (n : Nat) (x2 : Int32) (x3 : Int32) (x4 : Int32) (w : zW) (H : Heap) (locs : List Loc) (ls : Array Slot), fX1_readTimes_L28 k n x2 x3 x4 w → zSt D dA true ad0 al0 ad al w s H locs → lv_has ls 5 [(0, .ref (ad 4)), (2, .int x2), (3, .int x3), (4, .int x4)] → W p l e R s m args below meth c H locs cells slots Q (F0 m 28 ls []) := by
  intro n
  induction n with
  | zero => exact fun _ _ _ _ _ _ _ hf => hf.elim
  | succ n ih =>
    intro x2 x3 x4 w H locs ls hf hR hl
    have hx := X.1
    have hb := X.2.1
    have hml := X.2.2.1
    have hown := X.2.2.2.1
    have hts := X.2.2.2.2.1
    rw [fX1_readTimes_L28] at hf
    refine lv_iload hx hb dX1_readTimes_28 (lv_at hl 3 rfl) ?_
    refine lv_iload_n hx hb dX1_readTimes_30 rfl (lv_at hl 2 rfl) ?_
    refine lv_iload_n hx hb dX1_readTimes_31 rfl (lv_at hl 1 rfl) ?_
    refine lv_imul hx hb dX1_readTimes_32 ?_
    refine lv_icmp_ge (tgt := 77) hx hb dX1_readTimes_33 (by decide) (fun c4 => ?_) (fun c4 => ?_)
    · replace hf := hf.1 c4
      exact mX1_readTimes_J77 X hr hQ  hf hR (lv_sub hl [1] rfl)
    · replace hf := hf.2 c4
      refine lv_aload_n hx hb dX1_readTimes_36 rfl (lv_at hl 0 rfl) ?_
      refine z_getI X hR (zlit hR zf_4) zs_4 (by decide) zfd_X1_130 rfl dX1_readTimes_37 ?_
      refine lv_bipush (v := (60 : Int32)) hx hb dX1_readTimes_40 (by decide) ?_
      refine lv_icmp_gt (tgt := 77) hx hb dX1_readTimes_42 (by decide) (fun c6 => ?_) (fun c6 => ?_)
      · replace hf := hf.1 c6
        exact mX1_readTimes_J77 X hr hQ  hf hR (lv_sub hl [1] rfl)
      · replace hf := hf.2 c6
        refine lv_aload_n hx hb dX1_readTimes_45 rfl (lv_at hl 0 rfl) ?_
        refine lv_aload_n hx hb dX1_readTimes_46 rfl (lv_at hl 0 rfl) ?_
        refine z_getR X hR (zlit hR zf_4) zs_4 (by decide) zfd_X1_28 rfl dX1_readTimes_47 ?_
        obtain ⟨hn70, hf⟩ := hf
        have hn7 : al (gR w 4 3) ∧ zsh (gR w 4 3) = 0 := zwt_of hR (zlit hR zf_4) zs_4 rfl hn70 (zdc_of zs_4 rfl)
        rw [zrf_pos hn70]
        refine z_getS X hR hn7.1 hn7.2 (by decide) zfd_X1_149 rfl (r := (gR w 4 3) + 11) (zst_0 hn7.2 9 rfl) dX1_readTimes_50 ?_
        refine lv_aload_n hx hb dX1_readTimes_53 rfl (lv_at hl 0 rfl) ?_
        refine z_getR X hR (zlit hR zf_4) zs_4 (by decide) zfd_X1_28 rfl dX1_readTimes_54 ?_
        rw [zrf_pos hn70]
        refine z_getI X hR hn7.1 hn7.2 (by decide) zfd_X1_121 rfl dX1_readTimes_57 ?_
        obtain ⟨hb8, hf⟩ := hf
        refine z_aald X hR (zoff hR hn7.2 zo_0_11).1 (zoff hR hn7.2 zo_0_11).2.1 (zoff hR hn7.2 zo_0_11).2.2 hb8 dX1_readTimes_60 ?_
        refine lv_aload_n hx hb dX1_readTimes_61 rfl (lv_at hl 0 rfl) ?_
        refine z_getI X hR (zlit hR zf_4) zs_4 (by decide) zfd_X1_130 rfl dX1_readTimes_62 ?_
        refine lv_iload_n hx hb dX1_readTimes_65 rfl (lv_at hl 2 rfl) ?_
        refine lv_isub hx hb dX1_readTimes_66 ?_
        obtain ⟨hb9, hf⟩ := hf
        refine z_iald X hR (zrow hR hn7.2 zr_0_11 hb8).1 (zrow hR hn7.2 zr_0_11 hb8).2.1 (zrow hR hn7.2 zr_0_11 hb8).2.2 hb9 dX1_readTimes_67 ?_
        refine z_callVV (fr1 := 0) (b := 4) (As := [.int (gI w ((gR w 4 3) + 11 + 1 + (gI w (gR w 4 3) 7).toNatClampNeg) ((gI w 4 5) - x3).toNatClampNeg)]) (rest := []) X (hr.le (by decide)) hR zy_X1_put zq_479 (zlit hR zf_4) (by rw [zs_4]; rfl) rfl (mX1_put  hf) rfl hl (Nat.le_of_ble_eq_true rfl) dX1_readTimes_68 rfl (fun w10 H locs hf hR => ?_)
        refine lv_iinc (v := x4 + (1 : Int32)) (lv' := [(4, .int (x4 + (1 : Int32))), (0, .ref (ad 4)), (2, .int x2), (3, .int x3)]) hx hb dX1_readTimes_71 hl (k := 3) rfl rfl (by decide) rfl (fun ls hl => ?_)
        refine lv_goto (tgt := 28) hx hb dX1_readTimes_74 (by decide) ?_
        exact ih x2 x3 (x4 + (1 : Int32)) w10 _ _ _ hf hR (lv_sub hl [1, 2, 3, 0] rfl)
def fX1_readTimes (x1 : Int32) (w : zW) (k : Int32 → zW → Prop) : Prop :=
  fX10_next  w (fun w1 =>
  fX10_takeNumber (1 : Int32) (20 : Int32) w1 (fun r2 w2 =>
  ∀ v3 : Int32, v3 = (gI w2 4 5) - x1 →
  ∃ n9, fX1_readTimes_L28 k n9 r2 v3 v3 w2))
set_option maxHeartbeats 4000000 in
set_option maxRecDepth 100000 in
theorem mX1_readTimes {l : Launch} {D : va_G} {dA : Nat → ClassId} {ad : Nat → Nat} {al : Nat → Prop} {w : zW} {k : Int32 → zW → Prop} {x1 : Int32}   (hf : fX1_readTimes x1 w k) : zmetI l yX1_readTimes cX1_readTimes 5 (some .boolean) 7 [.ref (ad 4), .int x1] D dA true ad al w k := by
  refine zmetZ_of (by decide) (Nat.le_of_ble_eq_true rfl) ?_
  intro p e R s m below meth c Q H ls args locs cells slots X hr hQ hR hl
  have hx := X.1
  have hb := X.2.1
  have hml := X.2.2.1
  have hown := X.2.2.2.1
  have hts := X.2.2.2.2.1
  unfold fX1_readTimes at hf
  have hl : lv_has ls 5 [(0, .ref (ad 4)), (1, .int x1)] := hl
  refine lv_aload_n hx hb dX1_readTimes_0 rfl (lv_at hl 0 rfl) ?_
  refine z_getS X hR (zlit hR zf_4) zs_4 (by decide) zfd_X1_15 rfl (r := 2) (by decide +kernel) dX1_readTimes_1 ?_
  refine z_callVV (fr1 := 5) (b := 2) (As := []) (rest := []) X (hr.le (by decide)) hR zy_X10_next zq_435 (zlit hR zf_2) (by rw [zs_2]; rfl) rfl (mX10_next  hf) rfl hl (Nat.le_of_ble_eq_true rfl) dX1_readTimes_4 rfl (fun w1 H locs hf hR => ?_)
  refine lv_aload_n hx hb dX1_readTimes_7 rfl (lv_at hl 0 rfl) ?_
  refine z_getS X hR (zlit hR zf_4) zs_4 (by decide) zfd_X1_15 rfl (r := 2) (by decide +kernel) dX1_readTimes_8 ?_
  refine lv_iconst (v := (1 : Int32)) hx hb dX1_readTimes_11 (by decide) ?_
  refine lv_bipush (v := (20 : Int32)) hx hb dX1_readTimes_12 (by decide) ?_
  refine z_callVI (fr1 := 6) (b := 2) (As := [.int (1 : Int32), .int (20 : Int32)]) (rest := []) X (hr.le (by decide)) hR zy_X10_takeNumber zq_458 (zlit hR zf_2) (by rw [zs_2]; rfl) rfl (mX10_takeNumber  hf) rfl hl (Nat.le_of_ble_eq_true rfl) dX1_readTimes_14 rfl (fun r2 w2 H locs hf hR => ?_)
  refine lv_istore_n (lv' := [(2, .int r2), (0, .ref (ad 4)), (1, .int x1)]) hx hb dX1_readTimes_17 rfl hl (by decide) rfl (fun ls hl => ?_)
  refine lv_aload_n hx hb dX1_readTimes_18 rfl (lv_at hl 1 rfl) ?_
  refine z_getI X hR (zlit hR zf_4) zs_4 (by decide) zfd_X1_130 rfl dX1_readTimes_19 ?_
  refine lv_iload_n hx hb dX1_readTimes_22 rfl (lv_at hl 2 rfl) ?_
  refine lv_isub hx hb dX1_readTimes_23 ?_
  refine lv_topi (fun v3 hv3 => ?_)
  replace hf := hf v3 hv3
  refine lv_istore_n (lv' := [(3, .int v3), (2, .int r2), (0, .ref (ad 4)), (1, .int x1)]) hx hb dX1_readTimes_24 rfl hl (by decide) rfl (fun ls hl => ?_)
  refine lv_iload_n hx hb dX1_readTimes_25 rfl (lv_at hl 0 rfl) ?_
  refine lv_istore (lv' := [(4, .int v3), (3, .int v3), (2, .int r2), (0, .ref (ad 4)), (1, .int x1)]) hx hb dX1_readTimes_26 hl (by decide) rfl (fun ls hl => ?_)
  obtain ⟨n9, hf⟩ := hf
  exact mX1_readTimes_L28 X hr hQ  n9 r2 v3 v3 w2 _ _ _ hf hR (lv_sub hl [3, 2, 1, 0] rfl)
end ZM
