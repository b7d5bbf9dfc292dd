theorem dX12_idle_0 : decode cX12_idle 0 = .ok (.aload_n 0, 1) := by decide +kernel
theorem dX12_idle_1 : decode cX12_idle 1 = .ok (.iconst 0, 1) := by decide +kernel
theorem dX12_idle_2 : decode cX12_idle 2 = .ok (.putfield 1, 3) := by decide +kernel
theorem dX12_idle_5 : decode cX12_idle 5 = .ok (.iconst 0, 1) := by decide +kernel
theorem dX12_idle_6 : decode cX12_idle 6 = .ok (.istore_n 1, 1) := by decide +kernel
theorem dX12_idle_7 : decode cX12_idle 7 = .ok (.iconst 0, 1) := by decide +kernel
theorem dX12_idle_8 : decode cX12_idle 8 = .ok (.istore_n 2, 1) := by decide +kernel
theorem dX12_idle_9 : decode cX12_idle 9 = .ok (.iload_n 2, 1) := by decide +kernel
theorem dX12_idle_10 : decode cX12_idle 10 = .ok (.aload_n 0, 1) := by decide +kernel
theorem dX12_idle_11 : decode cX12_idle 11 = .ok (.invokevirtual 266, 3) := by decide +kernel
theorem dX12_idle_14 : decode cX12_idle 14 = .ok (.if_icmp .ge 27, 3) := by decide +kernel
theorem dX12_idle_17 : decode cX12_idle 17 = .ok (.iload_n 1, 1) := by decide +kernel
theorem dX12_idle_18 : decode cX12_idle 18 = .ok (.aload_n 0, 1) := by decide +kernel
theorem dX12_idle_19 : decode cX12_idle 19 = .ok (.iload_n 2, 1) := by decide +kernel
theorem dX12_idle_20 : decode cX12_idle 20 = .ok (.invokevirtual 312, 3) := by decide +kernel
theorem dX12_idle_23 : decode cX12_idle 23 = .ok (.ifCond .ne 9, 3) := by decide +kernel
theorem dX12_idle_26 : decode cX12_idle 26 = .ok (.iconst 1, 1) := by decide +kernel
theorem dX12_idle_27 : decode cX12_idle 27 = .ok (.iload_n 2, 1) := by decide +kernel
theorem dX12_idle_28 : decode cX12_idle 28 = .ok (.ishl, 1) := by decide +kernel
theorem dX12_idle_29 : decode cX12_idle 29 = .ok (.goto 4, 3) := by decide +kernel
theorem dX12_idle_32 : decode cX12_idle 32 = .ok (.iconst 0, 1) := by decide +kernel
theorem dX12_idle_33 : decode cX12_idle 33 = .ok (.ior, 1) := by decide +kernel
theorem dX12_idle_34 : decode cX12_idle 34 = .ok (.istore_n 1, 1) := by decide +kernel
theorem dX12_idle_35 : decode cX12_idle 35 = .ok (.iinc 2 1, 3) := by decide +kernel
theorem dX12_idle_38 : decode cX12_idle 38 = .ok (.goto (-29), 3) := by decide +kernel
theorem dX12_idle_41 : decode cX12_idle 41 = .ok (.iload_n 1, 1) := by decide +kernel
theorem dX12_idle_42 : decode cX12_idle 42 = .ok (.ireturn, 1) := by decide +kernel
theorem dX12_drops_0 : decode cX12_drops 0 = .ok (.aload_n 0, 1) := by decide +kernel
theorem dX12_drops_1 : decode cX12_drops 1 = .ok (.iconst 0, 1) := by decide +kernel
theorem dX12_drops_2 : decode cX12_drops 2 = .ok (.putfield 1, 3) := by decide +kernel
theorem dX12_drops_5 : decode cX12_drops 5 = .ok (.aload_n 0, 1) := by decide +kernel
theorem dX12_drops_6 : decode cX12_drops 6 = .ok (.invokevirtual 343, 3) := by decide +kernel
theorem dX12_drops_9 : decode cX12_drops 9 = .ok (.aload_n 0, 1) := by decide +kernel
theorem dX12_drops_10 : decode cX12_drops 10 = .ok (.getfield 355, 3) := by decide +kernel
theorem dX12_drops_13 : decode cX12_drops 13 = .ok (.ireturn, 1) := by decide +kernel
theorem dX12_spare_0 : decode cX12_spare 0 = .ok (.aload_n 0, 1) := by decide +kernel
theorem dX12_spare_1 : decode cX12_spare 1 = .ok (.iconst 0, 1) := by decide +kernel
theorem dX12_spare_2 : decode cX12_spare 2 = .ok (.putfield 1, 3) := by decide +kernel
theorem dX12_spare_5 : decode cX12_spare 5 = .ok (.aload_n 0, 1) := by decide +kernel
theorem dX12_spare_6 : decode cX12_spare 6 = .ok (.invokevirtual 343, 3) := by decide +kernel
theorem dX12_spare_9 : decode cX12_spare 9 = .ok (.iconst 0, 1) := by decide +kernel
theorem dX12_spare_10 : decode cX12_spare 10 = .ok (.istore_n 1, 1) := by decide +kernel
theorem dX12_spare_11 : decode cX12_spare 11 = .ok (.iconst 0, 1) := by decide +kernel
theorem dX12_spare_12 : decode cX12_spare 12 = .ok (.istore_n 2, 1) := by decide +kernel
theorem dX12_spare_13 : decode cX12_spare 13 = .ok (.iload_n 2, 1) := by decide +kernel
theorem dX12_spare_14 : decode cX12_spare 14 = .ok (.aload_n 0, 1) := by decide +kernel
theorem dX12_spare_15 : decode cX12_spare 15 = .ok (.invokevirtual 270, 3) := by decide +kernel
theorem dX12_spare_18 : decode cX12_spare 18 = .ok (.if_icmp .ge 37, 3) := by decide +kernel
theorem dX12_spare_21 : decode cX12_spare 21 = .ok (.iload_n 1, 1) := by decide +kernel
theorem dX12_spare_22 : decode cX12_spare 22 = .ok (.aload_n 0, 1) := by decide +kernel
theorem dX12_spare_23 : decode cX12_spare 23 = .ok (.getfield 103, 3) := by decide +kernel
theorem dX12_spare_26 : decode cX12_spare 26 = .ok (.iconst 4, 1) := by decide +kernel
theorem dX12_spare_27 : decode cX12_spare 27 = .ok (.iload_n 2, 1) := by decide +kernel
theorem dX12_spare_28 : decode cX12_spare 28 = .ok (.iadd, 1) := by decide +kernel
theorem dX12_spare_29 : decode cX12_spare 29 = .ok (.iaload, 1) := by decide +kernel
theorem dX12_spare_30 : decode cX12_spare 30 = .ok (.ifCond .lt 16, 3) := by decide +kernel
theorem dX12_spare_33 : decode cX12_spare 33 = .ok (.aload_n 0, 1) := by decide +kernel
theorem dX12_spare_34 : decode cX12_spare 34 = .ok (.getfield 140, 3) := by decide +kernel
theorem dX12_spare_37 : decode cX12_spare 37 = .ok (.iload_n 2, 1) := by decide +kernel
theorem dX12_spare_38 : decode cX12_spare 38 = .ok (.iaload, 1) := by decide +kernel
theorem dX12_spare_39 : decode cX12_spare 39 = .ok (.ifCond .ne 7, 3) := by decide +kernel
theorem dX12_spare_42 : decode cX12_spare 42 = .ok (.iconst 1, 1) := by decide +kernel
theorem dX12_spare_43 : decode cX12_spare 43 = .ok (.goto 4, 3) := by decide +kernel
theorem dX12_spare_46 : decode cX12_spare 46 = .ok (.iconst 0, 1) := by decide +kernel
theorem dX12_spare_47 : decode cX12_spare 47 = .ok (.iadd, 1) := by decide +kernel
theorem dX12_spare_48 : decode cX12_spare 48 = .ok (.istore_n 1, 1) := by decide +kernel
theorem dX12_spare_49 : decode cX12_spare 49 = .ok (.iinc 2 1, 3) := by decide +kernel
theorem dX12_spare_52 : decode cX12_spare 52 = .ok (.goto (-39), 3) := by decide +kernel
theorem dX12_spare_55 : decode cX12_spare 55 = .ok (.iload_n 1, 1) := by decide +kernel
theorem dX12_spare_56 : decode cX12_spare 56 = .ok (.ireturn, 1) := by decide +kernel
theorem dX12_strict_0 : decode cX12_strict 0 = .ok (.aload_n 0, 1) := by decide +kernel
theorem dX12_strict_1 : decode cX12_strict 1 = .ok (.iconst 0, 1) := by decide +kernel
theorem dX12_strict_2 : decode cX12_strict 2 = .ok (.putfield 1, 3) := by decide +kernel
theorem dX12_strict_5 : decode cX12_strict 5 = .ok (.aload_n 0, 1) := by decide +kernel
theorem dX12_strict_6 : decode cX12_strict 6 = .ok (.invokevirtual 343, 3) := by decide +kernel
theorem dX12_strict_9 : decode cX12_strict 9 = .ok (.aload_n 0, 1) := by decide +kernel
theorem dX12_strict_10 : decode cX12_strict 10 = .ok (.iload_n 1, 1) := by decide +kernel
theorem dX12_strict_11 : decode cX12_strict 11 = .ok (.invokevirtual 325, 3) := by decide +kernel
theorem dX12_strict_14 : decode cX12_strict 14 = .ok (.ifCond .eq 12, 3) := by decide +kernel
theorem dX12_strict_17 : decode cX12_strict 17 = .ok (.aload_n 0, 1) := by decide +kernel
theorem dX12_strict_18 : decode cX12_strict 18 = .ok (.getfield 143, 3) := by decide +kernel
theorem dX12_strict_21 : decode cX12_strict 21 = .ok (.iload_n 1, 1) := by decide +kernel
theorem dX12_strict_22 : decode cX12_strict 22 = .ok (.iaload, 1) := by decide +kernel
theorem dX12_strict_23 : decode cX12_strict 23 = .ok (.goto 4, 3) := by decide +kernel
theorem dX12_strict_26 : decode cX12_strict 26 = .ok (.iconst (-1), 1) := by decide +kernel
theorem dX12_strict_27 : decode cX12_strict 27 = .ok (.ireturn, 1) := by decide +kernel
theorem dX12_fitsWith_0 : decode cX12_fitsWith 0 = .ok (.aload_n 0, 1) := by decide +kernel
theorem dX12_fitsWith_1 : decode cX12_fitsWith 1 = .ok (.getfield 116, 3) := by decide +kernel
theorem dX12_fitsWith_4 : decode cX12_fitsWith 4 = .ok (.iconst 4, 1) := by decide +kernel
theorem dX12_fitsWith_5 : decode cX12_fitsWith 5 = .ok (.iload_n 1, 1) := by decide +kernel
theorem dX12_fitsWith_6 : decode cX12_fitsWith 6 = .ok (.imul, 1) := by decide +kernel
theorem dX12_fitsWith_7 : decode cX12_fitsWith 7 = .ok (.iload_n 2, 1) := by decide +kernel
theorem dX12_fitsWith_8 : decode cX12_fitsWith 8 = .ok (.iadd, 1) := by decide +kernel
theorem dX12_fitsWith_9 : decode cX12_fitsWith 9 = .ok (.dup2, 1) := by decide +kernel
theorem dX12_fitsWith_10 : decode cX12_fitsWith 10 = .ok (.iaload, 1) := by decide +kernel
theorem dX12_fitsWith_11 : decode cX12_fitsWith 11 = .ok (.iconst 1, 1) := by decide +kernel
theorem dX12_fitsWith_12 : decode cX12_fitsWith 12 = .ok (.isub, 1) := by decide +kernel
theorem dX12_fitsWith_13 : decode cX12_fitsWith 13 = .ok (.iastore, 1) := by decide +kernel
theorem dX12_fitsWith_14 : decode cX12_fitsWith 14 = .ok (.aload_n 0, 1) := by decide +kernel
theorem dX12_fitsWith_15 : decode cX12_fitsWith 15 = .ok (.getfield 116, 3) := by decide +kernel
theorem dX12_fitsWith_18 : decode cX12_fitsWith 18 = .ok (.iconst 4, 1) := by decide +kernel
theorem dX12_fitsWith_19 : decode cX12_fitsWith 19 = .ok (.iload_n 1, 1) := by decide +kernel
theorem dX12_fitsWith_20 : decode cX12_fitsWith 20 = .ok (.imul, 1) := by decide +kernel
theorem dX12_fitsWith_21 : decode cX12_fitsWith 21 = .ok (.iload_n 3, 1) := by decide +kernel
theorem dX12_fitsWith_22 : decode cX12_fitsWith 22 = .ok (.iadd, 1) := by decide +kernel
theorem dX12_fitsWith_23 : decode cX12_fitsWith 23 = .ok (.dup2, 1) := by decide +kernel
theorem dX12_fitsWith_24 : decode cX12_fitsWith 24 = .ok (.iaload, 1) := by decide +kernel
theorem dX12_fitsWith_25 : decode cX12_fitsWith 25 = .ok (.iconst 1, 1) := by decide +kernel
theorem dX12_fitsWith_26 : decode cX12_fitsWith 26 = .ok (.iadd, 1) := by decide +kernel
theorem dX12_fitsWith_27 : decode cX12_fitsWith 27 = .ok (.iastore, 1) := by decide +kernel
theorem dX12_fitsWith_28 : decode cX12_fitsWith 28 = .ok (.iconst 0, 1) := by decide +kernel
theorem dX12_fitsWith_29 : decode cX12_fitsWith 29 = .ok (.istore 4, 2) := by decide +kernel
theorem dX12_fitsWith_31 : decode cX12_fitsWith 31 = .ok (.iconst 0, 1) := by decide +kernel
theorem dX12_fitsWith_32 : decode cX12_fitsWith 32 = .ok (.istore 5, 2) := by decide +kernel
theorem dX12_fitsWith_34 : decode cX12_fitsWith 34 = .ok (.iload 5, 2) := by decide +kernel
theorem dX12_fitsWith_36 : decode cX12_fitsWith 36 = .ok (.aload_n 0, 1) := by decide +kernel
theorem dX12_fitsWith_37 : decode cX12_fitsWith 37 = .ok (.invokevirtual 361, 3) := by decide +kernel
theorem dX12_fitsWith_40 : decode cX12_fitsWith 40 = .ok (.if_icmp .ge 52, 3) := by decide +kernel
theorem dX12_fitsWith_43 : decode cX12_fitsWith 43 = .ok (.iload 4, 2) := by decide +kernel
theorem dX12_fitsWith_45 : decode cX12_fitsWith 45 = .ok (.ifCond .ne 47, 3) := by decide +kernel
theorem dX12_fitsWith_48 : decode cX12_fitsWith 48 = .ok (.aload_n 0, 1) := by decide +kernel
theorem dX12_fitsWith_49 : decode cX12_fitsWith 49 = .ok (.iload 5, 2) := by decide +kernel
theorem dX12_fitsWith_51 : decode cX12_fitsWith 51 = .ok (.invokevirtual 364, 3) := by decide +kernel
theorem dX12_fitsWith_54 : decode cX12_fitsWith 54 = .ok (.ifCond .eq 32, 3) := by decide +kernel
theorem dX12_fitsWith_57 : decode cX12_fitsWith 57 = .ok (.aload_n 0, 1) := by decide +kernel
theorem dX12_fitsWith_58 : decode cX12_fitsWith 58 = .ok (.invokevirtual 367, 3) := by decide +kernel
theorem dX12_fitsWith_61 : decode cX12_fitsWith 61 = .ok (.aload_n 0, 1) := by decide +kernel
theorem dX12_fitsWith_62 : decode cX12_fitsWith 62 = .ok (.getfield 349, 3) := by decide +kernel
theorem dX12_fitsWith_65 : decode cX12_fitsWith 65 = .ok (.aload_n 0, 1) := by decide +kernel
theorem dX12_fitsWith_66 : decode cX12_fitsWith 66 = .ok (.invokevirtual 373, 3) := by decide +kernel
theorem dX12_fitsWith_69 : decode cX12_fitsWith 69 = .ok (.if_icmp .ne 14, 3) := by decide +kernel
theorem dX12_fitsWith_72 : decode cX12_fitsWith 72 = .ok (.aload_n 0, 1) := by decide +kernel
theorem dX12_fitsWith_73 : decode cX12_fitsWith 73 = .ok (.getfield 352, 3) := by decide +kernel
theorem dX12_fitsWith_76 : decode cX12_fitsWith 76 = .ok (.ifCond .ne 7, 3) := by decide +kernel
theorem dX12_fitsWith_79 : decode cX12_fitsWith 79 = .ok (.iconst 1, 1) := by decide +kernel
theorem dX12_fitsWith_80 : decode cX12_fitsWith 80 = .ok (.goto 4, 3) := by decide +kernel
theorem dX12_fitsWith_83 : decode cX12_fitsWith 83 = .ok (.iconst 0, 1) := by decide +kernel
theorem dX12_fitsWith_84 : decode cX12_fitsWith 84 = .ok (.istore 4, 2) := by decide +kernel
theorem dX12_fitsWith_86 : decode cX12_fitsWith 86 = .ok (.iinc 5 1, 3) := by decide +kernel
theorem dX12_fitsWith_89 : decode cX12_fitsWith 89 = .ok (.goto (-55), 3) := by decide +kernel
theorem dX12_fitsWith_92 : decode cX12_fitsWith 92 = .ok (.aload_n 0, 1) := by decide +kernel
theorem dX12_fitsWith_93 : decode cX12_fitsWith 93 = .ok (.getfield 116, 3) := by decide +kernel
theorem dX12_fitsWith_96 : decode cX12_fitsWith 96 = .ok (.iconst 4, 1) := by decide +kernel
theorem dX12_fitsWith_97 : decode cX12_fitsWith 97 = .ok (.iload_n 1, 1) := by decide +kernel
theorem dX12_fitsWith_98 : decode cX12_fitsWith 98 = .ok (.imul, 1) := by decide +kernel
theorem dX12_fitsWith_99 : decode cX12_fitsWith 99 = .ok (.iload_n 2, 1) := by decide +kernel
theorem dX12_fitsWith_100 : decode cX12_fitsWith 100 = .ok (.iadd, 1) := by decide +kernel
theorem dX12_fitsWith_101 : decode cX12_fitsWith 101 = .ok (.dup2, 1) := by decide +kernel
theorem dX12_fitsWith_102 : decode cX12_fitsWith 102 = .ok (.iaload, 1) := by decide +kernel
theorem dX12_fitsWith_103 : decode cX12_fitsWith 103 = .ok (.iconst 1, 1) := by decide +kernel
theorem dX12_fitsWith_104 : decode cX12_fitsWith 104 = .ok (.iadd, 1) := by decide +kernel
theorem dX12_fitsWith_105 : decode cX12_fitsWith 105 = .ok (.iastore, 1) := by decide +kernel
theorem dX12_fitsWith_106 : decode cX12_fitsWith 106 = .ok (.aload_n 0, 1) := by decide +kernel
theorem dX12_fitsWith_107 : decode cX12_fitsWith 107 = .ok (.getfield 116, 3) := by decide +kernel
theorem dX12_fitsWith_110 : decode cX12_fitsWith 110 = .ok (.iconst 4, 1) := by decide +kernel
theorem dX12_fitsWith_111 : decode cX12_fitsWith 111 = .ok (.iload_n 1, 1) := by decide +kernel
theorem dX12_fitsWith_112 : decode cX12_fitsWith 112 = .ok (.imul, 1) := by decide +kernel
theorem dX12_fitsWith_113 : decode cX12_fitsWith 113 = .ok (.iload_n 3, 1) := by decide +kernel
theorem dX12_fitsWith_114 : decode cX12_fitsWith 114 = .ok (.iadd, 1) := by decide +kernel
theorem dX12_fitsWith_115 : decode cX12_fitsWith 115 = .ok (.dup2, 1) := by decide +kernel
theorem dX12_fitsWith_116 : decode cX12_fitsWith 116 = .ok (.iaload, 1) := by decide +kernel
theorem dX12_fitsWith_117 : decode cX12_fitsWith 117 = .ok (.iconst 1, 1) := by decide +kernel
theorem dX12_fitsWith_118 : decode cX12_fitsWith 118 = .ok (.isub, 1) := by decide +kernel
theorem dX12_fitsWith_119 : decode cX12_fitsWith 119 = .ok (.iastore, 1) := by decide +kernel
theorem dX12_fitsWith_120 : decode cX12_fitsWith 120 = .ok (.iload 4, 2) := by decide +kernel
theorem dX12_fitsWith_122 : decode cX12_fitsWith 122 = .ok (.ireturn, 1) := by decide +kernel
theorem dX12_misprintsNow_0 : decode cX12_misprintsNow 0 = .ok (.iconst 0, 1) := by decide +kernel
theorem dX12_misprintsNow_1 : decode cX12_misprintsNow 1 = .ok (.istore_n 1, 1) := by decide +kernel
theorem dX12_misprintsNow_2 : decode cX12_misprintsNow 2 = .ok (.iload_n 1, 1) := by decide +kernel
theorem dX12_misprintsNow_3 : decode cX12_misprintsNow 3 = .ok (.aload_n 0, 1) := by decide +kernel
theorem dX12_misprintsNow_4 : decode cX12_misprintsNow 4 = .ok (.invokevirtual 270, 3) := by decide +kernel
theorem dX12_misprintsNow_7 : decode cX12_misprintsNow 7 = .ok (.if_icmp .ge 100, 3) := by decide +kernel
theorem dX12_misprintsNow_10 : decode cX12_misprintsNow 10 = .ok (.iconst 0, 1) := by decide +kernel
theorem dX12_misprintsNow_11 : decode cX12_misprintsNow 11 = .ok (.istore_n 2, 1) := by decide +kernel
theorem dX12_misprintsNow_12 : decode cX12_misprintsNow 12 = .ok (.iload_n 2, 1) := by decide +kernel
theorem dX12_misprintsNow_13 : decode cX12_misprintsNow 13 = .ok (.aload_n 0, 1) := by decide +kernel
theorem dX12_misprintsNow_14 : decode cX12_misprintsNow 14 = .ok (.invokevirtual 266, 3) := by decide +kernel
theorem dX12_misprintsNow_17 : decode cX12_misprintsNow 17 = .ok (.if_icmp .ge 84, 3) := by decide +kernel
theorem dX12_misprintsNow_20 : decode cX12_misprintsNow 20 = .ok (.aload_n 0, 1) := by decide +kernel
theorem dX12_misprintsNow_21 : decode cX12_misprintsNow 21 = .ok (.getfield 146, 3) := by decide +kernel
theorem dX12_misprintsNow_24 : decode cX12_misprintsNow 24 = .ok (.iconst 4, 1) := by decide +kernel
theorem dX12_misprintsNow_25 : decode cX12_misprintsNow 25 = .ok (.iload_n 1, 1) := by decide +kernel
theorem dX12_misprintsNow_26 : decode cX12_misprintsNow 26 = .ok (.imul, 1) := by decide +kernel
theorem dX12_misprintsNow_27 : decode cX12_misprintsNow 27 = .ok (.iload_n 2, 1) := by decide +kernel
theorem dX12_misprintsNow_28 : decode cX12_misprintsNow 28 = .ok (.iadd, 1) := by decide +kernel
theorem dX12_misprintsNow_29 : decode cX12_misprintsNow 29 = .ok (.iconst 0, 1) := by decide +kernel
theorem dX12_misprintsNow_30 : decode cX12_misprintsNow 30 = .ok (.iastore, 1) := by decide +kernel
theorem dX12_misprintsNow_31 : decode cX12_misprintsNow 31 = .ok (.iconst 0, 1) := by decide +kernel
theorem dX12_misprintsNow_32 : decode cX12_misprintsNow 32 = .ok (.istore_n 3, 1) := by decide +kernel
theorem dX12_misprintsNow_33 : decode cX12_misprintsNow 33 = .ok (.iload_n 3, 1) := by decide +kernel
theorem dX12_misprintsNow_34 : decode cX12_misprintsNow 34 = .ok (.aload_n 0, 1) := by decide +kernel
theorem dX12_misprintsNow_35 : decode cX12_misprintsNow 35 = .ok (.invokevirtual 266, 3) := by decide +kernel
theorem dX12_misprintsNow_38 : decode cX12_misprintsNow 38 = .ok (.if_icmp .ge 57, 3) := by decide +kernel
theorem dX12_misprintsNow_41 : decode cX12_misprintsNow 41 = .ok (.aload_n 0, 1) := by decide +kernel
theorem dX12_misprintsNow_42 : decode cX12_misprintsNow 42 = .ok (.getfield 116, 3) := by decide +kernel
theorem dX12_misprintsNow_45 : decode cX12_misprintsNow 45 = .ok (.iconst 4, 1) := by decide +kernel
theorem dX12_misprintsNow_46 : decode cX12_misprintsNow 46 = .ok (.iload_n 1, 1) := by decide +kernel
theorem dX12_misprintsNow_47 : decode cX12_misprintsNow 47 = .ok (.imul, 1) := by decide +kernel
theorem dX12_misprintsNow_48 : decode cX12_misprintsNow 48 = .ok (.iload_n 2, 1) := by decide +kernel
theorem dX12_misprintsNow_49 : decode cX12_misprintsNow 49 = .ok (.iadd, 1) := by decide +kernel
theorem dX12_misprintsNow_50 : decode cX12_misprintsNow 50 = .ok (.iaload, 1) := by decide +kernel
theorem dX12_misprintsNow_51 : decode cX12_misprintsNow 51 = .ok (.ifCond .le 44, 3) := by decide +kernel
theorem dX12_misprintsNow_54 : decode cX12_misprintsNow 54 = .ok (.aload_n 0, 1) := by decide +kernel
theorem dX12_misprintsNow_55 : decode cX12_misprintsNow 55 = .ok (.getfield 146, 3) := by decide +kernel
theorem dX12_misprintsNow_58 : decode cX12_misprintsNow 58 = .ok (.iconst 4, 1) := by decide +kernel
theorem dX12_misprintsNow_59 : decode cX12_misprintsNow 59 = .ok (.iload_n 1, 1) := by decide +kernel
theorem dX12_misprintsNow_60 : decode cX12_misprintsNow 60 = .ok (.imul, 1) := by decide +kernel
theorem dX12_misprintsNow_61 : decode cX12_misprintsNow 61 = .ok (.iload_n 2, 1) := by decide +kernel
theorem dX12_misprintsNow_62 : decode cX12_misprintsNow 62 = .ok (.iadd, 1) := by decide +kernel
theorem dX12_misprintsNow_63 : decode cX12_misprintsNow 63 = .ok (.dup2, 1) := by decide +kernel
theorem dX12_misprintsNow_64 : decode cX12_misprintsNow 64 = .ok (.iaload, 1) := by decide +kernel
theorem dX12_misprintsNow_65 : decode cX12_misprintsNow 65 = .ok (.iload_n 3, 1) := by decide +kernel
theorem dX12_misprintsNow_66 : decode cX12_misprintsNow 66 = .ok (.iload_n 2, 1) := by decide +kernel
theorem dX12_misprintsNow_67 : decode cX12_misprintsNow 67 = .ok (.if_icmp .eq 19, 3) := by decide +kernel
theorem dX12_misprintsNow_70 : decode cX12_misprintsNow 70 = .ok (.aload_n 0, 1) := by decide +kernel
theorem dX12_misprintsNow_71 : decode cX12_misprintsNow 71 = .ok (.iload_n 1, 1) := by decide +kernel
theorem dX12_misprintsNow_72 : decode cX12_misprintsNow 72 = .ok (.iload_n 2, 1) := by decide +kernel
theorem dX12_misprintsNow_73 : decode cX12_misprintsNow 73 = .ok (.iload_n 3, 1) := by decide +kernel
theorem dX12_misprintsNow_74 : decode cX12_misprintsNow 74 = .ok (.invokevirtual 402, 3) := by decide +kernel
theorem dX12_misprintsNow_77 : decode cX12_misprintsNow 77 = .ok (.ifCond .eq 9, 3) := by decide +kernel
theorem dX12_misprintsNow_80 : decode cX12_misprintsNow 80 = .ok (.iconst 1, 1) := by decide +kernel
theorem dX12_misprintsNow_81 : decode cX12_misprintsNow 81 = .ok (.iload_n 3, 1) := by decide +kernel
theorem dX12_misprintsNow_82 : decode cX12_misprintsNow 82 = .ok (.ishl, 1) := by decide +kernel
theorem dX12_misprintsNow_83 : decode cX12_misprintsNow 83 = .ok (.goto 4, 3) := by decide +kernel
theorem dX12_misprintsNow_86 : decode cX12_misprintsNow 86 = .ok (.iconst 0, 1) := by decide +kernel
theorem dX12_misprintsNow_87 : decode cX12_misprintsNow 87 = .ok (.ior, 1) := by decide +kernel
theorem dX12_misprintsNow_88 : decode cX12_misprintsNow 88 = .ok (.iastore, 1) := by decide +kernel
theorem dX12_misprintsNow_89 : decode cX12_misprintsNow 89 = .ok (.iinc 3 1, 3) := by decide +kernel
theorem dX12_misprintsNow_92 : decode cX12_misprintsNow 92 = .ok (.goto (-59), 3) := by decide +kernel
theorem dX12_misprintsNow_95 : decode cX12_misprintsNow 95 = .ok (.iinc 2 1, 3) := by decide +kernel
theorem dX12_misprintsNow_98 : decode cX12_misprintsNow 98 = .ok (.goto (-86), 3) := by decide +kernel
theorem dX12_misprintsNow_101 : decode cX12_misprintsNow 101 = .ok (.iinc 1 1, 3) := by decide +kernel
theorem dX12_misprintsNow_104 : decode cX12_misprintsNow 104 = .ok (.goto (-102), 3) := by decide +kernel
theorem dX12_misprintsNow_107 : decode cX12_misprintsNow 107 = .ok (.return_, 1) := by decide +kernel
theorem dX12_misprints_0 : decode cX12_misprints 0 = .ok (.aload_n 0, 1) := by decide +kernel
theorem dX12_misprints_1 : decode cX12_misprints 1 = .ok (.iconst 0, 1) := by decide +kernel
theorem dX12_misprints_2 : decode cX12_misprints 2 = .ok (.putfield 1, 3) := by decide +kernel
theorem dX12_misprints_5 : decode cX12_misprints 5 = .ok (.aload_n 0, 1) := by decide +kernel
theorem dX12_misprints_6 : decode cX12_misprints 6 = .ok (.invokevirtual 405, 3) := by decide +kernel
theorem dX12_misprints_9 : decode cX12_misprints 9 = .ok (.iconst 0, 1) := by decide +kernel
theorem dX12_misprints_10 : decode cX12_misprints 10 = .ok (.istore_n 1, 1) := by decide +kernel
theorem dX12_misprints_11 : decode cX12_misprints 11 = .ok (.iconst 0, 1) := by decide +kernel
theorem dX12_misprints_12 : decode cX12_misprints 12 = .ok (.istore_n 2, 1) := by decide +kernel
theorem dX12_misprints_13 : decode cX12_misprints 13 = .ok (.iload_n 2, 1) := by decide +kernel
theorem dX12_misprints_14 : decode cX12_misprints 14 = .ok (.aload_n 0, 1) := by decide +kernel
theorem dX12_misprints_15 : decode cX12_misprints 15 = .ok (.invokevirtual 270, 3) := by decide +kernel
theorem dX12_misprints_18 : decode cX12_misprints 18 = .ok (.if_icmp .ge 52, 3) := by decide +kernel
theorem dX12_misprints_21 : decode cX12_misprints 21 = .ok (.iconst 0, 1) := by decide +kernel
theorem dX12_misprints_22 : decode cX12_misprints 22 = .ok (.istore_n 3, 1) := by decide +kernel
theorem dX12_misprints_23 : decode cX12_misprints 23 = .ok (.iload_n 3, 1) := by decide +kernel
theorem dX12_misprints_24 : decode cX12_misprints 24 = .ok (.aload_n 0, 1) := by decide +kernel
theorem dX12_misprints_25 : decode cX12_misprints 25 = .ok (.invokevirtual 266, 3) := by decide +kernel
theorem dX12_misprints_28 : decode cX12_misprints 28 = .ok (.if_icmp .ge 36, 3) := by decide +kernel
theorem dX12_misprints_31 : decode cX12_misprints 31 = .ok (.iload_n 1, 1) := by decide +kernel
theorem dX12_misprints_32 : decode cX12_misprints 32 = .ok (.aload_n 0, 1) := by decide +kernel
theorem dX12_misprints_33 : decode cX12_misprints 33 = .ok (.getfield 116, 3) := by decide +kernel
theorem dX12_misprints_36 : decode cX12_misprints 36 = .ok (.iconst 4, 1) := by decide +kernel
theorem dX12_misprints_37 : decode cX12_misprints 37 = .ok (.iload_n 2, 1) := by decide +kernel
theorem dX12_misprints_38 : decode cX12_misprints 38 = .ok (.imul, 1) := by decide +kernel
theorem dX12_misprints_39 : decode cX12_misprints 39 = .ok (.iload_n 3, 1) := by decide +kernel
theorem dX12_misprints_40 : decode cX12_misprints 40 = .ok (.iadd, 1) := by decide +kernel
theorem dX12_misprints_41 : decode cX12_misprints 41 = .ok (.iaload, 1) := by decide +kernel
theorem dX12_misprints_42 : decode cX12_misprints 42 = .ok (.aload_n 0, 1) := by decide +kernel
theorem dX12_misprints_43 : decode cX12_misprints 43 = .ok (.getfield 146, 3) := by decide +kernel
theorem dX12_misprints_46 : decode cX12_misprints 46 = .ok (.iconst 4, 1) := by decide +kernel
theorem dX12_misprints_47 : decode cX12_misprints 47 = .ok (.iload_n 2, 1) := by decide +kernel
theorem dX12_misprints_48 : decode cX12_misprints 48 = .ok (.imul, 1) := by decide +kernel
theorem dX12_misprints_49 : decode cX12_misprints 49 = .ok (.iload_n 3, 1) := by decide +kernel
theorem dX12_misprints_50 : decode cX12_misprints 50 = .ok (.iadd, 1) := by decide +kernel
theorem dX12_misprints_51 : decode cX12_misprints 51 = .ok (.iaload, 1) := by decide +kernel
theorem dX12_misprints_52 : decode cX12_misprints 52 = .ok (.invokestatic 376, 3) := by decide +kernel
theorem dX12_misprints_55 : decode cX12_misprints 55 = .ok (.imul, 1) := by decide +kernel
theorem dX12_misprints_56 : decode cX12_misprints 56 = .ok (.iadd, 1) := by decide +kernel
theorem dX12_misprints_57 : decode cX12_misprints 57 = .ok (.istore_n 1, 1) := by decide +kernel
theorem dX12_misprints_58 : decode cX12_misprints 58 = .ok (.iinc 3 1, 3) := by decide +kernel
theorem dX12_misprints_61 : decode cX12_misprints 61 = .ok (.goto (-38), 3) := by decide +kernel
theorem dX12_misprints_64 : decode cX12_misprints 64 = .ok (.iinc 2 1, 3) := by decide +kernel
theorem dX12_misprints_67 : decode cX12_misprints 67 = .ok (.goto (-54), 3) := by decide +kernel
theorem dX12_misprints_70 : decode cX12_misprints 70 = .ok (.iload_n 1, 1) := by decide +kernel
theorem dX12_misprints_71 : decode cX12_misprints 71 = .ok (.ireturn, 1) := by decide +kernel
theorem dX12_misprint_0 : decode cX12_misprint 0 = .ok (.aload_n 0, 1) := by decide +kernel
theorem dX12_misprint_1 : decode cX12_misprint 1 = .ok (.iconst 0, 1) := by decide +kernel
theorem dX12_misprint_2 : decode cX12_misprint 2 = .ok (.putfield 1, 3) := by decide +kernel
theorem dX12_misprint_5 : decode cX12_misprint 5 = .ok (.aload_n 0, 1) := by decide +kernel
theorem dX12_misprint_6 : decode cX12_misprint 6 = .ok (.invokevirtual 405, 3) := by decide +kernel
theorem dX12_misprint_9 : decode cX12_misprint 9 = .ok (.iconst 0, 1) := by decide +kernel
theorem dX12_misprint_10 : decode cX12_misprint 10 = .ok (.istore_n 2, 1) := by decide +kernel
theorem dX12_misprint_11 : decode cX12_misprint 11 = .ok (.iload_n 2, 1) := by decide +kernel
theorem dX12_misprint_12 : decode cX12_misprint 12 = .ok (.aload_n 0, 1) := by decide +kernel
theorem dX12_misprint_13 : decode cX12_misprint 13 = .ok (.invokevirtual 270, 3) := by decide +kernel
theorem dX12_misprint_16 : decode cX12_misprint 16 = .ok (.if_icmp .ge 101, 3) := by decide +kernel
theorem dX12_misprint_19 : decode cX12_misprint 19 = .ok (.iload_n 1, 1) := by decide +kernel
theorem dX12_misprint_20 : decode cX12_misprint 20 = .ok (.iconst 0, 1) := by decide +kernel
theorem dX12_misprint_21 : decode cX12_misprint 21 = .ok (.iconst 2, 1) := by decide +kernel
theorem dX12_misprint_22 : decode cX12_misprint 22 = .ok (.invokestatic 321, 3) := by decide +kernel
theorem dX12_misprint_25 : decode cX12_misprint 25 = .ok (.ifCond .eq 92, 3) := by decide +kernel
theorem dX12_misprint_28 : decode cX12_misprint 28 = .ok (.iconst 0, 1) := by decide +kernel
theorem dX12_misprint_29 : decode cX12_misprint 29 = .ok (.istore_n 3, 1) := by decide +kernel
theorem dX12_misprint_30 : decode cX12_misprint 30 = .ok (.iload_n 3, 1) := by decide +kernel
theorem dX12_misprint_31 : decode cX12_misprint 31 = .ok (.aload_n 0, 1) := by decide +kernel
theorem dX12_misprint_32 : decode cX12_misprint 32 = .ok (.iload_n 2, 1) := by decide +kernel
theorem dX12_misprint_33 : decode cX12_misprint 33 = .ok (.invokevirtual 292, 3) := by decide +kernel
theorem dX12_misprint_36 : decode cX12_misprint 36 = .ok (.if_icmp .ge 75, 3) := by decide +kernel
theorem dX12_misprint_39 : decode cX12_misprint 39 = .ok (.aload_n 0, 1) := by decide +kernel
theorem dX12_misprint_40 : decode cX12_misprint 40 = .ok (.getfield 146, 3) := by decide +kernel
theorem dX12_misprint_43 : decode cX12_misprint 43 = .ok (.iconst 4, 1) := by decide +kernel
theorem dX12_misprint_44 : decode cX12_misprint 44 = .ok (.iload_n 2, 1) := by decide +kernel
theorem dX12_misprint_45 : decode cX12_misprint 45 = .ok (.imul, 1) := by decide +kernel
theorem dX12_misprint_46 : decode cX12_misprint 46 = .ok (.aload_n 0, 1) := by decide +kernel
theorem dX12_misprint_47 : decode cX12_misprint 47 = .ok (.iload_n 2, 1) := by decide +kernel
theorem dX12_misprint_48 : decode cX12_misprint 48 = .ok (.iload_n 3, 1) := by decide +kernel
theorem dX12_misprint_49 : decode cX12_misprint 49 = .ok (.invokevirtual 295, 3) := by decide +kernel
theorem dX12_misprint_52 : decode cX12_misprint 52 = .ok (.iadd, 1) := by decide +kernel
theorem dX12_misprint_53 : decode cX12_misprint 53 = .ok (.iaload, 1) := by decide +kernel
theorem dX12_misprint_54 : decode cX12_misprint 54 = .ok (.istore 4, 2) := by decide +kernel
theorem dX12_misprint_56 : decode cX12_misprint 56 = .ok (.iconst 0, 1) := by decide +kernel
theorem dX12_misprint_57 : decode cX12_misprint 57 = .ok (.istore 5, 2) := by decide +kernel
theorem dX12_misprint_59 : decode cX12_misprint 59 = .ok (.iload 4, 2) := by decide +kernel
theorem dX12_misprint_61 : decode cX12_misprint 61 = .ok (.ifCond .eq 19, 3) := by decide +kernel
theorem dX12_misprint_64 : decode cX12_misprint 64 = .ok (.iload 4, 2) := by decide +kernel
theorem dX12_misprint_66 : decode cX12_misprint 66 = .ok (.iload 5, 2) := by decide +kernel
theorem dX12_misprint_68 : decode cX12_misprint 68 = .ok (.ishr, 1) := by decide +kernel
theorem dX12_misprint_69 : decode cX12_misprint 69 = .ok (.iconst 1, 1) := by decide +kernel
theorem dX12_misprint_70 : decode cX12_misprint 70 = .ok (.iand, 1) := by decide +kernel
theorem dX12_misprint_71 : decode cX12_misprint 71 = .ok (.ifCond .ne 9, 3) := by decide +kernel
theorem dX12_misprint_74 : decode cX12_misprint 74 = .ok (.iinc 5 1, 3) := by decide +kernel
theorem dX12_misprint_77 : decode cX12_misprint 77 = .ok (.goto (-18), 3) := by decide +kernel
theorem dX12_misprint_80 : decode cX12_misprint 80 = .ok (.iload 4, 2) := by decide +kernel
theorem dX12_misprint_82 : decode cX12_misprint 82 = .ok (.ifCond .eq 23, 3) := by decide +kernel
theorem dX12_misprint_85 : decode cX12_misprint 85 = .ok (.iload_n 1, 1) := by decide +kernel
theorem dX12_misprint_86 : decode cX12_misprint 86 = .ok (.ifCond .ne 7, 3) := by decide +kernel
theorem dX12_misprint_89 : decode cX12_misprint 89 = .ok (.iload_n 2, 1) := by decide +kernel
theorem dX12_misprint_90 : decode cX12_misprint 90 = .ok (.goto 14, 3) := by decide +kernel
theorem dX12_misprint_93 : decode cX12_misprint 93 = .ok (.iload_n 1, 1) := by decide +kernel
theorem dX12_misprint_94 : decode cX12_misprint 94 = .ok (.iconst 1, 1) := by decide +kernel
theorem dX12_misprint_95 : decode cX12_misprint 95 = .ok (.if_icmp .ne 7, 3) := by decide +kernel
theorem dX12_misprint_98 : decode cX12_misprint 98 = .ok (.iload_n 3, 1) := by decide +kernel
theorem dX12_misprint_99 : decode cX12_misprint 99 = .ok (.goto 5, 3) := by decide +kernel
theorem dX12_misprint_102 : decode cX12_misprint 102 = .ok (.iload 5, 2) := by decide +kernel
theorem dX12_misprint_104 : decode cX12_misprint 104 = .ok (.ireturn, 1) := by decide +kernel
theorem dX12_misprint_105 : decode cX12_misprint 105 = .ok (.iinc 3 1, 3) := by decide +kernel
theorem dX12_misprint_108 : decode cX12_misprint 108 = .ok (.goto (-78), 3) := by decide +kernel
theorem dX12_misprint_111 : decode cX12_misprint 111 = .ok (.iinc 2 1, 3) := by decide +kernel
theorem dX12_misprint_114 : decode cX12_misprint 114 = .ok (.goto (-103), 3) := by decide +kernel
theorem dX12_misprint_117 : decode cX12_misprint 117 = .ok (.iconst (-1), 1) := by decide +kernel
theorem dX12_misprint_118 : decode cX12_misprint 118 = .ok (.ireturn, 1) := by decide +kernel
theorem dX12_turned_0 : decode cX12_turned 0 = .ok (.aload_n 0, 1) := by decide +kernel
theorem dX12_turned_1 : decode cX12_turned 1 = .ok (.iconst 0, 1) := by decide +kernel
theorem dX12_turned_2 : decode cX12_turned 2 = .ok (.putfield 1, 3) := by decide +kernel
theorem dX12_turned_5 : decode cX12_turned 5 = .ok (.aload_n 0, 1) := by decide +kernel
theorem dX12_turned_6 : decode cX12_turned 6 = .ok (.iload_n 1, 1) := by decide +kernel
theorem dX12_turned_7 : decode cX12_turned 7 = .ok (.invokevirtual 325, 3) := by decide +kernel
theorem dX12_turned_10 : decode cX12_turned 10 = .ok (.istore_n 2, 1) := by decide +kernel
theorem dX12_turned_11 : decode cX12_turned 11 = .ok (.iconst 0, 1) := by decide +kernel
theorem dX12_turned_12 : decode cX12_turned 12 = .ok (.istore_n 3, 1) := by decide +kernel
theorem dX12_turned_13 : decode cX12_turned 13 = .ok (.iload_n 2, 1) := by decide +kernel
theorem dX12_turned_14 : decode cX12_turned 14 = .ok (.ifCond .eq 47, 3) := by decide +kernel
theorem dX12_turned_17 : decode cX12_turned 17 = .ok (.iload_n 3, 1) := by decide +kernel
theorem dX12_turned_18 : decode cX12_turned 18 = .ok (.aload_n 0, 1) := by decide +kernel
theorem dX12_turned_19 : decode cX12_turned 19 = .ok (.iload_n 1, 1) := by decide +kernel
theorem dX12_turned_20 : decode cX12_turned 20 = .ok (.invokevirtual 292, 3) := by decide +kernel
theorem dX12_turned_23 : decode cX12_turned 23 = .ok (.if_icmp .ge 38, 3) := by decide +kernel
theorem dX12_turned_26 : decode cX12_turned 26 = .ok (.aload_n 0, 1) := by decide +kernel
theorem dX12_turned_27 : decode cX12_turned 27 = .ok (.iload_n 1, 1) := by decide +kernel
theorem dX12_turned_28 : decode cX12_turned 28 = .ok (.iload_n 3, 1) := by decide +kernel
theorem dX12_turned_29 : decode cX12_turned 29 = .ok (.invokevirtual 295, 3) := by decide +kernel
theorem dX12_turned_32 : decode cX12_turned 32 = .ok (.aload_n 0, 1) := by decide +kernel
theorem dX12_turned_33 : decode cX12_turned 33 = .ok (.iload_n 1, 1) := by decide +kernel
theorem dX12_turned_34 : decode cX12_turned 34 = .ok (.aload_n 0, 1) := by decide +kernel
theorem dX12_turned_35 : decode cX12_turned 35 = .ok (.iload_n 1, 1) := by decide +kernel
theorem dX12_turned_36 : decode cX12_turned 36 = .ok (.invokevirtual 292, 3) := by decide +kernel
theorem dX12_turned_39 : decode cX12_turned 39 = .ok (.iconst 1, 1) := by decide +kernel
theorem dX12_turned_40 : decode cX12_turned 40 = .ok (.isub, 1) := by decide +kernel
theorem dX12_turned_41 : decode cX12_turned 41 = .ok (.iload_n 3, 1) := by decide +kernel
theorem dX12_turned_42 : decode cX12_turned 42 = .ok (.isub, 1) := by decide +kernel
theorem dX12_turned_43 : decode cX12_turned 43 = .ok (.invokevirtual 295, 3) := by decide +kernel
theorem dX12_turned_46 : decode cX12_turned 46 = .ok (.if_icmp .ne 7, 3) := by decide +kernel
theorem dX12_turned_49 : decode cX12_turned 49 = .ok (.iconst 1, 1) := by decide +kernel
theorem dX12_turned_50 : decode cX12_turned 50 = .ok (.goto 4, 3) := by decide +kernel
theorem dX12_turned_53 : decode cX12_turned 53 = .ok (.iconst 0, 1) := by decide +kernel
theorem dX12_turned_54 : decode cX12_turned 54 = .ok (.istore_n 2, 1) := by decide +kernel
theorem dX12_turned_55 : decode cX12_turned 55 = .ok (.iinc 3 1, 3) := by decide +kernel
theorem dX12_turned_58 : decode cX12_turned 58 = .ok (.goto (-45), 3) := by decide +kernel
theorem dX12_turned_61 : decode cX12_turned 61 = .ok (.iload_n 2, 1) := by decide +kernel
theorem dX12_turned_62 : decode cX12_turned 62 = .ok (.ireturn, 1) := by decide +kernel
theorem dX12_alike_0 : decode cX12_alike 0 = .ok (.aload_n 0, 1) := by decide +kernel
theorem dX12_alike_1 : decode cX12_alike 1 = .ok (.iconst 0, 1) := by decide +kernel
theorem dX12_alike_2 : decode cX12_alike 2 = .ok (.putfield 1, 3) := by decide +kernel
theorem dX12_alike_5 : decode cX12_alike 5 = .ok (.aload_n 0, 1) := by decide +kernel
theorem dX12_alike_6 : decode cX12_alike 6 = .ok (.iload_n 1, 1) := by decide +kernel
theorem dX12_alike_7 : decode cX12_alike 7 = .ok (.invokevirtual 325, 3) := by decide +kernel
theorem dX12_alike_10 : decode cX12_alike 10 = .ok (.ifCond .eq 33, 3) := by decide +kernel
theorem dX12_alike_13 : decode cX12_alike 13 = .ok (.aload_n 0, 1) := by decide +kernel
theorem dX12_alike_14 : decode cX12_alike 14 = .ok (.iload_n 2, 1) := by decide +kernel
theorem dX12_alike_15 : decode cX12_alike 15 = .ok (.invokevirtual 325, 3) := by decide +kernel
theorem dX12_alike_18 : decode cX12_alike 18 = .ok (.ifCond .eq 25, 3) := by decide +kernel
theorem dX12_alike_21 : decode cX12_alike 21 = .ok (.iload_n 1, 1) := by decide +kernel
theorem dX12_alike_22 : decode cX12_alike 22 = .ok (.iload_n 2, 1) := by decide +kernel
theorem dX12_alike_23 : decode cX12_alike 23 = .ok (.if_icmp .eq 20, 3) := by decide +kernel
theorem dX12_alike_26 : decode cX12_alike 26 = .ok (.aload_n 0, 1) := by decide +kernel
theorem dX12_alike_27 : decode cX12_alike 27 = .ok (.iload_n 1, 1) := by decide +kernel
theorem dX12_alike_28 : decode cX12_alike 28 = .ok (.invokevirtual 292, 3) := by decide +kernel
theorem dX12_alike_31 : decode cX12_alike 31 = .ok (.aload_n 0, 1) := by decide +kernel
theorem dX12_alike_32 : decode cX12_alike 32 = .ok (.iload_n 2, 1) := by decide +kernel
theorem dX12_alike_33 : decode cX12_alike 33 = .ok (.invokevirtual 292, 3) := by decide +kernel
theorem dX12_alike_36 : decode cX12_alike 36 = .ok (.if_icmp .ne 7, 3) := by decide +kernel
theorem dX12_alike_39 : decode cX12_alike 39 = .ok (.iconst 1, 1) := by decide +kernel
theorem dX12_alike_40 : decode cX12_alike 40 = .ok (.goto 4, 3) := by decide +kernel
theorem dX12_alike_43 : decode cX12_alike 43 = .ok (.iconst 0, 1) := by decide +kernel
theorem dX12_alike_44 : decode cX12_alike 44 = .ok (.istore_n 3, 1) := by decide +kernel
theorem dX12_alike_45 : decode cX12_alike 45 = .ok (.iconst 0, 1) := by decide +kernel
theorem dX12_alike_46 : decode cX12_alike 46 = .ok (.istore 4, 2) := by decide +kernel
theorem dX12_alike_48 : decode cX12_alike 48 = .ok (.iload_n 3, 1) := by decide +kernel
theorem dX12_alike_49 : decode cX12_alike 49 = .ok (.ifCond .eq 92, 3) := by decide +kernel
theorem dX12_alike_52 : decode cX12_alike 52 = .ok (.iload 4, 2) := by decide +kernel
theorem dX12_alike_54 : decode cX12_alike 54 = .ok (.aload_n 0, 1) := by decide +kernel
theorem dX12_alike_55 : decode cX12_alike 55 = .ok (.iload_n 1, 1) := by decide +kernel
theorem dX12_alike_56 : decode cX12_alike 56 = .ok (.invokevirtual 292, 3) := by decide +kernel
theorem dX12_alike_59 : decode cX12_alike 59 = .ok (.if_icmp .ge 82, 3) := by decide +kernel
theorem dX12_alike_62 : decode cX12_alike 62 = .ok (.iconst 0, 1) := by decide +kernel
theorem dX12_alike_63 : decode cX12_alike 63 = .ok (.istore 5, 2) := by decide +kernel
theorem dX12_alike_65 : decode cX12_alike 65 = .ok (.iload 5, 2) := by decide +kernel
theorem dX12_alike_67 : decode cX12_alike 67 = .ok (.iload 4, 2) := by decide +kernel
theorem dX12_alike_69 : decode cX12_alike 69 = .ok (.if_icmp .ge 66, 3) := by decide +kernel
theorem dX12_alike_72 : decode cX12_alike 72 = .ok (.iload_n 3, 1) := by decide +kernel
theorem dX12_alike_73 : decode cX12_alike 73 = .ok (.ifCond .eq 54, 3) := by decide +kernel
theorem dX12_alike_76 : decode cX12_alike 76 = .ok (.aload_n 0, 1) := by decide +kernel
theorem dX12_alike_77 : decode cX12_alike 77 = .ok (.iload_n 1, 1) := by decide +kernel
theorem dX12_alike_78 : decode cX12_alike 78 = .ok (.iload 4, 2) := by decide +kernel
theorem dX12_alike_80 : decode cX12_alike 80 = .ok (.invokevirtual 295, 3) := by decide +kernel
theorem dX12_alike_83 : decode cX12_alike 83 = .ok (.aload_n 0, 1) := by decide +kernel
theorem dX12_alike_84 : decode cX12_alike 84 = .ok (.iload_n 1, 1) := by decide +kernel
theorem dX12_alike_85 : decode cX12_alike 85 = .ok (.iload 5, 2) := by decide +kernel
theorem dX12_alike_87 : decode cX12_alike 87 = .ok (.invokevirtual 295, 3) := by decide +kernel
theorem dX12_alike_90 : decode cX12_alike 90 = .ok (.if_icmp .ne 7, 3) := by decide +kernel
theorem dX12_alike_93 : decode cX12_alike 93 = .ok (.iconst 1, 1) := by decide +kernel
theorem dX12_alike_94 : decode cX12_alike 94 = .ok (.goto 4, 3) := by decide +kernel
theorem dX12_alike_97 : decode cX12_alike 97 = .ok (.iconst 0, 1) := by decide +kernel
theorem dX12_alike_98 : decode cX12_alike 98 = .ok (.aload_n 0, 1) := by decide +kernel
theorem dX12_alike_99 : decode cX12_alike 99 = .ok (.iload_n 2, 1) := by decide +kernel
theorem dX12_alike_100 : decode cX12_alike 100 = .ok (.iload 4, 2) := by decide +kernel
theorem dX12_alike_102 : decode cX12_alike 102 = .ok (.invokevirtual 295, 3) := by decide +kernel
theorem dX12_alike_105 : decode cX12_alike 105 = .ok (.aload_n 0, 1) := by decide +kernel
theorem dX12_alike_106 : decode cX12_alike 106 = .ok (.iload_n 2, 1) := by decide +kernel
theorem dX12_alike_107 : decode cX12_alike 107 = .ok (.iload 5, 2) := by decide +kernel
theorem dX12_alike_109 : decode cX12_alike 109 = .ok (.invokevirtual 295, 3) := by decide +kernel
theorem dX12_alike_112 : decode cX12_alike 112 = .ok (.if_icmp .ne 7, 3) := by decide +kernel
theorem dX12_alike_115 : decode cX12_alike 115 = .ok (.iconst 1, 1) := by decide +kernel
theorem dX12_alike_116 : decode cX12_alike 116 = .ok (.goto 4, 3) := by decide +kernel
theorem dX12_alike_119 : decode cX12_alike 119 = .ok (.iconst 0, 1) := by decide +kernel
theorem dX12_alike_120 : decode cX12_alike 120 = .ok (.if_icmp .ne 7, 3) := by decide +kernel
theorem dX12_alike_123 : decode cX12_alike 123 = .ok (.iconst 1, 1) := by decide +kernel
theorem dX12_alike_124 : decode cX12_alike 124 = .ok (.goto 4, 3) := by decide +kernel
theorem dX12_alike_127 : decode cX12_alike 127 = .ok (.iconst 0, 1) := by decide +kernel
theorem dX12_alike_128 : decode cX12_alike 128 = .ok (.istore_n 3, 1) := by decide +kernel
theorem dX12_alike_129 : decode cX12_alike 129 = .ok (.iinc 5 1, 3) := by decide +kernel
theorem dX12_alike_132 : decode cX12_alike 132 = .ok (.goto (-67), 3) := by decide +kernel
theorem dX12_alike_135 : decode cX12_alike 135 = .ok (.iinc 4 1, 3) := by decide +kernel
theorem dX12_alike_138 : decode cX12_alike 138 = .ok (.goto (-90), 3) := by decide +kernel
theorem dX12_alike_141 : decode cX12_alike 141 = .ok (.iload_n 3, 1) := by decide +kernel
theorem dX12_alike_142 : decode cX12_alike 142 = .ok (.ireturn, 1) := by decide +kernel
theorem dX12_getsBy_0 : decode cX12_getsBy 0 = .ok (.iload_n 0, 1) := by decide +kernel
theorem dX12_getsBy_1 : decode cX12_getsBy 1 = .ok (.iconst 1, 1) := by decide +kernel
theorem dX12_getsBy_2 : decode cX12_getsBy 2 = .ok (.if_icmp .ne 17, 3) := by decide +kernel
theorem dX12_getsBy_5 : decode cX12_getsBy 5 = .ok (.iload_n 1, 1) := by decide +kernel
theorem dX12_getsBy_6 : decode cX12_getsBy 6 = .ok (.iconst 1, 1) := by decide +kernel
theorem dX12_getsBy_7 : decode cX12_getsBy 7 = .ok (.if_icmp .ne 8, 3) := by decide +kernel
theorem dX12_getsBy_10 : decode cX12_getsBy 10 = .ok (.iload_n 2, 1) := by decide +kernel
theorem dX12_getsBy_11 : decode cX12_getsBy 11 = .ok (.ineg, 1) := by decide +kernel
theorem dX12_getsBy_12 : decode cX12_getsBy 12 = .ok (.goto 18, 3) := by decide +kernel
theorem dX12_getsBy_15 : decode cX12_getsBy 15 = .ok (.iload_n 3, 1) := by decide +kernel
theorem dX12_getsBy_16 : decode cX12_getsBy 16 = .ok (.goto 14, 3) := by decide +kernel
theorem dX12_getsBy_19 : decode cX12_getsBy 19 = .ok (.iload_n 1, 1) := by decide +kernel
theorem dX12_getsBy_20 : decode cX12_getsBy 20 = .ok (.iconst 1, 1) := by decide +kernel
theorem dX12_getsBy_21 : decode cX12_getsBy 21 = .ok (.if_icmp .ne 8, 3) := by decide +kernel
theorem dX12_getsBy_24 : decode cX12_getsBy 24 = .ok (.iload 4, 2) := by decide +kernel
theorem dX12_getsBy_26 : decode cX12_getsBy 26 = .ok (.goto 4, 3) := by decide +kernel
theorem dX12_getsBy_29 : decode cX12_getsBy 29 = .ok (.iconst 0, 1) := by decide +kernel
theorem dX12_getsBy_30 : decode cX12_getsBy 30 = .ok (.ireturn, 1) := by decide +kernel
theorem dX12_rests_0 : decode cX12_rests 0 = .ok (.iload_n 1, 1) := by decide +kernel
theorem dX12_rests_1 : decode cX12_rests 1 = .ok (.iconst 0, 1) := by decide +kernel
theorem dX12_rests_2 : decode cX12_rests 2 = .ok (.bipush 9, 2) := by decide +kernel
theorem dX12_rests_4 : decode cX12_rests 4 = .ok (.invokestatic 321, 3) := by decide +kernel
theorem dX12_rests_7 : decode cX12_rests 7 = .ok (.ifCond .eq 33, 3) := by decide +kernel
theorem dX12_rests_10 : decode cX12_rests 10 = .ok (.iload_n 2, 1) := by decide +kernel
theorem dX12_rests_11 : decode cX12_rests 11 = .ok (.iconst 0, 1) := by decide +kernel
theorem dX12_rests_12 : decode cX12_rests 12 = .ok (.bipush 9, 2) := by decide +kernel
theorem dX12_rests_14 : decode cX12_rests 14 = .ok (.invokestatic 321, 3) := by decide +kernel
theorem dX12_rests_17 : decode cX12_rests 17 = .ok (.ifCond .eq 23, 3) := by decide +kernel
theorem dX12_rests_20 : decode cX12_rests 20 = .ok (.iload_n 3, 1) := by decide +kernel
theorem dX12_rests_21 : decode cX12_rests 21 = .ok (.iconst 0, 1) := by decide +kernel
theorem dX12_rests_22 : decode cX12_rests 22 = .ok (.bipush 9, 2) := by decide +kernel
theorem dX12_rests_24 : decode cX12_rests 24 = .ok (.invokestatic 321, 3) := by decide +kernel
theorem dX12_rests_27 : decode cX12_rests 27 = .ok (.ifCond .eq 13, 3) := by decide +kernel
theorem dX12_rests_30 : decode cX12_rests 30 = .ok (.iload 4, 2) := by decide +kernel
theorem dX12_rests_32 : decode cX12_rests 32 = .ok (.iconst (-1), 1) := by decide +kernel
theorem dX12_rests_33 : decode cX12_rests 33 = .ok (.if_icmp .lt 7, 3) := by decide +kernel
theorem dX12_rests_36 : decode cX12_rests 36 = .ok (.iconst 1, 1) := by decide +kernel
theorem dX12_rests_37 : decode cX12_rests 37 = .ok (.goto 4, 3) := by decide +kernel
theorem dX12_rests_40 : decode cX12_rests 40 = .ok (.iconst 0, 1) := by decide +kernel
theorem dX12_rests_41 : decode cX12_rests 41 = .ok (.istore 5, 2) := by decide +kernel
theorem dX12_rests_43 : decode cX12_rests 43 = .ok (.iconst 0, 1) := by decide +kernel
theorem dX12_rests_44 : decode cX12_rests 44 = .ok (.istore 6, 2) := by decide +kernel
theorem dX12_rests_46 : decode cX12_rests 46 = .ok (.iconst (-1), 1) := by decide +kernel
theorem dX12_rests_47 : decode cX12_rests 47 = .ok (.istore 7, 2) := by decide +kernel
theorem dX12_rests_49 : decode cX12_rests 49 = .ok (.iconst 0, 1) := by decide +kernel
theorem dX12_rests_50 : decode cX12_rests 50 = .ok (.istore 8, 2) := by decide +kernel
theorem dX12_rests_52 : decode cX12_rests 52 = .ok (.iload 8, 2) := by decide +kernel
theorem dX12_rests_54 : decode cX12_rests 54 = .ok (.iconst 4, 1) := by decide +kernel
theorem dX12_rests_55 : decode cX12_rests 55 = .ok (.if_icmp .ge 119, 3) := by decide +kernel
theorem dX12_rests_58 : decode cX12_rests 58 = .ok (.iload 5, 2) := by decide +kernel
theorem dX12_rests_60 : decode cX12_rests 60 = .ok (.ifCond .eq 114, 3) := by decide +kernel
theorem dX12_rests_63 : decode cX12_rests 63 = .ok (.iload 8, 2) := by decide +kernel
theorem dX12_rests_65 : decode cX12_rests 65 = .ok (.iconst 2, 1) := by decide +kernel
theorem dX12_rests_66 : decode cX12_rests 66 = .ok (.idiv, 1) := by decide +kernel
theorem dX12_rests_67 : decode cX12_rests 67 = .ok (.istore 9, 2) := by decide +kernel
theorem dX12_rests_69 : decode cX12_rests 69 = .ok (.iload 8, 2) := by decide +kernel
theorem dX12_rests_71 : decode cX12_rests 71 = .ok (.iconst 2, 1) := by decide +kernel
theorem dX12_rests_72 : decode cX12_rests 72 = .ok (.irem, 1) := by decide +kernel
theorem dX12_rests_73 : decode cX12_rests 73 = .ok (.istore 10, 2) := by decide +kernel
theorem dX12_rests_75 : decode cX12_rests 75 = .ok (.iconst 1, 1) := by decide +kernel
theorem dX12_rests_76 : decode cX12_rests 76 = .ok (.iload 9, 2) := by decide +kernel
theorem dX12_rests_78 : decode cX12_rests 78 = .ok (.isub, 1) := by decide +kernel
theorem dX12_rests_79 : decode cX12_rests 79 = .ok (.iload 10, 2) := by decide +kernel
theorem dX12_rests_81 : decode cX12_rests 81 = .ok (.iload_n 1, 1) := by decide +kernel
theorem dX12_rests_82 : decode cX12_rests 82 = .ok (.iload_n 2, 1) := by decide +kernel
theorem dX12_rests_83 : decode cX12_rests 83 = .ok (.iload_n 3, 1) := by decide +kernel
theorem dX12_rests_84 : decode cX12_rests 84 = .ok (.invokestatic 422, 3) := by decide +kernel
theorem dX12_rests_87 : decode cX12_rests 87 = .ok (.iload 9, 2) := by decide +kernel
theorem dX12_rests_89 : decode cX12_rests 89 = .ok (.iload 10, 2) := by decide +kernel
theorem dX12_rests_91 : decode cX12_rests 91 = .ok (.iload_n 1, 1) := by decide +kernel
theorem dX12_rests_92 : decode cX12_rests 92 = .ok (.iload_n 2, 1) := by decide +kernel
theorem dX12_rests_93 : decode cX12_rests 93 = .ok (.iload_n 3, 1) := by decide +kernel
theorem dX12_rests_94 : decode cX12_rests 94 = .ok (.invokestatic 422, 3) := by decide +kernel
theorem dX12_rests_97 : decode cX12_rests 97 = .ok (.if_icmp .gt 32, 3) := by decide +kernel
theorem dX12_rests_100 : decode cX12_rests 100 = .ok (.iconst 1, 1) := by decide +kernel
theorem dX12_rests_101 : decode cX12_rests 101 = .ok (.iload 10, 2) := by decide +kernel
theorem dX12_rests_103 : decode cX12_rests 103 = .ok (.isub, 1) := by decide +kernel
theorem dX12_rests_104 : decode cX12_rests 104 = .ok (.iload 9, 2) := by decide +kernel
theorem dX12_rests_106 : decode cX12_rests 106 = .ok (.iload_n 1, 1) := by decide +kernel
theorem dX12_rests_107 : decode cX12_rests 107 = .ok (.iload_n 2, 1) := by decide +kernel
theorem dX12_rests_108 : decode cX12_rests 108 = .ok (.iload_n 3, 1) := by decide +kernel
theorem dX12_rests_109 : decode cX12_rests 109 = .ok (.invokestatic 422, 3) := by decide +kernel
theorem dX12_rests_112 : decode cX12_rests 112 = .ok (.iload 10, 2) := by decide +kernel
theorem dX12_rests_114 : decode cX12_rests 114 = .ok (.iload 9, 2) := by decide +kernel
theorem dX12_rests_116 : decode cX12_rests 116 = .ok (.iload_n 1, 1) := by decide +kernel
theorem dX12_rests_117 : decode cX12_rests 117 = .ok (.iload_n 2, 1) := by decide +kernel
theorem dX12_rests_118 : decode cX12_rests 118 = .ok (.iload_n 3, 1) := by decide +kernel
theorem dX12_rests_119 : decode cX12_rests 119 = .ok (.invokestatic 422, 3) := by decide +kernel
theorem dX12_rests_122 : decode cX12_rests 122 = .ok (.if_icmp .gt 7, 3) := by decide +kernel
theorem dX12_rests_125 : decode cX12_rests 125 = .ok (.iconst 1, 1) := by decide +kernel
theorem dX12_rests_126 : decode cX12_rests 126 = .ok (.goto 4, 3) := by decide +kernel
theorem dX12_rests_129 : decode cX12_rests 129 = .ok (.iconst 0, 1) := by decide +kernel
theorem dX12_rests_130 : decode cX12_rests 130 = .ok (.istore 11, 2) := by decide +kernel
theorem dX12_rests_132 : decode cX12_rests 132 = .ok (.iload 11, 2) := by decide +kernel
theorem dX12_rests_134 : decode cX12_rests 134 = .ok (.ifCond .eq 15, 3) := by decide +kernel
theorem dX12_rests_137 : decode cX12_rests 137 = .ok (.iload 6, 2) := by decide +kernel
theorem dX12_rests_139 : decode cX12_rests 139 = .ok (.iload 4, 2) := by decide +kernel
theorem dX12_rests_141 : decode cX12_rests 141 = .ok (.if_icmp .ne 8, 3) := by decide +kernel
theorem dX12_rests_144 : decode cX12_rests 144 = .ok (.iload 8, 2) := by decide +kernel
theorem dX12_rests_146 : decode cX12_rests 146 = .ok (.goto 5, 3) := by decide +kernel
theorem dX12_rests_149 : decode cX12_rests 149 = .ok (.iload 7, 2) := by decide +kernel
theorem dX12_rests_151 : decode cX12_rests 151 = .ok (.istore 7, 2) := by decide +kernel
theorem dX12_rests_153 : decode cX12_rests 153 = .ok (.iload 6, 2) := by decide +kernel
theorem dX12_rests_155 : decode cX12_rests 155 = .ok (.iload 11, 2) := by decide +kernel
theorem dX12_rests_157 : decode cX12_rests 157 = .ok (.ifCond .eq 7, 3) := by decide +kernel
theorem dX12_rests_160 : decode cX12_rests 160 = .ok (.iconst 1, 1) := by decide +kernel
theorem dX12_rests_161 : decode cX12_rests 161 = .ok (.goto 4, 3) := by decide +kernel
theorem dX12_rests_164 : decode cX12_rests 164 = .ok (.iconst 0, 1) := by decide +kernel
theorem dX12_rests_165 : decode cX12_rests 165 = .ok (.iadd, 1) := by decide +kernel
theorem dX12_rests_166 : decode cX12_rests 166 = .ok (.istore 6, 2) := by decide +kernel
theorem dX12_rests_168 : decode cX12_rests 168 = .ok (.iinc 8 1, 3) := by decide +kernel
theorem dX12_rests_171 : decode cX12_rests 171 = .ok (.goto (-119), 3) := by decide +kernel
theorem dX12_rests_174 : decode cX12_rests 174 = .ok (.aload_n 0, 1) := by decide +kernel
theorem dX12_rests_175 : decode cX12_rests 175 = .ok (.iload 5, 2) := by decide +kernel
theorem dX12_rests_177 : decode cX12_rests 177 = .ok (.ifCond .eq 17, 3) := by decide +kernel
theorem dX12_rests_180 : decode cX12_rests 180 = .ok (.iload 4, 2) := by decide +kernel
theorem dX12_rests_182 : decode cX12_rests 182 = .ok (.ifCond .lt 8, 3) := by decide +kernel
theorem dX12_rests_185 : decode cX12_rests 185 = .ok (.iload 7, 2) := by decide +kernel
theorem dX12_rests_187 : decode cX12_rests 187 = .ok (.ifCond .lt 7, 3) := by decide +kernel
theorem dX12_rests_190 : decode cX12_rests 190 = .ok (.iconst 0, 1) := by decide +kernel
theorem dX12_rests_191 : decode cX12_rests 191 = .ok (.goto 4, 3) := by decide +kernel
theorem dX12_rests_194 : decode cX12_rests 194 = .ok (.iconst 1, 1) := by decide +kernel
theorem dX12_rests_195 : decode cX12_rests 195 = .ok (.putfield 1, 3) := by decide +kernel
theorem dX12_rests_198 : decode cX12_rests 198 = .ok (.aload_n 0, 1) := by decide +kernel
theorem dX12_rests_199 : decode cX12_rests 199 = .ok (.getfield 1, 3) := by decide +kernel
theorem dX12_rests_202 : decode cX12_rests 202 = .ok (.ifCond .le 7, 3) := by decide +kernel
theorem dX12_rests_205 : decode cX12_rests 205 = .ok (.iconst 0, 1) := by decide +kernel
theorem dX12_rests_206 : decode cX12_rests 206 = .ok (.goto 15, 3) := by decide +kernel
theorem dX12_rests_209 : decode cX12_rests 209 = .ok (.iload 4, 2) := by decide +kernel
theorem dX12_rests_211 : decode cX12_rests 211 = .ok (.ifCond .ge 8, 3) := by decide +kernel
theorem dX12_rests_214 : decode cX12_rests 214 = .ok (.iload 6, 2) := by decide +kernel
theorem dX12_rests_216 : decode cX12_rests 216 = .ok (.goto 5, 3) := by decide +kernel
theorem dX12_rests_219 : decode cX12_rests 219 = .ok (.iload 7, 2) := by decide +kernel
theorem dX12_rests_221 : decode cX12_rests 221 = .ok (.ireturn, 1) := by decide +kernel
theorem dX12_draw_0 : decode cX12_draw 0 = .ok (.aload_n 0, 1) := by decide +kernel
theorem dX12_draw_1 : decode cX12_draw 1 = .ok (.aload_n 0, 1) := by decide +kernel
theorem dX12_draw_2 : decode cX12_draw 2 = .ok (.getfield 426, 3) := by decide +kernel
theorem dX12_draw_5 : decode cX12_draw 5 = .ok (.ldc2_w 430, 3) := by decide +kernel
theorem dX12_draw_8 : decode cX12_draw 8 = .ok (.lmul, 1) := by decide +kernel
theorem dX12_draw_9 : decode cX12_draw 9 = .ok (.ldc2_w 432, 3) := by decide +kernel
theorem dX12_draw_12 : decode cX12_draw 12 = .ok (.ladd, 1) := by decide +kernel
theorem dX12_draw_13 : decode cX12_draw 13 = .ok (.ldc2_w 434, 3) := by decide +kernel
theorem dX12_draw_16 : decode cX12_draw 16 = .ok (.lrem, 1) := by decide +kernel
theorem dX12_draw_17 : decode cX12_draw 17 = .ok (.putfield 426, 3) := by decide +kernel
theorem dX12_draw_20 : decode cX12_draw 20 = .ok (.aload_n 0, 1) := by decide +kernel
theorem dX12_draw_21 : decode cX12_draw 21 = .ok (.getfield 426, 3) := by decide +kernel
theorem dX12_draw_24 : decode cX12_draw 24 = .ok (.ldc2_w 436, 3) := by decide +kernel
theorem dX12_draw_27 : decode cX12_draw 27 = .ok (.ldiv, 1) := by decide +kernel
theorem dX12_draw_28 : decode cX12_draw 28 = .ok (.iload_n 1, 1) := by decide +kernel
theorem dX12_draw_29 : decode cX12_draw 29 = .ok (.i2l, 1) := by decide +kernel
theorem dX12_draw_30 : decode cX12_draw 30 = .ok (.lrem, 1) := by decide +kernel
theorem dX12_draw_31 : decode cX12_draw 31 = .ok (.l2i, 1) := by decide +kernel
theorem dX12_draw_32 : decode cX12_draw 32 = .ok (.ireturn, 1) := by decide +kernel
theorem dX12_isAny_0 : decode cX12_isAny 0 = .ok (.iconst 1, 1) := by decide +kernel
theorem dX12_isAny_1 : decode cX12_isAny 1 = .ok (.istore_n 1, 1) := by decide +kernel
theorem dX12_isAny_2 : decode cX12_isAny 2 = .ok (.iconst 0, 1) := by decide +kernel
theorem dX12_isAny_3 : decode cX12_isAny 3 = .ok (.istore_n 2, 1) := by decide +kernel
theorem dX12_isAny_4 : decode cX12_isAny 4 = .ok (.iload_n 2, 1) := by decide +kernel
theorem dX12_isAny_5 : decode cX12_isAny 5 = .ok (.aload_n 0, 1) := by decide +kernel
theorem dX12_isAny_6 : decode cX12_isAny 6 = .ok (.invokevirtual 266, 3) := by decide +kernel
theorem dX12_isAny_9 : decode cX12_isAny 9 = .ok (.if_icmp .ge 28, 3) := by decide +kernel
theorem dX12_isAny_12 : decode cX12_isAny 12 = .ok (.iload_n 1, 1) := by decide +kernel
theorem dX12_isAny_13 : decode cX12_isAny 13 = .ok (.ifCond .eq 16, 3) := by decide +kernel
theorem dX12_isAny_16 : decode cX12_isAny 16 = .ok (.aload_n 0, 1) := by decide +kernel
theorem dX12_isAny_17 : decode cX12_isAny 17 = .ok (.getfield 113, 3) := by decide +kernel
theorem dX12_isAny_20 : decode cX12_isAny 20 = .ok (.iload_n 2, 1) := by decide +kernel
theorem dX12_isAny_21 : decode cX12_isAny 21 = .ok (.iaload, 1) := by decide +kernel
theorem dX12_isAny_22 : decode cX12_isAny 22 = .ok (.ifCond .le 7, 3) := by decide +kernel
theorem dX12_isAny_25 : decode cX12_isAny 25 = .ok (.iconst 1, 1) := by decide +kernel
theorem dX12_isAny_26 : decode cX12_isAny 26 = .ok (.goto 4, 3) := by decide +kernel
theorem dX12_isAny_29 : decode cX12_isAny 29 = .ok (.iconst 0, 1) := by decide +kernel
theorem dX12_isAny_30 : decode cX12_isAny 30 = .ok (.istore_n 1, 1) := by decide +kernel
theorem dX12_isAny_31 : decode cX12_isAny 31 = .ok (.iinc 2 1, 3) := by decide +kernel
theorem dX12_isAny_34 : decode cX12_isAny 34 = .ok (.goto (-30), 3) := by decide +kernel
theorem dX12_isAny_37 : decode cX12_isAny 37 = .ok (.iload_n 1, 1) := by decide +kernel
theorem dX12_isAny_38 : decode cX12_isAny 38 = .ok (.ireturn, 1) := by decide +kernel
theorem dX12_drawsOne_0 : decode cX12_drawsOne 0 = .ok (.iconst 1, 1) := by decide +kernel
theorem dX12_drawsOne_1 : decode cX12_drawsOne 1 = .ok (.istore_n 1, 1) := by decide +kernel
theorem dX12_drawsOne_2 : decode cX12_drawsOne 2 = .ok (.iconst 0, 1) := by decide +kernel
theorem dX12_drawsOne_3 : decode cX12_drawsOne 3 = .ok (.istore_n 2, 1) := by decide +kernel
theorem dX12_drawsOne_4 : decode cX12_drawsOne 4 = .ok (.iload_n 2, 1) := by decide +kernel
theorem dX12_drawsOne_5 : decode cX12_drawsOne 5 = .ok (.aload_n 0, 1) := by decide +kernel
theorem dX12_drawsOne_6 : decode cX12_drawsOne 6 = .ok (.invokevirtual 266, 3) := by decide +kernel
theorem dX12_drawsOne_9 : decode cX12_drawsOne 9 = .ok (.if_icmp .ge 109, 3) := by decide +kernel
theorem dX12_drawsOne_12 : decode cX12_drawsOne 12 = .ok (.aload_n 0, 1) := by decide +kernel
theorem dX12_drawsOne_13 : decode cX12_drawsOne 13 = .ok (.aload_n 0, 1) := by decide +kernel
theorem dX12_drawsOne_14 : decode cX12_drawsOne 14 = .ok (.getfield 113, 3) := by decide +kernel
theorem dX12_drawsOne_17 : decode cX12_drawsOne 17 = .ok (.iload_n 2, 1) := by decide +kernel
theorem dX12_drawsOne_18 : decode cX12_drawsOne 18 = .ok (.iaload, 1) := by decide +kernel
theorem dX12_drawsOne_19 : decode cX12_drawsOne 19 = .ok (.invokevirtual 438, 3) := by decide +kernel
theorem dX12_drawsOne_22 : decode cX12_drawsOne 22 = .ok (.istore_n 3, 1) := by decide +kernel
theorem dX12_drawsOne_23 : decode cX12_drawsOne 23 = .ok (.iconst 0, 1) := by decide +kernel
theorem dX12_drawsOne_24 : decode cX12_drawsOne 24 = .ok (.istore 4, 2) := by decide +kernel
theorem dX12_drawsOne_26 : decode cX12_drawsOne 26 = .ok (.aload_n 0, 1) := by decide +kernel
theorem dX12_drawsOne_27 : decode cX12_drawsOne 27 = .ok (.getfield 110, 3) := by decide +kernel
theorem dX12_drawsOne_30 : decode cX12_drawsOne 30 = .ok (.bipush 9, 2) := by decide +kernel
theorem dX12_drawsOne_32 : decode cX12_drawsOne 32 = .ok (.iload_n 2, 1) := by decide +kernel
theorem dX12_drawsOne_33 : decode cX12_drawsOne 33 = .ok (.imul, 1) := by decide +kernel
theorem dX12_drawsOne_34 : decode cX12_drawsOne 34 = .ok (.iload 4, 2) := by decide +kernel
theorem dX12_drawsOne_36 : decode cX12_drawsOne 36 = .ok (.iadd, 1) := by decide +kernel
theorem dX12_drawsOne_37 : decode cX12_drawsOne 37 = .ok (.baload, 1) := by decide +kernel
theorem dX12_drawsOne_38 : decode cX12_drawsOne 38 = .ok (.ifCond .eq 7, 3) := by decide +kernel
theorem dX12_drawsOne_41 : decode cX12_drawsOne 41 = .ok (.iload_n 3, 1) := by decide +kernel
theorem dX12_drawsOne_42 : decode cX12_drawsOne 42 = .ok (.ifCond .le 32, 3) := by decide +kernel
theorem dX12_drawsOne_45 : decode cX12_drawsOne 45 = .ok (.iload_n 3, 1) := by decide +kernel
theorem dX12_drawsOne_46 : decode cX12_drawsOne 46 = .ok (.aload_n 0, 1) := by decide +kernel
theorem dX12_drawsOne_47 : decode cX12_drawsOne 47 = .ok (.getfield 110, 3) := by decide +kernel
theorem dX12_drawsOne_50 : decode cX12_drawsOne 50 = .ok (.bipush 9, 2) := by decide +kernel
theorem dX12_drawsOne_52 : decode cX12_drawsOne 52 = .ok (.iload_n 2, 1) := by decide +kernel
theorem dX12_drawsOne_53 : decode cX12_drawsOne 53 = .ok (.imul, 1) := by decide +kernel
theorem dX12_drawsOne_54 : decode cX12_drawsOne 54 = .ok (.iload 4, 2) := by decide +kernel
theorem dX12_drawsOne_56 : decode cX12_drawsOne 56 = .ok (.iadd, 1) := by decide +kernel
theorem dX12_drawsOne_57 : decode cX12_drawsOne 57 = .ok (.baload, 1) := by decide +kernel
theorem dX12_drawsOne_58 : decode cX12_drawsOne 58 = .ok (.ifCond .eq 7, 3) := by decide +kernel
theorem dX12_drawsOne_61 : decode cX12_drawsOne 61 = .ok (.iconst 1, 1) := by decide +kernel
theorem dX12_drawsOne_62 : decode cX12_drawsOne 62 = .ok (.goto 4, 3) := by decide +kernel
theorem dX12_drawsOne_65 : decode cX12_drawsOne 65 = .ok (.iconst 0, 1) := by decide +kernel
theorem dX12_drawsOne_66 : decode cX12_drawsOne 66 = .ok (.isub, 1) := by decide +kernel
theorem dX12_drawsOne_67 : decode cX12_drawsOne 67 = .ok (.istore_n 3, 1) := by decide +kernel
theorem dX12_drawsOne_68 : decode cX12_drawsOne 68 = .ok (.iinc 4 1, 3) := by decide +kernel
theorem dX12_drawsOne_71 : decode cX12_drawsOne 71 = .ok (.goto (-45), 3) := by decide +kernel
theorem dX12_drawsOne_74 : decode cX12_drawsOne 74 = .ok (.aload_n 0, 1) := by decide +kernel
theorem dX12_drawsOne_75 : decode cX12_drawsOne 75 = .ok (.getfield 122, 3) := by decide +kernel
theorem dX12_drawsOne_78 : decode cX12_drawsOne 78 = .ok (.iload_n 2, 1) := by decide +kernel
theorem dX12_drawsOne_79 : decode cX12_drawsOne 79 = .ok (.iload 4, 2) := by decide +kernel
theorem dX12_drawsOne_81 : decode cX12_drawsOne 81 = .ok (.iastore, 1) := by decide +kernel
theorem dX12_drawsOne_82 : decode cX12_drawsOne 82 = .ok (.iload_n 1, 1) := by decide +kernel
theorem dX12_drawsOne_83 : decode cX12_drawsOne 83 = .ok (.ifCond .eq 27, 3) := by decide +kernel
theorem dX12_drawsOne_86 : decode cX12_drawsOne 86 = .ok (.aload_n 0, 1) := by decide +kernel
theorem dX12_drawsOne_87 : decode cX12_drawsOne 87 = .ok (.getfield 103, 3) := by decide +kernel
theorem dX12_drawsOne_90 : decode cX12_drawsOne 90 = .ok (.iload_n 2, 1) := by decide +kernel
theorem dX12_drawsOne_91 : decode cX12_drawsOne 91 = .ok (.iaload, 1) := by decide +kernel
theorem dX12_drawsOne_92 : decode cX12_drawsOne 92 = .ok (.ifCond .lt 14, 3) := by decide +kernel
theorem dX12_drawsOne_95 : decode cX12_drawsOne 95 = .ok (.aload_n 0, 1) := by decide +kernel
theorem dX12_drawsOne_96 : decode cX12_drawsOne 96 = .ok (.getfield 103, 3) := by decide +kernel
theorem dX12_drawsOne_99 : decode cX12_drawsOne 99 = .ok (.iload_n 2, 1) := by decide +kernel
theorem dX12_drawsOne_100 : decode cX12_drawsOne 100 = .ok (.iaload, 1) := by decide +kernel
theorem dX12_drawsOne_101 : decode cX12_drawsOne 101 = .ok (.iload 4, 2) := by decide +kernel
theorem dX12_drawsOne_103 : decode cX12_drawsOne 103 = .ok (.if_icmp .ne 7, 3) := by decide +kernel
theorem dX12_drawsOne_106 : decode cX12_drawsOne 106 = .ok (.iconst 1, 1) := by decide +kernel
theorem dX12_drawsOne_107 : decode cX12_drawsOne 107 = .ok (.goto 4, 3) := by decide +kernel
theorem dX12_drawsOne_110 : decode cX12_drawsOne 110 = .ok (.iconst 0, 1) := by decide +kernel
theorem dX12_drawsOne_111 : decode cX12_drawsOne 111 = .ok (.istore_n 1, 1) := by decide +kernel
theorem dX12_drawsOne_112 : decode cX12_drawsOne 112 = .ok (.iinc 2 1, 3) := by decide +kernel
theorem dX12_drawsOne_115 : decode cX12_drawsOne 115 = .ok (.goto (-111), 3) := by decide +kernel
theorem dX12_drawsOne_118 : decode cX12_drawsOne 118 = .ok (.aload_n 0, 1) := by decide +kernel
theorem dX12_drawsOne_119 : decode cX12_drawsOne 119 = .ok (.invokevirtual 367, 3) := by decide +kernel
theorem dX12_drawsOne_122 : decode cX12_drawsOne 122 = .ok (.iload_n 1, 1) := by decide +kernel
theorem dX12_drawsOne_123 : decode cX12_drawsOne 123 = .ok (.ireturn, 1) := by decide +kernel
theorem dX12_drafts_0 : decode cX12_drafts 0 = .ok (.aload_n 0, 1) := by decide +kernel
theorem dX12_drafts_1 : decode cX12_drafts 1 = .ok (.iconst 0, 1) := by decide +kernel
theorem dX12_drafts_2 : decode cX12_drafts 2 = .ok (.putfield 1, 3) := by decide +kernel
theorem dX12_drafts_5 : decode cX12_drafts 5 = .ok (.iload_n 1, 1) := by decide +kernel
theorem dX12_drafts_6 : decode cX12_drafts 6 = .ok (.iconst 0, 1) := by decide +kernel
theorem dX12_drafts_7 : decode cX12_drafts 7 = .ok (.sipush 9999, 3) := by decide +kernel
theorem dX12_drafts_10 : decode cX12_drafts 10 = .ok (.invokestatic 321, 3) := by decide +kernel
theorem dX12_drafts_13 : decode cX12_drafts 13 = .ok (.ifCond .eq 22, 3) := by decide +kernel
theorem dX12_drafts_16 : decode cX12_drafts 16 = .ok (.iload_n 2, 1) := by decide +kernel
theorem dX12_drafts_17 : decode cX12_drafts 17 = .ok (.iconst 1, 1) := by decide +kernel
theorem dX12_drafts_18 : decode cX12_drafts 18 = .ok (.bipush 99, 2) := by decide +kernel
theorem dX12_drafts_20 : decode cX12_drafts 20 = .ok (.invokestatic 321, 3) := by decide +kernel
theorem dX12_drafts_23 : decode cX12_drafts 23 = .ok (.ifCond .eq 12, 3) := by decide +kernel
theorem dX12_drafts_26 : decode cX12_drafts 26 = .ok (.iload_n 3, 1) := by decide +kernel
theorem dX12_drafts_27 : decode cX12_drafts 27 = .ok (.iconst 0, 1) := by decide +kernel
theorem dX12_drafts_28 : decode cX12_drafts 28 = .ok (.iconst 2, 1) := by decide +kernel
theorem dX12_drafts_29 : decode cX12_drafts 29 = .ok (.invokestatic 321, 3) := by decide +kernel
theorem dX12_drafts_32 : decode cX12_drafts 32 = .ok (.ifCond .ne 6, 3) := by decide +kernel
theorem dX12_drafts_35 : decode cX12_drafts 35 = .ok (.bipush (-2), 2) := by decide +kernel
theorem dX12_drafts_37 : decode cX12_drafts 37 = .ok (.ireturn, 1) := by decide +kernel
theorem dX12_drafts_38 : decode cX12_drafts 38 = .ok (.aload_n 0, 1) := by decide +kernel
theorem dX12_drafts_39 : decode cX12_drafts 39 = .ok (.iload_n 1, 1) := by decide +kernel
theorem dX12_drafts_40 : decode cX12_drafts 40 = .ok (.i2l, 1) := by decide +kernel
theorem dX12_drafts_41 : decode cX12_drafts 41 = .ok (.putfield 426, 3) := by decide +kernel
theorem dX12_drafts_44 : decode cX12_drafts 44 = .ok (.iconst 0, 1) := by decide +kernel
theorem dX12_drafts_45 : decode cX12_drafts 45 = .ok (.istore 4, 2) := by decide +kernel
theorem dX12_drafts_47 : decode cX12_drafts 47 = .ok (.iconst 0, 1) := by decide +kernel
theorem dX12_drafts_48 : decode cX12_drafts 48 = .ok (.istore 5, 2) := by decide +kernel
theorem dX12_drafts_50 : decode cX12_drafts 50 = .ok (.iconst (-1), 1) := by decide +kernel
theorem dX12_drafts_51 : decode cX12_drafts 51 = .ok (.istore 6, 2) := by decide +kernel
theorem dX12_drafts_53 : decode cX12_drafts 53 = .ok (.iconst 0, 1) := by decide +kernel
theorem dX12_drafts_54 : decode cX12_drafts 54 = .ok (.istore 7, 2) := by decide +kernel
theorem dX12_drafts_56 : decode cX12_drafts 56 = .ok (.iload 7, 2) := by decide +kernel
theorem dX12_drafts_58 : decode cX12_drafts 58 = .ok (.iload_n 2, 1) := by decide +kernel
theorem dX12_drafts_59 : decode cX12_drafts 59 = .ok (.if_icmp .ge 94, 3) := by decide +kernel
theorem dX12_drafts_62 : decode cX12_drafts 62 = .ok (.aload_n 0, 1) := by decide +kernel
theorem dX12_drafts_63 : decode cX12_drafts 63 = .ok (.invokevirtual 441, 3) := by decide +kernel
theorem dX12_drafts_66 : decode cX12_drafts 66 = .ok (.ifCond .eq 87, 3) := by decide +kernel
theorem dX12_drafts_69 : decode cX12_drafts 69 = .ok (.aload_n 0, 1) := by decide +kernel
theorem dX12_drafts_70 : decode cX12_drafts 70 = .ok (.invokevirtual 444, 3) := by decide +kernel
theorem dX12_drafts_73 : decode cX12_drafts 73 = .ok (.ifCond .eq 25, 3) := by decide +kernel
theorem dX12_drafts_76 : decode cX12_drafts 76 = .ok (.aload_n 0, 1) := by decide +kernel
theorem dX12_drafts_77 : decode cX12_drafts 77 = .ok (.getfield 349, 3) := by decide +kernel
theorem dX12_drafts_80 : decode cX12_drafts 80 = .ok (.aload_n 0, 1) := by decide +kernel
theorem dX12_drafts_81 : decode cX12_drafts 81 = .ok (.invokevirtual 373, 3) := by decide +kernel
theorem dX12_drafts_84 : decode cX12_drafts 84 = .ok (.if_icmp .ne 14, 3) := by decide +kernel
theorem dX12_drafts_87 : decode cX12_drafts 87 = .ok (.aload_n 0, 1) := by decide +kernel
theorem dX12_drafts_88 : decode cX12_drafts 88 = .ok (.getfield 352, 3) := by decide +kernel
theorem dX12_drafts_91 : decode cX12_drafts 91 = .ok (.ifCond .ne 7, 3) := by decide +kernel
theorem dX12_drafts_94 : decode cX12_drafts 94 = .ok (.iconst 1, 1) := by decide +kernel
theorem dX12_drafts_95 : decode cX12_drafts 95 = .ok (.goto 4, 3) := by decide +kernel
theorem dX12_drafts_98 : decode cX12_drafts 98 = .ok (.iconst 0, 1) := by decide +kernel
theorem dX12_drafts_99 : decode cX12_drafts 99 = .ok (.istore 8, 2) := by decide +kernel
theorem dX12_drafts_101 : decode cX12_drafts 101 = .ok (.iload 4, 2) := by decide +kernel
theorem dX12_drafts_103 : decode cX12_drafts 103 = .ok (.iload 8, 2) := by decide +kernel
theorem dX12_drafts_105 : decode cX12_drafts 105 = .ok (.ifCond .eq 7, 3) := by decide +kernel
theorem dX12_drafts_108 : decode cX12_drafts 108 = .ok (.iconst 1, 1) := by decide +kernel
theorem dX12_drafts_109 : decode cX12_drafts 109 = .ok (.goto 4, 3) := by decide +kernel
theorem dX12_drafts_112 : decode cX12_drafts 112 = .ok (.iconst 0, 1) := by decide +kernel
theorem dX12_drafts_113 : decode cX12_drafts 113 = .ok (.iadd, 1) := by decide +kernel
theorem dX12_drafts_114 : decode cX12_drafts 114 = .ok (.istore 4, 2) := by decide +kernel
theorem dX12_drafts_116 : decode cX12_drafts 116 = .ok (.iload 5, 2) := by decide +kernel
theorem dX12_drafts_118 : decode cX12_drafts 118 = .ok (.aload_n 0, 1) := by decide +kernel
theorem dX12_drafts_119 : decode cX12_drafts 119 = .ok (.getfield 349, 3) := by decide +kernel
theorem dX12_drafts_122 : decode cX12_drafts 122 = .ok (.invokestatic 376, 3) := by decide +kernel
theorem dX12_drafts_125 : decode cX12_drafts 125 = .ok (.iadd, 1) := by decide +kernel
theorem dX12_drafts_126 : decode cX12_drafts 126 = .ok (.istore 5, 2) := by decide +kernel
theorem dX12_drafts_128 : decode cX12_drafts 128 = .ok (.iload 8, 2) := by decide +kernel
theorem dX12_drafts_130 : decode cX12_drafts 130 = .ok (.ifCond .eq 13, 3) := by decide +kernel
theorem dX12_drafts_133 : decode cX12_drafts 133 = .ok (.iload 6, 2) := by decide +kernel
theorem dX12_drafts_135 : decode cX12_drafts 135 = .ok (.ifCond .ge 8, 3) := by decide +kernel
theorem dX12_drafts_138 : decode cX12_drafts 138 = .ok (.iload 7, 2) := by decide +kernel
theorem dX12_drafts_140 : decode cX12_drafts 140 = .ok (.goto 5, 3) := by decide +kernel
theorem dX12_drafts_143 : decode cX12_drafts 143 = .ok (.iload 6, 2) := by decide +kernel
theorem dX12_drafts_145 : decode cX12_drafts 145 = .ok (.istore 6, 2) := by decide +kernel
theorem dX12_drafts_147 : decode cX12_drafts 147 = .ok (.iinc 7 1, 3) := by decide +kernel
theorem dX12_drafts_150 : decode cX12_drafts 150 = .ok (.goto (-94), 3) := by decide +kernel
theorem dX12_drafts_153 : decode cX12_drafts 153 = .ok (.iload_n 3, 1) := by decide +kernel
theorem dX12_drafts_154 : decode cX12_drafts 154 = .ok (.ifCond .ne 8, 3) := by decide +kernel
theorem dX12_drafts_157 : decode cX12_drafts 157 = .ok (.iload 4, 2) := by decide +kernel
theorem dX12_drafts_159 : decode cX12_drafts 159 = .ok (.goto 15, 3) := by decide +kernel
theorem dX12_drafts_162 : decode cX12_drafts 162 = .ok (.iload_n 3, 1) := by decide +kernel
theorem dX12_drafts_163 : decode cX12_drafts 163 = .ok (.iconst 1, 1) := by decide +kernel
theorem dX12_drafts_164 : decode cX12_drafts 164 = .ok (.if_icmp .ne 8, 3) := by decide +kernel
theorem dX12_drafts_167 : decode cX12_drafts 167 = .ok (.iload 5, 2) := by decide +kernel
theorem dX12_drafts_169 : decode cX12_drafts 169 = .ok (.goto 5, 3) := by decide +kernel
theorem dX12_drafts_172 : decode cX12_drafts 172 = .ok (.iload 6, 2) := by decide +kernel
theorem dX12_drafts_174 : decode cX12_drafts 174 = .ok (.ireturn, 1) := by decide +kernel
theorem dX12_mark_0 : decode cX12_mark 0 = .ok (.aload_n 0, 1) := by decide +kernel
theorem dX12_mark_1 : decode cX12_mark 1 = .ok (.iconst 0, 1) := by decide +kernel
theorem dX12_mark_2 : decode cX12_mark 2 = .ok (.putfield 1, 3) := by decide +kernel
theorem dX12_mark_5 : decode cX12_mark 5 = .ok (.iload_n 1, 1) := by decide +kernel
theorem dX12_mark_6 : decode cX12_mark 6 = .ok (.iconst 0, 1) := by decide +kernel
theorem dX12_mark_7 : decode cX12_mark 7 = .ok (.iconst 3, 1) := by decide +kernel
theorem dX12_mark_8 : decode cX12_mark 8 = .ok (.invokestatic 321, 3) := by decide +kernel
theorem dX12_mark_11 : decode cX12_mark 11 = .ok (.ifCond .eq 16, 3) := by decide +kernel
theorem dX12_mark_14 : decode cX12_mark 14 = .ok (.iload_n 2, 1) := by decide +kernel
theorem dX12_mark_15 : decode cX12_mark 15 = .ok (.ifCond .eq 14, 3) := by decide +kernel
theorem dX12_mark_18 : decode cX12_mark 18 = .ok (.aload_n 0, 1) := by decide +kernel
theorem dX12_mark_19 : decode cX12_mark 19 = .ok (.getfield 106, 3) := by decide +kernel
theorem dX12_mark_22 : decode cX12_mark 22 = .ok (.iload_n 1, 1) := by decide +kernel
theorem dX12_mark_23 : decode cX12_mark 23 = .ok (.baload, 1) := by decide +kernel
theorem dX12_mark_24 : decode cX12_mark 24 = .ok (.ifCond .ne 5, 3) := by decide +kernel
theorem dX12_mark_27 : decode cX12_mark 27 = .ok (.iconst 0, 1) := by decide +kernel
theorem dX12_mark_28 : decode cX12_mark 28 = .ok (.ireturn, 1) := by decide +kernel
theorem dX12_mark_29 : decode cX12_mark 29 = .ok (.aload_n 0, 1) := by decide +kernel
theorem dX12_mark_30 : decode cX12_mark 30 = .ok (.getfield 106, 3) := by decide +kernel
theorem dX12_mark_33 : decode cX12_mark 33 = .ok (.iload_n 1, 1) := by decide +kernel
theorem dX12_mark_34 : decode cX12_mark 34 = .ok (.iconst 1, 1) := by decide +kernel
theorem dX12_mark_35 : decode cX12_mark 35 = .ok (.bastore, 1) := by decide +kernel
theorem dX12_mark_36 : decode cX12_mark 36 = .ok (.aload_n 0, 1) := by decide +kernel
theorem dX12_mark_37 : decode cX12_mark 37 = .ok (.iload_n 2, 1) := by decide +kernel
theorem dX12_mark_38 : decode cX12_mark 38 = .ok (.ifCond .eq 12, 3) := by decide +kernel
theorem dX12_mark_41 : decode cX12_mark 41 = .ok (.bipush 12, 2) := by decide +kernel
theorem dX12_mark_43 : decode cX12_mark 43 = .ok (.iconst 1, 1) := by decide +kernel
theorem dX12_mark_44 : decode cX12_mark 44 = .ok (.iload_n 1, 1) := by decide +kernel
theorem dX12_mark_45 : decode cX12_mark 45 = .ok (.iadd, 1) := by decide +kernel
theorem dX12_mark_46 : decode cX12_mark 46 = .ok (.imul, 1) := by decide +kernel
theorem dX12_mark_47 : decode cX12_mark 47 = .ok (.goto 4, 3) := by decide +kernel
theorem dX12_mark_50 : decode cX12_mark 50 = .ok (.iconst 0, 1) := by decide +kernel
theorem dX12_mark_51 : decode cX12_mark 51 = .ok (.iload_n 2, 1) := by decide +kernel
theorem dX12_mark_52 : decode cX12_mark 52 = .ok (.ifCond .eq 7, 3) := by decide +kernel
theorem dX12_mark_55 : decode cX12_mark 55 = .ok (.iconst 0, 1) := by decide +kernel
theorem dX12_mark_56 : decode cX12_mark 56 = .ok (.goto 9, 3) := by decide +kernel
theorem dX12_mark_59 : decode cX12_mark 59 = .ok (.bipush 12, 2) := by decide +kernel
theorem dX12_mark_61 : decode cX12_mark 61 = .ok (.iconst 1, 1) := by decide +kernel
theorem dX12_mark_62 : decode cX12_mark 62 = .ok (.iload_n 1, 1) := by decide +kernel
theorem dX12_mark_63 : decode cX12_mark 63 = .ok (.iadd, 1) := by decide +kernel
theorem dX12_mark_64 : decode cX12_mark 64 = .ok (.imul, 1) := by decide +kernel
theorem dX12_mark_65 : decode cX12_mark 65 = .ok (.bipush 12, 2) := by decide +kernel
theorem dX12_mark_67 : decode cX12_mark 67 = .ok (.invokevirtual 308, 3) := by decide +kernel
theorem dX12_mark_70 : decode cX12_mark 70 = .ok (.aload_n 0, 1) := by decide +kernel
theorem dX12_mark_71 : decode cX12_mark 71 = .ok (.iload_n 2, 1) := by decide +kernel
theorem dX12_mark_72 : decode cX12_mark 72 = .ok (.ifCond .eq 7, 3) := by decide +kernel
theorem dX12_mark_75 : decode cX12_mark 75 = .ok (.iconst 0, 1) := by decide +kernel
theorem dX12_mark_76 : decode cX12_mark 76 = .ok (.goto 7, 3) := by decide +kernel
theorem dX12_mark_79 : decode cX12_mark 79 = .ok (.aload_n 0, 1) := by decide +kernel
theorem dX12_mark_80 : decode cX12_mark 80 = .ok (.getfield 305, 3) := by decide +kernel
theorem dX12_mark_83 : decode cX12_mark 83 = .ok (.putfield 305, 3) := by decide +kernel
theorem dX12_mark_86 : decode cX12_mark 86 = .ok (.iconst 1, 1) := by decide +kernel
theorem dX12_mark_87 : decode cX12_mark 87 = .ok (.ireturn, 1) := by decide +kernel
theorem dX12_meanings0_0 : decode cX12_meanings0 0 = .ok (.iconst 1, 1) := by decide +kernel
theorem dX12_meanings0_1 : decode cX12_meanings0 1 = .ok (.istore_n 1, 1) := by decide +kernel
theorem dX12_meanings0_2 : decode cX12_meanings0 2 = .ok (.iconst 0, 1) := by decide +kernel
theorem dX12_meanings0_3 : decode cX12_meanings0 3 = .ok (.istore_n 2, 1) := by decide +kernel
theorem dX12_meanings0_4 : decode cX12_meanings0 4 = .ok (.iload_n 2, 1) := by decide +kernel
theorem dX12_meanings0_5 : decode cX12_meanings0 5 = .ok (.aload_n 0, 1) := by decide +kernel
theorem dX12_meanings0_6 : decode cX12_meanings0 6 = .ok (.invokevirtual 266, 3) := by decide +kernel
theorem dX12_meanings0_9 : decode cX12_meanings0 9 = .ok (.if_icmp .ge 18, 3) := by decide +kernel
theorem dX12_meanings0_12 : decode cX12_meanings0 12 = .ok (.iload_n 1, 1) := by decide +kernel
theorem dX12_meanings0_13 : decode cX12_meanings0 13 = .ok (.aload_n 0, 1) := by decide +kernel
theorem dX12_meanings0_14 : decode cX12_meanings0 14 = .ok (.getfield 113, 3) := by decide +kernel
theorem dX12_meanings0_17 : decode cX12_meanings0 17 = .ok (.iload_n 2, 1) := by decide +kernel
theorem dX12_meanings0_18 : decode cX12_meanings0 18 = .ok (.iaload, 1) := by decide +kernel
theorem dX12_meanings0_19 : decode cX12_meanings0 19 = .ok (.imul, 1) := by decide +kernel
theorem dX12_meanings0_20 : decode cX12_meanings0 20 = .ok (.istore_n 1, 1) := by decide +kernel
theorem dX12_meanings0_21 : decode cX12_meanings0 21 = .ok (.iinc 2 1, 3) := by decide +kernel
theorem dX12_meanings0_24 : decode cX12_meanings0 24 = .ok (.goto (-20), 3) := by decide +kernel
theorem dX12_meanings0_27 : decode cX12_meanings0 27 = .ok (.iload_n 1, 1) := by decide +kernel
theorem dX12_meanings0_28 : decode cX12_meanings0 28 = .ok (.ireturn, 1) := by decide +kernel
theorem dX12_count_0 : decode cX12_count 0 = .ok (.aload_n 0, 1) := by decide +kernel
theorem dX12_count_1 : decode cX12_count 1 = .ok (.iconst 0, 1) := by decide +kernel
theorem dX12_count_2 : decode cX12_count 2 = .ok (.putfield 1, 3) := by decide +kernel
theorem dX12_count_5 : decode cX12_count 5 = .ok (.iconst 0, 1) := by decide +kernel
theorem dX12_count_6 : decode cX12_count 6 = .ok (.istore_n 2, 1) := by decide +kernel
theorem dX12_count_7 : decode cX12_count 7 = .ok (.iload_n 1, 1) := by decide +kernel
theorem dX12_count_8 : decode cX12_count 8 = .ok (.tableswitch 167 0 8 #[52, 57, 62, 69, 106, 145, 150, 157, 162], 52) := by decide +kernel
theorem dX12_count_60 : decode cX12_count 60 = .ok (.aload_n 0, 1) := by decide +kernel
theorem dX12_count_61 : decode cX12_count 61 = .ok (.invokevirtual 266, 3) := by decide +kernel
theorem dX12_count_64 : decode cX12_count 64 = .ok (.ireturn, 1) := by decide +kernel
theorem dX12_count_65 : decode cX12_count 65 = .ok (.aload_n 0, 1) := by decide +kernel
theorem dX12_count_66 : decode cX12_count 66 = .ok (.invokevirtual 270, 3) := by decide +kernel
theorem dX12_count_69 : decode cX12_count 69 = .ok (.ireturn, 1) := by decide +kernel
theorem dX12_count_70 : decode cX12_count 70 = .ok (.aload_n 0, 1) := by decide +kernel
theorem dX12_count_71 : decode cX12_count 71 = .ok (.getfield 79, 3) := by decide +kernel
theorem dX12_count_74 : decode cX12_count 74 = .ok (.iconst 1, 1) := by decide +kernel
theorem dX12_count_75 : decode cX12_count 75 = .ok (.iaload, 1) := by decide +kernel
theorem dX12_count_76 : decode cX12_count 76 = .ok (.ireturn, 1) := by decide +kernel
theorem dX12_count_77 : decode cX12_count 77 = .ok (.iconst 0, 1) := by decide +kernel
theorem dX12_count_78 : decode cX12_count 78 = .ok (.istore_n 3, 1) := by decide +kernel
theorem dX12_count_79 : decode cX12_count 79 = .ok (.iload_n 3, 1) := by decide +kernel
theorem dX12_count_80 : decode cX12_count 80 = .ok (.aload_n 0, 1) := by decide +kernel
theorem dX12_count_81 : decode cX12_count 81 = .ok (.invokevirtual 266, 3) := by decide +kernel
theorem dX12_count_84 : decode cX12_count 84 = .ok (.if_icmp .ge 28, 3) := by decide +kernel
theorem dX12_count_87 : decode cX12_count 87 = .ok (.iload_n 2, 1) := by decide +kernel
theorem dX12_count_88 : decode cX12_count 88 = .ok (.aload_n 0, 1) := by decide +kernel
theorem dX12_count_89 : decode cX12_count 89 = .ok (.getfield 103, 3) := by decide +kernel
theorem dX12_count_92 : decode cX12_count 92 = .ok (.iload_n 3, 1) := by decide +kernel
theorem dX12_count_93 : decode cX12_count 93 = .ok (.iaload, 1) := by decide +kernel
theorem dX12_count_94 : decode cX12_count 94 = .ok (.ifCond .lt 9, 3) := by decide +kernel
theorem dX12_count_97 : decode cX12_count 97 = .ok (.iconst 1, 1) := by decide +kernel
theorem dX12_count_98 : decode cX12_count 98 = .ok (.iload_n 3, 1) := by decide +kernel
theorem dX12_count_99 : decode cX12_count 99 = .ok (.ishl, 1) := by decide +kernel
theorem dX12_count_100 : decode cX12_count 100 = .ok (.goto 4, 3) := by decide +kernel
theorem dX12_count_103 : decode cX12_count 103 = .ok (.iconst 0, 1) := by decide +kernel
theorem dX12_count_104 : decode cX12_count 104 = .ok (.ior, 1) := by decide +kernel
theorem dX12_count_105 : decode cX12_count 105 = .ok (.istore_n 2, 1) := by decide +kernel
theorem dX12_count_106 : decode cX12_count 106 = .ok (.iinc 3 1, 3) := by decide +kernel
theorem dX12_count_109 : decode cX12_count 109 = .ok (.goto (-30), 3) := by decide +kernel
theorem dX12_count_112 : decode cX12_count 112 = .ok (.iload_n 2, 1) := by decide +kernel
theorem dX12_count_113 : decode cX12_count 113 = .ok (.ireturn, 1) := by decide +kernel
theorem dX12_count_114 : decode cX12_count 114 = .ok (.iconst 0, 1) := by decide +kernel
theorem dX12_count_115 : decode cX12_count 115 = .ok (.istore_n 3, 1) := by decide +kernel
theorem dX12_count_116 : decode cX12_count 116 = .ok (.iload_n 3, 1) := by decide +kernel
theorem dX12_count_117 : decode cX12_count 117 = .ok (.aload_n 0, 1) := by decide +kernel
theorem dX12_count_118 : decode cX12_count 118 = .ok (.invokevirtual 270, 3) := by decide +kernel
theorem dX12_count_121 : decode cX12_count 121 = .ok (.if_icmp .ge 30, 3) := by decide +kernel
theorem dX12_count_124 : decode cX12_count 124 = .ok (.iload_n 2, 1) := by decide +kernel
theorem dX12_count_125 : decode cX12_count 125 = .ok (.aload_n 0, 1) := by decide +kernel
theorem dX12_count_126 : decode cX12_count 126 = .ok (.getfield 103, 3) := by decide +kernel
theorem dX12_count_129 : decode cX12_count 129 = .ok (.iconst 4, 1) := by decide +kernel
theorem dX12_count_130 : decode cX12_count 130 = .ok (.iload_n 3, 1) := by decide +kernel
theorem dX12_count_131 : decode cX12_count 131 = .ok (.iadd, 1) := by decide +kernel
theorem dX12_count_132 : decode cX12_count 132 = .ok (.iaload, 1) := by decide +kernel
theorem dX12_count_133 : decode cX12_count 133 = .ok (.ifCond .lt 9, 3) := by decide +kernel
theorem dX12_count_136 : decode cX12_count 136 = .ok (.iconst 1, 1) := by decide +kernel
theorem dX12_count_137 : decode cX12_count 137 = .ok (.iload_n 3, 1) := by decide +kernel
theorem dX12_count_138 : decode cX12_count 138 = .ok (.ishl, 1) := by decide +kernel
theorem dX12_count_139 : decode cX12_count 139 = .ok (.goto 4, 3) := by decide +kernel
theorem dX12_count_142 : decode cX12_count 142 = .ok (.iconst 0, 1) := by decide +kernel
theorem dX12_count_143 : decode cX12_count 143 = .ok (.ior, 1) := by decide +kernel
theorem dX12_count_144 : decode cX12_count 144 = .ok (.istore_n 2, 1) := by decide +kernel
theorem dX12_count_145 : decode cX12_count 145 = .ok (.iinc 3 1, 3) := by decide +kernel
theorem dX12_count_148 : decode cX12_count 148 = .ok (.goto (-32), 3) := by decide +kernel
theorem dX12_count_151 : decode cX12_count 151 = .ok (.iload_n 2, 1) := by decide +kernel
theorem dX12_count_152 : decode cX12_count 152 = .ok (.ireturn, 1) := by decide +kernel
theorem dX12_count_153 : decode cX12_count 153 = .ok (.aload_n 0, 1) := by decide +kernel
theorem dX12_count_154 : decode cX12_count 154 = .ok (.invokevirtual 447, 3) := by decide +kernel
theorem dX12_count_157 : decode cX12_count 157 = .ok (.ireturn, 1) := by decide +kernel
theorem dX12_count_158 : decode cX12_count 158 = .ok (.aload_n 0, 1) := by decide +kernel
theorem dX12_count_159 : decode cX12_count 159 = .ok (.getfield 94, 3) := by decide +kernel
theorem dX12_count_162 : decode cX12_count 162 = .ok (.iconst 0, 1) := by decide +kernel
theorem dX12_count_163 : decode cX12_count 163 = .ok (.iaload, 1) := by decide +kernel
theorem dX12_count_164 : decode cX12_count 164 = .ok (.ireturn, 1) := by decide +kernel
theorem dX12_count_165 : decode cX12_count 165 = .ok (.aload_n 0, 1) := by decide +kernel
theorem dX12_count_166 : decode cX12_count 166 = .ok (.getfield 305, 3) := by decide +kernel
theorem dX12_count_169 : decode cX12_count 169 = .ok (.ireturn, 1) := by decide +kernel
theorem dX12_count_170 : decode cX12_count 170 = .ok (.aload_n 0, 1) := by decide +kernel
theorem dX12_count_171 : decode cX12_count 171 = .ok (.getfield 11, 3) := by decide +kernel
theorem dX12_count_174 : decode cX12_count 174 = .ok (.ireturn, 1) := by decide +kernel
theorem dX12_count_175 : decode cX12_count 175 = .ok (.iconst (-1), 1) := by decide +kernel
theorem dX12_count_176 : decode cX12_count 176 = .ok (.ireturn, 1) := by decide +kernel
theorem zq_188 : Cond.fieldLink RX12 146 "ForeignKnitModel" "instead" "[I" ∈ zG := List.mem_of_getElem? (i := 188) (by decide +kernel)
theorem zq_1444 : Cond.methodLink RX12 405 yX12_misprintsNow ∈ zG := List.mem_of_getElem? (i := 1444) (by decide +kernel)
theorem zq_1448 : Cond.methodLink RX12 402 yX12_fitsWith ∈ zG := List.mem_of_getElem? (i := 1448) (by decide +kernel)
theorem zq_1555 : Cond.methodLink RX12 422 yX12_getsBy ∈ zG := List.mem_of_getElem? (i := 1555) (by decide +kernel)
theorem zq_1581 : Cond.fieldLink RX12 426 "ForeignKnitModel" "g" "J" ∈ zG := List.mem_of_getElem? (i := 1581) (by decide +kernel)
theorem zq_1582 : Cond.methodLink RX12 441 yX12_isAny ∈ zG := List.mem_of_getElem? (i := 1582) (by decide +kernel)
theorem zq_1586 : Cond.methodLink RX12 444 yX12_drawsOne ∈ zG := List.mem_of_getElem? (i := 1586) (by decide +kernel)
theorem zq_1590 : Cond.methodLink RX12 438 yX12_draw ∈ zG := List.mem_of_getElem? (i := 1590) (by decide +kernel)
theorem zq_1594 : Cond.constantLong RX12 430 (1103515245) ∈ zG := List.mem_of_getElem? (i := 1594) (by decide +kernel)
theorem zq_1595 : Cond.constantLong RX12 432 (12345) ∈ zG := List.mem_of_getElem? (i := 1595) (by decide +kernel)
theorem zq_1596 : Cond.constantLong RX12 434 (2147483648) ∈ zG := List.mem_of_getElem? (i := 1596) (by decide +kernel)
theorem zq_1597 : Cond.constantLong RX12 436 (65536) ∈ zG := List.mem_of_getElem? (i := 1597) (by decide +kernel)
theorem zq_1621 : Cond.methodLink RX12 447 yX12_meanings0 ∈ zG := List.mem_of_getElem? (i := 1621) (by decide +kernel)
theorem zfd_X12_146 : zFd RX12 146 12 40 := ⟨_, rfl, by decide, zq_188⟩
theorem zfd_X12_426 : zFd RX12 426 12 42 := ⟨_, rfl, by decide, zq_1581⟩
theorem zfp_X12_426 : zFp RX12 426 12 42 .long := ⟨_, rfl, by decide, zq_1581, rfl, by decide +kernel⟩
theorem zq_1593 : Cond.code yX12_draw cX12_draw 2 (some .int) ∈ zG := List.mem_of_getElem? (i := 1593) (by decide +kernel)
theorem zq_1591 : Cond.instanceMethod yX12_draw ∈ zG := List.mem_of_getElem? (i := 1591) (by decide +kernel)
theorem zq_1592 : Cond.selects RX12 yX12_draw yX12_draw ∈ zG := List.mem_of_getElem? (i := 1592) (by decide +kernel)
theorem zy_X12_draw : zyV yX12_draw cX12_draw 2 (some .int) 1 := ⟨zq_1593, zq_1591, zq_1592, zq_5, ⟨by decide, by decide⟩, by decide +kernel, by decide⟩
theorem zq_1589 : Cond.code yX12_drawsOne cX12_drawsOne 5 (some .boolean) ∈ zG := List.mem_of_getElem? (i := 1589) (by decide +kernel)
theorem zq_1587 : Cond.instanceMethod yX12_drawsOne ∈ zG := List.mem_of_getElem? (i := 1587) (by decide +kernel)
theorem zq_1588 : Cond.selects RX12 yX12_drawsOne yX12_drawsOne ∈ zG := List.mem_of_getElem? (i := 1588) (by decide +kernel)
theorem zy_X12_drawsOne : zyV yX12_drawsOne cX12_drawsOne 5 (some .boolean) 0 := ⟨zq_1589, zq_1587, zq_1588, zq_5, ⟨by decide, by decide⟩, by decide +kernel, by decide⟩
theorem zq_1451 : Cond.code yX12_fitsWith cX12_fitsWith 6 (some .boolean) ∈ zG := List.mem_of_getElem? (i := 1451) (by decide +kernel)
theorem zq_1449 : Cond.instanceMethod yX12_fitsWith ∈ zG := List.mem_of_getElem? (i := 1449) (by decide +kernel)
theorem zq_1450 : Cond.selects RX12 yX12_fitsWith yX12_fitsWith ∈ zG := List.mem_of_getElem? (i := 1450) (by decide +kernel)
theorem zy_X12_fitsWith : zyV yX12_fitsWith cX12_fitsWith 6 (some .boolean) 3 := ⟨zq_1451, zq_1449, zq_1450, zq_5, ⟨by decide, by decide⟩, by decide +kernel, by decide⟩
theorem zq_1585 : Cond.code yX12_isAny cX12_isAny 3 (some .boolean) ∈ zG := List.mem_of_getElem? (i := 1585) (by decide +kernel)
theorem zq_1583 : Cond.instanceMethod yX12_isAny ∈ zG := List.mem_of_getElem? (i := 1583) (by decide +kernel)
theorem zq_1584 : Cond.selects RX12 yX12_isAny yX12_isAny ∈ zG := List.mem_of_getElem? (i := 1584) (by decide +kernel)
theorem zy_X12_isAny : zyV yX12_isAny cX12_isAny 3 (some .boolean) 0 := ⟨zq_1585, zq_1583, zq_1584, zq_5, ⟨by decide, by decide⟩, by decide +kernel, by decide⟩
theorem zq_1624 : Cond.code yX12_meanings0 cX12_meanings0 3 (some .int) ∈ zG := List.mem_of_getElem? (i := 1624) (by decide +kernel)
theorem zq_1622 : Cond.instanceMethod yX12_meanings0 ∈ zG := List.mem_of_getElem? (i := 1622) (by decide +kernel)
theorem zq_1623 : Cond.selects RX12 yX12_meanings0 yX12_meanings0 ∈ zG := List.mem_of_getElem? (i := 1623) (by decide +kernel)
theorem zy_X12_meanings0 : zyV yX12_meanings0 cX12_meanings0 3 (some .int) 0 := ⟨zq_1624, zq_1622, zq_1623, zq_5, ⟨by decide, by decide⟩, by decide +kernel, by decide⟩
theorem zq_1447 : Cond.code yX12_misprintsNow cX12_misprintsNow 4 none ∈ zG := List.mem_of_getElem? (i := 1447) (by decide +kernel)
theorem zq_1445 : Cond.instanceMethod yX12_misprintsNow ∈ zG := List.mem_of_getElem? (i := 1445) (by decide +kernel)
theorem zq_1446 : Cond.selects RX12 yX12_misprintsNow yX12_misprintsNow ∈ zG := List.mem_of_getElem? (i := 1446) (by decide +kernel)
theorem zy_X12_misprintsNow : zyV yX12_misprintsNow cX12_misprintsNow 4 none 0 := ⟨zq_1447, zq_1445, zq_1446, zq_5, ⟨by decide, by decide⟩, by decide +kernel, by decide⟩
theorem zq_1557 : Cond.code yX12_getsBy cX12_getsBy 5 (some .int) ∈ zG := List.mem_of_getElem? (i := 1557) (by decide +kernel)
theorem zq_1556 : Cond.static yX12_getsBy ∈ zG := List.mem_of_getElem? (i := 1556) (by decide +kernel)
theorem zy_X12_getsBy : zyS yX12_getsBy cX12_getsBy 5 (some .int) 5 := ⟨zq_1557, zq_1556, zq_5, ⟨by decide, by decide⟩, by decide +kernel, by decide⟩
theorem zf_240 : zfix 240 = true := by decide +kernel
theorem zs_240 : zsh 240 = 20 := by decide +kernel
theorem zl_240 : zln 240 = 32 := by decide +kernel
section ZM
variable {p : Program} {l : Launch} {e : Env} {R : Room} {s : State} {m : MethodId} {args : Array Value} {below : List Frame} {meth : Method} {c : Code} {cells slots : Nat} {Q : State → Prop} {D : va_G} {dA : Nat → ClassId} {ad ad0 : Nat → Nat} {al al0 : Nat → Prop}
/-! X12_idle -/
def fX12_idle_J33 (k : Int32 → zW → Prop) (g9 : Int32 → Int32 → zW → Prop) (x2 : Int32) (t0 : Int32) (t1 : Int32) (w : zW) : Prop :=
  ∀ v6 : Int32, v6 = t1 ||| t0 →
  g9 v6 (x2 + (1 : Int32)) w
set_option maxHeartbeats 4000000 in
set_option maxRecDepth 100000 in
theorem mX12_idle_J33 {k : Int32 → zW → Prop} {g9 : Int32 → Int32 → zW → Prop} (X : zCx p s m args meth c cX12_idle 3 RX12 (some .int)) (hr : zRm R 2 cells slots) (hQ : zRetI p l e R s m args below meth c cells slots Q D dA true ad0 al0 ad al cX12_idle k) (hg9 : ∀ (x1 : Int32) (x2 : Int32) (w : zW) (H : Heap) (locs : List Loc) (ls : Array Slot), g9 x1 x2 w → zSt D dA true ad0 al0 ad al w s H locs → lv_has ls 3 [(0, .ref (ad 200)), (1, .int x1), (2, .int x2)] → W p l e R s m args below meth c H locs cells slots Q (F0 m 9 ls [])) {x2 : Int32} {t0 : Int32} {t1 : Int32} {w : zW} {H : Heap} {locs : List Loc} {ls : Array Slot} (hf : fX12_idle_J33 k g9 x2 t0 t1 w) (hR : zSt D dA true ad0 al0 ad al w s H locs) (hl : lv_has ls 3 [(0, .ref (ad 200)), (2, .int x2)]) : W p l e R s m args below meth c H locs cells slots Q (F0 m 33 ls [.int t0, .int t1]) := by
  have hx := X.1
  have hb := X.2.1
  have hml := X.2.2.1
  have hown := X.2.2.2.1
  have hts := X.2.2.2.2.1
  unfold fX12_idle_J33 at hf
  refine lv_ior hx hb dX12_idle_33 ?_
  refine lv_topi (fun v6 hv6 => ?_)
  replace hf := hf v6 hv6
  refine lv_istore_n (lv' := [(1, .int v6), (0, .ref (ad 200)), (2, .int x2)]) hx hb dX12_idle_34 rfl hl (by decide) rfl (fun ls hl => ?_)
  refine lv_iinc (v := x2 + (1 : Int32)) (lv' := [(2, .int (x2 + (1 : Int32))), (1, .int v6), (0, .ref (ad 200))]) hx hb dX12_idle_35 hl (k := 2) rfl rfl (by decide) rfl (fun ls hl => ?_)
  refine lv_goto (tgt := 9) hx hb dX12_idle_38 (by decide) ?_
  exact hg9 v6 (x2 + (1 : Int32)) w _ _ _ hf hR (lv_sub hl [2, 1, 0] rfl)
def fX12_idle_L9 (k : Int32 → zW → Prop) : Nat → Int32 → Int32 → zW → Prop
  | 0 => fun _ _ _ => False
  | n + 1 => fun x1 x2 w =>
    fX12_wordsTold  w (fun r2 w2 =>
    ((r2 ≤ x2 →
      k x1 w2) ∧
     (¬ r2 ≤ x2 →
      fX12_usesOf x2 w2 (fun r4 w4 =>
      ∀ v5 : Int32, v5 = (if ¬ r4 = 0 then (0 : Int32) else ((1 : Int32) <<< (x2 &&& 31))) →
      fX12_idle_J33 k (fX12_idle_L9 k n) x2 v5 x1 w4))))
set_option maxHeartbeats 4000000 in
set_option maxRecDepth 100000 in
theorem mX12_idle_L9 {k : Int32 → zW → Prop} (X : zCx p s m args meth c cX12_idle 3 RX12 (some .int)) (hr : zRm R 2 cells slots) (hQ : zRetI p l e R s m args below meth c cells slots Q D dA true ad0 al0 ad al cX12_idle k)  : ∀ (n : Nat) (x1 : Int32) (x2 : Int32) (w : zW) (H : Heap) (locs : List Loc) (ls : Array Slot), fX12_idle_L9 k n x1 x2 w → zSt D dA true ad0 al0 ad al w s H locs → lv_has ls 3 [(0, .ref (ad 200)), (1, .int x1), (2, .int x2)] → W p l e R s m args below meth c H locs cells slots Q (F0 m 9 ls []) := by
  intro n
  induction n with
  | zero => exact fun _ _ _ _ _ _ hf => hf.elim
  | succ n ih =>
    intro x1 x2 w H locs ls hf hR hl
    have hx := X.1
    have hb := X.2.1
    have hml := X.2.2.1
    have hown := X.2.2.2.1
    have hts := X.2.2.2.2.1
    rw [fX12_idle_L9] at hf
    refine lv_iload_n hx hb dX12_idle_9 rfl (lv_at hl 2 rfl) ?_
    refine lv_aload_n hx hb dX12_idle_10 rfl (lv_at hl 0 rfl) ?_
    refine z_callVI (fr1 := 0) (b := 200) (As := []) (rest := [.int x2]) X (hr.le (by decide)) hR zy_X12_wordsTold zq_211 (zlit hR zf_200) (by rw [zs_200]; rfl) rfl (mX12_wordsTold  hf) rfl hl (Nat.le_of_ble_eq_true rfl) dX12_idle_11 rfl (fun r2 w2 H locs hf hR => ?_)
    refine lv_icmp_ge (tgt := 41) hx hb dX12_idle_14 (by decide) (fun c3 => ?_) (fun c3 => ?_)
    · replace hf := hf.1 c3
      refine lv_iload_n hx hb dX12_idle_41 rfl (lv_at hl 1 rfl) ?_
      exact hQ _ _ _ _ _ _ hf hR dX12_idle_42
    · replace hf := hf.2 c3
      refine lv_iload_n hx hb dX12_idle_17 rfl (lv_at hl 1 rfl) ?_
      refine lv_aload_n hx hb dX12_idle_18 rfl (lv_at hl 0 rfl) ?_
      refine lv_iload_n hx hb dX12_idle_19 rfl (lv_at hl 2 rfl) ?_
      refine z_callVI (fr1 := 1) (b := 200) (As := [.int x2]) (rest := [.int x1]) X (hr.le (by decide)) hR zy_X12_usesOf zq_219 (zlit hR zf_200) (by rw [zs_200]; rfl) rfl (mX12_usesOf  hf) rfl hl (Nat.le_of_ble_eq_true rfl) dX12_idle_20 rfl (fun r4 w4 H locs hf hR => ?_)
      have kJ5 : ∀ v5 : Int32, v5 = (if ¬ r4 = 0 then (0 : Int32) else ((1 : Int32) <<< (x2 &&& 31))) → W p l e R s m args below meth c H locs cells slots Q (F0 m 33 ls (.int v5 :: .int x1 :: [])) := by
        intro v5 hv5
        replace hf := hf v5 hv5
        exact mX12_idle_J33 X hr hQ ih hf hR (lv_sub hl [0, 2] rfl)
      refine lv_if_ne (tgt := 32) hx hb dX12_idle_23 (by decide) (fun c5 => ?_) (fun c5 => ?_)
      · refine lv_iconst (v := (0 : Int32)) hx hb dX12_idle_32 (by decide) ?_
        exact kJ5 _ (if_pos c5).symm
      · refine lv_iconst (v := (1 : Int32)) hx hb dX12_idle_26 (by decide) ?_
        refine lv_iload_n hx hb dX12_idle_27 rfl (lv_at hl 2 rfl) ?_
        refine lv_ishl hx hb dX12_idle_28 ?_
        refine lv_goto (tgt := 33) hx hb dX12_idle_29 (by decide) ?_
        exact kJ5 _ (if_neg (fun h9 => h9 c5)).symm
def fX12_idle (w : zW) (k : Int32 → zW → Prop) : Prop :=
  ∀ w1 : zW, w1 = sI w 200 0 (0 : Int32) →
  ∃ n9, fX12_idle_L9 k n9 (0 : Int32) (0 : Int32) w1
set_option maxHeartbeats 4000000 in
set_option maxRecDepth 100000 in
theorem mX12_idle {l : Launch} {D : va_G} {dA : Nat → ClassId} {ad : Nat → Nat} {al : Nat → Prop} {w : zW} {k : Int32 → zW → Prop}   (hf : fX12_idle w k) : zmetI l yX12_idle cX12_idle 3 (some .int) 2 [.ref (ad 200)] D dA true ad al w k := by
  refine zmetI_of (by decide) (Nat.le_of_ble_eq_true rfl) ?_
  intro p e R s m below meth c Q H ls args locs cells slots X hr hQ hR hl
  have hx := X.1
  have hb := X.2.1
  have hml := X.2.2.1
  have hown := X.2.2.2.1
  have hts := X.2.2.2.2.1
  unfold fX12_idle at hf
  have hl : lv_has ls 3 [(0, .ref (ad 200))] := hl
  refine lv_aload_n hx hb dX12_idle_0 rfl (lv_at hl 0 rfl) ?_
  refine lv_iconst (v := (0 : Int32)) hx hb dX12_idle_1 (by decide) ?_
  refine z_putI X hR (zlit hR zf_200) zs_200 (by decide) zfp_X12_1 rfl dX12_idle_2 (fun H locs hR => ?_)
  obtain ⟨w1, hw1⟩ : ∃ z : zW, z = sI w 200 0 (0 : Int32) := ⟨_, rfl⟩
  rw [← hw1] at hR
  replace hf := hf w1 hw1
  refine lv_iconst (v := (0 : Int32)) hx hb dX12_idle_5 (by decide) ?_
  refine lv_istore_n (lv' := [(1, .int (0 : Int32)), (0, .ref (ad 200))]) hx hb dX12_idle_6 rfl hl (by decide) rfl (fun ls hl => ?_)
  refine lv_iconst (v := (0 : Int32)) hx hb dX12_idle_7 (by decide) ?_
  refine lv_istore_n (lv' := [(2, .int (0 : Int32)), (1, .int (0 : Int32)), (0, .ref (ad 200))]) hx hb dX12_idle_8 rfl hl (by decide) rfl (fun ls hl => ?_)
  obtain ⟨n9, hf⟩ := hf
  exact mX12_idle_L9 X hr hQ  n9 (0 : Int32) (0 : Int32) w1 _ _ _ hf hR (lv_sub hl [2, 1, 0] rfl)
/-! X12_drops -/
def fX12_drops (w : zW) (k : Int32 → zW → Prop) : Prop :=
  ∀ w1 : zW, w1 = sI w 200 0 (0 : Int32) →
  fX12_gathers  w1 (fun w2 =>
  k (gI w2 200 33) w2)
set_option maxHeartbeats 4000000 in
set_option maxRecDepth 100000 in
theorem mX12_drops {l : Launch} {D : va_G} {dA : Nat → ClassId} {ad : Nat → Nat} {al : Nat → Prop} {w : zW} {k : Int32 → zW → Prop}   (hf : fX12_drops w k) : zmetI l yX12_drops cX12_drops 1 (some .int) 4 [.ref (ad 200)] D dA true ad al w k := by
  refine zmetI_of (by decide) (Nat.le_of_ble_eq_true rfl) ?_
  intro p e R s m below meth c Q H ls args locs cells slots X hr hQ hR hl
  have hx := X.1
  have hb := X.2.1
  have hml := X.2.2.1
  have hown := X.2.2.2.1
  have hts := X.2.2.2.2.1
  unfold fX12_drops at hf
  have hl : lv_has ls 1 [(0, .ref (ad 200))] := hl
  refine lv_aload_n hx hb dX12_drops_0 rfl (lv_at hl 0 rfl) ?_
  refine lv_iconst (v := (0 : Int32)) hx hb dX12_drops_1 (by decide) ?_
  refine z_putI X hR (zlit hR zf_200) zs_200 (by decide) zfp_X12_1 rfl dX12_drops_2 (fun H locs hR => ?_)
  obtain ⟨w1, hw1⟩ : ∃ z : zW, z = sI w 200 0 (0 : Int32) := ⟨_, rfl⟩
  rw [← hw1] at hR
  replace hf := hf w1 hw1
  refine lv_aload_n hx hb dX12_drops_5 rfl (lv_at hl 0 rfl) ?_
  refine z_callVV (fr1 := 3) (b := 200) (As := []) (rest := []) X (hr.le (by decide)) hR zy_X12_gathers zq_1065 (zlit hR zf_200) (by rw [zs_200]; rfl) rfl (mX12_gathers  hf) rfl hl (Nat.le_of_ble_eq_true rfl) dX12_drops_6 rfl (fun w2 H locs hf hR => ?_)
  refine lv_aload_n hx hb dX12_drops_9 rfl (lv_at hl 0 rfl) ?_
  refine z_getI X hR (zlit hR zf_200) zs_200 (by decide) zfd_X12_355 rfl dX12_drops_10 ?_
  exact hQ _ _ _ _ _ _ hf hR dX12_drops_13
/-! X12_spare -/
def fX12_spare_J47 (k : Int32 → zW → Prop) (g13 : Int32 → Int32 → zW → Prop) (x2 : Int32) (t0 : Int32) (t1 : Int32) (w : zW) : Prop :=
  ∀ v7 : Int32, v7 = t1 + t0 →
  g13 v7 (x2 + (1 : Int32)) w
set_option maxHeartbeats 4000000 in
set_option maxRecDepth 100000 in
theorem mX12_spare_J47 {k : Int32 → zW → Prop} {g13 : Int32 → Int32 → zW → Prop} (X : zCx p s m args meth c cX12_spare 3 RX12 (some .int)) (hr : zRm R 4 cells slots) (hQ : zRetI p l e R s m args below meth c cells slots Q D dA true ad0 al0 ad al cX12_spare k) (hg13 : ∀ (x1 : Int32) (x2 : Int32) (w : zW) (H : Heap) (locs : List Loc) (ls : Array Slot), g13 x1 x2 w → zSt D dA true ad0 al0 ad al w s H locs → lv_has ls 3 [(0, .ref (ad 200)), (1, .int x1), (2, .int x2)] → W p l e R s m args below meth c H locs cells slots Q (F0 m 13 ls [])) {x2 : Int32} {t0 : Int32} {t1 : Int32} {w : zW} {H : Heap} {locs : List Loc} {ls : Array Slot} (hf : fX12_spare_J47 k g13 x2 t0 t1 w) (hR : zSt D dA true ad0 al0 ad al w s H locs) (hl : lv_has ls 3 [(0, .ref (ad 200)), (2, .int x2)]) : W p l e R s m args below meth c H locs cells slots Q (F0 m 47 ls [.int t0, .int t1]) := by
  have hx := X.1
  have hb := X.2.1
  have hml := X.2.2.1
  have hown := X.2.2.2.1
  have hts := X.2.2.2.2.1
  unfold fX12_spare_J47 at hf
  refine lv_iadd hx hb dX12_spare_47 ?_
  refine lv_topi (fun v7 hv7 => ?_)
  replace hf := hf v7 hv7
  refine lv_istore_n (lv' := [(1, .int v7), (0, .ref (ad 200)), (2, .int x2)]) hx hb dX12_spare_48 rfl hl (by decide) rfl (fun ls hl => ?_)
  refine lv_iinc (v := x2 + (1 : Int32)) (lv' := [(2, .int (x2 + (1 : Int32))), (1, .int v7), (0, .ref (ad 200))]) hx hb dX12_spare_49 hl (k := 2) rfl rfl (by decide) rfl (fun ls hl => ?_)
  refine lv_goto (tgt := 13) hx hb dX12_spare_52 (by decide) ?_
  exact hg13 v7 (x2 + (1 : Int32)) w _ _ _ hf hR (lv_sub hl [2, 1, 0] rfl)
def fX12_spare_L13 (k : Int32 → zW → Prop) : Nat → Int32 → Int32 → zW → Prop
  | 0 => fun _ _ _ => False
  | n + 1 => fun x1 x2 w =>
    fX12_rows  w (fun r3 w3 =>
    ((r3 ≤ x2 →
      k x1 w3) ∧
     (¬ r3 ≤ x2 →
      vp_in ((4 : Int32) + x2) 252 ∧ 
      (((gI w3 220 ((4 : Int32) + x2).toNatClampNeg) < 0 →
        fX12_spare_J47 k (fX12_spare_L13 k n) x2 (0 : Int32) x1 w3) ∧
       (¬ (gI w3 220 ((4 : Int32) + x2).toNatClampNeg) < 0 →
        vp_in x2 8 ∧ 
        ∀ v9 : Int32, v9 = (if ¬ (gI w3 238 x2.toNatClampNeg) = 0 then (0 : Int32) else (1 : Int32)) →
        fX12_spare_J47 k (fX12_spare_L13 k n) x2 v9 x1 w3)))))
set_option maxHeartbeats 4000000 in
set_option maxRecDepth 100000 in
theorem mX12_spare_L13 {k : Int32 → zW → Prop} (X : zCx p s m args meth c cX12_spare 3 RX12 (some .int)) (hr : zRm R 4 cells slots) (hQ : zRetI p l e R s m args below meth c cells slots Q D dA true ad0 al0 ad al cX12_spare k)  : ∀ (n : Nat) (x1 : Int32) (x2 : Int32) (w : zW) (H : Heap) (locs : List Loc) (ls : Array Slot), fX12_spare_L13 k n x1 x2 w → zSt D dA true ad0 al0 ad al w s H locs → lv_has ls 3 [(0, .ref (ad 200)), (1, .int x1), (2, .int x2)] → W p l e R s m args below meth c H locs cells slots Q (F0 m 13 ls []) := by
  intro n
  induction n with
  | zero => exact fun _ _ _ _ _ _ hf => hf.elim
  | succ n ih =>
    intro x1 x2 w H locs ls hf hR hl
    have hx := X.1
    have hb := X.2.1
    have hml := X.2.2.1
    have hown := X.2.2.2.1
    have hts := X.2.2.2.2.1
    rw [fX12_spare_L13] at hf
    refine lv_iload_n hx hb dX12_spare_13 rfl (lv_at hl 2 rfl) ?_
    refine lv_aload_n hx hb dX12_spare_14 rfl (lv_at hl 0 rfl) ?_
    refine z_callVI (fr1 := 0) (b := 200) (As := []) (rest := [.int x2]) X (hr.le (by decide)) hR zy_X12_rows zq_199 (zlit hR zf_200) (by rw [zs_200]; rfl) rfl (mX12_rows  hf) rfl hl (Nat.le_of_ble_eq_true rfl) dX12_spare_15 rfl (fun r3 w3 H locs hf hR => ?_)
    refine lv_icmp_ge (tgt := 55) hx hb dX12_spare_18 (by decide) (fun c4 => ?_) (fun c4 => ?_)
    · replace hf := hf.1 c4
      refine lv_iload_n hx hb dX12_spare_55 rfl (lv_at hl 1 rfl) ?_
      exact hQ _ _ _ _ _ _ hf hR dX12_spare_56
    · replace hf := hf.2 c4
      refine lv_iload_n hx hb dX12_spare_21 rfl (lv_at hl 1 rfl) ?_
      refine lv_aload_n hx hb dX12_spare_22 rfl (lv_at hl 0 rfl) ?_
      refine z_getS X hR (zlit hR zf_200) zs_200 (by decide) zfd_X12_103 rfl (r := 220) (by decide +kernel) dX12_spare_23 ?_
      refine lv_iconst (v := (4 : Int32)) hx hb dX12_spare_26 (by decide) ?_
      refine lv_iload_n hx hb dX12_spare_27 rfl (lv_at hl 2 rfl) ?_
      refine lv_iadd hx hb dX12_spare_28 ?_
      obtain ⟨hb5, hf⟩ := hf
      refine z_iald X hR (zlit hR zf_220) zs_220 zl_220 hb5 dX12_spare_29 ?_
      refine lv_if_lt (tgt := 46) hx hb dX12_spare_30 (by decide) (fun c6 => ?_) (fun c6 => ?_)
      · replace hf := hf.1 c6
        refine lv_iconst (v := (0 : Int32)) hx hb dX12_spare_46 (by decide) ?_
        exact mX12_spare_J47 X hr hQ ih hf hR (lv_sub hl [0, 2] rfl)
      · replace hf := hf.2 c6
        refine lv_aload_n hx hb dX12_spare_33 rfl (lv_at hl 0 rfl) ?_
        refine z_getS X hR (zlit hR zf_200) zs_200 (by decide) zfd_X12_140 rfl (r := 238) (by decide +kernel) dX12_spare_34 ?_
        refine lv_iload_n hx hb dX12_spare_37 rfl (lv_at hl 2 rfl) ?_
        obtain ⟨hb8, hf⟩ := hf
        refine z_iald X hR (zlit hR zf_238) zs_238 zl_238 hb8 dX12_spare_38 ?_
        have kJ9 : ∀ v9 : Int32, v9 = (if ¬ (gI w3 238 x2.toNatClampNeg) = 0 then (0 : Int32) else (1 : Int32)) → W p l e R s m args below meth c H locs cells slots Q (F0 m 47 ls (.int v9 :: .int x1 :: [])) := by
          intro v9 hv9
          replace hf := hf v9 hv9
          exact mX12_spare_J47 X hr hQ ih hf hR (lv_sub hl [0, 2] rfl)
        refine lv_if_ne (tgt := 46) hx hb dX12_spare_39 (by decide) (fun c9 => ?_) (fun c9 => ?_)
        · refine lv_iconst (v := (0 : Int32)) hx hb dX12_spare_46 (by decide) ?_
          exact kJ9 _ (if_pos c9).symm
        · refine lv_iconst (v := (1 : Int32)) hx hb dX12_spare_42 (by decide) ?_
          refine lv_goto (tgt := 47) hx hb dX12_spare_43 (by decide) ?_
          exact kJ9 _ (if_neg (fun h9 => h9 c9)).symm
def fX12_spare (w : zW) (k : Int32 → zW → Prop) : Prop :=
  ∀ w1 : zW, w1 = sI w 200 0 (0 : Int32) →
  fX12_gathers  w1 (fun w2 =>
  ∃ n9, fX12_spare_L13 k n9 (0 : Int32) (0 : Int32) w2)
set_option maxHeartbeats 4000000 in
set_option maxRecDepth 100000 in
theorem mX12_spare {l : Launch} {D : va_G} {dA : Nat → ClassId} {ad : Nat → Nat} {al : Nat → Prop} {w : zW} {k : Int32 → zW → Prop}   (hf : fX12_spare w k) : zmetI l yX12_spare cX12_spare 3 (some .int) 4 [.ref (ad 200)] D dA true ad al w k := by
  refine zmetI_of (by decide) (Nat.le_of_ble_eq_true rfl) ?_
  intro p e R s m below meth c Q H ls args locs cells slots X hr hQ hR hl
  have hx := X.1
  have hb := X.2.1
  have hml := X.2.2.1
  have hown := X.2.2.2.1
  have hts := X.2.2.2.2.1
  unfold fX12_spare at hf
  have hl : lv_has ls 3 [(0, .ref (ad 200))] := hl
  refine lv_aload_n hx hb dX12_spare_0 rfl (lv_at hl 0 rfl) ?_
  refine lv_iconst (v := (0 : Int32)) hx hb dX12_spare_1 (by decide) ?_
  refine z_putI X hR (zlit hR zf_200) zs_200 (by decide) zfp_X12_1 rfl dX12_spare_2 (fun H locs hR => ?_)
  obtain ⟨w1, hw1⟩ : ∃ z : zW, z = sI w 200 0 (0 : Int32) := ⟨_, rfl⟩
  rw [← hw1] at hR
  replace hf := hf w1 hw1
  refine lv_aload_n hx hb dX12_spare_5 rfl (lv_at hl 0 rfl) ?_
  refine z_callVV (fr1 := 3) (b := 200) (As := []) (rest := []) X (hr.le (by decide)) hR zy_X12_gathers zq_1065 (zlit hR zf_200) (by rw [zs_200]; rfl) rfl (mX12_gathers  hf) rfl hl (Nat.le_of_ble_eq_true rfl) dX12_spare_6 rfl (fun w2 H locs hf hR => ?_)
  refine lv_iconst (v := (0 : Int32)) hx hb dX12_spare_9 (by decide) ?_
  refine lv_istore_n (lv' := [(1, .int (0 : Int32)), (0, .ref (ad 200))]) hx hb dX12_spare_10 rfl hl (by decide) rfl (fun ls hl => ?_)
  refine lv_iconst (v := (0 : Int32)) hx hb dX12_spare_11 (by decide) ?_
  refine lv_istore_n (lv' := [(2, .int (0 : Int32)), (1, .int (0 : Int32)), (0, .ref (ad 200))]) hx hb dX12_spare_12 rfl hl (by decide) rfl (fun ls hl => ?_)
  obtain ⟨n9, hf⟩ := hf
  exact mX12_spare_L13 X hr hQ  n9 (0 : Int32) (0 : Int32) w2 _ _ _ hf hR (lv_sub hl [2, 1, 0] rfl)
/-! X12_strict -/
def fX12_strict (x1 : Int32) (w : zW) (k : Int32 → zW → Prop) : Prop :=
  ∀ w1 : zW, w1 = sI w 200 0 (0 : Int32) →
  fX12_gathers  w1 (fun w2 =>
  fX12_isRow x1 w2 (fun r3 w3 =>
  ((r3 = 0 →
    k (-1 : Int32) w3) ∧
   (¬ r3 = 0 →
    vp_in x1 8 ∧ 
    k (gI w3 239 x1.toNatClampNeg) w3))))
set_option maxHeartbeats 4000000 in
set_option maxRecDepth 100000 in
theorem mX12_strict {l : Launch} {D : va_G} {dA : Nat → ClassId} {ad : Nat → Nat} {al : Nat → Prop} {w : zW} {k : Int32 → zW → Prop} {x1 : Int32}   (hf : fX12_strict x1 w k) : zmetI l yX12_strict cX12_strict 2 (some .int) 4 [.ref (ad 200), .int x1] D dA true ad al w k := by
  refine zmetI_of (by decide) (Nat.le_of_ble_eq_true rfl) ?_
  intro p e R s m below meth c Q H ls args locs cells slots X hr hQ hR hl
  have hx := X.1
  have hb := X.2.1
  have hml := X.2.2.1
  have hown := X.2.2.2.1
  have hts := X.2.2.2.2.1
  unfold fX12_strict at hf
  have hl : lv_has ls 2 [(0, .ref (ad 200)), (1, .int x1)] := hl
  refine lv_aload_n hx hb dX12_strict_0 rfl (lv_at hl 0 rfl) ?_
  refine lv_iconst (v := (0 : Int32)) hx hb dX12_strict_1 (by decide) ?_
  refine z_putI X hR (zlit hR zf_200) zs_200 (by decide) zfp_X12_1 rfl dX12_strict_2 (fun H locs hR => ?_)
  obtain ⟨w1, hw1⟩ : ∃ z : zW, z = sI w 200 0 (0 : Int32) := ⟨_, rfl⟩
  rw [← hw1] at hR
  replace hf := hf w1 hw1
  refine lv_aload_n hx hb dX12_strict_5 rfl (lv_at hl 0 rfl) ?_
  refine z_callVV (fr1 := 3) (b := 200) (As := []) (rest := []) X (hr.le (by decide)) hR zy_X12_gathers zq_1065 (zlit hR zf_200) (by rw [zs_200]; rfl) rfl (mX12_gathers  hf) rfl hl (Nat.le_of_ble_eq_true rfl) dX12_strict_6 rfl (fun w2 H locs hf hR => ?_)
  refine lv_aload_n hx hb dX12_strict_9 rfl (lv_at hl 0 rfl) ?_
  refine lv_iload_n hx hb dX12_strict_10 rfl (lv_at hl 1 rfl) ?_
  refine z_callVI (fr1 := 1) (b := 200) (As := [.int x1]) (rest := []) X (hr.le (by decide)) hR zy_X12_isRow zq_833 (zlit hR zf_200) (by rw [zs_200]; rfl) rfl (mX12_isRow  hf) rfl hl (Nat.le_of_ble_eq_true rfl) dX12_strict_11 rfl (fun r3 w3 H locs hf hR => ?_)
  refine lv_if_eq (tgt := 26) hx hb dX12_strict_14 (by decide) (fun c4 => ?_) (fun c4 => ?_)
  · replace hf := hf.1 c4
    refine lv_iconst (v := (-1 : Int32)) hx hb dX12_strict_26 (by decide) ?_
    exact hQ _ _ _ _ _ _ hf hR dX12_strict_27
  · replace hf := hf.2 c4
    refine lv_aload_n hx hb dX12_strict_17 rfl (lv_at hl 0 rfl) ?_
    refine z_getS X hR (zlit hR zf_200) zs_200 (by decide) zfd_X12_143 rfl (r := 239) (by decide +kernel) dX12_strict_18 ?_
    refine lv_iload_n hx hb dX12_strict_21 rfl (lv_at hl 1 rfl) ?_
    obtain ⟨hb5, hf⟩ := hf
    refine z_iald X hR (zlit hR zf_239) zs_239 zl_239 hb5 dX12_strict_22 ?_
    refine lv_goto (tgt := 27) hx hb dX12_strict_23 (by decide) ?_
    exact hQ _ _ _ _ _ _ hf hR dX12_strict_27
/-! X12_fitsWith -/
def fX12_fitsWith_J92 (k : Int32 → zW → Prop) (x1 : Int32) (x2 : Int32) (x3 : Int32) (x4 : Int32) (w : zW) : Prop :=
  vp_in (((4 : Int32) * x1) + x2) 32 ∧ 
  ∀ w8 : zW, w8 = sI w 225 (((4 : Int32) * x1) + x2).toNatClampNeg ((gI w 225 (((4 : Int32) * x1) + x2).toNatClampNeg) + (1 : Int32)) →
  vp_in (((4 : Int32) * x1) + x3) 32 ∧ 
  ∀ w10 : zW, w10 = sI w8 225 (((4 : Int32) * x1) + x3).toNatClampNeg ((gI w8 225 (((4 : Int32) * x1) + x3).toNatClampNeg) - (1 : Int32)) →
  zb01 x4 ∧ k x4 w10
set_option maxHeartbeats 4000000 in
set_option maxRecDepth 100000 in
theorem mX12_fitsWith_J92 {k : Int32 → zW → Prop} (X : zCx p s m args meth c cX12_fitsWith 6 RX12 (some .boolean)) (hr : zRm R 2 cells slots) (hQ : zRetZ p l e R s m args below meth c cells slots Q D dA true ad0 al0 ad al cX12_fitsWith k)  {x1 : Int32} {x2 : Int32} {x3 : Int32} {x4 : Int32} {w : zW} {H : Heap} {locs : List Loc} {ls : Array Slot} (hf : fX12_fitsWith_J92 k x1 x2 x3 x4 w) (hR : zSt D dA true ad0 al0 ad al w s H locs) (hl : lv_has ls 6 [(0, .ref (ad 200)), (1, .int x1), (2, .int x2), (3, .int x3), (4, .int x4)]) : W p l e R s m args below meth c H locs cells slots Q (F0 m 92 ls []) := by
  have hx := X.1
  have hb := X.2.1
  have hml := X.2.2.1
  have hown := X.2.2.2.1
  have hts := X.2.2.2.2.1
  unfold fX12_fitsWith_J92 at hf
  refine lv_aload_n hx hb dX12_fitsWith_92 rfl (lv_at hl 0 rfl) ?_
  refine z_getS X hR (zlit hR zf_200) zs_200 (by decide) zfd_X12_116 rfl (r := 225) (by decide +kernel) dX12_fitsWith_93 ?_
  refine lv_iconst (v := (4 : Int32)) hx hb dX12_fitsWith_96 (by decide) ?_
  refine lv_iload_n hx hb dX12_fitsWith_97 rfl (lv_at hl 1 rfl) ?_
  refine lv_imul hx hb dX12_fitsWith_98 ?_
  refine lv_iload_n hx hb dX12_fitsWith_99 rfl (lv_at hl 2 rfl) ?_
  refine lv_iadd hx hb dX12_fitsWith_100 ?_
  refine lv_dup2_11 hx hb dX12_fitsWith_101 rfl rfl ?_
  obtain ⟨hb7, hf⟩ := hf
  refine z_iald X hR (zlit hR zf_225) zs_225 zl_225 hb7 dX12_fitsWith_102 ?_
  refine lv_iconst (v := (1 : Int32)) hx hb dX12_fitsWith_103 (by decide) ?_
  refine lv_iadd hx hb dX12_fitsWith_104 ?_
  refine z_iast X hR (zlit hR zf_225) zs_225 zl_225 hb7 dX12_fitsWith_105 (fun H locs hR => ?_)
  obtain ⟨w8, hw8⟩ : ∃ z : zW, z = sI w 225 (((4 : Int32) * x1) + x2).toNatClampNeg ((gI w 225 (((4 : Int32) * x1) + x2).toNatClampNeg) + (1 : Int32)) := ⟨_, rfl⟩
  rw [← hw8] at hR
  replace hf := hf w8 hw8
  refine lv_aload_n hx hb dX12_fitsWith_106 rfl (lv_at hl 0 rfl) ?_
  refine z_getS X hR (zlit hR zf_200) zs_200 (by decide) zfd_X12_116 rfl (r := 225) (by decide +kernel) dX12_fitsWith_107 ?_
  refine lv_iconst (v := (4 : Int32)) hx hb dX12_fitsWith_110 (by decide) ?_
  refine lv_iload_n hx hb dX12_fitsWith_111 rfl (lv_at hl 1 rfl) ?_
  refine lv_imul hx hb dX12_fitsWith_112 ?_
  refine lv_iload_n hx hb dX12_fitsWith_113 rfl (lv_at hl 3 rfl) ?_
  refine lv_iadd hx hb dX12_fitsWith_114 ?_
  refine lv_dup2_11 hx hb dX12_fitsWith_115 rfl rfl ?_
  obtain ⟨hb9, hf⟩ := hf
  refine z_iald X hR (zlit hR zf_225) zs_225 zl_225 hb9 dX12_fitsWith_116 ?_
  refine lv_iconst (v := (1 : Int32)) hx hb dX12_fitsWith_117 (by decide) ?_
  refine lv_isub hx hb dX12_fitsWith_118 ?_
  refine z_iast X hR (zlit hR zf_225) zs_225 zl_225 hb9 dX12_fitsWith_119 (fun H locs hR => ?_)
  obtain ⟨w10, hw10⟩ : ∃ z : zW, z = sI w8 225 (((4 : Int32) * x1) + x3).toNatClampNeg ((gI w8 225 (((4 : Int32) * x1) + x3).toNatClampNeg) - (1 : Int32)) := ⟨_, rfl⟩
  rw [← hw10] at hR
  replace hf := hf w10 hw10
  refine lv_iload hx hb dX12_fitsWith_120 (lv_at hl 4 rfl) ?_
  obtain ⟨h01, hf⟩ := hf
  exact hQ _ _ _ _ _ _ h01 hf hR dX12_fitsWith_122
def fX12_fitsWith_L34 (k : Int32 → zW → Prop) : Nat → Int32 → Int32 → Int32 → Int32 → Int32 → zW → Prop
  | 0 => fun _ _ _ _ _ _ => False
  | n + 1 => fun x1 x2 x3 x4 x5 w =>
    fX12_allDictionaries  w (fun r5 w5 =>
    ((r5 ≤ x5 →
      fX12_fitsWith_J92 k x1 x2 x3 x4 w5) ∧
     (¬ r5 ≤ x5 →
      ((¬ x4 = 0 →
        fX12_fitsWith_J92 k x1 x2 x3 x4 w5) ∧
       (x4 = 0 →
        fX12_lays x5 w5 (fun r12 w12 =>
        ((r12 = 0 →
          fX12_fitsWith_L34 k n x1 x2 x3 x4 (x5 + (1 : Int32)) w12) ∧
         (¬ r12 = 0 →
          fX12_goes  w12 (fun w14 =>
          fX12_allRows  w14 (fun r15 w15 =>
          ((¬ (gI w14 200 29) = r15 →
            fX12_fitsWith_L34 k n x1 x2 x3 (0 : Int32) (x5 + (1 : Int32)) w15) ∧
           ((gI w14 200 29) = r15 →
            ∀ v17 : Int32, v17 = (if ¬ (gI w15 200 30) = 0 then (0 : Int32) else (1 : Int32)) →
            fX12_fitsWith_L34 k n x1 x2 x3 v17 (x5 + (1 : Int32)) w15))))))))))))
set_option maxHeartbeats 4000000 in
set_option maxRecDepth 100000 in
theorem mX12_fitsWith_L34 {k : Int32 → zW → Prop} (X : zCx p s m args meth c cX12_fitsWith 6 RX12 (some .boolean)) (hr : zRm R 2 cells slots) (hQ : zRetZ p l e R s m args below meth c cells slots Q D dA true ad0 al0 ad al cX12_fitsWith k)  : ∀ (n : Nat) (x1 : Int32) (x2 : Int32) (x3 : Int32) (x4 : Int32) (x5 : Int32) (w : zW) (H : Heap) (locs : List Loc) (ls : Array Slot), fX12_fitsWith_L34 k n x1 x2 x3 x4 x5 w → zSt D dA true ad0 al0 ad al w s H locs → lv_has ls 6 [(0, .ref (ad 200)), (1, .int x1), (2, .int x2), (3, .int x3), (4, .int x4), (5, .int x5)] → W p l e R s m args below meth c H locs cells slots Q (F0 m 34 ls []) := by
  intro n
  induction n with
  | zero => exact fun _ _ _ _ _ _ _ _ _ hf => hf.elim
  | succ n ih =>
    intro x1 x2 x3 x4 x5 w H locs ls hf hR hl
    have hx := X.1
    have hb := X.2.1
    have hml := X.2.2.1
    have hown := X.2.2.2.1
    have hts := X.2.2.2.2.1
    rw [fX12_fitsWith_L34] at hf
    refine lv_iload hx hb dX12_fitsWith_34 (lv_at hl 5 rfl) ?_
    refine lv_aload_n hx hb dX12_fitsWith_36 rfl (lv_at hl 0 rfl) ?_
    refine z_callVI (fr1 := 1) (b := 200) (As := []) (rest := [.int x5]) X (hr.le (by decide)) hR zy_X12_allDictionaries zq_1074 (zlit hR zf_200) (by rw [zs_200]; rfl) rfl (mX12_allDictionaries  hf) rfl hl (Nat.le_of_ble_eq_true rfl) dX12_fitsWith_37 rfl (fun r5 w5 H locs hf hR => ?_)
    refine lv_icmp_ge (tgt := 92) hx hb dX12_fitsWith_40 (by decide) (fun c6 => ?_) (fun c6 => ?_)
    · replace hf := hf.1 c6
      exact mX12_fitsWith_J92 X hr hQ  hf hR (lv_sub hl [0, 1, 2, 3, 4] rfl)
    · replace hf := hf.2 c6
      refine lv_iload hx hb dX12_fitsWith_43 (lv_at hl 4 rfl) ?_
      refine lv_if_ne (tgt := 92) hx hb dX12_fitsWith_45 (by decide) (fun c11 => ?_) (fun c11 => ?_)
      · replace hf := hf.1 c11
        exact mX12_fitsWith_J92 X hr hQ  hf hR (lv_sub hl [0, 1, 2, 3, 4] rfl)
      · replace hf := hf.2 c11
        refine lv_aload_n hx hb dX12_fitsWith_48 rfl (lv_at hl 0 rfl) ?_
        refine lv_iload hx hb dX12_fitsWith_49 (lv_at hl 5 rfl) ?_
        refine z_callVI (fr1 := 1) (b := 200) (As := [.int x5]) (rest := []) X (hr.le (by decide)) hR zy_X12_lays zq_1078 (zlit hR zf_200) (by rw [zs_200]; rfl) rfl (mX12_lays  hf) rfl hl (Nat.le_of_ble_eq_true rfl) dX12_fitsWith_51 rfl (fun r12 w12 H locs hf hR => ?_)
        refine lv_if_eq (tgt := 86) hx hb dX12_fitsWith_54 (by decide) (fun c13 => ?_) (fun c13 => ?_)
        · replace hf := hf.1 c13
          refine lv_iinc (v := x5 + (1 : Int32)) (lv' := [(5, .int (x5 + (1 : Int32))), (0, .ref (ad 200)), (1, .int x1), (2, .int x2), (3, .int x3), (4, .int x4)]) hx hb dX12_fitsWith_86 hl (k := 5) rfl rfl (by decide) rfl (fun ls hl => ?_)
          refine lv_goto (tgt := 34) hx hb dX12_fitsWith_89 (by decide) ?_
          exact ih x1 x2 x3 x4 (x5 + (1 : Int32)) w12 _ _ _ hf hR (lv_sub hl [1, 2, 3, 4, 5, 0] rfl)
        · replace hf := hf.2 c13
          refine lv_aload_n hx hb dX12_fitsWith_57 rfl (lv_at hl 0 rfl) ?_
          refine z_callVV (fr1 := 1) (b := 200) (As := []) (rest := []) X (hr.le (by decide)) hR zy_X12_goes zq_1082 (zlit hR zf_200) (by rw [zs_200]; rfl) rfl (mX12_goes  hf) rfl hl (Nat.le_of_ble_eq_true rfl) dX12_fitsWith_58 rfl (fun w14 H locs hf hR => ?_)
          refine lv_aload_n hx hb dX12_fitsWith_61 rfl (lv_at hl 0 rfl) ?_
          refine z_getI X hR (zlit hR zf_200) zs_200 (by decide) zfd_X12_349 rfl dX12_fitsWith_62 ?_
          refine lv_aload_n hx hb dX12_fitsWith_65 rfl (lv_at hl 0 rfl) ?_
          refine z_callVI (fr1 := 1) (b := 200) (As := []) (rest := [.int (gI w14 200 29)]) X (hr.le (by decide)) hR zy_X12_allRows zq_1093 (zlit hR zf_200) (by rw [zs_200]; rfl) rfl (mX12_allRows  hf) rfl hl (Nat.le_of_ble_eq_true rfl) dX12_fitsWith_66 rfl (fun r15 w15 H locs hf hR => ?_)
          refine lv_icmp_ne (tgt := 83) hx hb dX12_fitsWith_69 (by decide) (fun c16 => ?_) (fun c16 => ?_)
          · replace hf := hf.1 c16
            refine lv_iconst (v := (0 : Int32)) hx hb dX12_fitsWith_83 (by decide) ?_
            refine lv_istore (lv' := [(4, .int (0 : Int32)), (0, .ref (ad 200)), (1, .int x1), (2, .int x2), (3, .int x3), (5, .int x5)]) hx hb dX12_fitsWith_84 hl (by decide) rfl (fun ls hl => ?_)
            refine lv_iinc (v := x5 + (1 : Int32)) (lv' := [(5, .int (x5 + (1 : Int32))), (4, .int (0 : Int32)), (0, .ref (ad 200)), (1, .int x1), (2, .int x2), (3, .int x3)]) hx hb dX12_fitsWith_86 hl (k := 5) rfl rfl (by decide) rfl (fun ls hl => ?_)
            refine lv_goto (tgt := 34) hx hb dX12_fitsWith_89 (by decide) ?_
            exact ih x1 x2 x3 (0 : Int32) (x5 + (1 : Int32)) w15 _ _ _ hf hR (lv_sub hl [2, 3, 4, 5, 1, 0] rfl)
          · replace hf := hf.2 c16
            refine lv_aload_n hx hb dX12_fitsWith_72 rfl (lv_at hl 0 rfl) ?_
            refine z_getI X hR (zlit hR zf_200) zs_200 (by decide) zfd_X12_352 rfl dX12_fitsWith_73 ?_
            have kJ17 : ∀ v17 : Int32, v17 = (if ¬ (gI w15 200 30) = 0 then (0 : Int32) else (1 : Int32)) → W p l e R s m args below meth c H locs cells slots Q (F0 m 84 ls (.int v17 :: [])) := by
              intro v17 hv17
              replace hf := hf v17 hv17
              refine lv_istore (lv' := [(4, .int v17), (0, .ref (ad 200)), (1, .int x1), (2, .int x2), (3, .int x3), (5, .int x5)]) hx hb dX12_fitsWith_84 hl (by decide) rfl (fun ls hl => ?_)
              refine lv_iinc (v := x5 + (1 : Int32)) (lv' := [(5, .int (x5 + (1 : Int32))), (4, .int v17), (0, .ref (ad 200)), (1, .int x1), (2, .int x2), (3, .int x3)]) hx hb dX12_fitsWith_86 hl (k := 5) rfl rfl (by decide) rfl (fun ls hl => ?_)
              refine lv_goto (tgt := 34) hx hb dX12_fitsWith_89 (by decide) ?_
              exact ih x1 x2 x3 v17 (x5 + (1 : Int32)) w15 _ _ _ hf hR (lv_sub hl [2, 3, 4, 5, 1, 0] rfl)
            refine lv_if_ne (tgt := 83) hx hb dX12_fitsWith_76 (by decide) (fun c17 => ?_) (fun c17 => ?_)
            · refine lv_iconst (v := (0 : Int32)) hx hb dX12_fitsWith_83 (by decide) ?_
              exact kJ17 _ (if_pos c17).symm
            · refine lv_iconst (v := (1 : Int32)) hx hb dX12_fitsWith_79 (by decide) ?_
              refine lv_goto (tgt := 84) hx hb dX12_fitsWith_80 (by decide) ?_
              exact kJ17 _ (if_neg (fun h9 => h9 c17)).symm
def fX12_fitsWith (x1 : Int32) (x2 : Int32) (x3 : Int32) (w : zW) (k : Int32 → zW → Prop) : Prop :=
  vp_in (((4 : Int32) * x1) + x2) 32 ∧ 
  ∀ w2 : zW, w2 = sI w 225 (((4 : Int32) * x1) + x2).toNatClampNeg ((gI w 225 (((4 : Int32) * x1) + x2).toNatClampNeg) - (1 : Int32)) →
  vp_in (((4 : Int32) * x1) + x3) 32 ∧ 
  ∀ w4 : zW, w4 = sI w2 225 (((4 : Int32) * x1) + x3).toNatClampNeg ((gI w2 225 (((4 : Int32) * x1) + x3).toNatClampNeg) + (1 : Int32)) →
  ∃ n9, fX12_fitsWith_L34 k n9 x1 x2 x3 (0 : Int32) (0 : Int32) w4
set_option maxHeartbeats 4000000 in
set_option maxRecDepth 100000 in
theorem mX12_fitsWith {l : Launch} {D : va_G} {dA : Nat → ClassId} {ad : Nat → Nat} {al : Nat → Prop} {w : zW} {k : Int32 → zW → Prop} {x1 : Int32} {x2 : Int32} {x3 : Int32}   (hf : fX12_fitsWith x1 x2 x3 w k) : zmetI l yX12_fitsWith cX12_fitsWith 6 (some .boolean) 2 [.ref (ad 200), .int x1, .int x2, .int x3] D dA true ad al w k := by
  refine zmetZ_of (by decide) (Nat.le_of_ble_eq_true rfl) ?_
  intro p e R s m below meth c Q H ls args locs cells slots X hr hQ hR hl
  have hx := X.1
  have hb := X.2.1
  have hml := X.2.2.1
  have hown := X.2.2.2.1
  have hts := X.2.2.2.2.1
  unfold fX12_fitsWith at hf
  have hl : lv_has ls 6 [(0, .ref (ad 200)), (1, .int x1), (2, .int x2), (3, .int x3)] := hl
  refine lv_aload_n hx hb dX12_fitsWith_0 rfl (lv_at hl 0 rfl) ?_
  refine z_getS X hR (zlit hR zf_200) zs_200 (by decide) zfd_X12_116 rfl (r := 225) (by decide +kernel) dX12_fitsWith_1 ?_
  refine lv_iconst (v := (4 : Int32)) hx hb dX12_fitsWith_4 (by decide) ?_
  refine lv_iload_n hx hb dX12_fitsWith_5 rfl (lv_at hl 1 rfl) ?_
  refine lv_imul hx hb dX12_fitsWith_6 ?_
  refine lv_iload_n hx hb dX12_fitsWith_7 rfl (lv_at hl 2 rfl) ?_
  refine lv_iadd hx hb dX12_fitsWith_8 ?_
  refine lv_dup2_11 hx hb dX12_fitsWith_9 rfl rfl ?_
  obtain ⟨hb1, hf⟩ := hf
  refine z_iald X hR (zlit hR zf_225) zs_225 zl_225 hb1 dX12_fitsWith_10 ?_
  refine lv_iconst (v := (1 : Int32)) hx hb dX12_fitsWith_11 (by decide) ?_
  refine lv_isub hx hb dX12_fitsWith_12 ?_
  refine z_iast X hR (zlit hR zf_225) zs_225 zl_225 hb1 dX12_fitsWith_13 (fun H locs hR => ?_)
  obtain ⟨w2, hw2⟩ : ∃ z : zW, z = sI w 225 (((4 : Int32) * x1) + x2).toNatClampNeg ((gI w 225 (((4 : Int32) * x1) + x2).toNatClampNeg) - (1 : Int32)) := ⟨_, rfl⟩
  rw [← hw2] at hR
  replace hf := hf w2 hw2
  refine lv_aload_n hx hb dX12_fitsWith_14 rfl (lv_at hl 0 rfl) ?_
  refine z_getS X hR (zlit hR zf_200) zs_200 (by decide) zfd_X12_116 rfl (r := 225) (by decide +kernel) dX12_fitsWith_15 ?_
  refine lv_iconst (v := (4 : Int32)) hx hb dX12_fitsWith_18 (by decide) ?_
  refine lv_iload_n hx hb dX12_fitsWith_19 rfl (lv_at hl 1 rfl) ?_
  refine lv_imul hx hb dX12_fitsWith_20 ?_
  refine lv_iload_n hx hb dX12_fitsWith_21 rfl (lv_at hl 3 rfl) ?_
  refine lv_iadd hx hb dX12_fitsWith_22 ?_
  refine lv_dup2_11 hx hb dX12_fitsWith_23 rfl rfl ?_
  obtain ⟨hb3, hf⟩ := hf
  refine z_iald X hR (zlit hR zf_225) zs_225 zl_225 hb3 dX12_fitsWith_24 ?_
  refine lv_iconst (v := (1 : Int32)) hx hb dX12_fitsWith_25 (by decide) ?_
  refine lv_iadd hx hb dX12_fitsWith_26 ?_
  refine z_iast X hR (zlit hR zf_225) zs_225 zl_225 hb3 dX12_fitsWith_27 (fun H locs hR => ?_)
  obtain ⟨w4, hw4⟩ : ∃ z : zW, z = sI w2 225 (((4 : Int32) * x1) + x3).toNatClampNeg ((gI w2 225 (((4 : Int32) * x1) + x3).toNatClampNeg) + (1 : Int32)) := ⟨_, rfl⟩
  rw [← hw4] at hR
  replace hf := hf w4 hw4
  refine lv_iconst (v := (0 : Int32)) hx hb dX12_fitsWith_28 (by decide) ?_
  refine lv_istore (lv' := [(4, .int (0 : Int32)), (0, .ref (ad 200)), (1, .int x1), (2, .int x2), (3, .int x3)]) hx hb dX12_fitsWith_29 hl (by decide) rfl (fun ls hl => ?_)
  refine lv_iconst (v := (0 : Int32)) hx hb dX12_fitsWith_31 (by decide) ?_
  refine lv_istore (lv' := [(5, .int (0 : Int32)), (4, .int (0 : Int32)), (0, .ref (ad 200)), (1, .int x1), (2, .int x2), (3, .int x3)]) hx hb dX12_fitsWith_32 hl (by decide) rfl (fun ls hl => ?_)
  obtain ⟨n9, hf⟩ := hf
  exact mX12_fitsWith_L34 X hr hQ  n9 x1 x2 x3 (0 : Int32) (0 : Int32) w4 _ _ _ hf hR (lv_sub hl [2, 3, 4, 5, 1, 0] rfl)
/-! X12_misprintsNow -/
def fX12_misprintsNow_J87 (k : zW → Prop) (g2 : Int32 → zW → Prop) (g12 : Int32 → Int32 → zW → Prop) (g33 : Int32 → Int32 → Int32 → zW → Prop) (x1 : Int32) (x2 : Int32) (x3 : Int32) (t0 : Int32) (t1 : Int32) (t2 : Int32) (w : zW) : Prop :=
  vp_in t2 32 ∧ 
  ∀ w13 : zW, w13 = sI w 240 t2.toNatClampNeg (t1 ||| t0) →
  g33 x1 x2 (x3 + (1 : Int32)) w13
set_option maxHeartbeats 4000000 in
set_option maxRecDepth 100000 in
theorem mX12_misprintsNow_J87 {k : zW → Prop} {g2 : Int32 → zW → Prop} {g12 : Int32 → Int32 → zW → Prop} {g33 : Int32 → Int32 → Int32 → zW → Prop} (X : zCx p s m args meth c cX12_misprintsNow 4 RX12 none) (hr : zRm R 3 cells slots) (hQ : zRetV p l e R s m args below meth c cells slots Q D dA true ad0 al0 ad al cX12_misprintsNow k) (hg2 : ∀ (x1 : Int32) (w : zW) (H : Heap) (locs : List Loc) (ls : Array Slot), g2 x1 w → zSt D dA true ad0 al0 ad al w s H locs → lv_has ls 4 [(0, .ref (ad 200)), (1, .int x1)] → W p l e R s m args below meth c H locs cells slots Q (F0 m 2 ls [])) (hg12 : ∀ (x1 : Int32) (x2 : Int32) (w : zW) (H : Heap) (locs : List Loc) (ls : Array Slot), g12 x1 x2 w → zSt D dA true ad0 al0 ad al w s H locs → lv_has ls 4 [(0, .ref (ad 200)), (1, .int x1), (2, .int x2)] → W p l e R s m args below meth c H locs cells slots Q (F0 m 12 ls [])) (hg33 : ∀ (x1 : Int32) (x2 : Int32) (x3 : Int32) (w : zW) (H : Heap) (locs : List Loc) (ls : Array Slot), g33 x1 x2 x3 w → zSt D dA true ad0 al0 ad al w s H locs → lv_has ls 4 [(0, .ref (ad 200)), (1, .int x1), (2, .int x2), (3, .int x3)] → W p l e R s m args below meth c H locs cells slots Q (F0 m 33 ls [])) {x1 : Int32} {x2 : Int32} {x3 : Int32} {t0 : Int32} {t1 : Int32} {t2 : Int32} {w : zW} {H : Heap} {locs : List Loc} {ls : Array Slot} (hf : fX12_misprintsNow_J87 k g2 g12 g33 x1 x2 x3 t0 t1 t2 w) (hR : zSt D dA true ad0 al0 ad al w s H locs) (hl : lv_has ls 4 [(0, .ref (ad 200)), (1, .int x1), (2, .int x2), (3, .int x3)]) : W p l e R s m args below meth c H locs cells slots Q (F0 m 87 ls [.int t0, .int t1, .int t2, .ref (ad 240)]) := by
  have hx := X.1
  have hb := X.2.1
  have hml := X.2.2.1
  have hown := X.2.2.2.1
  have hts := X.2.2.2.2.1
  unfold fX12_misprintsNow_J87 at hf
  refine lv_ior hx hb dX12_misprintsNow_87 ?_
  obtain ⟨hb12, hf⟩ := hf
  refine z_iast X hR (zlit hR zf_240) zs_240 zl_240 hb12 dX12_misprintsNow_88 (fun H locs hR => ?_)
  obtain ⟨w13, hw13⟩ : ∃ z : zW, z = sI w 240 t2.toNatClampNeg (t1 ||| t0) := ⟨_, rfl⟩
  rw [← hw13] at hR
  replace hf := hf w13 hw13
  refine lv_iinc (v := x3 + (1 : Int32)) (lv' := [(3, .int (x3 + (1 : Int32))), (0, .ref (ad 200)), (1, .int x1), (2, .int x2)]) hx hb dX12_misprintsNow_89 hl (k := 3) rfl rfl (by decide) rfl (fun ls hl => ?_)
  refine lv_goto (tgt := 33) hx hb dX12_misprintsNow_92 (by decide) ?_
  exact hg33 x1 x2 (x3 + (1 : Int32)) w13 _ _ _ hf hR (lv_sub hl [1, 2, 3, 0] rfl)
def fX12_misprintsNow_L33 (k : zW → Prop) (g2 : Int32 → zW → Prop) (g12 : Int32 → Int32 → zW → Prop) : Nat → Int32 → Int32 → Int32 → zW → Prop
  | 0 => fun _ _ _ _ => False
  | n + 1 => fun x1 x2 x3 w =>
    fX12_wordsTold  w (fun r7 w7 =>
    ((r7 ≤ x3 →
      g12 x1 (x2 + (1 : Int32)) w7) ∧
     (¬ r7 ≤ x3 →
      vp_in (((4 : Int32) * x1) + x2) 32 ∧ 
      (((gI w7 225 (((4 : Int32) * x1) + x2).toNatClampNeg) ≤ 0 →
        g12 x1 (x2 + (1 : Int32)) w7) ∧
       (¬ (gI w7 225 (((4 : Int32) * x1) + x2).toNatClampNeg) ≤ 0 →
        ((x3 = x2 →
          fX12_misprintsNow_J87 k g2 g12 (fX12_misprintsNow_L33 k g2 g12 n) x1 x2 x3 (0 : Int32) (gI w7 240 (((4 : Int32) * x1) + x2).toNatClampNeg) (((4 : Int32) * x1) + x2) w7) ∧
         (¬ x3 = x2 →
          fX12_fitsWith x1 x2 x3 w7 (fun r14 w14 =>
          ∀ v15 : Int32, v15 = (if r14 = 0 then (0 : Int32) else ((1 : Int32) <<< (x3 &&& 31))) →
          fX12_misprintsNow_J87 k g2 g12 (fX12_misprintsNow_L33 k g2 g12 n) x1 x2 x3 v15 (gI w7 240 (((4 : Int32) * x1) + x2).toNatClampNeg) (((4 : Int32) * x1) + x2) w14))))))))
set_option maxHeartbeats 4000000 in
set_option maxRecDepth 100000 in
theorem mX12_misprintsNow_L33 {k : zW → Prop} {g2 : Int32 → zW → Prop} {g12 : Int32 → Int32 → zW → Prop} (X : zCx p s m args meth c cX12_misprintsNow 4 RX12 none) (hr : zRm R 3 cells slots) (hQ : zRetV p l e R s m args below meth c cells slots Q D dA true ad0 al0 ad al cX12_misprintsNow k) (hg2 : ∀ (x1 : Int32) (w : zW) (H : Heap) (locs : List Loc) (ls : Array Slot), g2 x1 w → zSt D dA true ad0 al0 ad al w s H locs → lv_has ls 4 [(0, .ref (ad 200)), (1, .int x1)] → W p l e R s m args below meth c H locs cells slots Q (F0 m 2 ls [])) (hg12 : ∀ (x1 : Int32) (x2 : Int32) (w : zW) (H : Heap) (locs : List Loc) (ls : Array Slot), g12 x1 x2 w → zSt D dA true ad0 al0 ad al w s H locs → lv_has ls 4 [(0, .ref (ad 200)), (1, .int x1), (2, .int x2)] → W p l e R s m args below meth c H locs cells slots Q (F0 m 12 ls [])) : ∀ (n : Nat) (x1 : Int32) (x2 : Int32) (x3 : Int32) (w : zW) (H : Heap) (locs : List Loc) (ls : Array Slot), fX12_misprintsNow_L33 k g2 g12 n x1 x2 x3 w → zSt D dA true ad0 al0 ad al w s H locs → lv_has ls 4 [(0, .ref (ad 200)), (1, .int x1), (2, .int x2), (3, .int x3)] → W p l e R s m args below meth c H locs cells slots Q (F0 m 33 ls []) := by
  intro n
  induction n with
  | zero => exact fun _ _ _ _ _ _ _ hf => hf.elim
  | succ n ih =>
    intro x1 x2 x3 w H locs ls hf hR hl
    have hx := X.1
    have hb := X.2.1
    have hml := X.2.2.1
    have hown := X.2.2.2.1
    have hts := X.2.2.2.2.1
    rw [fX12_misprintsNow_L33] at hf
    refine lv_iload_n hx hb dX12_misprintsNow_33 rfl (lv_at hl 3 rfl) ?_
    refine lv_aload_n hx hb dX12_misprintsNow_34 rfl (lv_at hl 0 rfl) ?_
    refine z_callVI (fr1 := 0) (b := 200) (As := []) (rest := [.int x3]) X (hr.le (by decide)) hR zy_X12_wordsTold zq_211 (zlit hR zf_200) (by rw [zs_200]; rfl) rfl (mX12_wordsTold  hf) rfl hl (Nat.le_of_ble_eq_true rfl) dX12_misprintsNow_35 rfl (fun r7 w7 H locs hf hR => ?_)
    refine lv_icmp_ge (tgt := 95) hx hb dX12_misprintsNow_38 (by decide) (fun c8 => ?_) (fun c8 => ?_)
    · replace hf := hf.1 c8
      refine lv_iinc (v := x2 + (1 : Int32)) (lv' := [(2, .int (x2 + (1 : Int32))), (0, .ref (ad 200)), (1, .int x1), (3, .int x3)]) hx hb dX12_misprintsNow_95 hl (k := 2) rfl rfl (by decide) rfl (fun ls hl => ?_)
      refine lv_goto (tgt := 12) hx hb dX12_misprintsNow_98 (by decide) ?_
      exact hg12 x1 (x2 + (1 : Int32)) w7 _ _ _ hf hR (lv_sub hl [1, 2, 0] rfl)
    · replace hf := hf.2 c8
      refine lv_aload_n hx hb dX12_misprintsNow_41 rfl (lv_at hl 0 rfl) ?_
      refine z_getS X hR (zlit hR zf_200) zs_200 (by decide) zfd_X12_116 rfl (r := 225) (by decide +kernel) dX12_misprintsNow_42 ?_
      refine lv_iconst (v := (4 : Int32)) hx hb dX12_misprintsNow_45 (by decide) ?_
      refine lv_iload_n hx hb dX12_misprintsNow_46 rfl (lv_at hl 1 rfl) ?_
      refine lv_imul hx hb dX12_misprintsNow_47 ?_
      refine lv_iload_n hx hb dX12_misprintsNow_48 rfl (lv_at hl 2 rfl) ?_
      refine lv_iadd hx hb dX12_misprintsNow_49 ?_
      obtain ⟨hb9, hf⟩ := hf
      refine z_iald X hR (zlit hR zf_225) zs_225 zl_225 hb9 dX12_misprintsNow_50 ?_
      refine lv_if_le (tgt := 95) hx hb dX12_misprintsNow_51 (by decide) (fun c10 => ?_) (fun c10 => ?_)
      · replace hf := hf.1 c10
        refine lv_iinc (v := x2 + (1 : Int32)) (lv' := [(2, .int (x2 + (1 : Int32))), (0, .ref (ad 200)), (1, .int x1), (3, .int x3)]) hx hb dX12_misprintsNow_95 hl (k := 2) rfl rfl (by decide) rfl (fun ls hl => ?_)
        refine lv_goto (tgt := 12) hx hb dX12_misprintsNow_98 (by decide) ?_
        exact hg12 x1 (x2 + (1 : Int32)) w7 _ _ _ hf hR (lv_sub hl [1, 2, 0] rfl)
      · replace hf := hf.2 c10
        refine lv_aload_n hx hb dX12_misprintsNow_54 rfl (lv_at hl 0 rfl) ?_
        refine z_getS X hR (zlit hR zf_200) zs_200 (by decide) zfd_X12_146 rfl (r := 240) (by decide +kernel) dX12_misprintsNow_55 ?_
        refine lv_iconst (v := (4 : Int32)) hx hb dX12_misprintsNow_58 (by decide) ?_
        refine lv_iload_n hx hb dX12_misprintsNow_59 rfl (lv_at hl 1 rfl) ?_
        refine lv_imul hx hb dX12_misprintsNow_60 ?_
        refine lv_iload_n hx hb dX12_misprintsNow_61 rfl (lv_at hl 2 rfl) ?_
        refine lv_iadd hx hb dX12_misprintsNow_62 ?_
        refine lv_dup2_11 hx hb dX12_misprintsNow_63 rfl rfl ?_
        refine z_iald X hR (zlit hR zf_240) zs_240 zl_240 hb9 dX12_misprintsNow_64 ?_
        refine lv_iload_n hx hb dX12_misprintsNow_65 rfl (lv_at hl 3 rfl) ?_
        refine lv_iload_n hx hb dX12_misprintsNow_66 rfl (lv_at hl 2 rfl) ?_
        refine lv_icmp_eq (tgt := 86) hx hb dX12_misprintsNow_67 (by decide) (fun c11 => ?_) (fun c11 => ?_)
        · replace hf := hf.1 c11
          refine lv_iconst (v := (0 : Int32)) hx hb dX12_misprintsNow_86 (by decide) ?_
          exact mX12_misprintsNow_J87 X hr hQ hg2 hg12 ih hf hR (lv_sub hl [0, 1, 2, 3] rfl)
        · replace hf := hf.2 c11
          refine lv_aload_n hx hb dX12_misprintsNow_70 rfl (lv_at hl 0 rfl) ?_
          refine lv_iload_n hx hb dX12_misprintsNow_71 rfl (lv_at hl 1 rfl) ?_
          refine lv_iload_n hx hb dX12_misprintsNow_72 rfl (lv_at hl 2 rfl) ?_
          refine lv_iload_n hx hb dX12_misprintsNow_73 rfl (lv_at hl 3 rfl) ?_
          refine z_callVI (fr1 := 2) (b := 200) (As := [.int x1, .int x2, .int x3]) (rest := [.int (gI w7 240 (((4 : Int32) * x1) + x2).toNatClampNeg), .int (((4 : Int32) * x1) + x2), .ref (ad 240)]) X (hr.le (by decide)) hR zy_X12_fitsWith zq_1448 (zlit hR zf_200) (by rw [zs_200]; rfl) rfl (mX12_fitsWith  hf) rfl hl (Nat.le_of_ble_eq_true rfl) dX12_misprintsNow_74 rfl (fun r14 w14 H locs hf hR => ?_)
          have kJ15 : ∀ v15 : Int32, v15 = (if r14 = 0 then (0 : Int32) else ((1 : Int32) <<< (x3 &&& 31))) → W p l e R s m args below meth c H locs cells slots Q (F0 m 87 ls (.int v15 :: .int (gI w7 240 (((4 : Int32) * x1) + x2).toNatClampNeg) :: .int (((4 : Int32) * x1) + x2) :: .ref (ad 240) :: [])) := by
            intro v15 hv15
            replace hf := hf v15 hv15
            exact mX12_misprintsNow_J87 X hr hQ hg2 hg12 ih hf hR (lv_sub hl [0, 1, 2, 3] rfl)
          refine lv_if_eq (tgt := 86) hx hb dX12_misprintsNow_77 (by decide) (fun c15 => ?_) (fun c15 => ?_)
          · refine lv_iconst (v := (0 : Int32)) hx hb dX12_misprintsNow_86 (by decide) ?_
            exact kJ15 _ (if_pos c15).symm
          · refine lv_iconst (v := (1 : Int32)) hx hb dX12_misprintsNow_80 (by decide) ?_
            refine lv_iload_n hx hb dX12_misprintsNow_81 rfl (lv_at hl 3 rfl) ?_
            refine lv_ishl hx hb dX12_misprintsNow_82 ?_
            refine lv_goto (tgt := 87) hx hb dX12_misprintsNow_83 (by decide) ?_
            exact kJ15 _ (if_neg c15).symm
def fX12_misprintsNow_L12 (k : zW → Prop) (g2 : Int32 → zW → Prop) : Nat → Int32 → Int32 → zW → Prop
  | 0 => fun _ _ _ => False
  | n + 1 => fun x1 x2 w =>
    fX12_wordsTold  w (fun r3 w3 =>
    ((r3 ≤ x2 →
      g2 (x1 + (1 : Int32)) w3) ∧
     (¬ r3 ≤ x2 →
      vp_in (((4 : Int32) * x1) + x2) 32 ∧ 
      ∀ w6 : zW, w6 = sI w3 240 (((4 : Int32) * x1) + x2).toNatClampNeg (0 : Int32) →
      ∃ n9, fX12_misprintsNow_L33 k g2 (fX12_misprintsNow_L12 k g2 n) n9 x1 x2 (0 : Int32) w6)))
set_option maxHeartbeats 4000000 in
set_option maxRecDepth 100000 in
theorem mX12_misprintsNow_L12 {k : zW → Prop} {g2 : Int32 → zW → Prop} (X : zCx p s m args meth c cX12_misprintsNow 4 RX12 none) (hr : zRm R 3 cells slots) (hQ : zRetV p l e R s m args below meth c cells slots Q D dA true ad0 al0 ad al cX12_misprintsNow k) (hg2 : ∀ (x1 : Int32) (w : zW) (H : Heap) (locs : List Loc) (ls : Array Slot), g2 x1 w → zSt D dA true ad0 al0 ad al w s H locs → lv_has ls 4 [(0, .ref (ad 200)), (1, .int x1)] → W p l e R s m args below meth c H locs cells slots Q (F0 m 2 ls [])) : ∀ (n : Nat) (x1 : Int32) (x2 : Int32) (w : zW) (H : Heap) (locs : List Loc) (ls : Array Slot), fX12_misprintsNow_L12 k g2 n x1 x2 w → zSt D dA true ad0 al0 ad al w s H locs → lv_has ls 4 [(0, .ref (ad 200)), (1, .int x1), (2, .int x2)] → W p l e R s m args below meth c H locs cells slots Q (F0 m 12 ls []) := by
  intro n
  induction n with
  | zero => exact fun _ _ _ _ _ _ hf => hf.elim
  | succ n ih =>
    intro x1 x2 w H locs ls hf hR hl
    have hx := X.1
    have hb := X.2.1
    have hml := X.2.2.1
    have hown := X.2.2.2.1
    have hts := X.2.2.2.2.1
    rw [fX12_misprintsNow_L12] at hf
    refine lv_iload_n hx hb dX12_misprintsNow_12 rfl (lv_at hl 2 rfl) ?_
    refine lv_aload_n hx hb dX12_misprintsNow_13 rfl (lv_at hl 0 rfl) ?_
    refine z_callVI (fr1 := 0) (b := 200) (As := []) (rest := [.int x2]) X (hr.le (by decide)) hR zy_X12_wordsTold zq_211 (zlit hR zf_200) (by rw [zs_200]; rfl) rfl (mX12_wordsTold  hf) rfl hl (Nat.le_of_ble_eq_true rfl) dX12_misprintsNow_14 rfl (fun r3 w3 H locs hf hR => ?_)
    refine lv_icmp_ge (tgt := 101) hx hb dX12_misprintsNow_17 (by decide) (fun c4 => ?_) (fun c4 => ?_)
    · replace hf := hf.1 c4
      refine lv_iinc (v := x1 + (1 : Int32)) (lv' := [(1, .int (x1 + (1 : Int32))), (0, .ref (ad 200)), (2, .int x2)]) hx hb dX12_misprintsNow_101 hl (k := 1) rfl rfl (by decide) rfl (fun ls hl => ?_)
      refine lv_goto (tgt := 2) hx hb dX12_misprintsNow_104 (by decide) ?_
      exact hg2 (x1 + (1 : Int32)) w3 _ _ _ hf hR (lv_sub hl [1, 0] rfl)
    · replace hf := hf.2 c4
      refine lv_aload_n hx hb dX12_misprintsNow_20 rfl (lv_at hl 0 rfl) ?_
      refine z_getS X hR (zlit hR zf_200) zs_200 (by decide) zfd_X12_146 rfl (r := 240) (by decide +kernel) dX12_misprintsNow_21 ?_
      refine lv_iconst (v := (4 : Int32)) hx hb dX12_misprintsNow_24 (by decide) ?_
      refine lv_iload_n hx hb dX12_misprintsNow_25 rfl (lv_at hl 1 rfl) ?_
      refine lv_imul hx hb dX12_misprintsNow_26 ?_
      refine lv_iload_n hx hb dX12_misprintsNow_27 rfl (lv_at hl 2 rfl) ?_
      refine lv_iadd hx hb dX12_misprintsNow_28 ?_
      refine lv_iconst (v := (0 : Int32)) hx hb dX12_misprintsNow_29 (by decide) ?_
      obtain ⟨hb5, hf⟩ := hf
      refine z_iast X hR (zlit hR zf_240) zs_240 zl_240 hb5 dX12_misprintsNow_30 (fun H locs hR => ?_)
      obtain ⟨w6, hw6⟩ : ∃ z : zW, z = sI w3 240 (((4 : Int32) * x1) + x2).toNatClampNeg (0 : Int32) := ⟨_, rfl⟩
      rw [← hw6] at hR
      replace hf := hf w6 hw6
      refine lv_iconst (v := (0 : Int32)) hx hb dX12_misprintsNow_31 (by decide) ?_
      refine lv_istore_n (lv' := [(3, .int (0 : Int32)), (0, .ref (ad 200)), (1, .int x1), (2, .int x2)]) hx hb dX12_misprintsNow_32 rfl hl (by decide) rfl (fun ls hl => ?_)
      obtain ⟨n9, hf⟩ := hf
      exact mX12_misprintsNow_L33 X hr hQ hg2 ih n9 x1 x2 (0 : Int32) w6 _ _ _ hf hR (lv_sub hl [1, 2, 3, 0] rfl)
def fX12_misprintsNow_L2 (k : zW → Prop) : Nat → Int32 → zW → Prop
  | 0 => fun _ _ => False
  | n + 1 => fun x1 w =>
    fX12_rows  w (fun r1 w1 =>
    ((r1 ≤ x1 →
      k w1) ∧
     (¬ r1 ≤ x1 →
      ∃ n9, fX12_misprintsNow_L12 k (fX12_misprintsNow_L2 k n) n9 x1 (0 : Int32) w1)))
set_option maxHeartbeats 4000000 in
set_option maxRecDepth 100000 in
theorem mX12_misprintsNow_L2 {k : zW → Prop} (X : zCx p s m args meth c cX12_misprintsNow 4 RX12 none) (hr : zRm R 3 cells slots) (hQ : zRetV p l e R s m args below meth c cells slots Q D dA true ad0 al0 ad al cX12_misprintsNow k)  : ∀ (n : Nat) (x1 : Int32) (w : zW) (H : Heap) (locs : List Loc) (ls : Array Slot), fX12_misprintsNow_L2 k n x1 w → zSt D dA true ad0 al0 ad al w s H locs → lv_has ls 4 [(0, .ref (ad 200)), (1, .int x1)] → W p l e R s m args below meth c H locs cells slots Q (F0 m 2 ls []) := by
  intro n
  induction n with
  | zero => exact fun _ _ _ _ _ hf => hf.elim
  | succ n ih =>
    intro x1 w H locs ls hf hR hl
    have hx := X.1
    have hb := X.2.1
    have hml := X.2.2.1
    have hown := X.2.2.2.1
    have hts := X.2.2.2.2.1
    rw [fX12_misprintsNow_L2] at hf
    refine lv_iload_n hx hb dX12_misprintsNow_2 rfl (lv_at hl 1 rfl) ?_
    refine lv_aload_n hx hb dX12_misprintsNow_3 rfl (lv_at hl 0 rfl) ?_
    refine z_callVI (fr1 := 0) (b := 200) (As := []) (rest := [.int x1]) X (hr.le (by decide)) hR zy_X12_rows zq_199 (zlit hR zf_200) (by rw [zs_200]; rfl) rfl (mX12_rows  hf) rfl hl (Nat.le_of_ble_eq_true rfl) dX12_misprintsNow_4 rfl (fun r1 w1 H locs hf hR => ?_)
    refine lv_icmp_ge (tgt := 107) hx hb dX12_misprintsNow_7 (by decide) (fun c2 => ?_) (fun c2 => ?_)
    · replace hf := hf.1 c2
      exact hQ _ _ _ _ _ hf hR dX12_misprintsNow_107
    · replace hf := hf.2 c2
      refine lv_iconst (v := (0 : Int32)) hx hb dX12_misprintsNow_10 (by decide) ?_
      refine lv_istore_n (lv' := [(2, .int (0 : Int32)), (0, .ref (ad 200)), (1, .int x1)]) hx hb dX12_misprintsNow_11 rfl hl (by decide) rfl (fun ls hl => ?_)
      obtain ⟨n9, hf⟩ := hf
      exact mX12_misprintsNow_L12 X hr hQ ih n9 x1 (0 : Int32) w1 _ _ _ hf hR (lv_sub hl [1, 2, 0] rfl)
def fX12_misprintsNow (w : zW) (k : zW → Prop) : Prop :=
  ∃ n9, fX12_misprintsNow_L2 k n9 (0 : Int32) w
set_option maxHeartbeats 4000000 in
set_option maxRecDepth 100000 in
theorem mX12_misprintsNow {l : Launch} {D : va_G} {dA : Nat → ClassId} {ad : Nat → Nat} {al : Nat → Prop} {w : zW} {k : zW → Prop}   (hf : fX12_misprintsNow w k) : zmetV l yX12_misprintsNow cX12_misprintsNow 4 none 3 [.ref (ad 200)] D dA true ad al w k := by
  refine zmetV_of (by decide) (Nat.le_of_ble_eq_true rfl) ?_
  intro p e R s m below meth c Q H ls args locs cells slots X hr hQ hR hl
  have hx := X.1
  have hb := X.2.1
  have hml := X.2.2.1
  have hown := X.2.2.2.1
  have hts := X.2.2.2.2.1
  unfold fX12_misprintsNow at hf
  have hl : lv_has ls 4 [(0, .ref (ad 200))] := hl
  refine lv_iconst (v := (0 : Int32)) hx hb dX12_misprintsNow_0 (by decide) ?_
  refine lv_istore_n (lv' := [(1, .int (0 : Int32)), (0, .ref (ad 200))]) hx hb dX12_misprintsNow_1 rfl hl (by decide) rfl (fun ls hl => ?_)
  obtain ⟨n9, hf⟩ := hf
  exact mX12_misprintsNow_L2 X hr hQ  n9 (0 : Int32) w _ _ _ hf hR (lv_sub hl [1, 0] rfl)
/-! X12_misprints -/
def fX12_misprints_L23 (k : Int32 → zW → Prop) (g13 : Int32 → Int32 → zW → Prop) : Nat → Int32 → Int32 → Int32 → zW → Prop
  | 0 => fun _ _ _ _ => False
  | n + 1 => fun x1 x2 x3 w =>
    fX12_wordsTold  w (fun r5 w5 =>
    ((r5 ≤ x3 →
      g13 x1 (x2 + (1 : Int32)) w5) ∧
     (¬ r5 ≤ x3 →
      vp_in (((4 : Int32) * x2) + x3) 32 ∧ 
      fX12_bits (gI w5 240 (((4 : Int32) * x2) + x3).toNatClampNeg) w5 (fun r8 w8 =>
      ∀ v9 : Int32, v9 = x1 + ((gI w5 225 (((4 : Int32) * x2) + x3).toNatClampNeg) * r8) →
      fX12_misprints_L23 k g13 n v9 x2 (x3 + (1 : Int32)) w8))))
set_option maxHeartbeats 4000000 in
set_option maxRecDepth 100000 in
theorem mX12_misprints_L23 {k : Int32 → zW → Prop} {g13 : Int32 → Int32 → zW → Prop} (X : zCx p s m args meth c cX12_misprints 4 RX12 (some .int)) (hr : zRm R 4 cells slots) (hQ : zRetI p l e R s m args below meth c cells slots Q D dA true ad0 al0 ad al cX12_misprints k) (hg13 : ∀ (x1 : Int32) (x2 : Int32) (w : zW) (H : Heap) (locs : List Loc) (ls : Array Slot), g13 x1 x2 w → zSt D dA true ad0 al0 ad al w s H locs → lv_has ls 4 [(0, .ref (ad 200)), (1, .int x1), (2, .int x2)] → W p l e R s m args below meth c H locs cells slots Q (F0 m 13 ls [])) : ∀ (n : Nat) (x1 : Int32) (x2 : Int32) (x3 : Int32) (w : zW) (H : Heap) (locs : List Loc) (ls : Array Slot), fX12_misprints_L23 k g13 n x1 x2 x3 w → zSt D dA true ad0 al0 ad al w s H locs → lv_has ls 4 [(0, .ref (ad 200)), (1, .int x1), (2, .int x2), (3, .int x3)] → W p l e R s m args below meth c H locs cells slots Q (F0 m 23 ls []) := by
  intro n
  induction n with
  | zero => exact fun _ _ _ _ _ _ _ hf => hf.elim
  | succ n ih =>
    intro x1 x2 x3 w H locs ls hf hR hl
    have hx := X.1
    have hb := X.2.1
    have hml := X.2.2.1
    have hown := X.2.2.2.1
    have hts := X.2.2.2.2.1
    rw [fX12_misprints_L23] at hf
    refine lv_iload_n hx hb dX12_misprints_23 rfl (lv_at hl 3 rfl) ?_
    refine lv_aload_n hx hb dX12_misprints_24 rfl (lv_at hl 0 rfl) ?_
    refine z_callVI (fr1 := 0) (b := 200) (As := []) (rest := [.int x3]) X (hr.le (by decide)) hR zy_X12_wordsTold zq_211 (zlit hR zf_200) (by rw [zs_200]; rfl) rfl (mX12_wordsTold  hf) rfl hl (Nat.le_of_ble_eq_true rfl) dX12_misprints_25 rfl (fun r5 w5 H locs hf hR => ?_)
    refine lv_icmp_ge (tgt := 64) hx hb dX12_misprints_28 (by decide) (fun c6 => ?_) (fun c6 => ?_)
    · replace hf := hf.1 c6
      refine lv_iinc (v := x2 + (1 : Int32)) (lv' := [(2, .int (x2 + (1 : Int32))), (0, .ref (ad 200)), (1, .int x1), (3, .int x3)]) hx hb dX12_misprints_64 hl (k := 2) rfl rfl (by decide) rfl (fun ls hl => ?_)
      refine lv_goto (tgt := 13) hx hb dX12_misprints_67 (by decide) ?_
      exact hg13 x1 (x2 + (1 : Int32)) w5 _ _ _ hf hR (lv_sub hl [1, 2, 0] rfl)
    · replace hf := hf.2 c6
      refine lv_iload_n hx hb dX12_misprints_31 rfl (lv_at hl 1 rfl) ?_
      refine lv_aload_n hx hb dX12_misprints_32 rfl (lv_at hl 0 rfl) ?_
      refine z_getS X hR (zlit hR zf_200) zs_200 (by decide) zfd_X12_116 rfl (r := 225) (by decide +kernel) dX12_misprints_33 ?_
      refine lv_iconst (v := (4 : Int32)) hx hb dX12_misprints_36 (by decide) ?_
      refine lv_iload_n hx hb dX12_misprints_37 rfl (lv_at hl 2 rfl) ?_
      refine lv_imul hx hb dX12_misprints_38 ?_
      refine lv_iload_n hx hb dX12_misprints_39 rfl (lv_at hl 3 rfl) ?_
      refine lv_iadd hx hb dX12_misprints_40 ?_
      obtain ⟨hb7, hf⟩ := hf
      refine z_iald X hR (zlit hR zf_225) zs_225 zl_225 hb7 dX12_misprints_41 ?_
      refine lv_aload_n hx hb dX12_misprints_42 rfl (lv_at hl 0 rfl) ?_
      refine z_getS X hR (zlit hR zf_200) zs_200 (by decide) zfd_X12_146 rfl (r := 240) (by decide +kernel) dX12_misprints_43 ?_
      refine lv_iconst (v := (4 : Int32)) hx hb dX12_misprints_46 (by decide) ?_
      refine lv_iload_n hx hb dX12_misprints_47 rfl (lv_at hl 2 rfl) ?_
      refine lv_imul hx hb dX12_misprints_48 ?_
      refine lv_iload_n hx hb dX12_misprints_49 rfl (lv_at hl 3 rfl) ?_
      refine lv_iadd hx hb dX12_misprints_50 ?_
      refine z_iald X hR (zlit hR zf_240) zs_240 zl_240 hb7 dX12_misprints_51 ?_
      refine z_callSI (fr1 := 0) (As := [.int (gI w5 240 (((4 : Int32) * x2) + x3).toNatClampNeg)]) (rest := [.int (gI w5 225 (((4 : Int32) * x2) + x3).toNatClampNeg), .int x1]) X (hr.le (by decide)) hR zy_X12_bits zq_1097 (mX12_bits  hf) rfl hl (Nat.le_of_ble_eq_true rfl) dX12_misprints_52 rfl (fun r8 w8 H locs hf hR => ?_)
      refine lv_imul hx hb dX12_misprints_55 ?_
      refine lv_iadd hx hb dX12_misprints_56 ?_
      refine lv_topi (fun v9 hv9 => ?_)
      replace hf := hf v9 hv9
      refine lv_istore_n (lv' := [(1, .int v9), (0, .ref (ad 200)), (2, .int x2), (3, .int x3)]) hx hb dX12_misprints_57 rfl hl (by decide) rfl (fun ls hl => ?_)
      refine lv_iinc (v := x3 + (1 : Int32)) (lv' := [(3, .int (x3 + (1 : Int32))), (1, .int v9), (0, .ref (ad 200)), (2, .int x2)]) hx hb dX12_misprints_58 hl (k := 3) rfl rfl (by decide) rfl (fun ls hl => ?_)
      refine lv_goto (tgt := 23) hx hb dX12_misprints_61 (by decide) ?_
      exact ih v9 x2 (x3 + (1 : Int32)) w8 _ _ _ hf hR (lv_sub hl [2, 1, 3, 0] rfl)
def fX12_misprints_L13 (k : Int32 → zW → Prop) : Nat → Int32 → Int32 → zW → Prop
  | 0 => fun _ _ _ => False
  | n + 1 => fun x1 x2 w =>
    fX12_rows  w (fun r3 w3 =>
    ((r3 ≤ x2 →
      k x1 w3) ∧
     (¬ r3 ≤ x2 →
      ∃ n9, fX12_misprints_L23 k (fX12_misprints_L13 k n) n9 x1 x2 (0 : Int32) w3)))
set_option maxHeartbeats 4000000 in
set_option maxRecDepth 100000 in
theorem mX12_misprints_L13 {k : Int32 → zW → Prop} (X : zCx p s m args meth c cX12_misprints 4 RX12 (some .int)) (hr : zRm R 4 cells slots) (hQ : zRetI p l e R s m args below meth c cells slots Q D dA true ad0 al0 ad al cX12_misprints k)  : ∀ (n : Nat) (x1 : Int32) (x2 : Int32) (w : zW) (H : Heap) (locs : List Loc) (ls : Array Slot), fX12_misprints_L13 k n x1 x2 w → zSt D dA true ad0 al0 ad al w s H locs → lv_has ls 4 [(0, .ref (ad 200)), (1, .int x1), (2, .int x2)] → W p l e R s m args below meth c H locs cells slots Q (F0 m 13 ls []) := by
  intro n
  induction n with
  | zero => exact fun _ _ _ _ _ _ hf => hf.elim
  | succ n ih =>
    intro x1 x2 w H locs ls hf hR hl
    have hx := X.1
    have hb := X.2.1
    have hml := X.2.2.1
    have hown := X.2.2.2.1
    have hts := X.2.2.2.2.1
    rw [fX12_misprints_L13] at hf
    refine lv_iload_n hx hb dX12_misprints_13 rfl (lv_at hl 2 rfl) ?_
    refine lv_aload_n hx hb dX12_misprints_14 rfl (lv_at hl 0 rfl) ?_
    refine z_callVI (fr1 := 0) (b := 200) (As := []) (rest := [.int x2]) X (hr.le (by decide)) hR zy_X12_rows zq_199 (zlit hR zf_200) (by rw [zs_200]; rfl) rfl (mX12_rows  hf) rfl hl (Nat.le_of_ble_eq_true rfl) dX12_misprints_15 rfl (fun r3 w3 H locs hf hR => ?_)
    refine lv_icmp_ge (tgt := 70) hx hb dX12_misprints_18 (by decide) (fun c4 => ?_) (fun c4 => ?_)
    · replace hf := hf.1 c4
      refine lv_iload_n hx hb dX12_misprints_70 rfl (lv_at hl 1 rfl) ?_
      exact hQ _ _ _ _ _ _ hf hR dX12_misprints_71
    · replace hf := hf.2 c4
      refine lv_iconst (v := (0 : Int32)) hx hb dX12_misprints_21 (by decide) ?_
      refine lv_istore_n (lv' := [(3, .int (0 : Int32)), (0, .ref (ad 200)), (1, .int x1), (2, .int x2)]) hx hb dX12_misprints_22 rfl hl (by decide) rfl (fun ls hl => ?_)
      obtain ⟨n9, hf⟩ := hf
      exact mX12_misprints_L23 X hr hQ ih n9 x1 x2 (0 : Int32) w3 _ _ _ hf hR (lv_sub hl [1, 2, 3, 0] rfl)
def fX12_misprints (w : zW) (k : Int32 → zW → Prop) : Prop :=
  ∀ w1 : zW, w1 = sI w 200 0 (0 : Int32) →
  fX12_misprintsNow  w1 (fun w2 =>
  ∃ n9, fX12_misprints_L13 k n9 (0 : Int32) (0 : Int32) w2)
set_option maxHeartbeats 4000000 in
set_option maxRecDepth 100000 in
theorem mX12_misprints {l : Launch} {D : va_G} {dA : Nat → ClassId} {ad : Nat → Nat} {al : Nat → Prop} {w : zW} {k : Int32 → zW → Prop}   (hf : fX12_misprints w k) : zmetI l yX12_misprints cX12_misprints 4 (some .int) 4 [.ref (ad 200)] D dA true ad al w k := by
  refine zmetI_of (by decide) (Nat.le_of_ble_eq_true rfl) ?_
  intro p e R s m below meth c Q H ls args locs cells slots X hr hQ hR hl
  have hx := X.1
  have hb := X.2.1
  have hml := X.2.2.1
  have hown := X.2.2.2.1
  have hts := X.2.2.2.2.1
  unfold fX12_misprints at hf
  have hl : lv_has ls 4 [(0, .ref (ad 200))] := hl
  refine lv_aload_n hx hb dX12_misprints_0 rfl (lv_at hl 0 rfl) ?_
  refine lv_iconst (v := (0 : Int32)) hx hb dX12_misprints_1 (by decide) ?_
  refine z_putI X hR (zlit hR zf_200) zs_200 (by decide) zfp_X12_1 rfl dX12_misprints_2 (fun H locs hR => ?_)
  obtain ⟨w1, hw1⟩ : ∃ z : zW, z = sI w 200 0 (0 : Int32) := ⟨_, rfl⟩
  rw [← hw1] at hR
  replace hf := hf w1 hw1
  refine lv_aload_n hx hb dX12_misprints_5 rfl (lv_at hl 0 rfl) ?_
  refine z_callVV (fr1 := 3) (b := 200) (As := []) (rest := []) X (hr.le (by decide)) hR zy_X12_misprintsNow zq_1444 (zlit hR zf_200) (by rw [zs_200]; rfl) rfl (mX12_misprintsNow  hf) rfl hl (Nat.le_of_ble_eq_true rfl) dX12_misprints_6 rfl (fun w2 H locs hf hR => ?_)
  refine lv_iconst (v := (0 : Int32)) hx hb dX12_misprints_9 (by decide) ?_
  refine lv_istore_n (lv' := [(1, .int (0 : Int32)), (0, .ref (ad 200))]) hx hb dX12_misprints_10 rfl hl (by decide) rfl (fun ls hl => ?_)
  refine lv_iconst (v := (0 : Int32)) hx hb dX12_misprints_11 (by decide) ?_
  refine lv_istore_n (lv' := [(2, .int (0 : Int32)), (1, .int (0 : Int32)), (0, .ref (ad 200))]) hx hb dX12_misprints_12 rfl hl (by decide) rfl (fun ls hl => ?_)
  obtain ⟨n9, hf⟩ := hf
  exact mX12_misprints_L13 X hr hQ  n9 (0 : Int32) (0 : Int32) w2 _ _ _ hf hR (lv_sub hl [2, 1, 0] rfl)
/-! X12_misprint -/
def fX12_misprint_J80 (k : Int32 → zW → Prop) (g11 : Int32 → Int32 → zW → Prop) (g30 : Int32 → Int32 → Int32 → zW → Prop) (x1 : Int32) (x2 : Int32) (x3 : Int32) (x4 : Int32) (x5 : Int32) (w : zW) : Prop :=
  ((x4 = 0 →
    g30 x1 x2 (x3 + (1 : Int32)) w) ∧
   (¬ x4 = 0 →
    ∀ v14 : Int32, v14 = (if ¬ x1 = 0 then (if ¬ x1 = (1 : Int32) then x5 else x3) else x2) →
    k v14 w))
set_option maxHeartbeats 4000000 in
set_option maxRecDepth 100000 in
theorem mX12_misprint_J80 {k : Int32 → zW → Prop} {g11 : Int32 → Int32 → zW → Prop} {g30 : Int32 → Int32 → Int32 → zW → Prop} (X : zCx p s m args meth c cX12_misprint 6 RX12 (some .int)) (hr : zRm R 4 cells slots) (hQ : zRetI p l e R s m args below meth c cells slots Q D dA true ad0 al0 ad al cX12_misprint k) (hg11 : ∀ (x1 : Int32) (x2 : Int32) (w : zW) (H : Heap) (locs : List Loc) (ls : Array Slot), g11 x1 x2 w → zSt D dA true ad0 al0 ad al w s H locs → lv_has ls 6 [(0, .ref (ad 200)), (1, .int x1), (2, .int x2)] → W p l e R s m args below meth c H locs cells slots Q (F0 m 11 ls [])) (hg30 : ∀ (x1 : Int32) (x2 : Int32) (x3 : Int32) (w : zW) (H : Heap) (locs : List Loc) (ls : Array Slot), g30 x1 x2 x3 w → zSt D dA true ad0 al0 ad al w s H locs → lv_has ls 6 [(0, .ref (ad 200)), (1, .int x1), (2, .int x2), (3, .int x3)] → W p l e R s m args below meth c H locs cells slots Q (F0 m 30 ls [])) {x1 : Int32} {x2 : Int32} {x3 : Int32} {x4 : Int32} {x5 : Int32} {w : zW} {H : Heap} {locs : List Loc} {ls : Array Slot} (hf : fX12_misprint_J80 k g11 g30 x1 x2 x3 x4 x5 w) (hR : zSt D dA true ad0 al0 ad al w s H locs) (hl : lv_has ls 6 [(0, .ref (ad 200)), (1, .int x1), (2, .int x2), (3, .int x3), (4, .int x4), (5, .int x5)]) : W p l e R s m args below meth c H locs cells slots Q (F0 m 80 ls []) := by
  have hx := X.1
  have hb := X.2.1
  have hml := X.2.2.1
  have hown := X.2.2.2.1
  have hts := X.2.2.2.2.1
  unfold fX12_misprint_J80 at hf
  refine lv_iload hx hb dX12_misprint_80 (lv_at hl 4 rfl) ?_
  refine lv_if_eq (tgt := 105) hx hb dX12_misprint_82 (by decide) (fun c13 => ?_) (fun c13 => ?_)
  · replace hf := hf.1 c13
    refine lv_iinc (v := x3 + (1 : Int32)) (lv' := [(3, .int (x3 + (1 : Int32))), (0, .ref (ad 200)), (1, .int x1), (2, .int x2), (4, .int x4), (5, .int x5)]) hx hb dX12_misprint_105 hl (k := 3) rfl rfl (by decide) rfl (fun ls hl => ?_)
    refine lv_goto (tgt := 30) hx hb dX12_misprint_108 (by decide) ?_
    exact hg30 x1 x2 (x3 + (1 : Int32)) w _ _ _ hf hR (lv_sub hl [1, 2, 3, 0] rfl)
  · replace hf := hf.2 c13
    refine lv_iload_n hx hb dX12_misprint_85 rfl (lv_at hl 1 rfl) ?_
    have kJ14 : ∀ v14 : Int32, v14 = (if ¬ x1 = 0 then (if ¬ x1 = (1 : Int32) then x5 else x3) else x2) → W p l e R s m args below meth c H locs cells slots Q (F0 m 104 ls (.int v14 :: [])) := by
      intro v14 hv14
      replace hf := hf v14 hv14
      exact hQ _ _ _ _ _ _ hf hR dX12_misprint_104
    refine lv_if_ne (tgt := 93) hx hb dX12_misprint_86 (by decide) (fun c14 => ?_) (fun c14 => ?_)
    · refine lv_iload_n hx hb dX12_misprint_93 rfl (lv_at hl 1 rfl) ?_
      refine lv_iconst (v := (1 : Int32)) hx hb dX12_misprint_94 (by decide) ?_
      refine lv_icmp_ne (tgt := 102) hx hb dX12_misprint_95 (by decide) (fun c15 => ?_) (fun c15 => ?_)
      · refine lv_iload hx hb dX12_misprint_102 (lv_at hl 5 rfl) ?_
        exact kJ14 _ ((if_pos c14).trans (if_pos c15)).symm
      · refine lv_iload_n hx hb dX12_misprint_98 rfl (lv_at hl 3 rfl) ?_
        refine lv_goto (tgt := 104) hx hb dX12_misprint_99 (by decide) ?_
        exact kJ14 _ ((if_pos c14).trans (if_neg (fun h9 => h9 c15))).symm
    · refine lv_iload_n hx hb dX12_misprint_89 rfl (lv_at hl 2 rfl) ?_
      refine lv_goto (tgt := 104) hx hb dX12_misprint_90 (by decide) ?_
      exact kJ14 _ (if_neg (fun h9 => h9 c14)).symm
def fX12_misprint_L59 (k : Int32 → zW → Prop) (g11 : Int32 → Int32 → zW → Prop) (g30 : Int32 → Int32 → Int32 → zW → Prop) : Nat → Int32 → Int32 → Int32 → Int32 → Int32 → zW → Prop
  | 0 => fun _ _ _ _ _ _ => False
  | n + 1 => fun x1 x2 x3 x4 x5 w =>
    ((x4 = 0 →
      fX12_misprint_J80 k g11 g30 x1 x2 x3 x4 x5 w) ∧
     (¬ x4 = 0 →
      ((¬ ((x4 >>> (x5 &&& 31)) &&& (1 : Int32)) = 0 →
        fX12_misprint_J80 k g11 g30 x1 x2 x3 x4 x5 w) ∧
       (((x4 >>> (x5 &&& 31)) &&& (1 : Int32)) = 0 →
        fX12_misprint_L59 k g11 g30 n x1 x2 x3 x4 (x5 + (1 : Int32)) w))))
set_option maxHeartbeats 4000000 in
set_option maxRecDepth 100000 in
theorem mX12_misprint_L59 {k : Int32 → zW → Prop} {g11 : Int32 → Int32 → zW → Prop} {g30 : Int32 → Int32 → Int32 → zW → Prop} (X : zCx p s m args meth c cX12_misprint 6 RX12 (some .int)) (hr : zRm R 4 cells slots) (hQ : zRetI p l e R s m args below meth c cells slots Q D dA true ad0 al0 ad al cX12_misprint k) (hg11 : ∀ (x1 : Int32) (x2 : Int32) (w : zW) (H : Heap) (locs : List Loc) (ls : Array Slot), g11 x1 x2 w → zSt D dA true ad0 al0 ad al w s H locs → lv_has ls 6 [(0, .ref (ad 200)), (1, .int x1), (2, .int x2)] → W p l e R s m args below meth c H locs cells slots Q (F0 m 11 ls [])) (hg30 : ∀ (x1 : Int32) (x2 : Int32) (x3 : Int32) (w : zW) (H : Heap) (locs : List Loc) (ls : Array Slot), g30 x1 x2 x3 w → zSt D dA true ad0 al0 ad al w s H locs → lv_has ls 6 [(0, .ref (ad 200)), (1, .int x1), (2, .int x2), (3, .int x3)] → W p l e R s m args below meth c H locs cells slots Q (F0 m 30 ls [])) : ∀ (n : Nat) (x1 : Int32) (x2 : Int32) (x3 : Int32) (x4 : Int32) (x5 : Int32) (w : zW) (H : Heap) (locs : List Loc) (ls : Array Slot), fX12_misprint_L59 k g11 g30 n x1 x2 x3 x4 x5 w → zSt D dA true ad0 al0 ad al w s H locs → lv_has ls 6 [(0, .ref (ad 200)), (1, .int x1), (2, .int x2), (3, .int x3), (4, .int x4), (5, .int x5)] → W p l e R s m args below meth c H locs cells slots Q (F0 m 59 ls []) := by
  intro n
  induction n with
  | zero => exact fun _ _ _ _ _ _ _ _ _ hf => hf.elim
  | succ n ih =>
    intro x1 x2 x3 x4 x5 w H locs ls hf hR hl
    have hx := X.1
    have hb := X.2.1
    have hml := X.2.2.1
    have hown := X.2.2.2.1
    have hts := X.2.2.2.2.1
    rw [fX12_misprint_L59] at hf
    refine lv_iload hx hb dX12_misprint_59 (lv_at hl 4 rfl) ?_
    refine lv_if_eq (tgt := 80) hx hb dX12_misprint_61 (by decide) (fun c12 => ?_) (fun c12 => ?_)
    · replace hf := hf.1 c12
      exact mX12_misprint_J80 X hr hQ hg11 hg30 hf hR (lv_sub hl [0, 1, 2, 3, 4, 5] rfl)
    · replace hf := hf.2 c12
      refine lv_iload hx hb dX12_misprint_64 (lv_at hl 4 rfl) ?_
      refine lv_iload hx hb dX12_misprint_66 (lv_at hl 5 rfl) ?_
      refine lv_ishr hx hb dX12_misprint_68 ?_
      refine lv_iconst (v := (1 : Int32)) hx hb dX12_misprint_69 (by decide) ?_
      refine lv_iand hx hb dX12_misprint_70 ?_
      refine lv_if_ne (tgt := 80) hx hb dX12_misprint_71 (by decide) (fun c16 => ?_) (fun c16 => ?_)
      · replace hf := hf.1 c16
        exact mX12_misprint_J80 X hr hQ hg11 hg30 hf hR (lv_sub hl [0, 1, 2, 3, 4, 5] rfl)
      · replace hf := hf.2 c16
        refine lv_iinc (v := x5 + (1 : Int32)) (lv' := [(5, .int (x5 + (1 : Int32))), (0, .ref (ad 200)), (1, .int x1), (2, .int x2), (3, .int x3), (4, .int x4)]) hx hb dX12_misprint_74 hl (k := 5) rfl rfl (by decide) rfl (fun ls hl => ?_)
        refine lv_goto (tgt := 59) hx hb dX12_misprint_77 (by decide) ?_
        exact ih x1 x2 x3 x4 (x5 + (1 : Int32)) w _ _ _ hf hR (lv_sub hl [1, 2, 3, 4, 5, 0] rfl)
def fX12_misprint_L30 (k : Int32 → zW → Prop) (g11 : Int32 → Int32 → zW → Prop) : Nat → Int32 → Int32 → Int32 → zW → Prop
  | 0 => fun _ _ _ _ => False
  | n + 1 => fun x1 x2 x3 w =>
    fX12_longOf x2 w (fun r7 w7 =>
    ((r7 ≤ x3 →
      g11 x1 (x2 + (1 : Int32)) w7) ∧
     (¬ r7 ≤ x3 →
      fX12_itemOf x2 x3 w7 (fun r9 w9 =>
      vp_in (((4 : Int32) * x2) + r9) 32 ∧ 
      ∀ v11 : Int32, v11 = gI w9 240 (((4 : Int32) * x2) + r9).toNatClampNeg →
      ∃ n9, fX12_misprint_L59 k g11 (fX12_misprint_L30 k g11 n) n9 x1 x2 x3 v11 (0 : Int32) w9))))
set_option maxHeartbeats 4000000 in
set_option maxRecDepth 100000 in
theorem mX12_misprint_L30 {k : Int32 → zW → Prop} {g11 : Int32 → Int32 → zW → Prop} (X : zCx p s m args meth c cX12_misprint 6 RX12 (some .int)) (hr : zRm R 4 cells slots) (hQ : zRetI p l e R s m args below meth c cells slots Q D dA true ad0 al0 ad al cX12_misprint k) (hg11 : ∀ (x1 : Int32) (x2 : Int32) (w : zW) (H : Heap) (locs : List Loc) (ls : Array Slot), g11 x1 x2 w → zSt D dA true ad0 al0 ad al w s H locs → lv_has ls 6 [(0, .ref (ad 200)), (1, .int x1), (2, .int x2)] → W p l e R s m args below meth c H locs cells slots Q (F0 m 11 ls [])) : ∀ (n : Nat) (x1 : Int32) (x2 : Int32) (x3 : Int32) (w : zW) (H : Heap) (locs : List Loc) (ls : Array Slot), fX12_misprint_L30 k g11 n x1 x2 x3 w → zSt D dA true ad0 al0 ad al w s H locs → lv_has ls 6 [(0, .ref (ad 200)), (1, .int x1), (2, .int x2), (3, .int x3)] → W p l e R s m args below meth c H locs cells slots Q (F0 m 30 ls []) := by
  intro n
  induction n with
  | zero => exact fun _ _ _ _ _ _ _ hf => hf.elim
  | succ n ih =>
    intro x1 x2 x3 w H locs ls hf hR hl
    have hx := X.1
    have hb := X.2.1
    have hml := X.2.2.1
    have hown := X.2.2.2.1
    have hts := X.2.2.2.2.1
    rw [fX12_misprint_L30] at hf
    refine lv_iload_n hx hb dX12_misprint_30 rfl (lv_at hl 3 rfl) ?_
    refine lv_aload_n hx hb dX12_misprint_31 rfl (lv_at hl 0 rfl) ?_
    refine lv_iload_n hx hb dX12_misprint_32 rfl (lv_at hl 2 rfl) ?_
    refine z_callVI (fr1 := 0) (b := 200) (As := [.int x2]) (rest := [.int x3]) X (hr.le (by decide)) hR zy_X12_longOf zq_203 (zlit hR zf_200) (by rw [zs_200]; rfl) rfl (mX12_longOf  hf) rfl hl (Nat.le_of_ble_eq_true rfl) dX12_misprint_33 rfl (fun r7 w7 H locs hf hR => ?_)
    refine lv_icmp_ge (tgt := 111) hx hb dX12_misprint_36 (by decide) (fun c8 => ?_) (fun c8 => ?_)
    · replace hf := hf.1 c8
      refine lv_iinc (v := x2 + (1 : Int32)) (lv' := [(2, .int (x2 + (1 : Int32))), (0, .ref (ad 200)), (1, .int x1), (3, .int x3)]) hx hb dX12_misprint_111 hl (k := 2) rfl rfl (by decide) rfl (fun ls hl => ?_)
      refine lv_goto (tgt := 11) hx hb dX12_misprint_114 (by decide) ?_
      exact hg11 x1 (x2 + (1 : Int32)) w7 _ _ _ hf hR (lv_sub hl [1, 2, 0] rfl)
    · replace hf := hf.2 c8
      refine lv_aload_n hx hb dX12_misprint_39 rfl (lv_at hl 0 rfl) ?_
      refine z_getS X hR (zlit hR zf_200) zs_200 (by decide) zfd_X12_146 rfl (r := 240) (by decide +kernel) dX12_misprint_40 ?_
      refine lv_iconst (v := (4 : Int32)) hx hb dX12_misprint_43 (by decide) ?_
      refine lv_iload_n hx hb dX12_misprint_44 rfl (lv_at hl 2 rfl) ?_
      refine lv_imul hx hb dX12_misprint_45 ?_
      refine lv_aload_n hx hb dX12_misprint_46 rfl (lv_at hl 0 rfl) ?_
      refine lv_iload_n hx hb dX12_misprint_47 rfl (lv_at hl 2 rfl) ?_
      refine lv_iload_n hx hb dX12_misprint_48 rfl (lv_at hl 3 rfl) ?_
      refine z_callVI (fr1 := 0) (b := 200) (As := [.int x2, .int x3]) (rest := [.int ((4 : Int32) * x2), .ref (ad 240)]) X (hr.le (by decide)) hR zy_X12_itemOf zq_207 (zlit hR zf_200) (by rw [zs_200]; rfl) rfl (mX12_itemOf  hf) rfl hl (Nat.le_of_ble_eq_true rfl) dX12_misprint_49 rfl (fun r9 w9 H locs hf hR => ?_)
      refine lv_iadd hx hb dX12_misprint_52 ?_
      obtain ⟨hb10, hf⟩ := hf
      refine z_iald X hR (zlit hR zf_240) zs_240 zl_240 hb10 dX12_misprint_53 ?_
      refine lv_topi (fun v11 hv11 => ?_)
      replace hf := hf v11 hv11
      refine lv_istore (lv' := [(4, .int v11), (0, .ref (ad 200)), (1, .int x1), (2, .int x2), (3, .int x3)]) hx hb dX12_misprint_54 hl (by decide) rfl (fun ls hl => ?_)
      refine lv_iconst (v := (0 : Int32)) hx hb dX12_misprint_56 (by decide) ?_
      refine lv_istore (lv' := [(5, .int (0 : Int32)), (4, .int v11), (0, .ref (ad 200)), (1, .int x1), (2, .int x2), (3, .int x3)]) hx hb dX12_misprint_57 hl (by decide) rfl (fun ls hl => ?_)
      obtain ⟨n9, hf⟩ := hf
      exact mX12_misprint_L59 X hr hQ hg11 ih n9 x1 x2 x3 v11 (0 : Int32) w9 _ _ _ hf hR (lv_sub hl [2, 3, 4, 5, 1, 0] rfl)
def fX12_misprint_L11 (k : Int32 → zW → Prop) : Nat → Int32 → Int32 → zW → Prop
  | 0 => fun _ _ _ => False
  | n + 1 => fun x1 x2 w =>
    fX12_rows  w (fun r3 w3 =>
    ((r3 ≤ x2 →
      k (-1 : Int32) w3) ∧
     (¬ r3 ≤ x2 →
      fX12_within x1 (0 : Int32) (2 : Int32) w3 (fun r5 w5 =>
      ((r5 = 0 →
        k (-1 : Int32) w5) ∧
       (¬ r5 = 0 →
        ∃ n9, fX12_misprint_L30 k (fX12_misprint_L11 k n) n9 x1 x2 (0 : Int32) w5))))))
set_option maxHeartbeats 4000000 in
set_option maxRecDepth 100000 in
theorem mX12_misprint_L11 {k : Int32 → zW → Prop} (X : zCx p s m args meth c cX12_misprint 6 RX12 (some .int)) (hr : zRm R 4 cells slots) (hQ : zRetI p l e R s m args below meth c cells slots Q D dA true ad0 al0 ad al cX12_misprint k)  : ∀ (n : Nat) (x1 : Int32) (x2 : Int32) (w : zW) (H : Heap) (locs : List Loc) (ls : Array Slot), fX12_misprint_L11 k n x1 x2 w → zSt D dA true ad0 al0 ad al w s H locs → lv_has ls 6 [(0, .ref (ad 200)), (1, .int x1), (2, .int x2)] → W p l e R s m args below meth c H locs cells slots Q (F0 m 11 ls []) := by
  intro n
  induction n with
  | zero => exact fun _ _ _ _ _ _ hf => hf.elim
  | succ n ih =>
    intro x1 x2 w H locs ls hf hR hl
    have hx := X.1
    have hb := X.2.1
    have hml := X.2.2.1
    have hown := X.2.2.2.1
    have hts := X.2.2.2.2.1
    rw [fX12_misprint_L11] at hf
    refine lv_iload_n hx hb dX12_misprint_11 rfl (lv_at hl 2 rfl) ?_
    refine lv_aload_n hx hb dX12_misprint_12 rfl (lv_at hl 0 rfl) ?_
    refine z_callVI (fr1 := 0) (b := 200) (As := []) (rest := [.int x2]) X (hr.le (by decide)) hR zy_X12_rows zq_199 (zlit hR zf_200) (by rw [zs_200]; rfl) rfl (mX12_rows  hf) rfl hl (Nat.le_of_ble_eq_true rfl) dX12_misprint_13 rfl (fun r3 w3 H locs hf hR => ?_)
    refine lv_icmp_ge (tgt := 117) hx hb dX12_misprint_16 (by decide) (fun c4 => ?_) (fun c4 => ?_)
    · replace hf := hf.1 c4
      refine lv_iconst (v := (-1 : Int32)) hx hb dX12_misprint_117 (by decide) ?_
      exact hQ _ _ _ _ _ _ hf hR dX12_misprint_118
    · replace hf := hf.2 c4
      refine lv_iload_n hx hb dX12_misprint_19 rfl (lv_at hl 1 rfl) ?_
      refine lv_iconst (v := (0 : Int32)) hx hb dX12_misprint_20 (by decide) ?_
      refine lv_iconst (v := (2 : Int32)) hx hb dX12_misprint_21 (by decide) ?_
      refine z_callSI (fr1 := 0) (As := [.int x1, .int (0 : Int32), .int (2 : Int32)]) (rest := []) X (hr.le (by decide)) hR zy_X12_within zq_773 (mX12_within  hf) rfl hl (Nat.le_of_ble_eq_true rfl) dX12_misprint_22 rfl (fun r5 w5 H locs hf hR => ?_)
      refine lv_if_eq (tgt := 117) hx hb dX12_misprint_25 (by decide) (fun c6 => ?_) (fun c6 => ?_)
      · replace hf := hf.1 c6
        refine lv_iconst (v := (-1 : Int32)) hx hb dX12_misprint_117 (by decide) ?_
        exact hQ _ _ _ _ _ _ hf hR dX12_misprint_118
      · replace hf := hf.2 c6
        refine lv_iconst (v := (0 : Int32)) hx hb dX12_misprint_28 (by decide) ?_
        refine lv_istore_n (lv' := [(3, .int (0 : Int32)), (0, .ref (ad 200)), (1, .int x1), (2, .int x2)]) hx hb dX12_misprint_29 rfl hl (by decide) rfl (fun ls hl => ?_)
        obtain ⟨n9, hf⟩ := hf
        exact mX12_misprint_L30 X hr hQ ih n9 x1 x2 (0 : Int32) w5 _ _ _ hf hR (lv_sub hl [1, 2, 3, 0] rfl)
def fX12_misprint (x1 : Int32) (w : zW) (k : Int32 → zW → Prop) : Prop :=
  ∀ w1 : zW, w1 = sI w 200 0 (0 : Int32) →
  fX12_misprintsNow  w1 (fun w2 =>
  ∃ n9, fX12_misprint_L11 k n9 x1 (0 : Int32) w2)
set_option maxHeartbeats 4000000 in
set_option maxRecDepth 100000 in
theorem mX12_misprint {l : Launch} {D : va_G} {dA : Nat → ClassId} {ad : Nat → Nat} {al : Nat → Prop} {w : zW} {k : Int32 → zW → Prop} {x1 : Int32}   (hf : fX12_misprint x1 w k) : zmetI l yX12_misprint cX12_misprint 6 (some .int) 4 [.ref (ad 200), .int x1] D dA true ad al w k := by
  refine zmetI_of (by decide) (Nat.le_of_ble_eq_true rfl) ?_
  intro p e R s m below meth c Q H ls args locs cells slots X hr hQ hR hl
  have hx := X.1
  have hb := X.2.1
  have hml := X.2.2.1
  have hown := X.2.2.2.1
  have hts := X.2.2.2.2.1
  unfold fX12_misprint at hf
  have hl : lv_has ls 6 [(0, .ref (ad 200)), (1, .int x1)] := hl
  refine lv_aload_n hx hb dX12_misprint_0 rfl (lv_at hl 0 rfl) ?_
  refine lv_iconst (v := (0 : Int32)) hx hb dX12_misprint_1 (by decide) ?_
  refine z_putI X hR (zlit hR zf_200) zs_200 (by decide) zfp_X12_1 rfl dX12_misprint_2 (fun H locs hR => ?_)
  obtain ⟨w1, hw1⟩ : ∃ z : zW, z = sI w 200 0 (0 : Int32) := ⟨_, rfl⟩
  rw [← hw1] at hR
  replace hf := hf w1 hw1
  refine lv_aload_n hx hb dX12_misprint_5 rfl (lv_at hl 0 rfl) ?_
  refine z_callVV (fr1 := 3) (b := 200) (As := []) (rest := []) X (hr.le (by decide)) hR zy_X12_misprintsNow zq_1444 (zlit hR zf_200) (by rw [zs_200]; rfl) rfl (mX12_misprintsNow  hf) rfl hl (Nat.le_of_ble_eq_true rfl) dX12_misprint_6 rfl (fun w2 H locs hf hR => ?_)
  refine lv_iconst (v := (0 : Int32)) hx hb dX12_misprint_9 (by decide) ?_
  refine lv_istore_n (lv' := [(2, .int (0 : Int32)), (0, .ref (ad 200)), (1, .int x1)]) hx hb dX12_misprint_10 rfl hl (by decide) rfl (fun ls hl => ?_)
  obtain ⟨n9, hf⟩ := hf
  exact mX12_misprint_L11 X hr hQ  n9 x1 (0 : Int32) w2 _ _ _ hf hR (lv_sub hl [1, 2, 0] rfl)
/-! X12_turned -/
def fX12_turned_L13 (k : Int32 → zW → Prop) : Nat → Int32 → Int32 → Int32 → zW → Prop
  | 0 => fun _ _ _ _ => False
  | n + 1 => fun x1 x2 x3 w =>
    ((x2 = 0 →
      zb01 x2 ∧ k x2 w) ∧
     (¬ x2 = 0 →
      fX12_longOf x1 w (fun r4 w4 =>
      ((r4 ≤ x3 →
        zb01 x2 ∧ k x2 w4) ∧
       (¬ r4 ≤ x3 →
        fX12_itemOf x1 x3 w4 (fun r6 w6 =>
        fX12_longOf x1 w6 (fun r7 w7 =>
        fX12_itemOf x1 ((r7 - (1 : Int32)) - x3) w7 (fun r8 w8 =>
        ∀ v9 : Int32, v9 = (if ¬ r6 = r8 then (0 : Int32) else (1 : Int32)) →
        fX12_turned_L13 k n x1 v9 (x3 + (1 : Int32)) w8))))))))
set_option maxHeartbeats 4000000 in
set_option maxRecDepth 100000 in
theorem mX12_turned_L13 {k : Int32 → zW → Prop} (X : zCx p s m args meth c cX12_turned 4 RX12 (some .boolean)) (hr : zRm R 2 cells slots) (hQ : zRetZ p l e R s m args below meth c cells slots Q D dA true ad0 al0 ad al cX12_turned k)  : ∀ (n : Nat) (x1 : Int32) (x2 : Int32) (x3 : Int32) (w : zW) (H : Heap) (locs : List Loc) (ls : Array Slot), fX12_turned_L13 k n x1 x2 x3 w → zSt D dA true ad0 al0 ad al w s H locs → lv_has ls 4 [(0, .ref (ad 200)), (1, .int x1), (2, .int x2), (3, .int x3)] → W p l e R s m args below meth c H locs cells slots Q (F0 m 13 ls []) := by
  intro n
  induction n with
  | zero => exact fun _ _ _ _ _ _ _ hf => hf.elim
  | succ n ih =>
    intro x1 x2 x3 w H locs ls hf hR hl
    have hx := X.1
    have hb := X.2.1
    have hml := X.2.2.1
    have hown := X.2.2.2.1
    have hts := X.2.2.2.2.1
    rw [fX12_turned_L13] at hf
    refine lv_iload_n hx hb dX12_turned_13 rfl (lv_at hl 2 rfl) ?_
    refine lv_if_eq (tgt := 61) hx hb dX12_turned_14 (by decide) (fun c3 => ?_) (fun c3 => ?_)
    · replace hf := hf.1 c3
      refine lv_iload_n hx hb dX12_turned_61 rfl (lv_at hl 2 rfl) ?_
      obtain ⟨h01, hf⟩ := hf
      exact hQ _ _ _ _ _ _ h01 hf hR dX12_turned_62
    · replace hf := hf.2 c3
      refine lv_iload_n hx hb dX12_turned_17 rfl (lv_at hl 3 rfl) ?_
      refine lv_aload_n hx hb dX12_turned_18 rfl (lv_at hl 0 rfl) ?_
      refine lv_iload_n hx hb dX12_turned_19 rfl (lv_at hl 1 rfl) ?_
      refine z_callVI (fr1 := 0) (b := 200) (As := [.int x1]) (rest := [.int x3]) X (hr.le (by decide)) hR zy_X12_longOf zq_203 (zlit hR zf_200) (by rw [zs_200]; rfl) rfl (mX12_longOf  hf) rfl hl (Nat.le_of_ble_eq_true rfl) dX12_turned_20 rfl (fun r4 w4 H locs hf hR => ?_)
      refine lv_icmp_ge (tgt := 61) hx hb dX12_turned_23 (by decide) (fun c5 => ?_) (fun c5 => ?_)
      · replace hf := hf.1 c5
        refine lv_iload_n hx hb dX12_turned_61 rfl (lv_at hl 2 rfl) ?_
        obtain ⟨h01, hf⟩ := hf
        exact hQ _ _ _ _ _ _ h01 hf hR dX12_turned_62
      · replace hf := hf.2 c5
        refine lv_aload_n hx hb dX12_turned_26 rfl (lv_at hl 0 rfl) ?_
        refine lv_iload_n hx hb dX12_turned_27 rfl (lv_at hl 1 rfl) ?_
        refine lv_iload_n hx hb dX12_turned_28 rfl (lv_at hl 3 rfl) ?_
        refine z_callVI (fr1 := 0) (b := 200) (As := [.int x1, .int x3]) (rest := []) X (hr.le (by decide)) hR zy_X12_itemOf zq_207 (zlit hR zf_200) (by rw [zs_200]; rfl) rfl (mX12_itemOf  hf) rfl hl (Nat.le_of_ble_eq_true rfl) dX12_turned_29 rfl (fun r6 w6 H locs hf hR => ?_)
        refine lv_aload_n hx hb dX12_turned_32 rfl (lv_at hl 0 rfl) ?_
        refine lv_iload_n hx hb dX12_turned_33 rfl (lv_at hl 1 rfl) ?_
        refine lv_aload_n hx hb dX12_turned_34 rfl (lv_at hl 0 rfl) ?_
        refine lv_iload_n hx hb dX12_turned_35 rfl (lv_at hl 1 rfl) ?_
        refine z_callVI (fr1 := 0) (b := 200) (As := [.int x1]) (rest := [.int x1, .ref (ad 200), .int r6]) X (hr.le (by decide)) hR zy_X12_longOf zq_203 (zlit hR zf_200) (by rw [zs_200]; rfl) rfl (mX12_longOf  hf) rfl hl (Nat.le_of_ble_eq_true rfl) dX12_turned_36 rfl (fun r7 w7 H locs hf hR => ?_)
        refine lv_iconst (v := (1 : Int32)) hx hb dX12_turned_39 (by decide) ?_
        refine lv_isub hx hb dX12_turned_40 ?_
        refine lv_iload_n hx hb dX12_turned_41 rfl (lv_at hl 3 rfl) ?_
        refine lv_isub hx hb dX12_turned_42 ?_
        refine z_callVI (fr1 := 0) (b := 200) (As := [.int x1, .int ((r7 - (1 : Int32)) - x3)]) (rest := [.int r6]) X (hr.le (by decide)) hR zy_X12_itemOf zq_207 (zlit hR zf_200) (by rw [zs_200]; rfl) rfl (mX12_itemOf  hf) rfl hl (Nat.le_of_ble_eq_true rfl) dX12_turned_43 rfl (fun r8 w8 H locs hf hR => ?_)
        have kJ9 : ∀ v9 : Int32, v9 = (if ¬ r6 = r8 then (0 : Int32) else (1 : Int32)) → W p l e R s m args below meth c H locs cells slots Q (F0 m 54 ls (.int v9 :: [])) := by
          intro v9 hv9
          replace hf := hf v9 hv9
          refine lv_istore_n (lv' := [(2, .int v9), (0, .ref (ad 200)), (1, .int x1), (3, .int x3)]) hx hb dX12_turned_54 rfl hl (by decide) rfl (fun ls hl => ?_)
          refine lv_iinc (v := x3 + (1 : Int32)) (lv' := [(3, .int (x3 + (1 : Int32))), (2, .int v9), (0, .ref (ad 200)), (1, .int x1)]) hx hb dX12_turned_55 hl (k := 3) rfl rfl (by decide) rfl (fun ls hl => ?_)
          refine lv_goto (tgt := 13) hx hb dX12_turned_58 (by decide) ?_
          exact ih x1 v9 (x3 + (1 : Int32)) w8 _ _ _ hf hR (lv_sub hl [2, 3, 1, 0] rfl)
        refine lv_icmp_ne (tgt := 53) hx hb dX12_turned_46 (by decide) (fun c9 => ?_) (fun c9 => ?_)
        · refine lv_iconst (v := (0 : Int32)) hx hb dX12_turned_53 (by decide) ?_
          exact kJ9 _ (if_pos c9).symm
        · refine lv_iconst (v := (1 : Int32)) hx hb dX12_turned_49 (by decide) ?_
          refine lv_goto (tgt := 54) hx hb dX12_turned_50 (by decide) ?_
          exact kJ9 _ (if_neg (fun h9 => h9 c9)).symm
def fX12_turned (x1 : Int32) (w : zW) (k : Int32 → zW → Prop) : Prop :=
  ∀ w1 : zW, w1 = sI w 200 0 (0 : Int32) →
  fX12_isRow x1 w1 (fun r2 w2 =>
  ∃ n9, fX12_turned_L13 k n9 x1 r2 (0 : Int32) w2)
set_option maxHeartbeats 4000000 in
set_option maxRecDepth 100000 in
theorem mX12_turned {l : Launch} {D : va_G} {dA : Nat → ClassId} {ad : Nat → Nat} {al : Nat → Prop} {w : zW} {k : Int32 → zW → Prop} {x1 : Int32}   (hf : fX12_turned x1 w k) : zmetI l yX12_turned cX12_turned 4 (some .boolean) 2 [.ref (ad 200), .int x1] D dA true ad al w k := by
  refine zmetZ_of (by decide) (Nat.le_of_ble_eq_true rfl) ?_
  intro p e R s m below meth c Q H ls args locs cells slots X hr hQ hR hl
  have hx := X.1
  have hb := X.2.1
  have hml := X.2.2.1
  have hown := X.2.2.2.1
  have hts := X.2.2.2.2.1
  unfold fX12_turned at hf
  have hl : lv_has ls 4 [(0, .ref (ad 200)), (1, .int x1)] := hl
  refine lv_aload_n hx hb dX12_turned_0 rfl (lv_at hl 0 rfl) ?_
  refine lv_iconst (v := (0 : Int32)) hx hb dX12_turned_1 (by decide) ?_
  refine z_putI X hR (zlit hR zf_200) zs_200 (by decide) zfp_X12_1 rfl dX12_turned_2 (fun H locs hR => ?_)
  obtain ⟨w1, hw1⟩ : ∃ z : zW, z = sI w 200 0 (0 : Int32) := ⟨_, rfl⟩
  rw [← hw1] at hR
  replace hf := hf w1 hw1
  refine lv_aload_n hx hb dX12_turned_5 rfl (lv_at hl 0 rfl) ?_
  refine lv_iload_n hx hb dX12_turned_6 rfl (lv_at hl 1 rfl) ?_
  refine z_callVI (fr1 := 1) (b := 200) (As := [.int x1]) (rest := []) X (hr.le (by decide)) hR zy_X12_isRow zq_833 (zlit hR zf_200) (by rw [zs_200]; rfl) rfl (mX12_isRow  hf) rfl hl (Nat.le_of_ble_eq_true rfl) dX12_turned_7 rfl (fun r2 w2 H locs hf hR => ?_)
  refine lv_istore_n (lv' := [(2, .int r2), (0, .ref (ad 200)), (1, .int x1)]) hx hb dX12_turned_10 rfl hl (by decide) rfl (fun ls hl => ?_)
  refine lv_iconst (v := (0 : Int32)) hx hb dX12_turned_11 (by decide) ?_
  refine lv_istore_n (lv' := [(3, .int (0 : Int32)), (2, .int r2), (0, .ref (ad 200)), (1, .int x1)]) hx hb dX12_turned_12 rfl hl (by decide) rfl (fun ls hl => ?_)
  obtain ⟨n9, hf⟩ := hf
  exact mX12_turned_L13 X hr hQ  n9 x1 r2 (0 : Int32) w2 _ _ _ hf hR (lv_sub hl [2, 3, 1, 0] rfl)
/-! X12_alike -/
def fX12_alike_J120 (k : Int32 → zW → Prop) (g48 : Int32 → Int32 → Int32 → Int32 → zW → Prop) (g65 : Int32 → Int32 → Int32 → Int32 → Int32 → zW → Prop) (x1 : Int32) (x2 : Int32) (x4 : Int32) (x5 : Int32) (t0 : Int32) (t1 : Int32) (w : zW) : Prop :=
  ∀ v15 : Int32, v15 = (if ¬ t1 = t0 then (0 : Int32) else (1 : Int32)) →
  g65 x1 x2 v15 x4 (x5 + (1 : Int32)) w
set_option maxHeartbeats 4000000 in
set_option maxRecDepth 100000 in
theorem mX12_alike_J120 {k : Int32 → zW → Prop} {g48 : Int32 → Int32 → Int32 → Int32 → zW → Prop} {g65 : Int32 → Int32 → Int32 → Int32 → Int32 → zW → Prop} (X : zCx p s m args meth c cX12_alike 6 RX12 (some .boolean)) (hr : zRm R 2 cells slots) (hQ : zRetZ p l e R s m args below meth c cells slots Q D dA true ad0 al0 ad al cX12_alike k) (hg48 : ∀ (x1 : Int32) (x2 : Int32) (x3 : Int32) (x4 : Int32) (w : zW) (H : Heap) (locs : List Loc) (ls : Array Slot), g48 x1 x2 x3 x4 w → zSt D dA true ad0 al0 ad al w s H locs → lv_has ls 6 [(0, .ref (ad 200)), (1, .int x1), (2, .int x2), (3, .int x3), (4, .int x4)] → W p l e R s m args below meth c H locs cells slots Q (F0 m 48 ls [])) (hg65 : ∀ (x1 : Int32) (x2 : Int32) (x3 : Int32) (x4 : Int32) (x5 : Int32) (w : zW) (H : Heap) (locs : List Loc) (ls : Array Slot), g65 x1 x2 x3 x4 x5 w → zSt D dA true ad0 al0 ad al w s H locs → lv_has ls 6 [(0, .ref (ad 200)), (1, .int x1), (2, .int x2), (3, .int x3), (4, .int x4), (5, .int x5)] → W p l e R s m args below meth c H locs cells slots Q (F0 m 65 ls [])) {x1 : Int32} {x2 : Int32} {x4 : Int32} {x5 : Int32} {t0 : Int32} {t1 : Int32} {w : zW} {H : Heap} {locs : List Loc} {ls : Array Slot} (hf : fX12_alike_J120 k g48 g65 x1 x2 x4 x5 t0 t1 w) (hR : zSt D dA true ad0 al0 ad al w s H locs) (hl : lv_has ls 6 [(0, .ref (ad 200)), (1, .int x1), (2, .int x2), (4, .int x4), (5, .int x5)]) : W p l e R s m args below meth c H locs cells slots Q (F0 m 120 ls [.int t0, .int t1]) := by
  have hx := X.1
  have hb := X.2.1
  have hml := X.2.2.1
  have hown := X.2.2.2.1
  have hts := X.2.2.2.2.1
  unfold fX12_alike_J120 at hf
  have kJ15 : ∀ v15 : Int32, v15 = (if ¬ t1 = t0 then (0 : Int32) else (1 : Int32)) → W p l e R s m args below meth c H locs cells slots Q (F0 m 128 ls (.int v15 :: [])) := by
    intro v15 hv15
    replace hf := hf v15 hv15
    refine lv_istore_n (lv' := [(3, .int v15), (0, .ref (ad 200)), (1, .int x1), (2, .int x2), (4, .int x4), (5, .int x5)]) hx hb dX12_alike_128 rfl hl (by decide) rfl (fun ls hl => ?_)
    refine lv_iinc (v := x5 + (1 : Int32)) (lv' := [(5, .int (x5 + (1 : Int32))), (3, .int v15), (0, .ref (ad 200)), (1, .int x1), (2, .int x2), (4, .int x4)]) hx hb dX12_alike_129 hl (k := 5) rfl rfl (by decide) rfl (fun ls hl => ?_)
    refine lv_goto (tgt := 65) hx hb dX12_alike_132 (by decide) ?_
    exact hg65 x1 x2 v15 x4 (x5 + (1 : Int32)) w _ _ _ hf hR (lv_sub hl [2, 3, 4, 1, 5, 0] rfl)
  refine lv_icmp_ne (tgt := 127) hx hb dX12_alike_120 (by decide) (fun c15 => ?_) (fun c15 => ?_)
  · refine lv_iconst (v := (0 : Int32)) hx hb dX12_alike_127 (by decide) ?_
    exact kJ15 _ (if_pos c15).symm
  · refine lv_iconst (v := (1 : Int32)) hx hb dX12_alike_123 (by decide) ?_
    refine lv_goto (tgt := 128) hx hb dX12_alike_124 (by decide) ?_
    exact kJ15 _ (if_neg (fun h9 => h9 c15)).symm
def fX12_alike_J98 (k : Int32 → zW → Prop) (g48 : Int32 → Int32 → Int32 → Int32 → zW → Prop) (g65 : Int32 → Int32 → Int32 → Int32 → Int32 → zW → Prop) (x1 : Int32) (x2 : Int32) (x4 : Int32) (x5 : Int32) (t0 : Int32) (w : zW) : Prop :=
  fX12_itemOf x2 x4 w (fun r12 w12 =>
  fX12_itemOf x2 x5 w12 (fun r13 w13 =>
  ∀ v14 : Int32, v14 = (if ¬ r12 = r13 then (0 : Int32) else (1 : Int32)) →
  fX12_alike_J120 k g48 g65 x1 x2 x4 x5 v14 t0 w13))
set_option maxHeartbeats 4000000 in
set_option maxRecDepth 100000 in
theorem mX12_alike_J98 {k : Int32 → zW → Prop} {g48 : Int32 → Int32 → Int32 → Int32 → zW → Prop} {g65 : Int32 → Int32 → Int32 → Int32 → Int32 → zW → Prop} (X : zCx p s m args meth c cX12_alike 6 RX12 (some .boolean)) (hr : zRm R 2 cells slots) (hQ : zRetZ p l e R s m args below meth c cells slots Q D dA true ad0 al0 ad al cX12_alike k) (hg48 : ∀ (x1 : Int32) (x2 : Int32) (x3 : Int32) (x4 : Int32) (w : zW) (H : Heap) (locs : List Loc) (ls : Array Slot), g48 x1 x2 x3 x4 w → zSt D dA true ad0 al0 ad al w s H locs → lv_has ls 6 [(0, .ref (ad 200)), (1, .int x1), (2, .int x2), (3, .int x3), (4, .int x4)] → W p l e R s m args below meth c H locs cells slots Q (F0 m 48 ls [])) (hg65 : ∀ (x1 : Int32) (x2 : Int32) (x3 : Int32) (x4 : Int32) (x5 : Int32) (w : zW) (H : Heap) (locs : List Loc) (ls : Array Slot), g65 x1 x2 x3 x4 x5 w → zSt D dA true ad0 al0 ad al w s H locs → lv_has ls 6 [(0, .ref (ad 200)), (1, .int x1), (2, .int x2), (3, .int x3), (4, .int x4), (5, .int x5)] → W p l e R s m args below meth c H locs cells slots Q (F0 m 65 ls [])) {x1 : Int32} {x2 : Int32} {x4 : Int32} {x5 : Int32} {t0 : Int32} {w : zW} {H : Heap} {locs : List Loc} {ls : Array Slot} (hf : fX12_alike_J98 k g48 g65 x1 x2 x4 x5 t0 w) (hR : zSt D dA true ad0 al0 ad al w s H locs) (hl : lv_has ls 6 [(0, .ref (ad 200)), (1, .int x1), (2, .int x2), (4, .int x4), (5, .int x5)]) : W p l e R s m args below meth c H locs cells slots Q (F0 m 98 ls [.int t0]) := by
  have hx := X.1
  have hb := X.2.1
  have hml := X.2.2.1
  have hown := X.2.2.2.1
  have hts := X.2.2.2.2.1
  unfold fX12_alike_J98 at hf
  refine lv_aload_n hx hb dX12_alike_98 rfl (lv_at hl 0 rfl) ?_
  refine lv_iload_n hx hb dX12_alike_99 rfl (lv_at hl 2 rfl) ?_
  refine lv_iload hx hb dX12_alike_100 (lv_at hl 3 rfl) ?_
  refine z_callVI (fr1 := 0) (b := 200) (As := [.int x2, .int x4]) (rest := [.int t0]) X (hr.le (by decide)) hR zy_X12_itemOf zq_207 (zlit hR zf_200) (by rw [zs_200]; rfl) rfl (mX12_itemOf  hf) rfl hl (Nat.le_of_ble_eq_true rfl) dX12_alike_102 rfl (fun r12 w12 H locs hf hR => ?_)
  refine lv_aload_n hx hb dX12_alike_105 rfl (lv_at hl 0 rfl) ?_
  refine lv_iload_n hx hb dX12_alike_106 rfl (lv_at hl 2 rfl) ?_
  refine lv_iload hx hb dX12_alike_107 (lv_at hl 4 rfl) ?_
  refine z_callVI (fr1 := 0) (b := 200) (As := [.int x2, .int x5]) (rest := [.int r12, .int t0]) X (hr.le (by decide)) hR zy_X12_itemOf zq_207 (zlit hR zf_200) (by rw [zs_200]; rfl) rfl (mX12_itemOf  hf) rfl hl (Nat.le_of_ble_eq_true rfl) dX12_alike_109 rfl (fun r13 w13 H locs hf hR => ?_)
  have kJ14 : ∀ v14 : Int32, v14 = (if ¬ r12 = r13 then (0 : Int32) else (1 : Int32)) → W p l e R s m args below meth c H locs cells slots Q (F0 m 120 ls (.int v14 :: .int t0 :: [])) := by
    intro v14 hv14
    replace hf := hf v14 hv14
    exact mX12_alike_J120 X hr hQ hg48 hg65 hf hR (lv_sub hl [0, 1, 2, 3, 4] rfl)
  refine lv_icmp_ne (tgt := 119) hx hb dX12_alike_112 (by decide) (fun c14 => ?_) (fun c14 => ?_)
  · refine lv_iconst (v := (0 : Int32)) hx hb dX12_alike_119 (by decide) ?_
    exact kJ14 _ (if_pos c14).symm
  · refine lv_iconst (v := (1 : Int32)) hx hb dX12_alike_115 (by decide) ?_
    refine lv_goto (tgt := 120) hx hb dX12_alike_116 (by decide) ?_
    exact kJ14 _ (if_neg (fun h9 => h9 c14)).symm
def fX12_alike_L65 (k : Int32 → zW → Prop) (g48 : Int32 → Int32 → Int32 → Int32 → zW → Prop) : Nat → Int32 → Int32 → Int32 → Int32 → Int32 → zW → Prop
  | 0 => fun _ _ _ _ _ _ => False
  | n + 1 => fun x1 x2 x3 x4 x5 w =>
    ((x4 ≤ x5 →
      g48 x1 x2 x3 (x4 + (1 : Int32)) w) ∧
     (¬ x4 ≤ x5 →
      ((x3 = 0 →
        fX12_alike_L65 k g48 n x1 x2 (0 : Int32) x4 (x5 + (1 : Int32)) w) ∧
       (¬ x3 = 0 →
        fX12_itemOf x1 x4 w (fun r9 w9 =>
        fX12_itemOf x1 x5 w9 (fun r10 w10 =>
        ∀ v11 : Int32, v11 = (if ¬ r9 = r10 then (0 : Int32) else (1 : Int32)) →
        fX12_alike_J98 k g48 (fX12_alike_L65 k g48 n) x1 x2 x4 x5 v11 w10))))))
set_option maxHeartbeats 4000000 in
set_option maxRecDepth 100000 in
theorem mX12_alike_L65 {k : Int32 → zW → Prop} {g48 : Int32 → Int32 → Int32 → Int32 → zW → Prop} (X : zCx p s m args meth c cX12_alike 6 RX12 (some .boolean)) (hr : zRm R 2 cells slots) (hQ : zRetZ p l e R s m args below meth c cells slots Q D dA true ad0 al0 ad al cX12_alike k) (hg48 : ∀ (x1 : Int32) (x2 : Int32) (x3 : Int32) (x4 : Int32) (w : zW) (H : Heap) (locs : List Loc) (ls : Array Slot), g48 x1 x2 x3 x4 w → zSt D dA true ad0 al0 ad al w s H locs → lv_has ls 6 [(0, .ref (ad 200)), (1, .int x1), (2, .int x2), (3, .int x3), (4, .int x4)] → W p l e R s m args below meth c H locs cells slots Q (F0 m 48 ls [])) : ∀ (n : Nat) (x1 : Int32) (x2 : Int32) (x3 : Int32) (x4 : Int32) (x5 : Int32) (w : zW) (H : Heap) (locs : List Loc) (ls : Array Slot), fX12_alike_L65 k g48 n x1 x2 x3 x4 x5 w → zSt D dA true ad0 al0 ad al w s H locs → lv_has ls 6 [(0, .ref (ad 200)), (1, .int x1), (2, .int x2), (3, .int x3), (4, .int x4), (5, .int x5)] → W p l e R s m args below meth c H locs cells slots Q (F0 m 65 ls []) := by
  intro n
  induction n with
  | zero => exact fun _ _ _ _ _ _ _ _ _ hf => hf.elim
  | succ n ih =>
    intro x1 x2 x3 x4 x5 w H locs ls hf hR hl
    have hx := X.1
    have hb := X.2.1
    have hml := X.2.2.1
    have hown := X.2.2.2.1
    have hts := X.2.2.2.2.1
    rw [fX12_alike_L65] at hf
    refine lv_iload hx hb dX12_alike_65 (lv_at hl 5 rfl) ?_
    refine lv_iload hx hb dX12_alike_67 (lv_at hl 4 rfl) ?_
    refine lv_icmp_ge (tgt := 135) hx hb dX12_alike_69 (by decide) (fun c7 => ?_) (fun c7 => ?_)
    · replace hf := hf.1 c7
      refine lv_iinc (v := x4 + (1 : Int32)) (lv' := [(4, .int (x4 + (1 : Int32))), (0, .ref (ad 200)), (1, .int x1), (2, .int x2), (3, .int x3), (5, .int x5)]) hx hb dX12_alike_135 hl (k := 4) rfl rfl (by decide) rfl (fun ls hl => ?_)
      refine lv_goto (tgt := 48) hx hb dX12_alike_138 (by decide) ?_
      exact hg48 x1 x2 x3 (x4 + (1 : Int32)) w _ _ _ hf hR (lv_sub hl [1, 2, 3, 4, 0] rfl)
    · replace hf := hf.2 c7
      refine lv_iload_n hx hb dX12_alike_72 rfl (lv_at hl 3 rfl) ?_
      refine lv_if_eq (tgt := 127) hx hb dX12_alike_73 (by decide) (fun c8 => ?_) (fun c8 => ?_)
      · replace hf := hf.1 c8
        refine lv_iconst (v := (0 : Int32)) hx hb dX12_alike_127 (by decide) ?_
        refine lv_istore_n (lv' := [(3, .int (0 : Int32)), (0, .ref (ad 200)), (1, .int x1), (2, .int x2), (4, .int x4), (5, .int x5)]) hx hb dX12_alike_128 rfl hl (by decide) rfl (fun ls hl => ?_)
        refine lv_iinc (v := x5 + (1 : Int32)) (lv' := [(5, .int (x5 + (1 : Int32))), (3, .int (0 : Int32)), (0, .ref (ad 200)), (1, .int x1), (2, .int x2), (4, .int x4)]) hx hb dX12_alike_129 hl (k := 5) rfl rfl (by decide) rfl (fun ls hl => ?_)
        refine lv_goto (tgt := 65) hx hb dX12_alike_132 (by decide) ?_
        exact ih x1 x2 (0 : Int32) x4 (x5 + (1 : Int32)) w _ _ _ hf hR (lv_sub hl [2, 3, 4, 1, 5, 0] rfl)
      · replace hf := hf.2 c8
        refine lv_aload_n hx hb dX12_alike_76 rfl (lv_at hl 0 rfl) ?_
        refine lv_iload_n hx hb dX12_alike_77 rfl (lv_at hl 1 rfl) ?_
        refine lv_iload hx hb dX12_alike_78 (lv_at hl 4 rfl) ?_
        refine z_callVI (fr1 := 0) (b := 200) (As := [.int x1, .int x4]) (rest := []) X (hr.le (by decide)) hR zy_X12_itemOf zq_207 (zlit hR zf_200) (by rw [zs_200]; rfl) rfl (mX12_itemOf  hf) rfl hl (Nat.le_of_ble_eq_true rfl) dX12_alike_80 rfl (fun r9 w9 H locs hf hR => ?_)
        refine lv_aload_n hx hb dX12_alike_83 rfl (lv_at hl 0 rfl) ?_
        refine lv_iload_n hx hb dX12_alike_84 rfl (lv_at hl 1 rfl) ?_
        refine lv_iload hx hb dX12_alike_85 (lv_at hl 5 rfl) ?_
        refine z_callVI (fr1 := 0) (b := 200) (As := [.int x1, .int x5]) (rest := [.int r9]) X (hr.le (by decide)) hR zy_X12_itemOf zq_207 (zlit hR zf_200) (by rw [zs_200]; rfl) rfl (mX12_itemOf  hf) rfl hl (Nat.le_of_ble_eq_true rfl) dX12_alike_87 rfl (fun r10 w10 H locs hf hR => ?_)
        have kJ11 : ∀ v11 : Int32, v11 = (if ¬ r9 = r10 then (0 : Int32) else (1 : Int32)) → W p l e R s m args below meth c H locs cells slots Q (F0 m 98 ls (.int v11 :: [])) := by
          intro v11 hv11
          replace hf := hf v11 hv11
          exact mX12_alike_J98 X hr hQ hg48 ih hf hR (lv_sub hl [0, 1, 2, 4, 5] rfl)
        refine lv_icmp_ne (tgt := 97) hx hb dX12_alike_90 (by decide) (fun c11 => ?_) (fun c11 => ?_)
        · refine lv_iconst (v := (0 : Int32)) hx hb dX12_alike_97 (by decide) ?_
          exact kJ11 _ (if_pos c11).symm
        · refine lv_iconst (v := (1 : Int32)) hx hb dX12_alike_93 (by decide) ?_
          refine lv_goto (tgt := 98) hx hb dX12_alike_94 (by decide) ?_
          exact kJ11 _ (if_neg (fun h9 => h9 c11)).symm
def fX12_alike_L48 (k : Int32 → zW → Prop) : Nat → Int32 → Int32 → Int32 → Int32 → zW → Prop
  | 0 => fun _ _ _ _ _ => False
  | n + 1 => fun x1 x2 x3 x4 w =>
    ((x3 = 0 →
      zb01 x3 ∧ k x3 w) ∧
     (¬ x3 = 0 →
      fX12_longOf x1 w (fun r5 w5 =>
      ((r5 ≤ x4 →
        zb01 x3 ∧ k x3 w5) ∧
       (¬ r5 ≤ x4 →
        ∃ n9, fX12_alike_L65 k (fX12_alike_L48 k n) n9 x1 x2 x3 x4 (0 : Int32) w5)))))
set_option maxHeartbeats 4000000 in
set_option maxRecDepth 100000 in
theorem mX12_alike_L48 {k : Int32 → zW → Prop} (X : zCx p s m args meth c cX12_alike 6 RX12 (some .boolean)) (hr : zRm R 2 cells slots) (hQ : zRetZ p l e R s m args below meth c cells slots Q D dA true ad0 al0 ad al cX12_alike k)  : ∀ (n : Nat) (x1 : Int32) (x2 : Int32) (x3 : Int32) (x4 : Int32) (w : zW) (H : Heap) (locs : List Loc) (ls : Array Slot), fX12_alike_L48 k n x1 x2 x3 x4 w → zSt D dA true ad0 al0 ad al w s H locs → lv_has ls 6 [(0, .ref (ad 200)), (1, .int x1), (2, .int x2), (3, .int x3), (4, .int x4)] → W p l e R s m args below meth c H locs cells slots Q (F0 m 48 ls []) := by
  intro n
  induction n with
  | zero => exact fun _ _ _ _ _ _ _ _ hf => hf.elim
  | succ n ih =>
    intro x1 x2 x3 x4 w H locs ls hf hR hl
    have hx := X.1
    have hb := X.2.1
    have hml := X.2.2.1
    have hown := X.2.2.2.1
    have hts := X.2.2.2.2.1
    rw [fX12_alike_L48] at hf
    refine lv_iload_n hx hb dX12_alike_48 rfl (lv_at hl 3 rfl) ?_
    refine lv_if_eq (tgt := 141) hx hb dX12_alike_49 (by decide) (fun c4 => ?_) (fun c4 => ?_)
    · replace hf := hf.1 c4
      refine lv_iload_n hx hb dX12_alike_141 rfl (lv_at hl 3 rfl) ?_
      obtain ⟨h01, hf⟩ := hf
      exact hQ _ _ _ _ _ _ h01 hf hR dX12_alike_142
    · replace hf := hf.2 c4
      refine lv_iload hx hb dX12_alike_52 (lv_at hl 4 rfl) ?_
      refine lv_aload_n hx hb dX12_alike_54 rfl (lv_at hl 0 rfl) ?_
      refine lv_iload_n hx hb dX12_alike_55 rfl (lv_at hl 1 rfl) ?_
      refine z_callVI (fr1 := 0) (b := 200) (As := [.int x1]) (rest := [.int x4]) X (hr.le (by decide)) hR zy_X12_longOf zq_203 (zlit hR zf_200) (by rw [zs_200]; rfl) rfl (mX12_longOf  hf) rfl hl (Nat.le_of_ble_eq_true rfl) dX12_alike_56 rfl (fun r5 w5 H locs hf hR => ?_)
      refine lv_icmp_ge (tgt := 141) hx hb dX12_alike_59 (by decide) (fun c6 => ?_) (fun c6 => ?_)
      · replace hf := hf.1 c6
        refine lv_iload_n hx hb dX12_alike_141 rfl (lv_at hl 3 rfl) ?_
        obtain ⟨h01, hf⟩ := hf
        exact hQ _ _ _ _ _ _ h01 hf hR dX12_alike_142
      · replace hf := hf.2 c6
        refine lv_iconst (v := (0 : Int32)) hx hb dX12_alike_62 (by decide) ?_
        refine lv_istore (lv' := [(5, .int (0 : Int32)), (0, .ref (ad 200)), (1, .int x1), (2, .int x2), (3, .int x3), (4, .int x4)]) hx hb dX12_alike_63 hl (by decide) rfl (fun ls hl => ?_)
        obtain ⟨n9, hf⟩ := hf
        exact mX12_alike_L65 X hr hQ ih n9 x1 x2 x3 x4 (0 : Int32) w5 _ _ _ hf hR (lv_sub hl [1, 2, 3, 4, 5, 0] rfl)
def fX12_alike_J44 (k : Int32 → zW → Prop) (x1 : Int32) (x2 : Int32) (t0 : Int32) (w : zW) : Prop :=
  ∃ n9, fX12_alike_L48 k n9 x1 x2 t0 (0 : Int32) w
set_option maxHeartbeats 4000000 in
set_option maxRecDepth 100000 in
theorem mX12_alike_J44 {k : Int32 → zW → Prop} (X : zCx p s m args meth c cX12_alike 6 RX12 (some .boolean)) (hr : zRm R 2 cells slots) (hQ : zRetZ p l e R s m args below meth c cells slots Q D dA true ad0 al0 ad al cX12_alike k)  {x1 : Int32} {x2 : Int32} {t0 : Int32} {w : zW} {H : Heap} {locs : List Loc} {ls : Array Slot} (hf : fX12_alike_J44 k x1 x2 t0 w) (hR : zSt D dA true ad0 al0 ad al w s H locs) (hl : lv_has ls 6 [(0, .ref (ad 200)), (1, .int x1), (2, .int x2)]) : W p l e R s m args below meth c H locs cells slots Q (F0 m 44 ls [.int t0]) := by
  have hx := X.1
  have hb := X.2.1
  have hml := X.2.2.1
  have hown := X.2.2.2.1
  have hts := X.2.2.2.2.1
  unfold fX12_alike_J44 at hf
  refine lv_istore_n (lv' := [(3, .int t0), (0, .ref (ad 200)), (1, .int x1), (2, .int x2)]) hx hb dX12_alike_44 rfl hl (by decide) rfl (fun ls hl => ?_)
  refine lv_iconst (v := (0 : Int32)) hx hb dX12_alike_45 (by decide) ?_
  refine lv_istore (lv' := [(4, .int (0 : Int32)), (3, .int t0), (0, .ref (ad 200)), (1, .int x1), (2, .int x2)]) hx hb dX12_alike_46 hl (by decide) rfl (fun ls hl => ?_)
  obtain ⟨n9, hf⟩ := hf
  exact mX12_alike_L48 X hr hQ  n9 x1 x2 t0 (0 : Int32) w _ _ _ hf hR (lv_sub hl [2, 3, 4, 1, 0] rfl)
def fX12_alike (x1 : Int32) (x2 : Int32) (w : zW) (k : Int32 → zW → Prop) : Prop :=
  ∀ w1 : zW, w1 = sI w 200 0 (0 : Int32) →
  fX12_isRow x1 w1 (fun r2 w2 =>
  ((r2 = 0 →
    fX12_alike_J44 k x1 x2 (0 : Int32) w2) ∧
   (¬ r2 = 0 →
    fX12_isRow x2 w2 (fun r16 w16 =>
    ((r16 = 0 →
      fX12_alike_J44 k x1 x2 (0 : Int32) w16) ∧
     (¬ r16 = 0 →
      ((x1 = x2 →
        fX12_alike_J44 k x1 x2 (0 : Int32) w16) ∧
       (¬ x1 = x2 →
        fX12_longOf x1 w16 (fun r19 w19 =>
        fX12_longOf x2 w19 (fun r20 w20 =>
        ∀ v21 : Int32, v21 = (if ¬ r19 = r20 then (0 : Int32) else (1 : Int32)) →
        fX12_alike_J44 k x1 x2 v21 w20))))))))))
set_option maxHeartbeats 4000000 in
set_option maxRecDepth 100000 in
theorem mX12_alike {l : Launch} {D : va_G} {dA : Nat → ClassId} {ad : Nat → Nat} {al : Nat → Prop} {w : zW} {k : Int32 → zW → Prop} {x1 : Int32} {x2 : Int32}   (hf : fX12_alike x1 x2 w k) : zmetI l yX12_alike cX12_alike 6 (some .boolean) 2 [.ref (ad 200), .int x1, .int x2] D dA true ad al w k := by
  refine zmetZ_of (by decide) (Nat.le_of_ble_eq_true rfl) ?_
  intro p e R s m below meth c Q H ls args locs cells slots X hr hQ hR hl
  have hx := X.1
  have hb := X.2.1
  have hml := X.2.2.1
  have hown := X.2.2.2.1
  have hts := X.2.2.2.2.1
  unfold fX12_alike at hf
  have hl : lv_has ls 6 [(0, .ref (ad 200)), (1, .int x1), (2, .int x2)] := hl
  refine lv_aload_n hx hb dX12_alike_0 rfl (lv_at hl 0 rfl) ?_
  refine lv_iconst (v := (0 : Int32)) hx hb dX12_alike_1 (by decide) ?_
  refine z_putI X hR (zlit hR zf_200) zs_200 (by decide) zfp_X12_1 rfl dX12_alike_2 (fun H locs hR => ?_)
  obtain ⟨w1, hw1⟩ : ∃ z : zW, z = sI w 200 0 (0 : Int32) := ⟨_, rfl⟩
  rw [← hw1] at hR
  replace hf := hf w1 hw1
  refine lv_aload_n hx hb dX12_alike_5 rfl (lv_at hl 0 rfl) ?_
  refine lv_iload_n hx hb dX12_alike_6 rfl (lv_at hl 1 rfl) ?_
  refine z_callVI (fr1 := 1) (b := 200) (As := [.int x1]) (rest := []) X (hr.le (by decide)) hR zy_X12_isRow zq_833 (zlit hR zf_200) (by rw [zs_200]; rfl) rfl (mX12_isRow  hf) rfl hl (Nat.le_of_ble_eq_true rfl) dX12_alike_7 rfl (fun r2 w2 H locs hf hR => ?_)
  refine lv_if_eq (tgt := 43) hx hb dX12_alike_10 (by decide) (fun c3 => ?_) (fun c3 => ?_)
  · replace hf := hf.1 c3
    refine lv_iconst (v := (0 : Int32)) hx hb dX12_alike_43 (by decide) ?_
    exact mX12_alike_J44 X hr hQ  hf hR (lv_sub hl [0, 1, 2] rfl)
  · replace hf := hf.2 c3
    refine lv_aload_n hx hb dX12_alike_13 rfl (lv_at hl 0 rfl) ?_
    refine lv_iload_n hx hb dX12_alike_14 rfl (lv_at hl 2 rfl) ?_
    refine z_callVI (fr1 := 1) (b := 200) (As := [.int x2]) (rest := []) X (hr.le (by decide)) hR zy_X12_isRow zq_833 (zlit hR zf_200) (by rw [zs_200]; rfl) rfl (mX12_isRow  hf) rfl hl (Nat.le_of_ble_eq_true rfl) dX12_alike_15 rfl (fun r16 w16 H locs hf hR => ?_)
    refine lv_if_eq (tgt := 43) hx hb dX12_alike_18 (by decide) (fun c17 => ?_) (fun c17 => ?_)
    · replace hf := hf.1 c17
      refine lv_iconst (v := (0 : Int32)) hx hb dX12_alike_43 (by decide) ?_
      exact mX12_alike_J44 X hr hQ  hf hR (lv_sub hl [0, 1, 2] rfl)
    · replace hf := hf.2 c17
      refine lv_iload_n hx hb dX12_alike_21 rfl (lv_at hl 1 rfl) ?_
      refine lv_iload_n hx hb dX12_alike_22 rfl (lv_at hl 2 rfl) ?_
      refine lv_icmp_eq (tgt := 43) hx hb dX12_alike_23 (by decide) (fun c18 => ?_) (fun c18 => ?_)
      · replace hf := hf.1 c18
        refine lv_iconst (v := (0 : Int32)) hx hb dX12_alike_43 (by decide) ?_
        exact mX12_alike_J44 X hr hQ  hf hR (lv_sub hl [0, 1, 2] rfl)
      · replace hf := hf.2 c18
        refine lv_aload_n hx hb dX12_alike_26 rfl (lv_at hl 0 rfl) ?_
        refine lv_iload_n hx hb dX12_alike_27 rfl (lv_at hl 1 rfl) ?_
        refine z_callVI (fr1 := 0) (b := 200) (As := [.int x1]) (rest := []) X (hr.le (by decide)) hR zy_X12_longOf zq_203 (zlit hR zf_200) (by rw [zs_200]; rfl) rfl (mX12_longOf  hf) rfl hl (Nat.le_of_ble_eq_true rfl) dX12_alike_28 rfl (fun r19 w19 H locs hf hR => ?_)
        refine lv_aload_n hx hb dX12_alike_31 rfl (lv_at hl 0 rfl) ?_
        refine lv_iload_n hx hb dX12_alike_32 rfl (lv_at hl 2 rfl) ?_
        refine z_callVI (fr1 := 0) (b := 200) (As := [.int x2]) (rest := [.int r19]) X (hr.le (by decide)) hR zy_X12_longOf zq_203 (zlit hR zf_200) (by rw [zs_200]; rfl) rfl (mX12_longOf  hf) rfl hl (Nat.le_of_ble_eq_true rfl) dX12_alike_33 rfl (fun r20 w20 H locs hf hR => ?_)
        have kJ21 : ∀ v21 : Int32, v21 = (if ¬ r19 = r20 then (0 : Int32) else (1 : Int32)) → W p l e R s m args below meth c H locs cells slots Q (F0 m 44 ls (.int v21 :: [])) := by
          intro v21 hv21
          replace hf := hf v21 hv21
          exact mX12_alike_J44 X hr hQ  hf hR (lv_sub hl [0, 1, 2] rfl)
        refine lv_icmp_ne (tgt := 43) hx hb dX12_alike_36 (by decide) (fun c21 => ?_) (fun c21 => ?_)
        · refine lv_iconst (v := (0 : Int32)) hx hb dX12_alike_43 (by decide) ?_
          exact kJ21 _ (if_pos c21).symm
        · refine lv_iconst (v := (1 : Int32)) hx hb dX12_alike_39 (by decide) ?_
          refine lv_goto (tgt := 44) hx hb dX12_alike_40 (by decide) ?_
          exact kJ21 _ (if_neg (fun h9 => h9 c21)).symm
/-! X12_getsBy -/
def fX12_getsBy (x0 : Int32) (x1 : Int32) (x2 : Int32) (x3 : Int32) (x4 : Int32) (w : zW) (k : Int32 → zW → Prop) : Prop :=
  ∀ v1 : Int32, v1 = (if ¬ x0 = (1 : Int32) then (if ¬ x1 = (1 : Int32) then (0 : Int32) else x4) else (if ¬ x1 = (1 : Int32) then x3 else (-x2))) →
  k v1 w
set_option maxHeartbeats 4000000 in
set_option maxRecDepth 100000 in
theorem mX12_getsBy {l : Launch} {D : va_G} {dA : Nat → ClassId} {ad : Nat → Nat} {al : Nat → Prop} {w : zW} {k : Int32 → zW → Prop} {x0 : Int32} {x1 : Int32} {x2 : Int32} {x3 : Int32} {x4 : Int32}   (hf : fX12_getsBy x0 x1 x2 x3 x4 w k) : zmetI l yX12_getsBy cX12_getsBy 5 (some .int) 0 [.int x0, .int x1, .int x2, .int x3, .int x4] D dA true ad al w k := by
  refine zmetI_of (by decide) (Nat.le_of_ble_eq_true rfl) ?_
  intro p e R s m below meth c Q H ls args locs cells slots X hr hQ hR hl
  have hx := X.1
  have hb := X.2.1
  have hml := X.2.2.1
  have hown := X.2.2.2.1
  have hts := X.2.2.2.2.1
  unfold fX12_getsBy at hf
  have hl : lv_has ls 5 [(0, .int x0), (1, .int x1), (2, .int x2), (3, .int x3), (4, .int x4)] := hl
  refine lv_iload_n hx hb dX12_getsBy_0 rfl (lv_at hl 0 rfl) ?_
  refine lv_iconst (v := (1 : Int32)) hx hb dX12_getsBy_1 (by decide) ?_
  have kJ1 : ∀ v1 : Int32, v1 = (if ¬ x0 = (1 : Int32) then (if ¬ x1 = (1 : Int32) then (0 : Int32) else x4) else (if ¬ x1 = (1 : Int32) then x3 else (-x2))) → W p l e R s m args below meth c H locs cells slots Q (F0 m 30 ls (.int v1 :: [])) := by
    intro v1 hv1
    replace hf := hf v1 hv1
    exact hQ _ _ _ _ _ _ hf hR dX12_getsBy_30
  refine lv_icmp_ne (tgt := 19) hx hb dX12_getsBy_2 (by decide) (fun c1 => ?_) (fun c1 => ?_)
  · refine lv_iload_n hx hb dX12_getsBy_19 rfl (lv_at hl 1 rfl) ?_
    refine lv_iconst (v := (1 : Int32)) hx hb dX12_getsBy_20 (by decide) ?_
    refine lv_icmp_ne (tgt := 29) hx hb dX12_getsBy_21 (by decide) (fun c2 => ?_) (fun c2 => ?_)
    · refine lv_iconst (v := (0 : Int32)) hx hb dX12_getsBy_29 (by decide) ?_
      exact kJ1 _ ((if_pos c1).trans (if_pos c2)).symm
    · refine lv_iload hx hb dX12_getsBy_24 (lv_at hl 4 rfl) ?_
      refine lv_goto (tgt := 30) hx hb dX12_getsBy_26 (by decide) ?_
      exact kJ1 _ ((if_pos c1).trans (if_neg (fun h9 => h9 c2))).symm
  · refine lv_iload_n hx hb dX12_getsBy_5 rfl (lv_at hl 1 rfl) ?_
    refine lv_iconst (v := (1 : Int32)) hx hb dX12_getsBy_6 (by decide) ?_
    refine lv_icmp_ne (tgt := 15) hx hb dX12_getsBy_7 (by decide) (fun c3 => ?_) (fun c3 => ?_)
    · refine lv_iload_n hx hb dX12_getsBy_15 rfl (lv_at hl 3 rfl) ?_
      refine lv_goto (tgt := 30) hx hb dX12_getsBy_16 (by decide) ?_
      exact kJ1 _ ((if_neg (fun h9 => h9 c1)).trans (if_pos c3)).symm
    · refine lv_iload_n hx hb dX12_getsBy_10 rfl (lv_at hl 2 rfl) ?_
      refine lv_ineg hx hb dX12_getsBy_11 ?_
      refine lv_goto (tgt := 30) hx hb dX12_getsBy_12 (by decide) ?_
      exact kJ1 _ ((if_neg (fun h9 => h9 c1)).trans (if_neg (fun h9 => h9 c3))).symm
/-! X12_rests -/
def fX12_rests_J195 (k : Int32 → zW → Prop) (x4 : Int32) (x6 : Int32) (x7 : Int32) (t0 : Int32) (w : zW) : Prop :=
  ∀ w5 : zW, w5 = sI w 200 0 t0 →
  ∀ v6 : Int32, v6 = (if (gI w5 200 0) ≤ 0 then (if 0 ≤ x4 then x7 else x6) else (0 : Int32)) →
  k v6 w5
set_option maxHeartbeats 4000000 in
set_option maxRecDepth 100000 in
theorem mX12_rests_J195 {k : Int32 → zW → Prop} (X : zCx p s m args meth c cX12_rests 12 RX12 (some .int)) (hr : zRm R 1 cells slots) (hQ : zRetI p l e R s m args below meth c cells slots Q D dA true ad0 al0 ad al cX12_rests k)  {x4 : Int32} {x6 : Int32} {x7 : Int32} {t0 : Int32} {w : zW} {H : Heap} {locs : List Loc} {ls : Array Slot} (hf : fX12_rests_J195 k x4 x6 x7 t0 w) (hR : zSt D dA true ad0 al0 ad al w s H locs) (hl : lv_has ls 12 [(0, .ref (ad 200)), (4, .int x4), (6, .int x6), (7, .int x7)]) : W p l e R s m args below meth c H locs cells slots Q (F0 m 195 ls [.int t0, .ref (ad 200)]) := by
  have hx := X.1
  have hb := X.2.1
  have hml := X.2.2.1
  have hown := X.2.2.2.1
  have hts := X.2.2.2.2.1
  unfold fX12_rests_J195 at hf
  refine z_putI X hR (zlit hR zf_200) zs_200 (by decide) zfp_X12_1 rfl dX12_rests_195 (fun H locs hR => ?_)
  obtain ⟨w5, hw5⟩ : ∃ z : zW, z = sI w 200 0 t0 := ⟨_, rfl⟩
  rw [← hw5] at hR
  replace hf := hf w5 hw5
  refine lv_aload_n hx hb dX12_rests_198 rfl (lv_at hl 0 rfl) ?_
  refine z_getI X hR (zlit hR zf_200) zs_200 (by decide) zfd_X12_1 rfl dX12_rests_199 ?_
  have kJ6 : ∀ v6 : Int32, v6 = (if (gI w5 200 0) ≤ 0 then (if 0 ≤ x4 then x7 else x6) else (0 : Int32)) → W p l e R s m args below meth c H locs cells slots Q (F0 m 221 ls (.int v6 :: [])) := by
    intro v6 hv6
    replace hf := hf v6 hv6
    exact hQ _ _ _ _ _ _ hf hR dX12_rests_221
  refine lv_if_le (tgt := 209) hx hb dX12_rests_202 (by decide) (fun c6 => ?_) (fun c6 => ?_)
  · refine lv_iload hx hb dX12_rests_209 (lv_at hl 1 rfl) ?_
    refine lv_if_ge (tgt := 219) hx hb dX12_rests_211 (by decide) (fun c7 => ?_) (fun c7 => ?_)
    · refine lv_iload hx hb dX12_rests_219 (lv_at hl 3 rfl) ?_
      exact kJ6 _ ((if_pos c6).trans (if_pos c7)).symm
    · refine lv_iload hx hb dX12_rests_214 (lv_at hl 2 rfl) ?_
      refine lv_goto (tgt := 221) hx hb dX12_rests_216 (by decide) ?_
      exact kJ6 _ ((if_pos c6).trans (if_neg c7)).symm
  · refine lv_iconst (v := (0 : Int32)) hx hb dX12_rests_205 (by decide) ?_
    refine lv_goto (tgt := 221) hx hb dX12_rests_206 (by decide) ?_
    exact kJ6 _ (if_neg c6).symm
def fX12_rests_J174 (k : Int32 → zW → Prop) (x4 : Int32) (x5 : Int32) (x6 : Int32) (x7 : Int32) (w : zW) : Prop :=
  ∀ v4 : Int32, v4 = (if x5 = 0 then (1 : Int32) else (if x4 < 0 then (0 : Int32) else (if x7 < 0 then (1 : Int32) else (0 : Int32)))) →
  fX12_rests_J195 k x4 x6 x7 v4 w
set_option maxHeartbeats 4000000 in
set_option maxRecDepth 100000 in
theorem mX12_rests_J174 {k : Int32 → zW → Prop} (X : zCx p s m args meth c cX12_rests 12 RX12 (some .int)) (hr : zRm R 1 cells slots) (hQ : zRetI p l e R s m args below meth c cells slots Q D dA true ad0 al0 ad al cX12_rests k)  {x4 : Int32} {x5 : Int32} {x6 : Int32} {x7 : Int32} {w : zW} {H : Heap} {locs : List Loc} {ls : Array Slot} (hf : fX12_rests_J174 k x4 x5 x6 x7 w) (hR : zSt D dA true ad0 al0 ad al w s H locs) (hl : lv_has ls 12 [(0, .ref (ad 200)), (4, .int x4), (5, .int x5), (6, .int x6), (7, .int x7)]) : W p l e R s m args below meth c H locs cells slots Q (F0 m 174 ls []) := by
  have hx := X.1
  have hb := X.2.1
  have hml := X.2.2.1
  have hown := X.2.2.2.1
  have hts := X.2.2.2.2.1
  unfold fX12_rests_J174 at hf
  refine lv_aload_n hx hb dX12_rests_174 rfl (lv_at hl 0 rfl) ?_
  refine lv_iload hx hb dX12_rests_175 (lv_at hl 2 rfl) ?_
  have kJ4 : ∀ v4 : Int32, v4 = (if x5 = 0 then (1 : Int32) else (if x4 < 0 then (0 : Int32) else (if x7 < 0 then (1 : Int32) else (0 : Int32)))) → W p l e R s m args below meth c H locs cells slots Q (F0 m 195 ls (.int v4 :: .ref (ad 200) :: [])) := by
    intro v4 hv4
    replace hf := hf v4 hv4
    exact mX12_rests_J195 X hr hQ  hf hR (lv_sub hl [0, 1, 3, 4] rfl)
  refine lv_if_eq (tgt := 194) hx hb dX12_rests_177 (by decide) (fun c4 => ?_) (fun c4 => ?_)
  · refine lv_iconst (v := (1 : Int32)) hx hb dX12_rests_194 (by decide) ?_
    exact kJ4 _ (if_pos c4).symm
  · refine lv_iload hx hb dX12_rests_180 (lv_at hl 1 rfl) ?_
    refine lv_if_lt (tgt := 190) hx hb dX12_rests_182 (by decide) (fun c8 => ?_) (fun c8 => ?_)
    · refine lv_iconst (v := (0 : Int32)) hx hb dX12_rests_190 (by decide) ?_
      refine lv_goto (tgt := 195) hx hb dX12_rests_191 (by decide) ?_
      exact kJ4 _ ((if_neg c4).trans (if_pos c8)).symm
    · refine lv_iload hx hb dX12_rests_185 (lv_at hl 4 rfl) ?_
      refine lv_if_lt (tgt := 194) hx hb dX12_rests_187 (by decide) (fun c9 => ?_) (fun c9 => ?_)
      · refine lv_iconst (v := (1 : Int32)) hx hb dX12_rests_194 (by decide) ?_
        exact kJ4 _ ((if_neg c4).trans ((if_neg c8).trans (if_pos c9))).symm
      · refine lv_iconst (v := (0 : Int32)) hx hb dX12_rests_190 (by decide) ?_
        refine lv_goto (tgt := 195) hx hb dX12_rests_191 (by decide) ?_
        exact kJ4 _ ((if_neg c4).trans ((if_neg c8).trans (if_neg c9))).symm
def fX12_rests_J165 (k : Int32 → zW → Prop) (g52 : Int32 → Int32 → Int32 → Int32 → Int32 → Int32 → Int32 → Int32 → zW → Prop) (x1 : Int32) (x2 : Int32) (x3 : Int32) (x4 : Int32) (x5 : Int32) (x7 : Int32) (x8 : Int32) (t0 : Int32) (t1 : Int32) (w : zW) : Prop :=
  ∀ v18 : Int32, v18 = t1 + t0 →
  g52 x1 x2 x3 x4 x5 v18 x7 (x8 + (1 : Int32)) w
set_option maxHeartbeats 4000000 in
set_option maxRecDepth 100000 in
theorem mX12_rests_J165 {k : Int32 → zW → Prop} {g52 : Int32 → Int32 → Int32 → Int32 → Int32 → Int32 → Int32 → Int32 → zW → Prop} (X : zCx p s m args meth c cX12_rests 12 RX12 (some .int)) (hr : zRm R 1 cells slots) (hQ : zRetI p l e R s m args below meth c cells slots Q D dA true ad0 al0 ad al cX12_rests k) (hg52 : ∀ (x1 : Int32) (x2 : Int32) (x3 : Int32) (x4 : Int32) (x5 : Int32) (x6 : Int32) (x7 : Int32) (x8 : Int32) (w : zW) (H : Heap) (locs : List Loc) (ls : Array Slot), g52 x1 x2 x3 x4 x5 x6 x7 x8 w → zSt D dA true ad0 al0 ad al w s H locs → lv_has ls 12 [(0, .ref (ad 200)), (1, .int x1), (2, .int x2), (3, .int x3), (4, .int x4), (5, .int x5), (6, .int x6), (7, .int x7), (8, .int x8)] → W p l e R s m args below meth c H locs cells slots Q (F0 m 52 ls [])) {x1 : Int32} {x2 : Int32} {x3 : Int32} {x4 : Int32} {x5 : Int32} {x7 : Int32} {x8 : Int32} {t0 : Int32} {t1 : Int32} {w : zW} {H : Heap} {locs : List Loc} {ls : Array Slot} (hf : fX12_rests_J165 k g52 x1 x2 x3 x4 x5 x7 x8 t0 t1 w) (hR : zSt D dA true ad0 al0 ad al w s H locs) (hl : lv_has ls 12 [(0, .ref (ad 200)), (1, .int x1), (2, .int x2), (3, .int x3), (4, .int x4), (5, .int x5), (7, .int x7), (8, .int x8)]) : W p l e R s m args below meth c H locs cells slots Q (F0 m 165 ls [.int t0, .int t1]) := by
  have hx := X.1
  have hb := X.2.1
  have hml := X.2.2.1
  have hown := X.2.2.2.1
  have hts := X.2.2.2.2.1
  unfold fX12_rests_J165 at hf
  refine lv_iadd hx hb dX12_rests_165 ?_
  refine lv_topi (fun v18 hv18 => ?_)
  replace hf := hf v18 hv18
  refine lv_istore (lv' := [(6, .int v18), (0, .ref (ad 200)), (1, .int x1), (2, .int x2), (3, .int x3), (4, .int x4), (5, .int x5), (7, .int x7), (8, .int x8)]) hx hb dX12_rests_166 hl (by decide) rfl (fun ls hl => ?_)
  refine lv_iinc (v := x8 + (1 : Int32)) (lv' := [(8, .int (x8 + (1 : Int32))), (6, .int v18), (0, .ref (ad 200)), (1, .int x1), (2, .int x2), (3, .int x3), (4, .int x4), (5, .int x5), (7, .int x7)]) hx hb dX12_rests_168 hl (k := 8) rfl rfl (by decide) rfl (fun ls hl => ?_)
  refine lv_goto (tgt := 52) hx hb dX12_rests_171 (by decide) ?_
  exact hg52 x1 x2 x3 x4 x5 v18 x7 (x8 + (1 : Int32)) w _ _ _ hf hR (lv_sub hl [2, 3, 4, 5, 6, 7, 1, 8, 0] rfl)
def fX12_rests_J151 (k : Int32 → zW → Prop) (g52 : Int32 → Int32 → Int32 → Int32 → Int32 → Int32 → Int32 → Int32 → zW → Prop) (x1 : Int32) (x2 : Int32) (x3 : Int32) (x4 : Int32) (x5 : Int32) (x6 : Int32) (x8 : Int32) (x11 : Int32) (t0 : Int32) (w : zW) : Prop :=
  ∀ v17 : Int32, v17 = (if x11 = 0 then (0 : Int32) else (1 : Int32)) →
  fX12_rests_J165 k g52 x1 x2 x3 x4 x5 t0 x8 v17 x6 w
set_option maxHeartbeats 4000000 in
set_option maxRecDepth 100000 in
theorem mX12_rests_J151 {k : Int32 → zW → Prop} {g52 : Int32 → Int32 → Int32 → Int32 → Int32 → Int32 → Int32 → Int32 → zW → Prop} (X : zCx p s m args meth c cX12_rests 12 RX12 (some .int)) (hr : zRm R 1 cells slots) (hQ : zRetI p l e R s m args below meth c cells slots Q D dA true ad0 al0 ad al cX12_rests k) (hg52 : ∀ (x1 : Int32) (x2 : Int32) (x3 : Int32) (x4 : Int32) (x5 : Int32) (x6 : Int32) (x7 : Int32) (x8 : Int32) (w : zW) (H : Heap) (locs : List Loc) (ls : Array Slot), g52 x1 x2 x3 x4 x5 x6 x7 x8 w → zSt D dA true ad0 al0 ad al w s H locs → lv_has ls 12 [(0, .ref (ad 200)), (1, .int x1), (2, .int x2), (3, .int x3), (4, .int x4), (5, .int x5), (6, .int x6), (7, .int x7), (8, .int x8)] → W p l e R s m args below meth c H locs cells slots Q (F0 m 52 ls [])) {x1 : Int32} {x2 : Int32} {x3 : Int32} {x4 : Int32} {x5 : Int32} {x6 : Int32} {x8 : Int32} {x11 : Int32} {t0 : Int32} {w : zW} {H : Heap} {locs : List Loc} {ls : Array Slot} (hf : fX12_rests_J151 k g52 x1 x2 x3 x4 x5 x6 x8 x11 t0 w) (hR : zSt D dA true ad0 al0 ad al w s H locs) (hl : lv_has ls 12 [(0, .ref (ad 200)), (1, .int x1), (2, .int x2), (3, .int x3), (4, .int x4), (5, .int x5), (6, .int x6), (8, .int x8), (11, .int x11)]) : W p l e R s m args below meth c H locs cells slots Q (F0 m 151 ls [.int t0]) := by
  have hx := X.1
  have hb := X.2.1
  have hml := X.2.2.1
  have hown := X.2.2.2.1
  have hts := X.2.2.2.2.1
  unfold fX12_rests_J151 at hf
  refine lv_istore (lv' := [(7, .int t0), (0, .ref (ad 200)), (1, .int x1), (2, .int x2), (3, .int x3), (4, .int x4), (5, .int x5), (6, .int x6), (8, .int x8), (11, .int x11)]) hx hb dX12_rests_151 hl (by decide) rfl (fun ls hl => ?_)
  refine lv_iload hx hb dX12_rests_153 (lv_at hl 7 rfl) ?_
  refine lv_iload hx hb dX12_rests_155 (lv_at hl 9 rfl) ?_
  have kJ17 : ∀ v17 : Int32, v17 = (if x11 = 0 then (0 : Int32) else (1 : Int32)) → W p l e R s m args below meth c H locs cells slots Q (F0 m 165 ls (.int v17 :: .int x6 :: [])) := by
    intro v17 hv17
    replace hf := hf v17 hv17
    exact mX12_rests_J165 X hr hQ hg52 hf hR (lv_sub hl [1, 2, 3, 4, 5, 6, 0, 8] rfl)
  refine lv_if_eq (tgt := 164) hx hb dX12_rests_157 (by decide) (fun c17 => ?_) (fun c17 => ?_)
  · refine lv_iconst (v := (0 : Int32)) hx hb dX12_rests_164 (by decide) ?_
    exact kJ17 _ (if_pos c17).symm
  · refine lv_iconst (v := (1 : Int32)) hx hb dX12_rests_160 (by decide) ?_
    refine lv_goto (tgt := 165) hx hb dX12_rests_161 (by decide) ?_
    exact kJ17 _ (if_neg c17).symm
def fX12_rests_J130 (k : Int32 → zW → Prop) (g52 : Int32 → Int32 → Int32 → Int32 → Int32 → Int32 → Int32 → Int32 → zW → Prop) (x1 : Int32) (x2 : Int32) (x3 : Int32) (x4 : Int32) (x5 : Int32) (x6 : Int32) (x7 : Int32) (x8 : Int32) (t0 : Int32) (w : zW) : Prop :=
  ∀ v16 : Int32, v16 = (if t0 = 0 then x7 else (if ¬ x6 = x4 then x7 else x8)) →
  fX12_rests_J151 k g52 x1 x2 x3 x4 x5 x6 x8 t0 v16 w
set_option maxHeartbeats 4000000 in
set_option maxRecDepth 100000 in
theorem mX12_rests_J130 {k : Int32 → zW → Prop} {g52 : Int32 → Int32 → Int32 → Int32 → Int32 → Int32 → Int32 → Int32 → zW → Prop} (X : zCx p s m args meth c cX12_rests 12 RX12 (some .int)) (hr : zRm R 1 cells slots) (hQ : zRetI p l e R s m args below meth c cells slots Q D dA true ad0 al0 ad al cX12_rests k) (hg52 : ∀ (x1 : Int32) (x2 : Int32) (x3 : Int32) (x4 : Int32) (x5 : Int32) (x6 : Int32) (x7 : Int32) (x8 : Int32) (w : zW) (H : Heap) (locs : List Loc) (ls : Array Slot), g52 x1 x2 x3 x4 x5 x6 x7 x8 w → zSt D dA true ad0 al0 ad al w s H locs → lv_has ls 12 [(0, .ref (ad 200)), (1, .int x1), (2, .int x2), (3, .int x3), (4, .int x4), (5, .int x5), (6, .int x6), (7, .int x7), (8, .int x8)] → W p l e R s m args below meth c H locs cells slots Q (F0 m 52 ls [])) {x1 : Int32} {x2 : Int32} {x3 : Int32} {x4 : Int32} {x5 : Int32} {x6 : Int32} {x7 : Int32} {x8 : Int32} {t0 : Int32} {w : zW} {H : Heap} {locs : List Loc} {ls : Array Slot} (hf : fX12_rests_J130 k g52 x1 x2 x3 x4 x5 x6 x7 x8 t0 w) (hR : zSt D dA true ad0 al0 ad al w s H locs) (hl : lv_has ls 12 [(0, .ref (ad 200)), (1, .int x1), (2, .int x2), (3, .int x3), (4, .int x4), (5, .int x5), (6, .int x6), (7, .int x7), (8, .int x8)]) : W p l e R s m args below meth c H locs cells slots Q (F0 m 130 ls [.int t0]) := by
  have hx := X.1
  have hb := X.2.1
  have hml := X.2.2.1
  have hown := X.2.2.2.1
  have hts := X.2.2.2.2.1
  unfold fX12_rests_J130 at hf
  refine lv_istore (lv' := [(11, .int t0), (0, .ref (ad 200)), (1, .int x1), (2, .int x2), (3, .int x3), (4, .int x4), (5, .int x5), (6, .int x6), (7, .int x7), (8, .int x8)]) hx hb dX12_rests_130 hl (by decide) rfl (fun ls hl => ?_)
  refine lv_iload hx hb dX12_rests_132 (lv_at hl 0 rfl) ?_
  have kJ16 : ∀ v16 : Int32, v16 = (if t0 = 0 then x7 else (if ¬ x6 = x4 then x7 else x8)) → W p l e R s m args below meth c H locs cells slots Q (F0 m 151 ls (.int v16 :: [])) := by
    intro v16 hv16
    replace hf := hf v16 hv16
    exact mX12_rests_J151 X hr hQ hg52 hf hR (lv_sub hl [1, 2, 3, 4, 5, 6, 7, 9, 0] rfl)
  refine lv_if_eq (tgt := 149) hx hb dX12_rests_134 (by decide) (fun c16 => ?_) (fun c16 => ?_)
  · refine lv_iload hx hb dX12_rests_149 (lv_at hl 8 rfl) ?_
    exact kJ16 _ (if_pos c16).symm
  · refine lv_iload hx hb dX12_rests_137 (lv_at hl 7 rfl) ?_
    refine lv_iload hx hb dX12_rests_139 (lv_at hl 5 rfl) ?_
    refine lv_icmp_ne (tgt := 149) hx hb dX12_rests_141 (by decide) (fun c19 => ?_) (fun c19 => ?_)
    · refine lv_iload hx hb dX12_rests_149 (lv_at hl 8 rfl) ?_
      exact kJ16 _ ((if_neg c16).trans (if_pos c19)).symm
    · refine lv_iload hx hb dX12_rests_144 (lv_at hl 9 rfl) ?_
      refine lv_goto (tgt := 151) hx hb dX12_rests_146 (by decide) ?_
      exact kJ16 _ ((if_neg c16).trans (if_neg (fun h9 => h9 c19))).symm
def fX12_rests_L52 (k : Int32 → zW → Prop) : Nat → Int32 → Int32 → Int32 → Int32 → Int32 → Int32 → Int32 → Int32 → zW → Prop
  | 0 => fun _ _ _ _ _ _ _ _ _ => False
  | n + 1 => fun x1 x2 x3 x4 x5 x6 x7 x8 w =>
    (((4 : Int32) ≤ x8 →
      fX12_rests_J174 k x4 x5 x6 x7 w) ∧
     (¬ (4 : Int32) ≤ x8 →
      ((x5 = 0 →
        fX12_rests_J174 k x4 x5 x6 x7 w) ∧
       (¬ x5 = 0 →
        ∀ v11 : Int32, v11 = x8 / (2 : Int32) →
        ∀ v12 : Int32, v12 = x8 % (2 : Int32) →
        fX12_getsBy ((1 : Int32) - v11) v12 x1 x2 x3 w (fun r13 w13 =>
        fX12_getsBy v11 v12 x1 x2 x3 w13 (fun r14 w14 =>
        ((r14 < r13 →
          fX12_rests_J130 k (fX12_rests_L52 k n) x1 x2 x3 x4 x5 x6 x7 x8 (0 : Int32) w14) ∧
         (¬ r14 < r13 →
          fX12_getsBy ((1 : Int32) - v12) v11 x1 x2 x3 w14 (fun r20 w20 =>
          fX12_getsBy v12 v11 x1 x2 x3 w20 (fun r21 w21 =>
          ∀ v22 : Int32, v22 = (if r21 < r20 then (0 : Int32) else (1 : Int32)) →
          fX12_rests_J130 k (fX12_rests_L52 k n) x1 x2 x3 x4 x5 x6 x7 x8 v22 w21))))))))))
set_option maxHeartbeats 4000000 in
set_option maxRecDepth 100000 in
theorem mX12_rests_L52 {k : Int32 → zW → Prop} (X : zCx p s m args meth c cX12_rests 12 RX12 (some .int)) (hr : zRm R 1 cells slots) (hQ : zRetI p l e R s m args below meth c cells slots Q D dA true ad0 al0 ad al cX12_rests k)  : ∀ (n : Nat) (x1 : Int32) (x2 : Int32) (x3 : Int32) (x4 : Int32) (x5 : Int32) (x6 : Int32) (x7 : Int32) (x8 : Int32) (w : zW) (H : Heap) (locs : List Loc) (ls : Array Slot), fX12_rests_L52 k n x1 x2 x3 x4 x5 x6 x7 x8 w → zSt D dA true ad0 al0 ad al w s H locs → lv_has ls 12 [(0, .ref (ad 200)), (1, .int x1), (2, .int x2), (3, .int x3), (4, .int x4), (5, .int x5), (6, .int x6), (7, .int x7), (8, .int x8)] → W p l e R s m args below meth c H locs cells slots Q (F0 m 52 ls []) := by
  intro n
  induction n with
  | zero => exact fun _ _ _ _ _ _ _ _ _ _ _ _ hf => hf.elim
  | succ n ih =>
    intro x1 x2 x3 x4 x5 x6 x7 x8 w H locs ls hf hR hl
    have hx := X.1
    have hb := X.2.1
    have hml := X.2.2.1
    have hown := X.2.2.2.1
    have hts := X.2.2.2.2.1
    rw [fX12_rests_L52] at hf
    refine lv_iload hx hb dX12_rests_52 (lv_at hl 8 rfl) ?_
    refine lv_iconst (v := (4 : Int32)) hx hb dX12_rests_54 (by decide) ?_
    refine lv_icmp_ge (tgt := 174) hx hb dX12_rests_55 (by decide) (fun c3 => ?_) (fun c3 => ?_)
    · replace hf := hf.1 c3
      exact mX12_rests_J174 X hr hQ  hf hR (lv_sub hl [0, 4, 5, 6, 7] rfl)
    · replace hf := hf.2 c3
      refine lv_iload hx hb dX12_rests_58 (lv_at hl 5 rfl) ?_
      refine lv_if_eq (tgt := 174) hx hb dX12_rests_60 (by decide) (fun c10 => ?_) (fun c10 => ?_)
      · replace hf := hf.1 c10
        exact mX12_rests_J174 X hr hQ  hf hR (lv_sub hl [0, 4, 5, 6, 7] rfl)
      · replace hf := hf.2 c10
        refine lv_iload hx hb dX12_rests_63 (lv_at hl 8 rfl) ?_
        refine lv_iconst (v := (2 : Int32)) hx hb dX12_rests_65 (by decide) ?_
        refine lv_idiv hx hb dX12_rests_66 (by decide) ?_
        refine lv_topi (fun v11 hv11 => ?_)
        replace hf := hf v11 hv11
        refine lv_istore (lv' := [(9, .int v11), (0, .ref (ad 200)), (1, .int x1), (2, .int x2), (3, .int x3), (4, .int x4), (5, .int x5), (6, .int x6), (7, .int x7), (8, .int x8)]) hx hb dX12_rests_67 hl (by decide) rfl (fun ls hl => ?_)
        refine lv_iload hx hb dX12_rests_69 (lv_at hl 9 rfl) ?_
        refine lv_iconst (v := (2 : Int32)) hx hb dX12_rests_71 (by decide) ?_
        refine z_irem X dX12_rests_72 (by decide) ?_
        refine lv_topi (fun v12 hv12 => ?_)
        replace hf := hf v12 hv12
        refine lv_istore (lv' := [(10, .int v12), (9, .int v11), (0, .ref (ad 200)), (1, .int x1), (2, .int x2), (3, .int x3), (4, .int x4), (5, .int x5), (6, .int x6), (7, .int x7), (8, .int x8)]) hx hb dX12_rests_73 hl (by decide) rfl (fun ls hl => ?_)
        refine lv_iconst (v := (1 : Int32)) hx hb dX12_rests_75 (by decide) ?_
        refine lv_iload hx hb dX12_rests_76 (lv_at hl 1 rfl) ?_
        refine lv_isub hx hb dX12_rests_78 ?_
        refine lv_iload hx hb dX12_rests_79 (lv_at hl 0 rfl) ?_
        refine lv_iload_n hx hb dX12_rests_81 rfl (lv_at hl 3 rfl) ?_
        refine lv_iload_n hx hb dX12_rests_82 rfl (lv_at hl 4 rfl) ?_
        refine lv_iload_n hx hb dX12_rests_83 rfl (lv_at hl 5 rfl) ?_
        refine z_callSI (fr1 := 0) (As := [.int ((1 : Int32) - v11), .int v12, .int x1, .int x2, .int x3]) (rest := []) X (hr.le (by decide)) hR zy_X12_getsBy zq_1555 (mX12_getsBy  hf) rfl hl (Nat.le_of_ble_eq_true rfl) dX12_rests_84 rfl (fun r13 w13 H locs hf hR => ?_)
        refine lv_iload hx hb dX12_rests_87 (lv_at hl 1 rfl) ?_
        refine lv_iload hx hb dX12_rests_89 (lv_at hl 0 rfl) ?_
        refine lv_iload_n hx hb dX12_rests_91 rfl (lv_at hl 3 rfl) ?_
        refine lv_iload_n hx hb dX12_rests_92 rfl (lv_at hl 4 rfl) ?_
        refine lv_iload_n hx hb dX12_rests_93 rfl (lv_at hl 5 rfl) ?_
        refine z_callSI (fr1 := 0) (As := [.int v11, .int v12, .int x1, .int x2, .int x3]) (rest := [.int r13]) X (hr.le (by decide)) hR zy_X12_getsBy zq_1555 (mX12_getsBy  hf) rfl hl (Nat.le_of_ble_eq_true rfl) dX12_rests_94 rfl (fun r14 w14 H locs hf hR => ?_)
        refine lv_icmp_gt (tgt := 129) hx hb dX12_rests_97 (by decide) (fun c15 => ?_) (fun c15 => ?_)
        · replace hf := hf.1 c15
          refine lv_iconst (v := (0 : Int32)) hx hb dX12_rests_129 (by decide) ?_
          exact mX12_rests_J130 X hr hQ ih hf hR (lv_sub hl [2, 3, 4, 5, 6, 7, 8, 9, 10] rfl)
        · replace hf := hf.2 c15
          refine lv_iconst (v := (1 : Int32)) hx hb dX12_rests_100 (by decide) ?_
          refine lv_iload hx hb dX12_rests_101 (lv_at hl 0 rfl) ?_
          refine lv_isub hx hb dX12_rests_103 ?_
          refine lv_iload hx hb dX12_rests_104 (lv_at hl 1 rfl) ?_
          refine lv_iload_n hx hb dX12_rests_106 rfl (lv_at hl 3 rfl) ?_
          refine lv_iload_n hx hb dX12_rests_107 rfl (lv_at hl 4 rfl) ?_
          refine lv_iload_n hx hb dX12_rests_108 rfl (lv_at hl 5 rfl) ?_
          refine z_callSI (fr1 := 0) (As := [.int ((1 : Int32) - v12), .int v11, .int x1, .int x2, .int x3]) (rest := []) X (hr.le (by decide)) hR zy_X12_getsBy zq_1555 (mX12_getsBy  hf) rfl hl (Nat.le_of_ble_eq_true rfl) dX12_rests_109 rfl (fun r20 w20 H locs hf hR => ?_)
          refine lv_iload hx hb dX12_rests_112 (lv_at hl 0 rfl) ?_
          refine lv_iload hx hb dX12_rests_114 (lv_at hl 1 rfl) ?_
          refine lv_iload_n hx hb dX12_rests_116 rfl (lv_at hl 3 rfl) ?_
          refine lv_iload_n hx hb dX12_rests_117 rfl (lv_at hl 4 rfl) ?_
          refine lv_iload_n hx hb dX12_rests_118 rfl (lv_at hl 5 rfl) ?_
          refine z_callSI (fr1 := 0) (As := [.int v12, .int v11, .int x1, .int x2, .int x3]) (rest := [.int r20]) X (hr.le (by decide)) hR zy_X12_getsBy zq_1555 (mX12_getsBy  hf) rfl hl (Nat.le_of_ble_eq_true rfl) dX12_rests_119 rfl (fun r21 w21 H locs hf hR => ?_)
          have kJ22 : ∀ v22 : Int32, v22 = (if r21 < r20 then (0 : Int32) else (1 : Int32)) → W p l e R s m args below meth c H locs cells slots Q (F0 m 130 ls (.int v22 :: [])) := by
            intro v22 hv22
            replace hf := hf v22 hv22
            exact mX12_rests_J130 X hr hQ ih hf hR (lv_sub hl [2, 3, 4, 5, 6, 7, 8, 9, 10] rfl)
          refine lv_icmp_gt (tgt := 129) hx hb dX12_rests_122 (by decide) (fun c22 => ?_) (fun c22 => ?_)
          · refine lv_iconst (v := (0 : Int32)) hx hb dX12_rests_129 (by decide) ?_
            exact kJ22 _ (if_pos c22).symm
          · refine lv_iconst (v := (1 : Int32)) hx hb dX12_rests_125 (by decide) ?_
            refine lv_goto (tgt := 130) hx hb dX12_rests_126 (by decide) ?_
            exact kJ22 _ (if_neg c22).symm
def fX12_rests_J41 (k : Int32 → zW → Prop) (x1 : Int32) (x2 : Int32) (x3 : Int32) (x4 : Int32) (t0 : Int32) (w : zW) : Prop :=
  ∃ n9, fX12_rests_L52 k n9 x1 x2 x3 x4 t0 (0 : Int32) (-1 : Int32) (0 : Int32) w
set_option maxHeartbeats 4000000 in
set_option maxRecDepth 100000 in
theorem mX12_rests_J41 {k : Int32 → zW → Prop} (X : zCx p s m args meth c cX12_rests 12 RX12 (some .int)) (hr : zRm R 1 cells slots) (hQ : zRetI p l e R s m args below meth c cells slots Q D dA true ad0 al0 ad al cX12_rests k)  {x1 : Int32} {x2 : Int32} {x3 : Int32} {x4 : Int32} {t0 : Int32} {w : zW} {H : Heap} {locs : List Loc} {ls : Array Slot} (hf : fX12_rests_J41 k x1 x2 x3 x4 t0 w) (hR : zSt D dA true ad0 al0 ad al w s H locs) (hl : lv_has ls 12 [(0, .ref (ad 200)), (1, .int x1), (2, .int x2), (3, .int x3), (4, .int x4)]) : W p l e R s m args below meth c H locs cells slots Q (F0 m 41 ls [.int t0]) := by
  have hx := X.1
  have hb := X.2.1
  have hml := X.2.2.1
  have hown := X.2.2.2.1
  have hts := X.2.2.2.2.1
  unfold fX12_rests_J41 at hf
  refine lv_istore (lv' := [(5, .int t0), (0, .ref (ad 200)), (1, .int x1), (2, .int x2), (3, .int x3), (4, .int x4)]) hx hb dX12_rests_41 hl (by decide) rfl (fun ls hl => ?_)
  refine lv_iconst (v := (0 : Int32)) hx hb dX12_rests_43 (by decide) ?_
  refine lv_istore (lv' := [(6, .int (0 : Int32)), (5, .int t0), (0, .ref (ad 200)), (1, .int x1), (2, .int x2), (3, .int x3), (4, .int x4)]) hx hb dX12_rests_44 hl (by decide) rfl (fun ls hl => ?_)
  refine lv_iconst (v := (-1 : Int32)) hx hb dX12_rests_46 (by decide) ?_
  refine lv_istore (lv' := [(7, .int (-1 : Int32)), (6, .int (0 : Int32)), (5, .int t0), (0, .ref (ad 200)), (1, .int x1), (2, .int x2), (3, .int x3), (4, .int x4)]) hx hb dX12_rests_47 hl (by decide) rfl (fun ls hl => ?_)
  refine lv_iconst (v := (0 : Int32)) hx hb dX12_rests_49 (by decide) ?_
  refine lv_istore (lv' := [(8, .int (0 : Int32)), (7, .int (-1 : Int32)), (6, .int (0 : Int32)), (5, .int t0), (0, .ref (ad 200)), (1, .int x1), (2, .int x2), (3, .int x3), (4, .int x4)]) hx hb dX12_rests_50 hl (by decide) rfl (fun ls hl => ?_)
  obtain ⟨n9, hf⟩ := hf
  exact mX12_rests_L52 X hr hQ  n9 x1 x2 x3 x4 t0 (0 : Int32) (-1 : Int32) (0 : Int32) w _ _ _ hf hR (lv_sub hl [4, 5, 6, 7, 8, 3, 2, 1, 0] rfl)
def fX12_rests (x1 : Int32) (x2 : Int32) (x3 : Int32) (x4 : Int32) (w : zW) (k : Int32 → zW → Prop) : Prop :=
  fX12_within x1 (0 : Int32) (9 : Int32) w (fun r1 w1 =>
  ((r1 = 0 →
    fX12_rests_J41 k x1 x2 x3 x4 (0 : Int32) w1) ∧
   (¬ r1 = 0 →
    fX12_within x2 (0 : Int32) (9 : Int32) w1 (fun r23 w23 =>
    ((r23 = 0 →
      fX12_rests_J41 k x1 x2 x3 x4 (0 : Int32) w23) ∧
     (¬ r23 = 0 →
      fX12_within x3 (0 : Int32) (9 : Int32) w23 (fun r25 w25 =>
      ∀ v26 : Int32, v26 = (if r25 = 0 then (0 : Int32) else (if x4 < (-1 : Int32) then (0 : Int32) else (1 : Int32))) →
      fX12_rests_J41 k x1 x2 x3 x4 v26 w25)))))))
set_option maxHeartbeats 4000000 in
set_option maxRecDepth 100000 in
theorem mX12_rests {l : Launch} {D : va_G} {dA : Nat → ClassId} {ad : Nat → Nat} {al : Nat → Prop} {w : zW} {k : Int32 → zW → Prop} {x1 : Int32} {x2 : Int32} {x3 : Int32} {x4 : Int32}   (hf : fX12_rests x1 x2 x3 x4 w k) : zmetI l yX12_rests cX12_rests 12 (some .int) 1 [.ref (ad 200), .int x1, .int x2, .int x3, .int x4] D dA true ad al w k := by
  refine zmetI_of (by decide) (Nat.le_of_ble_eq_true rfl) ?_
  intro p e R s m below meth c Q H ls args locs cells slots X hr hQ hR hl
  have hx := X.1
  have hb := X.2.1
  have hml := X.2.2.1
  have hown := X.2.2.2.1
  have hts := X.2.2.2.2.1
  unfold fX12_rests at hf
  have hl : lv_has ls 12 [(0, .ref (ad 200)), (1, .int x1), (2, .int x2), (3, .int x3), (4, .int x4)] := hl
  refine lv_iload_n hx hb dX12_rests_0 rfl (lv_at hl 1 rfl) ?_
  refine lv_iconst (v := (0 : Int32)) hx hb dX12_rests_1 (by decide) ?_
  refine lv_bipush (v := (9 : Int32)) hx hb dX12_rests_2 (by decide) ?_
  refine z_callSI (fr1 := 0) (As := [.int x1, .int (0 : Int32), .int (9 : Int32)]) (rest := []) X (hr.le (by decide)) hR zy_X12_within zq_773 (mX12_within  hf) rfl hl (Nat.le_of_ble_eq_true rfl) dX12_rests_4 rfl (fun r1 w1 H locs hf hR => ?_)
  refine lv_if_eq (tgt := 40) hx hb dX12_rests_7 (by decide) (fun c2 => ?_) (fun c2 => ?_)
  · replace hf := hf.1 c2
    refine lv_iconst (v := (0 : Int32)) hx hb dX12_rests_40 (by decide) ?_
    exact mX12_rests_J41 X hr hQ  hf hR (lv_sub hl [0, 1, 2, 3, 4] rfl)
  · replace hf := hf.2 c2
    refine lv_iload_n hx hb dX12_rests_10 rfl (lv_at hl 2 rfl) ?_
    refine lv_iconst (v := (0 : Int32)) hx hb dX12_rests_11 (by decide) ?_
    refine lv_bipush (v := (9 : Int32)) hx hb dX12_rests_12 (by decide) ?_
    refine z_callSI (fr1 := 0) (As := [.int x2, .int (0 : Int32), .int (9 : Int32)]) (rest := []) X (hr.le (by decide)) hR zy_X12_within zq_773 (mX12_within  hf) rfl hl (Nat.le_of_ble_eq_true rfl) dX12_rests_14 rfl (fun r23 w23 H locs hf hR => ?_)
    refine lv_if_eq (tgt := 40) hx hb dX12_rests_17 (by decide) (fun c24 => ?_) (fun c24 => ?_)
    · replace hf := hf.1 c24
      refine lv_iconst (v := (0 : Int32)) hx hb dX12_rests_40 (by decide) ?_
      exact mX12_rests_J41 X hr hQ  hf hR (lv_sub hl [0, 1, 2, 3, 4] rfl)
    · replace hf := hf.2 c24
      refine lv_iload_n hx hb dX12_rests_20 rfl (lv_at hl 3 rfl) ?_
      refine lv_iconst (v := (0 : Int32)) hx hb dX12_rests_21 (by decide) ?_
      refine lv_bipush (v := (9 : Int32)) hx hb dX12_rests_22 (by decide) ?_
      refine z_callSI (fr1 := 0) (As := [.int x3, .int (0 : Int32), .int (9 : Int32)]) (rest := []) X (hr.le (by decide)) hR zy_X12_within zq_773 (mX12_within  hf) rfl hl (Nat.le_of_ble_eq_true rfl) dX12_rests_24 rfl (fun r25 w25 H locs hf hR => ?_)
      have kJ26 : ∀ v26 : Int32, v26 = (if r25 = 0 then (0 : Int32) else (if x4 < (-1 : Int32) then (0 : Int32) else (1 : Int32))) → W p l e R s m args below meth c H locs cells slots Q (F0 m 41 ls (.int v26 :: [])) := by
        intro v26 hv26
        replace hf := hf v26 hv26
        exact mX12_rests_J41 X hr hQ  hf hR (lv_sub hl [0, 1, 2, 3, 4] rfl)
      refine lv_if_eq (tgt := 40) hx hb dX12_rests_27 (by decide) (fun c26 => ?_) (fun c26 => ?_)
      · refine lv_iconst (v := (0 : Int32)) hx hb dX12_rests_40 (by decide) ?_
        exact kJ26 _ (if_pos c26).symm
      · refine lv_iload hx hb dX12_rests_30 (lv_at hl 4 rfl) ?_
        refine lv_iconst (v := (-1 : Int32)) hx hb dX12_rests_32 (by decide) ?_
        refine lv_icmp_lt (tgt := 40) hx hb dX12_rests_33 (by decide) (fun c27 => ?_) (fun c27 => ?_)
        · refine lv_iconst (v := (0 : Int32)) hx hb dX12_rests_40 (by decide) ?_
          exact kJ26 _ ((if_neg c26).trans (if_pos c27)).symm
        · refine lv_iconst (v := (1 : Int32)) hx hb dX12_rests_36 (by decide) ?_
          refine lv_goto (tgt := 41) hx hb dX12_rests_37 (by decide) ?_
          exact kJ26 _ ((if_neg c26).trans (if_neg c27)).symm
/-! X12_draw -/
def fX12_draw (x1 : Int32) (w : zW) (k : Int32 → zW → Prop) : Prop :=
  ∀ w1 : zW, w1 = sL w 200 42 ((((gL w 200 42) * (1103515245 : Int64)) + (12345 : Int64)) % (2147483648 : Int64)) →
  ¬ x1.toInt64 = 0 ∧
  k ((((gL w1 200 42) / (65536 : Int64)) % x1.toInt64).toInt32) w1
set_option maxHeartbeats 4000000 in
set_option maxRecDepth 100000 in
theorem mX12_draw {l : Launch} {D : va_G} {dA : Nat → ClassId} {ad : Nat → Nat} {al : Nat → Prop} {w : zW} {k : Int32 → zW → Prop} {x1 : Int32}   (hf : fX12_draw x1 w k) : zmetI l yX12_draw cX12_draw 2 (some .int) 0 [.ref (ad 200), .int x1] D dA true ad al w k := by
  refine zmetI_of (by decide) (Nat.le_of_ble_eq_true rfl) ?_
  intro p e R s m below meth c Q H ls args locs cells slots X hr hQ hR hl
  have hx := X.1
  have hb := X.2.1
  have hml := X.2.2.1
  have hown := X.2.2.2.1
  have hts := X.2.2.2.2.1
  unfold fX12_draw at hf
  have hl : lv_has ls 2 [(0, .ref (ad 200)), (1, .int x1)] := hl
  refine lv_aload_n hx hb dX12_draw_0 rfl (lv_at hl 0 rfl) ?_
  refine lv_aload_n hx hb dX12_draw_1 rfl (lv_at hl 0 rfl) ?_
  refine z_getL X hR (zlit hR zf_200) zs_200 (by decide) zfd_X12_426 rfl dX12_draw_2 ?_
  refine lv_ldc2 (v := (1103515245 : Int64)) hx hb hown (hts _ zq_1594) dX12_draw_5 ?_
  refine lv_lmul hx hb dX12_draw_8 ?_
  refine lv_ldc2 (v := (12345 : Int64)) hx hb hown (hts _ zq_1595) dX12_draw_9 ?_
  refine lv_ladd hx hb dX12_draw_12 ?_
  refine lv_ldc2 (v := (2147483648 : Int64)) hx hb hown (hts _ zq_1596) dX12_draw_13 ?_
  refine z_lrem X dX12_draw_16 (by decide) ?_
  refine z_putL X hR (zlit hR zf_200) zs_200 (by decide) zfp_X12_426 rfl dX12_draw_17 (fun H locs hR => ?_)
  obtain ⟨w1, hw1⟩ : ∃ z : zW, z = sL w 200 42 ((((gL w 200 42) * (1103515245 : Int64)) + (12345 : Int64)) % (2147483648 : Int64)) := ⟨_, rfl⟩
  rw [← hw1] at hR
  replace hf := hf w1 hw1
  refine lv_aload_n hx hb dX12_draw_20 rfl (lv_at hl 0 rfl) ?_
  refine z_getL X hR (zlit hR zf_200) zs_200 (by decide) zfd_X12_426 rfl dX12_draw_21 ?_
  refine lv_ldc2 (v := (65536 : Int64)) hx hb hown (hts _ zq_1597) dX12_draw_24 ?_
  refine lv_ldiv hx hb dX12_draw_27 (by decide) ?_
  refine lv_iload_n hx hb dX12_draw_28 rfl (lv_at hl 1 rfl) ?_
  refine lv_i2l hx hb dX12_draw_29 rfl ?_
  obtain ⟨hd2, hf⟩ := hf
  refine z_lrem X dX12_draw_30 hd2 ?_
  refine lv_l2i hx hb dX12_draw_31 rfl ?_
  exact hQ _ _ _ _ _ _ hf hR dX12_draw_32
/-! X12_isAny -/
def fX12_isAny_L4 (k : Int32 → zW → Prop) : Nat → Int32 → Int32 → zW → Prop
  | 0 => fun _ _ _ => False
  | n + 1 => fun x1 x2 w =>
    fX12_wordsTold  w (fun r1 w1 =>
    ((r1 ≤ x2 →
      zb01 x1 ∧ k x1 w1) ∧
     (¬ r1 ≤ x2 →
      ((x1 = 0 →
        fX12_isAny_L4 k n (0 : Int32) (x2 + (1 : Int32)) w1) ∧
       (¬ x1 = 0 →
        vp_in x2 4 ∧ 
        ∀ v5 : Int32, v5 = (if (gI w1 224 x2.toNatClampNeg) ≤ 0 then (0 : Int32) else (1 : Int32)) →
        fX12_isAny_L4 k n v5 (x2 + (1 : Int32)) w1)))))
set_option maxHeartbeats 4000000 in
set_option maxRecDepth 100000 in
theorem mX12_isAny_L4 {k : Int32 → zW → Prop} (X : zCx p s m args meth c cX12_isAny 3 RX12 (some .boolean)) (hr : zRm R 1 cells slots) (hQ : zRetZ p l e R s m args below meth c cells slots Q D dA true ad0 al0 ad al cX12_isAny k)  : ∀ (n : Nat) (x1 : Int32) (x2 : Int32) (w : zW) (H : Heap) (locs : List Loc) (ls : Array Slot), fX12_isAny_L4 k n x1 x2 w → zSt D dA true ad0 al0 ad al w s H locs → lv_has ls 3 [(0, .ref (ad 200)), (1, .int x1), (2, .int x2)] → W p l e R s m args below meth c H locs cells slots Q (F0 m 4 ls []) := by
  intro n
  induction n with
  | zero => exact fun _ _ _ _ _ _ hf => hf.elim
  | succ n ih =>
    intro x1 x2 w H locs ls hf hR hl
    have hx := X.1
    have hb := X.2.1
    have hml := X.2.2.1
    have hown := X.2.2.2.1
    have hts := X.2.2.2.2.1
    rw [fX12_isAny_L4] at hf
    refine lv_iload_n hx hb dX12_isAny_4 rfl (lv_at hl 2 rfl) ?_
    refine lv_aload_n hx hb dX12_isAny_5 rfl (lv_at hl 0 rfl) ?_
    refine z_callVI (fr1 := 0) (b := 200) (As := []) (rest := [.int x2]) X (hr.le (by decide)) hR zy_X12_wordsTold zq_211 (zlit hR zf_200) (by rw [zs_200]; rfl) rfl (mX12_wordsTold  hf) rfl hl (Nat.le_of_ble_eq_true rfl) dX12_isAny_6 rfl (fun r1 w1 H locs hf hR => ?_)
    refine lv_icmp_ge (tgt := 37) hx hb dX12_isAny_9 (by decide) (fun c2 => ?_) (fun c2 => ?_)
    · replace hf := hf.1 c2
      refine lv_iload_n hx hb dX12_isAny_37 rfl (lv_at hl 1 rfl) ?_
      obtain ⟨h01, hf⟩ := hf
      exact hQ _ _ _ _ _ _ h01 hf hR dX12_isAny_38
    · replace hf := hf.2 c2
      refine lv_iload_n hx hb dX12_isAny_12 rfl (lv_at hl 1 rfl) ?_
      refine lv_if_eq (tgt := 29) hx hb dX12_isAny_13 (by decide) (fun c3 => ?_) (fun c3 => ?_)
      · replace hf := hf.1 c3
        refine lv_iconst (v := (0 : Int32)) hx hb dX12_isAny_29 (by decide) ?_
        refine lv_istore_n (lv' := [(1, .int (0 : Int32)), (0, .ref (ad 200)), (2, .int x2)]) hx hb dX12_isAny_30 rfl hl (by decide) rfl (fun ls hl => ?_)
        refine lv_iinc (v := x2 + (1 : Int32)) (lv' := [(2, .int (x2 + (1 : Int32))), (1, .int (0 : Int32)), (0, .ref (ad 200))]) hx hb dX12_isAny_31 hl (k := 2) rfl rfl (by decide) rfl (fun ls hl => ?_)
        refine lv_goto (tgt := 4) hx hb dX12_isAny_34 (by decide) ?_
        exact ih (0 : Int32) (x2 + (1 : Int32)) w1 _ _ _ hf hR (lv_sub hl [2, 1, 0] rfl)
      · replace hf := hf.2 c3
        refine lv_aload_n hx hb dX12_isAny_16 rfl (lv_at hl 0 rfl) ?_
        refine z_getS X hR (zlit hR zf_200) zs_200 (by decide) zfd_X12_113 rfl (r := 224) (by decide +kernel) dX12_isAny_17 ?_
        refine lv_iload_n hx hb dX12_isAny_20 rfl (lv_at hl 2 rfl) ?_
        obtain ⟨hb4, hf⟩ := hf
        refine z_iald X hR (zlit hR zf_224) zs_224 zl_224 hb4 dX12_isAny_21 ?_
        have kJ5 : ∀ v5 : Int32, v5 = (if (gI w1 224 x2.toNatClampNeg) ≤ 0 then (0 : Int32) else (1 : Int32)) → W p l e R s m args below meth c H locs cells slots Q (F0 m 30 ls (.int v5 :: [])) := by
          intro v5 hv5
          replace hf := hf v5 hv5
          refine lv_istore_n (lv' := [(1, .int v5), (0, .ref (ad 200)), (2, .int x2)]) hx hb dX12_isAny_30 rfl hl (by decide) rfl (fun ls hl => ?_)
          refine lv_iinc (v := x2 + (1 : Int32)) (lv' := [(2, .int (x2 + (1 : Int32))), (1, .int v5), (0, .ref (ad 200))]) hx hb dX12_isAny_31 hl (k := 2) rfl rfl (by decide) rfl (fun ls hl => ?_)
          refine lv_goto (tgt := 4) hx hb dX12_isAny_34 (by decide) ?_
          exact ih v5 (x2 + (1 : Int32)) w1 _ _ _ hf hR (lv_sub hl [2, 1, 0] rfl)
        refine lv_if_le (tgt := 29) hx hb dX12_isAny_22 (by decide) (fun c5 => ?_) (fun c5 => ?_)
        · refine lv_iconst (v := (0 : Int32)) hx hb dX12_isAny_29 (by decide) ?_
          exact kJ5 _ (if_pos c5).symm
        · refine lv_iconst (v := (1 : Int32)) hx hb dX12_isAny_25 (by decide) ?_
          refine lv_goto (tgt := 30) hx hb dX12_isAny_26 (by decide) ?_
          exact kJ5 _ (if_neg c5).symm
def fX12_isAny (w : zW) (k : Int32 → zW → Prop) : Prop :=
  ∃ n9, fX12_isAny_L4 k n9 (1 : Int32) (0 : Int32) w
set_option maxHeartbeats 4000000 in
set_option maxRecDepth 100000 in
theorem mX12_isAny {l : Launch} {D : va_G} {dA : Nat → ClassId} {ad : Nat → Nat} {al : Nat → Prop} {w : zW} {k : Int32 → zW → Prop}   (hf : fX12_isAny w k) : zmetI l yX12_isAny cX12_isAny 3 (some .boolean) 1 [.ref (ad 200)] D dA true ad al w k := by
  refine zmetZ_of (by decide) (Nat.le_of_ble_eq_true rfl) ?_
  intro p e R s m below meth c Q H ls args locs cells slots X hr hQ hR hl
  have hx := X.1
  have hb := X.2.1
  have hml := X.2.2.1
  have hown := X.2.2.2.1
  have hts := X.2.2.2.2.1
  unfold fX12_isAny at hf
  have hl : lv_has ls 3 [(0, .ref (ad 200))] := hl
  refine lv_iconst (v := (1 : Int32)) hx hb dX12_isAny_0 (by decide) ?_
  refine lv_istore_n (lv' := [(1, .int (1 : Int32)), (0, .ref (ad 200))]) hx hb dX12_isAny_1 rfl hl (by decide) rfl (fun ls hl => ?_)
  refine lv_iconst (v := (0 : Int32)) hx hb dX12_isAny_2 (by decide) ?_
  refine lv_istore_n (lv' := [(2, .int (0 : Int32)), (1, .int (1 : Int32)), (0, .ref (ad 200))]) hx hb dX12_isAny_3 rfl hl (by decide) rfl (fun ls hl => ?_)
  obtain ⟨n9, hf⟩ := hf
  exact mX12_isAny_L4 X hr hQ  n9 (1 : Int32) (0 : Int32) w _ _ _ hf hR (lv_sub hl [2, 1, 0] rfl)
/-! X12_drawsOne -/
def fX12_drawsOne_J66 (k : Int32 → zW → Prop) (g4 : Int32 → Int32 → zW → Prop) (g26 : Int32 → Int32 → Int32 → Int32 → zW → Prop) (x1 : Int32) (x2 : Int32) (x4 : Int32) (t0 : Int32) (t1 : Int32) (w : zW) : Prop :=
  ∀ v10 : Int32, v10 = t1 - t0 →
  g26 x1 x2 v10 (x4 + (1 : Int32)) w
set_option maxHeartbeats 4000000 in
set_option maxRecDepth 100000 in
theorem mX12_drawsOne_J66 {k : Int32 → zW → Prop} {g4 : Int32 → Int32 → zW → Prop} {g26 : Int32 → Int32 → Int32 → Int32 → zW → Prop} (X : zCx p s m args meth c cX12_drawsOne 5 RX12 (some .boolean)) (hr : zRm R 2 cells slots) (hQ : zRetZ p l e R s m args below meth c cells slots Q D dA true ad0 al0 ad al cX12_drawsOne k) (hg4 : ∀ (x1 : Int32) (x2 : Int32) (w : zW) (H : Heap) (locs : List Loc) (ls : Array Slot), g4 x1 x2 w → zSt D dA true ad0 al0 ad al w s H locs → lv_has ls 5 [(0, .ref (ad 200)), (1, .int x1), (2, .int x2)] → W p l e R s m args below meth c H locs cells slots Q (F0 m 4 ls [])) (hg26 : ∀ (x1 : Int32) (x2 : Int32) (x3 : Int32) (x4 : Int32) (w : zW) (H : Heap) (locs : List Loc) (ls : Array Slot), g26 x1 x2 x3 x4 w → zSt D dA true ad0 al0 ad al w s H locs → lv_has ls 5 [(0, .ref (ad 200)), (1, .int x1), (2, .int x2), (3, .int x3), (4, .int x4)] → W p l e R s m args below meth c H locs cells slots Q (F0 m 26 ls [])) {x1 : Int32} {x2 : Int32} {x4 : Int32} {t0 : Int32} {t1 : Int32} {w : zW} {H : Heap} {locs : List Loc} {ls : Array Slot} (hf : fX12_drawsOne_J66 k g4 g26 x1 x2 x4 t0 t1 w) (hR : zSt D dA true ad0 al0 ad al w s H locs) (hl : lv_has ls 5 [(0, .ref (ad 200)), (1, .int x1), (2, .int x2), (4, .int x4)]) : W p l e R s m args below meth c H locs cells slots Q (F0 m 66 ls [.int t0, .int t1]) := by
  have hx := X.1
  have hb := X.2.1
  have hml := X.2.2.1
  have hown := X.2.2.2.1
  have hts := X.2.2.2.2.1
  unfold fX12_drawsOne_J66 at hf
  refine lv_isub hx hb dX12_drawsOne_66 ?_
  refine lv_topi (fun v10 hv10 => ?_)
  replace hf := hf v10 hv10
  refine lv_istore_n (lv' := [(3, .int v10), (0, .ref (ad 200)), (1, .int x1), (2, .int x2), (4, .int x4)]) hx hb dX12_drawsOne_67 rfl hl (by decide) rfl (fun ls hl => ?_)
  refine lv_iinc (v := x4 + (1 : Int32)) (lv' := [(4, .int (x4 + (1 : Int32))), (3, .int v10), (0, .ref (ad 200)), (1, .int x1), (2, .int x2)]) hx hb dX12_drawsOne_68 hl (k := 4) rfl rfl (by decide) rfl (fun ls hl => ?_)
  refine lv_goto (tgt := 26) hx hb dX12_drawsOne_71 (by decide) ?_
  exact hg26 x1 x2 v10 (x4 + (1 : Int32)) w _ _ _ hf hR (lv_sub hl [2, 3, 4, 1, 0] rfl)
def fX12_drawsOne_J45 (k : Int32 → zW → Prop) (g4 : Int32 → Int32 → zW → Prop) (g26 : Int32 → Int32 → Int32 → Int32 → zW → Prop) (x1 : Int32) (x2 : Int32) (x3 : Int32) (x4 : Int32) (w : zW) : Prop :=
  vp_in (((9 : Int32) * x2) + x4) 36 ∧ 
  ∀ v9 : Int32, v9 = (if (gI w 223 (((9 : Int32) * x2) + x4).toNatClampNeg) = 0 then (0 : Int32) else (1 : Int32)) →
  fX12_drawsOne_J66 k g4 g26 x1 x2 x4 v9 x3 w
set_option maxHeartbeats 4000000 in
set_option maxRecDepth 100000 in
theorem mX12_drawsOne_J45 {k : Int32 → zW → Prop} {g4 : Int32 → Int32 → zW → Prop} {g26 : Int32 → Int32 → Int32 → Int32 → zW → Prop} (X : zCx p s m args meth c cX12_drawsOne 5 RX12 (some .boolean)) (hr : zRm R 2 cells slots) (hQ : zRetZ p l e R s m args below meth c cells slots Q D dA true ad0 al0 ad al cX12_drawsOne k) (hg4 : ∀ (x1 : Int32) (x2 : Int32) (w : zW) (H : Heap) (locs : List Loc) (ls : Array Slot), g4 x1 x2 w → zSt D dA true ad0 al0 ad al w s H locs → lv_has ls 5 [(0, .ref (ad 200)), (1, .int x1), (2, .int x2)] → W p l e R s m args below meth c H locs cells slots Q (F0 m 4 ls [])) (hg26 : ∀ (x1 : Int32) (x2 : Int32) (x3 : Int32) (x4 : Int32) (w : zW) (H : Heap) (locs : List Loc) (ls : Array Slot), g26 x1 x2 x3 x4 w → zSt D dA true ad0 al0 ad al w s H locs → lv_has ls 5 [(0, .ref (ad 200)), (1, .int x1), (2, .int x2), (3, .int x3), (4, .int x4)] → W p l e R s m args below meth c H locs cells slots Q (F0 m 26 ls [])) {x1 : Int32} {x2 : Int32} {x3 : Int32} {x4 : Int32} {w : zW} {H : Heap} {locs : List Loc} {ls : Array Slot} (hf : fX12_drawsOne_J45 k g4 g26 x1 x2 x3 x4 w) (hR : zSt D dA true ad0 al0 ad al w s H locs) (hl : lv_has ls 5 [(0, .ref (ad 200)), (1, .int x1), (2, .int x2), (3, .int x3), (4, .int x4)]) : W p l e R s m args below meth c H locs cells slots Q (F0 m 45 ls []) := by
  have hx := X.1
  have hb := X.2.1
  have hml := X.2.2.1
  have hown := X.2.2.2.1
  have hts := X.2.2.2.2.1
  unfold fX12_drawsOne_J45 at hf
  refine lv_iload_n hx hb dX12_drawsOne_45 rfl (lv_at hl 3 rfl) ?_
  refine lv_aload_n hx hb dX12_drawsOne_46 rfl (lv_at hl 0 rfl) ?_
  refine z_getS X hR (zlit hR zf_200) zs_200 (by decide) zfd_X12_110 rfl (r := 223) (by decide +kernel) dX12_drawsOne_47 ?_
  refine lv_bipush (v := (9 : Int32)) hx hb dX12_drawsOne_50 (by decide) ?_
  refine lv_iload_n hx hb dX12_drawsOne_52 rfl (lv_at hl 2 rfl) ?_
  refine lv_imul hx hb dX12_drawsOne_53 ?_
  refine lv_iload hx hb dX12_drawsOne_54 (lv_at hl 4 rfl) ?_
  refine lv_iadd hx hb dX12_drawsOne_56 ?_
  obtain ⟨hb8, hf⟩ := hf
  refine z_zald X hR (zlit hR zf_223) zs_223 zl_223 hb8 dX12_drawsOne_57 ?_
  have kJ9 : ∀ v9 : Int32, v9 = (if (gI w 223 (((9 : Int32) * x2) + x4).toNatClampNeg) = 0 then (0 : Int32) else (1 : Int32)) → W p l e R s m args below meth c H locs cells slots Q (F0 m 66 ls (.int v9 :: .int x3 :: [])) := by
    intro v9 hv9
    replace hf := hf v9 hv9
    exact mX12_drawsOne_J66 X hr hQ hg4 hg26 hf hR (lv_sub hl [0, 1, 2, 4] rfl)
  refine lv_if_eq (tgt := 65) hx hb dX12_drawsOne_58 (by decide) (fun c9 => ?_) (fun c9 => ?_)
  · refine lv_iconst (v := (0 : Int32)) hx hb dX12_drawsOne_65 (by decide) ?_
    exact kJ9 _ (if_pos c9).symm
  · refine lv_iconst (v := (1 : Int32)) hx hb dX12_drawsOne_61 (by decide) ?_
    refine lv_goto (tgt := 66) hx hb dX12_drawsOne_62 (by decide) ?_
    exact kJ9 _ (if_neg c9).symm
def fX12_drawsOne_L26 (k : Int32 → zW → Prop) (g4 : Int32 → Int32 → zW → Prop) : Nat → Int32 → Int32 → Int32 → Int32 → zW → Prop
  | 0 => fun _ _ _ _ _ => False
  | n + 1 => fun x1 x2 x3 x4 w =>
    vp_in (((9 : Int32) * x2) + x4) 36 ∧ 
    (((gI w 223 (((9 : Int32) * x2) + x4).toNatClampNeg) = 0 →
      fX12_drawsOne_J45 k g4 (fX12_drawsOne_L26 k g4 n) x1 x2 x3 x4 w) ∧
     (¬ (gI w 223 (((9 : Int32) * x2) + x4).toNatClampNeg) = 0 →
      ((x3 ≤ 0 →
        vp_in x2 4 ∧ 
        ∀ w13 : zW, w13 = sI w 227 x2.toNatClampNeg x4 →
        ((x1 = 0 →
          g4 (0 : Int32) (x2 + (1 : Int32)) w13) ∧
         (¬ x1 = 0 →
          vp_in x2 252 ∧ 
          (((gI w13 220 x2.toNatClampNeg) < 0 →
            g4 (1 : Int32) (x2 + (1 : Int32)) w13) ∧
           (¬ (gI w13 220 x2.toNatClampNeg) < 0 →
            ∀ v17 : Int32, v17 = (if ¬ (gI w13 220 x2.toNatClampNeg) = x4 then (0 : Int32) else (1 : Int32)) →
            g4 v17 (x2 + (1 : Int32)) w13))))) ∧
       (¬ x3 ≤ 0 →
        fX12_drawsOne_J45 k g4 (fX12_drawsOne_L26 k g4 n) x1 x2 x3 x4 w))))
set_option maxHeartbeats 4000000 in
set_option maxRecDepth 100000 in
theorem mX12_drawsOne_L26 {k : Int32 → zW → Prop} {g4 : Int32 → Int32 → zW → Prop} (X : zCx p s m args meth c cX12_drawsOne 5 RX12 (some .boolean)) (hr : zRm R 2 cells slots) (hQ : zRetZ p l e R s m args below meth c cells slots Q D dA true ad0 al0 ad al cX12_drawsOne k) (hg4 : ∀ (x1 : Int32) (x2 : Int32) (w : zW) (H : Heap) (locs : List Loc) (ls : Array Slot), g4 x1 x2 w → zSt D dA true ad0 al0 ad al w s H locs → lv_has ls 5 [(0, .ref (ad 200)), (1, .int x1), (2, .int x2)] → W p l e R s m args below meth c H locs cells slots Q (F0 m 4 ls [])) : ∀ (n : Nat) (x1 : Int32) (x2 : Int32) (x3 : Int32) (x4 : Int32) (w : zW) (H : Heap) (locs : List Loc) (ls : Array Slot), fX12_drawsOne_L26 k g4 n x1 x2 x3 x4 w → zSt D dA true ad0 al0 ad al w s H locs → lv_has ls 5 [(0, .ref (ad 200)), (1, .int x1), (2, .int x2), (3, .int x3), (4, .int x4)] → W p l e R s m args below meth c H locs cells slots Q (F0 m 26 ls []) := by
  intro n
  induction n with
  | zero => exact fun _ _ _ _ _ _ _ _ hf => hf.elim
  | succ n ih =>
    intro x1 x2 x3 x4 w H locs ls hf hR hl
    have hx := X.1
    have hb := X.2.1
    have hml := X.2.2.1
    have hown := X.2.2.2.1
    have hts := X.2.2.2.2.1
    rw [fX12_drawsOne_L26] at hf
    refine lv_aload_n hx hb dX12_drawsOne_26 rfl (lv_at hl 0 rfl) ?_
    refine z_getS X hR (zlit hR zf_200) zs_200 (by decide) zfd_X12_110 rfl (r := 223) (by decide +kernel) dX12_drawsOne_27 ?_
    refine lv_bipush (v := (9 : Int32)) hx hb dX12_drawsOne_30 (by decide) ?_
    refine lv_iload_n hx hb dX12_drawsOne_32 rfl (lv_at hl 2 rfl) ?_
    refine lv_imul hx hb dX12_drawsOne_33 ?_
    refine lv_iload hx hb dX12_drawsOne_34 (lv_at hl 4 rfl) ?_
    refine lv_iadd hx hb dX12_drawsOne_36 ?_
    obtain ⟨hb6, hf⟩ := hf
    refine z_zald X hR (zlit hR zf_223) zs_223 zl_223 hb6 dX12_drawsOne_37 ?_
    refine lv_if_eq (tgt := 45) hx hb dX12_drawsOne_38 (by decide) (fun c7 => ?_) (fun c7 => ?_)
    · replace hf := hf.1 c7
      exact mX12_drawsOne_J45 X hr hQ hg4 ih hf hR (lv_sub hl [0, 1, 2, 3, 4] rfl)
    · replace hf := hf.2 c7
      refine lv_iload_n hx hb dX12_drawsOne_41 rfl (lv_at hl 3 rfl) ?_
      refine lv_if_le (tgt := 74) hx hb dX12_drawsOne_42 (by decide) (fun c11 => ?_) (fun c11 => ?_)
      · replace hf := hf.1 c11
        refine lv_aload_n hx hb dX12_drawsOne_74 rfl (lv_at hl 0 rfl) ?_
        refine z_getS X hR (zlit hR zf_200) zs_200 (by decide) zfd_X12_122 rfl (r := 227) (by decide +kernel) dX12_drawsOne_75 ?_
        refine lv_iload_n hx hb dX12_drawsOne_78 rfl (lv_at hl 2 rfl) ?_
        refine lv_iload hx hb dX12_drawsOne_79 (lv_at hl 4 rfl) ?_
        obtain ⟨hb12, hf⟩ := hf
        refine z_iast X hR (zlit hR zf_227) zs_227 zl_227 hb12 dX12_drawsOne_81 (fun H locs hR => ?_)
        obtain ⟨w13, hw13⟩ : ∃ z : zW, z = sI w 227 x2.toNatClampNeg x4 := ⟨_, rfl⟩
        rw [← hw13] at hR
        replace hf := hf w13 hw13
        refine lv_iload_n hx hb dX12_drawsOne_82 rfl (lv_at hl 1 rfl) ?_
        refine lv_if_eq (tgt := 110) hx hb dX12_drawsOne_83 (by decide) (fun c14 => ?_) (fun c14 => ?_)
        · replace hf := hf.1 c14
          refine lv_iconst (v := (0 : Int32)) hx hb dX12_drawsOne_110 (by decide) ?_
          refine lv_istore_n (lv' := [(1, .int (0 : Int32)), (0, .ref (ad 200)), (2, .int x2), (3, .int x3), (4, .int x4)]) hx hb dX12_drawsOne_111 rfl hl (by decide) rfl (fun ls hl => ?_)
          refine lv_iinc (v := x2 + (1 : Int32)) (lv' := [(2, .int (x2 + (1 : Int32))), (1, .int (0 : Int32)), (0, .ref (ad 200)), (3, .int x3), (4, .int x4)]) hx hb dX12_drawsOne_112 hl (k := 2) rfl rfl (by decide) rfl (fun ls hl => ?_)
          refine lv_goto (tgt := 4) hx hb dX12_drawsOne_115 (by decide) ?_
          exact hg4 (0 : Int32) (x2 + (1 : Int32)) w13 _ _ _ hf hR (lv_sub hl [2, 1, 0] rfl)
        · replace hf := hf.2 c14
          refine lv_aload_n hx hb dX12_drawsOne_86 rfl (lv_at hl 0 rfl) ?_
          refine z_getS X hR (zlit hR zf_200) zs_200 (by decide) zfd_X12_103 rfl (r := 220) (by decide +kernel) dX12_drawsOne_87 ?_
          refine lv_iload_n hx hb dX12_drawsOne_90 rfl (lv_at hl 2 rfl) ?_
          obtain ⟨hb15, hf⟩ := hf
          refine z_iald X hR (zlit hR zf_220) zs_220 zl_220 hb15 dX12_drawsOne_91 ?_
          refine lv_if_lt (tgt := 106) hx hb dX12_drawsOne_92 (by decide) (fun c16 => ?_) (fun c16 => ?_)
          · replace hf := hf.1 c16
            refine lv_iconst (v := (1 : Int32)) hx hb dX12_drawsOne_106 (by decide) ?_
            refine lv_goto (tgt := 111) hx hb dX12_drawsOne_107 (by decide) ?_
            refine lv_istore_n (lv' := [(1, .int (1 : Int32)), (0, .ref (ad 200)), (2, .int x2), (3, .int x3), (4, .int x4)]) hx hb dX12_drawsOne_111 rfl hl (by decide) rfl (fun ls hl => ?_)
            refine lv_iinc (v := x2 + (1 : Int32)) (lv' := [(2, .int (x2 + (1 : Int32))), (1, .int (1 : Int32)), (0, .ref (ad 200)), (3, .int x3), (4, .int x4)]) hx hb dX12_drawsOne_112 hl (k := 2) rfl rfl (by decide) rfl (fun ls hl => ?_)
            refine lv_goto (tgt := 4) hx hb dX12_drawsOne_115 (by decide) ?_
            exact hg4 (1 : Int32) (x2 + (1 : Int32)) w13 _ _ _ hf hR (lv_sub hl [2, 1, 0] rfl)
          · replace hf := hf.2 c16
            refine lv_aload_n hx hb dX12_drawsOne_95 rfl (lv_at hl 0 rfl) ?_
            refine z_getS X hR (zlit hR zf_200) zs_200 (by decide) zfd_X12_103 rfl (r := 220) (by decide +kernel) dX12_drawsOne_96 ?_
            refine lv_iload_n hx hb dX12_drawsOne_99 rfl (lv_at hl 2 rfl) ?_
            refine z_iald X hR (zlit hR zf_220) zs_220 zl_220 hb15 dX12_drawsOne_100 ?_
            refine lv_iload hx hb dX12_drawsOne_101 (lv_at hl 4 rfl) ?_
            have kJ17 : ∀ v17 : Int32, v17 = (if ¬ (gI w13 220 x2.toNatClampNeg) = x4 then (0 : Int32) else (1 : Int32)) → W p l e R s m args below meth c H locs cells slots Q (F0 m 111 ls (.int v17 :: [])) := by
              intro v17 hv17
              replace hf := hf v17 hv17
              refine lv_istore_n (lv' := [(1, .int v17), (0, .ref (ad 200)), (2, .int x2), (3, .int x3), (4, .int x4)]) hx hb dX12_drawsOne_111 rfl hl (by decide) rfl (fun ls hl => ?_)
              refine lv_iinc (v := x2 + (1 : Int32)) (lv' := [(2, .int (x2 + (1 : Int32))), (1, .int v17), (0, .ref (ad 200)), (3, .int x3), (4, .int x4)]) hx hb dX12_drawsOne_112 hl (k := 2) rfl rfl (by decide) rfl (fun ls hl => ?_)
              refine lv_goto (tgt := 4) hx hb dX12_drawsOne_115 (by decide) ?_
              exact hg4 v17 (x2 + (1 : Int32)) w13 _ _ _ hf hR (lv_sub hl [2, 1, 0] rfl)
            refine lv_icmp_ne (tgt := 110) hx hb dX12_drawsOne_103 (by decide) (fun c17 => ?_) (fun c17 => ?_)
            · refine lv_iconst (v := (0 : Int32)) hx hb dX12_drawsOne_110 (by decide) ?_
              exact kJ17 _ (if_pos c17).symm
            · refine lv_iconst (v := (1 : Int32)) hx hb dX12_drawsOne_106 (by decide) ?_
              refine lv_goto (tgt := 111) hx hb dX12_drawsOne_107 (by decide) ?_
              exact kJ17 _ (if_neg (fun h9 => h9 c17)).symm
      · replace hf := hf.2 c11
        exact mX12_drawsOne_J45 X hr hQ hg4 ih hf hR (lv_sub hl [0, 1, 2, 3, 4] rfl)
def fX12_drawsOne_L4 (k : Int32 → zW → Prop) : Nat → Int32 → Int32 → zW → Prop
  | 0 => fun _ _ _ => False
  | n + 1 => fun x1 x2 w =>
    fX12_wordsTold  w (fun r1 w1 =>
    ((r1 ≤ x2 →
      fX12_goes  w1 (fun w3 =>
      zb01 x1 ∧ k x1 w3)) ∧
     (¬ r1 ≤ x2 →
      vp_in x2 4 ∧ 
      fX12_draw (gI w1 224 x2.toNatClampNeg) w1 (fun r5 w5 =>
      ∃ n9, fX12_drawsOne_L26 k (fX12_drawsOne_L4 k n) n9 x1 x2 r5 (0 : Int32) w5))))
set_option maxHeartbeats 4000000 in
set_option maxRecDepth 100000 in
theorem mX12_drawsOne_L4 {k : Int32 → zW → Prop} (X : zCx p s m args meth c cX12_drawsOne 5 RX12 (some .boolean)) (hr : zRm R 2 cells slots) (hQ : zRetZ p l e R s m args below meth c cells slots Q D dA true ad0 al0 ad al cX12_drawsOne k)  : ∀ (n : Nat) (x1 : Int32) (x2 : Int32) (w : zW) (H : Heap) (locs : List Loc) (ls : Array Slot), fX12_drawsOne_L4 k n x1 x2 w → zSt D dA true ad0 al0 ad al w s H locs → lv_has ls 5 [(0, .ref (ad 200)), (1, .int x1), (2, .int x2)] → W p l e R s m args below meth c H locs cells slots Q (F0 m 4 ls []) := by
  intro n
  induction n with
  | zero => exact fun _ _ _ _ _ _ hf => hf.elim
  | succ n ih =>
    intro x1 x2 w H locs ls hf hR hl
    have hx := X.1
    have hb := X.2.1
    have hml := X.2.2.1
    have hown := X.2.2.2.1
    have hts := X.2.2.2.2.1
    rw [fX12_drawsOne_L4] at hf
    refine lv_iload_n hx hb dX12_drawsOne_4 rfl (lv_at hl 2 rfl) ?_
    refine lv_aload_n hx hb dX12_drawsOne_5 rfl (lv_at hl 0 rfl) ?_
    refine z_callVI (fr1 := 0) (b := 200) (As := []) (rest := [.int x2]) X (hr.le (by decide)) hR zy_X12_wordsTold zq_211 (zlit hR zf_200) (by rw [zs_200]; rfl) rfl (mX12_wordsTold  hf) rfl hl (Nat.le_of_ble_eq_true rfl) dX12_drawsOne_6 rfl (fun r1 w1 H locs hf hR => ?_)
    refine lv_icmp_ge (tgt := 118) hx hb dX12_drawsOne_9 (by decide) (fun c2 => ?_) (fun c2 => ?_)
    · replace hf := hf.1 c2
      refine lv_aload_n hx hb dX12_drawsOne_118 rfl (lv_at hl 0 rfl) ?_
      refine z_callVV (fr1 := 1) (b := 200) (As := []) (rest := []) X (hr.le (by decide)) hR zy_X12_goes zq_1082 (zlit hR zf_200) (by rw [zs_200]; rfl) rfl (mX12_goes  hf) rfl hl (Nat.le_of_ble_eq_true rfl) dX12_drawsOne_119 rfl (fun w3 H locs hf hR => ?_)
      refine lv_iload_n hx hb dX12_drawsOne_122 rfl (lv_at hl 1 rfl) ?_
      obtain ⟨h01, hf⟩ := hf
      exact hQ _ _ _ _ _ _ h01 hf hR dX12_drawsOne_123
    · replace hf := hf.2 c2
      refine lv_aload_n hx hb dX12_drawsOne_12 rfl (lv_at hl 0 rfl) ?_
      refine lv_aload_n hx hb dX12_drawsOne_13 rfl (lv_at hl 0 rfl) ?_
      refine z_getS X hR (zlit hR zf_200) zs_200 (by decide) zfd_X12_113 rfl (r := 224) (by decide +kernel) dX12_drawsOne_14 ?_
      refine lv_iload_n hx hb dX12_drawsOne_17 rfl (lv_at hl 2 rfl) ?_
      obtain ⟨hb4, hf⟩ := hf
      refine z_iald X hR (zlit hR zf_224) zs_224 zl_224 hb4 dX12_drawsOne_18 ?_
      refine z_callVI (fr1 := 0) (b := 200) (As := [.int (gI w1 224 x2.toNatClampNeg)]) (rest := []) X (hr.le (by decide)) hR zy_X12_draw zq_1590 (zlit hR zf_200) (by rw [zs_200]; rfl) rfl (mX12_draw  hf) rfl hl (Nat.le_of_ble_eq_true rfl) dX12_drawsOne_19 rfl (fun r5 w5 H locs hf hR => ?_)
      refine lv_istore_n (lv' := [(3, .int r5), (0, .ref (ad 200)), (1, .int x1), (2, .int x2)]) hx hb dX12_drawsOne_22 rfl hl (by decide) rfl (fun ls hl => ?_)
      refine lv_iconst (v := (0 : Int32)) hx hb dX12_drawsOne_23 (by decide) ?_
      refine lv_istore (lv' := [(4, .int (0 : Int32)), (3, .int r5), (0, .ref (ad 200)), (1, .int x1), (2, .int x2)]) hx hb dX12_drawsOne_24 hl (by decide) rfl (fun ls hl => ?_)
      obtain ⟨n9, hf⟩ := hf
      exact mX12_drawsOne_L26 X hr hQ ih n9 x1 x2 r5 (0 : Int32) w5 _ _ _ hf hR (lv_sub hl [2, 3, 4, 1, 0] rfl)
def fX12_drawsOne (w : zW) (k : Int32 → zW → Prop) : Prop :=
  ∃ n9, fX12_drawsOne_L4 k n9 (1 : Int32) (0 : Int32) w
set_option maxHeartbeats 4000000 in
set_option maxRecDepth 100000 in
theorem mX12_drawsOne {l : Launch} {D : va_G} {dA : Nat → ClassId} {ad : Nat → Nat} {al : Nat → Prop} {w : zW} {k : Int32 → zW → Prop}   (hf : fX12_drawsOne w k) : zmetI l yX12_drawsOne cX12_drawsOne 5 (some .boolean) 2 [.ref (ad 200)] D dA true ad al w k := by
  refine zmetZ_of (by decide) (Nat.le_of_ble_eq_true rfl) ?_
  intro p e R s m below meth c Q H ls args locs cells slots X hr hQ hR hl
  have hx := X.1
  have hb := X.2.1
  have hml := X.2.2.1
  have hown := X.2.2.2.1
  have hts := X.2.2.2.2.1
  unfold fX12_drawsOne at hf
  have hl : lv_has ls 5 [(0, .ref (ad 200))] := hl
  refine lv_iconst (v := (1 : Int32)) hx hb dX12_drawsOne_0 (by decide) ?_
  refine lv_istore_n (lv' := [(1, .int (1 : Int32)), (0, .ref (ad 200))]) hx hb dX12_drawsOne_1 rfl hl (by decide) rfl (fun ls hl => ?_)
  refine lv_iconst (v := (0 : Int32)) hx hb dX12_drawsOne_2 (by decide) ?_
  refine lv_istore_n (lv' := [(2, .int (0 : Int32)), (1, .int (1 : Int32)), (0, .ref (ad 200))]) hx hb dX12_drawsOne_3 rfl hl (by decide) rfl (fun ls hl => ?_)
  obtain ⟨n9, hf⟩ := hf
  exact mX12_drawsOne_L4 X hr hQ  n9 (1 : Int32) (0 : Int32) w _ _ _ hf hR (lv_sub hl [2, 1, 0] rfl)
/-! X12_drafts -/
def fX12_drafts_J153 (k : Int32 → zW → Prop) (x3 : Int32) (x4 : Int32) (x5 : Int32) (x6 : Int32) (w : zW) : Prop :=
  ∀ v10 : Int32, v10 = (if ¬ x3 = 0 then (if ¬ x3 = (1 : Int32) then x6 else x5) else x4) →
  k v10 w
set_option maxHeartbeats 4000000 in
set_option maxRecDepth 100000 in
theorem mX12_drafts_J153 {k : Int32 → zW → Prop} (X : zCx p s m args meth c cX12_drafts 9 RX12 (some .int)) (hr : zRm R 3 cells slots) (hQ : zRetI p l e R s m args below meth c cells slots Q D dA true ad0 al0 ad al cX12_drafts k)  {x3 : Int32} {x4 : Int32} {x5 : Int32} {x6 : Int32} {w : zW} {H : Heap} {locs : List Loc} {ls : Array Slot} (hf : fX12_drafts_J153 k x3 x4 x5 x6 w) (hR : zSt D dA true ad0 al0 ad al w s H locs) (hl : lv_has ls 9 [(3, .int x3), (4, .int x4), (5, .int x5), (6, .int x6)]) : W p l e R s m args below meth c H locs cells slots Q (F0 m 153 ls []) := by
  have hx := X.1
  have hb := X.2.1
  have hml := X.2.2.1
  have hown := X.2.2.2.1
  have hts := X.2.2.2.2.1
  unfold fX12_drafts_J153 at hf
  refine lv_iload_n hx hb dX12_drafts_153 rfl (lv_at hl 0 rfl) ?_
  have kJ10 : ∀ v10 : Int32, v10 = (if ¬ x3 = 0 then (if ¬ x3 = (1 : Int32) then x6 else x5) else x4) → W p l e R s m args below meth c H locs cells slots Q (F0 m 174 ls (.int v10 :: [])) := by
    intro v10 hv10
    replace hf := hf v10 hv10
    exact hQ _ _ _ _ _ _ hf hR dX12_drafts_174
  refine lv_if_ne (tgt := 162) hx hb dX12_drafts_154 (by decide) (fun c10 => ?_) (fun c10 => ?_)
  · refine lv_iload_n hx hb dX12_drafts_162 rfl (lv_at hl 0 rfl) ?_
    refine lv_iconst (v := (1 : Int32)) hx hb dX12_drafts_163 (by decide) ?_
    refine lv_icmp_ne (tgt := 172) hx hb dX12_drafts_164 (by decide) (fun c11 => ?_) (fun c11 => ?_)
    · refine lv_iload hx hb dX12_drafts_172 (lv_at hl 3 rfl) ?_
      exact kJ10 _ ((if_pos c10).trans (if_pos c11)).symm
    · refine lv_iload hx hb dX12_drafts_167 (lv_at hl 2 rfl) ?_
      refine lv_goto (tgt := 174) hx hb dX12_drafts_169 (by decide) ?_
      exact kJ10 _ ((if_pos c10).trans (if_neg (fun h9 => h9 c11))).symm
  · refine lv_iload hx hb dX12_drafts_157 (lv_at hl 1 rfl) ?_
    refine lv_goto (tgt := 174) hx hb dX12_drafts_159 (by decide) ?_
    exact kJ10 _ (if_neg (fun h9 => h9 c10)).symm
def fX12_drafts_J113 (k : Int32 → zW → Prop) (g56 : Int32 → Int32 → Int32 → Int32 → Int32 → Int32 → zW → Prop) (x2 : Int32) (x3 : Int32) (x5 : Int32) (x6 : Int32) (x7 : Int32) (x8 : Int32) (t0 : Int32) (t1 : Int32) (w : zW) : Prop :=
  ∀ v17 : Int32, v17 = t1 + t0 →
  fX12_bits (gI w 200 29) w (fun r18 w18 =>
  ∀ v19 : Int32, v19 = x5 + r18 →
  ∀ v20 : Int32, v20 = (if x8 = 0 then x6 else (if 0 ≤ x6 then x6 else x7)) →
  g56 x2 x3 v17 v19 v20 (x7 + (1 : Int32)) w18)
set_option maxHeartbeats 4000000 in
set_option maxRecDepth 100000 in
theorem mX12_drafts_J113 {k : Int32 → zW → Prop} {g56 : Int32 → Int32 → Int32 → Int32 → Int32 → Int32 → zW → Prop} (X : zCx p s m args meth c cX12_drafts 9 RX12 (some .int)) (hr : zRm R 3 cells slots) (hQ : zRetI p l e R s m args below meth c cells slots Q D dA true ad0 al0 ad al cX12_drafts k) (hg56 : ∀ (x2 : Int32) (x3 : Int32) (x4 : Int32) (x5 : Int32) (x6 : Int32) (x7 : Int32) (w : zW) (H : Heap) (locs : List Loc) (ls : Array Slot), g56 x2 x3 x4 x5 x6 x7 w → zSt D dA true ad0 al0 ad al w s H locs → lv_has ls 9 [(0, .ref (ad 200)), (2, .int x2), (3, .int x3), (4, .int x4), (5, .int x5), (6, .int x6), (7, .int x7)] → W p l e R s m args below meth c H locs cells slots Q (F0 m 56 ls [])) {x2 : Int32} {x3 : Int32} {x5 : Int32} {x6 : Int32} {x7 : Int32} {x8 : Int32} {t0 : Int32} {t1 : Int32} {w : zW} {H : Heap} {locs : List Loc} {ls : Array Slot} (hf : fX12_drafts_J113 k g56 x2 x3 x5 x6 x7 x8 t0 t1 w) (hR : zSt D dA true ad0 al0 ad al w s H locs) (hl : lv_has ls 9 [(0, .ref (ad 200)), (2, .int x2), (3, .int x3), (5, .int x5), (6, .int x6), (7, .int x7), (8, .int x8)]) : W p l e R s m args below meth c H locs cells slots Q (F0 m 113 ls [.int t0, .int t1]) := by
  have hx := X.1
  have hb := X.2.1
  have hml := X.2.2.1
  have hown := X.2.2.2.1
  have hts := X.2.2.2.2.1
  unfold fX12_drafts_J113 at hf
  refine lv_iadd hx hb dX12_drafts_113 ?_
  refine lv_topi (fun v17 hv17 => ?_)
  replace hf := hf v17 hv17
  refine lv_istore (lv' := [(4, .int v17), (0, .ref (ad 200)), (2, .int x2), (3, .int x3), (5, .int x5), (6, .int x6), (7, .int x7), (8, .int x8)]) hx hb dX12_drafts_114 hl (by decide) rfl (fun ls hl => ?_)
  refine lv_iload hx hb dX12_drafts_116 (lv_at hl 4 rfl) ?_
  refine lv_aload_n hx hb dX12_drafts_118 rfl (lv_at hl 1 rfl) ?_
  refine z_getI X hR (zlit hR zf_200) zs_200 (by decide) zfd_X12_349 rfl dX12_drafts_119 ?_
  refine z_callSI (fr1 := 0) (As := [.int (gI w 200 29)]) (rest := [.int x5]) X (hr.le (by decide)) hR zy_X12_bits zq_1097 (mX12_bits  hf) rfl hl (Nat.le_of_ble_eq_true rfl) dX12_drafts_122 rfl (fun r18 w18 H locs hf hR => ?_)
  refine lv_iadd hx hb dX12_drafts_125 ?_
  refine lv_topi (fun v19 hv19 => ?_)
  replace hf := hf v19 hv19
  refine lv_istore (lv' := [(5, .int v19), (4, .int v17), (0, .ref (ad 200)), (2, .int x2), (3, .int x3), (6, .int x6), (7, .int x7), (8, .int x8)]) hx hb dX12_drafts_126 hl (by decide) rfl (fun ls hl => ?_)
  refine lv_iload hx hb dX12_drafts_128 (lv_at hl 7 rfl) ?_
  have kJ20 : ∀ v20 : Int32, v20 = (if x8 = 0 then x6 else (if 0 ≤ x6 then x6 else x7)) → W p l e R s m args below meth c H locs cells slots Q (F0 m 145 ls (.int v20 :: [])) := by
    intro v20 hv20
    replace hf := hf v20 hv20
    refine lv_istore (lv' := [(6, .int v20), (5, .int v19), (4, .int v17), (0, .ref (ad 200)), (2, .int x2), (3, .int x3), (7, .int x7), (8, .int x8)]) hx hb dX12_drafts_145 hl (by decide) rfl (fun ls hl => ?_)
    refine lv_iinc (v := x7 + (1 : Int32)) (lv' := [(7, .int (x7 + (1 : Int32))), (6, .int v20), (5, .int v19), (4, .int v17), (0, .ref (ad 200)), (2, .int x2), (3, .int x3), (8, .int x8)]) hx hb dX12_drafts_147 hl (k := 6) rfl rfl (by decide) rfl (fun ls hl => ?_)
    refine lv_goto (tgt := 56) hx hb dX12_drafts_150 (by decide) ?_
    exact hg56 x2 x3 v17 v19 v20 (x7 + (1 : Int32)) w18 _ _ _ hf hR (lv_sub hl [4, 5, 6, 3, 2, 1, 0] rfl)
  refine lv_if_eq (tgt := 143) hx hb dX12_drafts_130 (by decide) (fun c20 => ?_) (fun c20 => ?_)
  · refine lv_iload hx hb dX12_drafts_143 (lv_at hl 5 rfl) ?_
    exact kJ20 _ (if_pos c20).symm
  · refine lv_iload hx hb dX12_drafts_133 (lv_at hl 5 rfl) ?_
    refine lv_if_ge (tgt := 143) hx hb dX12_drafts_135 (by decide) (fun c21 => ?_) (fun c21 => ?_)
    · refine lv_iload hx hb dX12_drafts_143 (lv_at hl 5 rfl) ?_
      exact kJ20 _ ((if_neg c20).trans (if_pos c21)).symm
    · refine lv_iload hx hb dX12_drafts_138 (lv_at hl 6 rfl) ?_
      refine lv_goto (tgt := 145) hx hb dX12_drafts_140 (by decide) ?_
      exact kJ20 _ ((if_neg c20).trans (if_neg c21)).symm
def fX12_drafts_J99 (k : Int32 → zW → Prop) (g56 : Int32 → Int32 → Int32 → Int32 → Int32 → Int32 → zW → Prop) (x2 : Int32) (x3 : Int32) (x4 : Int32) (x5 : Int32) (x6 : Int32) (x7 : Int32) (t0 : Int32) (w : zW) : Prop :=
  ∀ v16 : Int32, v16 = (if t0 = 0 then (0 : Int32) else (1 : Int32)) →
  fX12_drafts_J113 k g56 x2 x3 x5 x6 x7 t0 v16 x4 w
set_option maxHeartbeats 4000000 in
set_option maxRecDepth 100000 in
theorem mX12_drafts_J99 {k : Int32 → zW → Prop} {g56 : Int32 → Int32 → Int32 → Int32 → Int32 → Int32 → zW → Prop} (X : zCx p s m args meth c cX12_drafts 9 RX12 (some .int)) (hr : zRm R 3 cells slots) (hQ : zRetI p l e R s m args below meth c cells slots Q D dA true ad0 al0 ad al cX12_drafts k) (hg56 : ∀ (x2 : Int32) (x3 : Int32) (x4 : Int32) (x5 : Int32) (x6 : Int32) (x7 : Int32) (w : zW) (H : Heap) (locs : List Loc) (ls : Array Slot), g56 x2 x3 x4 x5 x6 x7 w → zSt D dA true ad0 al0 ad al w s H locs → lv_has ls 9 [(0, .ref (ad 200)), (2, .int x2), (3, .int x3), (4, .int x4), (5, .int x5), (6, .int x6), (7, .int x7)] → W p l e R s m args below meth c H locs cells slots Q (F0 m 56 ls [])) {x2 : Int32} {x3 : Int32} {x4 : Int32} {x5 : Int32} {x6 : Int32} {x7 : Int32} {t0 : Int32} {w : zW} {H : Heap} {locs : List Loc} {ls : Array Slot} (hf : fX12_drafts_J99 k g56 x2 x3 x4 x5 x6 x7 t0 w) (hR : zSt D dA true ad0 al0 ad al w s H locs) (hl : lv_has ls 9 [(0, .ref (ad 200)), (2, .int x2), (3, .int x3), (4, .int x4), (5, .int x5), (6, .int x6), (7, .int x7)]) : W p l e R s m args below meth c H locs cells slots Q (F0 m 99 ls [.int t0]) := by
  have hx := X.1
  have hb := X.2.1
  have hml := X.2.2.1
  have hown := X.2.2.2.1
  have hts := X.2.2.2.2.1
  unfold fX12_drafts_J99 at hf
  refine lv_istore (lv' := [(8, .int t0), (0, .ref (ad 200)), (2, .int x2), (3, .int x3), (4, .int x4), (5, .int x5), (6, .int x6), (7, .int x7)]) hx hb dX12_drafts_99 hl (by decide) rfl (fun ls hl => ?_)
  refine lv_iload hx hb dX12_drafts_101 (lv_at hl 4 rfl) ?_
  refine lv_iload hx hb dX12_drafts_103 (lv_at hl 0 rfl) ?_
  have kJ16 : ∀ v16 : Int32, v16 = (if t0 = 0 then (0 : Int32) else (1 : Int32)) → W p l e R s m args below meth c H locs cells slots Q (F0 m 113 ls (.int v16 :: .int x4 :: [])) := by
    intro v16 hv16
    replace hf := hf v16 hv16
    exact mX12_drafts_J113 X hr hQ hg56 hf hR (lv_sub hl [1, 2, 3, 5, 6, 7, 0] rfl)
  refine lv_if_eq (tgt := 112) hx hb dX12_drafts_105 (by decide) (fun c16 => ?_) (fun c16 => ?_)
  · refine lv_iconst (v := (0 : Int32)) hx hb dX12_drafts_112 (by decide) ?_
    exact kJ16 _ (if_pos c16).symm
  · refine lv_iconst (v := (1 : Int32)) hx hb dX12_drafts_108 (by decide) ?_
    refine lv_goto (tgt := 113) hx hb dX12_drafts_109 (by decide) ?_
    exact kJ16 _ (if_neg c16).symm
def fX12_drafts_L56 (k : Int32 → zW → Prop) : Nat → Int32 → Int32 → Int32 → Int32 → Int32 → Int32 → zW → Prop
  | 0 => fun _ _ _ _ _ _ _ => False
  | n + 1 => fun x2 x3 x4 x5 x6 x7 w =>
    ((x2 ≤ x7 →
      fX12_drafts_J153 k x3 x4 x5 x6 w) ∧
     (¬ x2 ≤ x7 →
      fX12_isAny  w (fun r12 w12 =>
      ((r12 = 0 →
        fX12_drafts_J153 k x3 x4 x5 x6 w12) ∧
       (¬ r12 = 0 →
        fX12_drawsOne  w12 (fun r14 w14 =>
        ((r14 = 0 →
          fX12_drafts_J99 k (fX12_drafts_L56 k n) x2 x3 x4 x5 x6 x7 (0 : Int32) w14) ∧
         (¬ r14 = 0 →
          fX12_allRows  w14 (fun r22 w22 =>
          ((¬ (gI w14 200 29) = r22 →
            fX12_drafts_J99 k (fX12_drafts_L56 k n) x2 x3 x4 x5 x6 x7 (0 : Int32) w22) ∧
           ((gI w14 200 29) = r22 →
            ∀ v24 : Int32, v24 = (if ¬ (gI w22 200 30) = 0 then (0 : Int32) else (1 : Int32)) →
            fX12_drafts_J99 k (fX12_drafts_L56 k n) x2 x3 x4 x5 x6 x7 v24 w22)))))))))))
set_option maxHeartbeats 4000000 in
set_option maxRecDepth 100000 in
theorem mX12_drafts_L56 {k : Int32 → zW → Prop} (X : zCx p s m args meth c cX12_drafts 9 RX12 (some .int)) (hr : zRm R 3 cells slots) (hQ : zRetI p l e R s m args below meth c cells slots Q D dA true ad0 al0 ad al cX12_drafts k)  : ∀ (n : Nat) (x2 : Int32) (x3 : Int32) (x4 : Int32) (x5 : Int32) (x6 : Int32) (x7 : Int32) (w : zW) (H : Heap) (locs : List Loc) (ls : Array Slot), fX12_drafts_L56 k n x2 x3 x4 x5 x6 x7 w → zSt D dA true ad0 al0 ad al w s H locs → lv_has ls 9 [(0, .ref (ad 200)), (2, .int x2), (3, .int x3), (4, .int x4), (5, .int x5), (6, .int x6), (7, .int x7)] → W p l e R s m args below meth c H locs cells slots Q (F0 m 56 ls []) := by
  intro n
  induction n with
  | zero => exact fun _ _ _ _ _ _ _ _ _ _ hf => hf.elim
  | succ n ih =>
    intro x2 x3 x4 x5 x6 x7 w H locs ls hf hR hl
    have hx := X.1
    have hb := X.2.1
    have hml := X.2.2.1
    have hown := X.2.2.2.1
    have hts := X.2.2.2.2.1
    rw [fX12_drafts_L56] at hf
    refine lv_iload hx hb dX12_drafts_56 (lv_at hl 6 rfl) ?_
    refine lv_iload_n hx hb dX12_drafts_58 rfl (lv_at hl 1 rfl) ?_
    refine lv_icmp_ge (tgt := 153) hx hb dX12_drafts_59 (by decide) (fun c9 => ?_) (fun c9 => ?_)
    · replace hf := hf.1 c9
      exact mX12_drafts_J153 X hr hQ  hf hR (lv_sub hl [2, 3, 4, 5] rfl)
    · replace hf := hf.2 c9
      refine lv_aload_n hx hb dX12_drafts_62 rfl (lv_at hl 0 rfl) ?_
      refine z_callVI (fr1 := 1) (b := 200) (As := []) (rest := []) X (hr.le (by decide)) hR zy_X12_isAny zq_1582 (zlit hR zf_200) (by rw [zs_200]; rfl) rfl (mX12_isAny  hf) rfl hl (Nat.le_of_ble_eq_true rfl) dX12_drafts_63 rfl (fun r12 w12 H locs hf hR => ?_)
      refine lv_if_eq (tgt := 153) hx hb dX12_drafts_66 (by decide) (fun c13 => ?_) (fun c13 => ?_)
      · replace hf := hf.1 c13
        exact mX12_drafts_J153 X hr hQ  hf hR (lv_sub hl [2, 3, 4, 5] rfl)
      · replace hf := hf.2 c13
        refine lv_aload_n hx hb dX12_drafts_69 rfl (lv_at hl 0 rfl) ?_
        refine z_callVI (fr1 := 2) (b := 200) (As := []) (rest := []) X (hr.le (by decide)) hR zy_X12_drawsOne zq_1586 (zlit hR zf_200) (by rw [zs_200]; rfl) rfl (mX12_drawsOne  hf) rfl hl (Nat.le_of_ble_eq_true rfl) dX12_drafts_70 rfl (fun r14 w14 H locs hf hR => ?_)
        refine lv_if_eq (tgt := 98) hx hb dX12_drafts_73 (by decide) (fun c15 => ?_) (fun c15 => ?_)
        · replace hf := hf.1 c15
          refine lv_iconst (v := (0 : Int32)) hx hb dX12_drafts_98 (by decide) ?_
          exact mX12_drafts_J99 X hr hQ ih hf hR (lv_sub hl [0, 1, 2, 3, 4, 5, 6] rfl)
        · replace hf := hf.2 c15
          refine lv_aload_n hx hb dX12_drafts_76 rfl (lv_at hl 0 rfl) ?_
          refine z_getI X hR (zlit hR zf_200) zs_200 (by decide) zfd_X12_349 rfl dX12_drafts_77 ?_
          refine lv_aload_n hx hb dX12_drafts_80 rfl (lv_at hl 0 rfl) ?_
          refine z_callVI (fr1 := 1) (b := 200) (As := []) (rest := [.int (gI w14 200 29)]) X (hr.le (by decide)) hR zy_X12_allRows zq_1093 (zlit hR zf_200) (by rw [zs_200]; rfl) rfl (mX12_allRows  hf) rfl hl (Nat.le_of_ble_eq_true rfl) dX12_drafts_81 rfl (fun r22 w22 H locs hf hR => ?_)
          refine lv_icmp_ne (tgt := 98) hx hb dX12_drafts_84 (by decide) (fun c23 => ?_) (fun c23 => ?_)
          · replace hf := hf.1 c23
            refine lv_iconst (v := (0 : Int32)) hx hb dX12_drafts_98 (by decide) ?_
            exact mX12_drafts_J99 X hr hQ ih hf hR (lv_sub hl [0, 1, 2, 3, 4, 5, 6] rfl)
          · replace hf := hf.2 c23
            refine lv_aload_n hx hb dX12_drafts_87 rfl (lv_at hl 0 rfl) ?_
            refine z_getI X hR (zlit hR zf_200) zs_200 (by decide) zfd_X12_352 rfl dX12_drafts_88 ?_
            have kJ24 : ∀ v24 : Int32, v24 = (if ¬ (gI w22 200 30) = 0 then (0 : Int32) else (1 : Int32)) → W p l e R s m args below meth c H locs cells slots Q (F0 m 99 ls (.int v24 :: [])) := by
              intro v24 hv24
              replace hf := hf v24 hv24
              exact mX12_drafts_J99 X hr hQ ih hf hR (lv_sub hl [0, 1, 2, 3, 4, 5, 6] rfl)
            refine lv_if_ne (tgt := 98) hx hb dX12_drafts_91 (by decide) (fun c24 => ?_) (fun c24 => ?_)
            · refine lv_iconst (v := (0 : Int32)) hx hb dX12_drafts_98 (by decide) ?_
              exact kJ24 _ (if_pos c24).symm
            · refine lv_iconst (v := (1 : Int32)) hx hb dX12_drafts_94 (by decide) ?_
              refine lv_goto (tgt := 99) hx hb dX12_drafts_95 (by decide) ?_
              exact kJ24 _ (if_neg (fun h9 => h9 c24)).symm
def fX12_drafts (x1 : Int32) (x2 : Int32) (x3 : Int32) (w : zW) (k : Int32 → zW → Prop) : Prop :=
  ∀ w1 : zW, w1 = sI w 200 0 (0 : Int32) →
  fX12_within x1 (0 : Int32) (9999 : Int32) w1 (fun r2 w2 =>
  ((r2 = 0 →
    k (-2 : Int32) w2) ∧
   (¬ r2 = 0 →
    fX12_within x2 (1 : Int32) (99 : Int32) w2 (fun r4 w4 =>
    ((r4 = 0 →
      k (-2 : Int32) w4) ∧
     (¬ r4 = 0 →
      fX12_within x3 (0 : Int32) (2 : Int32) w4 (fun r6 w6 =>
      ((¬ r6 = 0 →
        ∀ w8 : zW, w8 = sL w6 200 42 x1.toInt64 →
        ∃ n9, fX12_drafts_L56 k n9 x2 x3 (0 : Int32) (0 : Int32) (-1 : Int32) (0 : Int32) w8) ∧
       (r6 = 0 →
        k (-2 : Int32) w6)))))))))
set_option maxHeartbeats 4000000 in
set_option maxRecDepth 100000 in
theorem mX12_drafts {l : Launch} {D : va_G} {dA : Nat → ClassId} {ad : Nat → Nat} {al : Nat → Prop} {w : zW} {k : Int32 → zW → Prop} {x1 : Int32} {x2 : Int32} {x3 : Int32}   (hf : fX12_drafts x1 x2 x3 w k) : zmetI l yX12_drafts cX12_drafts 9 (some .int) 3 [.ref (ad 200), .int x1, .int x2, .int x3] D dA true ad al w k := by
  refine zmetI_of (by decide) (Nat.le_of_ble_eq_true rfl) ?_
  intro p e R s m below meth c Q H ls args locs cells slots X hr hQ hR hl
  have hx := X.1
  have hb := X.2.1
  have hml := X.2.2.1
  have hown := X.2.2.2.1
  have hts := X.2.2.2.2.1
  unfold fX12_drafts at hf
  have hl : lv_has ls 9 [(0, .ref (ad 200)), (1, .int x1), (2, .int x2), (3, .int x3)] := hl
  refine lv_aload_n hx hb dX12_drafts_0 rfl (lv_at hl 0 rfl) ?_
  refine lv_iconst (v := (0 : Int32)) hx hb dX12_drafts_1 (by decide) ?_
  refine z_putI X hR (zlit hR zf_200) zs_200 (by decide) zfp_X12_1 rfl dX12_drafts_2 (fun H locs hR => ?_)
  obtain ⟨w1, hw1⟩ : ∃ z : zW, z = sI w 200 0 (0 : Int32) := ⟨_, rfl⟩
  rw [← hw1] at hR
  replace hf := hf w1 hw1
  refine lv_iload_n hx hb dX12_drafts_5 rfl (lv_at hl 1 rfl) ?_
  refine lv_iconst (v := (0 : Int32)) hx hb dX12_drafts_6 (by decide) ?_
  refine lv_sipush (v := (9999 : Int32)) hx hb dX12_drafts_7 (by decide) ?_
  refine z_callSI (fr1 := 0) (As := [.int x1, .int (0 : Int32), .int (9999 : Int32)]) (rest := []) X (hr.le (by decide)) hR zy_X12_within zq_773 (mX12_within  hf) rfl hl (Nat.le_of_ble_eq_true rfl) dX12_drafts_10 rfl (fun r2 w2 H locs hf hR => ?_)
  refine lv_if_eq (tgt := 35) hx hb dX12_drafts_13 (by decide) (fun c3 => ?_) (fun c3 => ?_)
  · replace hf := hf.1 c3
    refine lv_bipush (v := (-2 : Int32)) hx hb dX12_drafts_35 (by decide) ?_
    exact hQ _ _ _ _ _ _ hf hR dX12_drafts_37
  · replace hf := hf.2 c3
    refine lv_iload_n hx hb dX12_drafts_16 rfl (lv_at hl 2 rfl) ?_
    refine lv_iconst (v := (1 : Int32)) hx hb dX12_drafts_17 (by decide) ?_
    refine lv_bipush (v := (99 : Int32)) hx hb dX12_drafts_18 (by decide) ?_
    refine z_callSI (fr1 := 0) (As := [.int x2, .int (1 : Int32), .int (99 : Int32)]) (rest := []) X (hr.le (by decide)) hR zy_X12_within zq_773 (mX12_within  hf) rfl hl (Nat.le_of_ble_eq_true rfl) dX12_drafts_20 rfl (fun r4 w4 H locs hf hR => ?_)
    refine lv_if_eq (tgt := 35) hx hb dX12_drafts_23 (by decide) (fun c5 => ?_) (fun c5 => ?_)
    · replace hf := hf.1 c5
      refine lv_bipush (v := (-2 : Int32)) hx hb dX12_drafts_35 (by decide) ?_
      exact hQ _ _ _ _ _ _ hf hR dX12_drafts_37
    · replace hf := hf.2 c5
      refine lv_iload_n hx hb dX12_drafts_26 rfl (lv_at hl 3 rfl) ?_
      refine lv_iconst (v := (0 : Int32)) hx hb dX12_drafts_27 (by decide) ?_
      refine lv_iconst (v := (2 : Int32)) hx hb dX12_drafts_28 (by decide) ?_
      refine z_callSI (fr1 := 0) (As := [.int x3, .int (0 : Int32), .int (2 : Int32)]) (rest := []) X (hr.le (by decide)) hR zy_X12_within zq_773 (mX12_within  hf) rfl hl (Nat.le_of_ble_eq_true rfl) dX12_drafts_29 rfl (fun r6 w6 H locs hf hR => ?_)
      refine lv_if_ne (tgt := 38) hx hb dX12_drafts_32 (by decide) (fun c7 => ?_) (fun c7 => ?_)
      · replace hf := hf.1 c7
        refine lv_aload_n hx hb dX12_drafts_38 rfl (lv_at hl 0 rfl) ?_
        refine lv_iload_n hx hb dX12_drafts_39 rfl (lv_at hl 1 rfl) ?_
        refine lv_i2l hx hb dX12_drafts_40 rfl ?_
        refine z_putL X hR (zlit hR zf_200) zs_200 (by decide) zfp_X12_426 rfl dX12_drafts_41 (fun H locs hR => ?_)
        obtain ⟨w8, hw8⟩ : ∃ z : zW, z = sL w6 200 42 x1.toInt64 := ⟨_, rfl⟩
        rw [← hw8] at hR
        replace hf := hf w8 hw8
        refine lv_iconst (v := (0 : Int32)) hx hb dX12_drafts_44 (by decide) ?_
        refine lv_istore (lv' := [(4, .int (0 : Int32)), (0, .ref (ad 200)), (1, .int x1), (2, .int x2), (3, .int x3)]) hx hb dX12_drafts_45 hl (by decide) rfl (fun ls hl => ?_)
        refine lv_iconst (v := (0 : Int32)) hx hb dX12_drafts_47 (by decide) ?_
        refine lv_istore (lv' := [(5, .int (0 : Int32)), (4, .int (0 : Int32)), (0, .ref (ad 200)), (1, .int x1), (2, .int x2), (3, .int x3)]) hx hb dX12_drafts_48 hl (by decide) rfl (fun ls hl => ?_)
        refine lv_iconst (v := (-1 : Int32)) hx hb dX12_drafts_50 (by decide) ?_
        refine lv_istore (lv' := [(6, .int (-1 : Int32)), (5, .int (0 : Int32)), (4, .int (0 : Int32)), (0, .ref (ad 200)), (1, .int x1), (2, .int x2), (3, .int x3)]) hx hb dX12_drafts_51 hl (by decide) rfl (fun ls hl => ?_)
        refine lv_iconst (v := (0 : Int32)) hx hb dX12_drafts_53 (by decide) ?_
        refine lv_istore (lv' := [(7, .int (0 : Int32)), (6, .int (-1 : Int32)), (5, .int (0 : Int32)), (4, .int (0 : Int32)), (0, .ref (ad 200)), (1, .int x1), (2, .int x2), (3, .int x3)]) hx hb dX12_drafts_54 hl (by decide) rfl (fun ls hl => ?_)
        obtain ⟨n9, hf⟩ := hf
        exact mX12_drafts_L56 X hr hQ  n9 x2 x3 (0 : Int32) (0 : Int32) (-1 : Int32) (0 : Int32) w8 _ _ _ hf hR (lv_sub hl [4, 6, 7, 3, 2, 1, 0] rfl)
      · replace hf := hf.2 c7
        refine lv_bipush (v := (-2 : Int32)) hx hb dX12_drafts_35 (by decide) ?_
        exact hQ _ _ _ _ _ _ hf hR dX12_drafts_37
/-! X12_mark -/
def fX12_mark_J83 (k : Int32 → zW → Prop) (t0 : Int32) (w : zW) : Prop :=
  ∀ w11 : zW, w11 = sI w 200 21 t0 →
  k (1 : Int32) w11
set_option maxHeartbeats 4000000 in
set_option maxRecDepth 100000 in
theorem mX12_mark_J83 {k : Int32 → zW → Prop} (X : zCx p s m args meth c cX12_mark 3 RX12 (some .boolean)) (hr : zRm R 1 cells slots) (hQ : zRetZ p l e R s m args below meth c cells slots Q D dA true ad0 al0 ad al cX12_mark k)  {t0 : Int32} {w : zW} {H : Heap} {locs : List Loc} {ls : Array Slot} (hf : fX12_mark_J83 k t0 w) (hR : zSt D dA true ad0 al0 ad al w s H locs) (hl : lv_has ls 3 []) : W p l e R s m args below meth c H locs cells slots Q (F0 m 83 ls [.int t0, .ref (ad 200)]) := by
  have hx := X.1
  have hb := X.2.1
  have hml := X.2.2.1
  have hown := X.2.2.2.1
  have hts := X.2.2.2.2.1
  unfold fX12_mark_J83 at hf
  refine z_putI X hR (zlit hR zf_200) zs_200 (by decide) zfp_X12_305 rfl dX12_mark_83 (fun H locs hR => ?_)
  obtain ⟨w11, hw11⟩ : ∃ z : zW, z = sI w 200 21 t0 := ⟨_, rfl⟩
  rw [← hw11] at hR
  replace hf := hf w11 hw11
  refine lv_iconst (v := (1 : Int32)) hx hb dX12_mark_86 (by decide) ?_
  exact hQ _ _ _ _ _ _ zb01_1 hf hR dX12_mark_87
def fX12_mark_J65 (k : Int32 → zW → Prop) (x2 : Int32) (t0 : Int32) (t1 : Int32) (w : zW) : Prop :=
  fX12_copies t1 t0 (12 : Int32) w (fun w9 =>
  ((x2 = 0 →
    fX12_mark_J83 k (gI w9 200 21) w9) ∧
   (¬ x2 = 0 →
    fX12_mark_J83 k (0 : Int32) w9)))
set_option maxHeartbeats 4000000 in
set_option maxRecDepth 100000 in
theorem mX12_mark_J65 {k : Int32 → zW → Prop} (X : zCx p s m args meth c cX12_mark 3 RX12 (some .boolean)) (hr : zRm R 1 cells slots) (hQ : zRetZ p l e R s m args below meth c cells slots Q D dA true ad0 al0 ad al cX12_mark k)  {x2 : Int32} {t0 : Int32} {t1 : Int32} {w : zW} {H : Heap} {locs : List Loc} {ls : Array Slot} (hf : fX12_mark_J65 k x2 t0 t1 w) (hR : zSt D dA true ad0 al0 ad al w s H locs) (hl : lv_has ls 3 [(0, .ref (ad 200)), (2, .int x2)]) : W p l e R s m args below meth c H locs cells slots Q (F0 m 65 ls [.int t0, .int t1, .ref (ad 200)]) := by
  have hx := X.1
  have hb := X.2.1
  have hml := X.2.2.1
  have hown := X.2.2.2.1
  have hts := X.2.2.2.2.1
  unfold fX12_mark_J65 at hf
  refine lv_bipush (v := (12 : Int32)) hx hb dX12_mark_65 (by decide) ?_
  refine z_callVV (fr1 := 0) (b := 200) (As := [.int t1, .int t0, .int (12 : Int32)]) (rest := []) X (hr.le (by decide)) hR zy_X12_copies zq_914 (zlit hR zf_200) (by rw [zs_200]; rfl) rfl (mX12_copies  hf) rfl hl (Nat.le_of_ble_eq_true rfl) dX12_mark_67 rfl (fun w9 H locs hf hR => ?_)
  refine lv_aload_n hx hb dX12_mark_70 rfl (lv_at hl 0 rfl) ?_
  refine lv_iload_n hx hb dX12_mark_71 rfl (lv_at hl 1 rfl) ?_
  refine lv_if_eq (tgt := 79) hx hb dX12_mark_72 (by decide) (fun c10 => ?_) (fun c10 => ?_)
  · replace hf := hf.1 c10
    refine lv_aload_n hx hb dX12_mark_79 rfl (lv_at hl 0 rfl) ?_
    refine z_getI X hR (zlit hR zf_200) zs_200 (by decide) zfd_X12_305 rfl dX12_mark_80 ?_
    exact mX12_mark_J83 X hr hQ  hf hR (lv_sub hl [] rfl)
  · replace hf := hf.2 c10
    refine lv_iconst (v := (0 : Int32)) hx hb dX12_mark_75 (by decide) ?_
    refine lv_goto (tgt := 83) hx hb dX12_mark_76 (by decide) ?_
    exact mX12_mark_J83 X hr hQ  hf hR (lv_sub hl [] rfl)
def fX12_mark_J51 (k : Int32 → zW → Prop) (x1 : Int32) (x2 : Int32) (t0 : Int32) (w : zW) : Prop :=
  ∀ v8 : Int32, v8 = (if x2 = 0 then ((12 : Int32) * ((1 : Int32) + x1)) else (0 : Int32)) →
  fX12_mark_J65 k x2 v8 t0 w
set_option maxHeartbeats 4000000 in
set_option maxRecDepth 100000 in
theorem mX12_mark_J51 {k : Int32 → zW → Prop} (X : zCx p s m args meth c cX12_mark 3 RX12 (some .boolean)) (hr : zRm R 1 cells slots) (hQ : zRetZ p l e R s m args below meth c cells slots Q D dA true ad0 al0 ad al cX12_mark k)  {x1 : Int32} {x2 : Int32} {t0 : Int32} {w : zW} {H : Heap} {locs : List Loc} {ls : Array Slot} (hf : fX12_mark_J51 k x1 x2 t0 w) (hR : zSt D dA true ad0 al0 ad al w s H locs) (hl : lv_has ls 3 [(0, .ref (ad 200)), (1, .int x1), (2, .int x2)]) : W p l e R s m args below meth c H locs cells slots Q (F0 m 51 ls [.int t0, .ref (ad 200)]) := by
  have hx := X.1
  have hb := X.2.1
  have hml := X.2.2.1
  have hown := X.2.2.2.1
  have hts := X.2.2.2.2.1
  unfold fX12_mark_J51 at hf
  refine lv_iload_n hx hb dX12_mark_51 rfl (lv_at hl 2 rfl) ?_
  have kJ8 : ∀ v8 : Int32, v8 = (if x2 = 0 then ((12 : Int32) * ((1 : Int32) + x1)) else (0 : Int32)) → W p l e R s m args below meth c H locs cells slots Q (F0 m 65 ls (.int v8 :: .int t0 :: .ref (ad 200) :: [])) := by
    intro v8 hv8
    replace hf := hf v8 hv8
    exact mX12_mark_J65 X hr hQ  hf hR (lv_sub hl [0, 2] rfl)
  refine lv_if_eq (tgt := 59) hx hb dX12_mark_52 (by decide) (fun c8 => ?_) (fun c8 => ?_)
  · refine lv_bipush (v := (12 : Int32)) hx hb dX12_mark_59 (by decide) ?_
    refine lv_iconst (v := (1 : Int32)) hx hb dX12_mark_61 (by decide) ?_
    refine lv_iload_n hx hb dX12_mark_62 rfl (lv_at hl 1 rfl) ?_
    refine lv_iadd hx hb dX12_mark_63 ?_
    refine lv_imul hx hb dX12_mark_64 ?_
    exact kJ8 _ (if_pos c8).symm
  · refine lv_iconst (v := (0 : Int32)) hx hb dX12_mark_55 (by decide) ?_
    refine lv_goto (tgt := 65) hx hb dX12_mark_56 (by decide) ?_
    exact kJ8 _ (if_neg c8).symm
def fX12_mark_J29 (k : Int32 → zW → Prop) (x1 : Int32) (x2 : Int32) (w : zW) : Prop :=
  vp_in x1 4 ∧ 
  ∀ w6 : zW, w6 = sI w 222 x1.toNatClampNeg ((1 : Int32) &&& 1) →
  ∀ v7 : Int32, v7 = (if x2 = 0 then (0 : Int32) else ((12 : Int32) * ((1 : Int32) + x1))) →
  fX12_mark_J51 k x1 x2 v7 w6
set_option maxHeartbeats 4000000 in
set_option maxRecDepth 100000 in
theorem mX12_mark_J29 {k : Int32 → zW → Prop} (X : zCx p s m args meth c cX12_mark 3 RX12 (some .boolean)) (hr : zRm R 1 cells slots) (hQ : zRetZ p l e R s m args below meth c cells slots Q D dA true ad0 al0 ad al cX12_mark k)  {x1 : Int32} {x2 : Int32} {w : zW} {H : Heap} {locs : List Loc} {ls : Array Slot} (hf : fX12_mark_J29 k x1 x2 w) (hR : zSt D dA true ad0 al0 ad al w s H locs) (hl : lv_has ls 3 [(0, .ref (ad 200)), (1, .int x1), (2, .int x2)]) : W p l e R s m args below meth c H locs cells slots Q (F0 m 29 ls []) := by
  have hx := X.1
  have hb := X.2.1
  have hml := X.2.2.1
  have hown := X.2.2.2.1
  have hts := X.2.2.2.2.1
  unfold fX12_mark_J29 at hf
  refine lv_aload_n hx hb dX12_mark_29 rfl (lv_at hl 0 rfl) ?_
  refine z_getS X hR (zlit hR zf_200) zs_200 (by decide) zfd_X12_106 rfl (r := 222) (by decide +kernel) dX12_mark_30 ?_
  refine lv_iload_n hx hb dX12_mark_33 rfl (lv_at hl 1 rfl) ?_
  refine lv_iconst (v := (1 : Int32)) hx hb dX12_mark_34 (by decide) ?_
  obtain ⟨hb5, hf⟩ := hf
  refine z_zast X hR (zlit hR zf_222) zs_222 zl_222 hb5 dX12_mark_35 (fun H locs hR => ?_)
  obtain ⟨w6, hw6⟩ : ∃ z : zW, z = sI w 222 x1.toNatClampNeg ((1 : Int32) &&& 1) := ⟨_, rfl⟩
  rw [← hw6] at hR
  replace hf := hf w6 hw6
  refine lv_aload_n hx hb dX12_mark_36 rfl (lv_at hl 0 rfl) ?_
  refine lv_iload_n hx hb dX12_mark_37 rfl (lv_at hl 2 rfl) ?_
  have kJ7 : ∀ v7 : Int32, v7 = (if x2 = 0 then (0 : Int32) else ((12 : Int32) * ((1 : Int32) + x1))) → W p l e R s m args below meth c H locs cells slots Q (F0 m 51 ls (.int v7 :: .ref (ad 200) :: [])) := by
    intro v7 hv7
    replace hf := hf v7 hv7
    exact mX12_mark_J51 X hr hQ  hf hR (lv_sub hl [0, 1, 2] rfl)
  refine lv_if_eq (tgt := 50) hx hb dX12_mark_38 (by decide) (fun c7 => ?_) (fun c7 => ?_)
  · refine lv_iconst (v := (0 : Int32)) hx hb dX12_mark_50 (by decide) ?_
    exact kJ7 _ (if_pos c7).symm
  · refine lv_bipush (v := (12 : Int32)) hx hb dX12_mark_41 (by decide) ?_
    refine lv_iconst (v := (1 : Int32)) hx hb dX12_mark_43 (by decide) ?_
    refine lv_iload_n hx hb dX12_mark_44 rfl (lv_at hl 1 rfl) ?_
    refine lv_iadd hx hb dX12_mark_45 ?_
    refine lv_imul hx hb dX12_mark_46 ?_
    refine lv_goto (tgt := 51) hx hb dX12_mark_47 (by decide) ?_
    exact kJ7 _ (if_neg c7).symm
def fX12_mark (x1 : Int32) (x2 : Int32) (w : zW) (k : Int32 → zW → Prop) : Prop :=
  ∀ w1 : zW, w1 = sI w 200 0 (0 : Int32) →
  fX12_within x1 (0 : Int32) (3 : Int32) w1 (fun r2 w2 =>
  ((r2 = 0 →
    k (0 : Int32) w2) ∧
   (¬ r2 = 0 →
    ((x2 = 0 →
      fX12_mark_J29 k x1 x2 w2) ∧
     (¬ x2 = 0 →
      vp_in x1 4 ∧ 
      ((¬ (gI w2 222 x1.toNatClampNeg) = 0 →
        fX12_mark_J29 k x1 x2 w2) ∧
       ((gI w2 222 x1.toNatClampNeg) = 0 →
        k (0 : Int32) w2)))))))
set_option maxHeartbeats 4000000 in
set_option maxRecDepth 100000 in
theorem mX12_mark {l : Launch} {D : va_G} {dA : Nat → ClassId} {ad : Nat → Nat} {al : Nat → Prop} {w : zW} {k : Int32 → zW → Prop} {x1 : Int32} {x2 : Int32}   (hf : fX12_mark x1 x2 w k) : zmetI l yX12_mark cX12_mark 3 (some .boolean) 1 [.ref (ad 200), .int x1, .int x2] D dA true ad al w k := by
  refine zmetZ_of (by decide) (Nat.le_of_ble_eq_true rfl) ?_
  intro p e R s m below meth c Q H ls args locs cells slots X hr hQ hR hl
  have hx := X.1
  have hb := X.2.1
  have hml := X.2.2.1
  have hown := X.2.2.2.1
  have hts := X.2.2.2.2.1
  unfold fX12_mark at hf
  have hl : lv_has ls 3 [(0, .ref (ad 200)), (1, .int x1), (2, .int x2)] := hl
  refine lv_aload_n hx hb dX12_mark_0 rfl (lv_at hl 0 rfl) ?_
  refine lv_iconst (v := (0 : Int32)) hx hb dX12_mark_1 (by decide) ?_
  refine z_putI X hR (zlit hR zf_200) zs_200 (by decide) zfp_X12_1 rfl dX12_mark_2 (fun H locs hR => ?_)
  obtain ⟨w1, hw1⟩ : ∃ z : zW, z = sI w 200 0 (0 : Int32) := ⟨_, rfl⟩
  rw [← hw1] at hR
  replace hf := hf w1 hw1
  refine lv_iload_n hx hb dX12_mark_5 rfl (lv_at hl 1 rfl) ?_
  refine lv_iconst (v := (0 : Int32)) hx hb dX12_mark_6 (by decide) ?_
  refine lv_iconst (v := (3 : Int32)) hx hb dX12_mark_7 (by decide) ?_
  refine z_callSI (fr1 := 0) (As := [.int x1, .int (0 : Int32), .int (3 : Int32)]) (rest := []) X (hr.le (by decide)) hR zy_X12_within zq_773 (mX12_within  hf) rfl hl (Nat.le_of_ble_eq_true rfl) dX12_mark_8 rfl (fun r2 w2 H locs hf hR => ?_)
  refine lv_if_eq (tgt := 27) hx hb dX12_mark_11 (by decide) (fun c3 => ?_) (fun c3 => ?_)
  · replace hf := hf.1 c3
    refine lv_iconst (v := (0 : Int32)) hx hb dX12_mark_27 (by decide) ?_
    exact hQ _ _ _ _ _ _ zb01_0 hf hR dX12_mark_28
  · replace hf := hf.2 c3
    refine lv_iload_n hx hb dX12_mark_14 rfl (lv_at hl 2 rfl) ?_
    refine lv_if_eq (tgt := 29) hx hb dX12_mark_15 (by decide) (fun c4 => ?_) (fun c4 => ?_)
    · replace hf := hf.1 c4
      exact mX12_mark_J29 X hr hQ  hf hR (lv_sub hl [0, 1, 2] rfl)
    · replace hf := hf.2 c4
      refine lv_aload_n hx hb dX12_mark_18 rfl (lv_at hl 0 rfl) ?_
      refine z_getS X hR (zlit hR zf_200) zs_200 (by decide) zfd_X12_106 rfl (r := 222) (by decide +kernel) dX12_mark_19 ?_
      refine lv_iload_n hx hb dX12_mark_22 rfl (lv_at hl 1 rfl) ?_
      obtain ⟨hb12, hf⟩ := hf
      refine z_zald X hR (zlit hR zf_222) zs_222 zl_222 hb12 dX12_mark_23 ?_
      refine lv_if_ne (tgt := 29) hx hb dX12_mark_24 (by decide) (fun c13 => ?_) (fun c13 => ?_)
      · replace hf := hf.1 c13
        exact mX12_mark_J29 X hr hQ  hf hR (lv_sub hl [0, 1, 2] rfl)
      · replace hf := hf.2 c13
        refine lv_iconst (v := (0 : Int32)) hx hb dX12_mark_27 (by decide) ?_
        exact hQ _ _ _ _ _ _ zb01_0 hf hR dX12_mark_28
/-! X12_meanings0 -/
def fX12_meanings0_L4 (k : Int32 → zW → Prop) : Nat → Int32 → Int32 → zW → Prop
  | 0 => fun _ _ _ => False
  | n + 1 => fun x1 x2 w =>
    fX12_wordsTold  w (fun r1 w1 =>
    ((r1 ≤ x2 →
      k x1 w1) ∧
     (¬ r1 ≤ x2 →
      vp_in x2 4 ∧ 
      ∀ v4 : Int32, v4 = x1 * (gI w1 224 x2.toNatClampNeg) →
      fX12_meanings0_L4 k n v4 (x2 + (1 : Int32)) w1)))
set_option maxHeartbeats 4000000 in
set_option maxRecDepth 100000 in
theorem mX12_meanings0_L4 {k : Int32 → zW → Prop} (X : zCx p s m args meth c cX12_meanings0 3 RX12 (some .int)) (hr : zRm R 1 cells slots) (hQ : zRetI p l e R s m args below meth c cells slots Q D dA true ad0 al0 ad al cX12_meanings0 k)  : ∀ (n : Nat) (x1 : Int32) (x2 : Int32) (w : zW) (H : Heap) (locs : List Loc) (ls : Array Slot), fX12_meanings0_L4 k n x1 x2 w → zSt D dA true ad0 al0 ad al w s H locs → lv_has ls 3 [(0, .ref (ad 200)), (1, .int x1), (2, .int x2)] → W p l e R s m args below meth c H locs cells slots Q (F0 m 4 ls []) := by
  intro n
  induction n with
  | zero => exact fun _ _ _ _ _ _ hf => hf.elim
  | succ n ih =>
    intro x1 x2 w H locs ls hf hR hl
    have hx := X.1
    have hb := X.2.1
    have hml := X.2.2.1
    have hown := X.2.2.2.1
    have hts := X.2.2.2.2.1
    rw [fX12_meanings0_L4] at hf
    refine lv_iload_n hx hb dX12_meanings0_4 rfl (lv_at hl 2 rfl) ?_
    refine lv_aload_n hx hb dX12_meanings0_5 rfl (lv_at hl 0 rfl) ?_
    refine z_callVI (fr1 := 0) (b := 200) (As := []) (rest := [.int x2]) X (hr.le (by decide)) hR zy_X12_wordsTold zq_211 (zlit hR zf_200) (by rw [zs_200]; rfl) rfl (mX12_wordsTold  hf) rfl hl (Nat.le_of_ble_eq_true rfl) dX12_meanings0_6 rfl (fun r1 w1 H locs hf hR => ?_)
    refine lv_icmp_ge (tgt := 27) hx hb dX12_meanings0_9 (by decide) (fun c2 => ?_) (fun c2 => ?_)
    · replace hf := hf.1 c2
      refine lv_iload_n hx hb dX12_meanings0_27 rfl (lv_at hl 1 rfl) ?_
      exact hQ _ _ _ _ _ _ hf hR dX12_meanings0_28
    · replace hf := hf.2 c2
      refine lv_iload_n hx hb dX12_meanings0_12 rfl (lv_at hl 1 rfl) ?_
      refine lv_aload_n hx hb dX12_meanings0_13 rfl (lv_at hl 0 rfl) ?_
      refine z_getS X hR (zlit hR zf_200) zs_200 (by decide) zfd_X12_113 rfl (r := 224) (by decide +kernel) dX12_meanings0_14 ?_
      refine lv_iload_n hx hb dX12_meanings0_17 rfl (lv_at hl 2 rfl) ?_
      obtain ⟨hb3, hf⟩ := hf
      refine z_iald X hR (zlit hR zf_224) zs_224 zl_224 hb3 dX12_meanings0_18 ?_
      refine lv_imul hx hb dX12_meanings0_19 ?_
      refine lv_topi (fun v4 hv4 => ?_)
      replace hf := hf v4 hv4
      refine lv_istore_n (lv' := [(1, .int v4), (0, .ref (ad 200)), (2, .int x2)]) hx hb dX12_meanings0_20 rfl hl (by decide) rfl (fun ls hl => ?_)
      refine lv_iinc (v := x2 + (1 : Int32)) (lv' := [(2, .int (x2 + (1 : Int32))), (1, .int v4), (0, .ref (ad 200))]) hx hb dX12_meanings0_21 hl (k := 2) rfl rfl (by decide) rfl (fun ls hl => ?_)
      refine lv_goto (tgt := 4) hx hb dX12_meanings0_24 (by decide) ?_
      exact ih v4 (x2 + (1 : Int32)) w1 _ _ _ hf hR (lv_sub hl [2, 1, 0] rfl)
def fX12_meanings0 (w : zW) (k : Int32 → zW → Prop) : Prop :=
  ∃ n9, fX12_meanings0_L4 k n9 (1 : Int32) (0 : Int32) w
set_option maxHeartbeats 4000000 in
set_option maxRecDepth 100000 in
theorem mX12_meanings0 {l : Launch} {D : va_G} {dA : Nat → ClassId} {ad : Nat → Nat} {al : Nat → Prop} {w : zW} {k : Int32 → zW → Prop}   (hf : fX12_meanings0 w k) : zmetI l yX12_meanings0 cX12_meanings0 3 (some .int) 1 [.ref (ad 200)] D dA true ad al w k := by
  refine zmetI_of (by decide) (Nat.le_of_ble_eq_true rfl) ?_
  intro p e R s m below meth c Q H ls args locs cells slots X hr hQ hR hl
  have hx := X.1
  have hb := X.2.1
  have hml := X.2.2.1
  have hown := X.2.2.2.1
  have hts := X.2.2.2.2.1
  unfold fX12_meanings0 at hf
  have hl : lv_has ls 3 [(0, .ref (ad 200))] := hl
  refine lv_iconst (v := (1 : Int32)) hx hb dX12_meanings0_0 (by decide) ?_
  refine lv_istore_n (lv' := [(1, .int (1 : Int32)), (0, .ref (ad 200))]) hx hb dX12_meanings0_1 rfl hl (by decide) rfl (fun ls hl => ?_)
  refine lv_iconst (v := (0 : Int32)) hx hb dX12_meanings0_2 (by decide) ?_
  refine lv_istore_n (lv' := [(2, .int (0 : Int32)), (1, .int (1 : Int32)), (0, .ref (ad 200))]) hx hb dX12_meanings0_3 rfl hl (by decide) rfl (fun ls hl => ?_)
  obtain ⟨n9, hf⟩ := hf
  exact mX12_meanings0_L4 X hr hQ  n9 (1 : Int32) (0 : Int32) w _ _ _ hf hR (lv_sub hl [2, 1, 0] rfl)
/-! X12_count -/
def fX12_count_J104 (k : Int32 → zW → Prop) (g79 : Int32 → Int32 → zW → Prop) (x3 : Int32) (t0 : Int32) (t1 : Int32) (w : zW) : Prop :=
  ∀ v13 : Int32, v13 = t1 ||| t0 →
  g79 v13 (x3 + (1 : Int32)) w
set_option maxHeartbeats 4000000 in
set_option maxRecDepth 100000 in
theorem mX12_count_J104 {k : Int32 → zW → Prop} {g79 : Int32 → Int32 → zW → Prop} (X : zCx p s m args meth c cX12_count 4 RX12 (some .int)) (hr : zRm R 2 cells slots) (hQ : zRetI p l e R s m args below meth c cells slots Q D dA true ad0 al0 ad al cX12_count k) (hg79 : ∀ (x2 : Int32) (x3 : Int32) (w : zW) (H : Heap) (locs : List Loc) (ls : Array Slot), g79 x2 x3 w → zSt D dA true ad0 al0 ad al w s H locs → lv_has ls 4 [(0, .ref (ad 200)), (2, .int x2), (3, .int x3)] → W p l e R s m args below meth c H locs cells slots Q (F0 m 79 ls [])) {x3 : Int32} {t0 : Int32} {t1 : Int32} {w : zW} {H : Heap} {locs : List Loc} {ls : Array Slot} (hf : fX12_count_J104 k g79 x3 t0 t1 w) (hR : zSt D dA true ad0 al0 ad al w s H locs) (hl : lv_has ls 4 [(0, .ref (ad 200)), (3, .int x3)]) : W p l e R s m args below meth c H locs cells slots Q (F0 m 104 ls [.int t0, .int t1]) := by
  have hx := X.1
  have hb := X.2.1
  have hml := X.2.2.1
  have hown := X.2.2.2.1
  have hts := X.2.2.2.2.1
  unfold fX12_count_J104 at hf
  refine lv_ior hx hb dX12_count_104 ?_
  refine lv_topi (fun v13 hv13 => ?_)
  replace hf := hf v13 hv13
  refine lv_istore_n (lv' := [(2, .int v13), (0, .ref (ad 200)), (3, .int x3)]) hx hb dX12_count_105 rfl hl (by decide) rfl (fun ls hl => ?_)
  refine lv_iinc (v := x3 + (1 : Int32)) (lv' := [(3, .int (x3 + (1 : Int32))), (2, .int v13), (0, .ref (ad 200))]) hx hb dX12_count_106 hl (k := 2) rfl rfl (by decide) rfl (fun ls hl => ?_)
  refine lv_goto (tgt := 79) hx hb dX12_count_109 (by decide) ?_
  exact hg79 v13 (x3 + (1 : Int32)) w _ _ _ hf hR (lv_sub hl [2, 1, 0] rfl)
def fX12_count_L79 (k : Int32 → zW → Prop) : Nat → Int32 → Int32 → zW → Prop
  | 0 => fun _ _ _ => False
  | n + 1 => fun x2 x3 w =>
    fX12_wordsTold  w (fun r9 w9 =>
    ((r9 ≤ x3 →
      k x2 w9) ∧
     (¬ r9 ≤ x3 →
      vp_in x3 252 ∧ 
      ∀ v12 : Int32, v12 = (if (gI w9 220 x3.toNatClampNeg) < 0 then (0 : Int32) else ((1 : Int32) <<< (x3 &&& 31))) →
      fX12_count_J104 k (fX12_count_L79 k n) x3 v12 x2 w9)))
set_option maxHeartbeats 4000000 in
set_option maxRecDepth 100000 in
theorem mX12_count_L79 {k : Int32 → zW → Prop} (X : zCx p s m args meth c cX12_count 4 RX12 (some .int)) (hr : zRm R 2 cells slots) (hQ : zRetI p l e R s m args below meth c cells slots Q D dA true ad0 al0 ad al cX12_count k)  : ∀ (n : Nat) (x2 : Int32) (x3 : Int32) (w : zW) (H : Heap) (locs : List Loc) (ls : Array Slot), fX12_count_L79 k n x2 x3 w → zSt D dA true ad0 al0 ad al w s H locs → lv_has ls 4 [(0, .ref (ad 200)), (2, .int x2), (3, .int x3)] → W p l e R s m args below meth c H locs cells slots Q (F0 m 79 ls []) := by
  intro n
  induction n with
  | zero => exact fun _ _ _ _ _ _ hf => hf.elim
  | succ n ih =>
    intro x2 x3 w H locs ls hf hR hl
    have hx := X.1
    have hb := X.2.1
    have hml := X.2.2.1
    have hown := X.2.2.2.1
    have hts := X.2.2.2.2.1
    rw [fX12_count_L79] at hf
    refine lv_iload_n hx hb dX12_count_79 rfl (lv_at hl 2 rfl) ?_
    refine lv_aload_n hx hb dX12_count_80 rfl (lv_at hl 0 rfl) ?_
    refine z_callVI (fr1 := 0) (b := 200) (As := []) (rest := [.int x3]) X (hr.le (by decide)) hR zy_X12_wordsTold zq_211 (zlit hR zf_200) (by rw [zs_200]; rfl) rfl (mX12_wordsTold  hf) rfl hl (Nat.le_of_ble_eq_true rfl) dX12_count_81 rfl (fun r9 w9 H locs hf hR => ?_)
    refine lv_icmp_ge (tgt := 112) hx hb dX12_count_84 (by decide) (fun c10 => ?_) (fun c10 => ?_)
    · replace hf := hf.1 c10
      refine lv_iload_n hx hb dX12_count_112 rfl (lv_at hl 1 rfl) ?_
      exact hQ _ _ _ _ _ _ hf hR dX12_count_113
    · replace hf := hf.2 c10
      refine lv_iload_n hx hb dX12_count_87 rfl (lv_at hl 1 rfl) ?_
      refine lv_aload_n hx hb dX12_count_88 rfl (lv_at hl 0 rfl) ?_
      refine z_getS X hR (zlit hR zf_200) zs_200 (by decide) zfd_X12_103 rfl (r := 220) (by decide +kernel) dX12_count_89 ?_
      refine lv_iload_n hx hb dX12_count_92 rfl (lv_at hl 2 rfl) ?_
      obtain ⟨hb11, hf⟩ := hf
      refine z_iald X hR (zlit hR zf_220) zs_220 zl_220 hb11 dX12_count_93 ?_
      have kJ12 : ∀ v12 : Int32, v12 = (if (gI w9 220 x3.toNatClampNeg) < 0 then (0 : Int32) else ((1 : Int32) <<< (x3 &&& 31))) → W p l e R s m args below meth c H locs cells slots Q (F0 m 104 ls (.int v12 :: .int x2 :: [])) := by
        intro v12 hv12
        replace hf := hf v12 hv12
        exact mX12_count_J104 X hr hQ ih hf hR (lv_sub hl [0, 2] rfl)
      refine lv_if_lt (tgt := 103) hx hb dX12_count_94 (by decide) (fun c12 => ?_) (fun c12 => ?_)
      · refine lv_iconst (v := (0 : Int32)) hx hb dX12_count_103 (by decide) ?_
        exact kJ12 _ (if_pos c12).symm
      · refine lv_iconst (v := (1 : Int32)) hx hb dX12_count_97 (by decide) ?_
        refine lv_iload_n hx hb dX12_count_98 rfl (lv_at hl 2 rfl) ?_
        refine lv_ishl hx hb dX12_count_99 ?_
        refine lv_goto (tgt := 104) hx hb dX12_count_100 (by decide) ?_
        exact kJ12 _ (if_neg c12).symm
def fX12_count_J143 (k : Int32 → zW → Prop) (g116 : Int32 → Int32 → zW → Prop) (x3 : Int32) (t0 : Int32) (t1 : Int32) (w : zW) : Prop :=
  ∀ v19 : Int32, v19 = t1 ||| t0 →
  g116 v19 (x3 + (1 : Int32)) w
set_option maxHeartbeats 4000000 in
set_option maxRecDepth 100000 in
theorem mX12_count_J143 {k : Int32 → zW → Prop} {g116 : Int32 → Int32 → zW → Prop} (X : zCx p s m args meth c cX12_count 4 RX12 (some .int)) (hr : zRm R 2 cells slots) (hQ : zRetI p l e R s m args below meth c cells slots Q D dA true ad0 al0 ad al cX12_count k) (hg116 : ∀ (x2 : Int32) (x3 : Int32) (w : zW) (H : Heap) (locs : List Loc) (ls : Array Slot), g116 x2 x3 w → zSt D dA true ad0 al0 ad al w s H locs → lv_has ls 4 [(0, .ref (ad 200)), (2, .int x2), (3, .int x3)] → W p l e R s m args below meth c H locs cells slots Q (F0 m 116 ls [])) {x3 : Int32} {t0 : Int32} {t1 : Int32} {w : zW} {H : Heap} {locs : List Loc} {ls : Array Slot} (hf : fX12_count_J143 k g116 x3 t0 t1 w) (hR : zSt D dA true ad0 al0 ad al w s H locs) (hl : lv_has ls 4 [(0, .ref (ad 200)), (3, .int x3)]) : W p l e R s m args below meth c H locs cells slots Q (F0 m 143 ls [.int t0, .int t1]) := by
  have hx := X.1
  have hb := X.2.1
  have hml := X.2.2.1
  have hown := X.2.2.2.1
  have hts := X.2.2.2.2.1
  unfold fX12_count_J143 at hf
  refine lv_ior hx hb dX12_count_143 ?_
  refine lv_topi (fun v19 hv19 => ?_)
  replace hf := hf v19 hv19
  refine lv_istore_n (lv' := [(2, .int v19), (0, .ref (ad 200)), (3, .int x3)]) hx hb dX12_count_144 rfl hl (by decide) rfl (fun ls hl => ?_)
  refine lv_iinc (v := x3 + (1 : Int32)) (lv' := [(3, .int (x3 + (1 : Int32))), (2, .int v19), (0, .ref (ad 200))]) hx hb dX12_count_145 hl (k := 2) rfl rfl (by decide) rfl (fun ls hl => ?_)
  refine lv_goto (tgt := 116) hx hb dX12_count_148 (by decide) ?_
  exact hg116 v19 (x3 + (1 : Int32)) w _ _ _ hf hR (lv_sub hl [2, 1, 0] rfl)
def fX12_count_L116 (k : Int32 → zW → Prop) : Nat → Int32 → Int32 → zW → Prop
  | 0 => fun _ _ _ => False
  | n + 1 => fun x2 x3 w =>
    fX12_rows  w (fun r15 w15 =>
    ((r15 ≤ x3 →
      k x2 w15) ∧
     (¬ r15 ≤ x3 →
      vp_in ((4 : Int32) + x3) 252 ∧ 
      ∀ v18 : Int32, v18 = (if (gI w15 220 ((4 : Int32) + x3).toNatClampNeg) < 0 then (0 : Int32) else ((1 : Int32) <<< (x3 &&& 31))) →
      fX12_count_J143 k (fX12_count_L116 k n) x3 v18 x2 w15)))
set_option maxHeartbeats 4000000 in
set_option maxRecDepth 100000 in
theorem mX12_count_L116 {k : Int32 → zW → Prop} (X : zCx p s m args meth c cX12_count 4 RX12 (some .int)) (hr : zRm R 2 cells slots) (hQ : zRetI p l e R s m args below meth c cells slots Q D dA true ad0 al0 ad al cX12_count k)  : ∀ (n : Nat) (x2 : Int32) (x3 : Int32) (w : zW) (H : Heap) (locs : List Loc) (ls : Array Slot), fX12_count_L116 k n x2 x3 w → zSt D dA true ad0 al0 ad al w s H locs → lv_has ls 4 [(0, .ref (ad 200)), (2, .int x2), (3, .int x3)] → W p l e R s m args below meth c H locs cells slots Q (F0 m 116 ls []) := by
  intro n
  induction n with
  | zero => exact fun _ _ _ _ _ _ hf => hf.elim
  | succ n ih =>
    intro x2 x3 w H locs ls hf hR hl
    have hx := X.1
    have hb := X.2.1
    have hml := X.2.2.1
    have hown := X.2.2.2.1
    have hts := X.2.2.2.2.1
    rw [fX12_count_L116] at hf
    refine lv_iload_n hx hb dX12_count_116 rfl (lv_at hl 2 rfl) ?_
    refine lv_aload_n hx hb dX12_count_117 rfl (lv_at hl 0 rfl) ?_
    refine z_callVI (fr1 := 0) (b := 200) (As := []) (rest := [.int x3]) X (hr.le (by decide)) hR zy_X12_rows zq_199 (zlit hR zf_200) (by rw [zs_200]; rfl) rfl (mX12_rows  hf) rfl hl (Nat.le_of_ble_eq_true rfl) dX12_count_118 rfl (fun r15 w15 H locs hf hR => ?_)
    refine lv_icmp_ge (tgt := 151) hx hb dX12_count_121 (by decide) (fun c16 => ?_) (fun c16 => ?_)
    · replace hf := hf.1 c16
      refine lv_iload_n hx hb dX12_count_151 rfl (lv_at hl 1 rfl) ?_
      exact hQ _ _ _ _ _ _ hf hR dX12_count_152
    · replace hf := hf.2 c16
      refine lv_iload_n hx hb dX12_count_124 rfl (lv_at hl 1 rfl) ?_
      refine lv_aload_n hx hb dX12_count_125 rfl (lv_at hl 0 rfl) ?_
      refine z_getS X hR (zlit hR zf_200) zs_200 (by decide) zfd_X12_103 rfl (r := 220) (by decide +kernel) dX12_count_126 ?_
      refine lv_iconst (v := (4 : Int32)) hx hb dX12_count_129 (by decide) ?_
      refine lv_iload_n hx hb dX12_count_130 rfl (lv_at hl 2 rfl) ?_
      refine lv_iadd hx hb dX12_count_131 ?_
      obtain ⟨hb17, hf⟩ := hf
      refine z_iald X hR (zlit hR zf_220) zs_220 zl_220 hb17 dX12_count_132 ?_
      have kJ18 : ∀ v18 : Int32, v18 = (if (gI w15 220 ((4 : Int32) + x3).toNatClampNeg) < 0 then (0 : Int32) else ((1 : Int32) <<< (x3 &&& 31))) → W p l e R s m args below meth c H locs cells slots Q (F0 m 143 ls (.int v18 :: .int x2 :: [])) := by
        intro v18 hv18
        replace hf := hf v18 hv18
        exact mX12_count_J143 X hr hQ ih hf hR (lv_sub hl [0, 2] rfl)
      refine lv_if_lt (tgt := 142) hx hb dX12_count_133 (by decide) (fun c18 => ?_) (fun c18 => ?_)
      · refine lv_iconst (v := (0 : Int32)) hx hb dX12_count_142 (by decide) ?_
        exact kJ18 _ (if_pos c18).symm
      · refine lv_iconst (v := (1 : Int32)) hx hb dX12_count_136 (by decide) ?_
        refine lv_iload_n hx hb dX12_count_137 rfl (lv_at hl 2 rfl) ?_
        refine lv_ishl hx hb dX12_count_138 ?_
        refine lv_goto (tgt := 143) hx hb dX12_count_139 (by decide) ?_
        exact kJ18 _ (if_neg c18).symm
def fX12_count (x1 : Int32) (w : zW) (k : Int32 → zW → Prop) : Prop :=
  ∀ w1 : zW, w1 = sI w 200 0 (0 : Int32) →
  ∀ sv2 : Int32, sv2 = x1 →
  ((sv2 = (0 : Int32) →
    fX12_wordsTold  w1 (fun r4 w4 =>
    k r4 w4)) ∧
  (¬ sv2 = (0 : Int32) →
  ((sv2 = (1 : Int32) →
    fX12_rows  w1 (fun r6 w6 =>
    k r6 w6)) ∧
  (¬ sv2 = (1 : Int32) →
  ((sv2 = (2 : Int32) →
    k (gI w1 210 (1 : Int32).toNatClampNeg) w1) ∧
  (¬ sv2 = (2 : Int32) →
  ((sv2 = (3 : Int32) →
    ∃ n9, fX12_count_L79 k n9 (0 : Int32) (0 : Int32) w1) ∧
  (¬ sv2 = (3 : Int32) →
  ((sv2 = (4 : Int32) →
    ∃ n9, fX12_count_L116 k n9 (0 : Int32) (0 : Int32) w1) ∧
  (¬ sv2 = (4 : Int32) →
  ((sv2 = (5 : Int32) →
    fX12_meanings0  w1 (fun r21 w21 =>
    k r21 w21)) ∧
  (¬ sv2 = (5 : Int32) →
  ((sv2 = (6 : Int32) →
    k (gI w1 217 (0 : Int32).toNatClampNeg) w1) ∧
  (¬ sv2 = (6 : Int32) →
  ((sv2 = (7 : Int32) →
    k (gI w1 200 21) w1) ∧
  (¬ sv2 = (7 : Int32) →
  ((sv2 = (8 : Int32) →
    k (gI w1 200 2) w1) ∧
  (¬ sv2 = (8 : Int32) →
  
  k (-1 : Int32) w1))))))))))))))))))
set_option maxHeartbeats 4000000 in
set_option maxRecDepth 100000 in
theorem mX12_count {l : Launch} {D : va_G} {dA : Nat → ClassId} {ad : Nat → Nat} {al : Nat → Prop} {w : zW} {k : Int32 → zW → Prop} {x1 : Int32}   (hf : fX12_count x1 w k) : zmetI l yX12_count cX12_count 4 (some .int) 2 [.ref (ad 200), .int x1] D dA true ad al w k := by
  refine zmetI_of (by decide) (Nat.le_of_ble_eq_true rfl) ?_
  intro p e R s m below meth c Q H ls args locs cells slots X hr hQ hR hl
  have hx := X.1
  have hb := X.2.1
  have hml := X.2.2.1
  have hown := X.2.2.2.1
  have hts := X.2.2.2.2.1
  unfold fX12_count at hf
  have hl : lv_has ls 4 [(0, .ref (ad 200)), (1, .int x1)] := hl
  refine lv_aload_n hx hb dX12_count_0 rfl (lv_at hl 0 rfl) ?_
  refine lv_iconst (v := (0 : Int32)) hx hb dX12_count_1 (by decide) ?_
  refine z_putI X hR (zlit hR zf_200) zs_200 (by decide) zfp_X12_1 rfl dX12_count_2 (fun H locs hR => ?_)
  obtain ⟨w1, hw1⟩ : ∃ z : zW, z = sI w 200 0 (0 : Int32) := ⟨_, rfl⟩
  rw [← hw1] at hR
  replace hf := hf w1 hw1
  refine lv_iconst (v := (0 : Int32)) hx hb dX12_count_5 (by decide) ?_
  refine lv_istore_n (lv' := [(2, .int (0 : Int32)), (0, .ref (ad 200)), (1, .int x1)]) hx hb dX12_count_6 rfl hl (by decide) rfl (fun ls hl => ?_)
  refine lv_iload_n hx hb dX12_count_7 rfl (lv_at hl 2 rfl) ?_
  refine lv_topi (fun sv2 hsv2 => ?_)
  replace hf := hf sv2 hsv2
  by_cases c3 : sv2 = (0 : Int32)
  · replace hf := hf.1 c3
    refine lv_tableIn (off := 52) (tgt := 60) hx hb dX12_count_8 (by rw [c3]; decide) (by rw [c3]; decide) (by rw [c3]; decide) (by decide) ?_
    refine lv_aload_n hx hb dX12_count_60 rfl (lv_at hl 1 rfl) ?_
    refine z_callVI (fr1 := 0) (b := 200) (As := []) (rest := []) X (hr.le (by decide)) hR zy_X12_wordsTold zq_211 (zlit hR zf_200) (by rw [zs_200]; rfl) rfl (mX12_wordsTold  hf) rfl hl (Nat.le_of_ble_eq_true rfl) dX12_count_61 rfl (fun r4 w4 H locs hf hR => ?_)
    exact hQ _ _ _ _ _ _ hf hR dX12_count_64
  replace hf := hf.2 c3
  by_cases c5 : sv2 = (1 : Int32)
  · replace hf := hf.1 c5
    refine lv_tableIn (off := 57) (tgt := 65) hx hb dX12_count_8 (by rw [c5]; decide) (by rw [c5]; decide) (by rw [c5]; decide) (by decide) ?_
    refine lv_aload_n hx hb dX12_count_65 rfl (lv_at hl 1 rfl) ?_
    refine z_callVI (fr1 := 0) (b := 200) (As := []) (rest := []) X (hr.le (by decide)) hR zy_X12_rows zq_199 (zlit hR zf_200) (by rw [zs_200]; rfl) rfl (mX12_rows  hf) rfl hl (Nat.le_of_ble_eq_true rfl) dX12_count_66 rfl (fun r6 w6 H locs hf hR => ?_)
    exact hQ _ _ _ _ _ _ hf hR dX12_count_69
  replace hf := hf.2 c5
  by_cases c7 : sv2 = (2 : Int32)
  · replace hf := hf.1 c7
    refine lv_tableIn (off := 62) (tgt := 70) hx hb dX12_count_8 (by rw [c7]; decide) (by rw [c7]; decide) (by rw [c7]; decide) (by decide) ?_
    refine lv_aload_n hx hb dX12_count_70 rfl (lv_at hl 1 rfl) ?_
    refine z_getS X hR (zlit hR zf_200) zs_200 (by decide) zfd_X12_79 rfl (r := 210) (by decide +kernel) dX12_count_71 ?_
    refine lv_iconst (v := (1 : Int32)) hx hb dX12_count_74 (by decide) ?_
    refine z_iald X hR (zlit hR zf_210) zs_210 zl_210 (zin (by decide)) dX12_count_75 ?_
    exact hQ _ _ _ _ _ _ hf hR dX12_count_76
  replace hf := hf.2 c7
  by_cases c8 : sv2 = (3 : Int32)
  · replace hf := hf.1 c8
    refine lv_tableIn (off := 69) (tgt := 77) hx hb dX12_count_8 (by rw [c8]; decide) (by rw [c8]; decide) (by rw [c8]; decide) (by decide) ?_
    refine lv_iconst (v := (0 : Int32)) hx hb dX12_count_77 (by decide) ?_
    refine lv_istore_n (lv' := [(3, .int (0 : Int32)), (2, .int (0 : Int32)), (0, .ref (ad 200)), (1, .int x1)]) hx hb dX12_count_78 rfl hl (by decide) rfl (fun ls hl => ?_)
    obtain ⟨n9, hf⟩ := hf
    exact mX12_count_L79 X hr hQ  n9 (0 : Int32) (0 : Int32) w1 _ _ _ hf hR (lv_sub hl [2, 1, 0] rfl)
  replace hf := hf.2 c8
  by_cases c14 : sv2 = (4 : Int32)
  · replace hf := hf.1 c14
    refine lv_tableIn (off := 106) (tgt := 114) hx hb dX12_count_8 (by rw [c14]; decide) (by rw [c14]; decide) (by rw [c14]; decide) (by decide) ?_
    refine lv_iconst (v := (0 : Int32)) hx hb dX12_count_114 (by decide) ?_
    refine lv_istore_n (lv' := [(3, .int (0 : Int32)), (2, .int (0 : Int32)), (0, .ref (ad 200)), (1, .int x1)]) hx hb dX12_count_115 rfl hl (by decide) rfl (fun ls hl => ?_)
    obtain ⟨n9, hf⟩ := hf
    exact mX12_count_L116 X hr hQ  n9 (0 : Int32) (0 : Int32) w1 _ _ _ hf hR (lv_sub hl [2, 1, 0] rfl)
  replace hf := hf.2 c14
  by_cases c20 : sv2 = (5 : Int32)
  · replace hf := hf.1 c20
    refine lv_tableIn (off := 145) (tgt := 153) hx hb dX12_count_8 (by rw [c20]; decide) (by rw [c20]; decide) (by rw [c20]; decide) (by decide) ?_
    refine lv_aload_n hx hb dX12_count_153 rfl (lv_at hl 1 rfl) ?_
    refine z_callVI (fr1 := 1) (b := 200) (As := []) (rest := []) X (hr.le (by decide)) hR zy_X12_meanings0 zq_1621 (zlit hR zf_200) (by rw [zs_200]; rfl) rfl (mX12_meanings0  hf) rfl hl (Nat.le_of_ble_eq_true rfl) dX12_count_154 rfl (fun r21 w21 H locs hf hR => ?_)
    exact hQ _ _ _ _ _ _ hf hR dX12_count_157
  replace hf := hf.2 c20
  by_cases c22 : sv2 = (6 : Int32)
  · replace hf := hf.1 c22
    refine lv_tableIn (off := 150) (tgt := 158) hx hb dX12_count_8 (by rw [c22]; decide) (by rw [c22]; decide) (by rw [c22]; decide) (by decide) ?_
    refine lv_aload_n hx hb dX12_count_158 rfl (lv_at hl 1 rfl) ?_
    refine z_getS X hR (zlit hR zf_200) zs_200 (by decide) zfd_X12_94 rfl (r := 217) (by decide +kernel) dX12_count_159 ?_
    refine lv_iconst (v := (0 : Int32)) hx hb dX12_count_162 (by decide) ?_
    refine z_iald X hR (zlit hR zf_217) zs_217 zl_217 (zin (by decide)) dX12_count_163 ?_
    exact hQ _ _ _ _ _ _ hf hR dX12_count_164
  replace hf := hf.2 c22
  by_cases c23 : sv2 = (7 : Int32)
  · replace hf := hf.1 c23
    refine lv_tableIn (off := 157) (tgt := 165) hx hb dX12_count_8 (by rw [c23]; decide) (by rw [c23]; decide) (by rw [c23]; decide) (by decide) ?_
    refine lv_aload_n hx hb dX12_count_165 rfl (lv_at hl 1 rfl) ?_
    refine z_getI X hR (zlit hR zf_200) zs_200 (by decide) zfd_X12_305 rfl dX12_count_166 ?_
    exact hQ _ _ _ _ _ _ hf hR dX12_count_169
  replace hf := hf.2 c23
  by_cases c24 : sv2 = (8 : Int32)
  · replace hf := hf.1 c24
    refine lv_tableIn (off := 162) (tgt := 170) hx hb dX12_count_8 (by rw [c24]; decide) (by rw [c24]; decide) (by rw [c24]; decide) (by decide) ?_
    refine lv_aload_n hx hb dX12_count_170 rfl (lv_at hl 1 rfl) ?_
    refine z_getI X hR (zlit hR zf_200) zs_200 (by decide) zfd_X12_11 rfl dX12_count_171 ?_
    exact hQ _ _ _ _ _ _ hf hR dX12_count_174
  replace hf := hf.2 c24
  have ho8 : sv2.toInt < 0 ∨ 8 < sv2.toInt := by
    have := z_i32ne (k := (0 : Int32)) c3
    have := z_i32ne (k := (1 : Int32)) c5
    have := z_i32ne (k := (2 : Int32)) c7
    have := z_i32ne (k := (3 : Int32)) c8
    have := z_i32ne (k := (4 : Int32)) c14
    have := z_i32ne (k := (5 : Int32)) c20
    have := z_i32ne (k := (6 : Int32)) c22
    have := z_i32ne (k := (7 : Int32)) c23
    have := z_i32ne (k := (8 : Int32)) c24
    simp only [show ((0 : Int32)).toInt = 0 from by decide, show ((1 : Int32)).toInt = 1 from by decide, show ((2 : Int32)).toInt = 2 from by decide, show ((3 : Int32)).toInt = 3 from by decide, show ((4 : Int32)).toInt = 4 from by decide, show ((5 : Int32)).toInt = 5 from by decide, show ((6 : Int32)).toInt = 6 from by decide, show ((7 : Int32)).toInt = 7 from by decide, show ((8 : Int32)).toInt = 8 from by decide] at *
    omega
  refine lv_tableOut (tgt := 175) hx hb dX12_count_8 ho8 (by decide) ?_
  refine lv_iconst (v := (-1 : Int32)) hx hb dX12_count_175 (by decide) ?_
  exact hQ _ _ _ _ _ _ hf hR dX12_count_176
end ZM
