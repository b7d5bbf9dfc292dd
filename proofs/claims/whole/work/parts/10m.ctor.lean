theorem dX3_init_0 : decode cX3_init 0 = .ok (.aload_n 0, 1) := by decide +kernel
theorem dX3_init_1 : decode cX3_init 1 = .ok (.invokespecial 3, 3) := by decide +kernel
theorem dX3_init_4 : decode cX3_init 4 = .ok (.aload_n 0, 1) := by decide +kernel
theorem dX3_init_5 : decode cX3_init 5 = .ok (.bipush 12, 2) := by decide +kernel
theorem dX3_init_7 : decode cX3_init 7 = .ok (.newarray .int, 2) := by decide +kernel
theorem dX3_init_9 : decode cX3_init 9 = .ok (.putfield 9, 3) := by decide +kernel
theorem dX3_init_12 : decode cX3_init 12 = .ok (.aload_n 0, 1) := by decide +kernel
theorem dX3_init_13 : decode cX3_init 13 = .ok (.getfield 9, 3) := by decide +kernel
theorem dX3_init_16 : decode cX3_init 16 = .ok (.iconst (-1), 1) := by decide +kernel
theorem dX3_init_17 : decode cX3_init 17 = .ok (.invokestatic 15, 3) := by decide +kernel
theorem dX3_init_20 : decode cX3_init 20 = .ok (.return_, 1) := by decide +kernel
theorem dX10_init_0 : decode cX10_init 0 = .ok (.aload_n 0, 1) := by decide +kernel
theorem dX10_init_1 : decode cX10_init 1 = .ok (.invokespecial 3, 3) := by decide +kernel
theorem dX10_init_4 : decode cX10_init 4 = .ok (.aload_n 0, 1) := by decide +kernel
theorem dX10_init_5 : decode cX10_init 5 = .ok (.sipush 1000, 3) := by decide +kernel
theorem dX10_init_8 : decode cX10_init 8 = .ok (.newarray .char, 2) := by decide +kernel
theorem dX10_init_10 : decode cX10_init 10 = .ok (.putfield 11, 3) := by decide +kernel
theorem dX10_init_13 : decode cX10_init 13 = .ok (.return_, 1) := by decide +kernel
theorem dX7_init_0 : decode cX7_init 0 = .ok (.aload_n 0, 1) := by decide +kernel
theorem dX7_init_1 : decode cX7_init 1 = .ok (.invokespecial 1, 3) := by decide +kernel
theorem dX7_init_4 : decode cX7_init 4 = .ok (.aload_n 0, 1) := by decide +kernel
theorem dX7_init_5 : decode cX7_init 5 = .ok (.sipush 1000, 3) := by decide +kernel
theorem dX7_init_8 : decode cX7_init 8 = .ok (.newarray .int, 2) := by decide +kernel
theorem dX7_init_10 : decode cX7_init 10 = .ok (.putfield 9, 3) := by decide +kernel
theorem dX7_init_13 : decode cX7_init 13 = .ok (.aload_n 0, 1) := by decide +kernel
theorem dX7_init_14 : decode cX7_init 14 = .ok (.bipush 32, 2) := by decide +kernel
theorem dX7_init_16 : decode cX7_init 16 = .ok (.newarray .int, 2) := by decide +kernel
theorem dX7_init_18 : decode cX7_init 18 = .ok (.putfield 15, 3) := by decide +kernel
theorem dX7_init_21 : decode cX7_init 21 = .ok (.aload_n 0, 1) := by decide +kernel
theorem dX7_init_22 : decode cX7_init 22 = .ok (.aload_n 1, 1) := by decide +kernel
theorem dX7_init_23 : decode cX7_init 23 = .ok (.putfield 18, 3) := by decide +kernel
theorem dX7_init_26 : decode cX7_init 26 = .ok (.return_, 1) := by decide +kernel
theorem dX1_init_0 : decode cX1_init 0 = .ok (.aload_n 0, 1) := by decide +kernel
theorem dX1_init_1 : decode cX1_init 1 = .ok (.invokespecial 3, 3) := by decide +kernel
theorem dX1_init_4 : decode cX1_init 4 = .ok (.aload_n 0, 1) := by decide +kernel
theorem dX1_init_5 : decode cX1_init 5 = .ok (.iconst 3, 1) := by decide +kernel
theorem dX1_init_6 : decode cX1_init 6 = .ok (.newarray .int, 2) := by decide +kernel
theorem dX1_init_8 : decode cX1_init 8 = .ok (.putfield 11, 3) := by decide +kernel
theorem dX1_init_11 : decode cX1_init 11 = .ok (.aload_n 0, 1) := by decide +kernel
theorem dX1_init_12 : decode cX1_init 12 = .ok (.aload_n 1, 1) := by decide +kernel
theorem dX1_init_13 : decode cX1_init 13 = .ok (.putfield 15, 3) := by decide +kernel
theorem dX1_init_16 : decode cX1_init 16 = .ok (.aload_n 0, 1) := by decide +kernel
theorem dX1_init_17 : decode cX1_init 17 = .ok (.new 19, 3) := by decide +kernel
theorem dX1_init_20 : decode cX1_init 20 = .ok (.dup, 1) := by decide +kernel
theorem dX1_init_21 : decode cX1_init 21 = .ok (.aload_n 1, 1) := by decide +kernel
theorem dX1_init_22 : decode cX1_init 22 = .ok (.invokespecial 21, 3) := by decide +kernel
theorem dX1_init_25 : decode cX1_init 25 = .ok (.putfield 24, 3) := by decide +kernel
theorem dX1_init_28 : decode cX1_init 28 = .ok (.return_, 1) := by decide +kernel
theorem dX6_init_0 : decode cX6_init 0 = .ok (.aload_n 0, 1) := by decide +kernel
theorem dX6_init_1 : decode cX6_init 1 = .ok (.invokespecial 1, 3) := by decide +kernel
theorem dX6_init_4 : decode cX6_init 4 = .ok (.aload_n 0, 1) := by decide +kernel
theorem dX6_init_5 : decode cX6_init 5 = .ok (.bipush 16, 2) := by decide +kernel
theorem dX6_init_7 : decode cX6_init 7 = .ok (.newarray .int, 2) := by decide +kernel
theorem dX6_init_9 : decode cX6_init 9 = .ok (.putfield 9, 3) := by decide +kernel
theorem dX6_init_12 : decode cX6_init 12 = .ok (.aload_n 0, 1) := by decide +kernel
theorem dX6_init_13 : decode cX6_init 13 = .ok (.bipush 16, 2) := by decide +kernel
theorem dX6_init_15 : decode cX6_init 15 = .ok (.newarray .int, 2) := by decide +kernel
theorem dX6_init_17 : decode cX6_init 17 = .ok (.putfield 13, 3) := by decide +kernel
theorem dX6_init_20 : decode cX6_init 20 = .ok (.return_, 1) := by decide +kernel
theorem dX8_init_0 : decode cX8_init 0 = .ok (.aload_n 0, 1) := by decide +kernel
theorem dX8_init_1 : decode cX8_init 1 = .ok (.invokespecial 3, 3) := by decide +kernel
theorem dX8_init_4 : decode cX8_init 4 = .ok (.aload_n 0, 1) := by decide +kernel
theorem dX8_init_5 : decode cX8_init 5 = .ok (.iconst 1, 1) := by decide +kernel
theorem dX8_init_6 : decode cX8_init 6 = .ok (.putfield 9, 3) := by decide +kernel
theorem dX8_init_9 : decode cX8_init 9 = .ok (.aload_n 0, 1) := by decide +kernel
theorem dX8_init_10 : decode cX8_init 10 = .ok (.iconst 1, 1) := by decide +kernel
theorem dX8_init_11 : decode cX8_init 11 = .ok (.putfield 15, 3) := by decide +kernel
theorem dX8_init_14 : decode cX8_init 14 = .ok (.aload_n 0, 1) := by decide +kernel
theorem dX8_init_15 : decode cX8_init 15 = .ok (.iconst 1, 1) := by decide +kernel
theorem dX8_init_16 : decode cX8_init 16 = .ok (.newarray .int, 2) := by decide +kernel
theorem dX8_init_18 : decode cX8_init 18 = .ok (.putfield 18, 3) := by decide +kernel
theorem dX8_init_21 : decode cX8_init 21 = .ok (.aload_n 0, 1) := by decide +kernel
theorem dX8_init_22 : decode cX8_init 22 = .ok (.iconst 1, 1) := by decide +kernel
theorem dX8_init_23 : decode cX8_init 23 = .ok (.newarray .int, 2) := by decide +kernel
theorem dX8_init_25 : decode cX8_init 25 = .ok (.putfield 22, 3) := by decide +kernel
theorem dX8_init_28 : decode cX8_init 28 = .ok (.aload_n 0, 1) := by decide +kernel
theorem dX8_init_29 : decode cX8_init 29 = .ok (.iconst 1, 1) := by decide +kernel
theorem dX8_init_30 : decode cX8_init 30 = .ok (.newarray .int, 2) := by decide +kernel
theorem dX8_init_32 : decode cX8_init 32 = .ok (.putfield 25, 3) := by decide +kernel
theorem dX8_init_35 : decode cX8_init 35 = .ok (.aload_n 0, 1) := by decide +kernel
theorem dX8_init_36 : decode cX8_init 36 = .ok (.iconst 4, 1) := by decide +kernel
theorem dX8_init_37 : decode cX8_init 37 = .ok (.newarray .int, 2) := by decide +kernel
theorem dX8_init_39 : decode cX8_init 39 = .ok (.putfield 28, 3) := by decide +kernel
theorem dX8_init_42 : decode cX8_init 42 = .ok (.return_, 1) := by decide +kernel
theorem dX9_init_0 : decode cX9_init 0 = .ok (.aload_n 0, 1) := by decide +kernel
theorem dX9_init_1 : decode cX9_init 1 = .ok (.invokespecial 3, 3) := by decide +kernel
theorem dX9_init_4 : decode cX9_init 4 = .ok (.aload_n 0, 1) := by decide +kernel
theorem dX9_init_5 : decode cX9_init 5 = .ok (.bipush 121, 2) := by decide +kernel
theorem dX9_init_7 : decode cX9_init 7 = .ok (.newarray .int, 2) := by decide +kernel
theorem dX9_init_9 : decode cX9_init 9 = .ok (.putfield 9, 3) := by decide +kernel
theorem dX9_init_12 : decode cX9_init 12 = .ok (.return_, 1) := by decide +kernel
theorem dX4_init_0 : decode cX4_init 0 = .ok (.aload_n 0, 1) := by decide +kernel
theorem dX4_init_1 : decode cX4_init 1 = .ok (.invokespecial 3, 3) := by decide +kernel
theorem dX4_init_4 : decode cX4_init 4 = .ok (.aload_n 0, 1) := by decide +kernel
theorem dX4_init_5 : decode cX4_init 5 = .ok (.iconst 1, 1) := by decide +kernel
theorem dX4_init_6 : decode cX4_init 6 = .ok (.putfield 9, 3) := by decide +kernel
theorem dX4_init_9 : decode cX4_init 9 = .ok (.aload_n 0, 1) := by decide +kernel
theorem dX4_init_10 : decode cX4_init 10 = .ok (.bipush 8, 2) := by decide +kernel
theorem dX4_init_12 : decode cX4_init 12 = .ok (.newarray .int, 2) := by decide +kernel
theorem dX4_init_14 : decode cX4_init 14 = .ok (.putfield 15, 3) := by decide +kernel
theorem dX4_init_17 : decode cX4_init 17 = .ok (.return_, 1) := by decide +kernel
theorem dX0_init_0 : decode cX0_init 0 = .ok (.aload_n 0, 1) := by decide +kernel
theorem dX0_init_1 : decode cX0_init 1 = .ok (.invokespecial 3, 3) := by decide +kernel
theorem dX0_init_4 : decode cX0_init 4 = .ok (.aload_n 0, 1) := by decide +kernel
theorem dX0_init_5 : decode cX0_init 5 = .ok (.iconst 4, 1) := by decide +kernel
theorem dX0_init_6 : decode cX0_init 6 = .ok (.newarray .long, 2) := by decide +kernel
theorem dX0_init_8 : decode cX0_init 8 = .ok (.putfield 9, 3) := by decide +kernel
theorem dX0_init_11 : decode cX0_init 11 = .ok (.aload_n 0, 1) := by decide +kernel
theorem dX0_init_12 : decode cX0_init 12 = .ok (.iconst 4, 1) := by decide +kernel
theorem dX0_init_13 : decode cX0_init 13 = .ok (.newarray .int, 2) := by decide +kernel
theorem dX0_init_15 : decode cX0_init 15 = .ok (.putfield 15, 3) := by decide +kernel
theorem dX0_init_18 : decode cX0_init 18 = .ok (.aload_n 0, 1) := by decide +kernel
theorem dX0_init_19 : decode cX0_init 19 = .ok (.iconst 4, 1) := by decide +kernel
theorem dX0_init_20 : decode cX0_init 20 = .ok (.newarray .int, 2) := by decide +kernel
theorem dX0_init_22 : decode cX0_init 22 = .ok (.putfield 19, 3) := by decide +kernel
theorem dX0_init_25 : decode cX0_init 25 = .ok (.aload_n 0, 1) := by decide +kernel
theorem dX0_init_26 : decode cX0_init 26 = .ok (.iconst 4, 1) := by decide +kernel
theorem dX0_init_27 : decode cX0_init 27 = .ok (.newarray .int, 2) := by decide +kernel
theorem dX0_init_29 : decode cX0_init 29 = .ok (.putfield 22, 3) := by decide +kernel
theorem dX0_init_32 : decode cX0_init 32 = .ok (.aload_n 0, 1) := by decide +kernel
theorem dX0_init_33 : decode cX0_init 33 = .ok (.iconst 4, 1) := by decide +kernel
theorem dX0_init_34 : decode cX0_init 34 = .ok (.bipush 9, 2) := by decide +kernel
theorem dX0_init_36 : decode cX0_init 36 = .ok (.multianewarray 25 2, 4) := by decide +kernel
theorem dX0_init_40 : decode cX0_init 40 = .ok (.putfield 27, 3) := by decide +kernel
theorem dX0_init_43 : decode cX0_init 43 = .ok (.aload_n 0, 1) := by decide +kernel
theorem dX0_init_44 : decode cX0_init 44 = .ok (.bipush 8, 2) := by decide +kernel
theorem dX0_init_46 : decode cX0_init 46 = .ok (.newarray .int, 2) := by decide +kernel
theorem dX0_init_48 : decode cX0_init 48 = .ok (.putfield 30, 3) := by decide +kernel
theorem dX0_init_51 : decode cX0_init 51 = .ok (.aload_n 0, 1) := by decide +kernel
theorem dX0_init_52 : decode cX0_init 52 = .ok (.bipush 8, 2) := by decide +kernel
theorem dX0_init_54 : decode cX0_init 54 = .ok (.bipush 60, 2) := by decide +kernel
theorem dX0_init_56 : decode cX0_init 56 = .ok (.multianewarray 25 2, 4) := by decide +kernel
theorem dX0_init_60 : decode cX0_init 60 = .ok (.putfield 33, 3) := by decide +kernel
theorem dX0_init_63 : decode cX0_init 63 = .ok (.aload_n 0, 1) := by decide +kernel
theorem dX0_init_64 : decode cX0_init 64 = .ok (.bipush 8, 2) := by decide +kernel
theorem dX0_init_66 : decode cX0_init 66 = .ok (.iconst 4, 1) := by decide +kernel
theorem dX0_init_67 : decode cX0_init 67 = .ok (.multianewarray 25 2, 4) := by decide +kernel
theorem dX0_init_71 : decode cX0_init 71 = .ok (.putfield 36, 3) := by decide +kernel
theorem dX0_init_74 : decode cX0_init 74 = .ok (.aload_n 0, 1) := by decide +kernel
theorem dX0_init_75 : decode cX0_init 75 = .ok (.bipush 8, 2) := by decide +kernel
theorem dX0_init_77 : decode cX0_init 77 = .ok (.newarray .int, 2) := by decide +kernel
theorem dX0_init_79 : decode cX0_init 79 = .ok (.putfield 39, 3) := by decide +kernel
theorem dX0_init_82 : decode cX0_init 82 = .ok (.aload_n 0, 1) := by decide +kernel
theorem dX0_init_83 : decode cX0_init 83 = .ok (.bipush 8, 2) := by decide +kernel
theorem dX0_init_85 : decode cX0_init 85 = .ok (.newarray .int, 2) := by decide +kernel
theorem dX0_init_87 : decode cX0_init 87 = .ok (.putfield 42, 3) := by decide +kernel
theorem dX0_init_90 : decode cX0_init 90 = .ok (.aload_n 0, 1) := by decide +kernel
theorem dX0_init_91 : decode cX0_init 91 = .ok (.getfield 39, 3) := by decide +kernel
theorem dX0_init_94 : decode cX0_init 94 = .ok (.iconst (-1), 1) := by decide +kernel
theorem dX0_init_95 : decode cX0_init 95 = .ok (.invokestatic 45, 3) := by decide +kernel
theorem dX0_init_98 : decode cX0_init 98 = .ok (.return_, 1) := by decide +kernel
theorem dX5_init_0 : decode cX5_init 0 = .ok (.aload_n 0, 1) := by decide +kernel
theorem dX5_init_1 : decode cX5_init 1 = .ok (.invokespecial 3, 3) := by decide +kernel
theorem dX5_init_4 : decode cX5_init 4 = .ok (.aload_n 0, 1) := by decide +kernel
theorem dX5_init_5 : decode cX5_init 5 = .ok (.iconst 1, 1) := by decide +kernel
theorem dX5_init_6 : decode cX5_init 6 = .ok (.putfield 9, 3) := by decide +kernel
theorem dX5_init_9 : decode cX5_init 9 = .ok (.aload_n 0, 1) := by decide +kernel
theorem dX5_init_10 : decode cX5_init 10 = .ok (.bipush 40, 2) := by decide +kernel
theorem dX5_init_12 : decode cX5_init 12 = .ok (.newarray .int, 2) := by decide +kernel
theorem dX5_init_14 : decode cX5_init 14 = .ok (.putfield 15, 3) := by decide +kernel
theorem dX5_init_17 : decode cX5_init 17 = .ok (.aload_n 0, 1) := by decide +kernel
theorem dX5_init_18 : decode cX5_init 18 = .ok (.bipush 40, 2) := by decide +kernel
theorem dX5_init_20 : decode cX5_init 20 = .ok (.newarray .int, 2) := by decide +kernel
theorem dX5_init_22 : decode cX5_init 22 = .ok (.putfield 19, 3) := by decide +kernel
theorem dX5_init_25 : decode cX5_init 25 = .ok (.aload_n 0, 1) := by decide +kernel
theorem dX5_init_26 : decode cX5_init 26 = .ok (.bipush 40, 2) := by decide +kernel
theorem dX5_init_28 : decode cX5_init 28 = .ok (.newarray .int, 2) := by decide +kernel
theorem dX5_init_30 : decode cX5_init 30 = .ok (.putfield 22, 3) := by decide +kernel
theorem dX5_init_33 : decode cX5_init 33 = .ok (.aload_n 0, 1) := by decide +kernel
theorem dX5_init_34 : decode cX5_init 34 = .ok (.new 25, 3) := by decide +kernel
theorem dX5_init_37 : decode cX5_init 37 = .ok (.dup, 1) := by decide +kernel
theorem dX5_init_38 : decode cX5_init 38 = .ok (.invokespecial 27, 3) := by decide +kernel
theorem dX5_init_41 : decode cX5_init 41 = .ok (.putfield 28, 3) := by decide +kernel
theorem dX5_init_44 : decode cX5_init 44 = .ok (.return_, 1) := by decide +kernel
theorem dX11_init_0 : decode cX11_init 0 = .ok (.aload_n 0, 1) := by decide +kernel
theorem dX11_init_1 : decode cX11_init 1 = .ok (.invokespecial 1, 3) := by decide +kernel
theorem dX11_init_4 : decode cX11_init 4 = .ok (.aload_n 0, 1) := by decide +kernel
theorem dX11_init_5 : decode cX11_init 5 = .ok (.new 7, 3) := by decide +kernel
theorem dX11_init_8 : decode cX11_init 8 = .ok (.dup, 1) := by decide +kernel
theorem dX11_init_9 : decode cX11_init 9 = .ok (.invokespecial 9, 3) := by decide +kernel
theorem dX11_init_12 : decode cX11_init 12 = .ok (.putfield 10, 3) := by decide +kernel
theorem dX11_init_15 : decode cX11_init 15 = .ok (.aload_n 0, 1) := by decide +kernel
theorem dX11_init_16 : decode cX11_init 16 = .ok (.new 16, 3) := by decide +kernel
theorem dX11_init_19 : decode cX11_init 19 = .ok (.dup, 1) := by decide +kernel
theorem dX11_init_20 : decode cX11_init 20 = .ok (.aload_n 0, 1) := by decide +kernel
theorem dX11_init_21 : decode cX11_init 21 = .ok (.getfield 10, 3) := by decide +kernel
theorem dX11_init_24 : decode cX11_init 24 = .ok (.invokespecial 18, 3) := by decide +kernel
theorem dX11_init_27 : decode cX11_init 27 = .ok (.putfield 21, 3) := by decide +kernel
theorem dX11_init_30 : decode cX11_init 30 = .ok (.aload_n 0, 1) := by decide +kernel
theorem dX11_init_31 : decode cX11_init 31 = .ok (.new 25, 3) := by decide +kernel
theorem dX11_init_34 : decode cX11_init 34 = .ok (.dup, 1) := by decide +kernel
theorem dX11_init_35 : decode cX11_init 35 = .ok (.invokespecial 27, 3) := by decide +kernel
theorem dX11_init_38 : decode cX11_init 38 = .ok (.putfield 28, 3) := by decide +kernel
theorem dX11_init_41 : decode cX11_init 41 = .ok (.aload_n 0, 1) := by decide +kernel
theorem dX11_init_42 : decode cX11_init 42 = .ok (.iconst 4, 1) := by decide +kernel
theorem dX11_init_43 : decode cX11_init 43 = .ok (.anewarray 25, 3) := by decide +kernel
theorem dX11_init_46 : decode cX11_init 46 = .ok (.putfield 32, 3) := by decide +kernel
theorem dX11_init_49 : decode cX11_init 49 = .ok (.iconst 0, 1) := by decide +kernel
theorem dX11_init_50 : decode cX11_init 50 = .ok (.istore_n 1, 1) := by decide +kernel
theorem dX11_init_51 : decode cX11_init 51 = .ok (.iload_n 1, 1) := by decide +kernel
theorem dX11_init_52 : decode cX11_init 52 = .ok (.iconst 4, 1) := by decide +kernel
theorem dX11_init_53 : decode cX11_init 53 = .ok (.if_icmp .ge 22, 3) := by decide +kernel
theorem dX11_init_56 : decode cX11_init 56 = .ok (.aload_n 0, 1) := by decide +kernel
theorem dX11_init_57 : decode cX11_init 57 = .ok (.getfield 32, 3) := by decide +kernel
theorem dX11_init_60 : decode cX11_init 60 = .ok (.iload_n 1, 1) := by decide +kernel
theorem dX11_init_61 : decode cX11_init 61 = .ok (.new 25, 3) := by decide +kernel
theorem dX11_init_64 : decode cX11_init 64 = .ok (.dup, 1) := by decide +kernel
theorem dX11_init_65 : decode cX11_init 65 = .ok (.invokespecial 27, 3) := by decide +kernel
theorem dX11_init_68 : decode cX11_init 68 = .ok (.aastore, 1) := by decide +kernel
theorem dX11_init_69 : decode cX11_init 69 = .ok (.iinc 1 1, 3) := by decide +kernel
theorem dX11_init_72 : decode cX11_init 72 = .ok (.goto (-21), 3) := by decide +kernel
theorem dX11_init_75 : decode cX11_init 75 = .ok (.aload_n 0, 1) := by decide +kernel
theorem dX11_init_76 : decode cX11_init 76 = .ok (.iconst 4, 1) := by decide +kernel
theorem dX11_init_77 : decode cX11_init 77 = .ok (.newarray .boolean, 2) := by decide +kernel
theorem dX11_init_79 : decode cX11_init 79 = .ok (.putfield 36, 3) := by decide +kernel
theorem dX11_init_82 : decode cX11_init 82 = .ok (.aload_n 0, 1) := by decide +kernel
theorem dX11_init_83 : decode cX11_init 83 = .ok (.new 40, 3) := by decide +kernel
theorem dX11_init_86 : decode cX11_init 86 = .ok (.dup, 1) := by decide +kernel
theorem dX11_init_87 : decode cX11_init 87 = .ok (.invokespecial 42, 3) := by decide +kernel
theorem dX11_init_90 : decode cX11_init 90 = .ok (.putfield 43, 3) := by decide +kernel
theorem dX11_init_93 : decode cX11_init 93 = .ok (.aload_n 0, 1) := by decide +kernel
theorem dX11_init_94 : decode cX11_init 94 = .ok (.new 47, 3) := by decide +kernel
theorem dX11_init_97 : decode cX11_init 97 = .ok (.dup, 1) := by decide +kernel
theorem dX11_init_98 : decode cX11_init 98 = .ok (.invokespecial 49, 3) := by decide +kernel
theorem dX11_init_101 : decode cX11_init 101 = .ok (.putfield 50, 3) := by decide +kernel
theorem dX11_init_104 : decode cX11_init 104 = .ok (.aload_n 0, 1) := by decide +kernel
theorem dX11_init_105 : decode cX11_init 105 = .ok (.new 54, 3) := by decide +kernel
theorem dX11_init_108 : decode cX11_init 108 = .ok (.dup, 1) := by decide +kernel
theorem dX11_init_109 : decode cX11_init 109 = .ok (.invokespecial 56, 3) := by decide +kernel
theorem dX11_init_112 : decode cX11_init 112 = .ok (.putfield 57, 3) := by decide +kernel
theorem dX11_init_115 : decode cX11_init 115 = .ok (.aload_n 0, 1) := by decide +kernel
theorem dX11_init_116 : decode cX11_init 116 = .ok (.new 61, 3) := by decide +kernel
theorem dX11_init_119 : decode cX11_init 119 = .ok (.dup, 1) := by decide +kernel
theorem dX11_init_120 : decode cX11_init 120 = .ok (.invokespecial 63, 3) := by decide +kernel
theorem dX11_init_123 : decode cX11_init 123 = .ok (.putfield 64, 3) := by decide +kernel
theorem dX11_init_126 : decode cX11_init 126 = .ok (.aload_n 0, 1) := by decide +kernel
theorem dX11_init_127 : decode cX11_init 127 = .ok (.new 68, 3) := by decide +kernel
theorem dX11_init_130 : decode cX11_init 130 = .ok (.dup, 1) := by decide +kernel
theorem dX11_init_131 : decode cX11_init 131 = .ok (.invokespecial 70, 3) := by decide +kernel
theorem dX11_init_134 : decode cX11_init 134 = .ok (.putfield 71, 3) := by decide +kernel
theorem dX11_init_137 : decode cX11_init 137 = .ok (.aload_n 0, 1) := by decide +kernel
theorem dX11_init_138 : decode cX11_init 138 = .ok (.new 68, 3) := by decide +kernel
theorem dX11_init_141 : decode cX11_init 141 = .ok (.dup, 1) := by decide +kernel
theorem dX11_init_142 : decode cX11_init 142 = .ok (.invokespecial 70, 3) := by decide +kernel
theorem dX11_init_145 : decode cX11_init 145 = .ok (.putfield 75, 3) := by decide +kernel
theorem dX11_init_148 : decode cX11_init 148 = .ok (.aload_n 0, 1) := by decide +kernel
theorem dX11_init_149 : decode cX11_init 149 = .ok (.new 78, 3) := by decide +kernel
theorem dX11_init_152 : decode cX11_init 152 = .ok (.dup, 1) := by decide +kernel
theorem dX11_init_153 : decode cX11_init 153 = .ok (.invokespecial 80, 3) := by decide +kernel
theorem dX11_init_156 : decode cX11_init 156 = .ok (.putfield 81, 3) := by decide +kernel
theorem dX11_init_159 : decode cX11_init 159 = .ok (.aload_n 0, 1) := by decide +kernel
theorem dX11_init_160 : decode cX11_init 160 = .ok (.new 78, 3) := by decide +kernel
theorem dX11_init_163 : decode cX11_init 163 = .ok (.dup, 1) := by decide +kernel
theorem dX11_init_164 : decode cX11_init 164 = .ok (.invokespecial 80, 3) := by decide +kernel
theorem dX11_init_167 : decode cX11_init 167 = .ok (.putfield 85, 3) := by decide +kernel
theorem dX11_init_170 : decode cX11_init 170 = .ok (.return_, 1) := by decide +kernel
theorem zq_6 : Cond.arrayClass .long ∈ zG := List.mem_of_getElem? (i := 6) (by decide +kernel)
theorem zq_11 : Cond.methodLink RX11 1 objectInit ∈ zG := List.mem_of_getElem? (i := 11) (by decide +kernel)
theorem zq_12 : Cond.instanceMethod objectInit ∈ zG := List.mem_of_getElem? (i := 12) (by decide +kernel)
theorem zq_13 : Cond.code objectInit ⟨#[0xb1]⟩ 1 none ∈ zG := List.mem_of_getElem? (i := 13) (by decide +kernel)
theorem zq_14 : Cond.classLink RX11 7 RX10 ∈ zG := List.mem_of_getElem? (i := 14) (by decide +kernel)
theorem zq_15 : Cond.instantiable RX10 10 ∈ zG := List.mem_of_getElem? (i := 15) (by decide +kernel)
theorem zq_16 : Cond.initialized RX10 ∈ zG := List.mem_of_getElem? (i := 16) (by decide +kernel)
theorem zq_17 : Cond.fieldLink RX11 10 "ForeignKnit" "tape" "LForeignKnit$Tape;" ∈ zG := List.mem_of_getElem? (i := 17) (by decide +kernel)
theorem zq_18 : Cond.classLink RX11 16 RX1 ∈ zG := List.mem_of_getElem? (i := 18) (by decide +kernel)
theorem zq_19 : Cond.instantiable RX1 6 ∈ zG := List.mem_of_getElem? (i := 19) (by decide +kernel)
theorem zq_20 : Cond.initialized RX1 ∈ zG := List.mem_of_getElem? (i := 20) (by decide +kernel)
theorem zq_21 : Cond.fieldLink RX11 21 "ForeignKnit" "reader" "LForeignKnit$BookReader;" ∈ zG := List.mem_of_getElem? (i := 21) (by decide +kernel)
theorem zq_22 : Cond.classLink RX11 25 RX3 ∈ zG := List.mem_of_getElem? (i := 22) (by decide +kernel)
theorem zq_23 : Cond.instantiable RX3 1 ∈ zG := List.mem_of_getElem? (i := 23) (by decide +kernel)
theorem zq_24 : Cond.initialized RX3 ∈ zG := List.mem_of_getElem? (i := 24) (by decide +kernel)
theorem zq_25 : Cond.fieldLink RX11 28 "ForeignKnit" "hand" "LForeignKnit$Hand;" ∈ zG := List.mem_of_getElem? (i := 25) (by decide +kernel)
theorem zq_26 : Cond.fieldLink RX11 32 "ForeignKnit" "marks" "[LForeignKnit$Hand;" ∈ zG := List.mem_of_getElem? (i := 26) (by decide +kernel)
theorem zq_27 : Cond.arrayClass .boolean ∈ zG := List.mem_of_getElem? (i := 27) (by decide +kernel)
theorem zq_28 : Cond.fieldLink RX11 36 "ForeignKnit" "laid" "[Z" ∈ zG := List.mem_of_getElem? (i := 28) (by decide +kernel)
theorem zq_29 : Cond.classLink RX11 40 RX6 ∈ zG := List.mem_of_getElem? (i := 29) (by decide +kernel)
theorem zq_30 : Cond.instantiable RX6 3 ∈ zG := List.mem_of_getElem? (i := 30) (by decide +kernel)
theorem zq_31 : Cond.initialized RX6 ∈ zG := List.mem_of_getElem? (i := 31) (by decide +kernel)
theorem zq_32 : Cond.fieldLink RX11 43 "ForeignKnit" "past" "LForeignKnit$Past;" ∈ zG := List.mem_of_getElem? (i := 32) (by decide +kernel)
theorem zq_33 : Cond.classLink RX11 47 RX8 ∈ zG := List.mem_of_getElem? (i := 33) (by decide +kernel)
theorem zq_34 : Cond.instantiable RX8 10 ∈ zG := List.mem_of_getElem? (i := 34) (by decide +kernel)
theorem zq_35 : Cond.initialized RX8 ∈ zG := List.mem_of_getElem? (i := 35) (by decide +kernel)
theorem zq_36 : Cond.fieldLink RX11 50 "ForeignKnit" "shelf" "LForeignKnit$Shelf;" ∈ zG := List.mem_of_getElem? (i := 36) (by decide +kernel)
theorem zq_37 : Cond.classLink RX11 54 RX9 ∈ zG := List.mem_of_getElem? (i := 37) (by decide +kernel)
theorem zq_38 : Cond.instantiable RX9 1 ∈ zG := List.mem_of_getElem? (i := 38) (by decide +kernel)
theorem zq_39 : Cond.initialized RX9 ∈ zG := List.mem_of_getElem? (i := 39) (by decide +kernel)
theorem zq_40 : Cond.fieldLink RX11 57 "ForeignKnit" "tally" "LForeignKnit$Tally;" ∈ zG := List.mem_of_getElem? (i := 40) (by decide +kernel)
theorem zq_41 : Cond.classLink RX11 61 RX4 ∈ zG := List.mem_of_getElem? (i := 41) (by decide +kernel)
theorem zq_42 : Cond.instantiable RX4 8 ∈ zG := List.mem_of_getElem? (i := 42) (by decide +kernel)
theorem zq_43 : Cond.initialized RX4 ∈ zG := List.mem_of_getElem? (i := 43) (by decide +kernel)
theorem zq_44 : Cond.fieldLink RX11 64 "ForeignKnit" "slips" "LForeignKnit$Misprints;" ∈ zG := List.mem_of_getElem? (i := 44) (by decide +kernel)
theorem zq_45 : Cond.classLink RX11 68 RX0 ∈ zG := List.mem_of_getElem? (i := 45) (by decide +kernel)
theorem zq_46 : Cond.instantiable RX0 13 ∈ zG := List.mem_of_getElem? (i := 46) (by decide +kernel)
theorem zq_47 : Cond.initialized RX0 ∈ zG := List.mem_of_getElem? (i := 47) (by decide +kernel)
theorem zq_48 : Cond.fieldLink RX11 71 "ForeignKnit" "told" "LForeignKnit$Book;" ∈ zG := List.mem_of_getElem? (i := 48) (by decide +kernel)
theorem zq_49 : Cond.fieldLink RX11 75 "ForeignKnit" "spareBook" "LForeignKnit$Book;" ∈ zG := List.mem_of_getElem? (i := 49) (by decide +kernel)
theorem zq_50 : Cond.classLink RX11 78 RX5 ∈ zG := List.mem_of_getElem? (i := 50) (by decide +kernel)
theorem zq_51 : Cond.instantiable RX5 11 ∈ zG := List.mem_of_getElem? (i := 51) (by decide +kernel)
theorem zq_52 : Cond.initialized RX5 ∈ zG := List.mem_of_getElem? (i := 52) (by decide +kernel)
theorem zq_53 : Cond.fieldLink RX11 81 "ForeignKnit" "noted" "LForeignKnit$Notes;" ∈ zG := List.mem_of_getElem? (i := 53) (by decide +kernel)
theorem zq_54 : Cond.fieldLink RX11 85 "ForeignKnit" "spareNotes" "LForeignKnit$Notes;" ∈ zG := List.mem_of_getElem? (i := 54) (by decide +kernel)
theorem zq_55 : Cond.instanceMethod yX10_init ∈ zG := List.mem_of_getElem? (i := 55) (by decide +kernel)
theorem zq_56 : Cond.code yX10_init cX10_init 1 none ∈ zG := List.mem_of_getElem? (i := 56) (by decide +kernel)
theorem zq_57 : Cond.methodLink RX10 3 objectInit ∈ zG := List.mem_of_getElem? (i := 57) (by decide +kernel)
theorem zq_58 : Cond.arrayClass .char ∈ zG := List.mem_of_getElem? (i := 58) (by decide +kernel)
theorem zq_59 : Cond.fieldLink RX10 11 "ForeignKnit$Tape" "signs" "[C" ∈ zG := List.mem_of_getElem? (i := 59) (by decide +kernel)
theorem zq_60 : Cond.methodLink RX11 18 yX1_init ∈ zG := List.mem_of_getElem? (i := 60) (by decide +kernel)
theorem zq_61 : Cond.instanceMethod yX1_init ∈ zG := List.mem_of_getElem? (i := 61) (by decide +kernel)
theorem zq_62 : Cond.code yX1_init cX1_init 2 none ∈ zG := List.mem_of_getElem? (i := 62) (by decide +kernel)
theorem zq_63 : Cond.methodLink RX1 3 objectInit ∈ zG := List.mem_of_getElem? (i := 63) (by decide +kernel)
theorem zq_64 : Cond.arrayClass .int ∈ zG := List.mem_of_getElem? (i := 64) (by decide +kernel)
theorem zq_65 : Cond.fieldLink RX1 11 "ForeignKnit$BookReader" "opened" "[I" ∈ zG := List.mem_of_getElem? (i := 65) (by decide +kernel)
theorem zq_66 : Cond.fieldLink RX1 15 "ForeignKnit$BookReader" "tape" "LForeignKnit$Tape;" ∈ zG := List.mem_of_getElem? (i := 66) (by decide +kernel)
theorem zq_67 : Cond.classLink RX1 19 RX7 ∈ zG := List.mem_of_getElem? (i := 67) (by decide +kernel)
theorem zq_68 : Cond.instantiable RX7 4 ∈ zG := List.mem_of_getElem? (i := 68) (by decide +kernel)
theorem zq_69 : Cond.initialized RX7 ∈ zG := List.mem_of_getElem? (i := 69) (by decide +kernel)
theorem zq_70 : Cond.fieldLink RX1 24 "ForeignKnit$BookReader" "rules" "LForeignKnit$Rules;" ∈ zG := List.mem_of_getElem? (i := 70) (by decide +kernel)
theorem zq_71 : Cond.methodLink RX1 21 yX7_init ∈ zG := List.mem_of_getElem? (i := 71) (by decide +kernel)
theorem zq_72 : Cond.instanceMethod yX7_init ∈ zG := List.mem_of_getElem? (i := 72) (by decide +kernel)
theorem zq_73 : Cond.code yX7_init cX7_init 2 none ∈ zG := List.mem_of_getElem? (i := 73) (by decide +kernel)
theorem zq_74 : Cond.methodLink RX7 1 objectInit ∈ zG := List.mem_of_getElem? (i := 74) (by decide +kernel)
theorem zq_75 : Cond.fieldLink RX7 9 "ForeignKnit$Rules" "steps" "[I" ∈ zG := List.mem_of_getElem? (i := 75) (by decide +kernel)
theorem zq_76 : Cond.fieldLink RX7 15 "ForeignKnit$Rules" "stack" "[I" ∈ zG := List.mem_of_getElem? (i := 76) (by decide +kernel)
theorem zq_77 : Cond.fieldLink RX7 18 "ForeignKnit$Rules" "tape" "LForeignKnit$Tape;" ∈ zG := List.mem_of_getElem? (i := 77) (by decide +kernel)
theorem zq_78 : Cond.methodLink RX11 27 yX3_init ∈ zG := List.mem_of_getElem? (i := 78) (by decide +kernel)
theorem zq_79 : Cond.instanceMethod yX3_init ∈ zG := List.mem_of_getElem? (i := 79) (by decide +kernel)
theorem zq_80 : Cond.code yX3_init cX3_init 1 none ∈ zG := List.mem_of_getElem? (i := 80) (by decide +kernel)
theorem zq_81 : Cond.methodLink RX3 3 objectInit ∈ zG := List.mem_of_getElem? (i := 81) (by decide +kernel)
theorem zq_82 : Cond.fieldLink RX3 9 "ForeignKnit$Hand" "held" "[I" ∈ zG := List.mem_of_getElem? (i := 82) (by decide +kernel)
theorem zq_83 : Cond.methodLink RX3 15 yJ7_fill_53178 ∈ zG := List.mem_of_getElem? (i := 83) (by decide +kernel)
theorem zq_87 : Cond.instanceMethod yX6_init ∈ zG := List.mem_of_getElem? (i := 87) (by decide +kernel)
theorem zq_88 : Cond.code yX6_init cX6_init 1 none ∈ zG := List.mem_of_getElem? (i := 88) (by decide +kernel)
theorem zq_89 : Cond.methodLink RX6 1 objectInit ∈ zG := List.mem_of_getElem? (i := 89) (by decide +kernel)
theorem zq_90 : Cond.fieldLink RX6 9 "ForeignKnit$Past" "slots" "[I" ∈ zG := List.mem_of_getElem? (i := 90) (by decide +kernel)
theorem zq_91 : Cond.fieldLink RX6 13 "ForeignKnit$Past" "values" "[I" ∈ zG := List.mem_of_getElem? (i := 91) (by decide +kernel)
theorem zq_92 : Cond.instanceMethod yX8_init ∈ zG := List.mem_of_getElem? (i := 92) (by decide +kernel)
theorem zq_93 : Cond.code yX8_init cX8_init 1 none ∈ zG := List.mem_of_getElem? (i := 93) (by decide +kernel)
theorem zq_94 : Cond.methodLink RX8 3 objectInit ∈ zG := List.mem_of_getElem? (i := 94) (by decide +kernel)
theorem zq_95 : Cond.fieldLink RX8 9 "ForeignKnit$Shelf" "bookStale" "Z" ∈ zG := List.mem_of_getElem? (i := 95) (by decide +kernel)
theorem zq_96 : Cond.fieldLink RX8 15 "ForeignKnit$Shelf" "handStale" "Z" ∈ zG := List.mem_of_getElem? (i := 96) (by decide +kernel)
theorem zq_97 : Cond.fieldLink RX8 18 "ForeignKnit$Shelf" "all" "[I" ∈ zG := List.mem_of_getElem? (i := 97) (by decide +kernel)
theorem zq_98 : Cond.fieldLink RX8 22 "ForeignKnit$Shelf" "fit" "[I" ∈ zG := List.mem_of_getElem? (i := 98) (by decide +kernel)
theorem zq_99 : Cond.fieldLink RX8 25 "ForeignKnit$Shelf" "upright" "[I" ∈ zG := List.mem_of_getElem? (i := 99) (by decide +kernel)
theorem zq_100 : Cond.fieldLink RX8 28 "ForeignKnit$Shelf" "digits" "[I" ∈ zG := List.mem_of_getElem? (i := 100) (by decide +kernel)
theorem zq_101 : Cond.instanceMethod yX9_init ∈ zG := List.mem_of_getElem? (i := 101) (by decide +kernel)
theorem zq_102 : Cond.code yX9_init cX9_init 1 none ∈ zG := List.mem_of_getElem? (i := 102) (by decide +kernel)
theorem zq_103 : Cond.methodLink RX9 3 objectInit ∈ zG := List.mem_of_getElem? (i := 103) (by decide +kernel)
theorem zq_104 : Cond.fieldLink RX9 9 "ForeignKnit$Tally" "times" "[I" ∈ zG := List.mem_of_getElem? (i := 104) (by decide +kernel)
theorem zq_105 : Cond.instanceMethod yX4_init ∈ zG := List.mem_of_getElem? (i := 105) (by decide +kernel)
theorem zq_106 : Cond.code yX4_init cX4_init 1 none ∈ zG := List.mem_of_getElem? (i := 106) (by decide +kernel)
theorem zq_107 : Cond.methodLink RX4 3 objectInit ∈ zG := List.mem_of_getElem? (i := 107) (by decide +kernel)
theorem zq_108 : Cond.fieldLink RX4 9 "ForeignKnit$Misprints" "stale" "Z" ∈ zG := List.mem_of_getElem? (i := 108) (by decide +kernel)
theorem zq_109 : Cond.fieldLink RX4 15 "ForeignKnit$Misprints" "helps" "[I" ∈ zG := List.mem_of_getElem? (i := 109) (by decide +kernel)
theorem zq_110 : Cond.methodLink RX11 70 yX0_init ∈ zG := List.mem_of_getElem? (i := 110) (by decide +kernel)
theorem zq_111 : Cond.instanceMethod yX0_init ∈ zG := List.mem_of_getElem? (i := 111) (by decide +kernel)
theorem zq_112 : Cond.code yX0_init cX0_init 1 none ∈ zG := List.mem_of_getElem? (i := 112) (by decide +kernel)
theorem zq_113 : Cond.methodLink RX0 3 objectInit ∈ zG := List.mem_of_getElem? (i := 113) (by decide +kernel)
theorem zq_114 : Cond.fieldLink RX0 9 "ForeignKnit$Book" "names" "[J" ∈ zG := List.mem_of_getElem? (i := 114) (by decide +kernel)
theorem zq_115 : Cond.fieldLink RX0 15 "ForeignKnit$Book" "kinds" "[I" ∈ zG := List.mem_of_getElem? (i := 115) (by decide +kernel)
theorem zq_116 : Cond.fieldLink RX0 19 "ForeignKnit$Book" "uses" "[I" ∈ zG := List.mem_of_getElem? (i := 116) (by decide +kernel)
theorem zq_117 : Cond.fieldLink RX0 22 "ForeignKnit$Book" "sizes" "[I" ∈ zG := List.mem_of_getElem? (i := 117) (by decide +kernel)
theorem zq_118 : Cond.classLink RX0 25 "[[I" ∈ zG := List.mem_of_getElem? (i := 118) (by decide +kernel)
theorem zq_119 : Cond.fieldLink RX0 27 "ForeignKnit$Book" "meanings" "[[I" ∈ zG := List.mem_of_getElem? (i := 119) (by decide +kernel)
theorem zq_120 : Cond.fieldLink RX0 30 "ForeignKnit$Book" "lengths" "[I" ∈ zG := List.mem_of_getElem? (i := 120) (by decide +kernel)
theorem zq_121 : Cond.fieldLink RX0 33 "ForeignKnit$Book" "places" "[[I" ∈ zG := List.mem_of_getElem? (i := 121) (by decide +kernel)
theorem zq_122 : Cond.fieldLink RX0 36 "ForeignKnit$Book" "inRow" "[[I" ∈ zG := List.mem_of_getElem? (i := 122) (by decide +kernel)
theorem zq_123 : Cond.fieldLink RX0 39 "ForeignKnit$Book" "counts" "[I" ∈ zG := List.mem_of_getElem? (i := 123) (by decide +kernel)
theorem zq_124 : Cond.fieldLink RX0 42 "ForeignKnit$Book" "briefs" "[I" ∈ zG := List.mem_of_getElem? (i := 124) (by decide +kernel)
theorem zq_125 : Cond.methodLink RX0 45 yJ7_fill_53178 ∈ zG := List.mem_of_getElem? (i := 125) (by decide +kernel)
theorem zq_126 : Cond.instanceMethod yX5_init ∈ zG := List.mem_of_getElem? (i := 126) (by decide +kernel)
theorem zq_127 : Cond.code yX5_init cX5_init 1 none ∈ zG := List.mem_of_getElem? (i := 127) (by decide +kernel)
theorem zq_128 : Cond.methodLink RX5 3 objectInit ∈ zG := List.mem_of_getElem? (i := 128) (by decide +kernel)
theorem zq_129 : Cond.fieldLink RX5 9 "ForeignKnit$Notes" "stale" "Z" ∈ zG := List.mem_of_getElem? (i := 129) (by decide +kernel)
theorem zq_130 : Cond.fieldLink RX5 15 "ForeignKnit$Notes" "deeds" "[I" ∈ zG := List.mem_of_getElem? (i := 130) (by decide +kernel)
theorem zq_131 : Cond.fieldLink RX5 19 "ForeignKnit$Notes" "slots" "[I" ∈ zG := List.mem_of_getElem? (i := 131) (by decide +kernel)
theorem zq_132 : Cond.fieldLink RX5 22 "ForeignKnit$Notes" "values" "[I" ∈ zG := List.mem_of_getElem? (i := 132) (by decide +kernel)
theorem zq_133 : Cond.classLink RX5 25 RX3 ∈ zG := List.mem_of_getElem? (i := 133) (by decide +kernel)
theorem zq_134 : Cond.fieldLink RX5 28 "ForeignKnit$Notes" "hand" "LForeignKnit$Hand;" ∈ zG := List.mem_of_getElem? (i := 134) (by decide +kernel)
theorem zq_135 : Cond.methodLink RX5 27 yX3_init ∈ zG := List.mem_of_getElem? (i := 135) (by decide +kernel)
theorem zfd_X0_39 : zFd RX0 39 0 11 := ⟨_, rfl, by decide, zq_123⟩
theorem zfd_X11_10 : zFd RX11 10 11 0 := ⟨_, rfl, by decide, zq_17⟩
theorem zfd_X11_32 : zFd RX11 32 11 3 := ⟨_, rfl, by decide, zq_26⟩
theorem zfd_X3_9 : zFd RX3 9 3 0 := ⟨_, rfl, by decide, zq_82⟩
theorem zfp_X11_71 : zFp RX11 71 11 9 (.object "ForeignKnit$Book") := ⟨_, rfl, by decide, zq_48, rfl, by decide +kernel⟩
theorem zfp_X11_75 : zFp RX11 75 11 10 (.object "ForeignKnit$Book") := ⟨_, rfl, by decide, zq_49, rfl, by decide +kernel⟩
theorem zfp_X11_81 : zFp RX11 81 11 11 (.object "ForeignKnit$Notes") := ⟨_, rfl, by decide, zq_53, rfl, by decide +kernel⟩
theorem zfp_X11_85 : zFp RX11 85 11 12 (.object "ForeignKnit$Notes") := ⟨_, rfl, by decide, zq_54, rfl, by decide +kernel⟩
theorem zfp_X4_9 : zFp RX4 9 4 0 .boolean := ⟨_, rfl, by decide, zq_108, rfl, by decide +kernel⟩
theorem zfp_X5_9 : zFp RX5 9 5 1 .boolean := ⟨_, rfl, by decide, zq_129, rfl, by decide +kernel⟩
theorem zfp_X8_9 : zFp RX8 9 8 0 .boolean := ⟨_, rfl, by decide, zq_95, rfl, by decide +kernel⟩
theorem zfp_X8_15 : zFp RX8 15 8 1 .boolean := ⟨_, rfl, by decide, zq_96, rfl, by decide +kernel⟩
theorem zfp_X8_18 : zFp RX8 18 8 4 (.array .int) := ⟨_, rfl, by decide, zq_97, rfl, by decide +kernel⟩
theorem zfp_X8_22 : zFp RX8 22 8 5 (.array .int) := ⟨_, rfl, by decide, zq_98, rfl, by decide +kernel⟩
theorem zfp_X8_25 : zFp RX8 25 8 6 (.array .int) := ⟨_, rfl, by decide, zq_99, rfl, by decide +kernel⟩
theorem zff_X0_9 : zFf RX0 9 0 1 (.array .long) := ⟨_, rfl, by decide, zq_114, rfl, rfl, by decide +kernel⟩
theorem zff_X0_15 : zFf RX0 15 0 2 (.array .int) := ⟨_, rfl, by decide, zq_115, rfl, rfl, by decide +kernel⟩
theorem zff_X0_19 : zFf RX0 19 0 3 (.array .int) := ⟨_, rfl, by decide, zq_116, rfl, rfl, by decide +kernel⟩
theorem zff_X0_22 : zFf RX0 22 0 4 (.array .int) := ⟨_, rfl, by decide, zq_117, rfl, rfl, by decide +kernel⟩
theorem zff_X0_27 : zFf RX0 27 0 5 (.array (.array .int)) := ⟨_, rfl, by decide, zq_119, rfl, rfl, by decide +kernel⟩
theorem zff_X0_30 : zFf RX0 30 0 8 (.array .int) := ⟨_, rfl, by decide, zq_120, rfl, rfl, by decide +kernel⟩
theorem zff_X0_33 : zFf RX0 33 0 9 (.array (.array .int)) := ⟨_, rfl, by decide, zq_121, rfl, rfl, by decide +kernel⟩
theorem zff_X0_36 : zFf RX0 36 0 10 (.array (.array .int)) := ⟨_, rfl, by decide, zq_122, rfl, rfl, by decide +kernel⟩
theorem zff_X0_39 : zFf RX0 39 0 11 (.array .int) := ⟨_, rfl, by decide, zq_123, rfl, rfl, by decide +kernel⟩
theorem zff_X0_42 : zFf RX0 42 0 12 (.array .int) := ⟨_, rfl, by decide, zq_124, rfl, rfl, by decide +kernel⟩
theorem zff_X1_11 : zFf RX1 11 1 2 (.array .int) := ⟨_, rfl, by decide, zq_65, rfl, rfl, by decide +kernel⟩
theorem zff_X1_15 : zFf RX1 15 1 0 (.object "ForeignKnit$Tape") := ⟨_, rfl, by decide, zq_66, rfl, rfl, by decide +kernel⟩
theorem zff_X1_24 : zFf RX1 24 1 1 (.object "ForeignKnit$Rules") := ⟨_, rfl, by decide, zq_70, rfl, rfl, by decide +kernel⟩
theorem zff_X10_11 : zFf RX10 11 10 0 (.array .char) := ⟨_, rfl, by decide, zq_59, rfl, rfl, by decide +kernel⟩
theorem zff_X11_10 : zFf RX11 10 11 0 (.object "ForeignKnit$Tape") := ⟨_, rfl, by decide, zq_17, rfl, rfl, by decide +kernel⟩
theorem zff_X11_21 : zFf RX11 21 11 1 (.object "ForeignKnit$BookReader") := ⟨_, rfl, by decide, zq_21, rfl, rfl, by decide +kernel⟩
theorem zff_X11_28 : zFf RX11 28 11 2 (.object "ForeignKnit$Hand") := ⟨_, rfl, by decide, zq_25, rfl, rfl, by decide +kernel⟩
theorem zff_X11_32 : zFf RX11 32 11 3 (.array (.object "ForeignKnit$Hand")) := ⟨_, rfl, by decide, zq_26, rfl, rfl, by decide +kernel⟩
theorem zff_X11_36 : zFf RX11 36 11 4 (.array .boolean) := ⟨_, rfl, by decide, zq_28, rfl, rfl, by decide +kernel⟩
theorem zff_X11_43 : zFf RX11 43 11 5 (.object "ForeignKnit$Past") := ⟨_, rfl, by decide, zq_32, rfl, rfl, by decide +kernel⟩
theorem zff_X11_50 : zFf RX11 50 11 6 (.object "ForeignKnit$Shelf") := ⟨_, rfl, by decide, zq_36, rfl, rfl, by decide +kernel⟩
theorem zff_X11_57 : zFf RX11 57 11 7 (.object "ForeignKnit$Tally") := ⟨_, rfl, by decide, zq_40, rfl, rfl, by decide +kernel⟩
theorem zff_X11_64 : zFf RX11 64 11 8 (.object "ForeignKnit$Misprints") := ⟨_, rfl, by decide, zq_44, rfl, rfl, by decide +kernel⟩
theorem zff_X3_9 : zFf RX3 9 3 0 (.array .int) := ⟨_, rfl, by decide, zq_82, rfl, rfl, by decide +kernel⟩
theorem zff_X4_15 : zFf RX4 15 4 5 (.array .int) := ⟨_, rfl, by decide, zq_109, rfl, rfl, by decide +kernel⟩
theorem zff_X5_15 : zFf RX5 15 5 5 (.array .int) := ⟨_, rfl, by decide, zq_130, rfl, rfl, by decide +kernel⟩
theorem zff_X5_19 : zFf RX5 19 5 6 (.array .int) := ⟨_, rfl, by decide, zq_131, rfl, rfl, by decide +kernel⟩
theorem zff_X5_22 : zFf RX5 22 5 7 (.array .int) := ⟨_, rfl, by decide, zq_132, rfl, rfl, by decide +kernel⟩
theorem zff_X5_28 : zFf RX5 28 5 8 (.object "ForeignKnit$Hand") := ⟨_, rfl, by decide, zq_134, rfl, rfl, by decide +kernel⟩
theorem zff_X6_9 : zFf RX6 9 6 1 (.array .int) := ⟨_, rfl, by decide, zq_90, rfl, rfl, by decide +kernel⟩
theorem zff_X6_13 : zFf RX6 13 6 2 (.array .int) := ⟨_, rfl, by decide, zq_91, rfl, rfl, by decide +kernel⟩
theorem zff_X7_9 : zFf RX7 9 7 1 (.array .int) := ⟨_, rfl, by decide, zq_75, rfl, rfl, by decide +kernel⟩
theorem zff_X7_15 : zFf RX7 15 7 2 (.array .int) := ⟨_, rfl, by decide, zq_76, rfl, rfl, by decide +kernel⟩
theorem zff_X7_18 : zFf RX7 18 7 0 (.object "ForeignKnit$Tape") := ⟨_, rfl, by decide, zq_77, rfl, rfl, by decide +kernel⟩
theorem zff_X8_28 : zFf RX8 28 8 8 (.array .int) := ⟨_, rfl, by decide, zq_100, rfl, rfl, by decide +kernel⟩
theorem zff_X9_9 : zFf RX9 9 9 0 (.array .int) := ⟨_, rfl, by decide, zq_104, rfl, rfl, by decide +kernel⟩
theorem zq_86 : Cond.code yJ7_fill_53178 cJ7_fill_53178 4 none ∈ zG := List.mem_of_getElem? (i := 86) (by decide +kernel)
theorem zq_84 : Cond.static yJ7_fill_53178 ∈ zG := List.mem_of_getElem? (i := 84) (by decide +kernel)
theorem zq_85 : Cond.initialized RJ7 ∈ zG := List.mem_of_getElem? (i := 85) (by decide +kernel)
theorem zy_J7_fill_53178 : zyS yJ7_fill_53178 cJ7_fill_53178 4 none 2 := ⟨zq_86, zq_84, zq_85, ⟨by decide, by decide⟩, by decide +kernel, by decide⟩
theorem zf_2 : zfix 2 = true := by decide +kernel
theorem zs_2 : zsh 2 = 10 := by decide +kernel
theorem zl_2 : zln 2 = 0 := by decide +kernel
theorem zf_3 : zfix 3 = true := by decide +kernel
theorem zs_3 : zsh 3 = 23 := by decide +kernel
theorem zl_3 : zln 3 = 1000 := by decide +kernel
theorem zf_4 : zfix 4 = true := by decide +kernel
theorem zs_4 : zsh 4 = 1 := by decide +kernel
theorem zl_4 : zln 4 = 0 := by decide +kernel
theorem zf_5 : zfix 5 = true := by decide +kernel
theorem zs_5 : zsh 5 = 20 := by decide +kernel
theorem zl_5 : zln 5 = 3 := by decide +kernel
theorem zf_6 : zfix 6 = true := by decide +kernel
theorem zs_6 : zsh 6 = 7 := by decide +kernel
theorem zl_6 : zln 6 = 0 := by decide +kernel
theorem zf_7 : zfix 7 = true := by decide +kernel
theorem zs_7 : zsh 7 = 20 := by decide +kernel
theorem zl_7 : zln 7 = 1000 := by decide +kernel
theorem zf_8 : zfix 8 = true := by decide +kernel
theorem zs_8 : zsh 8 = 20 := by decide +kernel
theorem zl_8 : zln 8 = 32 := by decide +kernel
theorem zf_9 : zfix 9 = true := by decide +kernel
theorem zs_9 : zsh 9 = 3 := by decide +kernel
theorem zl_9 : zln 9 = 0 := by decide +kernel
theorem zf_10 : zfix 10 = true := by decide +kernel
theorem zs_10 : zsh 10 = 20 := by decide +kernel
theorem zl_10 : zln 10 = 12 := by decide +kernel
theorem zf_11 : zfix 11 = true := by decide +kernel
theorem zs_11 : zsh 11 = 25 := by decide +kernel
theorem zl_11 : zln 11 = 4 := by decide +kernel
theorem zf_12 : zfix 12 = true := by decide +kernel
theorem zs_12 : zsh 12 = 3 := by decide +kernel
theorem zl_12 : zln 12 = 0 := by decide +kernel
theorem zf_13 : zfix 13 = true := by decide +kernel
theorem zs_13 : zsh 13 = 20 := by decide +kernel
theorem zl_13 : zln 13 = 12 := by decide +kernel
theorem zf_14 : zfix 14 = true := by decide +kernel
theorem zs_14 : zsh 14 = 3 := by decide +kernel
theorem zl_14 : zln 14 = 0 := by decide +kernel
theorem zf_15 : zfix 15 = true := by decide +kernel
theorem zs_15 : zsh 15 = 20 := by decide +kernel
theorem zl_15 : zln 15 = 12 := by decide +kernel
theorem zf_16 : zfix 16 = true := by decide +kernel
theorem zs_16 : zsh 16 = 3 := by decide +kernel
theorem zl_16 : zln 16 = 0 := by decide +kernel
theorem zf_17 : zfix 17 = true := by decide +kernel
theorem zs_17 : zsh 17 = 20 := by decide +kernel
theorem zl_17 : zln 17 = 12 := by decide +kernel
theorem zf_18 : zfix 18 = true := by decide +kernel
theorem zs_18 : zsh 18 = 3 := by decide +kernel
theorem zl_18 : zln 18 = 0 := by decide +kernel
theorem zf_19 : zfix 19 = true := by decide +kernel
theorem zs_19 : zsh 19 = 20 := by decide +kernel
theorem zl_19 : zln 19 = 12 := by decide +kernel
theorem zf_20 : zfix 20 = true := by decide +kernel
theorem zs_20 : zsh 20 = 22 := by decide +kernel
theorem zl_20 : zln 20 = 4 := by decide +kernel
theorem zf_21 : zfix 21 = true := by decide +kernel
theorem zs_21 : zsh 21 = 6 := by decide +kernel
theorem zl_21 : zln 21 = 0 := by decide +kernel
theorem zf_22 : zfix 22 = true := by decide +kernel
theorem zs_22 : zsh 22 = 20 := by decide +kernel
theorem zl_22 : zln 22 = 16 := by decide +kernel
theorem zf_23 : zfix 23 = true := by decide +kernel
theorem zs_23 : zsh 23 = 20 := by decide +kernel
theorem zl_23 : zln 23 = 16 := by decide +kernel
theorem zf_24 : zfix 24 = true := by decide +kernel
theorem zs_24 : zsh 24 = 8 := by decide +kernel
theorem zl_24 : zln 24 = 0 := by decide +kernel
theorem zf_25 : zfix 25 = true := by decide +kernel
theorem zs_25 : zsh 25 = 20 := by decide +kernel
theorem zl_25 : zln 25 = 1 := by decide +kernel
theorem zf_26 : zfix 26 = true := by decide +kernel
theorem zs_26 : zsh 26 = 20 := by decide +kernel
theorem zl_26 : zln 26 = 1 := by decide +kernel
theorem zf_27 : zfix 27 = true := by decide +kernel
theorem zs_27 : zsh 27 = 20 := by decide +kernel
theorem zl_27 : zln 27 = 1 := by decide +kernel
theorem zf_28 : zfix 28 = true := by decide +kernel
theorem zs_28 : zsh 28 = 20 := by decide +kernel
theorem zl_28 : zln 28 = 4 := by decide +kernel
theorem zf_29 : zfix 29 = true := by decide +kernel
theorem zs_29 : zsh 29 = 9 := by decide +kernel
theorem zl_29 : zln 29 = 0 := by decide +kernel
theorem zf_30 : zfix 30 = true := by decide +kernel
theorem zs_30 : zsh 30 = 20 := by decide +kernel
theorem zl_30 : zln 30 = 121 := by decide +kernel
theorem zf_31 : zfix 31 = true := by decide +kernel
theorem zs_31 : zsh 31 = 4 := by decide +kernel
theorem zl_31 : zln 31 = 0 := by decide +kernel
theorem zf_32 : zfix 32 = true := by decide +kernel
theorem zs_32 : zsh 32 = 20 := by decide +kernel
theorem zl_32 : zln 32 = 8 := by decide +kernel
theorem zf_40 : zfix 40 = true := by decide +kernel
theorem zs_40 : zsh 40 = 0 := by decide +kernel
theorem zl_40 : zln 40 = 0 := by decide +kernel
theorem zf_41 : zfix 41 = true := by decide +kernel
theorem zs_41 : zsh 41 = 21 := by decide +kernel
theorem zl_41 : zln 41 = 4 := by decide +kernel
theorem zf_42 : zfix 42 = true := by decide +kernel
theorem zs_42 : zsh 42 = 20 := by decide +kernel
theorem zl_42 : zln 42 = 4 := by decide +kernel
theorem zf_43 : zfix 43 = true := by decide +kernel
theorem zs_43 : zsh 43 = 20 := by decide +kernel
theorem zl_43 : zln 43 = 4 := by decide +kernel
theorem zf_44 : zfix 44 = true := by decide +kernel
theorem zs_44 : zsh 44 = 20 := by decide +kernel
theorem zl_44 : zln 44 = 4 := by decide +kernel
theorem zf_45 : zfix 45 = true := by decide +kernel
theorem zs_45 : zsh 45 = 24 := by decide +kernel
theorem zl_45 : zln 45 = 4 := by decide +kernel
theorem zf_50 : zfix 50 = true := by decide +kernel
theorem zs_50 : zsh 50 = 20 := by decide +kernel
theorem zl_50 : zln 50 = 8 := by decide +kernel
theorem zf_51 : zfix 51 = true := by decide +kernel
theorem zs_51 : zsh 51 = 24 := by decide +kernel
theorem zl_51 : zln 51 = 8 := by decide +kernel
theorem zf_60 : zfix 60 = true := by decide +kernel
theorem zs_60 : zsh 60 = 24 := by decide +kernel
theorem zl_60 : zln 60 = 8 := by decide +kernel
theorem zf_69 : zfix 69 = true := by decide +kernel
theorem zs_69 : zsh 69 = 20 := by decide +kernel
theorem zl_69 : zln 69 = 8 := by decide +kernel
theorem zf_70 : zfix 70 = true := by decide +kernel
theorem zs_70 : zsh 70 = 20 := by decide +kernel
theorem zl_70 : zln 70 = 8 := by decide +kernel
theorem zf_80 : zfix 80 = true := by decide +kernel
theorem zs_80 : zsh 80 = 0 := by decide +kernel
theorem zl_80 : zln 80 = 0 := by decide +kernel
theorem zf_81 : zfix 81 = true := by decide +kernel
theorem zs_81 : zsh 81 = 21 := by decide +kernel
theorem zl_81 : zln 81 = 4 := by decide +kernel
theorem zf_82 : zfix 82 = true := by decide +kernel
theorem zs_82 : zsh 82 = 20 := by decide +kernel
theorem zl_82 : zln 82 = 4 := by decide +kernel
theorem zf_83 : zfix 83 = true := by decide +kernel
theorem zs_83 : zsh 83 = 20 := by decide +kernel
theorem zl_83 : zln 83 = 4 := by decide +kernel
theorem zf_84 : zfix 84 = true := by decide +kernel
theorem zs_84 : zsh 84 = 20 := by decide +kernel
theorem zl_84 : zln 84 = 4 := by decide +kernel
theorem zf_85 : zfix 85 = true := by decide +kernel
theorem zs_85 : zsh 85 = 24 := by decide +kernel
theorem zl_85 : zln 85 = 4 := by decide +kernel
theorem zf_90 : zfix 90 = true := by decide +kernel
theorem zs_90 : zsh 90 = 20 := by decide +kernel
theorem zl_90 : zln 90 = 8 := by decide +kernel
theorem zf_91 : zfix 91 = true := by decide +kernel
theorem zs_91 : zsh 91 = 24 := by decide +kernel
theorem zl_91 : zln 91 = 8 := by decide +kernel
theorem zf_100 : zfix 100 = true := by decide +kernel
theorem zs_100 : zsh 100 = 24 := by decide +kernel
theorem zl_100 : zln 100 = 8 := by decide +kernel
theorem zf_109 : zfix 109 = true := by decide +kernel
theorem zs_109 : zsh 109 = 20 := by decide +kernel
theorem zl_109 : zln 109 = 8 := by decide +kernel
theorem zf_110 : zfix 110 = true := by decide +kernel
theorem zs_110 : zsh 110 = 20 := by decide +kernel
theorem zl_110 : zln 110 = 8 := by decide +kernel
theorem zf_120 : zfix 120 = true := by decide +kernel
theorem zs_120 : zsh 120 = 5 := by decide +kernel
theorem zl_120 : zln 120 = 0 := by decide +kernel
theorem zf_121 : zfix 121 = true := by decide +kernel
theorem zs_121 : zsh 121 = 20 := by decide +kernel
theorem zl_121 : zln 121 = 40 := by decide +kernel
theorem zf_122 : zfix 122 = true := by decide +kernel
theorem zs_122 : zsh 122 = 20 := by decide +kernel
theorem zl_122 : zln 122 = 40 := by decide +kernel
theorem zf_123 : zfix 123 = true := by decide +kernel
theorem zs_123 : zsh 123 = 20 := by decide +kernel
theorem zl_123 : zln 123 = 40 := by decide +kernel
theorem zf_124 : zfix 124 = true := by decide +kernel
theorem zs_124 : zsh 124 = 3 := by decide +kernel
theorem zl_124 : zln 124 = 0 := by decide +kernel
theorem zf_125 : zfix 125 = true := by decide +kernel
theorem zs_125 : zsh 125 = 20 := by decide +kernel
theorem zl_125 : zln 125 = 12 := by decide +kernel
theorem zf_130 : zfix 130 = true := by decide +kernel
theorem zs_130 : zsh 130 = 5 := by decide +kernel
theorem zl_130 : zln 130 = 0 := by decide +kernel
theorem zf_131 : zfix 131 = true := by decide +kernel
theorem zs_131 : zsh 131 = 20 := by decide +kernel
theorem zl_131 : zln 131 = 40 := by decide +kernel
theorem zf_132 : zfix 132 = true := by decide +kernel
theorem zs_132 : zsh 132 = 20 := by decide +kernel
theorem zl_132 : zln 132 = 40 := by decide +kernel
theorem zf_133 : zfix 133 = true := by decide +kernel
theorem zs_133 : zsh 133 = 20 := by decide +kernel
theorem zl_133 : zln 133 = 40 := by decide +kernel
theorem zf_134 : zfix 134 = true := by decide +kernel
theorem zs_134 : zsh 134 = 3 := by decide +kernel
theorem zl_134 : zln 134 = 0 := by decide +kernel
theorem zf_135 : zfix 135 = true := by decide +kernel
theorem zs_135 : zsh 135 = 20 := by decide +kernel
theorem zl_135 : zln 135 = 12 := by decide +kernel
section ZM
variable {p : Program} {l : Launch} {e : Env} {R : Room} {s : State} {m : MethodId} {args : Array Value} {below : List Frame} {meth : Method} {c : Code} {cells slots : Nat} {Q : State → Prop} {D : va_G} {dA : Nat → ClassId} {ad ad0 : Nat → Nat} {al al0 : Nat → Prop}
set_option maxHeartbeats 4000000 in
set_option maxRecDepth 100000 in
theorem mqJ7_fill_53178_L5 {k : zW → Prop} {a0 : Nat} (X : zCx p s m args meth c cJ7_fill_53178 4 RJ7 none) (hr : zRm R 0 cells slots) (hQ : zRetV p l e R s m args below meth c cells slots Q D dA false ad0 al0 ad al cJ7_fill_53178 k) (ha0 : al a0 ∧ zsh a0 = 20)  : ∀ (n : Nat) (x1 : Int32) (x2 : Int32) (x3 : Int32) (w : zW) (H : Heap) (locs : List Loc) (ls : Array Slot), fJ7_fill_53178_L5 a0 k n x1 x2 x3 w → zSt D dA false ad0 al0 ad al w s H locs → lv_has ls 4 [(0, .ref (ad a0)), (1, .int x1), (2, .int x2), (3, .int x3)] → W p l e R s m args below meth c H locs cells slots Q (F0 m 5 ls []) := by
  intro n
  induction n with
  | zero => exact fun _ _ _ _ _ _ _ hf => hf.elim
  | succ n ih =>
    intro x1 x2 x3 w H locs ls hf hR hl
    have hx := X.1
    have hb := X.2.1
    have hml := X.2.2.1
    have hown := X.2.2.2.1
    have hts := X.2.2.2.2.1
    rw [fJ7_fill_53178_L5] at hf
    refine lv_iload_n hx hb dJ7_fill_53178_5 rfl (lv_at hl 2 rfl) ?_
    refine lv_iload_n hx hb dJ7_fill_53178_6 rfl (lv_at hl 3 rfl) ?_
    refine lv_icmp_ge (tgt := 20) hx hb dJ7_fill_53178_7 (by decide) (fun c2 => ?_) (fun c2 => ?_)
    · replace hf := hf.1 c2
      exact hQ _ _ _ _ _ hf hR dJ7_fill_53178_20
    · replace hf := hf.2 c2
      refine lv_aload_n hx hb dJ7_fill_53178_10 rfl (lv_at hl 0 rfl) ?_
      refine lv_iload_n hx hb dJ7_fill_53178_11 rfl (lv_at hl 2 rfl) ?_
      refine lv_iload_n hx hb dJ7_fill_53178_12 rfl (lv_at hl 1 rfl) ?_
      obtain ⟨hb3, hf⟩ := hf
      refine z_iast X hR ha0.1 ha0.2 rfl hb3 dJ7_fill_53178_13 (fun H locs hR => ?_)
      obtain ⟨w4, hw4⟩ : ∃ z : zW, z = sI w a0 x2.toNatClampNeg x1 := ⟨_, rfl⟩
      rw [← hw4] at hR
      replace hf := hf w4 hw4
      refine lv_iinc (v := x2 + (1 : Int32)) (lv' := [(2, .int (x2 + (1 : Int32))), (0, .ref (ad a0)), (1, .int x1), (3, .int x3)]) hx hb dJ7_fill_53178_14 hl (k := 2) rfl rfl (by decide) rfl (fun ls hl => ?_)
      refine lv_goto (tgt := 5) hx hb dJ7_fill_53178_17 (by decide) ?_
      exact ih x1 (x2 + (1 : Int32)) x3 w4 _ _ _ hf hR (lv_sub hl [1, 2, 0, 3] rfl)
set_option maxHeartbeats 4000000 in
set_option maxRecDepth 100000 in
theorem mqJ7_fill_53178 {l : Launch} {D : va_G} {dA : Nat → ClassId} {ad : Nat → Nat} {al : Nat → Prop} {w : zW} {k : zW → Prop} {a0 : Nat} {x1 : Int32} (ha0 : al a0 ∧ zsh a0 = 20)  (hf : fJ7_fill_53178 a0 x1 w k) : zmetV l yJ7_fill_53178 cJ7_fill_53178 4 none 0 [.ref (ad a0), .int x1] D dA false ad al w k := by
  refine zmetV_of (by decide) (Nat.le_of_ble_eq_true rfl) ?_
  intro p e R s m below meth c Q H ls args locs cells slots X hr hQ hR hl
  have hx := X.1
  have hb := X.2.1
  have hml := X.2.2.1
  have hown := X.2.2.2.1
  have hts := X.2.2.2.2.1
  unfold fJ7_fill_53178 at hf
  have hl : lv_has ls 4 [(0, .ref (ad a0)), (1, .int x1)] := hl
  refine lv_iconst (v := (0 : Int32)) hx hb dJ7_fill_53178_0 (by decide) ?_
  refine lv_istore_n (lv' := [(2, .int (0 : Int32)), (0, .ref (ad a0)), (1, .int x1)]) hx hb dJ7_fill_53178_1 rfl hl (by decide) rfl (fun ls hl => ?_)
  refine lv_aload_n hx hb dJ7_fill_53178_2 rfl (lv_at hl 1 rfl) ?_
  refine z_alen X hR ha0.1 ha0.2 (by decide) (by decide) rfl (v := Int32.ofNat (zln a0)) rfl dJ7_fill_53178_3 ?_
  refine lv_topi (fun v1 hv1 => ?_)
  replace hf := hf v1 hv1
  refine lv_istore_n (lv' := [(3, .int v1), (2, .int (0 : Int32)), (0, .ref (ad a0)), (1, .int x1)]) hx hb dJ7_fill_53178_4 rfl hl (by decide) rfl (fun ls hl => ?_)
  obtain ⟨n9, hf⟩ := hf
  exact mqJ7_fill_53178_L5 X hr hQ ha0  n9 x1 (0 : Int32) v1 w _ _ _ hf hR (lv_sub hl [2, 3, 1, 0] rfl)
/-! X3_init_9 -/
def fX3_init_9 (mc ms : Nat) (a0 : Nat) (w : zW) (k : zW → Prop) : Prop :=
  ¬ gI w 0 10 = 1 ∧ 1 ≤ mc ∧ 12 ≤ ms ∧ ∀ w1 : zW, w1 = nW w 10 →
  ∀ w2 : zW, w2 = sR w1 a0 0 10 →
  ¬ gR w2 a0 0 = 0 ∧
  fJ7_fill_53178 (gR w2 a0 0) (-1 : Int32) w2 (fun w4 =>
  k w4)
set_option maxHeartbeats 4000000 in
set_option maxRecDepth 100000 in
theorem mX3_init_9 {l : Launch} {D : va_G} {dA : Nat → ClassId} {ad : Nat → Nat} {al : Nat → Prop} {w : zW} {mc ms : Nat} {k : zW → Prop} {a0 : Nat} (ha0 : al a0 ∧ zsh a0 = 3) (hf : fX3_init_9 mc ms a0 w k) : zmetAV l yX3_init cX3_init 1 none 1 mc ms [.ref (ad a0)] D dA false ad al w k := by
  refine zmetCV_of (by decide) rfl (Nat.le_of_ble_eq_true rfl) ?_
  intro p e R s m below meth c Q H ls args locs cells slots X hr hQ hin hR hl
  have hx := X.1
  have hb := X.2.1
  have hml := X.2.2.1
  have hown := X.2.2.2.1
  have hts := X.2.2.2.2.1
  unfold fX3_init_9 at hf
  have hl : lv_has ls 1 [(0, .ref (ad a0))] := hl
  have hX : zExt ad al ad al := zExt.rf
  refine lv_aload_n hx hb dX3_init_0 rfl (lv_at hl 0 rfl) ?_
  refine z_objInit (rest := []) X (hr.none (by decide)) zq_81 zq_12 zq_13 hl (Nat.le_of_ble_eq_true rfl) dX3_init_1 ?_
  refine lv_aload_n hx hb dX3_init_4 rfl (lv_at hl 0 rfl) ?_
  refine lv_bipush (v := (12 : Int32)) hx hb dX3_init_5 (by decide) ?_
  have hw1_1 : al a0 := ha0.1
  have hv1_1 : al a0 := ha0.1
  obtain ⟨hg1, hc1, hs1, hf⟩ := hf
  refine z_newaI (N := 12) X (hr.new hc1 hs1) hR (j := 10) (fun h9 => absurd h9 (by decide)) hg1 zs_10 zl_10 (by decide) (by decide) (by decide) zq_64 dX3_init_7 (fun ad1 al1 H hE1 hj1 hR => ?_)
  obtain ⟨w1, hw1⟩ : ∃ z : zW, z = nW w 10 := ⟨_, rfl⟩
  rw [← hw1] at hR
  replace hf := hf w1 hw1
  have hX := hX.tr hE1
  have hr := hr.after hc1 hs1
  have ha0 : al1 a0 ∧ zsh a0 = 3 := ⟨(hE1 _ ha0.1).1, ha0.2⟩
  rw [← (hE1 a0 hw1_1).2] at hl
  rw [← (hE1 a0 hv1_1).2]
  refine z_putFR X hR hin ha0.1 ha0.2 (by decide) zff_X3_9 rfl rfl (by decide) hj1 (by rw [zdc_of ha0.2 rfl]; exact zs_10) dX3_init_9 (fun H locs hR => ?_)
  obtain ⟨w2, hw2⟩ : ∃ z : zW, z = sR w1 a0 0 10 := ⟨_, rfl⟩
  rw [← hw2] at hR
  replace hf := hf w2 hw2
  refine lv_aload_n hx hb dX3_init_12 rfl (lv_at hl 0 rfl) ?_
  refine z_getR X hR ha0.1 ha0.2 (by decide) zfd_X3_9 rfl dX3_init_13 ?_
  obtain ⟨hn30, hf⟩ := hf
  have hn3 : al1 (gR w2 a0 0) ∧ zsh (gR w2 a0 0) = 20 := zwt_ofM hR ha0.1 ha0.2 rfl hn30 (zdc_of ha0.2 rfl)
  rw [zrf_pos hn30]
  refine lv_iconst (v := (-1 : Int32)) hx hb dX3_init_16 (by decide) ?_
  refine z_callSV (fr1 := 0) (As := [.ref (ad1 (gR w2 a0 0)), .int (-1 : Int32)]) (rest := []) X (hr.none (by decide)) hR zy_J7_fill_53178 zq_83 (mqJ7_fill_53178 ⟨hn3.1, hn3.2⟩ hf) rfl hl (Nat.le_of_ble_eq_true rfl) dX3_init_17 rfl (fun w4 H locs hf hR => ?_)
  exact hQ _ _ _ _ _ _ _ _ _ hX (by have := hr.2.2.1; omega) (by have := hr.2.2.2; omega) hf hR dX3_init_20
/-! X3_init_12 -/
def fX3_init_12 (mc ms : Nat) (a0 : Nat) (w : zW) (k : zW → Prop) : Prop :=
  ¬ gI w 0 13 = 1 ∧ 1 ≤ mc ∧ 12 ≤ ms ∧ ∀ w1 : zW, w1 = nW w 13 →
  ∀ w2 : zW, w2 = sR w1 a0 0 13 →
  ¬ gR w2 a0 0 = 0 ∧
  fJ7_fill_53178 (gR w2 a0 0) (-1 : Int32) w2 (fun w4 =>
  k w4)
set_option maxHeartbeats 4000000 in
set_option maxRecDepth 100000 in
theorem mX3_init_12 {l : Launch} {D : va_G} {dA : Nat → ClassId} {ad : Nat → Nat} {al : Nat → Prop} {w : zW} {mc ms : Nat} {k : zW → Prop} {a0 : Nat} (ha0 : al a0 ∧ zsh a0 = 3) (hf : fX3_init_12 mc ms a0 w k) : zmetAV l yX3_init cX3_init 1 none 1 mc ms [.ref (ad a0)] D dA false ad al w k := by
  refine zmetCV_of (by decide) rfl (Nat.le_of_ble_eq_true rfl) ?_
  intro p e R s m below meth c Q H ls args locs cells slots X hr hQ hin hR hl
  have hx := X.1
  have hb := X.2.1
  have hml := X.2.2.1
  have hown := X.2.2.2.1
  have hts := X.2.2.2.2.1
  unfold fX3_init_12 at hf
  have hl : lv_has ls 1 [(0, .ref (ad a0))] := hl
  have hX : zExt ad al ad al := zExt.rf
  refine lv_aload_n hx hb dX3_init_0 rfl (lv_at hl 0 rfl) ?_
  refine z_objInit (rest := []) X (hr.none (by decide)) zq_81 zq_12 zq_13 hl (Nat.le_of_ble_eq_true rfl) dX3_init_1 ?_
  refine lv_aload_n hx hb dX3_init_4 rfl (lv_at hl 0 rfl) ?_
  refine lv_bipush (v := (12 : Int32)) hx hb dX3_init_5 (by decide) ?_
  have hw1_1 : al a0 := ha0.1
  have hv1_1 : al a0 := ha0.1
  obtain ⟨hg1, hc1, hs1, hf⟩ := hf
  refine z_newaI (N := 12) X (hr.new hc1 hs1) hR (j := 13) (fun h9 => absurd h9 (by decide)) hg1 zs_13 zl_13 (by decide) (by decide) (by decide) zq_64 dX3_init_7 (fun ad1 al1 H hE1 hj1 hR => ?_)
  obtain ⟨w1, hw1⟩ : ∃ z : zW, z = nW w 13 := ⟨_, rfl⟩
  rw [← hw1] at hR
  replace hf := hf w1 hw1
  have hX := hX.tr hE1
  have hr := hr.after hc1 hs1
  have ha0 : al1 a0 ∧ zsh a0 = 3 := ⟨(hE1 _ ha0.1).1, ha0.2⟩
  rw [← (hE1 a0 hw1_1).2] at hl
  rw [← (hE1 a0 hv1_1).2]
  refine z_putFR X hR hin ha0.1 ha0.2 (by decide) zff_X3_9 rfl rfl (by decide) hj1 (by rw [zdc_of ha0.2 rfl]; exact zs_13) dX3_init_9 (fun H locs hR => ?_)
  obtain ⟨w2, hw2⟩ : ∃ z : zW, z = sR w1 a0 0 13 := ⟨_, rfl⟩
  rw [← hw2] at hR
  replace hf := hf w2 hw2
  refine lv_aload_n hx hb dX3_init_12 rfl (lv_at hl 0 rfl) ?_
  refine z_getR X hR ha0.1 ha0.2 (by decide) zfd_X3_9 rfl dX3_init_13 ?_
  obtain ⟨hn30, hf⟩ := hf
  have hn3 : al1 (gR w2 a0 0) ∧ zsh (gR w2 a0 0) = 20 := zwt_ofM hR ha0.1 ha0.2 rfl hn30 (zdc_of ha0.2 rfl)
  rw [zrf_pos hn30]
  refine lv_iconst (v := (-1 : Int32)) hx hb dX3_init_16 (by decide) ?_
  refine z_callSV (fr1 := 0) (As := [.ref (ad1 (gR w2 a0 0)), .int (-1 : Int32)]) (rest := []) X (hr.none (by decide)) hR zy_J7_fill_53178 zq_83 (mqJ7_fill_53178 ⟨hn3.1, hn3.2⟩ hf) rfl hl (Nat.le_of_ble_eq_true rfl) dX3_init_17 rfl (fun w4 H locs hf hR => ?_)
  exact hQ _ _ _ _ _ _ _ _ _ hX (by have := hr.2.2.1; omega) (by have := hr.2.2.2; omega) hf hR dX3_init_20
/-! X3_init_14 -/
def fX3_init_14 (mc ms : Nat) (a0 : Nat) (w : zW) (k : zW → Prop) : Prop :=
  ¬ gI w 0 15 = 1 ∧ 1 ≤ mc ∧ 12 ≤ ms ∧ ∀ w1 : zW, w1 = nW w 15 →
  ∀ w2 : zW, w2 = sR w1 a0 0 15 →
  ¬ gR w2 a0 0 = 0 ∧
  fJ7_fill_53178 (gR w2 a0 0) (-1 : Int32) w2 (fun w4 =>
  k w4)
set_option maxHeartbeats 4000000 in
set_option maxRecDepth 100000 in
theorem mX3_init_14 {l : Launch} {D : va_G} {dA : Nat → ClassId} {ad : Nat → Nat} {al : Nat → Prop} {w : zW} {mc ms : Nat} {k : zW → Prop} {a0 : Nat} (ha0 : al a0 ∧ zsh a0 = 3) (hf : fX3_init_14 mc ms a0 w k) : zmetAV l yX3_init cX3_init 1 none 1 mc ms [.ref (ad a0)] D dA false ad al w k := by
  refine zmetCV_of (by decide) rfl (Nat.le_of_ble_eq_true rfl) ?_
  intro p e R s m below meth c Q H ls args locs cells slots X hr hQ hin hR hl
  have hx := X.1
  have hb := X.2.1
  have hml := X.2.2.1
  have hown := X.2.2.2.1
  have hts := X.2.2.2.2.1
  unfold fX3_init_14 at hf
  have hl : lv_has ls 1 [(0, .ref (ad a0))] := hl
  have hX : zExt ad al ad al := zExt.rf
  refine lv_aload_n hx hb dX3_init_0 rfl (lv_at hl 0 rfl) ?_
  refine z_objInit (rest := []) X (hr.none (by decide)) zq_81 zq_12 zq_13 hl (Nat.le_of_ble_eq_true rfl) dX3_init_1 ?_
  refine lv_aload_n hx hb dX3_init_4 rfl (lv_at hl 0 rfl) ?_
  refine lv_bipush (v := (12 : Int32)) hx hb dX3_init_5 (by decide) ?_
  have hw1_1 : al a0 := ha0.1
  have hv1_1 : al a0 := ha0.1
  obtain ⟨hg1, hc1, hs1, hf⟩ := hf
  refine z_newaI (N := 12) X (hr.new hc1 hs1) hR (j := 15) (fun h9 => absurd h9 (by decide)) hg1 zs_15 zl_15 (by decide) (by decide) (by decide) zq_64 dX3_init_7 (fun ad1 al1 H hE1 hj1 hR => ?_)
  obtain ⟨w1, hw1⟩ : ∃ z : zW, z = nW w 15 := ⟨_, rfl⟩
  rw [← hw1] at hR
  replace hf := hf w1 hw1
  have hX := hX.tr hE1
  have hr := hr.after hc1 hs1
  have ha0 : al1 a0 ∧ zsh a0 = 3 := ⟨(hE1 _ ha0.1).1, ha0.2⟩
  rw [← (hE1 a0 hw1_1).2] at hl
  rw [← (hE1 a0 hv1_1).2]
  refine z_putFR X hR hin ha0.1 ha0.2 (by decide) zff_X3_9 rfl rfl (by decide) hj1 (by rw [zdc_of ha0.2 rfl]; exact zs_15) dX3_init_9 (fun H locs hR => ?_)
  obtain ⟨w2, hw2⟩ : ∃ z : zW, z = sR w1 a0 0 15 := ⟨_, rfl⟩
  rw [← hw2] at hR
  replace hf := hf w2 hw2
  refine lv_aload_n hx hb dX3_init_12 rfl (lv_at hl 0 rfl) ?_
  refine z_getR X hR ha0.1 ha0.2 (by decide) zfd_X3_9 rfl dX3_init_13 ?_
  obtain ⟨hn30, hf⟩ := hf
  have hn3 : al1 (gR w2 a0 0) ∧ zsh (gR w2 a0 0) = 20 := zwt_ofM hR ha0.1 ha0.2 rfl hn30 (zdc_of ha0.2 rfl)
  rw [zrf_pos hn30]
  refine lv_iconst (v := (-1 : Int32)) hx hb dX3_init_16 (by decide) ?_
  refine z_callSV (fr1 := 0) (As := [.ref (ad1 (gR w2 a0 0)), .int (-1 : Int32)]) (rest := []) X (hr.none (by decide)) hR zy_J7_fill_53178 zq_83 (mqJ7_fill_53178 ⟨hn3.1, hn3.2⟩ hf) rfl hl (Nat.le_of_ble_eq_true rfl) dX3_init_17 rfl (fun w4 H locs hf hR => ?_)
  exact hQ _ _ _ _ _ _ _ _ _ hX (by have := hr.2.2.1; omega) (by have := hr.2.2.2; omega) hf hR dX3_init_20
/-! X3_init_16 -/
def fX3_init_16 (mc ms : Nat) (a0 : Nat) (w : zW) (k : zW → Prop) : Prop :=
  ¬ gI w 0 17 = 1 ∧ 1 ≤ mc ∧ 12 ≤ ms ∧ ∀ w1 : zW, w1 = nW w 17 →
  ∀ w2 : zW, w2 = sR w1 a0 0 17 →
  ¬ gR w2 a0 0 = 0 ∧
  fJ7_fill_53178 (gR w2 a0 0) (-1 : Int32) w2 (fun w4 =>
  k w4)
set_option maxHeartbeats 4000000 in
set_option maxRecDepth 100000 in
theorem mX3_init_16 {l : Launch} {D : va_G} {dA : Nat → ClassId} {ad : Nat → Nat} {al : Nat → Prop} {w : zW} {mc ms : Nat} {k : zW → Prop} {a0 : Nat} (ha0 : al a0 ∧ zsh a0 = 3) (hf : fX3_init_16 mc ms a0 w k) : zmetAV l yX3_init cX3_init 1 none 1 mc ms [.ref (ad a0)] D dA false ad al w k := by
  refine zmetCV_of (by decide) rfl (Nat.le_of_ble_eq_true rfl) ?_
  intro p e R s m below meth c Q H ls args locs cells slots X hr hQ hin hR hl
  have hx := X.1
  have hb := X.2.1
  have hml := X.2.2.1
  have hown := X.2.2.2.1
  have hts := X.2.2.2.2.1
  unfold fX3_init_16 at hf
  have hl : lv_has ls 1 [(0, .ref (ad a0))] := hl
  have hX : zExt ad al ad al := zExt.rf
  refine lv_aload_n hx hb dX3_init_0 rfl (lv_at hl 0 rfl) ?_
  refine z_objInit (rest := []) X (hr.none (by decide)) zq_81 zq_12 zq_13 hl (Nat.le_of_ble_eq_true rfl) dX3_init_1 ?_
  refine lv_aload_n hx hb dX3_init_4 rfl (lv_at hl 0 rfl) ?_
  refine lv_bipush (v := (12 : Int32)) hx hb dX3_init_5 (by decide) ?_
  have hw1_1 : al a0 := ha0.1
  have hv1_1 : al a0 := ha0.1
  obtain ⟨hg1, hc1, hs1, hf⟩ := hf
  refine z_newaI (N := 12) X (hr.new hc1 hs1) hR (j := 17) (fun h9 => absurd h9 (by decide)) hg1 zs_17 zl_17 (by decide) (by decide) (by decide) zq_64 dX3_init_7 (fun ad1 al1 H hE1 hj1 hR => ?_)
  obtain ⟨w1, hw1⟩ : ∃ z : zW, z = nW w 17 := ⟨_, rfl⟩
  rw [← hw1] at hR
  replace hf := hf w1 hw1
  have hX := hX.tr hE1
  have hr := hr.after hc1 hs1
  have ha0 : al1 a0 ∧ zsh a0 = 3 := ⟨(hE1 _ ha0.1).1, ha0.2⟩
  rw [← (hE1 a0 hw1_1).2] at hl
  rw [← (hE1 a0 hv1_1).2]
  refine z_putFR X hR hin ha0.1 ha0.2 (by decide) zff_X3_9 rfl rfl (by decide) hj1 (by rw [zdc_of ha0.2 rfl]; exact zs_17) dX3_init_9 (fun H locs hR => ?_)
  obtain ⟨w2, hw2⟩ : ∃ z : zW, z = sR w1 a0 0 17 := ⟨_, rfl⟩
  rw [← hw2] at hR
  replace hf := hf w2 hw2
  refine lv_aload_n hx hb dX3_init_12 rfl (lv_at hl 0 rfl) ?_
  refine z_getR X hR ha0.1 ha0.2 (by decide) zfd_X3_9 rfl dX3_init_13 ?_
  obtain ⟨hn30, hf⟩ := hf
  have hn3 : al1 (gR w2 a0 0) ∧ zsh (gR w2 a0 0) = 20 := zwt_ofM hR ha0.1 ha0.2 rfl hn30 (zdc_of ha0.2 rfl)
  rw [zrf_pos hn30]
  refine lv_iconst (v := (-1 : Int32)) hx hb dX3_init_16 (by decide) ?_
  refine z_callSV (fr1 := 0) (As := [.ref (ad1 (gR w2 a0 0)), .int (-1 : Int32)]) (rest := []) X (hr.none (by decide)) hR zy_J7_fill_53178 zq_83 (mqJ7_fill_53178 ⟨hn3.1, hn3.2⟩ hf) rfl hl (Nat.le_of_ble_eq_true rfl) dX3_init_17 rfl (fun w4 H locs hf hR => ?_)
  exact hQ _ _ _ _ _ _ _ _ _ hX (by have := hr.2.2.1; omega) (by have := hr.2.2.2; omega) hf hR dX3_init_20
/-! X3_init_18 -/
def fX3_init_18 (mc ms : Nat) (a0 : Nat) (w : zW) (k : zW → Prop) : Prop :=
  ¬ gI w 0 19 = 1 ∧ 1 ≤ mc ∧ 12 ≤ ms ∧ ∀ w1 : zW, w1 = nW w 19 →
  ∀ w2 : zW, w2 = sR w1 a0 0 19 →
  ¬ gR w2 a0 0 = 0 ∧
  fJ7_fill_53178 (gR w2 a0 0) (-1 : Int32) w2 (fun w4 =>
  k w4)
set_option maxHeartbeats 4000000 in
set_option maxRecDepth 100000 in
theorem mX3_init_18 {l : Launch} {D : va_G} {dA : Nat → ClassId} {ad : Nat → Nat} {al : Nat → Prop} {w : zW} {mc ms : Nat} {k : zW → Prop} {a0 : Nat} (ha0 : al a0 ∧ zsh a0 = 3) (hf : fX3_init_18 mc ms a0 w k) : zmetAV l yX3_init cX3_init 1 none 1 mc ms [.ref (ad a0)] D dA false ad al w k := by
  refine zmetCV_of (by decide) rfl (Nat.le_of_ble_eq_true rfl) ?_
  intro p e R s m below meth c Q H ls args locs cells slots X hr hQ hin hR hl
  have hx := X.1
  have hb := X.2.1
  have hml := X.2.2.1
  have hown := X.2.2.2.1
  have hts := X.2.2.2.2.1
  unfold fX3_init_18 at hf
  have hl : lv_has ls 1 [(0, .ref (ad a0))] := hl
  have hX : zExt ad al ad al := zExt.rf
  refine lv_aload_n hx hb dX3_init_0 rfl (lv_at hl 0 rfl) ?_
  refine z_objInit (rest := []) X (hr.none (by decide)) zq_81 zq_12 zq_13 hl (Nat.le_of_ble_eq_true rfl) dX3_init_1 ?_
  refine lv_aload_n hx hb dX3_init_4 rfl (lv_at hl 0 rfl) ?_
  refine lv_bipush (v := (12 : Int32)) hx hb dX3_init_5 (by decide) ?_
  have hw1_1 : al a0 := ha0.1
  have hv1_1 : al a0 := ha0.1
  obtain ⟨hg1, hc1, hs1, hf⟩ := hf
  refine z_newaI (N := 12) X (hr.new hc1 hs1) hR (j := 19) (fun h9 => absurd h9 (by decide)) hg1 zs_19 zl_19 (by decide) (by decide) (by decide) zq_64 dX3_init_7 (fun ad1 al1 H hE1 hj1 hR => ?_)
  obtain ⟨w1, hw1⟩ : ∃ z : zW, z = nW w 19 := ⟨_, rfl⟩
  rw [← hw1] at hR
  replace hf := hf w1 hw1
  have hX := hX.tr hE1
  have hr := hr.after hc1 hs1
  have ha0 : al1 a0 ∧ zsh a0 = 3 := ⟨(hE1 _ ha0.1).1, ha0.2⟩
  rw [← (hE1 a0 hw1_1).2] at hl
  rw [← (hE1 a0 hv1_1).2]
  refine z_putFR X hR hin ha0.1 ha0.2 (by decide) zff_X3_9 rfl rfl (by decide) hj1 (by rw [zdc_of ha0.2 rfl]; exact zs_19) dX3_init_9 (fun H locs hR => ?_)
  obtain ⟨w2, hw2⟩ : ∃ z : zW, z = sR w1 a0 0 19 := ⟨_, rfl⟩
  rw [← hw2] at hR
  replace hf := hf w2 hw2
  refine lv_aload_n hx hb dX3_init_12 rfl (lv_at hl 0 rfl) ?_
  refine z_getR X hR ha0.1 ha0.2 (by decide) zfd_X3_9 rfl dX3_init_13 ?_
  obtain ⟨hn30, hf⟩ := hf
  have hn3 : al1 (gR w2 a0 0) ∧ zsh (gR w2 a0 0) = 20 := zwt_ofM hR ha0.1 ha0.2 rfl hn30 (zdc_of ha0.2 rfl)
  rw [zrf_pos hn30]
  refine lv_iconst (v := (-1 : Int32)) hx hb dX3_init_16 (by decide) ?_
  refine z_callSV (fr1 := 0) (As := [.ref (ad1 (gR w2 a0 0)), .int (-1 : Int32)]) (rest := []) X (hr.none (by decide)) hR zy_J7_fill_53178 zq_83 (mqJ7_fill_53178 ⟨hn3.1, hn3.2⟩ hf) rfl hl (Nat.le_of_ble_eq_true rfl) dX3_init_17 rfl (fun w4 H locs hf hR => ?_)
  exact hQ _ _ _ _ _ _ _ _ _ hX (by have := hr.2.2.1; omega) (by have := hr.2.2.2; omega) hf hR dX3_init_20
/-! X3_init_124 -/
def fX3_init_124 (mc ms : Nat) (a0 : Nat) (w : zW) (k : zW → Prop) : Prop :=
  ¬ gI w 0 125 = 1 ∧ 1 ≤ mc ∧ 12 ≤ ms ∧ ∀ w1 : zW, w1 = nW w 125 →
  ∀ w2 : zW, w2 = sR w1 a0 0 125 →
  ¬ gR w2 a0 0 = 0 ∧
  fJ7_fill_53178 (gR w2 a0 0) (-1 : Int32) w2 (fun w4 =>
  k w4)
set_option maxHeartbeats 4000000 in
set_option maxRecDepth 100000 in
theorem mX3_init_124 {l : Launch} {D : va_G} {dA : Nat → ClassId} {ad : Nat → Nat} {al : Nat → Prop} {w : zW} {mc ms : Nat} {k : zW → Prop} {a0 : Nat} (ha0 : al a0 ∧ zsh a0 = 3) (hf : fX3_init_124 mc ms a0 w k) : zmetAV l yX3_init cX3_init 1 none 1 mc ms [.ref (ad a0)] D dA false ad al w k := by
  refine zmetCV_of (by decide) rfl (Nat.le_of_ble_eq_true rfl) ?_
  intro p e R s m below meth c Q H ls args locs cells slots X hr hQ hin hR hl
  have hx := X.1
  have hb := X.2.1
  have hml := X.2.2.1
  have hown := X.2.2.2.1
  have hts := X.2.2.2.2.1
  unfold fX3_init_124 at hf
  have hl : lv_has ls 1 [(0, .ref (ad a0))] := hl
  have hX : zExt ad al ad al := zExt.rf
  refine lv_aload_n hx hb dX3_init_0 rfl (lv_at hl 0 rfl) ?_
  refine z_objInit (rest := []) X (hr.none (by decide)) zq_81 zq_12 zq_13 hl (Nat.le_of_ble_eq_true rfl) dX3_init_1 ?_
  refine lv_aload_n hx hb dX3_init_4 rfl (lv_at hl 0 rfl) ?_
  refine lv_bipush (v := (12 : Int32)) hx hb dX3_init_5 (by decide) ?_
  have hw1_1 : al a0 := ha0.1
  have hv1_1 : al a0 := ha0.1
  obtain ⟨hg1, hc1, hs1, hf⟩ := hf
  refine z_newaI (N := 12) X (hr.new hc1 hs1) hR (j := 125) (fun h9 => absurd h9 (by decide)) hg1 zs_125 zl_125 (by decide) (by decide) (by decide) zq_64 dX3_init_7 (fun ad1 al1 H hE1 hj1 hR => ?_)
  obtain ⟨w1, hw1⟩ : ∃ z : zW, z = nW w 125 := ⟨_, rfl⟩
  rw [← hw1] at hR
  replace hf := hf w1 hw1
  have hX := hX.tr hE1
  have hr := hr.after hc1 hs1
  have ha0 : al1 a0 ∧ zsh a0 = 3 := ⟨(hE1 _ ha0.1).1, ha0.2⟩
  rw [← (hE1 a0 hw1_1).2] at hl
  rw [← (hE1 a0 hv1_1).2]
  refine z_putFR X hR hin ha0.1 ha0.2 (by decide) zff_X3_9 rfl rfl (by decide) hj1 (by rw [zdc_of ha0.2 rfl]; exact zs_125) dX3_init_9 (fun H locs hR => ?_)
  obtain ⟨w2, hw2⟩ : ∃ z : zW, z = sR w1 a0 0 125 := ⟨_, rfl⟩
  rw [← hw2] at hR
  replace hf := hf w2 hw2
  refine lv_aload_n hx hb dX3_init_12 rfl (lv_at hl 0 rfl) ?_
  refine z_getR X hR ha0.1 ha0.2 (by decide) zfd_X3_9 rfl dX3_init_13 ?_
  obtain ⟨hn30, hf⟩ := hf
  have hn3 : al1 (gR w2 a0 0) ∧ zsh (gR w2 a0 0) = 20 := zwt_ofM hR ha0.1 ha0.2 rfl hn30 (zdc_of ha0.2 rfl)
  rw [zrf_pos hn30]
  refine lv_iconst (v := (-1 : Int32)) hx hb dX3_init_16 (by decide) ?_
  refine z_callSV (fr1 := 0) (As := [.ref (ad1 (gR w2 a0 0)), .int (-1 : Int32)]) (rest := []) X (hr.none (by decide)) hR zy_J7_fill_53178 zq_83 (mqJ7_fill_53178 ⟨hn3.1, hn3.2⟩ hf) rfl hl (Nat.le_of_ble_eq_true rfl) dX3_init_17 rfl (fun w4 H locs hf hR => ?_)
  exact hQ _ _ _ _ _ _ _ _ _ hX (by have := hr.2.2.1; omega) (by have := hr.2.2.2; omega) hf hR dX3_init_20
/-! X3_init_134 -/
def fX3_init_134 (mc ms : Nat) (a0 : Nat) (w : zW) (k : zW → Prop) : Prop :=
  ¬ gI w 0 135 = 1 ∧ 1 ≤ mc ∧ 12 ≤ ms ∧ ∀ w1 : zW, w1 = nW w 135 →
  ∀ w2 : zW, w2 = sR w1 a0 0 135 →
  ¬ gR w2 a0 0 = 0 ∧
  fJ7_fill_53178 (gR w2 a0 0) (-1 : Int32) w2 (fun w4 =>
  k w4)
set_option maxHeartbeats 4000000 in
set_option maxRecDepth 100000 in
theorem mX3_init_134 {l : Launch} {D : va_G} {dA : Nat → ClassId} {ad : Nat → Nat} {al : Nat → Prop} {w : zW} {mc ms : Nat} {k : zW → Prop} {a0 : Nat} (ha0 : al a0 ∧ zsh a0 = 3) (hf : fX3_init_134 mc ms a0 w k) : zmetAV l yX3_init cX3_init 1 none 1 mc ms [.ref (ad a0)] D dA false ad al w k := by
  refine zmetCV_of (by decide) rfl (Nat.le_of_ble_eq_true rfl) ?_
  intro p e R s m below meth c Q H ls args locs cells slots X hr hQ hin hR hl
  have hx := X.1
  have hb := X.2.1
  have hml := X.2.2.1
  have hown := X.2.2.2.1
  have hts := X.2.2.2.2.1
  unfold fX3_init_134 at hf
  have hl : lv_has ls 1 [(0, .ref (ad a0))] := hl
  have hX : zExt ad al ad al := zExt.rf
  refine lv_aload_n hx hb dX3_init_0 rfl (lv_at hl 0 rfl) ?_
  refine z_objInit (rest := []) X (hr.none (by decide)) zq_81 zq_12 zq_13 hl (Nat.le_of_ble_eq_true rfl) dX3_init_1 ?_
  refine lv_aload_n hx hb dX3_init_4 rfl (lv_at hl 0 rfl) ?_
  refine lv_bipush (v := (12 : Int32)) hx hb dX3_init_5 (by decide) ?_
  have hw1_1 : al a0 := ha0.1
  have hv1_1 : al a0 := ha0.1
  obtain ⟨hg1, hc1, hs1, hf⟩ := hf
  refine z_newaI (N := 12) X (hr.new hc1 hs1) hR (j := 135) (fun h9 => absurd h9 (by decide)) hg1 zs_135 zl_135 (by decide) (by decide) (by decide) zq_64 dX3_init_7 (fun ad1 al1 H hE1 hj1 hR => ?_)
  obtain ⟨w1, hw1⟩ : ∃ z : zW, z = nW w 135 := ⟨_, rfl⟩
  rw [← hw1] at hR
  replace hf := hf w1 hw1
  have hX := hX.tr hE1
  have hr := hr.after hc1 hs1
  have ha0 : al1 a0 ∧ zsh a0 = 3 := ⟨(hE1 _ ha0.1).1, ha0.2⟩
  rw [← (hE1 a0 hw1_1).2] at hl
  rw [← (hE1 a0 hv1_1).2]
  refine z_putFR X hR hin ha0.1 ha0.2 (by decide) zff_X3_9 rfl rfl (by decide) hj1 (by rw [zdc_of ha0.2 rfl]; exact zs_135) dX3_init_9 (fun H locs hR => ?_)
  obtain ⟨w2, hw2⟩ : ∃ z : zW, z = sR w1 a0 0 135 := ⟨_, rfl⟩
  rw [← hw2] at hR
  replace hf := hf w2 hw2
  refine lv_aload_n hx hb dX3_init_12 rfl (lv_at hl 0 rfl) ?_
  refine z_getR X hR ha0.1 ha0.2 (by decide) zfd_X3_9 rfl dX3_init_13 ?_
  obtain ⟨hn30, hf⟩ := hf
  have hn3 : al1 (gR w2 a0 0) ∧ zsh (gR w2 a0 0) = 20 := zwt_ofM hR ha0.1 ha0.2 rfl hn30 (zdc_of ha0.2 rfl)
  rw [zrf_pos hn30]
  refine lv_iconst (v := (-1 : Int32)) hx hb dX3_init_16 (by decide) ?_
  refine z_callSV (fr1 := 0) (As := [.ref (ad1 (gR w2 a0 0)), .int (-1 : Int32)]) (rest := []) X (hr.none (by decide)) hR zy_J7_fill_53178 zq_83 (mqJ7_fill_53178 ⟨hn3.1, hn3.2⟩ hf) rfl hl (Nat.le_of_ble_eq_true rfl) dX3_init_17 rfl (fun w4 H locs hf hR => ?_)
  exact hQ _ _ _ _ _ _ _ _ _ hX (by have := hr.2.2.1; omega) (by have := hr.2.2.2; omega) hf hR dX3_init_20
/-! X10_init_2 -/
def fX10_init_2 (mc ms : Nat) (a0 : Nat) (w : zW) (k : zW → Prop) : Prop :=
  ¬ gI w 0 3 = 1 ∧ 1 ≤ mc ∧ 1000 ≤ ms ∧ ∀ w1 : zW, w1 = nW w 3 →
  ∀ w2 : zW, w2 = sR w1 a0 0 3 →
  k w2
set_option maxHeartbeats 4000000 in
set_option maxRecDepth 100000 in
theorem mX10_init_2 {l : Launch} {D : va_G} {dA : Nat → ClassId} {ad : Nat → Nat} {al : Nat → Prop} {w : zW} {mc ms : Nat} {k : zW → Prop} {a0 : Nat} (ha0 : al a0 ∧ zsh a0 = 10) (hf : fX10_init_2 mc ms a0 w k) : zmetAV l yX10_init cX10_init 1 none 1 mc ms [.ref (ad a0)] D dA false ad al w k := by
  refine zmetCV_of (by decide) rfl (Nat.le_of_ble_eq_true rfl) ?_
  intro p e R s m below meth c Q H ls args locs cells slots X hr hQ hin hR hl
  have hx := X.1
  have hb := X.2.1
  have hml := X.2.2.1
  have hown := X.2.2.2.1
  have hts := X.2.2.2.2.1
  unfold fX10_init_2 at hf
  have hl : lv_has ls 1 [(0, .ref (ad a0))] := hl
  have hX : zExt ad al ad al := zExt.rf
  refine lv_aload_n hx hb dX10_init_0 rfl (lv_at hl 0 rfl) ?_
  refine z_objInit (rest := []) X (hr.none (by decide)) zq_57 zq_12 zq_13 hl (Nat.le_of_ble_eq_true rfl) dX10_init_1 ?_
  refine lv_aload_n hx hb dX10_init_4 rfl (lv_at hl 0 rfl) ?_
  refine lv_sipush (v := (1000 : Int32)) hx hb dX10_init_5 (by decide) ?_
  have hw1_1 : al a0 := ha0.1
  have hv1_1 : al a0 := ha0.1
  obtain ⟨hg1, hc1, hs1, hf⟩ := hf
  refine z_newaC (N := 1000) X (hr.new hc1 hs1) hR (j := 3) (fun h9 => absurd h9 (by decide)) hg1 zs_3 zl_3 (by decide) (by decide) (by decide) zq_58 dX10_init_8 (fun ad1 al1 H hE1 hj1 hR => ?_)
  obtain ⟨w1, hw1⟩ : ∃ z : zW, z = nW w 3 := ⟨_, rfl⟩
  rw [← hw1] at hR
  replace hf := hf w1 hw1
  have hX := hX.tr hE1
  have hr := hr.after hc1 hs1
  have ha0 : al1 a0 ∧ zsh a0 = 10 := ⟨(hE1 _ ha0.1).1, ha0.2⟩
  rw [← (hE1 a0 hw1_1).2] at hl
  rw [← (hE1 a0 hv1_1).2]
  refine z_putFR X hR hin ha0.1 ha0.2 (by decide) zff_X10_11 rfl rfl (by decide) hj1 (by rw [zdc_of ha0.2 rfl]; exact zs_3) dX10_init_10 (fun H locs hR => ?_)
  obtain ⟨w2, hw2⟩ : ∃ z : zW, z = sR w1 a0 0 3 := ⟨_, rfl⟩
  rw [← hw2] at hR
  replace hf := hf w2 hw2
  exact hQ _ _ _ _ _ _ _ _ _ hX (by have := hr.2.2.1; omega) (by have := hr.2.2.2; omega) hf hR dX10_init_13
/-! X7_init_6 -/
def fX7_init_6 (mc ms : Nat) (a0 : Nat) (a1 : Nat) (w : zW) (k : zW → Prop) : Prop :=
  ¬ gI w 0 7 = 1 ∧ 1 ≤ mc ∧ 1000 ≤ ms ∧ ∀ w1 : zW, w1 = nW w 7 →
  ∀ w2 : zW, w2 = sR w1 a0 1 7 →
  ¬ gI w2 0 8 = 1 ∧ 1 ≤ mc - 1 ∧ 32 ≤ ms - 1000 ∧ ∀ w3 : zW, w3 = nW w2 8 →
  ∀ w4 : zW, w4 = sR w3 a0 2 8 →
  ∀ w5 : zW, w5 = sR w4 a0 0 a1 →
  k w5
set_option maxHeartbeats 4000000 in
set_option maxRecDepth 100000 in
theorem mX7_init_6 {l : Launch} {D : va_G} {dA : Nat → ClassId} {ad : Nat → Nat} {al : Nat → Prop} {w : zW} {mc ms : Nat} {k : zW → Prop} {a0 : Nat} {a1 : Nat} (ha0 : al a0 ∧ zsh a0 = 7) (ha1 : al a1 ∧ zsh a1 = 10) (hf : fX7_init_6 mc ms a0 a1 w k) : zmetAV l yX7_init cX7_init 2 none 1 mc ms [.ref (ad a0), .ref (ad a1)] D dA false ad al w k := by
  refine zmetCV_of (by decide) rfl (Nat.le_of_ble_eq_true rfl) ?_
  intro p e R s m below meth c Q H ls args locs cells slots X hr hQ hin hR hl
  have hx := X.1
  have hb := X.2.1
  have hml := X.2.2.1
  have hown := X.2.2.2.1
  have hts := X.2.2.2.2.1
  unfold fX7_init_6 at hf
  have hl : lv_has ls 2 [(0, .ref (ad a0)), (1, .ref (ad a1))] := hl
  have hX : zExt ad al ad al := zExt.rf
  refine lv_aload_n hx hb dX7_init_0 rfl (lv_at hl 0 rfl) ?_
  refine z_objInit (rest := []) X (hr.none (by decide)) zq_74 zq_12 zq_13 hl (Nat.le_of_ble_eq_true rfl) dX7_init_1 ?_
  refine lv_aload_n hx hb dX7_init_4 rfl (lv_at hl 0 rfl) ?_
  refine lv_sipush (v := (1000 : Int32)) hx hb dX7_init_5 (by decide) ?_
  have hw1_1 : al a0 := ha0.1
  have hw1_2 : al a1 := ha1.1
  have hv1_1 : al a0 := ha0.1
  obtain ⟨hg1, hc1, hs1, hf⟩ := hf
  refine z_newaI (N := 1000) X (hr.new hc1 hs1) hR (j := 7) (fun h9 => absurd h9 (by decide)) hg1 zs_7 zl_7 (by decide) (by decide) (by decide) zq_64 dX7_init_8 (fun ad1 al1 H hE1 hj1 hR => ?_)
  obtain ⟨w1, hw1⟩ : ∃ z : zW, z = nW w 7 := ⟨_, rfl⟩
  rw [← hw1] at hR
  replace hf := hf w1 hw1
  have hX := hX.tr hE1
  have hr := hr.after hc1 hs1
  have ha0 : al1 a0 ∧ zsh a0 = 7 := ⟨(hE1 _ ha0.1).1, ha0.2⟩
  have ha1 : al1 a1 ∧ zsh a1 = 10 := ⟨(hE1 _ ha1.1).1, ha1.2⟩
  rw [← (hE1 a0 hw1_1).2] at hl
  rw [← (hE1 a1 hw1_2).2] at hl
  rw [← (hE1 a0 hv1_1).2]
  refine z_putFR X hR hin ha0.1 ha0.2 (by decide) zff_X7_9 rfl rfl (by decide) hj1 (by rw [zdc_of ha0.2 rfl]; exact zs_7) dX7_init_10 (fun H locs hR => ?_)
  obtain ⟨w2, hw2⟩ : ∃ z : zW, z = sR w1 a0 1 7 := ⟨_, rfl⟩
  rw [← hw2] at hR
  replace hf := hf w2 hw2
  refine lv_aload_n hx hb dX7_init_13 rfl (lv_at hl 0 rfl) ?_
  refine lv_bipush (v := (32 : Int32)) hx hb dX7_init_14 (by decide) ?_
  have hw3_1 : al1 a0 := ha0.1
  have hw3_2 : al1 a1 := ha1.1
  have hv3_1 : al1 a0 := ha0.1
  obtain ⟨hg3, hc3, hs3, hf⟩ := hf
  refine z_newaI (N := 32) X (hr.new hc3 hs3) hR (j := 8) (fun h9 => absurd h9 (by decide)) hg3 zs_8 zl_8 (by decide) (by decide) (by decide) zq_64 dX7_init_16 (fun ad3 al3 H hE3 hj3 hR => ?_)
  obtain ⟨w3, hw3⟩ : ∃ z : zW, z = nW w2 8 := ⟨_, rfl⟩
  rw [← hw3] at hR
  replace hf := hf w3 hw3
  have hX := hX.tr hE3
  have hr := hr.after hc3 hs3
  have ha0 : al3 a0 ∧ zsh a0 = 7 := ⟨(hE3 _ ha0.1).1, ha0.2⟩
  have ha1 : al3 a1 ∧ zsh a1 = 10 := ⟨(hE3 _ ha1.1).1, ha1.2⟩
  rw [← (hE3 a0 hw3_1).2] at hl
  rw [← (hE3 a1 hw3_2).2] at hl
  rw [← (hE3 a0 hv3_1).2]
  refine z_putFR X hR hin ha0.1 ha0.2 (by decide) zff_X7_15 rfl rfl (by decide) hj3 (by rw [zdc_of ha0.2 rfl]; exact zs_8) dX7_init_18 (fun H locs hR => ?_)
  obtain ⟨w4, hw4⟩ : ∃ z : zW, z = sR w3 a0 2 8 := ⟨_, rfl⟩
  rw [← hw4] at hR
  replace hf := hf w4 hw4
  refine lv_aload_n hx hb dX7_init_21 rfl (lv_at hl 0 rfl) ?_
  refine lv_aload_n hx hb dX7_init_22 rfl (lv_at hl 1 rfl) ?_
  refine z_putFR X hR hin ha0.1 ha0.2 (by decide) zff_X7_18 rfl rfl (zne0 ha1.2 (by decide)) ha1.1 (by rw [zdc_of ha0.2 rfl]; exact ha1.2) dX7_init_23 (fun H locs hR => ?_)
  obtain ⟨w5, hw5⟩ : ∃ z : zW, z = sR w4 a0 0 a1 := ⟨_, rfl⟩
  rw [← hw5] at hR
  replace hf := hf w5 hw5
  exact hQ _ _ _ _ _ _ _ _ _ hX (by have := hr.2.2.1; omega) (by have := hr.2.2.2; omega) hf hR dX7_init_26
/-! X1_init_4 -/
def fX1_init_4 (mc ms : Nat) (a0 : Nat) (a1 : Nat) (w : zW) (k : zW → Prop) : Prop :=
  ¬ gI w 0 5 = 1 ∧ 1 ≤ mc ∧ 3 ≤ ms ∧ ∀ w1 : zW, w1 = nW w 5 →
  ∀ w2 : zW, w2 = sR w1 a0 2 5 →
  ∀ w3 : zW, w3 = sR w2 a0 0 a1 →
  ¬ gI w3 0 6 = 1 ∧ 1 ≤ mc - 1 ∧ 4 ≤ ms - 3 ∧ ∀ w4 : zW, w4 = nW w3 6 →
  ∃ c5 s5, c5 ≤ (mc - 1) - 1 ∧ s5 ≤ (ms - 3) - 4 ∧ fX7_init_6 c5 s5 6 a1 w4 (fun w5 =>
  ∀ w6 : zW, w6 = sR w5 a0 1 6 →
  k w6)
set_option maxHeartbeats 4000000 in
set_option maxRecDepth 100000 in
theorem mX1_init_4 {l : Launch} {D : va_G} {dA : Nat → ClassId} {ad : Nat → Nat} {al : Nat → Prop} {w : zW} {mc ms : Nat} {k : zW → Prop} {a0 : Nat} {a1 : Nat} (ha0 : al a0 ∧ zsh a0 = 1) (ha1 : al a1 ∧ zsh a1 = 10) (hf : fX1_init_4 mc ms a0 a1 w k) : zmetAV l yX1_init cX1_init 2 none 2 mc ms [.ref (ad a0), .ref (ad a1)] D dA false ad al w k := by
  refine zmetCV_of (by decide) rfl (Nat.le_of_ble_eq_true rfl) ?_
  intro p e R s m below meth c Q H ls args locs cells slots X hr hQ hin hR hl
  have hx := X.1
  have hb := X.2.1
  have hml := X.2.2.1
  have hown := X.2.2.2.1
  have hts := X.2.2.2.2.1
  unfold fX1_init_4 at hf
  have hl : lv_has ls 2 [(0, .ref (ad a0)), (1, .ref (ad a1))] := hl
  have hX : zExt ad al ad al := zExt.rf
  refine lv_aload_n hx hb dX1_init_0 rfl (lv_at hl 0 rfl) ?_
  refine z_objInit (rest := []) X (hr.none (by decide)) zq_63 zq_12 zq_13 hl (Nat.le_of_ble_eq_true rfl) dX1_init_1 ?_
  refine lv_aload_n hx hb dX1_init_4 rfl (lv_at hl 0 rfl) ?_
  refine lv_iconst (v := (3 : Int32)) hx hb dX1_init_5 (by decide) ?_
  have hw1_1 : al a0 := ha0.1
  have hw1_2 : al a1 := ha1.1
  have hv1_1 : al a0 := ha0.1
  obtain ⟨hg1, hc1, hs1, hf⟩ := hf
  refine z_newaI (N := 3) X (hr.new hc1 hs1) hR (j := 5) (fun h9 => absurd h9 (by decide)) hg1 zs_5 zl_5 (by decide) (by decide) (by decide) zq_64 dX1_init_6 (fun ad1 al1 H hE1 hj1 hR => ?_)
  obtain ⟨w1, hw1⟩ : ∃ z : zW, z = nW w 5 := ⟨_, rfl⟩
  rw [← hw1] at hR
  replace hf := hf w1 hw1
  have hX := hX.tr hE1
  have hr := hr.after hc1 hs1
  have ha0 : al1 a0 ∧ zsh a0 = 1 := ⟨(hE1 _ ha0.1).1, ha0.2⟩
  have ha1 : al1 a1 ∧ zsh a1 = 10 := ⟨(hE1 _ ha1.1).1, ha1.2⟩
  rw [← (hE1 a0 hw1_1).2] at hl
  rw [← (hE1 a1 hw1_2).2] at hl
  rw [← (hE1 a0 hv1_1).2]
  refine z_putFR X hR hin ha0.1 ha0.2 (by decide) zff_X1_11 rfl rfl (by decide) hj1 (by rw [zdc_of ha0.2 rfl]; exact zs_5) dX1_init_8 (fun H locs hR => ?_)
  obtain ⟨w2, hw2⟩ : ∃ z : zW, z = sR w1 a0 2 5 := ⟨_, rfl⟩
  rw [← hw2] at hR
  replace hf := hf w2 hw2
  refine lv_aload_n hx hb dX1_init_11 rfl (lv_at hl 0 rfl) ?_
  refine lv_aload_n hx hb dX1_init_12 rfl (lv_at hl 1 rfl) ?_
  refine z_putFR X hR hin ha0.1 ha0.2 (by decide) zff_X1_15 rfl rfl (zne0 ha1.2 (by decide)) ha1.1 (by rw [zdc_of ha0.2 rfl]; exact ha1.2) dX1_init_13 (fun H locs hR => ?_)
  obtain ⟨w3, hw3⟩ : ∃ z : zW, z = sR w2 a0 0 a1 := ⟨_, rfl⟩
  rw [← hw3] at hR
  replace hf := hf w3 hw3
  refine lv_aload_n hx hb dX1_init_16 rfl (lv_at hl 0 rfl) ?_
  have hw4_1 : al1 a0 := ha0.1
  have hw4_2 : al1 a1 := ha1.1
  have hv4_1 : al1 a0 := ha0.1
  obtain ⟨hg4, hc4, hs4, hf⟩ := hf
  refine z_newo (N := 4) X (hr.new hc4 hs4) hR (j := 6) (fun h9 => absurd h9 (by decide)) hg4 zs_6 (by decide) (q := (RX7, TX7, 4)) rfl rfl tyX7 tyX7_ok (by decide +kernel) zq_67 zq_68 zq_69 dX1_init_17 (fun ad4 al4 H hE4 hj4 hR => ?_)
  obtain ⟨w4, hw4⟩ : ∃ z : zW, z = nW w3 6 := ⟨_, rfl⟩
  rw [← hw4] at hR
  replace hf := hf w4 hw4
  have hX := hX.tr hE4
  have hr := hr.after hc4 hs4
  have ha0 : al4 a0 ∧ zsh a0 = 1 := ⟨(hE4 _ ha0.1).1, ha0.2⟩
  have ha1 : al4 a1 ∧ zsh a1 = 10 := ⟨(hE4 _ ha1.1).1, ha1.2⟩
  rw [← (hE4 a0 hw4_1).2] at hl
  rw [← (hE4 a1 hw4_2).2] at hl
  rw [← (hE4 a0 hv4_1).2]
  have hn4 : al4 6 ∧ zsh 6 = 7 := ⟨hj4, zs_6⟩
  refine lv_dup hx hb dX1_init_20 rfl ?_
  refine lv_aload_n hx hb dX1_init_21 rfl (lv_at hl 1 rfl) ?_
  have hw5_1 : al4 a0 := ha0.1
  have hw5_2 : al4 a1 := ha1.1
  have hv5_1 : al4 a1 := ha1.1
  have hv5_2 : al4 6 := hn4.1
  have hv5_3 : al4 a0 := ha0.1
  obtain ⟨c5, s5, hc5, hs5, hf⟩ := hf
  refine z_callAIV (fr1 := 1) (mc := c5) (ms := s5) (b := 6) (As := [.ref (ad4 a1)]) (rest := [.ref (ad4 6), .ref (ad4 a0)]) X (hr.call hc5 hs5 (by decide)) hR zq_71 rfl zq_73 zq_72 zq_69 ⟨by decide, by decide⟩ (np := 1) (by decide +kernel) (by decide) (mX7_init_6 ⟨hn4.1, hn4.2⟩ ⟨ha1.1, ha1.2⟩ hf) rfl hl (Nat.le_of_ble_eq_true rfl) dX1_init_22 rfl (fun w5 H locs ad5 al5 hf hE5 hR => ?_)
  have hX := hX.tr hE5
  have hr := hr.after hc5 hs5
  have ha0 : al5 a0 ∧ zsh a0 = 1 := ⟨(hE5 _ ha0.1).1, ha0.2⟩
  have ha1 : al5 a1 ∧ zsh a1 = 10 := ⟨(hE5 _ ha1.1).1, ha1.2⟩
  have hn4 := And.intro (hE5 _ hn4.1).1 hn4.2
  rw [← (hE5 a0 hw5_1).2] at hl
  rw [← (hE5 a1 hw5_2).2] at hl
  rw [← (hE5 6 hv5_2).2]
  rw [← (hE5 a0 hv5_3).2]
  refine z_putFR X hR hin ha0.1 ha0.2 (by decide) zff_X1_24 rfl rfl (by decide) hn4.1 (by rw [zdc_of ha0.2 rfl]; exact hn4.2) dX1_init_25 (fun H locs hR => ?_)
  obtain ⟨w6, hw6⟩ : ∃ z : zW, z = sR w5 a0 1 6 := ⟨_, rfl⟩
  rw [← hw6] at hR
  replace hf := hf w6 hw6
  exact hQ _ _ _ _ _ _ _ _ _ hX (by have := hr.2.2.1; omega) (by have := hr.2.2.2; omega) hf hR dX1_init_28
/-! X6_init_21 -/
def fX6_init_21 (mc ms : Nat) (a0 : Nat) (w : zW) (k : zW → Prop) : Prop :=
  ¬ gI w 0 22 = 1 ∧ 1 ≤ mc ∧ 16 ≤ ms ∧ ∀ w1 : zW, w1 = nW w 22 →
  ∀ w2 : zW, w2 = sR w1 a0 1 22 →
  ¬ gI w2 0 23 = 1 ∧ 1 ≤ mc - 1 ∧ 16 ≤ ms - 16 ∧ ∀ w3 : zW, w3 = nW w2 23 →
  ∀ w4 : zW, w4 = sR w3 a0 2 23 →
  k w4
set_option maxHeartbeats 4000000 in
set_option maxRecDepth 100000 in
theorem mX6_init_21 {l : Launch} {D : va_G} {dA : Nat → ClassId} {ad : Nat → Nat} {al : Nat → Prop} {w : zW} {mc ms : Nat} {k : zW → Prop} {a0 : Nat} (ha0 : al a0 ∧ zsh a0 = 6) (hf : fX6_init_21 mc ms a0 w k) : zmetAV l yX6_init cX6_init 1 none 1 mc ms [.ref (ad a0)] D dA false ad al w k := by
  refine zmetCV_of (by decide) rfl (Nat.le_of_ble_eq_true rfl) ?_
  intro p e R s m below meth c Q H ls args locs cells slots X hr hQ hin hR hl
  have hx := X.1
  have hb := X.2.1
  have hml := X.2.2.1
  have hown := X.2.2.2.1
  have hts := X.2.2.2.2.1
  unfold fX6_init_21 at hf
  have hl : lv_has ls 1 [(0, .ref (ad a0))] := hl
  have hX : zExt ad al ad al := zExt.rf
  refine lv_aload_n hx hb dX6_init_0 rfl (lv_at hl 0 rfl) ?_
  refine z_objInit (rest := []) X (hr.none (by decide)) zq_89 zq_12 zq_13 hl (Nat.le_of_ble_eq_true rfl) dX6_init_1 ?_
  refine lv_aload_n hx hb dX6_init_4 rfl (lv_at hl 0 rfl) ?_
  refine lv_bipush (v := (16 : Int32)) hx hb dX6_init_5 (by decide) ?_
  have hw1_1 : al a0 := ha0.1
  have hv1_1 : al a0 := ha0.1
  obtain ⟨hg1, hc1, hs1, hf⟩ := hf
  refine z_newaI (N := 16) X (hr.new hc1 hs1) hR (j := 22) (fun h9 => absurd h9 (by decide)) hg1 zs_22 zl_22 (by decide) (by decide) (by decide) zq_64 dX6_init_7 (fun ad1 al1 H hE1 hj1 hR => ?_)
  obtain ⟨w1, hw1⟩ : ∃ z : zW, z = nW w 22 := ⟨_, rfl⟩
  rw [← hw1] at hR
  replace hf := hf w1 hw1
  have hX := hX.tr hE1
  have hr := hr.after hc1 hs1
  have ha0 : al1 a0 ∧ zsh a0 = 6 := ⟨(hE1 _ ha0.1).1, ha0.2⟩
  rw [← (hE1 a0 hw1_1).2] at hl
  rw [← (hE1 a0 hv1_1).2]
  refine z_putFR X hR hin ha0.1 ha0.2 (by decide) zff_X6_9 rfl rfl (by decide) hj1 (by rw [zdc_of ha0.2 rfl]; exact zs_22) dX6_init_9 (fun H locs hR => ?_)
  obtain ⟨w2, hw2⟩ : ∃ z : zW, z = sR w1 a0 1 22 := ⟨_, rfl⟩
  rw [← hw2] at hR
  replace hf := hf w2 hw2
  refine lv_aload_n hx hb dX6_init_12 rfl (lv_at hl 0 rfl) ?_
  refine lv_bipush (v := (16 : Int32)) hx hb dX6_init_13 (by decide) ?_
  have hw3_1 : al1 a0 := ha0.1
  have hv3_1 : al1 a0 := ha0.1
  obtain ⟨hg3, hc3, hs3, hf⟩ := hf
  refine z_newaI (N := 16) X (hr.new hc3 hs3) hR (j := 23) (fun h9 => absurd h9 (by decide)) hg3 zs_23 zl_23 (by decide) (by decide) (by decide) zq_64 dX6_init_15 (fun ad3 al3 H hE3 hj3 hR => ?_)
  obtain ⟨w3, hw3⟩ : ∃ z : zW, z = nW w2 23 := ⟨_, rfl⟩
  rw [← hw3] at hR
  replace hf := hf w3 hw3
  have hX := hX.tr hE3
  have hr := hr.after hc3 hs3
  have ha0 : al3 a0 ∧ zsh a0 = 6 := ⟨(hE3 _ ha0.1).1, ha0.2⟩
  rw [← (hE3 a0 hw3_1).2] at hl
  rw [← (hE3 a0 hv3_1).2]
  refine z_putFR X hR hin ha0.1 ha0.2 (by decide) zff_X6_13 rfl rfl (by decide) hj3 (by rw [zdc_of ha0.2 rfl]; exact zs_23) dX6_init_17 (fun H locs hR => ?_)
  obtain ⟨w4, hw4⟩ : ∃ z : zW, z = sR w3 a0 2 23 := ⟨_, rfl⟩
  rw [← hw4] at hR
  replace hf := hf w4 hw4
  exact hQ _ _ _ _ _ _ _ _ _ hX (by have := hr.2.2.1; omega) (by have := hr.2.2.2; omega) hf hR dX6_init_20
/-! X8_init_24 -/
def fX8_init_24 (mc ms : Nat) (a0 : Nat) (w : zW) (k : zW → Prop) : Prop :=
  ∀ w1 : zW, w1 = sI w a0 0 (1 : Int32) →
  ∀ w2 : zW, w2 = sI w1 a0 1 (1 : Int32) →
  ¬ gI w2 0 25 = 1 ∧ 1 ≤ mc ∧ 1 ≤ ms ∧ ∀ w3 : zW, w3 = nW w2 25 →
  ∀ w4 : zW, w4 = sR w3 a0 4 25 →
  ¬ gI w4 0 26 = 1 ∧ 1 ≤ mc - 1 ∧ 1 ≤ ms - 1 ∧ ∀ w5 : zW, w5 = nW w4 26 →
  ∀ w6 : zW, w6 = sR w5 a0 5 26 →
  ¬ gI w6 0 27 = 1 ∧ 1 ≤ (mc - 1) - 1 ∧ 1 ≤ (ms - 1) - 1 ∧ ∀ w7 : zW, w7 = nW w6 27 →
  ∀ w8 : zW, w8 = sR w7 a0 6 27 →
  ¬ gI w8 0 28 = 1 ∧ 1 ≤ ((mc - 1) - 1) - 1 ∧ 4 ≤ ((ms - 1) - 1) - 1 ∧ ∀ w9 : zW, w9 = nW w8 28 →
  ∀ w10 : zW, w10 = sR w9 a0 8 28 →
  k w10
set_option maxHeartbeats 4000000 in
set_option maxRecDepth 100000 in
theorem mX8_init_24 {l : Launch} {D : va_G} {dA : Nat → ClassId} {ad : Nat → Nat} {al : Nat → Prop} {w : zW} {mc ms : Nat} {k : zW → Prop} {a0 : Nat} (ha0 : al a0 ∧ zsh a0 = 8) (hf : fX8_init_24 mc ms a0 w k) : zmetAV l yX8_init cX8_init 1 none 1 mc ms [.ref (ad a0)] D dA false ad al w k := by
  refine zmetCV_of (by decide) rfl (Nat.le_of_ble_eq_true rfl) ?_
  intro p e R s m below meth c Q H ls args locs cells slots X hr hQ hin hR hl
  have hx := X.1
  have hb := X.2.1
  have hml := X.2.2.1
  have hown := X.2.2.2.1
  have hts := X.2.2.2.2.1
  unfold fX8_init_24 at hf
  have hl : lv_has ls 1 [(0, .ref (ad a0))] := hl
  have hX : zExt ad al ad al := zExt.rf
  refine lv_aload_n hx hb dX8_init_0 rfl (lv_at hl 0 rfl) ?_
  refine z_objInit (rest := []) X (hr.none (by decide)) zq_94 zq_12 zq_13 hl (Nat.le_of_ble_eq_true rfl) dX8_init_1 ?_
  refine lv_aload_n hx hb dX8_init_4 rfl (lv_at hl 0 rfl) ?_
  refine lv_iconst (v := (1 : Int32)) hx hb dX8_init_5 (by decide) ?_
  refine z_putZ X hR ha0.1 ha0.2 (by decide) zfp_X8_9 rfl zb01_1 dX8_init_6 (fun H locs hR => ?_)
  obtain ⟨w1, hw1⟩ : ∃ z : zW, z = sI w a0 0 (1 : Int32) := ⟨_, rfl⟩
  rw [← hw1] at hR
  replace hf := hf w1 hw1
  refine lv_aload_n hx hb dX8_init_9 rfl (lv_at hl 0 rfl) ?_
  refine lv_iconst (v := (1 : Int32)) hx hb dX8_init_10 (by decide) ?_
  refine z_putZ X hR ha0.1 ha0.2 (by decide) zfp_X8_15 rfl zb01_1 dX8_init_11 (fun H locs hR => ?_)
  obtain ⟨w2, hw2⟩ : ∃ z : zW, z = sI w1 a0 1 (1 : Int32) := ⟨_, rfl⟩
  rw [← hw2] at hR
  replace hf := hf w2 hw2
  refine lv_aload_n hx hb dX8_init_14 rfl (lv_at hl 0 rfl) ?_
  refine lv_iconst (v := (1 : Int32)) hx hb dX8_init_15 (by decide) ?_
  have hw3_1 : al a0 := ha0.1
  have hv3_1 : al a0 := ha0.1
  obtain ⟨hg3, hc3, hs3, hf⟩ := hf
  refine z_newaI (N := 1) X (hr.new hc3 hs3) hR (j := 25) (fun h9 => absurd h9 (by decide)) hg3 zs_25 zl_25 (by decide) (by decide) (by decide) zq_64 dX8_init_16 (fun ad3 al3 H hE3 hj3 hR => ?_)
  obtain ⟨w3, hw3⟩ : ∃ z : zW, z = nW w2 25 := ⟨_, rfl⟩
  rw [← hw3] at hR
  replace hf := hf w3 hw3
  have hX := hX.tr hE3
  have hr := hr.after hc3 hs3
  have ha0 : al3 a0 ∧ zsh a0 = 8 := ⟨(hE3 _ ha0.1).1, ha0.2⟩
  rw [← (hE3 a0 hw3_1).2] at hl
  rw [← (hE3 a0 hv3_1).2]
  refine z_putR X hR ha0.1 ha0.2 (by decide) zfp_X8_18 rfl rfl (by decide) hj3 (by rw [zdc_of ha0.2 rfl]; exact zs_25) dX8_init_18 (fun H locs hR => ?_)
  obtain ⟨w4, hw4⟩ : ∃ z : zW, z = sR w3 a0 4 25 := ⟨_, rfl⟩
  rw [← hw4] at hR
  replace hf := hf w4 hw4
  refine lv_aload_n hx hb dX8_init_21 rfl (lv_at hl 0 rfl) ?_
  refine lv_iconst (v := (1 : Int32)) hx hb dX8_init_22 (by decide) ?_
  have hw5_1 : al3 a0 := ha0.1
  have hv5_1 : al3 a0 := ha0.1
  obtain ⟨hg5, hc5, hs5, hf⟩ := hf
  refine z_newaI (N := 1) X (hr.new hc5 hs5) hR (j := 26) (fun h9 => absurd h9 (by decide)) hg5 zs_26 zl_26 (by decide) (by decide) (by decide) zq_64 dX8_init_23 (fun ad5 al5 H hE5 hj5 hR => ?_)
  obtain ⟨w5, hw5⟩ : ∃ z : zW, z = nW w4 26 := ⟨_, rfl⟩
  rw [← hw5] at hR
  replace hf := hf w5 hw5
  have hX := hX.tr hE5
  have hr := hr.after hc5 hs5
  have ha0 : al5 a0 ∧ zsh a0 = 8 := ⟨(hE5 _ ha0.1).1, ha0.2⟩
  rw [← (hE5 a0 hw5_1).2] at hl
  rw [← (hE5 a0 hv5_1).2]
  refine z_putR X hR ha0.1 ha0.2 (by decide) zfp_X8_22 rfl rfl (by decide) hj5 (by rw [zdc_of ha0.2 rfl]; exact zs_26) dX8_init_25 (fun H locs hR => ?_)
  obtain ⟨w6, hw6⟩ : ∃ z : zW, z = sR w5 a0 5 26 := ⟨_, rfl⟩
  rw [← hw6] at hR
  replace hf := hf w6 hw6
  refine lv_aload_n hx hb dX8_init_28 rfl (lv_at hl 0 rfl) ?_
  refine lv_iconst (v := (1 : Int32)) hx hb dX8_init_29 (by decide) ?_
  have hw7_1 : al5 a0 := ha0.1
  have hv7_1 : al5 a0 := ha0.1
  obtain ⟨hg7, hc7, hs7, hf⟩ := hf
  refine z_newaI (N := 1) X (hr.new hc7 hs7) hR (j := 27) (fun h9 => absurd h9 (by decide)) hg7 zs_27 zl_27 (by decide) (by decide) (by decide) zq_64 dX8_init_30 (fun ad7 al7 H hE7 hj7 hR => ?_)
  obtain ⟨w7, hw7⟩ : ∃ z : zW, z = nW w6 27 := ⟨_, rfl⟩
  rw [← hw7] at hR
  replace hf := hf w7 hw7
  have hX := hX.tr hE7
  have hr := hr.after hc7 hs7
  have ha0 : al7 a0 ∧ zsh a0 = 8 := ⟨(hE7 _ ha0.1).1, ha0.2⟩
  rw [← (hE7 a0 hw7_1).2] at hl
  rw [← (hE7 a0 hv7_1).2]
  refine z_putR X hR ha0.1 ha0.2 (by decide) zfp_X8_25 rfl rfl (by decide) hj7 (by rw [zdc_of ha0.2 rfl]; exact zs_27) dX8_init_32 (fun H locs hR => ?_)
  obtain ⟨w8, hw8⟩ : ∃ z : zW, z = sR w7 a0 6 27 := ⟨_, rfl⟩
  rw [← hw8] at hR
  replace hf := hf w8 hw8
  refine lv_aload_n hx hb dX8_init_35 rfl (lv_at hl 0 rfl) ?_
  refine lv_iconst (v := (4 : Int32)) hx hb dX8_init_36 (by decide) ?_
  have hw9_1 : al7 a0 := ha0.1
  have hv9_1 : al7 a0 := ha0.1
  obtain ⟨hg9, hc9, hs9, hf⟩ := hf
  refine z_newaI (N := 4) X (hr.new hc9 hs9) hR (j := 28) (fun h9 => absurd h9 (by decide)) hg9 zs_28 zl_28 (by decide) (by decide) (by decide) zq_64 dX8_init_37 (fun ad9 al9 H hE9 hj9 hR => ?_)
  obtain ⟨w9, hw9⟩ : ∃ z : zW, z = nW w8 28 := ⟨_, rfl⟩
  rw [← hw9] at hR
  replace hf := hf w9 hw9
  have hX := hX.tr hE9
  have hr := hr.after hc9 hs9
  have ha0 : al9 a0 ∧ zsh a0 = 8 := ⟨(hE9 _ ha0.1).1, ha0.2⟩
  rw [← (hE9 a0 hw9_1).2] at hl
  rw [← (hE9 a0 hv9_1).2]
  refine z_putFR X hR hin ha0.1 ha0.2 (by decide) zff_X8_28 rfl rfl (by decide) hj9 (by rw [zdc_of ha0.2 rfl]; exact zs_28) dX8_init_39 (fun H locs hR => ?_)
  obtain ⟨w10, hw10⟩ : ∃ z : zW, z = sR w9 a0 8 28 := ⟨_, rfl⟩
  rw [← hw10] at hR
  replace hf := hf w10 hw10
  exact hQ _ _ _ _ _ _ _ _ _ hX (by have := hr.2.2.1; omega) (by have := hr.2.2.2; omega) hf hR dX8_init_42
/-! X9_init_29 -/
def fX9_init_29 (mc ms : Nat) (a0 : Nat) (w : zW) (k : zW → Prop) : Prop :=
  ¬ gI w 0 30 = 1 ∧ 1 ≤ mc ∧ 121 ≤ ms ∧ ∀ w1 : zW, w1 = nW w 30 →
  ∀ w2 : zW, w2 = sR w1 a0 0 30 →
  k w2
set_option maxHeartbeats 4000000 in
set_option maxRecDepth 100000 in
theorem mX9_init_29 {l : Launch} {D : va_G} {dA : Nat → ClassId} {ad : Nat → Nat} {al : Nat → Prop} {w : zW} {mc ms : Nat} {k : zW → Prop} {a0 : Nat} (ha0 : al a0 ∧ zsh a0 = 9) (hf : fX9_init_29 mc ms a0 w k) : zmetAV l yX9_init cX9_init 1 none 1 mc ms [.ref (ad a0)] D dA false ad al w k := by
  refine zmetCV_of (by decide) rfl (Nat.le_of_ble_eq_true rfl) ?_
  intro p e R s m below meth c Q H ls args locs cells slots X hr hQ hin hR hl
  have hx := X.1
  have hb := X.2.1
  have hml := X.2.2.1
  have hown := X.2.2.2.1
  have hts := X.2.2.2.2.1
  unfold fX9_init_29 at hf
  have hl : lv_has ls 1 [(0, .ref (ad a0))] := hl
  have hX : zExt ad al ad al := zExt.rf
  refine lv_aload_n hx hb dX9_init_0 rfl (lv_at hl 0 rfl) ?_
  refine z_objInit (rest := []) X (hr.none (by decide)) zq_103 zq_12 zq_13 hl (Nat.le_of_ble_eq_true rfl) dX9_init_1 ?_
  refine lv_aload_n hx hb dX9_init_4 rfl (lv_at hl 0 rfl) ?_
  refine lv_bipush (v := (121 : Int32)) hx hb dX9_init_5 (by decide) ?_
  have hw1_1 : al a0 := ha0.1
  have hv1_1 : al a0 := ha0.1
  obtain ⟨hg1, hc1, hs1, hf⟩ := hf
  refine z_newaI (N := 121) X (hr.new hc1 hs1) hR (j := 30) (fun h9 => absurd h9 (by decide)) hg1 zs_30 zl_30 (by decide) (by decide) (by decide) zq_64 dX9_init_7 (fun ad1 al1 H hE1 hj1 hR => ?_)
  obtain ⟨w1, hw1⟩ : ∃ z : zW, z = nW w 30 := ⟨_, rfl⟩
  rw [← hw1] at hR
  replace hf := hf w1 hw1
  have hX := hX.tr hE1
  have hr := hr.after hc1 hs1
  have ha0 : al1 a0 ∧ zsh a0 = 9 := ⟨(hE1 _ ha0.1).1, ha0.2⟩
  rw [← (hE1 a0 hw1_1).2] at hl
  rw [← (hE1 a0 hv1_1).2]
  refine z_putFR X hR hin ha0.1 ha0.2 (by decide) zff_X9_9 rfl rfl (by decide) hj1 (by rw [zdc_of ha0.2 rfl]; exact zs_30) dX9_init_9 (fun H locs hR => ?_)
  obtain ⟨w2, hw2⟩ : ∃ z : zW, z = sR w1 a0 0 30 := ⟨_, rfl⟩
  rw [← hw2] at hR
  replace hf := hf w2 hw2
  exact hQ _ _ _ _ _ _ _ _ _ hX (by have := hr.2.2.1; omega) (by have := hr.2.2.2; omega) hf hR dX9_init_12
/-! X4_init_31 -/
def fX4_init_31 (mc ms : Nat) (a0 : Nat) (w : zW) (k : zW → Prop) : Prop :=
  ∀ w1 : zW, w1 = sI w a0 0 (1 : Int32) →
  ¬ gI w1 0 32 = 1 ∧ 1 ≤ mc ∧ 8 ≤ ms ∧ ∀ w2 : zW, w2 = nW w1 32 →
  ∀ w3 : zW, w3 = sR w2 a0 5 32 →
  k w3
set_option maxHeartbeats 4000000 in
set_option maxRecDepth 100000 in
theorem mX4_init_31 {l : Launch} {D : va_G} {dA : Nat → ClassId} {ad : Nat → Nat} {al : Nat → Prop} {w : zW} {mc ms : Nat} {k : zW → Prop} {a0 : Nat} (ha0 : al a0 ∧ zsh a0 = 4) (hf : fX4_init_31 mc ms a0 w k) : zmetAV l yX4_init cX4_init 1 none 1 mc ms [.ref (ad a0)] D dA false ad al w k := by
  refine zmetCV_of (by decide) rfl (Nat.le_of_ble_eq_true rfl) ?_
  intro p e R s m below meth c Q H ls args locs cells slots X hr hQ hin hR hl
  have hx := X.1
  have hb := X.2.1
  have hml := X.2.2.1
  have hown := X.2.2.2.1
  have hts := X.2.2.2.2.1
  unfold fX4_init_31 at hf
  have hl : lv_has ls 1 [(0, .ref (ad a0))] := hl
  have hX : zExt ad al ad al := zExt.rf
  refine lv_aload_n hx hb dX4_init_0 rfl (lv_at hl 0 rfl) ?_
  refine z_objInit (rest := []) X (hr.none (by decide)) zq_107 zq_12 zq_13 hl (Nat.le_of_ble_eq_true rfl) dX4_init_1 ?_
  refine lv_aload_n hx hb dX4_init_4 rfl (lv_at hl 0 rfl) ?_
  refine lv_iconst (v := (1 : Int32)) hx hb dX4_init_5 (by decide) ?_
  refine z_putZ X hR ha0.1 ha0.2 (by decide) zfp_X4_9 rfl zb01_1 dX4_init_6 (fun H locs hR => ?_)
  obtain ⟨w1, hw1⟩ : ∃ z : zW, z = sI w a0 0 (1 : Int32) := ⟨_, rfl⟩
  rw [← hw1] at hR
  replace hf := hf w1 hw1
  refine lv_aload_n hx hb dX4_init_9 rfl (lv_at hl 0 rfl) ?_
  refine lv_bipush (v := (8 : Int32)) hx hb dX4_init_10 (by decide) ?_
  have hw2_1 : al a0 := ha0.1
  have hv2_1 : al a0 := ha0.1
  obtain ⟨hg2, hc2, hs2, hf⟩ := hf
  refine z_newaI (N := 8) X (hr.new hc2 hs2) hR (j := 32) (fun h9 => absurd h9 (by decide)) hg2 zs_32 zl_32 (by decide) (by decide) (by decide) zq_64 dX4_init_12 (fun ad2 al2 H hE2 hj2 hR => ?_)
  obtain ⟨w2, hw2⟩ : ∃ z : zW, z = nW w1 32 := ⟨_, rfl⟩
  rw [← hw2] at hR
  replace hf := hf w2 hw2
  have hX := hX.tr hE2
  have hr := hr.after hc2 hs2
  have ha0 : al2 a0 ∧ zsh a0 = 4 := ⟨(hE2 _ ha0.1).1, ha0.2⟩
  rw [← (hE2 a0 hw2_1).2] at hl
  rw [← (hE2 a0 hv2_1).2]
  refine z_putFR X hR hin ha0.1 ha0.2 (by decide) zff_X4_15 rfl rfl (by decide) hj2 (by rw [zdc_of ha0.2 rfl]; exact zs_32) dX4_init_14 (fun H locs hR => ?_)
  obtain ⟨w3, hw3⟩ : ∃ z : zW, z = sR w2 a0 5 32 := ⟨_, rfl⟩
  rw [← hw3] at hR
  replace hf := hf w3 hw3
  exact hQ _ _ _ _ _ _ _ _ _ hX (by have := hr.2.2.1; omega) (by have := hr.2.2.2; omega) hf hR dX4_init_17
/-! X0_init_40 -/
def fX0_init_40 (mc ms : Nat) (a0 : Nat) (w : zW) (k : zW → Prop) : Prop :=
  ¬ gI w 0 41 = 1 ∧ 1 ≤ mc ∧ 4 ≤ ms ∧ ∀ w1 : zW, w1 = nW w 41 →
  ∀ w2 : zW, w2 = sR w1 a0 1 41 →
  ¬ gI w2 0 42 = 1 ∧ 1 ≤ mc - 1 ∧ 4 ≤ ms - 4 ∧ ∀ w3 : zW, w3 = nW w2 42 →
  ∀ w4 : zW, w4 = sR w3 a0 2 42 →
  ¬ gI w4 0 43 = 1 ∧ 1 ≤ (mc - 1) - 1 ∧ 4 ≤ (ms - 4) - 4 ∧ ∀ w5 : zW, w5 = nW w4 43 →
  ∀ w6 : zW, w6 = sR w5 a0 3 43 →
  ¬ gI w6 0 44 = 1 ∧ 1 ≤ ((mc - 1) - 1) - 1 ∧ 4 ≤ ((ms - 4) - 4) - 4 ∧ ∀ w7 : zW, w7 = nW w6 44 →
  ∀ w8 : zW, w8 = sR w7 a0 4 44 →
  (∀ i, i ≤ 4 → ¬ gI w8 0 (45 + i) = 1) ∧ 1 + 4 ≤ (((mc - 1) - 1) - 1) - 1 ∧ 4 + 4 * 9 ≤ (((ms - 4) - 4) - 4) - 4 ∧ ∀ w9 : zW, w9 = nM w8 45 4 →
  ∀ w10 : zW, w10 = sR w9 a0 5 45 →
  ¬ gI w10 0 50 = 1 ∧ 1 ≤ ((((mc - 1) - 1) - 1) - 1) - (1 + 4) ∧ 8 ≤ ((((ms - 4) - 4) - 4) - 4) - (4 + 4 * 9) ∧ ∀ w11 : zW, w11 = nW w10 50 →
  ∀ w12 : zW, w12 = sR w11 a0 8 50 →
  (∀ i, i ≤ 8 → ¬ gI w12 0 (51 + i) = 1) ∧ 1 + 8 ≤ (((((mc - 1) - 1) - 1) - 1) - (1 + 4)) - 1 ∧ 8 + 8 * 60 ≤ (((((ms - 4) - 4) - 4) - 4) - (4 + 4 * 9)) - 8 ∧ ∀ w13 : zW, w13 = nM w12 51 8 →
  ∀ w14 : zW, w14 = sR w13 a0 9 51 →
  (∀ i, i ≤ 8 → ¬ gI w14 0 (60 + i) = 1) ∧ 1 + 8 ≤ ((((((mc - 1) - 1) - 1) - 1) - (1 + 4)) - 1) - (1 + 8) ∧ 8 + 8 * 4 ≤ ((((((ms - 4) - 4) - 4) - 4) - (4 + 4 * 9)) - 8) - (8 + 8 * 60) ∧ ∀ w15 : zW, w15 = nM w14 60 8 →
  ∀ w16 : zW, w16 = sR w15 a0 10 60 →
  ¬ gI w16 0 69 = 1 ∧ 1 ≤ (((((((mc - 1) - 1) - 1) - 1) - (1 + 4)) - 1) - (1 + 8)) - (1 + 8) ∧ 8 ≤ (((((((ms - 4) - 4) - 4) - 4) - (4 + 4 * 9)) - 8) - (8 + 8 * 60)) - (8 + 8 * 4) ∧ ∀ w17 : zW, w17 = nW w16 69 →
  ∀ w18 : zW, w18 = sR w17 a0 11 69 →
  ¬ gI w18 0 70 = 1 ∧ 1 ≤ ((((((((mc - 1) - 1) - 1) - 1) - (1 + 4)) - 1) - (1 + 8)) - (1 + 8)) - 1 ∧ 8 ≤ ((((((((ms - 4) - 4) - 4) - 4) - (4 + 4 * 9)) - 8) - (8 + 8 * 60)) - (8 + 8 * 4)) - 8 ∧ ∀ w19 : zW, w19 = nW w18 70 →
  ∀ w20 : zW, w20 = sR w19 a0 12 70 →
  ¬ gR w20 a0 11 = 0 ∧
  fJ7_fill_53178 (gR w20 a0 11) (-1 : Int32) w20 (fun w22 =>
  k w22)
set_option maxHeartbeats 4000000 in
set_option maxRecDepth 100000 in
theorem mX0_init_40 {l : Launch} {D : va_G} {dA : Nat → ClassId} {ad : Nat → Nat} {al : Nat → Prop} {w : zW} {mc ms : Nat} {k : zW → Prop} {a0 : Nat} (ha0 : al a0 ∧ zsh a0 = 0) (hf : fX0_init_40 mc ms a0 w k) : zmetAV l yX0_init cX0_init 1 none 1 mc ms [.ref (ad a0)] D dA false ad al w k := by
  refine zmetCV_of (by decide) rfl (Nat.le_of_ble_eq_true rfl) ?_
  intro p e R s m below meth c Q H ls args locs cells slots X hr hQ hin hR hl
  have hx := X.1
  have hb := X.2.1
  have hml := X.2.2.1
  have hown := X.2.2.2.1
  have hts := X.2.2.2.2.1
  unfold fX0_init_40 at hf
  have hl : lv_has ls 1 [(0, .ref (ad a0))] := hl
  have hX : zExt ad al ad al := zExt.rf
  refine lv_aload_n hx hb dX0_init_0 rfl (lv_at hl 0 rfl) ?_
  refine z_objInit (rest := []) X (hr.none (by decide)) zq_113 zq_12 zq_13 hl (Nat.le_of_ble_eq_true rfl) dX0_init_1 ?_
  refine lv_aload_n hx hb dX0_init_4 rfl (lv_at hl 0 rfl) ?_
  refine lv_iconst (v := (4 : Int32)) hx hb dX0_init_5 (by decide) ?_
  have hw1_1 : al a0 := ha0.1
  have hv1_1 : al a0 := ha0.1
  obtain ⟨hg1, hc1, hs1, hf⟩ := hf
  refine z_newaL (N := 4) X (hr.new hc1 hs1) hR (j := 41) (fun h9 => absurd h9 (by decide)) hg1 zs_41 zl_41 (by decide) (by decide) (by decide) zq_6 dX0_init_6 (fun ad1 al1 H hE1 hj1 hR => ?_)
  obtain ⟨w1, hw1⟩ : ∃ z : zW, z = nW w 41 := ⟨_, rfl⟩
  rw [← hw1] at hR
  replace hf := hf w1 hw1
  have hX := hX.tr hE1
  have hr := hr.after hc1 hs1
  have ha0 : al1 a0 ∧ zsh a0 = 0 := ⟨(hE1 _ ha0.1).1, ha0.2⟩
  rw [← (hE1 a0 hw1_1).2] at hl
  rw [← (hE1 a0 hv1_1).2]
  refine z_putFR X hR hin ha0.1 ha0.2 (by decide) zff_X0_9 rfl rfl (by decide) hj1 (by rw [zdc_of ha0.2 rfl]; exact zs_41) dX0_init_8 (fun H locs hR => ?_)
  obtain ⟨w2, hw2⟩ : ∃ z : zW, z = sR w1 a0 1 41 := ⟨_, rfl⟩
  rw [← hw2] at hR
  replace hf := hf w2 hw2
  refine lv_aload_n hx hb dX0_init_11 rfl (lv_at hl 0 rfl) ?_
  refine lv_iconst (v := (4 : Int32)) hx hb dX0_init_12 (by decide) ?_
  have hw3_1 : al1 a0 := ha0.1
  have hv3_1 : al1 a0 := ha0.1
  obtain ⟨hg3, hc3, hs3, hf⟩ := hf
  refine z_newaI (N := 4) X (hr.new hc3 hs3) hR (j := 42) (fun h9 => absurd h9 (by decide)) hg3 zs_42 zl_42 (by decide) (by decide) (by decide) zq_64 dX0_init_13 (fun ad3 al3 H hE3 hj3 hR => ?_)
  obtain ⟨w3, hw3⟩ : ∃ z : zW, z = nW w2 42 := ⟨_, rfl⟩
  rw [← hw3] at hR
  replace hf := hf w3 hw3
  have hX := hX.tr hE3
  have hr := hr.after hc3 hs3
  have ha0 : al3 a0 ∧ zsh a0 = 0 := ⟨(hE3 _ ha0.1).1, ha0.2⟩
  rw [← (hE3 a0 hw3_1).2] at hl
  rw [← (hE3 a0 hv3_1).2]
  refine z_putFR X hR hin ha0.1 ha0.2 (by decide) zff_X0_15 rfl rfl (by decide) hj3 (by rw [zdc_of ha0.2 rfl]; exact zs_42) dX0_init_15 (fun H locs hR => ?_)
  obtain ⟨w4, hw4⟩ : ∃ z : zW, z = sR w3 a0 2 42 := ⟨_, rfl⟩
  rw [← hw4] at hR
  replace hf := hf w4 hw4
  refine lv_aload_n hx hb dX0_init_18 rfl (lv_at hl 0 rfl) ?_
  refine lv_iconst (v := (4 : Int32)) hx hb dX0_init_19 (by decide) ?_
  have hw5_1 : al3 a0 := ha0.1
  have hv5_1 : al3 a0 := ha0.1
  obtain ⟨hg5, hc5, hs5, hf⟩ := hf
  refine z_newaI (N := 4) X (hr.new hc5 hs5) hR (j := 43) (fun h9 => absurd h9 (by decide)) hg5 zs_43 zl_43 (by decide) (by decide) (by decide) zq_64 dX0_init_20 (fun ad5 al5 H hE5 hj5 hR => ?_)
  obtain ⟨w5, hw5⟩ : ∃ z : zW, z = nW w4 43 := ⟨_, rfl⟩
  rw [← hw5] at hR
  replace hf := hf w5 hw5
  have hX := hX.tr hE5
  have hr := hr.after hc5 hs5
  have ha0 : al5 a0 ∧ zsh a0 = 0 := ⟨(hE5 _ ha0.1).1, ha0.2⟩
  rw [← (hE5 a0 hw5_1).2] at hl
  rw [← (hE5 a0 hv5_1).2]
  refine z_putFR X hR hin ha0.1 ha0.2 (by decide) zff_X0_19 rfl rfl (by decide) hj5 (by rw [zdc_of ha0.2 rfl]; exact zs_43) dX0_init_22 (fun H locs hR => ?_)
  obtain ⟨w6, hw6⟩ : ∃ z : zW, z = sR w5 a0 3 43 := ⟨_, rfl⟩
  rw [← hw6] at hR
  replace hf := hf w6 hw6
  refine lv_aload_n hx hb dX0_init_25 rfl (lv_at hl 0 rfl) ?_
  refine lv_iconst (v := (4 : Int32)) hx hb dX0_init_26 (by decide) ?_
  have hw7_1 : al5 a0 := ha0.1
  have hv7_1 : al5 a0 := ha0.1
  obtain ⟨hg7, hc7, hs7, hf⟩ := hf
  refine z_newaI (N := 4) X (hr.new hc7 hs7) hR (j := 44) (fun h9 => absurd h9 (by decide)) hg7 zs_44 zl_44 (by decide) (by decide) (by decide) zq_64 dX0_init_27 (fun ad7 al7 H hE7 hj7 hR => ?_)
  obtain ⟨w7, hw7⟩ : ∃ z : zW, z = nW w6 44 := ⟨_, rfl⟩
  rw [← hw7] at hR
  replace hf := hf w7 hw7
  have hX := hX.tr hE7
  have hr := hr.after hc7 hs7
  have ha0 : al7 a0 ∧ zsh a0 = 0 := ⟨(hE7 _ ha0.1).1, ha0.2⟩
  rw [← (hE7 a0 hw7_1).2] at hl
  rw [← (hE7 a0 hv7_1).2]
  refine z_putFR X hR hin ha0.1 ha0.2 (by decide) zff_X0_22 rfl rfl (by decide) hj7 (by rw [zdc_of ha0.2 rfl]; exact zs_44) dX0_init_29 (fun H locs hR => ?_)
  obtain ⟨w8, hw8⟩ : ∃ z : zW, z = sR w7 a0 4 44 := ⟨_, rfl⟩
  rw [← hw8] at hR
  replace hf := hf w8 hw8
  refine lv_aload_n hx hb dX0_init_32 rfl (lv_at hl 0 rfl) ?_
  refine lv_iconst (v := (4 : Int32)) hx hb dX0_init_33 (by decide) ?_
  refine lv_bipush (v := (9 : Int32)) hx hb dX0_init_34 (by decide) ?_
  have hw9_1 : al7 a0 := ha0.1
  have hv9_1 : al7 a0 := ha0.1
  obtain ⟨hg9, hc9, hs9, hf⟩ := hf
  refine z_mna (N := 4) (M := 9) X (hr.new hc9 hs9) hR (j := 45) (by decide) hg9 zs_45 zl_45 (by decide +kernel) (by decide) (by decide) (by decide) (by decide) (by decide) (by decide) zq_118 zq_64 dX0_init_36 (fun ad9 al9 H hE9 hj9 hR => ?_)
  obtain ⟨w9, hw9⟩ : ∃ z : zW, z = nM w8 45 4 := ⟨_, rfl⟩
  rw [← hw9] at hR
  replace hf := hf w9 hw9
  have hX := hX.tr hE9
  have hr := hr.after hc9 hs9
  have ha0 : al9 a0 ∧ zsh a0 = 0 := ⟨(hE9 _ ha0.1).1, ha0.2⟩
  rw [← (hE9 a0 hw9_1).2] at hl
  rw [← (hE9 a0 hv9_1).2]
  refine z_putFR X hR hin ha0.1 ha0.2 (by decide) zff_X0_27 rfl rfl (by decide) hj9 (by rw [zdc_of ha0.2 rfl]; exact zs_45) dX0_init_40 (fun H locs hR => ?_)
  obtain ⟨w10, hw10⟩ : ∃ z : zW, z = sR w9 a0 5 45 := ⟨_, rfl⟩
  rw [← hw10] at hR
  replace hf := hf w10 hw10
  refine lv_aload_n hx hb dX0_init_43 rfl (lv_at hl 0 rfl) ?_
  refine lv_bipush (v := (8 : Int32)) hx hb dX0_init_44 (by decide) ?_
  have hw11_1 : al9 a0 := ha0.1
  have hv11_1 : al9 a0 := ha0.1
  obtain ⟨hg11, hc11, hs11, hf⟩ := hf
  refine z_newaI (N := 8) X (hr.new hc11 hs11) hR (j := 50) (fun h9 => absurd h9 (by decide)) hg11 zs_50 zl_50 (by decide) (by decide) (by decide) zq_64 dX0_init_46 (fun ad11 al11 H hE11 hj11 hR => ?_)
  obtain ⟨w11, hw11⟩ : ∃ z : zW, z = nW w10 50 := ⟨_, rfl⟩
  rw [← hw11] at hR
  replace hf := hf w11 hw11
  have hX := hX.tr hE11
  have hr := hr.after hc11 hs11
  have ha0 : al11 a0 ∧ zsh a0 = 0 := ⟨(hE11 _ ha0.1).1, ha0.2⟩
  rw [← (hE11 a0 hw11_1).2] at hl
  rw [← (hE11 a0 hv11_1).2]
  refine z_putFR X hR hin ha0.1 ha0.2 (by decide) zff_X0_30 rfl rfl (by decide) hj11 (by rw [zdc_of ha0.2 rfl]; exact zs_50) dX0_init_48 (fun H locs hR => ?_)
  obtain ⟨w12, hw12⟩ : ∃ z : zW, z = sR w11 a0 8 50 := ⟨_, rfl⟩
  rw [← hw12] at hR
  replace hf := hf w12 hw12
  refine lv_aload_n hx hb dX0_init_51 rfl (lv_at hl 0 rfl) ?_
  refine lv_bipush (v := (8 : Int32)) hx hb dX0_init_52 (by decide) ?_
  refine lv_bipush (v := (60 : Int32)) hx hb dX0_init_54 (by decide) ?_
  have hw13_1 : al11 a0 := ha0.1
  have hv13_1 : al11 a0 := ha0.1
  obtain ⟨hg13, hc13, hs13, hf⟩ := hf
  refine z_mna (N := 8) (M := 60) X (hr.new hc13 hs13) hR (j := 51) (by decide) hg13 zs_51 zl_51 (by decide +kernel) (by decide) (by decide) (by decide) (by decide) (by decide) (by decide) zq_118 zq_64 dX0_init_56 (fun ad13 al13 H hE13 hj13 hR => ?_)
  obtain ⟨w13, hw13⟩ : ∃ z : zW, z = nM w12 51 8 := ⟨_, rfl⟩
  rw [← hw13] at hR
  replace hf := hf w13 hw13
  have hX := hX.tr hE13
  have hr := hr.after hc13 hs13
  have ha0 : al13 a0 ∧ zsh a0 = 0 := ⟨(hE13 _ ha0.1).1, ha0.2⟩
  rw [← (hE13 a0 hw13_1).2] at hl
  rw [← (hE13 a0 hv13_1).2]
  refine z_putFR X hR hin ha0.1 ha0.2 (by decide) zff_X0_33 rfl rfl (by decide) hj13 (by rw [zdc_of ha0.2 rfl]; exact zs_51) dX0_init_60 (fun H locs hR => ?_)
  obtain ⟨w14, hw14⟩ : ∃ z : zW, z = sR w13 a0 9 51 := ⟨_, rfl⟩
  rw [← hw14] at hR
  replace hf := hf w14 hw14
  refine lv_aload_n hx hb dX0_init_63 rfl (lv_at hl 0 rfl) ?_
  refine lv_bipush (v := (8 : Int32)) hx hb dX0_init_64 (by decide) ?_
  refine lv_iconst (v := (4 : Int32)) hx hb dX0_init_66 (by decide) ?_
  have hw15_1 : al13 a0 := ha0.1
  have hv15_1 : al13 a0 := ha0.1
  obtain ⟨hg15, hc15, hs15, hf⟩ := hf
  refine z_mna (N := 8) (M := 4) X (hr.new hc15 hs15) hR (j := 60) (by decide) hg15 zs_60 zl_60 (by decide +kernel) (by decide) (by decide) (by decide) (by decide) (by decide) (by decide) zq_118 zq_64 dX0_init_67 (fun ad15 al15 H hE15 hj15 hR => ?_)
  obtain ⟨w15, hw15⟩ : ∃ z : zW, z = nM w14 60 8 := ⟨_, rfl⟩
  rw [← hw15] at hR
  replace hf := hf w15 hw15
  have hX := hX.tr hE15
  have hr := hr.after hc15 hs15
  have ha0 : al15 a0 ∧ zsh a0 = 0 := ⟨(hE15 _ ha0.1).1, ha0.2⟩
  rw [← (hE15 a0 hw15_1).2] at hl
  rw [← (hE15 a0 hv15_1).2]
  refine z_putFR X hR hin ha0.1 ha0.2 (by decide) zff_X0_36 rfl rfl (by decide) hj15 (by rw [zdc_of ha0.2 rfl]; exact zs_60) dX0_init_71 (fun H locs hR => ?_)
  obtain ⟨w16, hw16⟩ : ∃ z : zW, z = sR w15 a0 10 60 := ⟨_, rfl⟩
  rw [← hw16] at hR
  replace hf := hf w16 hw16
  refine lv_aload_n hx hb dX0_init_74 rfl (lv_at hl 0 rfl) ?_
  refine lv_bipush (v := (8 : Int32)) hx hb dX0_init_75 (by decide) ?_
  have hw17_1 : al15 a0 := ha0.1
  have hv17_1 : al15 a0 := ha0.1
  obtain ⟨hg17, hc17, hs17, hf⟩ := hf
  refine z_newaI (N := 8) X (hr.new hc17 hs17) hR (j := 69) (fun h9 => absurd h9 (by decide)) hg17 zs_69 zl_69 (by decide) (by decide) (by decide) zq_64 dX0_init_77 (fun ad17 al17 H hE17 hj17 hR => ?_)
  obtain ⟨w17, hw17⟩ : ∃ z : zW, z = nW w16 69 := ⟨_, rfl⟩
  rw [← hw17] at hR
  replace hf := hf w17 hw17
  have hX := hX.tr hE17
  have hr := hr.after hc17 hs17
  have ha0 : al17 a0 ∧ zsh a0 = 0 := ⟨(hE17 _ ha0.1).1, ha0.2⟩
  rw [← (hE17 a0 hw17_1).2] at hl
  rw [← (hE17 a0 hv17_1).2]
  refine z_putFR X hR hin ha0.1 ha0.2 (by decide) zff_X0_39 rfl rfl (by decide) hj17 (by rw [zdc_of ha0.2 rfl]; exact zs_69) dX0_init_79 (fun H locs hR => ?_)
  obtain ⟨w18, hw18⟩ : ∃ z : zW, z = sR w17 a0 11 69 := ⟨_, rfl⟩
  rw [← hw18] at hR
  replace hf := hf w18 hw18
  refine lv_aload_n hx hb dX0_init_82 rfl (lv_at hl 0 rfl) ?_
  refine lv_bipush (v := (8 : Int32)) hx hb dX0_init_83 (by decide) ?_
  have hw19_1 : al17 a0 := ha0.1
  have hv19_1 : al17 a0 := ha0.1
  obtain ⟨hg19, hc19, hs19, hf⟩ := hf
  refine z_newaI (N := 8) X (hr.new hc19 hs19) hR (j := 70) (fun h9 => absurd h9 (by decide)) hg19 zs_70 zl_70 (by decide) (by decide) (by decide) zq_64 dX0_init_85 (fun ad19 al19 H hE19 hj19 hR => ?_)
  obtain ⟨w19, hw19⟩ : ∃ z : zW, z = nW w18 70 := ⟨_, rfl⟩
  rw [← hw19] at hR
  replace hf := hf w19 hw19
  have hX := hX.tr hE19
  have hr := hr.after hc19 hs19
  have ha0 : al19 a0 ∧ zsh a0 = 0 := ⟨(hE19 _ ha0.1).1, ha0.2⟩
  rw [← (hE19 a0 hw19_1).2] at hl
  rw [← (hE19 a0 hv19_1).2]
  refine z_putFR X hR hin ha0.1 ha0.2 (by decide) zff_X0_42 rfl rfl (by decide) hj19 (by rw [zdc_of ha0.2 rfl]; exact zs_70) dX0_init_87 (fun H locs hR => ?_)
  obtain ⟨w20, hw20⟩ : ∃ z : zW, z = sR w19 a0 12 70 := ⟨_, rfl⟩
  rw [← hw20] at hR
  replace hf := hf w20 hw20
  refine lv_aload_n hx hb dX0_init_90 rfl (lv_at hl 0 rfl) ?_
  refine z_getR X hR ha0.1 ha0.2 (by decide) zfd_X0_39 rfl dX0_init_91 ?_
  obtain ⟨hn210, hf⟩ := hf
  have hn21 : al19 (gR w20 a0 11) ∧ zsh (gR w20 a0 11) = 20 := zwt_ofM hR ha0.1 ha0.2 rfl hn210 (zdc_of ha0.2 rfl)
  rw [zrf_pos hn210]
  refine lv_iconst (v := (-1 : Int32)) hx hb dX0_init_94 (by decide) ?_
  refine z_callSV (fr1 := 0) (As := [.ref (ad19 (gR w20 a0 11)), .int (-1 : Int32)]) (rest := []) X (hr.none (by decide)) hR zy_J7_fill_53178 zq_125 (mqJ7_fill_53178 ⟨hn21.1, hn21.2⟩ hf) rfl hl (Nat.le_of_ble_eq_true rfl) dX0_init_95 rfl (fun w22 H locs hf hR => ?_)
  exact hQ _ _ _ _ _ _ _ _ _ hX (by have := hr.2.2.1; omega) (by have := hr.2.2.2; omega) hf hR dX0_init_98
/-! X0_init_80 -/
def fX0_init_80 (mc ms : Nat) (a0 : Nat) (w : zW) (k : zW → Prop) : Prop :=
  ¬ gI w 0 81 = 1 ∧ 1 ≤ mc ∧ 4 ≤ ms ∧ ∀ w1 : zW, w1 = nW w 81 →
  ∀ w2 : zW, w2 = sR w1 a0 1 81 →
  ¬ gI w2 0 82 = 1 ∧ 1 ≤ mc - 1 ∧ 4 ≤ ms - 4 ∧ ∀ w3 : zW, w3 = nW w2 82 →
  ∀ w4 : zW, w4 = sR w3 a0 2 82 →
  ¬ gI w4 0 83 = 1 ∧ 1 ≤ (mc - 1) - 1 ∧ 4 ≤ (ms - 4) - 4 ∧ ∀ w5 : zW, w5 = nW w4 83 →
  ∀ w6 : zW, w6 = sR w5 a0 3 83 →
  ¬ gI w6 0 84 = 1 ∧ 1 ≤ ((mc - 1) - 1) - 1 ∧ 4 ≤ ((ms - 4) - 4) - 4 ∧ ∀ w7 : zW, w7 = nW w6 84 →
  ∀ w8 : zW, w8 = sR w7 a0 4 84 →
  (∀ i, i ≤ 4 → ¬ gI w8 0 (85 + i) = 1) ∧ 1 + 4 ≤ (((mc - 1) - 1) - 1) - 1 ∧ 4 + 4 * 9 ≤ (((ms - 4) - 4) - 4) - 4 ∧ ∀ w9 : zW, w9 = nM w8 85 4 →
  ∀ w10 : zW, w10 = sR w9 a0 5 85 →
  ¬ gI w10 0 90 = 1 ∧ 1 ≤ ((((mc - 1) - 1) - 1) - 1) - (1 + 4) ∧ 8 ≤ ((((ms - 4) - 4) - 4) - 4) - (4 + 4 * 9) ∧ ∀ w11 : zW, w11 = nW w10 90 →
  ∀ w12 : zW, w12 = sR w11 a0 8 90 →
  (∀ i, i ≤ 8 → ¬ gI w12 0 (91 + i) = 1) ∧ 1 + 8 ≤ (((((mc - 1) - 1) - 1) - 1) - (1 + 4)) - 1 ∧ 8 + 8 * 60 ≤ (((((ms - 4) - 4) - 4) - 4) - (4 + 4 * 9)) - 8 ∧ ∀ w13 : zW, w13 = nM w12 91 8 →
  ∀ w14 : zW, w14 = sR w13 a0 9 91 →
  (∀ i, i ≤ 8 → ¬ gI w14 0 (100 + i) = 1) ∧ 1 + 8 ≤ ((((((mc - 1) - 1) - 1) - 1) - (1 + 4)) - 1) - (1 + 8) ∧ 8 + 8 * 4 ≤ ((((((ms - 4) - 4) - 4) - 4) - (4 + 4 * 9)) - 8) - (8 + 8 * 60) ∧ ∀ w15 : zW, w15 = nM w14 100 8 →
  ∀ w16 : zW, w16 = sR w15 a0 10 100 →
  ¬ gI w16 0 109 = 1 ∧ 1 ≤ (((((((mc - 1) - 1) - 1) - 1) - (1 + 4)) - 1) - (1 + 8)) - (1 + 8) ∧ 8 ≤ (((((((ms - 4) - 4) - 4) - 4) - (4 + 4 * 9)) - 8) - (8 + 8 * 60)) - (8 + 8 * 4) ∧ ∀ w17 : zW, w17 = nW w16 109 →
  ∀ w18 : zW, w18 = sR w17 a0 11 109 →
  ¬ gI w18 0 110 = 1 ∧ 1 ≤ ((((((((mc - 1) - 1) - 1) - 1) - (1 + 4)) - 1) - (1 + 8)) - (1 + 8)) - 1 ∧ 8 ≤ ((((((((ms - 4) - 4) - 4) - 4) - (4 + 4 * 9)) - 8) - (8 + 8 * 60)) - (8 + 8 * 4)) - 8 ∧ ∀ w19 : zW, w19 = nW w18 110 →
  ∀ w20 : zW, w20 = sR w19 a0 12 110 →
  ¬ gR w20 a0 11 = 0 ∧
  fJ7_fill_53178 (gR w20 a0 11) (-1 : Int32) w20 (fun w22 =>
  k w22)
set_option maxHeartbeats 4000000 in
set_option maxRecDepth 100000 in
theorem mX0_init_80 {l : Launch} {D : va_G} {dA : Nat → ClassId} {ad : Nat → Nat} {al : Nat → Prop} {w : zW} {mc ms : Nat} {k : zW → Prop} {a0 : Nat} (ha0 : al a0 ∧ zsh a0 = 0) (hf : fX0_init_80 mc ms a0 w k) : zmetAV l yX0_init cX0_init 1 none 1 mc ms [.ref (ad a0)] D dA false ad al w k := by
  refine zmetCV_of (by decide) rfl (Nat.le_of_ble_eq_true rfl) ?_
  intro p e R s m below meth c Q H ls args locs cells slots X hr hQ hin hR hl
  have hx := X.1
  have hb := X.2.1
  have hml := X.2.2.1
  have hown := X.2.2.2.1
  have hts := X.2.2.2.2.1
  unfold fX0_init_80 at hf
  have hl : lv_has ls 1 [(0, .ref (ad a0))] := hl
  have hX : zExt ad al ad al := zExt.rf
  refine lv_aload_n hx hb dX0_init_0 rfl (lv_at hl 0 rfl) ?_
  refine z_objInit (rest := []) X (hr.none (by decide)) zq_113 zq_12 zq_13 hl (Nat.le_of_ble_eq_true rfl) dX0_init_1 ?_
  refine lv_aload_n hx hb dX0_init_4 rfl (lv_at hl 0 rfl) ?_
  refine lv_iconst (v := (4 : Int32)) hx hb dX0_init_5 (by decide) ?_
  have hw1_1 : al a0 := ha0.1
  have hv1_1 : al a0 := ha0.1
  obtain ⟨hg1, hc1, hs1, hf⟩ := hf
  refine z_newaL (N := 4) X (hr.new hc1 hs1) hR (j := 81) (fun h9 => absurd h9 (by decide)) hg1 zs_81 zl_81 (by decide) (by decide) (by decide) zq_6 dX0_init_6 (fun ad1 al1 H hE1 hj1 hR => ?_)
  obtain ⟨w1, hw1⟩ : ∃ z : zW, z = nW w 81 := ⟨_, rfl⟩
  rw [← hw1] at hR
  replace hf := hf w1 hw1
  have hX := hX.tr hE1
  have hr := hr.after hc1 hs1
  have ha0 : al1 a0 ∧ zsh a0 = 0 := ⟨(hE1 _ ha0.1).1, ha0.2⟩
  rw [← (hE1 a0 hw1_1).2] at hl
  rw [← (hE1 a0 hv1_1).2]
  refine z_putFR X hR hin ha0.1 ha0.2 (by decide) zff_X0_9 rfl rfl (by decide) hj1 (by rw [zdc_of ha0.2 rfl]; exact zs_81) dX0_init_8 (fun H locs hR => ?_)
  obtain ⟨w2, hw2⟩ : ∃ z : zW, z = sR w1 a0 1 81 := ⟨_, rfl⟩
  rw [← hw2] at hR
  replace hf := hf w2 hw2
  refine lv_aload_n hx hb dX0_init_11 rfl (lv_at hl 0 rfl) ?_
  refine lv_iconst (v := (4 : Int32)) hx hb dX0_init_12 (by decide) ?_
  have hw3_1 : al1 a0 := ha0.1
  have hv3_1 : al1 a0 := ha0.1
  obtain ⟨hg3, hc3, hs3, hf⟩ := hf
  refine z_newaI (N := 4) X (hr.new hc3 hs3) hR (j := 82) (fun h9 => absurd h9 (by decide)) hg3 zs_82 zl_82 (by decide) (by decide) (by decide) zq_64 dX0_init_13 (fun ad3 al3 H hE3 hj3 hR => ?_)
  obtain ⟨w3, hw3⟩ : ∃ z : zW, z = nW w2 82 := ⟨_, rfl⟩
  rw [← hw3] at hR
  replace hf := hf w3 hw3
  have hX := hX.tr hE3
  have hr := hr.after hc3 hs3
  have ha0 : al3 a0 ∧ zsh a0 = 0 := ⟨(hE3 _ ha0.1).1, ha0.2⟩
  rw [← (hE3 a0 hw3_1).2] at hl
  rw [← (hE3 a0 hv3_1).2]
  refine z_putFR X hR hin ha0.1 ha0.2 (by decide) zff_X0_15 rfl rfl (by decide) hj3 (by rw [zdc_of ha0.2 rfl]; exact zs_82) dX0_init_15 (fun H locs hR => ?_)
  obtain ⟨w4, hw4⟩ : ∃ z : zW, z = sR w3 a0 2 82 := ⟨_, rfl⟩
  rw [← hw4] at hR
  replace hf := hf w4 hw4
  refine lv_aload_n hx hb dX0_init_18 rfl (lv_at hl 0 rfl) ?_
  refine lv_iconst (v := (4 : Int32)) hx hb dX0_init_19 (by decide) ?_
  have hw5_1 : al3 a0 := ha0.1
  have hv5_1 : al3 a0 := ha0.1
  obtain ⟨hg5, hc5, hs5, hf⟩ := hf
  refine z_newaI (N := 4) X (hr.new hc5 hs5) hR (j := 83) (fun h9 => absurd h9 (by decide)) hg5 zs_83 zl_83 (by decide) (by decide) (by decide) zq_64 dX0_init_20 (fun ad5 al5 H hE5 hj5 hR => ?_)
  obtain ⟨w5, hw5⟩ : ∃ z : zW, z = nW w4 83 := ⟨_, rfl⟩
  rw [← hw5] at hR
  replace hf := hf w5 hw5
  have hX := hX.tr hE5
  have hr := hr.after hc5 hs5
  have ha0 : al5 a0 ∧ zsh a0 = 0 := ⟨(hE5 _ ha0.1).1, ha0.2⟩
  rw [← (hE5 a0 hw5_1).2] at hl
  rw [← (hE5 a0 hv5_1).2]
  refine z_putFR X hR hin ha0.1 ha0.2 (by decide) zff_X0_19 rfl rfl (by decide) hj5 (by rw [zdc_of ha0.2 rfl]; exact zs_83) dX0_init_22 (fun H locs hR => ?_)
  obtain ⟨w6, hw6⟩ : ∃ z : zW, z = sR w5 a0 3 83 := ⟨_, rfl⟩
  rw [← hw6] at hR
  replace hf := hf w6 hw6
  refine lv_aload_n hx hb dX0_init_25 rfl (lv_at hl 0 rfl) ?_
  refine lv_iconst (v := (4 : Int32)) hx hb dX0_init_26 (by decide) ?_
  have hw7_1 : al5 a0 := ha0.1
  have hv7_1 : al5 a0 := ha0.1
  obtain ⟨hg7, hc7, hs7, hf⟩ := hf
  refine z_newaI (N := 4) X (hr.new hc7 hs7) hR (j := 84) (fun h9 => absurd h9 (by decide)) hg7 zs_84 zl_84 (by decide) (by decide) (by decide) zq_64 dX0_init_27 (fun ad7 al7 H hE7 hj7 hR => ?_)
  obtain ⟨w7, hw7⟩ : ∃ z : zW, z = nW w6 84 := ⟨_, rfl⟩
  rw [← hw7] at hR
  replace hf := hf w7 hw7
  have hX := hX.tr hE7
  have hr := hr.after hc7 hs7
  have ha0 : al7 a0 ∧ zsh a0 = 0 := ⟨(hE7 _ ha0.1).1, ha0.2⟩
  rw [← (hE7 a0 hw7_1).2] at hl
  rw [← (hE7 a0 hv7_1).2]
  refine z_putFR X hR hin ha0.1 ha0.2 (by decide) zff_X0_22 rfl rfl (by decide) hj7 (by rw [zdc_of ha0.2 rfl]; exact zs_84) dX0_init_29 (fun H locs hR => ?_)
  obtain ⟨w8, hw8⟩ : ∃ z : zW, z = sR w7 a0 4 84 := ⟨_, rfl⟩
  rw [← hw8] at hR
  replace hf := hf w8 hw8
  refine lv_aload_n hx hb dX0_init_32 rfl (lv_at hl 0 rfl) ?_
  refine lv_iconst (v := (4 : Int32)) hx hb dX0_init_33 (by decide) ?_
  refine lv_bipush (v := (9 : Int32)) hx hb dX0_init_34 (by decide) ?_
  have hw9_1 : al7 a0 := ha0.1
  have hv9_1 : al7 a0 := ha0.1
  obtain ⟨hg9, hc9, hs9, hf⟩ := hf
  refine z_mna (N := 4) (M := 9) X (hr.new hc9 hs9) hR (j := 85) (by decide) hg9 zs_85 zl_85 (by decide +kernel) (by decide) (by decide) (by decide) (by decide) (by decide) (by decide) zq_118 zq_64 dX0_init_36 (fun ad9 al9 H hE9 hj9 hR => ?_)
  obtain ⟨w9, hw9⟩ : ∃ z : zW, z = nM w8 85 4 := ⟨_, rfl⟩
  rw [← hw9] at hR
  replace hf := hf w9 hw9
  have hX := hX.tr hE9
  have hr := hr.after hc9 hs9
  have ha0 : al9 a0 ∧ zsh a0 = 0 := ⟨(hE9 _ ha0.1).1, ha0.2⟩
  rw [← (hE9 a0 hw9_1).2] at hl
  rw [← (hE9 a0 hv9_1).2]
  refine z_putFR X hR hin ha0.1 ha0.2 (by decide) zff_X0_27 rfl rfl (by decide) hj9 (by rw [zdc_of ha0.2 rfl]; exact zs_85) dX0_init_40 (fun H locs hR => ?_)
  obtain ⟨w10, hw10⟩ : ∃ z : zW, z = sR w9 a0 5 85 := ⟨_, rfl⟩
  rw [← hw10] at hR
  replace hf := hf w10 hw10
  refine lv_aload_n hx hb dX0_init_43 rfl (lv_at hl 0 rfl) ?_
  refine lv_bipush (v := (8 : Int32)) hx hb dX0_init_44 (by decide) ?_
  have hw11_1 : al9 a0 := ha0.1
  have hv11_1 : al9 a0 := ha0.1
  obtain ⟨hg11, hc11, hs11, hf⟩ := hf
  refine z_newaI (N := 8) X (hr.new hc11 hs11) hR (j := 90) (fun h9 => absurd h9 (by decide)) hg11 zs_90 zl_90 (by decide) (by decide) (by decide) zq_64 dX0_init_46 (fun ad11 al11 H hE11 hj11 hR => ?_)
  obtain ⟨w11, hw11⟩ : ∃ z : zW, z = nW w10 90 := ⟨_, rfl⟩
  rw [← hw11] at hR
  replace hf := hf w11 hw11
  have hX := hX.tr hE11
  have hr := hr.after hc11 hs11
  have ha0 : al11 a0 ∧ zsh a0 = 0 := ⟨(hE11 _ ha0.1).1, ha0.2⟩
  rw [← (hE11 a0 hw11_1).2] at hl
  rw [← (hE11 a0 hv11_1).2]
  refine z_putFR X hR hin ha0.1 ha0.2 (by decide) zff_X0_30 rfl rfl (by decide) hj11 (by rw [zdc_of ha0.2 rfl]; exact zs_90) dX0_init_48 (fun H locs hR => ?_)
  obtain ⟨w12, hw12⟩ : ∃ z : zW, z = sR w11 a0 8 90 := ⟨_, rfl⟩
  rw [← hw12] at hR
  replace hf := hf w12 hw12
  refine lv_aload_n hx hb dX0_init_51 rfl (lv_at hl 0 rfl) ?_
  refine lv_bipush (v := (8 : Int32)) hx hb dX0_init_52 (by decide) ?_
  refine lv_bipush (v := (60 : Int32)) hx hb dX0_init_54 (by decide) ?_
  have hw13_1 : al11 a0 := ha0.1
  have hv13_1 : al11 a0 := ha0.1
  obtain ⟨hg13, hc13, hs13, hf⟩ := hf
  refine z_mna (N := 8) (M := 60) X (hr.new hc13 hs13) hR (j := 91) (by decide) hg13 zs_91 zl_91 (by decide +kernel) (by decide) (by decide) (by decide) (by decide) (by decide) (by decide) zq_118 zq_64 dX0_init_56 (fun ad13 al13 H hE13 hj13 hR => ?_)
  obtain ⟨w13, hw13⟩ : ∃ z : zW, z = nM w12 91 8 := ⟨_, rfl⟩
  rw [← hw13] at hR
  replace hf := hf w13 hw13
  have hX := hX.tr hE13
  have hr := hr.after hc13 hs13
  have ha0 : al13 a0 ∧ zsh a0 = 0 := ⟨(hE13 _ ha0.1).1, ha0.2⟩
  rw [← (hE13 a0 hw13_1).2] at hl
  rw [← (hE13 a0 hv13_1).2]
  refine z_putFR X hR hin ha0.1 ha0.2 (by decide) zff_X0_33 rfl rfl (by decide) hj13 (by rw [zdc_of ha0.2 rfl]; exact zs_91) dX0_init_60 (fun H locs hR => ?_)
  obtain ⟨w14, hw14⟩ : ∃ z : zW, z = sR w13 a0 9 91 := ⟨_, rfl⟩
  rw [← hw14] at hR
  replace hf := hf w14 hw14
  refine lv_aload_n hx hb dX0_init_63 rfl (lv_at hl 0 rfl) ?_
  refine lv_bipush (v := (8 : Int32)) hx hb dX0_init_64 (by decide) ?_
  refine lv_iconst (v := (4 : Int32)) hx hb dX0_init_66 (by decide) ?_
  have hw15_1 : al13 a0 := ha0.1
  have hv15_1 : al13 a0 := ha0.1
  obtain ⟨hg15, hc15, hs15, hf⟩ := hf
  refine z_mna (N := 8) (M := 4) X (hr.new hc15 hs15) hR (j := 100) (by decide) hg15 zs_100 zl_100 (by decide +kernel) (by decide) (by decide) (by decide) (by decide) (by decide) (by decide) zq_118 zq_64 dX0_init_67 (fun ad15 al15 H hE15 hj15 hR => ?_)
  obtain ⟨w15, hw15⟩ : ∃ z : zW, z = nM w14 100 8 := ⟨_, rfl⟩
  rw [← hw15] at hR
  replace hf := hf w15 hw15
  have hX := hX.tr hE15
  have hr := hr.after hc15 hs15
  have ha0 : al15 a0 ∧ zsh a0 = 0 := ⟨(hE15 _ ha0.1).1, ha0.2⟩
  rw [← (hE15 a0 hw15_1).2] at hl
  rw [← (hE15 a0 hv15_1).2]
  refine z_putFR X hR hin ha0.1 ha0.2 (by decide) zff_X0_36 rfl rfl (by decide) hj15 (by rw [zdc_of ha0.2 rfl]; exact zs_100) dX0_init_71 (fun H locs hR => ?_)
  obtain ⟨w16, hw16⟩ : ∃ z : zW, z = sR w15 a0 10 100 := ⟨_, rfl⟩
  rw [← hw16] at hR
  replace hf := hf w16 hw16
  refine lv_aload_n hx hb dX0_init_74 rfl (lv_at hl 0 rfl) ?_
  refine lv_bipush (v := (8 : Int32)) hx hb dX0_init_75 (by decide) ?_
  have hw17_1 : al15 a0 := ha0.1
  have hv17_1 : al15 a0 := ha0.1
  obtain ⟨hg17, hc17, hs17, hf⟩ := hf
  refine z_newaI (N := 8) X (hr.new hc17 hs17) hR (j := 109) (fun h9 => absurd h9 (by decide)) hg17 zs_109 zl_109 (by decide) (by decide) (by decide) zq_64 dX0_init_77 (fun ad17 al17 H hE17 hj17 hR => ?_)
  obtain ⟨w17, hw17⟩ : ∃ z : zW, z = nW w16 109 := ⟨_, rfl⟩
  rw [← hw17] at hR
  replace hf := hf w17 hw17
  have hX := hX.tr hE17
  have hr := hr.after hc17 hs17
  have ha0 : al17 a0 ∧ zsh a0 = 0 := ⟨(hE17 _ ha0.1).1, ha0.2⟩
  rw [← (hE17 a0 hw17_1).2] at hl
  rw [← (hE17 a0 hv17_1).2]
  refine z_putFR X hR hin ha0.1 ha0.2 (by decide) zff_X0_39 rfl rfl (by decide) hj17 (by rw [zdc_of ha0.2 rfl]; exact zs_109) dX0_init_79 (fun H locs hR => ?_)
  obtain ⟨w18, hw18⟩ : ∃ z : zW, z = sR w17 a0 11 109 := ⟨_, rfl⟩
  rw [← hw18] at hR
  replace hf := hf w18 hw18
  refine lv_aload_n hx hb dX0_init_82 rfl (lv_at hl 0 rfl) ?_
  refine lv_bipush (v := (8 : Int32)) hx hb dX0_init_83 (by decide) ?_
  have hw19_1 : al17 a0 := ha0.1
  have hv19_1 : al17 a0 := ha0.1
  obtain ⟨hg19, hc19, hs19, hf⟩ := hf
  refine z_newaI (N := 8) X (hr.new hc19 hs19) hR (j := 110) (fun h9 => absurd h9 (by decide)) hg19 zs_110 zl_110 (by decide) (by decide) (by decide) zq_64 dX0_init_85 (fun ad19 al19 H hE19 hj19 hR => ?_)
  obtain ⟨w19, hw19⟩ : ∃ z : zW, z = nW w18 110 := ⟨_, rfl⟩
  rw [← hw19] at hR
  replace hf := hf w19 hw19
  have hX := hX.tr hE19
  have hr := hr.after hc19 hs19
  have ha0 : al19 a0 ∧ zsh a0 = 0 := ⟨(hE19 _ ha0.1).1, ha0.2⟩
  rw [← (hE19 a0 hw19_1).2] at hl
  rw [← (hE19 a0 hv19_1).2]
  refine z_putFR X hR hin ha0.1 ha0.2 (by decide) zff_X0_42 rfl rfl (by decide) hj19 (by rw [zdc_of ha0.2 rfl]; exact zs_110) dX0_init_87 (fun H locs hR => ?_)
  obtain ⟨w20, hw20⟩ : ∃ z : zW, z = sR w19 a0 12 110 := ⟨_, rfl⟩
  rw [← hw20] at hR
  replace hf := hf w20 hw20
  refine lv_aload_n hx hb dX0_init_90 rfl (lv_at hl 0 rfl) ?_
  refine z_getR X hR ha0.1 ha0.2 (by decide) zfd_X0_39 rfl dX0_init_91 ?_
  obtain ⟨hn210, hf⟩ := hf
  have hn21 : al19 (gR w20 a0 11) ∧ zsh (gR w20 a0 11) = 20 := zwt_ofM hR ha0.1 ha0.2 rfl hn210 (zdc_of ha0.2 rfl)
  rw [zrf_pos hn210]
  refine lv_iconst (v := (-1 : Int32)) hx hb dX0_init_94 (by decide) ?_
  refine z_callSV (fr1 := 0) (As := [.ref (ad19 (gR w20 a0 11)), .int (-1 : Int32)]) (rest := []) X (hr.none (by decide)) hR zy_J7_fill_53178 zq_125 (mqJ7_fill_53178 ⟨hn21.1, hn21.2⟩ hf) rfl hl (Nat.le_of_ble_eq_true rfl) dX0_init_95 rfl (fun w22 H locs hf hR => ?_)
  exact hQ _ _ _ _ _ _ _ _ _ hX (by have := hr.2.2.1; omega) (by have := hr.2.2.2; omega) hf hR dX0_init_98
/-! X5_init_120 -/
def fX5_init_120 (mc ms : Nat) (a0 : Nat) (w : zW) (k : zW → Prop) : Prop :=
  ∀ w1 : zW, w1 = sI w a0 1 (1 : Int32) →
  ¬ gI w1 0 121 = 1 ∧ 1 ≤ mc ∧ 40 ≤ ms ∧ ∀ w2 : zW, w2 = nW w1 121 →
  ∀ w3 : zW, w3 = sR w2 a0 5 121 →
  ¬ gI w3 0 122 = 1 ∧ 1 ≤ mc - 1 ∧ 40 ≤ ms - 40 ∧ ∀ w4 : zW, w4 = nW w3 122 →
  ∀ w5 : zW, w5 = sR w4 a0 6 122 →
  ¬ gI w5 0 123 = 1 ∧ 1 ≤ (mc - 1) - 1 ∧ 40 ≤ (ms - 40) - 40 ∧ ∀ w6 : zW, w6 = nW w5 123 →
  ∀ w7 : zW, w7 = sR w6 a0 7 123 →
  ¬ gI w7 0 124 = 1 ∧ 1 ≤ ((mc - 1) - 1) - 1 ∧ 1 ≤ ((ms - 40) - 40) - 40 ∧ ∀ w8 : zW, w8 = nW w7 124 →
  ∃ c9 s9, c9 ≤ (((mc - 1) - 1) - 1) - 1 ∧ s9 ≤ (((ms - 40) - 40) - 40) - 1 ∧ fX3_init_124 c9 s9 124 w8 (fun w9 =>
  ∀ w10 : zW, w10 = sR w9 a0 8 124 →
  k w10)
set_option maxHeartbeats 4000000 in
set_option maxRecDepth 100000 in
theorem mX5_init_120 {l : Launch} {D : va_G} {dA : Nat → ClassId} {ad : Nat → Nat} {al : Nat → Prop} {w : zW} {mc ms : Nat} {k : zW → Prop} {a0 : Nat} (ha0 : al a0 ∧ zsh a0 = 5) (hf : fX5_init_120 mc ms a0 w k) : zmetAV l yX5_init cX5_init 1 none 2 mc ms [.ref (ad a0)] D dA false ad al w k := by
  refine zmetCV_of (by decide) rfl (Nat.le_of_ble_eq_true rfl) ?_
  intro p e R s m below meth c Q H ls args locs cells slots X hr hQ hin hR hl
  have hx := X.1
  have hb := X.2.1
  have hml := X.2.2.1
  have hown := X.2.2.2.1
  have hts := X.2.2.2.2.1
  unfold fX5_init_120 at hf
  have hl : lv_has ls 1 [(0, .ref (ad a0))] := hl
  have hX : zExt ad al ad al := zExt.rf
  refine lv_aload_n hx hb dX5_init_0 rfl (lv_at hl 0 rfl) ?_
  refine z_objInit (rest := []) X (hr.none (by decide)) zq_128 zq_12 zq_13 hl (Nat.le_of_ble_eq_true rfl) dX5_init_1 ?_
  refine lv_aload_n hx hb dX5_init_4 rfl (lv_at hl 0 rfl) ?_
  refine lv_iconst (v := (1 : Int32)) hx hb dX5_init_5 (by decide) ?_
  refine z_putZ X hR ha0.1 ha0.2 (by decide) zfp_X5_9 rfl zb01_1 dX5_init_6 (fun H locs hR => ?_)
  obtain ⟨w1, hw1⟩ : ∃ z : zW, z = sI w a0 1 (1 : Int32) := ⟨_, rfl⟩
  rw [← hw1] at hR
  replace hf := hf w1 hw1
  refine lv_aload_n hx hb dX5_init_9 rfl (lv_at hl 0 rfl) ?_
  refine lv_bipush (v := (40 : Int32)) hx hb dX5_init_10 (by decide) ?_
  have hw2_1 : al a0 := ha0.1
  have hv2_1 : al a0 := ha0.1
  obtain ⟨hg2, hc2, hs2, hf⟩ := hf
  refine z_newaI (N := 40) X (hr.new hc2 hs2) hR (j := 121) (fun h9 => absurd h9 (by decide)) hg2 zs_121 zl_121 (by decide) (by decide) (by decide) zq_64 dX5_init_12 (fun ad2 al2 H hE2 hj2 hR => ?_)
  obtain ⟨w2, hw2⟩ : ∃ z : zW, z = nW w1 121 := ⟨_, rfl⟩
  rw [← hw2] at hR
  replace hf := hf w2 hw2
  have hX := hX.tr hE2
  have hr := hr.after hc2 hs2
  have ha0 : al2 a0 ∧ zsh a0 = 5 := ⟨(hE2 _ ha0.1).1, ha0.2⟩
  rw [← (hE2 a0 hw2_1).2] at hl
  rw [← (hE2 a0 hv2_1).2]
  refine z_putFR X hR hin ha0.1 ha0.2 (by decide) zff_X5_15 rfl rfl (by decide) hj2 (by rw [zdc_of ha0.2 rfl]; exact zs_121) dX5_init_14 (fun H locs hR => ?_)
  obtain ⟨w3, hw3⟩ : ∃ z : zW, z = sR w2 a0 5 121 := ⟨_, rfl⟩
  rw [← hw3] at hR
  replace hf := hf w3 hw3
  refine lv_aload_n hx hb dX5_init_17 rfl (lv_at hl 0 rfl) ?_
  refine lv_bipush (v := (40 : Int32)) hx hb dX5_init_18 (by decide) ?_
  have hw4_1 : al2 a0 := ha0.1
  have hv4_1 : al2 a0 := ha0.1
  obtain ⟨hg4, hc4, hs4, hf⟩ := hf
  refine z_newaI (N := 40) X (hr.new hc4 hs4) hR (j := 122) (fun h9 => absurd h9 (by decide)) hg4 zs_122 zl_122 (by decide) (by decide) (by decide) zq_64 dX5_init_20 (fun ad4 al4 H hE4 hj4 hR => ?_)
  obtain ⟨w4, hw4⟩ : ∃ z : zW, z = nW w3 122 := ⟨_, rfl⟩
  rw [← hw4] at hR
  replace hf := hf w4 hw4
  have hX := hX.tr hE4
  have hr := hr.after hc4 hs4
  have ha0 : al4 a0 ∧ zsh a0 = 5 := ⟨(hE4 _ ha0.1).1, ha0.2⟩
  rw [← (hE4 a0 hw4_1).2] at hl
  rw [← (hE4 a0 hv4_1).2]
  refine z_putFR X hR hin ha0.1 ha0.2 (by decide) zff_X5_19 rfl rfl (by decide) hj4 (by rw [zdc_of ha0.2 rfl]; exact zs_122) dX5_init_22 (fun H locs hR => ?_)
  obtain ⟨w5, hw5⟩ : ∃ z : zW, z = sR w4 a0 6 122 := ⟨_, rfl⟩
  rw [← hw5] at hR
  replace hf := hf w5 hw5
  refine lv_aload_n hx hb dX5_init_25 rfl (lv_at hl 0 rfl) ?_
  refine lv_bipush (v := (40 : Int32)) hx hb dX5_init_26 (by decide) ?_
  have hw6_1 : al4 a0 := ha0.1
  have hv6_1 : al4 a0 := ha0.1
  obtain ⟨hg6, hc6, hs6, hf⟩ := hf
  refine z_newaI (N := 40) X (hr.new hc6 hs6) hR (j := 123) (fun h9 => absurd h9 (by decide)) hg6 zs_123 zl_123 (by decide) (by decide) (by decide) zq_64 dX5_init_28 (fun ad6 al6 H hE6 hj6 hR => ?_)
  obtain ⟨w6, hw6⟩ : ∃ z : zW, z = nW w5 123 := ⟨_, rfl⟩
  rw [← hw6] at hR
  replace hf := hf w6 hw6
  have hX := hX.tr hE6
  have hr := hr.after hc6 hs6
  have ha0 : al6 a0 ∧ zsh a0 = 5 := ⟨(hE6 _ ha0.1).1, ha0.2⟩
  rw [← (hE6 a0 hw6_1).2] at hl
  rw [← (hE6 a0 hv6_1).2]
  refine z_putFR X hR hin ha0.1 ha0.2 (by decide) zff_X5_22 rfl rfl (by decide) hj6 (by rw [zdc_of ha0.2 rfl]; exact zs_123) dX5_init_30 (fun H locs hR => ?_)
  obtain ⟨w7, hw7⟩ : ∃ z : zW, z = sR w6 a0 7 123 := ⟨_, rfl⟩
  rw [← hw7] at hR
  replace hf := hf w7 hw7
  refine lv_aload_n hx hb dX5_init_33 rfl (lv_at hl 0 rfl) ?_
  have hw8_1 : al6 a0 := ha0.1
  have hv8_1 : al6 a0 := ha0.1
  obtain ⟨hg8, hc8, hs8, hf⟩ := hf
  refine z_newo (N := 1) X (hr.new hc8 hs8) hR (j := 124) (fun h9 => absurd h9 (by decide)) hg8 zs_124 (by decide) (q := (RX3, TX3, 1)) rfl rfl tyX3 tyX3_ok (by decide +kernel) zq_133 zq_23 zq_24 dX5_init_34 (fun ad8 al8 H hE8 hj8 hR => ?_)
  obtain ⟨w8, hw8⟩ : ∃ z : zW, z = nW w7 124 := ⟨_, rfl⟩
  rw [← hw8] at hR
  replace hf := hf w8 hw8
  have hX := hX.tr hE8
  have hr := hr.after hc8 hs8
  have ha0 : al8 a0 ∧ zsh a0 = 5 := ⟨(hE8 _ ha0.1).1, ha0.2⟩
  rw [← (hE8 a0 hw8_1).2] at hl
  rw [← (hE8 a0 hv8_1).2]
  have hn8 : al8 124 ∧ zsh 124 = 3 := ⟨hj8, zs_124⟩
  refine lv_dup hx hb dX5_init_37 rfl ?_
  have hw9_1 : al8 a0 := ha0.1
  have hv9_1 : al8 124 := hn8.1
  have hv9_2 : al8 a0 := ha0.1
  obtain ⟨c9, s9, hc9, hs9, hf⟩ := hf
  refine z_callAIV (fr1 := 1) (mc := c9) (ms := s9) (b := 124) (As := []) (rest := [.ref (ad8 124), .ref (ad8 a0)]) X (hr.call hc9 hs9 (by decide)) hR zq_135 rfl zq_80 zq_79 zq_24 ⟨by decide, by decide⟩ (np := 0) (by decide +kernel) (by decide) (mX3_init_124 ⟨hn8.1, hn8.2⟩ hf) rfl hl (Nat.le_of_ble_eq_true rfl) dX5_init_38 rfl (fun w9 H locs ad9 al9 hf hE9 hR => ?_)
  have hX := hX.tr hE9
  have hr := hr.after hc9 hs9
  have ha0 : al9 a0 ∧ zsh a0 = 5 := ⟨(hE9 _ ha0.1).1, ha0.2⟩
  have hn8 := And.intro (hE9 _ hn8.1).1 hn8.2
  rw [← (hE9 a0 hw9_1).2] at hl
  rw [← (hE9 124 hv9_1).2]
  rw [← (hE9 a0 hv9_2).2]
  refine z_putFR X hR hin ha0.1 ha0.2 (by decide) zff_X5_28 rfl rfl (by decide) hn8.1 (by rw [zdc_of ha0.2 rfl]; exact hn8.2) dX5_init_41 (fun H locs hR => ?_)
  obtain ⟨w10, hw10⟩ : ∃ z : zW, z = sR w9 a0 8 124 := ⟨_, rfl⟩
  rw [← hw10] at hR
  replace hf := hf w10 hw10
  exact hQ _ _ _ _ _ _ _ _ _ hX (by have := hr.2.2.1; omega) (by have := hr.2.2.2; omega) hf hR dX5_init_44
/-! X5_init_130 -/
def fX5_init_130 (mc ms : Nat) (a0 : Nat) (w : zW) (k : zW → Prop) : Prop :=
  ∀ w1 : zW, w1 = sI w a0 1 (1 : Int32) →
  ¬ gI w1 0 131 = 1 ∧ 1 ≤ mc ∧ 40 ≤ ms ∧ ∀ w2 : zW, w2 = nW w1 131 →
  ∀ w3 : zW, w3 = sR w2 a0 5 131 →
  ¬ gI w3 0 132 = 1 ∧ 1 ≤ mc - 1 ∧ 40 ≤ ms - 40 ∧ ∀ w4 : zW, w4 = nW w3 132 →
  ∀ w5 : zW, w5 = sR w4 a0 6 132 →
  ¬ gI w5 0 133 = 1 ∧ 1 ≤ (mc - 1) - 1 ∧ 40 ≤ (ms - 40) - 40 ∧ ∀ w6 : zW, w6 = nW w5 133 →
  ∀ w7 : zW, w7 = sR w6 a0 7 133 →
  ¬ gI w7 0 134 = 1 ∧ 1 ≤ ((mc - 1) - 1) - 1 ∧ 1 ≤ ((ms - 40) - 40) - 40 ∧ ∀ w8 : zW, w8 = nW w7 134 →
  ∃ c9 s9, c9 ≤ (((mc - 1) - 1) - 1) - 1 ∧ s9 ≤ (((ms - 40) - 40) - 40) - 1 ∧ fX3_init_134 c9 s9 134 w8 (fun w9 =>
  ∀ w10 : zW, w10 = sR w9 a0 8 134 →
  k w10)
set_option maxHeartbeats 4000000 in
set_option maxRecDepth 100000 in
theorem mX5_init_130 {l : Launch} {D : va_G} {dA : Nat → ClassId} {ad : Nat → Nat} {al : Nat → Prop} {w : zW} {mc ms : Nat} {k : zW → Prop} {a0 : Nat} (ha0 : al a0 ∧ zsh a0 = 5) (hf : fX5_init_130 mc ms a0 w k) : zmetAV l yX5_init cX5_init 1 none 2 mc ms [.ref (ad a0)] D dA false ad al w k := by
  refine zmetCV_of (by decide) rfl (Nat.le_of_ble_eq_true rfl) ?_
  intro p e R s m below meth c Q H ls args locs cells slots X hr hQ hin hR hl
  have hx := X.1
  have hb := X.2.1
  have hml := X.2.2.1
  have hown := X.2.2.2.1
  have hts := X.2.2.2.2.1
  unfold fX5_init_130 at hf
  have hl : lv_has ls 1 [(0, .ref (ad a0))] := hl
  have hX : zExt ad al ad al := zExt.rf
  refine lv_aload_n hx hb dX5_init_0 rfl (lv_at hl 0 rfl) ?_
  refine z_objInit (rest := []) X (hr.none (by decide)) zq_128 zq_12 zq_13 hl (Nat.le_of_ble_eq_true rfl) dX5_init_1 ?_
  refine lv_aload_n hx hb dX5_init_4 rfl (lv_at hl 0 rfl) ?_
  refine lv_iconst (v := (1 : Int32)) hx hb dX5_init_5 (by decide) ?_
  refine z_putZ X hR ha0.1 ha0.2 (by decide) zfp_X5_9 rfl zb01_1 dX5_init_6 (fun H locs hR => ?_)
  obtain ⟨w1, hw1⟩ : ∃ z : zW, z = sI w a0 1 (1 : Int32) := ⟨_, rfl⟩
  rw [← hw1] at hR
  replace hf := hf w1 hw1
  refine lv_aload_n hx hb dX5_init_9 rfl (lv_at hl 0 rfl) ?_
  refine lv_bipush (v := (40 : Int32)) hx hb dX5_init_10 (by decide) ?_
  have hw2_1 : al a0 := ha0.1
  have hv2_1 : al a0 := ha0.1
  obtain ⟨hg2, hc2, hs2, hf⟩ := hf
  refine z_newaI (N := 40) X (hr.new hc2 hs2) hR (j := 131) (fun h9 => absurd h9 (by decide)) hg2 zs_131 zl_131 (by decide) (by decide) (by decide) zq_64 dX5_init_12 (fun ad2 al2 H hE2 hj2 hR => ?_)
  obtain ⟨w2, hw2⟩ : ∃ z : zW, z = nW w1 131 := ⟨_, rfl⟩
  rw [← hw2] at hR
  replace hf := hf w2 hw2
  have hX := hX.tr hE2
  have hr := hr.after hc2 hs2
  have ha0 : al2 a0 ∧ zsh a0 = 5 := ⟨(hE2 _ ha0.1).1, ha0.2⟩
  rw [← (hE2 a0 hw2_1).2] at hl
  rw [← (hE2 a0 hv2_1).2]
  refine z_putFR X hR hin ha0.1 ha0.2 (by decide) zff_X5_15 rfl rfl (by decide) hj2 (by rw [zdc_of ha0.2 rfl]; exact zs_131) dX5_init_14 (fun H locs hR => ?_)
  obtain ⟨w3, hw3⟩ : ∃ z : zW, z = sR w2 a0 5 131 := ⟨_, rfl⟩
  rw [← hw3] at hR
  replace hf := hf w3 hw3
  refine lv_aload_n hx hb dX5_init_17 rfl (lv_at hl 0 rfl) ?_
  refine lv_bipush (v := (40 : Int32)) hx hb dX5_init_18 (by decide) ?_
  have hw4_1 : al2 a0 := ha0.1
  have hv4_1 : al2 a0 := ha0.1
  obtain ⟨hg4, hc4, hs4, hf⟩ := hf
  refine z_newaI (N := 40) X (hr.new hc4 hs4) hR (j := 132) (fun h9 => absurd h9 (by decide)) hg4 zs_132 zl_132 (by decide) (by decide) (by decide) zq_64 dX5_init_20 (fun ad4 al4 H hE4 hj4 hR => ?_)
  obtain ⟨w4, hw4⟩ : ∃ z : zW, z = nW w3 132 := ⟨_, rfl⟩
  rw [← hw4] at hR
  replace hf := hf w4 hw4
  have hX := hX.tr hE4
  have hr := hr.after hc4 hs4
  have ha0 : al4 a0 ∧ zsh a0 = 5 := ⟨(hE4 _ ha0.1).1, ha0.2⟩
  rw [← (hE4 a0 hw4_1).2] at hl
  rw [← (hE4 a0 hv4_1).2]
  refine z_putFR X hR hin ha0.1 ha0.2 (by decide) zff_X5_19 rfl rfl (by decide) hj4 (by rw [zdc_of ha0.2 rfl]; exact zs_132) dX5_init_22 (fun H locs hR => ?_)
  obtain ⟨w5, hw5⟩ : ∃ z : zW, z = sR w4 a0 6 132 := ⟨_, rfl⟩
  rw [← hw5] at hR
  replace hf := hf w5 hw5
  refine lv_aload_n hx hb dX5_init_25 rfl (lv_at hl 0 rfl) ?_
  refine lv_bipush (v := (40 : Int32)) hx hb dX5_init_26 (by decide) ?_
  have hw6_1 : al4 a0 := ha0.1
  have hv6_1 : al4 a0 := ha0.1
  obtain ⟨hg6, hc6, hs6, hf⟩ := hf
  refine z_newaI (N := 40) X (hr.new hc6 hs6) hR (j := 133) (fun h9 => absurd h9 (by decide)) hg6 zs_133 zl_133 (by decide) (by decide) (by decide) zq_64 dX5_init_28 (fun ad6 al6 H hE6 hj6 hR => ?_)
  obtain ⟨w6, hw6⟩ : ∃ z : zW, z = nW w5 133 := ⟨_, rfl⟩
  rw [← hw6] at hR
  replace hf := hf w6 hw6
  have hX := hX.tr hE6
  have hr := hr.after hc6 hs6
  have ha0 : al6 a0 ∧ zsh a0 = 5 := ⟨(hE6 _ ha0.1).1, ha0.2⟩
  rw [← (hE6 a0 hw6_1).2] at hl
  rw [← (hE6 a0 hv6_1).2]
  refine z_putFR X hR hin ha0.1 ha0.2 (by decide) zff_X5_22 rfl rfl (by decide) hj6 (by rw [zdc_of ha0.2 rfl]; exact zs_133) dX5_init_30 (fun H locs hR => ?_)
  obtain ⟨w7, hw7⟩ : ∃ z : zW, z = sR w6 a0 7 133 := ⟨_, rfl⟩
  rw [← hw7] at hR
  replace hf := hf w7 hw7
  refine lv_aload_n hx hb dX5_init_33 rfl (lv_at hl 0 rfl) ?_
  have hw8_1 : al6 a0 := ha0.1
  have hv8_1 : al6 a0 := ha0.1
  obtain ⟨hg8, hc8, hs8, hf⟩ := hf
  refine z_newo (N := 1) X (hr.new hc8 hs8) hR (j := 134) (fun h9 => absurd h9 (by decide)) hg8 zs_134 (by decide) (q := (RX3, TX3, 1)) rfl rfl tyX3 tyX3_ok (by decide +kernel) zq_133 zq_23 zq_24 dX5_init_34 (fun ad8 al8 H hE8 hj8 hR => ?_)
  obtain ⟨w8, hw8⟩ : ∃ z : zW, z = nW w7 134 := ⟨_, rfl⟩
  rw [← hw8] at hR
  replace hf := hf w8 hw8
  have hX := hX.tr hE8
  have hr := hr.after hc8 hs8
  have ha0 : al8 a0 ∧ zsh a0 = 5 := ⟨(hE8 _ ha0.1).1, ha0.2⟩
  rw [← (hE8 a0 hw8_1).2] at hl
  rw [← (hE8 a0 hv8_1).2]
  have hn8 : al8 134 ∧ zsh 134 = 3 := ⟨hj8, zs_134⟩
  refine lv_dup hx hb dX5_init_37 rfl ?_
  have hw9_1 : al8 a0 := ha0.1
  have hv9_1 : al8 134 := hn8.1
  have hv9_2 : al8 a0 := ha0.1
  obtain ⟨c9, s9, hc9, hs9, hf⟩ := hf
  refine z_callAIV (fr1 := 1) (mc := c9) (ms := s9) (b := 134) (As := []) (rest := [.ref (ad8 134), .ref (ad8 a0)]) X (hr.call hc9 hs9 (by decide)) hR zq_135 rfl zq_80 zq_79 zq_24 ⟨by decide, by decide⟩ (np := 0) (by decide +kernel) (by decide) (mX3_init_134 ⟨hn8.1, hn8.2⟩ hf) rfl hl (Nat.le_of_ble_eq_true rfl) dX5_init_38 rfl (fun w9 H locs ad9 al9 hf hE9 hR => ?_)
  have hX := hX.tr hE9
  have hr := hr.after hc9 hs9
  have ha0 : al9 a0 ∧ zsh a0 = 5 := ⟨(hE9 _ ha0.1).1, ha0.2⟩
  have hn8 := And.intro (hE9 _ hn8.1).1 hn8.2
  rw [← (hE9 a0 hw9_1).2] at hl
  rw [← (hE9 134 hv9_1).2]
  rw [← (hE9 a0 hv9_2).2]
  refine z_putFR X hR hin ha0.1 ha0.2 (by decide) zff_X5_28 rfl rfl (by decide) hn8.1 (by rw [zdc_of ha0.2 rfl]; exact hn8.2) dX5_init_41 (fun H locs hR => ?_)
  obtain ⟨w10, hw10⟩ : ∃ z : zW, z = sR w9 a0 8 134 := ⟨_, rfl⟩
  rw [← hw10] at hR
  replace hf := hf w10 hw10
  exact hQ _ _ _ _ _ _ _ _ _ hX (by have := hr.2.2.1; omega) (by have := hr.2.2.2; omega) hf hR dX5_init_44
/-! X11_init -/
def fX11_init_J159 (a0 : Nat) (k : zW → Prop) (mc ms : Nat)  (w : zW) : Prop :=
  ¬ gI w 0 130 = 1 ∧ 1 ≤ mc ∧ 11 ≤ ms ∧ ∀ w57 : zW, w57 = nW w 130 →
  ∃ c58 s58, c58 ≤ mc - 1 ∧ s58 ≤ ms - 11 ∧ fX5_init_130 c58 s58 130 w57 (fun w58 =>
  ∀ w59 : zW, w59 = sR w58 a0 12 130 →
  k w59)
set_option maxHeartbeats 4000000 in
set_option maxRecDepth 100000 in
theorem mX11_init_J159 {k : zW → Prop} {a0 : Nat} (X : zCx p s m args meth c cX11_init 2 RX11 none) (hQ : zRetAV p l e R s m args below meth c Q D dA false ad0 al0 cX11_init k) (hin : meth.name = "<init>")  {cells slots mc ms : Nat}  {ad : Nat → Nat} {al : Nat → Prop} {w : zW} {H : Heap} {locs : List Loc} {ls : Array Slot} (ha0 : al a0 ∧ zsh a0 = 11) (hf : fX11_init_J159 a0 k mc ms  w) (hX : zExt ad0 al0 ad al) (hr : zRm R 3 (cells + mc) (slots + ms)) (hR : zSt D dA false ad0 al0 ad al w s H locs) (hl : lv_has ls 2 [(0, .ref (ad a0))]) : W p l e R s m args below meth c H locs cells slots Q (F0 m 159 ls []) := by
  have hx := X.1
  have hb := X.2.1
  have hml := X.2.2.1
  have hown := X.2.2.2.1
  have hts := X.2.2.2.2.1
  unfold fX11_init_J159 at hf
  refine lv_aload_n hx hb dX11_init_159 rfl (lv_at hl 0 rfl) ?_
  have hw57_1 : al a0 := ha0.1
  have hv57_1 : al a0 := ha0.1
  obtain ⟨hg57, hc57, hs57, hf⟩ := hf
  refine z_newo (N := 11) X (hr.new hc57 hs57) hR (j := 130) (fun h9 => absurd h9 (by decide)) hg57 zs_130 (by decide) (q := (RX5, TX5, 11)) rfl rfl tyX5 tyX5_ok (by decide +kernel) zq_50 zq_51 zq_52 dX11_init_160 (fun ad57 al57 H hE57 hj57 hR => ?_)
  obtain ⟨w57, hw57⟩ : ∃ z : zW, z = nW w 130 := ⟨_, rfl⟩
  rw [← hw57] at hR
  replace hf := hf w57 hw57
  have hX := hX.tr hE57
  have hr := hr.after hc57 hs57
  have ha0 : al57 a0 ∧ zsh a0 = 11 := ⟨(hE57 _ ha0.1).1, ha0.2⟩
  rw [← (hE57 a0 hw57_1).2] at hl
  rw [← (hE57 a0 hv57_1).2]
  have hn57 : al57 130 ∧ zsh 130 = 5 := ⟨hj57, zs_130⟩
  refine lv_dup hx hb dX11_init_163 rfl ?_
  have hw58_1 : al57 a0 := ha0.1
  have hv58_1 : al57 130 := hn57.1
  have hv58_2 : al57 a0 := ha0.1
  obtain ⟨c58, s58, hc58, hs58, hf⟩ := hf
  refine z_callANV (fr1 := 2) (mc := c58) (ms := s58) (b := 130) (As := []) (rest := [.ref (ad57 130), .ref (ad57 a0)]) X (hr.call hc58 hs58 (by decide)) hR (host := RX11) zn_80 rfl zq_127 zq_126 zq_52 ⟨by decide, by decide⟩ (np := 0) (by decide +kernel) (by decide) (mX5_init_130 ⟨hn57.1, hn57.2⟩ hf) rfl hl (Nat.le_of_ble_eq_true rfl) dX11_init_164 rfl (fun w58 H locs ad58 al58 hf hE58 hR => ?_)
  have hX := hX.tr hE58
  have hr := hr.after hc58 hs58
  have ha0 : al58 a0 ∧ zsh a0 = 11 := ⟨(hE58 _ ha0.1).1, ha0.2⟩
  have hn57 := And.intro (hE58 _ hn57.1).1 hn57.2
  rw [← (hE58 a0 hw58_1).2] at hl
  rw [← (hE58 130 hv58_1).2]
  rw [← (hE58 a0 hv58_2).2]
  refine z_putR X hR ha0.1 ha0.2 (by decide) zfp_X11_85 rfl rfl (by decide) hn57.1 (by rw [zdc_of ha0.2 rfl]; exact hn57.2) dX11_init_167 (fun H locs hR => ?_)
  obtain ⟨w59, hw59⟩ : ∃ z : zW, z = sR w58 a0 12 130 := ⟨_, rfl⟩
  rw [← hw59] at hR
  replace hf := hf w59 hw59
  exact hQ _ _ _ _ _ _ _ _ _ hX (by have := hr.2.2.1; omega) (by have := hr.2.2.2; omega) hf hR dX11_init_170
def fX11_init_J148 (a0 : Nat) (k : zW → Prop) (mc ms : Nat)  (w : zW) : Prop :=
  ¬ gI w 0 120 = 1 ∧ 1 ≤ mc ∧ 11 ≤ ms ∧ ∀ w54 : zW, w54 = nW w 120 →
  ∃ c55 s55, c55 ≤ mc - 1 ∧ s55 ≤ ms - 11 ∧ fX5_init_120 c55 s55 120 w54 (fun w55 =>
  ∀ w56 : zW, w56 = sR w55 a0 11 120 →
  fX11_init_J159 a0 k ((mc - 1) - c55) ((ms - 11) - s55)  w56)
set_option maxHeartbeats 4000000 in
set_option maxRecDepth 100000 in
theorem mX11_init_J148 {k : zW → Prop} {a0 : Nat} (X : zCx p s m args meth c cX11_init 2 RX11 none) (hQ : zRetAV p l e R s m args below meth c Q D dA false ad0 al0 cX11_init k) (hin : meth.name = "<init>")  {cells slots mc ms : Nat}  {ad : Nat → Nat} {al : Nat → Prop} {w : zW} {H : Heap} {locs : List Loc} {ls : Array Slot} (ha0 : al a0 ∧ zsh a0 = 11) (hf : fX11_init_J148 a0 k mc ms  w) (hX : zExt ad0 al0 ad al) (hr : zRm R 3 (cells + mc) (slots + ms)) (hR : zSt D dA false ad0 al0 ad al w s H locs) (hl : lv_has ls 2 [(0, .ref (ad a0))]) : W p l e R s m args below meth c H locs cells slots Q (F0 m 148 ls []) := by
  have hx := X.1
  have hb := X.2.1
  have hml := X.2.2.1
  have hown := X.2.2.2.1
  have hts := X.2.2.2.2.1
  unfold fX11_init_J148 at hf
  refine lv_aload_n hx hb dX11_init_148 rfl (lv_at hl 0 rfl) ?_
  have hw54_1 : al a0 := ha0.1
  have hv54_1 : al a0 := ha0.1
  obtain ⟨hg54, hc54, hs54, hf⟩ := hf
  refine z_newo (N := 11) X (hr.new hc54 hs54) hR (j := 120) (fun h9 => absurd h9 (by decide)) hg54 zs_120 (by decide) (q := (RX5, TX5, 11)) rfl rfl tyX5 tyX5_ok (by decide +kernel) zq_50 zq_51 zq_52 dX11_init_149 (fun ad54 al54 H hE54 hj54 hR => ?_)
  obtain ⟨w54, hw54⟩ : ∃ z : zW, z = nW w 120 := ⟨_, rfl⟩
  rw [← hw54] at hR
  replace hf := hf w54 hw54
  have hX := hX.tr hE54
  have hr := hr.after hc54 hs54
  have ha0 : al54 a0 ∧ zsh a0 = 11 := ⟨(hE54 _ ha0.1).1, ha0.2⟩
  rw [← (hE54 a0 hw54_1).2] at hl
  rw [← (hE54 a0 hv54_1).2]
  have hn54 : al54 120 ∧ zsh 120 = 5 := ⟨hj54, zs_120⟩
  refine lv_dup hx hb dX11_init_152 rfl ?_
  have hw55_1 : al54 a0 := ha0.1
  have hv55_1 : al54 120 := hn54.1
  have hv55_2 : al54 a0 := ha0.1
  obtain ⟨c55, s55, hc55, hs55, hf⟩ := hf
  refine z_callANV (fr1 := 2) (mc := c55) (ms := s55) (b := 120) (As := []) (rest := [.ref (ad54 120), .ref (ad54 a0)]) X (hr.call hc55 hs55 (by decide)) hR (host := RX11) zn_80 rfl zq_127 zq_126 zq_52 ⟨by decide, by decide⟩ (np := 0) (by decide +kernel) (by decide) (mX5_init_120 ⟨hn54.1, hn54.2⟩ hf) rfl hl (Nat.le_of_ble_eq_true rfl) dX11_init_153 rfl (fun w55 H locs ad55 al55 hf hE55 hR => ?_)
  have hX := hX.tr hE55
  have hr := hr.after hc55 hs55
  have ha0 : al55 a0 ∧ zsh a0 = 11 := ⟨(hE55 _ ha0.1).1, ha0.2⟩
  have hn54 := And.intro (hE55 _ hn54.1).1 hn54.2
  rw [← (hE55 a0 hw55_1).2] at hl
  rw [← (hE55 120 hv55_1).2]
  rw [← (hE55 a0 hv55_2).2]
  refine z_putR X hR ha0.1 ha0.2 (by decide) zfp_X11_81 rfl rfl (by decide) hn54.1 (by rw [zdc_of ha0.2 rfl]; exact hn54.2) dX11_init_156 (fun H locs hR => ?_)
  obtain ⟨w56, hw56⟩ : ∃ z : zW, z = sR w55 a0 11 120 := ⟨_, rfl⟩
  rw [← hw56] at hR
  replace hf := hf w56 hw56
  exact mX11_init_J159 X hQ hin  ha0 hf hX hr hR (lv_sub hl [0] rfl)
def fX11_init_J137 (a0 : Nat) (k : zW → Prop) (mc ms : Nat)  (w : zW) : Prop :=
  ¬ gI w 0 80 = 1 ∧ 1 ≤ mc ∧ 13 ≤ ms ∧ ∀ w51 : zW, w51 = nW w 80 →
  ∃ c52 s52, c52 ≤ mc - 1 ∧ s52 ≤ ms - 13 ∧ fX0_init_80 c52 s52 80 w51 (fun w52 =>
  ∀ w53 : zW, w53 = sR w52 a0 10 80 →
  fX11_init_J148 a0 k ((mc - 1) - c52) ((ms - 13) - s52)  w53)
set_option maxHeartbeats 4000000 in
set_option maxRecDepth 100000 in
theorem mX11_init_J137 {k : zW → Prop} {a0 : Nat} (X : zCx p s m args meth c cX11_init 2 RX11 none) (hQ : zRetAV p l e R s m args below meth c Q D dA false ad0 al0 cX11_init k) (hin : meth.name = "<init>")  {cells slots mc ms : Nat}  {ad : Nat → Nat} {al : Nat → Prop} {w : zW} {H : Heap} {locs : List Loc} {ls : Array Slot} (ha0 : al a0 ∧ zsh a0 = 11) (hf : fX11_init_J137 a0 k mc ms  w) (hX : zExt ad0 al0 ad al) (hr : zRm R 3 (cells + mc) (slots + ms)) (hR : zSt D dA false ad0 al0 ad al w s H locs) (hl : lv_has ls 2 [(0, .ref (ad a0))]) : W p l e R s m args below meth c H locs cells slots Q (F0 m 137 ls []) := by
  have hx := X.1
  have hb := X.2.1
  have hml := X.2.2.1
  have hown := X.2.2.2.1
  have hts := X.2.2.2.2.1
  unfold fX11_init_J137 at hf
  refine lv_aload_n hx hb dX11_init_137 rfl (lv_at hl 0 rfl) ?_
  have hw51_1 : al a0 := ha0.1
  have hv51_1 : al a0 := ha0.1
  obtain ⟨hg51, hc51, hs51, hf⟩ := hf
  refine z_newo (N := 13) X (hr.new hc51 hs51) hR (j := 80) (fun h9 => absurd h9 (by decide)) hg51 zs_80 (by decide) (q := (RX0, TX0, 13)) rfl rfl tyX0 tyX0_ok (by decide +kernel) zq_45 zq_46 zq_47 dX11_init_138 (fun ad51 al51 H hE51 hj51 hR => ?_)
  obtain ⟨w51, hw51⟩ : ∃ z : zW, z = nW w 80 := ⟨_, rfl⟩
  rw [← hw51] at hR
  replace hf := hf w51 hw51
  have hX := hX.tr hE51
  have hr := hr.after hc51 hs51
  have ha0 : al51 a0 ∧ zsh a0 = 11 := ⟨(hE51 _ ha0.1).1, ha0.2⟩
  rw [← (hE51 a0 hw51_1).2] at hl
  rw [← (hE51 a0 hv51_1).2]
  have hn51 : al51 80 ∧ zsh 80 = 0 := ⟨hj51, zs_80⟩
  refine lv_dup hx hb dX11_init_141 rfl ?_
  have hw52_1 : al51 a0 := ha0.1
  have hv52_1 : al51 80 := hn51.1
  have hv52_2 : al51 a0 := ha0.1
  obtain ⟨c52, s52, hc52, hs52, hf⟩ := hf
  refine z_callAIV (fr1 := 1) (mc := c52) (ms := s52) (b := 80) (As := []) (rest := [.ref (ad51 80), .ref (ad51 a0)]) X (hr.call hc52 hs52 (by decide)) hR zq_110 rfl zq_112 zq_111 zq_47 ⟨by decide, by decide⟩ (np := 0) (by decide +kernel) (by decide) (mX0_init_80 ⟨hn51.1, hn51.2⟩ hf) rfl hl (Nat.le_of_ble_eq_true rfl) dX11_init_142 rfl (fun w52 H locs ad52 al52 hf hE52 hR => ?_)
  have hX := hX.tr hE52
  have hr := hr.after hc52 hs52
  have ha0 : al52 a0 ∧ zsh a0 = 11 := ⟨(hE52 _ ha0.1).1, ha0.2⟩
  have hn51 := And.intro (hE52 _ hn51.1).1 hn51.2
  rw [← (hE52 a0 hw52_1).2] at hl
  rw [← (hE52 80 hv52_1).2]
  rw [← (hE52 a0 hv52_2).2]
  refine z_putR X hR ha0.1 ha0.2 (by decide) zfp_X11_75 rfl rfl (by decide) hn51.1 (by rw [zdc_of ha0.2 rfl]; exact hn51.2) dX11_init_145 (fun H locs hR => ?_)
  obtain ⟨w53, hw53⟩ : ∃ z : zW, z = sR w52 a0 10 80 := ⟨_, rfl⟩
  rw [← hw53] at hR
  replace hf := hf w53 hw53
  exact mX11_init_J148 X hQ hin  ha0 hf hX hr hR (lv_sub hl [0] rfl)
def fX11_init_J126 (a0 : Nat) (k : zW → Prop) (mc ms : Nat)  (w : zW) : Prop :=
  ¬ gI w 0 40 = 1 ∧ 1 ≤ mc ∧ 13 ≤ ms ∧ ∀ w48 : zW, w48 = nW w 40 →
  ∃ c49 s49, c49 ≤ mc - 1 ∧ s49 ≤ ms - 13 ∧ fX0_init_40 c49 s49 40 w48 (fun w49 =>
  ∀ w50 : zW, w50 = sR w49 a0 9 40 →
  fX11_init_J137 a0 k ((mc - 1) - c49) ((ms - 13) - s49)  w50)
set_option maxHeartbeats 4000000 in
set_option maxRecDepth 100000 in
theorem mX11_init_J126 {k : zW → Prop} {a0 : Nat} (X : zCx p s m args meth c cX11_init 2 RX11 none) (hQ : zRetAV p l e R s m args below meth c Q D dA false ad0 al0 cX11_init k) (hin : meth.name = "<init>")  {cells slots mc ms : Nat}  {ad : Nat → Nat} {al : Nat → Prop} {w : zW} {H : Heap} {locs : List Loc} {ls : Array Slot} (ha0 : al a0 ∧ zsh a0 = 11) (hf : fX11_init_J126 a0 k mc ms  w) (hX : zExt ad0 al0 ad al) (hr : zRm R 3 (cells + mc) (slots + ms)) (hR : zSt D dA false ad0 al0 ad al w s H locs) (hl : lv_has ls 2 [(0, .ref (ad a0))]) : W p l e R s m args below meth c H locs cells slots Q (F0 m 126 ls []) := by
  have hx := X.1
  have hb := X.2.1
  have hml := X.2.2.1
  have hown := X.2.2.2.1
  have hts := X.2.2.2.2.1
  unfold fX11_init_J126 at hf
  refine lv_aload_n hx hb dX11_init_126 rfl (lv_at hl 0 rfl) ?_
  have hw48_1 : al a0 := ha0.1
  have hv48_1 : al a0 := ha0.1
  obtain ⟨hg48, hc48, hs48, hf⟩ := hf
  refine z_newo (N := 13) X (hr.new hc48 hs48) hR (j := 40) (fun h9 => absurd h9 (by decide)) hg48 zs_40 (by decide) (q := (RX0, TX0, 13)) rfl rfl tyX0 tyX0_ok (by decide +kernel) zq_45 zq_46 zq_47 dX11_init_127 (fun ad48 al48 H hE48 hj48 hR => ?_)
  obtain ⟨w48, hw48⟩ : ∃ z : zW, z = nW w 40 := ⟨_, rfl⟩
  rw [← hw48] at hR
  replace hf := hf w48 hw48
  have hX := hX.tr hE48
  have hr := hr.after hc48 hs48
  have ha0 : al48 a0 ∧ zsh a0 = 11 := ⟨(hE48 _ ha0.1).1, ha0.2⟩
  rw [← (hE48 a0 hw48_1).2] at hl
  rw [← (hE48 a0 hv48_1).2]
  have hn48 : al48 40 ∧ zsh 40 = 0 := ⟨hj48, zs_40⟩
  refine lv_dup hx hb dX11_init_130 rfl ?_
  have hw49_1 : al48 a0 := ha0.1
  have hv49_1 : al48 40 := hn48.1
  have hv49_2 : al48 a0 := ha0.1
  obtain ⟨c49, s49, hc49, hs49, hf⟩ := hf
  refine z_callAIV (fr1 := 1) (mc := c49) (ms := s49) (b := 40) (As := []) (rest := [.ref (ad48 40), .ref (ad48 a0)]) X (hr.call hc49 hs49 (by decide)) hR zq_110 rfl zq_112 zq_111 zq_47 ⟨by decide, by decide⟩ (np := 0) (by decide +kernel) (by decide) (mX0_init_40 ⟨hn48.1, hn48.2⟩ hf) rfl hl (Nat.le_of_ble_eq_true rfl) dX11_init_131 rfl (fun w49 H locs ad49 al49 hf hE49 hR => ?_)
  have hX := hX.tr hE49
  have hr := hr.after hc49 hs49
  have ha0 : al49 a0 ∧ zsh a0 = 11 := ⟨(hE49 _ ha0.1).1, ha0.2⟩
  have hn48 := And.intro (hE49 _ hn48.1).1 hn48.2
  rw [← (hE49 a0 hw49_1).2] at hl
  rw [← (hE49 40 hv49_1).2]
  rw [← (hE49 a0 hv49_2).2]
  refine z_putR X hR ha0.1 ha0.2 (by decide) zfp_X11_71 rfl rfl (by decide) hn48.1 (by rw [zdc_of ha0.2 rfl]; exact hn48.2) dX11_init_134 (fun H locs hR => ?_)
  obtain ⟨w50, hw50⟩ : ∃ z : zW, z = sR w49 a0 9 40 := ⟨_, rfl⟩
  rw [← hw50] at hR
  replace hf := hf w50 hw50
  exact mX11_init_J137 X hQ hin  ha0 hf hX hr hR (lv_sub hl [0] rfl)
def fX11_init_J115 (a0 : Nat) (k : zW → Prop) (mc ms : Nat)  (w : zW) : Prop :=
  ¬ gI w 0 31 = 1 ∧ 1 ≤ mc ∧ 8 ≤ ms ∧ ∀ w45 : zW, w45 = nW w 31 →
  ∃ c46 s46, c46 ≤ mc - 1 ∧ s46 ≤ ms - 8 ∧ fX4_init_31 c46 s46 31 w45 (fun w46 =>
  ∀ w47 : zW, w47 = sR w46 a0 8 31 →
  fX11_init_J126 a0 k ((mc - 1) - c46) ((ms - 8) - s46)  w47)
set_option maxHeartbeats 4000000 in
set_option maxRecDepth 100000 in
theorem mX11_init_J115 {k : zW → Prop} {a0 : Nat} (X : zCx p s m args meth c cX11_init 2 RX11 none) (hQ : zRetAV p l e R s m args below meth c Q D dA false ad0 al0 cX11_init k) (hin : meth.name = "<init>")  {cells slots mc ms : Nat}  {ad : Nat → Nat} {al : Nat → Prop} {w : zW} {H : Heap} {locs : List Loc} {ls : Array Slot} (ha0 : al a0 ∧ zsh a0 = 11) (hf : fX11_init_J115 a0 k mc ms  w) (hX : zExt ad0 al0 ad al) (hr : zRm R 3 (cells + mc) (slots + ms)) (hR : zSt D dA false ad0 al0 ad al w s H locs) (hl : lv_has ls 2 [(0, .ref (ad a0))]) : W p l e R s m args below meth c H locs cells slots Q (F0 m 115 ls []) := by
  have hx := X.1
  have hb := X.2.1
  have hml := X.2.2.1
  have hown := X.2.2.2.1
  have hts := X.2.2.2.2.1
  unfold fX11_init_J115 at hf
  refine lv_aload_n hx hb dX11_init_115 rfl (lv_at hl 0 rfl) ?_
  have hw45_1 : al a0 := ha0.1
  have hv45_1 : al a0 := ha0.1
  obtain ⟨hg45, hc45, hs45, hf⟩ := hf
  refine z_newo (N := 8) X (hr.new hc45 hs45) hR (j := 31) (fun h9 => absurd h9 (by decide)) hg45 zs_31 (by decide) (q := (RX4, TX4, 8)) rfl rfl tyX4 tyX4_ok (by decide +kernel) zq_41 zq_42 zq_43 dX11_init_116 (fun ad45 al45 H hE45 hj45 hR => ?_)
  obtain ⟨w45, hw45⟩ : ∃ z : zW, z = nW w 31 := ⟨_, rfl⟩
  rw [← hw45] at hR
  replace hf := hf w45 hw45
  have hX := hX.tr hE45
  have hr := hr.after hc45 hs45
  have ha0 : al45 a0 ∧ zsh a0 = 11 := ⟨(hE45 _ ha0.1).1, ha0.2⟩
  rw [← (hE45 a0 hw45_1).2] at hl
  rw [← (hE45 a0 hv45_1).2]
  have hn45 : al45 31 ∧ zsh 31 = 4 := ⟨hj45, zs_31⟩
  refine lv_dup hx hb dX11_init_119 rfl ?_
  have hw46_1 : al45 a0 := ha0.1
  have hv46_1 : al45 31 := hn45.1
  have hv46_2 : al45 a0 := ha0.1
  obtain ⟨c46, s46, hc46, hs46, hf⟩ := hf
  refine z_callANV (fr1 := 1) (mc := c46) (ms := s46) (b := 31) (As := []) (rest := [.ref (ad45 31), .ref (ad45 a0)]) X (hr.call hc46 hs46 (by decide)) hR (host := RX11) zn_63 rfl zq_106 zq_105 zq_43 ⟨by decide, by decide⟩ (np := 0) (by decide +kernel) (by decide) (mX4_init_31 ⟨hn45.1, hn45.2⟩ hf) rfl hl (Nat.le_of_ble_eq_true rfl) dX11_init_120 rfl (fun w46 H locs ad46 al46 hf hE46 hR => ?_)
  have hX := hX.tr hE46
  have hr := hr.after hc46 hs46
  have ha0 : al46 a0 ∧ zsh a0 = 11 := ⟨(hE46 _ ha0.1).1, ha0.2⟩
  have hn45 := And.intro (hE46 _ hn45.1).1 hn45.2
  rw [← (hE46 a0 hw46_1).2] at hl
  rw [← (hE46 31 hv46_1).2]
  rw [← (hE46 a0 hv46_2).2]
  refine z_putFR X hR hin ha0.1 ha0.2 (by decide) zff_X11_64 rfl rfl (by decide) hn45.1 (by rw [zdc_of ha0.2 rfl]; exact hn45.2) dX11_init_123 (fun H locs hR => ?_)
  obtain ⟨w47, hw47⟩ : ∃ z : zW, z = sR w46 a0 8 31 := ⟨_, rfl⟩
  rw [← hw47] at hR
  replace hf := hf w47 hw47
  exact mX11_init_J126 X hQ hin  ha0 hf hX hr hR (lv_sub hl [0] rfl)
def fX11_init_J104 (a0 : Nat) (k : zW → Prop) (mc ms : Nat)  (w : zW) : Prop :=
  ¬ gI w 0 29 = 1 ∧ 1 ≤ mc ∧ 1 ≤ ms ∧ ∀ w42 : zW, w42 = nW w 29 →
  ∃ c43 s43, c43 ≤ mc - 1 ∧ s43 ≤ ms - 1 ∧ fX9_init_29 c43 s43 29 w42 (fun w43 =>
  ∀ w44 : zW, w44 = sR w43 a0 7 29 →
  fX11_init_J115 a0 k ((mc - 1) - c43) ((ms - 1) - s43)  w44)
set_option maxHeartbeats 4000000 in
set_option maxRecDepth 100000 in
theorem mX11_init_J104 {k : zW → Prop} {a0 : Nat} (X : zCx p s m args meth c cX11_init 2 RX11 none) (hQ : zRetAV p l e R s m args below meth c Q D dA false ad0 al0 cX11_init k) (hin : meth.name = "<init>")  {cells slots mc ms : Nat}  {ad : Nat → Nat} {al : Nat → Prop} {w : zW} {H : Heap} {locs : List Loc} {ls : Array Slot} (ha0 : al a0 ∧ zsh a0 = 11) (hf : fX11_init_J104 a0 k mc ms  w) (hX : zExt ad0 al0 ad al) (hr : zRm R 3 (cells + mc) (slots + ms)) (hR : zSt D dA false ad0 al0 ad al w s H locs) (hl : lv_has ls 2 [(0, .ref (ad a0))]) : W p l e R s m args below meth c H locs cells slots Q (F0 m 104 ls []) := by
  have hx := X.1
  have hb := X.2.1
  have hml := X.2.2.1
  have hown := X.2.2.2.1
  have hts := X.2.2.2.2.1
  unfold fX11_init_J104 at hf
  refine lv_aload_n hx hb dX11_init_104 rfl (lv_at hl 0 rfl) ?_
  have hw42_1 : al a0 := ha0.1
  have hv42_1 : al a0 := ha0.1
  obtain ⟨hg42, hc42, hs42, hf⟩ := hf
  refine z_newo (N := 1) X (hr.new hc42 hs42) hR (j := 29) (fun h9 => absurd h9 (by decide)) hg42 zs_29 (by decide) (q := (RX9, TX9, 1)) rfl rfl tyX9 tyX9_ok (by decide +kernel) zq_37 zq_38 zq_39 dX11_init_105 (fun ad42 al42 H hE42 hj42 hR => ?_)
  obtain ⟨w42, hw42⟩ : ∃ z : zW, z = nW w 29 := ⟨_, rfl⟩
  rw [← hw42] at hR
  replace hf := hf w42 hw42
  have hX := hX.tr hE42
  have hr := hr.after hc42 hs42
  have ha0 : al42 a0 ∧ zsh a0 = 11 := ⟨(hE42 _ ha0.1).1, ha0.2⟩
  rw [← (hE42 a0 hw42_1).2] at hl
  rw [← (hE42 a0 hv42_1).2]
  have hn42 : al42 29 ∧ zsh 29 = 9 := ⟨hj42, zs_29⟩
  refine lv_dup hx hb dX11_init_108 rfl ?_
  have hw43_1 : al42 a0 := ha0.1
  have hv43_1 : al42 29 := hn42.1
  have hv43_2 : al42 a0 := ha0.1
  obtain ⟨c43, s43, hc43, hs43, hf⟩ := hf
  refine z_callANV (fr1 := 1) (mc := c43) (ms := s43) (b := 29) (As := []) (rest := [.ref (ad42 29), .ref (ad42 a0)]) X (hr.call hc43 hs43 (by decide)) hR (host := RX11) zn_56 rfl zq_102 zq_101 zq_39 ⟨by decide, by decide⟩ (np := 0) (by decide +kernel) (by decide) (mX9_init_29 ⟨hn42.1, hn42.2⟩ hf) rfl hl (Nat.le_of_ble_eq_true rfl) dX11_init_109 rfl (fun w43 H locs ad43 al43 hf hE43 hR => ?_)
  have hX := hX.tr hE43
  have hr := hr.after hc43 hs43
  have ha0 : al43 a0 ∧ zsh a0 = 11 := ⟨(hE43 _ ha0.1).1, ha0.2⟩
  have hn42 := And.intro (hE43 _ hn42.1).1 hn42.2
  rw [← (hE43 a0 hw43_1).2] at hl
  rw [← (hE43 29 hv43_1).2]
  rw [← (hE43 a0 hv43_2).2]
  refine z_putFR X hR hin ha0.1 ha0.2 (by decide) zff_X11_57 rfl rfl (by decide) hn42.1 (by rw [zdc_of ha0.2 rfl]; exact hn42.2) dX11_init_112 (fun H locs hR => ?_)
  obtain ⟨w44, hw44⟩ : ∃ z : zW, z = sR w43 a0 7 29 := ⟨_, rfl⟩
  rw [← hw44] at hR
  replace hf := hf w44 hw44
  exact mX11_init_J115 X hQ hin  ha0 hf hX hr hR (lv_sub hl [0] rfl)
def fX11_init_J93 (a0 : Nat) (k : zW → Prop) (mc ms : Nat)  (w : zW) : Prop :=
  ¬ gI w 0 24 = 1 ∧ 1 ≤ mc ∧ 10 ≤ ms ∧ ∀ w39 : zW, w39 = nW w 24 →
  ∃ c40 s40, c40 ≤ mc - 1 ∧ s40 ≤ ms - 10 ∧ fX8_init_24 c40 s40 24 w39 (fun w40 =>
  ∀ w41 : zW, w41 = sR w40 a0 6 24 →
  fX11_init_J104 a0 k ((mc - 1) - c40) ((ms - 10) - s40)  w41)
set_option maxHeartbeats 4000000 in
set_option maxRecDepth 100000 in
theorem mX11_init_J93 {k : zW → Prop} {a0 : Nat} (X : zCx p s m args meth c cX11_init 2 RX11 none) (hQ : zRetAV p l e R s m args below meth c Q D dA false ad0 al0 cX11_init k) (hin : meth.name = "<init>")  {cells slots mc ms : Nat}  {ad : Nat → Nat} {al : Nat → Prop} {w : zW} {H : Heap} {locs : List Loc} {ls : Array Slot} (ha0 : al a0 ∧ zsh a0 = 11) (hf : fX11_init_J93 a0 k mc ms  w) (hX : zExt ad0 al0 ad al) (hr : zRm R 3 (cells + mc) (slots + ms)) (hR : zSt D dA false ad0 al0 ad al w s H locs) (hl : lv_has ls 2 [(0, .ref (ad a0))]) : W p l e R s m args below meth c H locs cells slots Q (F0 m 93 ls []) := by
  have hx := X.1
  have hb := X.2.1
  have hml := X.2.2.1
  have hown := X.2.2.2.1
  have hts := X.2.2.2.2.1
  unfold fX11_init_J93 at hf
  refine lv_aload_n hx hb dX11_init_93 rfl (lv_at hl 0 rfl) ?_
  have hw39_1 : al a0 := ha0.1
  have hv39_1 : al a0 := ha0.1
  obtain ⟨hg39, hc39, hs39, hf⟩ := hf
  refine z_newo (N := 10) X (hr.new hc39 hs39) hR (j := 24) (fun h9 => absurd h9 (by decide)) hg39 zs_24 (by decide) (q := (RX8, TX8, 10)) rfl rfl tyX8 tyX8_ok (by decide +kernel) zq_33 zq_34 zq_35 dX11_init_94 (fun ad39 al39 H hE39 hj39 hR => ?_)
  obtain ⟨w39, hw39⟩ : ∃ z : zW, z = nW w 24 := ⟨_, rfl⟩
  rw [← hw39] at hR
  replace hf := hf w39 hw39
  have hX := hX.tr hE39
  have hr := hr.after hc39 hs39
  have ha0 : al39 a0 ∧ zsh a0 = 11 := ⟨(hE39 _ ha0.1).1, ha0.2⟩
  rw [← (hE39 a0 hw39_1).2] at hl
  rw [← (hE39 a0 hv39_1).2]
  have hn39 : al39 24 ∧ zsh 24 = 8 := ⟨hj39, zs_24⟩
  refine lv_dup hx hb dX11_init_97 rfl ?_
  have hw40_1 : al39 a0 := ha0.1
  have hv40_1 : al39 24 := hn39.1
  have hv40_2 : al39 a0 := ha0.1
  obtain ⟨c40, s40, hc40, hs40, hf⟩ := hf
  refine z_callANV (fr1 := 1) (mc := c40) (ms := s40) (b := 24) (As := []) (rest := [.ref (ad39 24), .ref (ad39 a0)]) X (hr.call hc40 hs40 (by decide)) hR (host := RX11) zn_49 rfl zq_93 zq_92 zq_35 ⟨by decide, by decide⟩ (np := 0) (by decide +kernel) (by decide) (mX8_init_24 ⟨hn39.1, hn39.2⟩ hf) rfl hl (Nat.le_of_ble_eq_true rfl) dX11_init_98 rfl (fun w40 H locs ad40 al40 hf hE40 hR => ?_)
  have hX := hX.tr hE40
  have hr := hr.after hc40 hs40
  have ha0 : al40 a0 ∧ zsh a0 = 11 := ⟨(hE40 _ ha0.1).1, ha0.2⟩
  have hn39 := And.intro (hE40 _ hn39.1).1 hn39.2
  rw [← (hE40 a0 hw40_1).2] at hl
  rw [← (hE40 24 hv40_1).2]
  rw [← (hE40 a0 hv40_2).2]
  refine z_putFR X hR hin ha0.1 ha0.2 (by decide) zff_X11_50 rfl rfl (by decide) hn39.1 (by rw [zdc_of ha0.2 rfl]; exact hn39.2) dX11_init_101 (fun H locs hR => ?_)
  obtain ⟨w41, hw41⟩ : ∃ z : zW, z = sR w40 a0 6 24 := ⟨_, rfl⟩
  rw [← hw41] at hR
  replace hf := hf w41 hw41
  exact mX11_init_J104 X hQ hin  ha0 hf hX hr hR (lv_sub hl [0] rfl)
def fX11_init_J82 (a0 : Nat) (k : zW → Prop) (mc ms : Nat)  (w : zW) : Prop :=
  ¬ gI w 0 21 = 1 ∧ 1 ≤ mc ∧ 3 ≤ ms ∧ ∀ w36 : zW, w36 = nW w 21 →
  ∃ c37 s37, c37 ≤ mc - 1 ∧ s37 ≤ ms - 3 ∧ fX6_init_21 c37 s37 21 w36 (fun w37 =>
  ∀ w38 : zW, w38 = sR w37 a0 5 21 →
  fX11_init_J93 a0 k ((mc - 1) - c37) ((ms - 3) - s37)  w38)
set_option maxHeartbeats 4000000 in
set_option maxRecDepth 100000 in
theorem mX11_init_J82 {k : zW → Prop} {a0 : Nat} (X : zCx p s m args meth c cX11_init 2 RX11 none) (hQ : zRetAV p l e R s m args below meth c Q D dA false ad0 al0 cX11_init k) (hin : meth.name = "<init>")  {cells slots mc ms : Nat}  {ad : Nat → Nat} {al : Nat → Prop} {w : zW} {H : Heap} {locs : List Loc} {ls : Array Slot} (ha0 : al a0 ∧ zsh a0 = 11) (hf : fX11_init_J82 a0 k mc ms  w) (hX : zExt ad0 al0 ad al) (hr : zRm R 3 (cells + mc) (slots + ms)) (hR : zSt D dA false ad0 al0 ad al w s H locs) (hl : lv_has ls 2 [(0, .ref (ad a0))]) : W p l e R s m args below meth c H locs cells slots Q (F0 m 82 ls []) := by
  have hx := X.1
  have hb := X.2.1
  have hml := X.2.2.1
  have hown := X.2.2.2.1
  have hts := X.2.2.2.2.1
  unfold fX11_init_J82 at hf
  refine lv_aload_n hx hb dX11_init_82 rfl (lv_at hl 0 rfl) ?_
  have hw36_1 : al a0 := ha0.1
  have hv36_1 : al a0 := ha0.1
  obtain ⟨hg36, hc36, hs36, hf⟩ := hf
  refine z_newo (N := 3) X (hr.new hc36 hs36) hR (j := 21) (fun h9 => absurd h9 (by decide)) hg36 zs_21 (by decide) (q := (RX6, TX6, 3)) rfl rfl tyX6 tyX6_ok (by decide +kernel) zq_29 zq_30 zq_31 dX11_init_83 (fun ad36 al36 H hE36 hj36 hR => ?_)
  obtain ⟨w36, hw36⟩ : ∃ z : zW, z = nW w 21 := ⟨_, rfl⟩
  rw [← hw36] at hR
  replace hf := hf w36 hw36
  have hX := hX.tr hE36
  have hr := hr.after hc36 hs36
  have ha0 : al36 a0 ∧ zsh a0 = 11 := ⟨(hE36 _ ha0.1).1, ha0.2⟩
  rw [← (hE36 a0 hw36_1).2] at hl
  rw [← (hE36 a0 hv36_1).2]
  have hn36 : al36 21 ∧ zsh 21 = 6 := ⟨hj36, zs_21⟩
  refine lv_dup hx hb dX11_init_86 rfl ?_
  have hw37_1 : al36 a0 := ha0.1
  have hv37_1 : al36 21 := hn36.1
  have hv37_2 : al36 a0 := ha0.1
  obtain ⟨c37, s37, hc37, hs37, hf⟩ := hf
  refine z_callANV (fr1 := 1) (mc := c37) (ms := s37) (b := 21) (As := []) (rest := [.ref (ad36 21), .ref (ad36 a0)]) X (hr.call hc37 hs37 (by decide)) hR (host := RX11) zn_42 rfl zq_88 zq_87 zq_31 ⟨by decide, by decide⟩ (np := 0) (by decide +kernel) (by decide) (mX6_init_21 ⟨hn36.1, hn36.2⟩ hf) rfl hl (Nat.le_of_ble_eq_true rfl) dX11_init_87 rfl (fun w37 H locs ad37 al37 hf hE37 hR => ?_)
  have hX := hX.tr hE37
  have hr := hr.after hc37 hs37
  have ha0 : al37 a0 ∧ zsh a0 = 11 := ⟨(hE37 _ ha0.1).1, ha0.2⟩
  have hn36 := And.intro (hE37 _ hn36.1).1 hn36.2
  rw [← (hE37 a0 hw37_1).2] at hl
  rw [← (hE37 21 hv37_1).2]
  rw [← (hE37 a0 hv37_2).2]
  refine z_putFR X hR hin ha0.1 ha0.2 (by decide) zff_X11_43 rfl rfl (by decide) hn36.1 (by rw [zdc_of ha0.2 rfl]; exact hn36.2) dX11_init_90 (fun H locs hR => ?_)
  obtain ⟨w38, hw38⟩ : ∃ z : zW, z = sR w37 a0 5 21 := ⟨_, rfl⟩
  rw [← hw38] at hR
  replace hf := hf w38 hw38
  exact mX11_init_J93 X hQ hin  ha0 hf hX hr hR (lv_sub hl [0] rfl)
def fX11_init_J75 (a0 : Nat) (k : zW → Prop) (mc ms : Nat)  (w : zW) : Prop :=
  ¬ gI w 0 20 = 1 ∧ 1 ≤ mc ∧ 4 ≤ ms ∧ ∀ w34 : zW, w34 = nW w 20 →
  ∀ w35 : zW, w35 = sR w34 a0 4 20 →
  fX11_init_J82 a0 k (mc - 1) (ms - 4)  w35
set_option maxHeartbeats 4000000 in
set_option maxRecDepth 100000 in
theorem mX11_init_J75 {k : zW → Prop} {a0 : Nat} (X : zCx p s m args meth c cX11_init 2 RX11 none) (hQ : zRetAV p l e R s m args below meth c Q D dA false ad0 al0 cX11_init k) (hin : meth.name = "<init>")  {cells slots mc ms : Nat}  {ad : Nat → Nat} {al : Nat → Prop} {w : zW} {H : Heap} {locs : List Loc} {ls : Array Slot} (ha0 : al a0 ∧ zsh a0 = 11) (hf : fX11_init_J75 a0 k mc ms  w) (hX : zExt ad0 al0 ad al) (hr : zRm R 3 (cells + mc) (slots + ms)) (hR : zSt D dA false ad0 al0 ad al w s H locs) (hl : lv_has ls 2 [(0, .ref (ad a0))]) : W p l e R s m args below meth c H locs cells slots Q (F0 m 75 ls []) := by
  have hx := X.1
  have hb := X.2.1
  have hml := X.2.2.1
  have hown := X.2.2.2.1
  have hts := X.2.2.2.2.1
  unfold fX11_init_J75 at hf
  refine lv_aload_n hx hb dX11_init_75 rfl (lv_at hl 0 rfl) ?_
  refine lv_iconst (v := (4 : Int32)) hx hb dX11_init_76 (by decide) ?_
  have hw34_1 : al a0 := ha0.1
  have hv34_1 : al a0 := ha0.1
  obtain ⟨hg34, hc34, hs34, hf⟩ := hf
  refine z_newaZ (N := 4) X (hr.new hc34 hs34) hR (j := 20) (fun h9 => absurd h9 (by decide)) hg34 zs_20 zl_20 (by decide) (by decide) (by decide) zq_27 dX11_init_77 (fun ad34 al34 H hE34 hj34 hR => ?_)
  obtain ⟨w34, hw34⟩ : ∃ z : zW, z = nW w 20 := ⟨_, rfl⟩
  rw [← hw34] at hR
  replace hf := hf w34 hw34
  have hX := hX.tr hE34
  have hr := hr.after hc34 hs34
  have ha0 : al34 a0 ∧ zsh a0 = 11 := ⟨(hE34 _ ha0.1).1, ha0.2⟩
  rw [← (hE34 a0 hw34_1).2] at hl
  rw [← (hE34 a0 hv34_1).2]
  refine z_putFR X hR hin ha0.1 ha0.2 (by decide) zff_X11_36 rfl rfl (by decide) hj34 (by rw [zdc_of ha0.2 rfl]; exact zs_20) dX11_init_79 (fun H locs hR => ?_)
  obtain ⟨w35, hw35⟩ : ∃ z : zW, z = sR w34 a0 4 20 := ⟨_, rfl⟩
  rw [← hw35] at hR
  replace hf := hf w35 hw35
  exact mX11_init_J82 X hQ hin  ha0 hf hX hr hR (lv_sub hl [0] rfl)
def fX11_init_J41 (a0 : Nat) (k : zW → Prop) (mc ms : Nat)  (w : zW) : Prop :=
  ¬ gI w 0 11 = 1 ∧ 1 ≤ mc ∧ 4 ≤ ms ∧ ∀ w11 : zW, w11 = nW w 11 →
  ∀ w12 : zW, w12 = sR w11 a0 3 11 →
  ¬ gR w12 a0 3 = 0 ∧
  ¬ gI w12 0 12 = 1 ∧ 1 ≤ mc - 1 ∧ 1 ≤ ms - 4 ∧ ∀ w15 : zW, w15 = nW w12 12 →
  ∃ c16 s16, c16 ≤ (mc - 1) - 1 ∧ s16 ≤ (ms - 4) - 1 ∧ fX3_init_12 c16 s16 12 w15 (fun w16 =>
  zln (gR w12 a0 3) = 4 ∧
  ∀ w17 : zW, w17 = sR w16 (gR w12 a0 3) 0 12 →
  ¬ gR w17 a0 3 = 0 ∧
  ¬ gI w17 0 14 = 1 ∧ 1 ≤ ((mc - 1) - 1) - c16 ∧ 1 ≤ ((ms - 4) - 1) - s16 ∧ ∀ w20 : zW, w20 = nW w17 14 →
  ∃ c21 s21, c21 ≤ (((mc - 1) - 1) - c16) - 1 ∧ s21 ≤ (((ms - 4) - 1) - s16) - 1 ∧ fX3_init_14 c21 s21 14 w20 (fun w21 =>
  zln (gR w17 a0 3) = 4 ∧
  ∀ w22 : zW, w22 = sR w21 (gR w17 a0 3) 1 14 →
  ¬ gR w22 a0 3 = 0 ∧
  ¬ gI w22 0 16 = 1 ∧ 1 ≤ ((((mc - 1) - 1) - c16) - 1) - c21 ∧ 1 ≤ ((((ms - 4) - 1) - s16) - 1) - s21 ∧ ∀ w25 : zW, w25 = nW w22 16 →
  ∃ c26 s26, c26 ≤ (((((mc - 1) - 1) - c16) - 1) - c21) - 1 ∧ s26 ≤ (((((ms - 4) - 1) - s16) - 1) - s21) - 1 ∧ fX3_init_16 c26 s26 16 w25 (fun w26 =>
  zln (gR w22 a0 3) = 4 ∧
  ∀ w27 : zW, w27 = sR w26 (gR w22 a0 3) 2 16 →
  ¬ gR w27 a0 3 = 0 ∧
  ¬ gI w27 0 18 = 1 ∧ 1 ≤ ((((((mc - 1) - 1) - c16) - 1) - c21) - 1) - c26 ∧ 1 ≤ ((((((ms - 4) - 1) - s16) - 1) - s21) - 1) - s26 ∧ ∀ w30 : zW, w30 = nW w27 18 →
  ∃ c31 s31, c31 ≤ (((((((mc - 1) - 1) - c16) - 1) - c21) - 1) - c26) - 1 ∧ s31 ≤ (((((((ms - 4) - 1) - s16) - 1) - s21) - 1) - s26) - 1 ∧ fX3_init_18 c31 s31 18 w30 (fun w31 =>
  zln (gR w27 a0 3) = 4 ∧
  ∀ w32 : zW, w32 = sR w31 (gR w27 a0 3) 3 18 →
  fX11_init_J75 a0 k (((((((((mc - 1) - 1) - c16) - 1) - c21) - 1) - c26) - 1) - c31) (((((((((ms - 4) - 1) - s16) - 1) - s21) - 1) - s26) - 1) - s31)  w32))))
set_option maxHeartbeats 4000000 in
set_option maxRecDepth 100000 in
theorem mX11_init_J41 {k : zW → Prop} {a0 : Nat} (X : zCx p s m args meth c cX11_init 2 RX11 none) (hQ : zRetAV p l e R s m args below meth c Q D dA false ad0 al0 cX11_init k) (hin : meth.name = "<init>")  {cells slots mc ms : Nat}  {ad : Nat → Nat} {al : Nat → Prop} {w : zW} {H : Heap} {locs : List Loc} {ls : Array Slot} (ha0 : al a0 ∧ zsh a0 = 11) (hf : fX11_init_J41 a0 k mc ms  w) (hX : zExt ad0 al0 ad al) (hr : zRm R 3 (cells + mc) (slots + ms)) (hR : zSt D dA false ad0 al0 ad al w s H locs) (hl : lv_has ls 2 [(0, .ref (ad a0))]) : W p l e R s m args below meth c H locs cells slots Q (F0 m 41 ls []) := by
  have hx := X.1
  have hb := X.2.1
  have hml := X.2.2.1
  have hown := X.2.2.2.1
  have hts := X.2.2.2.2.1
  unfold fX11_init_J41 at hf
  refine lv_aload_n hx hb dX11_init_41 rfl (lv_at hl 0 rfl) ?_
  refine lv_iconst (v := (4 : Int32)) hx hb dX11_init_42 (by decide) ?_
  have hw11_1 : al a0 := ha0.1
  have hv11_1 : al a0 := ha0.1
  obtain ⟨hg11, hc11, hs11, hf⟩ := hf
  refine z_anewH (N := 4) X (hr.new hc11 hs11) hR (j := 11) hg11 zs_11 zl_11 (by decide) (by decide) (by decide) zq_22 dX11_init_43 (fun ad11 al11 H hE11 hj11 hR => ?_)
  obtain ⟨w11, hw11⟩ : ∃ z : zW, z = nW w 11 := ⟨_, rfl⟩
  rw [← hw11] at hR
  replace hf := hf w11 hw11
  have hX := hX.tr hE11
  have hr := hr.after hc11 hs11
  have ha0 : al11 a0 ∧ zsh a0 = 11 := ⟨(hE11 _ ha0.1).1, ha0.2⟩
  rw [← (hE11 a0 hw11_1).2] at hl
  rw [← (hE11 a0 hv11_1).2]
  refine z_putFR X hR hin ha0.1 ha0.2 (by decide) zff_X11_32 rfl rfl (by decide) hj11 (by rw [zdc_of ha0.2 rfl]; exact zs_11) dX11_init_46 (fun H locs hR => ?_)
  obtain ⟨w12, hw12⟩ : ∃ z : zW, z = sR w11 a0 3 11 := ⟨_, rfl⟩
  rw [← hw12] at hR
  replace hf := hf w12 hw12
  refine lv_iconst (v := (0 : Int32)) hx hb dX11_init_49 (by decide) ?_
  refine lv_istore_n (lv' := [(1, .int (0 : Int32)), (0, .ref (ad11 a0))]) hx hb dX11_init_50 rfl hl (by decide) rfl (fun ls hl => ?_)
  refine lv_iload_n hx hb dX11_init_51 rfl (lv_at hl 0 rfl) ?_
  refine lv_iconst (v := (4 : Int32)) hx hb dX11_init_52 (by decide) ?_
  refine lv_icmp_ge (tgt := 75) hx hb dX11_init_53 (by decide) (fun c13 => absurd c13 (by decide)) (fun c13 => ?_)
  refine lv_aload_n hx hb dX11_init_56 rfl (lv_at hl 1 rfl) ?_
  refine z_getR X hR ha0.1 ha0.2 (by decide) zfd_X11_32 rfl dX11_init_57 ?_
  obtain ⟨hn140, hf⟩ := hf
  have hn14 : al11 (gR w12 a0 3) ∧ zsh (gR w12 a0 3) = 25 := zwt_ofM hR ha0.1 ha0.2 rfl hn140 (zdc_of ha0.2 rfl)
  rw [zrf_pos hn140]
  refine lv_iload_n hx hb dX11_init_60 rfl (lv_at hl 0 rfl) ?_
  have hw15_1 : al11 a0 := ha0.1
  have hv15_1 : al11 (gR w12 a0 3) := hn14.1
  obtain ⟨hg15, hc15, hs15, hf⟩ := hf
  refine z_newo (N := 1) X (hr.new hc15 hs15) hR (j := 12) (fun h9 => absurd h9 (by decide)) hg15 zs_12 (by decide) (q := (RX3, TX3, 1)) rfl rfl tyX3 tyX3_ok (by decide +kernel) zq_22 zq_23 zq_24 dX11_init_61 (fun ad15 al15 H hE15 hj15 hR => ?_)
  obtain ⟨w15, hw15⟩ : ∃ z : zW, z = nW w12 12 := ⟨_, rfl⟩
  rw [← hw15] at hR
  replace hf := hf w15 hw15
  have hX := hX.tr hE15
  have hr := hr.after hc15 hs15
  have ha0 : al15 a0 ∧ zsh a0 = 11 := ⟨(hE15 _ ha0.1).1, ha0.2⟩
  have hn14 := And.intro (hE15 _ hn14.1).1 hn14.2
  rw [← (hE15 a0 hw15_1).2] at hl
  rw [← (hE15 (gR w12 a0 3) hv15_1).2]
  have hn15 : al15 12 ∧ zsh 12 = 3 := ⟨hj15, zs_12⟩
  refine lv_dup hx hb dX11_init_64 rfl ?_
  have hw16_1 : al15 a0 := ha0.1
  have hv16_1 : al15 12 := hn15.1
  have hv16_2 : al15 (gR w12 a0 3) := hn14.1
  obtain ⟨c16, s16, hc16, hs16, hf⟩ := hf
  refine z_callAIV (fr1 := 1) (mc := c16) (ms := s16) (b := 12) (As := []) (rest := [.ref (ad15 12), .int (0 : Int32), .ref (ad15 (gR w12 a0 3))]) X (hr.call hc16 hs16 (by decide)) hR zq_78 rfl zq_80 zq_79 zq_24 ⟨by decide, by decide⟩ (np := 0) (by decide +kernel) (by decide) (mX3_init_12 ⟨hn15.1, hn15.2⟩ hf) rfl hl (Nat.le_of_ble_eq_true rfl) dX11_init_65 rfl (fun w16 H locs ad16 al16 hf hE16 hR => ?_)
  have hX := hX.tr hE16
  have hr := hr.after hc16 hs16
  have ha0 : al16 a0 ∧ zsh a0 = 11 := ⟨(hE16 _ ha0.1).1, ha0.2⟩
  have hn14 := And.intro (hE16 _ hn14.1).1 hn14.2
  have hn15 := And.intro (hE16 _ hn15.1).1 hn15.2
  rw [← (hE16 a0 hw16_1).2] at hl
  rw [← (hE16 12 hv16_1).2]
  rw [← (hE16 (gR w12 a0 3) hv16_2).2]
  obtain ⟨hb17, hf⟩ := hf
  refine z_aast (iN := 0) X hR hn14.1 hn14.2 hb17 (by decide) (zin (by decide)) (by decide) hn15.1 hn15.2 dX11_init_68 (fun H locs hR => ?_)
  obtain ⟨w17, hw17⟩ : ∃ z : zW, z = sR w16 (gR w12 a0 3) 0 12 := ⟨_, rfl⟩
  rw [← hw17] at hR
  replace hf := hf w17 hw17
  refine lv_iinc (v := (1 : Int32)) (lv' := [(1, .int (1 : Int32)), (0, .ref (ad16 a0))]) hx hb dX11_init_69 hl (k := 0) rfl rfl (by decide) rfl (fun ls hl => ?_)
  refine lv_goto (tgt := 51) hx hb dX11_init_72 (by decide) ?_
  refine lv_iload_n hx hb dX11_init_51 rfl (lv_at hl 0 rfl) ?_
  refine lv_iconst (v := (4 : Int32)) hx hb dX11_init_52 (by decide) ?_
  refine lv_icmp_ge (tgt := 75) hx hb dX11_init_53 (by decide) (fun c18 => absurd c18 (by decide)) (fun c18 => ?_)
  refine lv_aload_n hx hb dX11_init_56 rfl (lv_at hl 1 rfl) ?_
  refine z_getR X hR ha0.1 ha0.2 (by decide) zfd_X11_32 rfl dX11_init_57 ?_
  obtain ⟨hn190, hf⟩ := hf
  have hn19 : al16 (gR w17 a0 3) ∧ zsh (gR w17 a0 3) = 25 := zwt_ofM hR ha0.1 ha0.2 rfl hn190 (zdc_of ha0.2 rfl)
  rw [zrf_pos hn190]
  refine lv_iload_n hx hb dX11_init_60 rfl (lv_at hl 0 rfl) ?_
  have hw20_1 : al16 a0 := ha0.1
  have hv20_1 : al16 (gR w17 a0 3) := hn19.1
  obtain ⟨hg20, hc20, hs20, hf⟩ := hf
  refine z_newo (N := 1) X (hr.new hc20 hs20) hR (j := 14) (fun h9 => absurd h9 (by decide)) hg20 zs_14 (by decide) (q := (RX3, TX3, 1)) rfl rfl tyX3 tyX3_ok (by decide +kernel) zq_22 zq_23 zq_24 dX11_init_61 (fun ad20 al20 H hE20 hj20 hR => ?_)
  obtain ⟨w20, hw20⟩ : ∃ z : zW, z = nW w17 14 := ⟨_, rfl⟩
  rw [← hw20] at hR
  replace hf := hf w20 hw20
  have hX := hX.tr hE20
  have hr := hr.after hc20 hs20
  have ha0 : al20 a0 ∧ zsh a0 = 11 := ⟨(hE20 _ ha0.1).1, ha0.2⟩
  have hn14 := And.intro (hE20 _ hn14.1).1 hn14.2
  have hn15 := And.intro (hE20 _ hn15.1).1 hn15.2
  have hn19 := And.intro (hE20 _ hn19.1).1 hn19.2
  rw [← (hE20 a0 hw20_1).2] at hl
  rw [← (hE20 (gR w17 a0 3) hv20_1).2]
  have hn20 : al20 14 ∧ zsh 14 = 3 := ⟨hj20, zs_14⟩
  refine lv_dup hx hb dX11_init_64 rfl ?_
  have hw21_1 : al20 a0 := ha0.1
  have hv21_1 : al20 14 := hn20.1
  have hv21_2 : al20 (gR w17 a0 3) := hn19.1
  obtain ⟨c21, s21, hc21, hs21, hf⟩ := hf
  refine z_callAIV (fr1 := 1) (mc := c21) (ms := s21) (b := 14) (As := []) (rest := [.ref (ad20 14), .int (1 : Int32), .ref (ad20 (gR w17 a0 3))]) X (hr.call hc21 hs21 (by decide)) hR zq_78 rfl zq_80 zq_79 zq_24 ⟨by decide, by decide⟩ (np := 0) (by decide +kernel) (by decide) (mX3_init_14 ⟨hn20.1, hn20.2⟩ hf) rfl hl (Nat.le_of_ble_eq_true rfl) dX11_init_65 rfl (fun w21 H locs ad21 al21 hf hE21 hR => ?_)
  have hX := hX.tr hE21
  have hr := hr.after hc21 hs21
  have ha0 : al21 a0 ∧ zsh a0 = 11 := ⟨(hE21 _ ha0.1).1, ha0.2⟩
  have hn14 := And.intro (hE21 _ hn14.1).1 hn14.2
  have hn15 := And.intro (hE21 _ hn15.1).1 hn15.2
  have hn19 := And.intro (hE21 _ hn19.1).1 hn19.2
  have hn20 := And.intro (hE21 _ hn20.1).1 hn20.2
  rw [← (hE21 a0 hw21_1).2] at hl
  rw [← (hE21 14 hv21_1).2]
  rw [← (hE21 (gR w17 a0 3) hv21_2).2]
  obtain ⟨hb22, hf⟩ := hf
  refine z_aast (iN := 1) X hR hn19.1 hn19.2 hb22 (by decide) (zin (by decide)) (by decide) hn20.1 hn20.2 dX11_init_68 (fun H locs hR => ?_)
  obtain ⟨w22, hw22⟩ : ∃ z : zW, z = sR w21 (gR w17 a0 3) 1 14 := ⟨_, rfl⟩
  rw [← hw22] at hR
  replace hf := hf w22 hw22
  refine lv_iinc (v := (2 : Int32)) (lv' := [(1, .int (2 : Int32)), (0, .ref (ad21 a0))]) hx hb dX11_init_69 hl (k := 0) rfl rfl (by decide) rfl (fun ls hl => ?_)
  refine lv_goto (tgt := 51) hx hb dX11_init_72 (by decide) ?_
  refine lv_iload_n hx hb dX11_init_51 rfl (lv_at hl 0 rfl) ?_
  refine lv_iconst (v := (4 : Int32)) hx hb dX11_init_52 (by decide) ?_
  refine lv_icmp_ge (tgt := 75) hx hb dX11_init_53 (by decide) (fun c23 => absurd c23 (by decide)) (fun c23 => ?_)
  refine lv_aload_n hx hb dX11_init_56 rfl (lv_at hl 1 rfl) ?_
  refine z_getR X hR ha0.1 ha0.2 (by decide) zfd_X11_32 rfl dX11_init_57 ?_
  obtain ⟨hn240, hf⟩ := hf
  have hn24 : al21 (gR w22 a0 3) ∧ zsh (gR w22 a0 3) = 25 := zwt_ofM hR ha0.1 ha0.2 rfl hn240 (zdc_of ha0.2 rfl)
  rw [zrf_pos hn240]
  refine lv_iload_n hx hb dX11_init_60 rfl (lv_at hl 0 rfl) ?_
  have hw25_1 : al21 a0 := ha0.1
  have hv25_1 : al21 (gR w22 a0 3) := hn24.1
  obtain ⟨hg25, hc25, hs25, hf⟩ := hf
  refine z_newo (N := 1) X (hr.new hc25 hs25) hR (j := 16) (fun h9 => absurd h9 (by decide)) hg25 zs_16 (by decide) (q := (RX3, TX3, 1)) rfl rfl tyX3 tyX3_ok (by decide +kernel) zq_22 zq_23 zq_24 dX11_init_61 (fun ad25 al25 H hE25 hj25 hR => ?_)
  obtain ⟨w25, hw25⟩ : ∃ z : zW, z = nW w22 16 := ⟨_, rfl⟩
  rw [← hw25] at hR
  replace hf := hf w25 hw25
  have hX := hX.tr hE25
  have hr := hr.after hc25 hs25
  have ha0 : al25 a0 ∧ zsh a0 = 11 := ⟨(hE25 _ ha0.1).1, ha0.2⟩
  have hn14 := And.intro (hE25 _ hn14.1).1 hn14.2
  have hn15 := And.intro (hE25 _ hn15.1).1 hn15.2
  have hn19 := And.intro (hE25 _ hn19.1).1 hn19.2
  have hn20 := And.intro (hE25 _ hn20.1).1 hn20.2
  have hn24 := And.intro (hE25 _ hn24.1).1 hn24.2
  rw [← (hE25 a0 hw25_1).2] at hl
  rw [← (hE25 (gR w22 a0 3) hv25_1).2]
  have hn25 : al25 16 ∧ zsh 16 = 3 := ⟨hj25, zs_16⟩
  refine lv_dup hx hb dX11_init_64 rfl ?_
  have hw26_1 : al25 a0 := ha0.1
  have hv26_1 : al25 16 := hn25.1
  have hv26_2 : al25 (gR w22 a0 3) := hn24.1
  obtain ⟨c26, s26, hc26, hs26, hf⟩ := hf
  refine z_callAIV (fr1 := 1) (mc := c26) (ms := s26) (b := 16) (As := []) (rest := [.ref (ad25 16), .int (2 : Int32), .ref (ad25 (gR w22 a0 3))]) X (hr.call hc26 hs26 (by decide)) hR zq_78 rfl zq_80 zq_79 zq_24 ⟨by decide, by decide⟩ (np := 0) (by decide +kernel) (by decide) (mX3_init_16 ⟨hn25.1, hn25.2⟩ hf) rfl hl (Nat.le_of_ble_eq_true rfl) dX11_init_65 rfl (fun w26 H locs ad26 al26 hf hE26 hR => ?_)
  have hX := hX.tr hE26
  have hr := hr.after hc26 hs26
  have ha0 : al26 a0 ∧ zsh a0 = 11 := ⟨(hE26 _ ha0.1).1, ha0.2⟩
  have hn14 := And.intro (hE26 _ hn14.1).1 hn14.2
  have hn15 := And.intro (hE26 _ hn15.1).1 hn15.2
  have hn19 := And.intro (hE26 _ hn19.1).1 hn19.2
  have hn20 := And.intro (hE26 _ hn20.1).1 hn20.2
  have hn24 := And.intro (hE26 _ hn24.1).1 hn24.2
  have hn25 := And.intro (hE26 _ hn25.1).1 hn25.2
  rw [← (hE26 a0 hw26_1).2] at hl
  rw [← (hE26 16 hv26_1).2]
  rw [← (hE26 (gR w22 a0 3) hv26_2).2]
  obtain ⟨hb27, hf⟩ := hf
  refine z_aast (iN := 2) X hR hn24.1 hn24.2 hb27 (by decide) (zin (by decide)) (by decide) hn25.1 hn25.2 dX11_init_68 (fun H locs hR => ?_)
  obtain ⟨w27, hw27⟩ : ∃ z : zW, z = sR w26 (gR w22 a0 3) 2 16 := ⟨_, rfl⟩
  rw [← hw27] at hR
  replace hf := hf w27 hw27
  refine lv_iinc (v := (3 : Int32)) (lv' := [(1, .int (3 : Int32)), (0, .ref (ad26 a0))]) hx hb dX11_init_69 hl (k := 0) rfl rfl (by decide) rfl (fun ls hl => ?_)
  refine lv_goto (tgt := 51) hx hb dX11_init_72 (by decide) ?_
  refine lv_iload_n hx hb dX11_init_51 rfl (lv_at hl 0 rfl) ?_
  refine lv_iconst (v := (4 : Int32)) hx hb dX11_init_52 (by decide) ?_
  refine lv_icmp_ge (tgt := 75) hx hb dX11_init_53 (by decide) (fun c28 => absurd c28 (by decide)) (fun c28 => ?_)
  refine lv_aload_n hx hb dX11_init_56 rfl (lv_at hl 1 rfl) ?_
  refine z_getR X hR ha0.1 ha0.2 (by decide) zfd_X11_32 rfl dX11_init_57 ?_
  obtain ⟨hn290, hf⟩ := hf
  have hn29 : al26 (gR w27 a0 3) ∧ zsh (gR w27 a0 3) = 25 := zwt_ofM hR ha0.1 ha0.2 rfl hn290 (zdc_of ha0.2 rfl)
  rw [zrf_pos hn290]
  refine lv_iload_n hx hb dX11_init_60 rfl (lv_at hl 0 rfl) ?_
  have hw30_1 : al26 a0 := ha0.1
  have hv30_1 : al26 (gR w27 a0 3) := hn29.1
  obtain ⟨hg30, hc30, hs30, hf⟩ := hf
  refine z_newo (N := 1) X (hr.new hc30 hs30) hR (j := 18) (fun h9 => absurd h9 (by decide)) hg30 zs_18 (by decide) (q := (RX3, TX3, 1)) rfl rfl tyX3 tyX3_ok (by decide +kernel) zq_22 zq_23 zq_24 dX11_init_61 (fun ad30 al30 H hE30 hj30 hR => ?_)
  obtain ⟨w30, hw30⟩ : ∃ z : zW, z = nW w27 18 := ⟨_, rfl⟩
  rw [← hw30] at hR
  replace hf := hf w30 hw30
  have hX := hX.tr hE30
  have hr := hr.after hc30 hs30
  have ha0 : al30 a0 ∧ zsh a0 = 11 := ⟨(hE30 _ ha0.1).1, ha0.2⟩
  have hn14 := And.intro (hE30 _ hn14.1).1 hn14.2
  have hn15 := And.intro (hE30 _ hn15.1).1 hn15.2
  have hn19 := And.intro (hE30 _ hn19.1).1 hn19.2
  have hn20 := And.intro (hE30 _ hn20.1).1 hn20.2
  have hn24 := And.intro (hE30 _ hn24.1).1 hn24.2
  have hn25 := And.intro (hE30 _ hn25.1).1 hn25.2
  have hn29 := And.intro (hE30 _ hn29.1).1 hn29.2
  rw [← (hE30 a0 hw30_1).2] at hl
  rw [← (hE30 (gR w27 a0 3) hv30_1).2]
  have hn30 : al30 18 ∧ zsh 18 = 3 := ⟨hj30, zs_18⟩
  refine lv_dup hx hb dX11_init_64 rfl ?_
  have hw31_1 : al30 a0 := ha0.1
  have hv31_1 : al30 18 := hn30.1
  have hv31_2 : al30 (gR w27 a0 3) := hn29.1
  obtain ⟨c31, s31, hc31, hs31, hf⟩ := hf
  refine z_callAIV (fr1 := 1) (mc := c31) (ms := s31) (b := 18) (As := []) (rest := [.ref (ad30 18), .int (3 : Int32), .ref (ad30 (gR w27 a0 3))]) X (hr.call hc31 hs31 (by decide)) hR zq_78 rfl zq_80 zq_79 zq_24 ⟨by decide, by decide⟩ (np := 0) (by decide +kernel) (by decide) (mX3_init_18 ⟨hn30.1, hn30.2⟩ hf) rfl hl (Nat.le_of_ble_eq_true rfl) dX11_init_65 rfl (fun w31 H locs ad31 al31 hf hE31 hR => ?_)
  have hX := hX.tr hE31
  have hr := hr.after hc31 hs31
  have ha0 : al31 a0 ∧ zsh a0 = 11 := ⟨(hE31 _ ha0.1).1, ha0.2⟩
  have hn14 := And.intro (hE31 _ hn14.1).1 hn14.2
  have hn15 := And.intro (hE31 _ hn15.1).1 hn15.2
  have hn19 := And.intro (hE31 _ hn19.1).1 hn19.2
  have hn20 := And.intro (hE31 _ hn20.1).1 hn20.2
  have hn24 := And.intro (hE31 _ hn24.1).1 hn24.2
  have hn25 := And.intro (hE31 _ hn25.1).1 hn25.2
  have hn29 := And.intro (hE31 _ hn29.1).1 hn29.2
  have hn30 := And.intro (hE31 _ hn30.1).1 hn30.2
  rw [← (hE31 a0 hw31_1).2] at hl
  rw [← (hE31 18 hv31_1).2]
  rw [← (hE31 (gR w27 a0 3) hv31_2).2]
  obtain ⟨hb32, hf⟩ := hf
  refine z_aast (iN := 3) X hR hn29.1 hn29.2 hb32 (by decide) (zin (by decide)) (by decide) hn30.1 hn30.2 dX11_init_68 (fun H locs hR => ?_)
  obtain ⟨w32, hw32⟩ : ∃ z : zW, z = sR w31 (gR w27 a0 3) 3 18 := ⟨_, rfl⟩
  rw [← hw32] at hR
  replace hf := hf w32 hw32
  refine lv_iinc (v := (4 : Int32)) (lv' := [(1, .int (4 : Int32)), (0, .ref (ad31 a0))]) hx hb dX11_init_69 hl (k := 0) rfl rfl (by decide) rfl (fun ls hl => ?_)
  refine lv_goto (tgt := 51) hx hb dX11_init_72 (by decide) ?_
  refine lv_iload_n hx hb dX11_init_51 rfl (lv_at hl 0 rfl) ?_
  refine lv_iconst (v := (4 : Int32)) hx hb dX11_init_52 (by decide) ?_
  refine lv_icmp_ge (tgt := 75) hx hb dX11_init_53 (by decide) (fun c33 => ?_) (fun c33 => absurd (by decide) c33)
  exact mX11_init_J75 X hQ hin  ha0 hf hX hr hR (lv_sub hl [1] rfl)
def fX11_init_J30 (a0 : Nat) (k : zW → Prop) (mc ms : Nat)  (w : zW) : Prop :=
  ¬ gI w 0 9 = 1 ∧ 1 ≤ mc ∧ 1 ≤ ms ∧ ∀ w8 : zW, w8 = nW w 9 →
  ∃ c9 s9, c9 ≤ mc - 1 ∧ s9 ≤ ms - 1 ∧ fX3_init_9 c9 s9 9 w8 (fun w9 =>
  ∀ w10 : zW, w10 = sR w9 a0 2 9 →
  fX11_init_J41 a0 k ((mc - 1) - c9) ((ms - 1) - s9)  w10)
set_option maxHeartbeats 4000000 in
set_option maxRecDepth 100000 in
theorem mX11_init_J30 {k : zW → Prop} {a0 : Nat} (X : zCx p s m args meth c cX11_init 2 RX11 none) (hQ : zRetAV p l e R s m args below meth c Q D dA false ad0 al0 cX11_init k) (hin : meth.name = "<init>")  {cells slots mc ms : Nat}  {ad : Nat → Nat} {al : Nat → Prop} {w : zW} {H : Heap} {locs : List Loc} {ls : Array Slot} (ha0 : al a0 ∧ zsh a0 = 11) (hf : fX11_init_J30 a0 k mc ms  w) (hX : zExt ad0 al0 ad al) (hr : zRm R 3 (cells + mc) (slots + ms)) (hR : zSt D dA false ad0 al0 ad al w s H locs) (hl : lv_has ls 2 [(0, .ref (ad a0))]) : W p l e R s m args below meth c H locs cells slots Q (F0 m 30 ls []) := by
  have hx := X.1
  have hb := X.2.1
  have hml := X.2.2.1
  have hown := X.2.2.2.1
  have hts := X.2.2.2.2.1
  unfold fX11_init_J30 at hf
  refine lv_aload_n hx hb dX11_init_30 rfl (lv_at hl 0 rfl) ?_
  have hw8_1 : al a0 := ha0.1
  have hv8_1 : al a0 := ha0.1
  obtain ⟨hg8, hc8, hs8, hf⟩ := hf
  refine z_newo (N := 1) X (hr.new hc8 hs8) hR (j := 9) (fun h9 => absurd h9 (by decide)) hg8 zs_9 (by decide) (q := (RX3, TX3, 1)) rfl rfl tyX3 tyX3_ok (by decide +kernel) zq_22 zq_23 zq_24 dX11_init_31 (fun ad8 al8 H hE8 hj8 hR => ?_)
  obtain ⟨w8, hw8⟩ : ∃ z : zW, z = nW w 9 := ⟨_, rfl⟩
  rw [← hw8] at hR
  replace hf := hf w8 hw8
  have hX := hX.tr hE8
  have hr := hr.after hc8 hs8
  have ha0 : al8 a0 ∧ zsh a0 = 11 := ⟨(hE8 _ ha0.1).1, ha0.2⟩
  rw [← (hE8 a0 hw8_1).2] at hl
  rw [← (hE8 a0 hv8_1).2]
  have hn8 : al8 9 ∧ zsh 9 = 3 := ⟨hj8, zs_9⟩
  refine lv_dup hx hb dX11_init_34 rfl ?_
  have hw9_1 : al8 a0 := ha0.1
  have hv9_1 : al8 9 := hn8.1
  have hv9_2 : al8 a0 := ha0.1
  obtain ⟨c9, s9, hc9, hs9, hf⟩ := hf
  refine z_callAIV (fr1 := 1) (mc := c9) (ms := s9) (b := 9) (As := []) (rest := [.ref (ad8 9), .ref (ad8 a0)]) X (hr.call hc9 hs9 (by decide)) hR zq_78 rfl zq_80 zq_79 zq_24 ⟨by decide, by decide⟩ (np := 0) (by decide +kernel) (by decide) (mX3_init_9 ⟨hn8.1, hn8.2⟩ hf) rfl hl (Nat.le_of_ble_eq_true rfl) dX11_init_35 rfl (fun w9 H locs ad9 al9 hf hE9 hR => ?_)
  have hX := hX.tr hE9
  have hr := hr.after hc9 hs9
  have ha0 : al9 a0 ∧ zsh a0 = 11 := ⟨(hE9 _ ha0.1).1, ha0.2⟩
  have hn8 := And.intro (hE9 _ hn8.1).1 hn8.2
  rw [← (hE9 a0 hw9_1).2] at hl
  rw [← (hE9 9 hv9_1).2]
  rw [← (hE9 a0 hv9_2).2]
  refine z_putFR X hR hin ha0.1 ha0.2 (by decide) zff_X11_28 rfl rfl (by decide) hn8.1 (by rw [zdc_of ha0.2 rfl]; exact hn8.2) dX11_init_38 (fun H locs hR => ?_)
  obtain ⟨w10, hw10⟩ : ∃ z : zW, z = sR w9 a0 2 9 := ⟨_, rfl⟩
  rw [← hw10] at hR
  replace hf := hf w10 hw10
  exact mX11_init_J41 X hQ hin  ha0 hf hX hr hR (lv_sub hl [0] rfl)
def fX11_init_J15 (a0 : Nat) (k : zW → Prop) (mc ms : Nat)  (w : zW) : Prop :=
  ¬ gI w 0 4 = 1 ∧ 1 ≤ mc ∧ 6 ≤ ms ∧ ∀ w4 : zW, w4 = nW w 4 →
  ¬ gR w4 a0 0 = 0 ∧
  ∃ c6 s6, c6 ≤ mc - 1 ∧ s6 ≤ ms - 6 ∧ fX1_init_4 c6 s6 4 (gR w4 a0 0) w4 (fun w6 =>
  ∀ w7 : zW, w7 = sR w6 a0 1 4 →
  fX11_init_J30 a0 k ((mc - 1) - c6) ((ms - 6) - s6)  w7)
set_option maxHeartbeats 4000000 in
set_option maxRecDepth 100000 in
theorem mX11_init_J15 {k : zW → Prop} {a0 : Nat} (X : zCx p s m args meth c cX11_init 2 RX11 none) (hQ : zRetAV p l e R s m args below meth c Q D dA false ad0 al0 cX11_init k) (hin : meth.name = "<init>")  {cells slots mc ms : Nat}  {ad : Nat → Nat} {al : Nat → Prop} {w : zW} {H : Heap} {locs : List Loc} {ls : Array Slot} (ha0 : al a0 ∧ zsh a0 = 11) (hf : fX11_init_J15 a0 k mc ms  w) (hX : zExt ad0 al0 ad al) (hr : zRm R 3 (cells + mc) (slots + ms)) (hR : zSt D dA false ad0 al0 ad al w s H locs) (hl : lv_has ls 2 [(0, .ref (ad a0))]) : W p l e R s m args below meth c H locs cells slots Q (F0 m 15 ls []) := by
  have hx := X.1
  have hb := X.2.1
  have hml := X.2.2.1
  have hown := X.2.2.2.1
  have hts := X.2.2.2.2.1
  unfold fX11_init_J15 at hf
  refine lv_aload_n hx hb dX11_init_15 rfl (lv_at hl 0 rfl) ?_
  have hw4_1 : al a0 := ha0.1
  have hv4_1 : al a0 := ha0.1
  obtain ⟨hg4, hc4, hs4, hf⟩ := hf
  refine z_newo (N := 6) X (hr.new hc4 hs4) hR (j := 4) (fun h9 => absurd h9 (by decide)) hg4 zs_4 (by decide) (q := (RX1, TX1, 6)) rfl rfl tyX1 tyX1_ok (by decide +kernel) zq_18 zq_19 zq_20 dX11_init_16 (fun ad4 al4 H hE4 hj4 hR => ?_)
  obtain ⟨w4, hw4⟩ : ∃ z : zW, z = nW w 4 := ⟨_, rfl⟩
  rw [← hw4] at hR
  replace hf := hf w4 hw4
  have hX := hX.tr hE4
  have hr := hr.after hc4 hs4
  have ha0 : al4 a0 ∧ zsh a0 = 11 := ⟨(hE4 _ ha0.1).1, ha0.2⟩
  rw [← (hE4 a0 hw4_1).2] at hl
  rw [← (hE4 a0 hv4_1).2]
  have hn4 : al4 4 ∧ zsh 4 = 1 := ⟨hj4, zs_4⟩
  refine lv_dup hx hb dX11_init_19 rfl ?_
  refine lv_aload_n hx hb dX11_init_20 rfl (lv_at hl 0 rfl) ?_
  refine z_getR X hR ha0.1 ha0.2 (by decide) zfd_X11_10 rfl dX11_init_21 ?_
  obtain ⟨hn50, hf⟩ := hf
  have hn5 : al4 (gR w4 a0 0) ∧ zsh (gR w4 a0 0) = 10 := zwt_ofM hR ha0.1 ha0.2 rfl hn50 (zdc_of ha0.2 rfl)
  rw [zrf_pos hn50]
  have hw6_1 : al4 a0 := ha0.1
  have hv6_1 : al4 (gR w4 a0 0) := hn5.1
  have hv6_2 : al4 4 := hn4.1
  have hv6_3 : al4 a0 := ha0.1
  obtain ⟨c6, s6, hc6, hs6, hf⟩ := hf
  refine z_callAIV (fr1 := 2) (mc := c6) (ms := s6) (b := 4) (As := [.ref (ad4 (gR w4 a0 0))]) (rest := [.ref (ad4 4), .ref (ad4 a0)]) X (hr.call hc6 hs6 (by decide)) hR zq_60 rfl zq_62 zq_61 zq_20 ⟨by decide, by decide⟩ (np := 1) (by decide +kernel) (by decide) (mX1_init_4 ⟨hn4.1, hn4.2⟩ ⟨hn5.1, hn5.2⟩ hf) rfl hl (Nat.le_of_ble_eq_true rfl) dX11_init_24 rfl (fun w6 H locs ad6 al6 hf hE6 hR => ?_)
  have hX := hX.tr hE6
  have hr := hr.after hc6 hs6
  have ha0 : al6 a0 ∧ zsh a0 = 11 := ⟨(hE6 _ ha0.1).1, ha0.2⟩
  have hn4 := And.intro (hE6 _ hn4.1).1 hn4.2
  have hn5 := And.intro (hE6 _ hn5.1).1 hn5.2
  rw [← (hE6 a0 hw6_1).2] at hl
  rw [← (hE6 4 hv6_2).2]
  rw [← (hE6 a0 hv6_3).2]
  refine z_putFR X hR hin ha0.1 ha0.2 (by decide) zff_X11_21 rfl rfl (by decide) hn4.1 (by rw [zdc_of ha0.2 rfl]; exact hn4.2) dX11_init_27 (fun H locs hR => ?_)
  obtain ⟨w7, hw7⟩ : ∃ z : zW, z = sR w6 a0 1 4 := ⟨_, rfl⟩
  rw [← hw7] at hR
  replace hf := hf w7 hw7
  exact mX11_init_J30 X hQ hin  ha0 hf hX hr hR (lv_sub hl [0] rfl)
def fX11_init (mc ms : Nat) (a0 : Nat) (w : zW) (k : zW → Prop) : Prop :=
  ¬ gI w 0 2 = 1 ∧ 1 ≤ mc ∧ 10 ≤ ms ∧ ∀ w1 : zW, w1 = nW w 2 →
  ∃ c2 s2, c2 ≤ mc - 1 ∧ s2 ≤ ms - 10 ∧ fX10_init_2 c2 s2 2 w1 (fun w2 =>
  ∀ w3 : zW, w3 = sR w2 a0 0 2 →
  fX11_init_J15 a0 k ((mc - 1) - c2) ((ms - 10) - s2)  w3)
set_option maxHeartbeats 4000000 in
set_option maxRecDepth 100000 in
theorem mX11_init {l : Launch} {D : va_G} {dA : Nat → ClassId} {ad : Nat → Nat} {al : Nat → Prop} {w : zW} {mc ms : Nat} {k : zW → Prop} {a0 : Nat} (ha0 : al a0 ∧ zsh a0 = 11) (hf : fX11_init mc ms a0 w k) : zmetAV l yX11_init cX11_init 2 none 3 mc ms [.ref (ad a0)] D dA false ad al w k := by
  refine zmetCV_of (by decide) rfl (Nat.le_of_ble_eq_true rfl) ?_
  intro p e R s m below meth c Q H ls args locs cells slots X hr hQ hin hR hl
  have hx := X.1
  have hb := X.2.1
  have hml := X.2.2.1
  have hown := X.2.2.2.1
  have hts := X.2.2.2.2.1
  unfold fX11_init at hf
  have hl : lv_has ls 2 [(0, .ref (ad a0))] := hl
  have hX : zExt ad al ad al := zExt.rf
  refine lv_aload_n hx hb dX11_init_0 rfl (lv_at hl 0 rfl) ?_
  refine z_objInit (rest := []) X (hr.none (by decide)) zq_11 zq_12 zq_13 hl (Nat.le_of_ble_eq_true rfl) dX11_init_1 ?_
  refine lv_aload_n hx hb dX11_init_4 rfl (lv_at hl 0 rfl) ?_
  have hw1_1 : al a0 := ha0.1
  have hv1_1 : al a0 := ha0.1
  obtain ⟨hg1, hc1, hs1, hf⟩ := hf
  refine z_newo (N := 10) X (hr.new hc1 hs1) hR (j := 2) (fun h9 => absurd h9 (by decide)) hg1 zs_2 (by decide) (q := (RX10, TX10, 10)) rfl rfl tyX10 tyX10_ok (by decide +kernel) zq_14 zq_15 zq_16 dX11_init_5 (fun ad1 al1 H hE1 hj1 hR => ?_)
  obtain ⟨w1, hw1⟩ : ∃ z : zW, z = nW w 2 := ⟨_, rfl⟩
  rw [← hw1] at hR
  replace hf := hf w1 hw1
  have hX := hX.tr hE1
  have hr := hr.after hc1 hs1
  have ha0 : al1 a0 ∧ zsh a0 = 11 := ⟨(hE1 _ ha0.1).1, ha0.2⟩
  rw [← (hE1 a0 hw1_1).2] at hl
  rw [← (hE1 a0 hv1_1).2]
  have hn1 : al1 2 ∧ zsh 2 = 10 := ⟨hj1, zs_2⟩
  refine lv_dup hx hb dX11_init_8 rfl ?_
  have hw2_1 : al1 a0 := ha0.1
  have hv2_1 : al1 2 := hn1.1
  have hv2_2 : al1 a0 := ha0.1
  obtain ⟨c2, s2, hc2, hs2, hf⟩ := hf
  refine z_callANV (fr1 := 1) (mc := c2) (ms := s2) (b := 2) (As := []) (rest := [.ref (ad1 2), .ref (ad1 a0)]) X (hr.call hc2 hs2 (by decide)) hR (host := RX11) zn_9 rfl zq_56 zq_55 zq_16 ⟨by decide, by decide⟩ (np := 0) (by decide +kernel) (by decide) (mX10_init_2 ⟨hn1.1, hn1.2⟩ hf) rfl hl (Nat.le_of_ble_eq_true rfl) dX11_init_9 rfl (fun w2 H locs ad2 al2 hf hE2 hR => ?_)
  have hX := hX.tr hE2
  have hr := hr.after hc2 hs2
  have ha0 : al2 a0 ∧ zsh a0 = 11 := ⟨(hE2 _ ha0.1).1, ha0.2⟩
  have hn1 := And.intro (hE2 _ hn1.1).1 hn1.2
  rw [← (hE2 a0 hw2_1).2] at hl
  rw [← (hE2 2 hv2_1).2]
  rw [← (hE2 a0 hv2_2).2]
  refine z_putFR X hR hin ha0.1 ha0.2 (by decide) zff_X11_10 rfl rfl (by decide) hn1.1 (by rw [zdc_of ha0.2 rfl]; exact hn1.2) dX11_init_12 (fun H locs hR => ?_)
  obtain ⟨w3, hw3⟩ : ∃ z : zW, z = sR w2 a0 0 2 := ⟨_, rfl⟩
  rw [← hw3] at hR
  replace hf := hf w3 hw3
  exact mX11_init_J15 X hQ hin  ha0 hf hX hr hR (lv_sub hl [0] rfl)
end ZM
