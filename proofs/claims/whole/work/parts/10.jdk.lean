theorem dJ7_fill_53178_0 : decode cJ7_fill_53178 0 = .ok (.iconst 0, 1) := by decide +kernel
theorem dJ7_fill_53178_1 : decode cJ7_fill_53178 1 = .ok (.istore_n 2, 1) := by decide +kernel
theorem dJ7_fill_53178_2 : decode cJ7_fill_53178 2 = .ok (.aload_n 0, 1) := by decide +kernel
theorem dJ7_fill_53178_3 : decode cJ7_fill_53178 3 = .ok (.arraylength, 1) := by decide +kernel
theorem dJ7_fill_53178_4 : decode cJ7_fill_53178 4 = .ok (.istore_n 3, 1) := by decide +kernel
theorem dJ7_fill_53178_5 : decode cJ7_fill_53178 5 = .ok (.iload_n 2, 1) := by decide +kernel
theorem dJ7_fill_53178_6 : decode cJ7_fill_53178 6 = .ok (.iload_n 3, 1) := by decide +kernel
theorem dJ7_fill_53178_7 : decode cJ7_fill_53178 7 = .ok (.if_icmp .ge 13, 3) := by decide +kernel
theorem dJ7_fill_53178_10 : decode cJ7_fill_53178 10 = .ok (.aload_n 0, 1) := by decide +kernel
theorem dJ7_fill_53178_11 : decode cJ7_fill_53178 11 = .ok (.iload_n 2, 1) := by decide +kernel
theorem dJ7_fill_53178_12 : decode cJ7_fill_53178 12 = .ok (.iload_n 1, 1) := by decide +kernel
theorem dJ7_fill_53178_13 : decode cJ7_fill_53178 13 = .ok (.iastore, 1) := by decide +kernel
theorem dJ7_fill_53178_14 : decode cJ7_fill_53178 14 = .ok (.iinc 2 1, 3) := by decide +kernel
theorem dJ7_fill_53178_17 : decode cJ7_fill_53178 17 = .ok (.goto (-12), 3) := by decide +kernel
theorem dJ7_fill_53178_20 : decode cJ7_fill_53178 20 = .ok (.return_, 1) := by decide +kernel
theorem dJ6_bitCount_0f7a4_0 : decode cJ6_bitCount_0f7a4 0 = .ok (.iload_n 0, 1) := by decide +kernel
theorem dJ6_bitCount_0f7a4_1 : decode cJ6_bitCount_0f7a4 1 = .ok (.iload_n 0, 1) := by decide +kernel
theorem dJ6_bitCount_0f7a4_2 : decode cJ6_bitCount_0f7a4 2 = .ok (.iconst 1, 1) := by decide +kernel
theorem dJ6_bitCount_0f7a4_3 : decode cJ6_bitCount_0f7a4 3 = .ok (.iushr, 1) := by decide +kernel
theorem dJ6_bitCount_0f7a4_4 : decode cJ6_bitCount_0f7a4 4 = .ok (.ldc_w 265, 3) := by decide +kernel
theorem dJ6_bitCount_0f7a4_7 : decode cJ6_bitCount_0f7a4 7 = .ok (.iand, 1) := by decide +kernel
theorem dJ6_bitCount_0f7a4_8 : decode cJ6_bitCount_0f7a4 8 = .ok (.isub, 1) := by decide +kernel
theorem dJ6_bitCount_0f7a4_9 : decode cJ6_bitCount_0f7a4 9 = .ok (.istore_n 0, 1) := by decide +kernel
theorem dJ6_bitCount_0f7a4_10 : decode cJ6_bitCount_0f7a4 10 = .ok (.iload_n 0, 1) := by decide +kernel
theorem dJ6_bitCount_0f7a4_11 : decode cJ6_bitCount_0f7a4 11 = .ok (.ldc_w 266, 3) := by decide +kernel
theorem dJ6_bitCount_0f7a4_14 : decode cJ6_bitCount_0f7a4 14 = .ok (.iand, 1) := by decide +kernel
theorem dJ6_bitCount_0f7a4_15 : decode cJ6_bitCount_0f7a4 15 = .ok (.iload_n 0, 1) := by decide +kernel
theorem dJ6_bitCount_0f7a4_16 : decode cJ6_bitCount_0f7a4 16 = .ok (.iconst 2, 1) := by decide +kernel
theorem dJ6_bitCount_0f7a4_17 : decode cJ6_bitCount_0f7a4 17 = .ok (.iushr, 1) := by decide +kernel
theorem dJ6_bitCount_0f7a4_18 : decode cJ6_bitCount_0f7a4 18 = .ok (.ldc_w 266, 3) := by decide +kernel
theorem dJ6_bitCount_0f7a4_21 : decode cJ6_bitCount_0f7a4 21 = .ok (.iand, 1) := by decide +kernel
theorem dJ6_bitCount_0f7a4_22 : decode cJ6_bitCount_0f7a4 22 = .ok (.iadd, 1) := by decide +kernel
theorem dJ6_bitCount_0f7a4_23 : decode cJ6_bitCount_0f7a4 23 = .ok (.istore_n 0, 1) := by decide +kernel
theorem dJ6_bitCount_0f7a4_24 : decode cJ6_bitCount_0f7a4 24 = .ok (.iload_n 0, 1) := by decide +kernel
theorem dJ6_bitCount_0f7a4_25 : decode cJ6_bitCount_0f7a4 25 = .ok (.iload_n 0, 1) := by decide +kernel
theorem dJ6_bitCount_0f7a4_26 : decode cJ6_bitCount_0f7a4 26 = .ok (.iconst 4, 1) := by decide +kernel
theorem dJ6_bitCount_0f7a4_27 : decode cJ6_bitCount_0f7a4 27 = .ok (.iushr, 1) := by decide +kernel
theorem dJ6_bitCount_0f7a4_28 : decode cJ6_bitCount_0f7a4 28 = .ok (.iadd, 1) := by decide +kernel
theorem dJ6_bitCount_0f7a4_29 : decode cJ6_bitCount_0f7a4 29 = .ok (.ldc_w 267, 3) := by decide +kernel
theorem dJ6_bitCount_0f7a4_32 : decode cJ6_bitCount_0f7a4 32 = .ok (.iand, 1) := by decide +kernel
theorem dJ6_bitCount_0f7a4_33 : decode cJ6_bitCount_0f7a4 33 = .ok (.istore_n 0, 1) := by decide +kernel
theorem dJ6_bitCount_0f7a4_34 : decode cJ6_bitCount_0f7a4 34 = .ok (.iload_n 0, 1) := by decide +kernel
theorem dJ6_bitCount_0f7a4_35 : decode cJ6_bitCount_0f7a4 35 = .ok (.iload_n 0, 1) := by decide +kernel
theorem dJ6_bitCount_0f7a4_36 : decode cJ6_bitCount_0f7a4 36 = .ok (.bipush 8, 2) := by decide +kernel
theorem dJ6_bitCount_0f7a4_38 : decode cJ6_bitCount_0f7a4 38 = .ok (.iushr, 1) := by decide +kernel
theorem dJ6_bitCount_0f7a4_39 : decode cJ6_bitCount_0f7a4 39 = .ok (.iadd, 1) := by decide +kernel
theorem dJ6_bitCount_0f7a4_40 : decode cJ6_bitCount_0f7a4 40 = .ok (.istore_n 0, 1) := by decide +kernel
theorem dJ6_bitCount_0f7a4_41 : decode cJ6_bitCount_0f7a4 41 = .ok (.iload_n 0, 1) := by decide +kernel
theorem dJ6_bitCount_0f7a4_42 : decode cJ6_bitCount_0f7a4 42 = .ok (.iload_n 0, 1) := by decide +kernel
theorem dJ6_bitCount_0f7a4_43 : decode cJ6_bitCount_0f7a4 43 = .ok (.bipush 16, 2) := by decide +kernel
theorem dJ6_bitCount_0f7a4_45 : decode cJ6_bitCount_0f7a4 45 = .ok (.iushr, 1) := by decide +kernel
theorem dJ6_bitCount_0f7a4_46 : decode cJ6_bitCount_0f7a4 46 = .ok (.iadd, 1) := by decide +kernel
theorem dJ6_bitCount_0f7a4_47 : decode cJ6_bitCount_0f7a4 47 = .ok (.istore_n 0, 1) := by decide +kernel
theorem dJ6_bitCount_0f7a4_48 : decode cJ6_bitCount_0f7a4 48 = .ok (.iload_n 0, 1) := by decide +kernel
theorem dJ6_bitCount_0f7a4_49 : decode cJ6_bitCount_0f7a4 49 = .ok (.bipush 63, 2) := by decide +kernel
theorem dJ6_bitCount_0f7a4_51 : decode cJ6_bitCount_0f7a4 51 = .ok (.iand, 1) := by decide +kernel
theorem dJ6_bitCount_0f7a4_52 : decode cJ6_bitCount_0f7a4 52 = .ok (.ireturn, 1) := by decide +kernel
theorem dJ0_isLatin1_aae02_0 : decode cJ0_isLatin1_aae02 0 = .ok (.getstatic 38, 3) := by decide +kernel
theorem dJ0_isLatin1_aae02_3 : decode cJ0_isLatin1_aae02 3 = .ok (.ifCond .eq 14, 3) := by decide +kernel
theorem dJ0_isLatin1_aae02_6 : decode cJ0_isLatin1_aae02 6 = .ok (.aload_n 0, 1) := by decide +kernel
theorem dJ0_isLatin1_aae02_7 : decode cJ0_isLatin1_aae02 7 = .ok (.getfield 15, 3) := by decide +kernel
theorem dJ0_isLatin1_aae02_10 : decode cJ0_isLatin1_aae02 10 = .ok (.ifCond .ne 7, 3) := by decide +kernel
theorem dJ0_isLatin1_aae02_13 : decode cJ0_isLatin1_aae02 13 = .ok (.iconst 1, 1) := by decide +kernel
theorem dJ0_isLatin1_aae02_14 : decode cJ0_isLatin1_aae02 14 = .ok (.goto 4, 3) := by decide +kernel
theorem dJ0_isLatin1_aae02_17 : decode cJ0_isLatin1_aae02 17 = .ok (.iconst 0, 1) := by decide +kernel
theorem dJ0_isLatin1_aae02_18 : decode cJ0_isLatin1_aae02 18 = .ok (.ireturn, 1) := by decide +kernel
theorem dJ1_charAt_3b067_0 : decode cJ1_charAt_3b067 0 = .ok (.iload_n 1, 1) := by decide +kernel
theorem dJ1_charAt_3b067_1 : decode cJ1_charAt_3b067 1 = .ok (.aload_n 0, 1) := by decide +kernel
theorem dJ1_charAt_3b067_2 : decode cJ1_charAt_3b067 2 = .ok (.arraylength, 1) := by decide +kernel
theorem dJ1_charAt_3b067_3 : decode cJ1_charAt_3b067 3 = .ok (.invokestatic 9, 3) := by decide +kernel
theorem dJ1_charAt_3b067_6 : decode cJ1_charAt_3b067 6 = .ok (.aload_n 0, 1) := by decide +kernel
theorem dJ1_charAt_3b067_7 : decode cJ1_charAt_3b067 7 = .ok (.iload_n 1, 1) := by decide +kernel
theorem dJ1_charAt_3b067_8 : decode cJ1_charAt_3b067 8 = .ok (.baload, 1) := by decide +kernel
theorem dJ1_charAt_3b067_9 : decode cJ1_charAt_3b067 9 = .ok (.sipush 255, 3) := by decide +kernel
theorem dJ1_charAt_3b067_12 : decode cJ1_charAt_3b067 12 = .ok (.iand, 1) := by decide +kernel
theorem dJ1_charAt_3b067_13 : decode cJ1_charAt_3b067 13 = .ok (.i2c, 1) := by decide +kernel
theorem dJ1_charAt_3b067_14 : decode cJ1_charAt_3b067 14 = .ok (.ireturn, 1) := by decide +kernel
theorem dJ0_charAt_5068e_0 : decode cJ0_charAt_5068e 0 = .ok (.aload_n 0, 1) := by decide +kernel
theorem dJ0_charAt_5068e_1 : decode cJ0_charAt_5068e 1 = .ok (.invokevirtual 492, 3) := by decide +kernel
theorem dJ0_charAt_5068e_4 : decode cJ0_charAt_5068e 4 = .ok (.ifCond .eq 12, 3) := by decide +kernel
theorem dJ0_charAt_5068e_7 : decode cJ0_charAt_5068e 7 = .ok (.aload_n 0, 1) := by decide +kernel
theorem dJ0_charAt_5068e_8 : decode cJ0_charAt_5068e 8 = .ok (.getfield 9, 3) := by decide +kernel
theorem dJ0_charAt_5068e_11 : decode cJ0_charAt_5068e 11 = .ok (.iload_n 1, 1) := by decide +kernel
theorem dJ0_charAt_5068e_12 : decode cJ0_charAt_5068e 12 = .ok (.invokestatic 495, 3) := by decide +kernel
theorem dJ0_charAt_5068e_15 : decode cJ0_charAt_5068e 15 = .ok (.ireturn, 1) := by decide +kernel
theorem dJ0_charAt_5068e_16 : decode cJ0_charAt_5068e 16 = .ok (.aload_n 0, 1) := by decide +kernel
theorem dJ0_charAt_5068e_17 : decode cJ0_charAt_5068e 17 = .ok (.getfield 9, 3) := by decide +kernel
theorem dJ0_charAt_5068e_20 : decode cJ0_charAt_5068e 20 = .ok (.iload_n 1, 1) := by decide +kernel
theorem dJ0_charAt_5068e_21 : decode cJ0_charAt_5068e 21 = .ok (.invokestatic 498, 3) := by decide +kernel
theorem dJ0_charAt_5068e_24 : decode cJ0_charAt_5068e 24 = .ok (.ireturn, 1) := by decide +kernel
theorem dJ0_coder_7d493_0 : decode cJ0_coder_7d493 0 = .ok (.getstatic 38, 3) := by decide +kernel
theorem dJ0_coder_7d493_3 : decode cJ0_coder_7d493 3 = .ok (.ifCond .eq 10, 3) := by decide +kernel
theorem dJ0_coder_7d493_6 : decode cJ0_coder_7d493 6 = .ok (.aload_n 0, 1) := by decide +kernel
theorem dJ0_coder_7d493_7 : decode cJ0_coder_7d493 7 = .ok (.getfield 15, 3) := by decide +kernel
theorem dJ0_coder_7d493_10 : decode cJ0_coder_7d493 10 = .ok (.goto 4, 3) := by decide +kernel
theorem dJ0_coder_7d493_13 : decode cJ0_coder_7d493 13 = .ok (.iconst 1, 1) := by decide +kernel
theorem dJ0_coder_7d493_14 : decode cJ0_coder_7d493 14 = .ok (.ireturn, 1) := by decide +kernel
theorem dJ0_length_8abf5_0 : decode cJ0_length_8abf5 0 = .ok (.aload_n 0, 1) := by decide +kernel
theorem dJ0_length_8abf5_1 : decode cJ0_length_8abf5 1 = .ok (.getfield 9, 3) := by decide +kernel
theorem dJ0_length_8abf5_4 : decode cJ0_length_8abf5 4 = .ok (.arraylength, 1) := by decide +kernel
theorem dJ0_length_8abf5_5 : decode cJ0_length_8abf5 5 = .ok (.aload_n 0, 1) := by decide +kernel
theorem dJ0_length_8abf5_6 : decode cJ0_length_8abf5 6 = .ok (.invokevirtual 335, 3) := by decide +kernel
theorem dJ0_length_8abf5_9 : decode cJ0_length_8abf5 9 = .ok (.ishr, 1) := by decide +kernel
theorem dJ0_length_8abf5_10 : decode cJ0_length_8abf5 10 = .ok (.ireturn, 1) := by decide +kernel
theorem dJ1_canEncode_9a6ad_0 : decode cJ1_canEncode_9a6ad 0 = .ok (.iload_n 0, 1) := by decide +kernel
theorem dJ1_canEncode_9a6ad_1 : decode cJ1_canEncode_9a6ad 1 = .ok (.ifCond .lt 14, 3) := by decide +kernel
theorem dJ1_canEncode_9a6ad_4 : decode cJ1_canEncode_9a6ad 4 = .ok (.iload_n 0, 1) := by decide +kernel
theorem dJ1_canEncode_9a6ad_5 : decode cJ1_canEncode_9a6ad 5 = .ok (.sipush 255, 3) := by decide +kernel
theorem dJ1_canEncode_9a6ad_8 : decode cJ1_canEncode_9a6ad 8 = .ok (.if_icmp .gt 7, 3) := by decide +kernel
theorem dJ1_canEncode_9a6ad_11 : decode cJ1_canEncode_9a6ad 11 = .ok (.iconst 1, 1) := by decide +kernel
theorem dJ1_canEncode_9a6ad_12 : decode cJ1_canEncode_9a6ad 12 = .ok (.goto 4, 3) := by decide +kernel
theorem dJ1_canEncode_9a6ad_15 : decode cJ1_canEncode_9a6ad 15 = .ok (.iconst 0, 1) := by decide +kernel
theorem dJ1_canEncode_9a6ad_16 : decode cJ1_canEncode_9a6ad 16 = .ok (.ireturn, 1) := by decide +kernel
theorem dJ1_indexOfChar_4cfef_0 : decode cJ1_indexOfChar_4cfef 0 = .ok (.iload_n 1, 1) := by decide +kernel
theorem dJ1_indexOfChar_4cfef_1 : decode cJ1_indexOfChar_4cfef 1 = .ok (.i2b, 1) := by decide +kernel
theorem dJ1_indexOfChar_4cfef_2 : decode cJ1_indexOfChar_4cfef 2 = .ok (.istore 4, 2) := by decide +kernel
theorem dJ1_indexOfChar_4cfef_4 : decode cJ1_indexOfChar_4cfef 4 = .ok (.iload_n 2, 1) := by decide +kernel
theorem dJ1_indexOfChar_4cfef_5 : decode cJ1_indexOfChar_4cfef 5 = .ok (.istore 5, 2) := by decide +kernel
theorem dJ1_indexOfChar_4cfef_7 : decode cJ1_indexOfChar_4cfef 7 = .ok (.iload 5, 2) := by decide +kernel
theorem dJ1_indexOfChar_4cfef_9 : decode cJ1_indexOfChar_4cfef 9 = .ok (.iload_n 3, 1) := by decide +kernel
theorem dJ1_indexOfChar_4cfef_10 : decode cJ1_indexOfChar_4cfef 10 = .ok (.if_icmp .ge 21, 3) := by decide +kernel
theorem dJ1_indexOfChar_4cfef_13 : decode cJ1_indexOfChar_4cfef 13 = .ok (.aload_n 0, 1) := by decide +kernel
theorem dJ1_indexOfChar_4cfef_14 : decode cJ1_indexOfChar_4cfef 14 = .ok (.iload 5, 2) := by decide +kernel
theorem dJ1_indexOfChar_4cfef_16 : decode cJ1_indexOfChar_4cfef 16 = .ok (.baload, 1) := by decide +kernel
theorem dJ1_indexOfChar_4cfef_17 : decode cJ1_indexOfChar_4cfef 17 = .ok (.iload 4, 2) := by decide +kernel
theorem dJ1_indexOfChar_4cfef_19 : decode cJ1_indexOfChar_4cfef 19 = .ok (.if_icmp .ne 6, 3) := by decide +kernel
theorem dJ1_indexOfChar_4cfef_22 : decode cJ1_indexOfChar_4cfef 22 = .ok (.iload 5, 2) := by decide +kernel
theorem dJ1_indexOfChar_4cfef_24 : decode cJ1_indexOfChar_4cfef 24 = .ok (.ireturn, 1) := by decide +kernel
theorem dJ1_indexOfChar_4cfef_25 : decode cJ1_indexOfChar_4cfef 25 = .ok (.iinc 5 1, 3) := by decide +kernel
theorem dJ1_indexOfChar_4cfef_28 : decode cJ1_indexOfChar_4cfef 28 = .ok (.goto (-21), 3) := by decide +kernel
theorem dJ1_indexOfChar_4cfef_31 : decode cJ1_indexOfChar_4cfef 31 = .ok (.iconst (-1), 1) := by decide +kernel
theorem dJ1_indexOfChar_4cfef_32 : decode cJ1_indexOfChar_4cfef 32 = .ok (.ireturn, 1) := by decide +kernel
theorem dJ1_indexOf_4cfef_0 : decode cJ1_indexOf_4cfef 0 = .ok (.iload_n 1, 1) := by decide +kernel
theorem dJ1_indexOf_4cfef_1 : decode cJ1_indexOf_4cfef 1 = .ok (.invokestatic 88, 3) := by decide +kernel
theorem dJ1_indexOf_4cfef_4 : decode cJ1_indexOf_4cfef 4 = .ok (.ifCond .ne 5, 3) := by decide +kernel
theorem dJ1_indexOf_4cfef_7 : decode cJ1_indexOf_4cfef 7 = .ok (.iconst (-1), 1) := by decide +kernel
theorem dJ1_indexOf_4cfef_8 : decode cJ1_indexOf_4cfef 8 = .ok (.ireturn, 1) := by decide +kernel
theorem dJ1_indexOf_4cfef_9 : decode cJ1_indexOf_4cfef 9 = .ok (.iload_n 2, 1) := by decide +kernel
theorem dJ1_indexOf_4cfef_10 : decode cJ1_indexOf_4cfef 10 = .ok (.iconst 0, 1) := by decide +kernel
theorem dJ1_indexOf_4cfef_11 : decode cJ1_indexOf_4cfef 11 = .ok (.invokestatic 92, 3) := by decide +kernel
theorem dJ1_indexOf_4cfef_14 : decode cJ1_indexOf_4cfef 14 = .ok (.istore_n 2, 1) := by decide +kernel
theorem dJ1_indexOf_4cfef_15 : decode cJ1_indexOf_4cfef 15 = .ok (.iload_n 3, 1) := by decide +kernel
theorem dJ1_indexOf_4cfef_16 : decode cJ1_indexOf_4cfef 16 = .ok (.aload_n 0, 1) := by decide +kernel
theorem dJ1_indexOf_4cfef_17 : decode cJ1_indexOf_4cfef 17 = .ok (.arraylength, 1) := by decide +kernel
theorem dJ1_indexOf_4cfef_18 : decode cJ1_indexOf_4cfef 18 = .ok (.invokestatic 38, 3) := by decide +kernel
theorem dJ1_indexOf_4cfef_21 : decode cJ1_indexOf_4cfef 21 = .ok (.istore_n 3, 1) := by decide +kernel
theorem dJ1_indexOf_4cfef_22 : decode cJ1_indexOf_4cfef 22 = .ok (.iload_n 2, 1) := by decide +kernel
theorem dJ1_indexOf_4cfef_23 : decode cJ1_indexOf_4cfef 23 = .ok (.iload_n 3, 1) := by decide +kernel
theorem dJ1_indexOf_4cfef_24 : decode cJ1_indexOf_4cfef 24 = .ok (.if_icmp .lt 5, 3) := by decide +kernel
theorem dJ1_indexOf_4cfef_27 : decode cJ1_indexOf_4cfef 27 = .ok (.iconst (-1), 1) := by decide +kernel
theorem dJ1_indexOf_4cfef_28 : decode cJ1_indexOf_4cfef 28 = .ok (.ireturn, 1) := by decide +kernel
theorem dJ1_indexOf_4cfef_29 : decode cJ1_indexOf_4cfef 29 = .ok (.aload_n 0, 1) := by decide +kernel
theorem dJ1_indexOf_4cfef_30 : decode cJ1_indexOf_4cfef 30 = .ok (.iload_n 1, 1) := by decide +kernel
theorem dJ1_indexOf_4cfef_31 : decode cJ1_indexOf_4cfef 31 = .ok (.iload_n 2, 1) := by decide +kernel
theorem dJ1_indexOf_4cfef_32 : decode cJ1_indexOf_4cfef 32 = .ok (.iload_n 3, 1) := by decide +kernel
theorem dJ1_indexOf_4cfef_33 : decode cJ1_indexOf_4cfef 33 = .ok (.invokestatic 95, 3) := by decide +kernel
theorem dJ1_indexOf_4cfef_36 : decode cJ1_indexOf_4cfef 36 = .ok (.ireturn, 1) := by decide +kernel
theorem dJ0_indexOf_7cf53_0 : decode cJ0_indexOf_7cf53 0 = .ok (.aload_n 0, 1) := by decide +kernel
theorem dJ0_indexOf_7cf53_1 : decode cJ0_indexOf_7cf53 1 = .ok (.invokevirtual 492, 3) := by decide +kernel
theorem dJ0_indexOf_7cf53_4 : decode cJ0_indexOf_7cf53 4 = .ok (.ifCond .eq 19, 3) := by decide +kernel
theorem dJ0_indexOf_7cf53_7 : decode cJ0_indexOf_7cf53 7 = .ok (.aload_n 0, 1) := by decide +kernel
theorem dJ0_indexOf_7cf53_8 : decode cJ0_indexOf_7cf53 8 = .ok (.getfield 9, 3) := by decide +kernel
theorem dJ0_indexOf_7cf53_11 : decode cJ0_indexOf_7cf53 11 = .ok (.iload_n 1, 1) := by decide +kernel
theorem dJ0_indexOf_7cf53_12 : decode cJ0_indexOf_7cf53 12 = .ok (.iload_n 2, 1) := by decide +kernel
theorem dJ0_indexOf_7cf53_13 : decode cJ0_indexOf_7cf53 13 = .ok (.aload_n 0, 1) := by decide +kernel
theorem dJ0_indexOf_7cf53_14 : decode cJ0_indexOf_7cf53 14 = .ok (.invokevirtual 505, 3) := by decide +kernel
theorem dJ0_indexOf_7cf53_17 : decode cJ0_indexOf_7cf53 17 = .ok (.invokestatic 637, 3) := by decide +kernel
theorem dJ0_indexOf_7cf53_20 : decode cJ0_indexOf_7cf53 20 = .ok (.goto 16, 3) := by decide +kernel
theorem dJ0_indexOf_7cf53_23 : decode cJ0_indexOf_7cf53 23 = .ok (.aload_n 0, 1) := by decide +kernel
theorem dJ0_indexOf_7cf53_24 : decode cJ0_indexOf_7cf53 24 = .ok (.getfield 9, 3) := by decide +kernel
theorem dJ0_indexOf_7cf53_27 : decode cJ0_indexOf_7cf53 27 = .ok (.iload_n 1, 1) := by decide +kernel
theorem dJ0_indexOf_7cf53_28 : decode cJ0_indexOf_7cf53 28 = .ok (.iload_n 2, 1) := by decide +kernel
theorem dJ0_indexOf_7cf53_29 : decode cJ0_indexOf_7cf53 29 = .ok (.aload_n 0, 1) := by decide +kernel
theorem dJ0_indexOf_7cf53_30 : decode cJ0_indexOf_7cf53 30 = .ok (.invokevirtual 505, 3) := by decide +kernel
theorem dJ0_indexOf_7cf53_33 : decode cJ0_indexOf_7cf53 33 = .ok (.invokestatic 640, 3) := by decide +kernel
theorem dJ0_indexOf_7cf53_36 : decode cJ0_indexOf_7cf53 36 = .ok (.ireturn, 1) := by decide +kernel
theorem dJ0_indexOf_0f7a4_0 : decode cJ0_indexOf_0f7a4 0 = .ok (.aload_n 0, 1) := by decide +kernel
theorem dJ0_indexOf_0f7a4_1 : decode cJ0_indexOf_0f7a4 1 = .ok (.iload_n 1, 1) := by decide +kernel
theorem dJ0_indexOf_0f7a4_2 : decode cJ0_indexOf_0f7a4 2 = .ok (.iconst 0, 1) := by decide +kernel
theorem dJ0_indexOf_0f7a4_3 : decode cJ0_indexOf_0f7a4 3 = .ok (.invokevirtual 633, 3) := by decide +kernel
theorem dJ0_indexOf_0f7a4_6 : decode cJ0_indexOf_0f7a4 6 = .ok (.ireturn, 1) := by decide +kernel
theorem zq_311 : Cond.methodLink RJ0 633 yJ0_indexOf_7cf53 ∈ zG := List.mem_of_getElem? (i := 311) (by decide +kernel)
theorem zq_315 : Cond.fieldLink RJ0 9 "java/lang/String" "value" "[B" ∈ zG := List.mem_of_getElem? (i := 315) (by decide +kernel)
theorem zq_316 : Cond.methodLink RJ0 492 yJ0_isLatin1_aae02 ∈ zG := List.mem_of_getElem? (i := 316) (by decide +kernel)
theorem zq_320 : Cond.fieldLink RJ0 38 "java/lang/String" "COMPACT_STRINGS" "Z" ∈ zG := List.mem_of_getElem? (i := 320) (by decide +kernel)
theorem zq_321 : Cond.fieldLink RJ0 15 "java/lang/String" "coder" "B" ∈ zG := List.mem_of_getElem? (i := 321) (by decide +kernel)
theorem zq_322 : Cond.methodLink RJ0 505 yJ0_length_8abf5 ∈ zG := List.mem_of_getElem? (i := 322) (by decide +kernel)
theorem zq_326 : Cond.methodLink RJ0 335 yJ0_coder_7d493 ∈ zG := List.mem_of_getElem? (i := 326) (by decide +kernel)
theorem zq_330 : Cond.methodLink RJ0 637 yJ1_indexOf_4cfef ∈ zG := List.mem_of_getElem? (i := 330) (by decide +kernel)
theorem zq_334 : Cond.methodLink RJ1 92 Lib.Math.max.name ∈ zG := List.mem_of_getElem? (i := 334) (by decide +kernel)
theorem zq_335 : Cond.static Lib.Math.max.name ∈ zG := List.mem_of_getElem? (i := 335) (by decide +kernel)
theorem zq_336 : Cond.initialized "java/lang/Math" ∈ zG := List.mem_of_getElem? (i := 336) (by decide +kernel)
theorem zq_337 : Cond.code Lib.Math.max.name Lib.Math.max.code 2 (some .int) ∈ zG := List.mem_of_getElem? (i := 337) (by decide +kernel)
theorem zq_338 : Cond.methodLink RJ1 38 Lib.Math.min.name ∈ zG := List.mem_of_getElem? (i := 338) (by decide +kernel)
theorem zq_339 : Cond.static Lib.Math.min.name ∈ zG := List.mem_of_getElem? (i := 339) (by decide +kernel)
theorem zq_340 : Cond.code Lib.Math.min.name Lib.Math.min.code 2 (some .int) ∈ zG := List.mem_of_getElem? (i := 340) (by decide +kernel)
theorem zq_341 : Cond.methodLink RJ1 88 yJ1_canEncode_9a6ad ∈ zG := List.mem_of_getElem? (i := 341) (by decide +kernel)
theorem zq_344 : Cond.methodLink RJ1 95 yJ1_indexOfChar_4cfef ∈ zG := List.mem_of_getElem? (i := 344) (by decide +kernel)
theorem zq_366 : Cond.fieldLink RJ0 1053 "jdk/internal/util/Preconditions" "SIOOBE_FORMATTER" "Ljava/util/function/BiFunction;" ∈ zG := List.mem_of_getElem? (i := 366) (by decide +kernel)
theorem zq_407 : Cond.methodLink RJ0 495 yJ1_charAt_3b067 ∈ zG := List.mem_of_getElem? (i := 407) (by decide +kernel)
theorem zq_410 : Cond.methodLink RJ1 9 yJ0_checkIndex_df160 ∈ zG := List.mem_of_getElem? (i := 410) (by decide +kernel)
theorem zq_413 : Cond.methodLink RJ0 1059 yJ3_checkIndex_8e157 ∈ zG := List.mem_of_getElem? (i := 413) (by decide +kernel)
theorem zq_1006 : Cond.constant RJ6 265 (1431655765) ∈ zG := List.mem_of_getElem? (i := 1006) (by decide +kernel)
theorem zq_1007 : Cond.constant RJ6 266 (858993459) ∈ zG := List.mem_of_getElem? (i := 1007) (by decide +kernel)
theorem zq_1008 : Cond.constant RJ6 267 (252645135) ∈ zG := List.mem_of_getElem? (i := 1008) (by decide +kernel)
theorem zq_329 : Cond.code yJ0_coder_7d493 cJ0_coder_7d493 1 (some .byte) ∈ zG := List.mem_of_getElem? (i := 329) (by decide +kernel)
theorem zq_327 : Cond.instanceMethod yJ0_coder_7d493 ∈ zG := List.mem_of_getElem? (i := 327) (by decide +kernel)
theorem zq_328 : Cond.selects RJ0 yJ0_coder_7d493 yJ0_coder_7d493 ∈ zG := List.mem_of_getElem? (i := 328) (by decide +kernel)
theorem zq_309 : Cond.initialized RJ0 ∈ zG := List.mem_of_getElem? (i := 309) (by decide +kernel)
theorem zy_J0_coder_7d493 : zyV yJ0_coder_7d493 cJ0_coder_7d493 1 (some .byte) 0 := ⟨zq_329, zq_327, zq_328, zq_309, ⟨by decide, by decide⟩, by decide +kernel, by decide⟩
theorem zq_314 : Cond.code yJ0_indexOf_7cf53 cJ0_indexOf_7cf53 3 (some .int) ∈ zG := List.mem_of_getElem? (i := 314) (by decide +kernel)
theorem zq_312 : Cond.instanceMethod yJ0_indexOf_7cf53 ∈ zG := List.mem_of_getElem? (i := 312) (by decide +kernel)
theorem zq_313 : Cond.selects RJ0 yJ0_indexOf_7cf53 yJ0_indexOf_7cf53 ∈ zG := List.mem_of_getElem? (i := 313) (by decide +kernel)
theorem zy_J0_indexOf_7cf53 : zyV yJ0_indexOf_7cf53 cJ0_indexOf_7cf53 3 (some .int) 2 := ⟨zq_314, zq_312, zq_313, zq_309, ⟨by decide, by decide⟩, by decide +kernel, by decide⟩
theorem zq_319 : Cond.code yJ0_isLatin1_aae02 cJ0_isLatin1_aae02 1 (some .boolean) ∈ zG := List.mem_of_getElem? (i := 319) (by decide +kernel)
theorem zq_317 : Cond.instanceMethod yJ0_isLatin1_aae02 ∈ zG := List.mem_of_getElem? (i := 317) (by decide +kernel)
theorem zq_318 : Cond.selects RJ0 yJ0_isLatin1_aae02 yJ0_isLatin1_aae02 ∈ zG := List.mem_of_getElem? (i := 318) (by decide +kernel)
theorem zy_J0_isLatin1_aae02 : zyV yJ0_isLatin1_aae02 cJ0_isLatin1_aae02 1 (some .boolean) 0 := ⟨zq_319, zq_317, zq_318, zq_309, ⟨by decide, by decide⟩, by decide +kernel, by decide⟩
theorem zq_325 : Cond.code yJ0_length_8abf5 cJ0_length_8abf5 1 (some .int) ∈ zG := List.mem_of_getElem? (i := 325) (by decide +kernel)
theorem zq_323 : Cond.instanceMethod yJ0_length_8abf5 ∈ zG := List.mem_of_getElem? (i := 323) (by decide +kernel)
theorem zq_324 : Cond.selects RJ0 yJ0_length_8abf5 yJ0_length_8abf5 ∈ zG := List.mem_of_getElem? (i := 324) (by decide +kernel)
theorem zy_J0_length_8abf5 : zyV yJ0_length_8abf5 cJ0_length_8abf5 1 (some .int) 0 := ⟨zq_325, zq_323, zq_324, zq_309, ⟨by decide, by decide⟩, by decide +kernel, by decide⟩
theorem zq_412 : Cond.code yJ0_checkIndex_df160 cJ0_checkIndex_df160 2 none ∈ zG := List.mem_of_getElem? (i := 412) (by decide +kernel)
theorem zq_411 : Cond.static yJ0_checkIndex_df160 ∈ zG := List.mem_of_getElem? (i := 411) (by decide +kernel)
theorem zy_J0_checkIndex_df160 : zyS yJ0_checkIndex_df160 cJ0_checkIndex_df160 2 none 2 := ⟨zq_412, zq_411, zq_309, ⟨by decide, by decide⟩, by decide +kernel, by decide⟩
theorem zq_343 : Cond.code yJ1_canEncode_9a6ad cJ1_canEncode_9a6ad 1 (some .boolean) ∈ zG := List.mem_of_getElem? (i := 343) (by decide +kernel)
theorem zq_342 : Cond.static yJ1_canEncode_9a6ad ∈ zG := List.mem_of_getElem? (i := 342) (by decide +kernel)
theorem zq_332 : Cond.initialized RJ1 ∈ zG := List.mem_of_getElem? (i := 332) (by decide +kernel)
theorem zy_J1_canEncode_9a6ad : zyS yJ1_canEncode_9a6ad cJ1_canEncode_9a6ad 1 (some .boolean) 1 := ⟨zq_343, zq_342, zq_332, ⟨by decide, by decide⟩, by decide +kernel, by decide⟩
theorem zq_409 : Cond.code yJ1_charAt_3b067 cJ1_charAt_3b067 2 (some .char) ∈ zG := List.mem_of_getElem? (i := 409) (by decide +kernel)
theorem zq_408 : Cond.static yJ1_charAt_3b067 ∈ zG := List.mem_of_getElem? (i := 408) (by decide +kernel)
theorem zy_J1_charAt_3b067 : zyS yJ1_charAt_3b067 cJ1_charAt_3b067 2 (some .char) 2 := ⟨zq_409, zq_408, zq_332, ⟨by decide, by decide⟩, by decide +kernel, by decide⟩
theorem zq_346 : Cond.code yJ1_indexOfChar_4cfef cJ1_indexOfChar_4cfef 6 (some .int) ∈ zG := List.mem_of_getElem? (i := 346) (by decide +kernel)
theorem zq_345 : Cond.static yJ1_indexOfChar_4cfef ∈ zG := List.mem_of_getElem? (i := 345) (by decide +kernel)
theorem zy_J1_indexOfChar_4cfef : zyS yJ1_indexOfChar_4cfef cJ1_indexOfChar_4cfef 6 (some .int) 4 := ⟨zq_346, zq_345, zq_332, ⟨by decide, by decide⟩, by decide +kernel, by decide⟩
theorem zq_333 : Cond.code yJ1_indexOf_4cfef cJ1_indexOf_4cfef 4 (some .int) ∈ zG := List.mem_of_getElem? (i := 333) (by decide +kernel)
theorem zq_331 : Cond.static yJ1_indexOf_4cfef ∈ zG := List.mem_of_getElem? (i := 331) (by decide +kernel)
theorem zy_J1_indexOf_4cfef : zyS yJ1_indexOf_4cfef cJ1_indexOf_4cfef 4 (some .int) 4 := ⟨zq_333, zq_331, zq_332, ⟨by decide, by decide⟩, by decide +kernel, by decide⟩
theorem zq_415 : Cond.code yJ3_checkIndex_8e157 cJ3_checkIndex_8e157 3 (some .int) ∈ zG := List.mem_of_getElem? (i := 415) (by decide +kernel)
theorem zq_414 : Cond.static yJ3_checkIndex_8e157 ∈ zG := List.mem_of_getElem? (i := 414) (by decide +kernel)
theorem zq_369 : Cond.initialized RJ3 ∈ zG := List.mem_of_getElem? (i := 369) (by decide +kernel)
theorem zy_J3_checkIndex_8e157 : zyS yJ3_checkIndex_8e157 cJ3_checkIndex_8e157 3 (some .int) 3 := ⟨zq_415, zq_414, zq_369, ⟨by decide, by decide⟩, by decide +kernel, by decide⟩
theorem dJ3_checkIndex_8e157_0 : decode cJ3_checkIndex_8e157 0 = .ok (.iload_n 0, 1) := by decide +kernel
theorem dJ3_checkIndex_8e157_1 : decode cJ3_checkIndex_8e157 1 = .ok (.ifCond .lt 8, 3) := by decide +kernel
theorem dJ3_checkIndex_8e157_4 : decode cJ3_checkIndex_8e157 4 = .ok (.iload_n 0, 1) := by decide +kernel
theorem dJ3_checkIndex_8e157_5 : decode cJ3_checkIndex_8e157 5 = .ok (.iload_n 1, 1) := by decide +kernel
theorem dJ3_checkIndex_8e157_6 : decode cJ3_checkIndex_8e157 6 = .ok (.if_icmp .lt 10, 3) := by decide +kernel
theorem dJ3_checkIndex_8e157_9 : decode cJ3_checkIndex_8e157 9 = .ok (.aload_n 2, 1) := by decide +kernel
theorem dJ3_checkIndex_8e157_10 : decode cJ3_checkIndex_8e157 10 = .ok (.iload_n 0, 1) := by decide +kernel
theorem dJ3_checkIndex_8e157_11 : decode cJ3_checkIndex_8e157 11 = .ok (.iload_n 1, 1) := by decide +kernel
theorem dJ3_checkIndex_8e157_12 : decode cJ3_checkIndex_8e157 12 = .ok (.invokestatic 95, 3) := by decide +kernel
theorem dJ3_checkIndex_8e157_15 : decode cJ3_checkIndex_8e157 15 = .ok (.athrow, 1) := by decide +kernel
theorem dJ3_checkIndex_8e157_16 : decode cJ3_checkIndex_8e157 16 = .ok (.iload_n 0, 1) := by decide +kernel
theorem dJ3_checkIndex_8e157_17 : decode cJ3_checkIndex_8e157 17 = .ok (.ireturn, 1) := by decide +kernel
theorem dJ0_checkIndex_df160_0 : decode cJ0_checkIndex_df160 0 = .ok (.iload_n 0, 1) := by decide +kernel
theorem dJ0_checkIndex_df160_1 : decode cJ0_checkIndex_df160 1 = .ok (.iload_n 1, 1) := by decide +kernel
theorem dJ0_checkIndex_df160_2 : decode cJ0_checkIndex_df160 2 = .ok (.getstatic 1053, 3) := by decide +kernel
theorem dJ0_checkIndex_df160_5 : decode cJ0_checkIndex_df160 5 = .ok (.invokestatic 1059, 3) := by decide +kernel
theorem dJ0_checkIndex_df160_8 : decode cJ0_checkIndex_df160 8 = .ok (.pop, 1) := by decide +kernel
theorem dJ0_checkIndex_df160_9 : decode cJ0_checkIndex_df160 9 = .ok (.return_, 1) := by decide +kernel
def fJ3_checkIndex_8e157 (x0 x1 : Int32) (w : zW) (k : Int32 → zW → Prop) : Prop := ¬ x0 < 0 ∧ x0 < x1 ∧ k x0 w
set_option maxHeartbeats 4000000 in
set_option maxRecDepth 100000 in
theorem mJ3_checkIndex_8e157 {l : Launch} {D : va_G} {dA : Nat → ClassId} {ad : Nat → Nat} {al : Nat → Prop} {w : zW} {k : Int32 → zW → Prop} {x0 x1 : Int32} {z : Value} (hz : z = .null ∨ ∃ a, z = .ref a) (hf : fJ3_checkIndex_8e157 x0 x1 w k) : zmetI l yJ3_checkIndex_8e157 cJ3_checkIndex_8e157 3 (some .int) 0 [.int x0, .int x1, z] D dA true ad al w k := by
  have hlen : (lg_sl [.int x0, .int x1, z]).length ≤ 3 := by rcases hz with rfl | ⟨a, rfl⟩ <;> exact Nat.le_of_ble_eq_true rfl
  refine zmetI_of (by decide) hlen ?_
  intro p e R s m below meth c Q H ls args locs cells slots X hr hQ hR hl
  have hx := X.1
  have hb := X.2.1
  have hl : lv_has ls 3 [(0, .int x0), (1, .int x1), (2, z)] := hl
  obtain ⟨h0, h1, hf⟩ := hf
  refine lv_iload_n hx hb dJ3_checkIndex_8e157_0 rfl (lv_at hl 0 rfl) ?_
  refine lv_if_lt (tgt := 9) hx hb dJ3_checkIndex_8e157_1 (by decide) (fun c1 => absurd c1 h0) (fun c1 => ?_)
  refine lv_iload_n hx hb dJ3_checkIndex_8e157_4 rfl (lv_at hl 0 rfl) ?_
  refine lv_iload_n hx hb dJ3_checkIndex_8e157_5 rfl (lv_at hl 1 rfl) ?_
  refine lv_icmp_lt (tgt := 16) hx hb dJ3_checkIndex_8e157_6 (by decide) (fun c2 => ?_) (fun c2 => absurd h1 c2)
  refine lv_iload_n hx hb dJ3_checkIndex_8e157_16 rfl (lv_at hl 0 rfl) ?_
  exact hQ _ _ _ _ _ _ hf hR dJ3_checkIndex_8e157_17
def fJ0_checkIndex_df160 (x0 x1 : Int32) (w : zW) (k : zW → Prop) : Prop := fJ3_checkIndex_8e157 x0 x1 w (fun _ w => k w)
set_option maxHeartbeats 4000000 in
set_option maxRecDepth 100000 in
theorem mJ0_checkIndex_df160 {l : Launch} {D : va_G} {dA : Nat → ClassId} {ad : Nat → Nat} {al : Nat → Prop} {w : zW} {k : zW → Prop} {x0 x1 : Int32} (hf : fJ0_checkIndex_df160 x0 x1 w k) : zmetV l yJ0_checkIndex_df160 cJ0_checkIndex_df160 2 none 1 [.int x0, .int x1] D dA true ad al w k := by
  refine zmetV_of (by decide) (Nat.le_of_ble_eq_true rfl) ?_
  intro p e R s m below meth c Q H ls args locs cells slots X hr hQ hR hl
  have hx := X.1
  have hb := X.2.1
  have hown := X.2.2.2.1
  have hts := X.2.2.2.2.1
  have hl : lv_has ls 2 [(0, .int x0), (1, .int x1)] := hl
  refine lv_iload_n hx hb dJ0_checkIndex_df160_0 rfl (lv_at hl 0 rfl) ?_
  refine lv_iload_n hx hb dJ0_checkIndex_df160_1 rfl (lv_at hl 1 rfl) ?_
  obtain ⟨z, hz, hZ⟩ : ∃ z : Value, (z = .null ∨ ∃ a, z = .ref a) ∧ va_Z "jdk/internal/util/Preconditions" "SIOOBE_FORMATTER" "Ljava/util/function/BiFunction;" z (zA ad al s.heap.size) s s.heap := by
    rcases hR.2.2.2.2.2.2.1 with h | ⟨t, h⟩
    · exact ⟨_, Or.inl rfl, h⟩
    · exact ⟨_, Or.inr ⟨t, rfl⟩, h⟩
  refine va_gets hx hb hZ hR.2.2.1 hown (hts _ zq_366) (fun _ h => h) dJ0_checkIndex_df160_2 ?_
  refine z_callSI (fr1 := 0) (As := [.int x0, .int x1, z]) (rest := []) X (hr.le (by decide)) hR zy_J3_checkIndex_8e157 zq_413 (mJ3_checkIndex_8e157 hz hf) rfl hl (Nat.le_of_ble_eq_true rfl) dJ0_checkIndex_df160_5 rfl (fun r w1 H locs hf hR => ?_)
  refine lv_pop hx hb dJ0_checkIndex_df160_8 rfl ?_
  exact hQ _ _ _ _ _ hf hR dJ0_checkIndex_df160_9
section ZM
variable {p : Program} {l : Launch} {e : Env} {R : Room} {s : State} {m : MethodId} {args : Array Value} {below : List Frame} {meth : Method} {c : Code} {cells slots : Nat} {Q : State → Prop} {D : va_G} {dA : Nat → ClassId} {ad ad0 : Nat → Nat} {al al0 : Nat → Prop}
/-! J7_fill_53178 -/
def fJ7_fill_53178_L5 (a0 : Nat) (k : zW → Prop) : Nat → Int32 → Int32 → Int32 → zW → Prop
  | 0 => fun _ _ _ _ => False
  | n + 1 => fun x1 x2 x3 w =>
    ((x3 ≤ x2 →
      k w) ∧
     (¬ x3 ≤ x2 →
      vp_in x2 (zln a0) ∧ 
      ∀ w4 : zW, w4 = sI w a0 x2.toNatClampNeg x1 →
      fJ7_fill_53178_L5 a0 k n x1 (x2 + (1 : Int32)) x3 w4))
set_option maxHeartbeats 4000000 in
set_option maxRecDepth 100000 in
theorem mJ7_fill_53178_L5 {k : zW → Prop} {a0 : Nat} (X : zCx p s m args meth c cJ7_fill_53178 4 RJ7 none) (hr : zRm R 0 cells slots) (hQ : zRetV p l e R s m args below meth c cells slots Q D dA true ad0 al0 ad al cJ7_fill_53178 k) (ha0 : al a0 ∧ zsh a0 = 20)  : ∀ (n : Nat) (x1 : Int32) (x2 : Int32) (x3 : Int32) (w : zW) (H : Heap) (locs : List Loc) (ls : Array Slot), fJ7_fill_53178_L5 a0 k n x1 x2 x3 w → zSt D dA true ad0 al0 ad al w s H locs → lv_has ls 4 [(0, .ref (ad a0)), (1, .int x1), (2, .int x2), (3, .int x3)] → W p l e R s m args below meth c H locs cells slots Q (F0 m 5 ls []) := by
  intro n
  induction n with
  | zero => exact fun _ _ _ _ _ _ _ hf => hf.elim
  | succ n ih =>
    intro x1 x2 x3 w H locs ls hf hR hl
    have hx := X.1
    have hb := X.2.1
    have hml := X.2.2.1
    have hown := X.2.2.2.1
    have hts := X.2.2.2.2.1
    rw [fJ7_fill_53178_L5] at hf
    refine lv_iload_n hx hb dJ7_fill_53178_5 rfl (lv_at hl 2 rfl) ?_
    refine lv_iload_n hx hb dJ7_fill_53178_6 rfl (lv_at hl 3 rfl) ?_
    refine lv_icmp_ge (tgt := 20) hx hb dJ7_fill_53178_7 (by decide) (fun c2 => ?_) (fun c2 => ?_)
    · replace hf := hf.1 c2
      exact hQ _ _ _ _ _ hf hR dJ7_fill_53178_20
    · replace hf := hf.2 c2
      refine lv_aload_n hx hb dJ7_fill_53178_10 rfl (lv_at hl 0 rfl) ?_
      refine lv_iload_n hx hb dJ7_fill_53178_11 rfl (lv_at hl 2 rfl) ?_
      refine lv_iload_n hx hb dJ7_fill_53178_12 rfl (lv_at hl 1 rfl) ?_
      obtain ⟨hb3, hf⟩ := hf
      refine z_iast X hR ha0.1 ha0.2 rfl hb3 dJ7_fill_53178_13 (fun H locs hR => ?_)
      obtain ⟨w4, hw4⟩ : ∃ z : zW, z = sI w a0 x2.toNatClampNeg x1 := ⟨_, rfl⟩
      rw [← hw4] at hR
      replace hf := hf w4 hw4
      refine lv_iinc (v := x2 + (1 : Int32)) (lv' := [(2, .int (x2 + (1 : Int32))), (0, .ref (ad a0)), (1, .int x1), (3, .int x3)]) hx hb dJ7_fill_53178_14 hl (k := 2) rfl rfl (by decide) rfl (fun ls hl => ?_)
      refine lv_goto (tgt := 5) hx hb dJ7_fill_53178_17 (by decide) ?_
      exact ih x1 (x2 + (1 : Int32)) x3 w4 _ _ _ hf hR (lv_sub hl [1, 2, 0, 3] rfl)
def fJ7_fill_53178 (a0 : Nat) (x1 : Int32) (w : zW) (k : zW → Prop) : Prop :=
  ∀ v1 : Int32, v1 = Int32.ofNat (zln a0) →
  ∃ n9, fJ7_fill_53178_L5 a0 k n9 x1 (0 : Int32) v1 w
set_option maxHeartbeats 4000000 in
set_option maxRecDepth 100000 in
theorem mJ7_fill_53178 {l : Launch} {D : va_G} {dA : Nat → ClassId} {ad : Nat → Nat} {al : Nat → Prop} {w : zW} {k : zW → Prop} {a0 : Nat} {x1 : Int32} (ha0 : al a0 ∧ zsh a0 = 20)  (hf : fJ7_fill_53178 a0 x1 w k) : zmetV l yJ7_fill_53178 cJ7_fill_53178 4 none 0 [.ref (ad a0), .int x1] D dA true ad al w k := by
  refine zmetV_of (by decide) (Nat.le_of_ble_eq_true rfl) ?_
  intro p e R s m below meth c Q H ls args locs cells slots X hr hQ hR hl
  have hx := X.1
  have hb := X.2.1
  have hml := X.2.2.1
  have hown := X.2.2.2.1
  have hts := X.2.2.2.2.1
  unfold fJ7_fill_53178 at hf
  have hl : lv_has ls 4 [(0, .ref (ad a0)), (1, .int x1)] := hl
  refine lv_iconst (v := (0 : Int32)) hx hb dJ7_fill_53178_0 (by decide) ?_
  refine lv_istore_n (lv' := [(2, .int (0 : Int32)), (0, .ref (ad a0)), (1, .int x1)]) hx hb dJ7_fill_53178_1 rfl hl (by decide) rfl (fun ls hl => ?_)
  refine lv_aload_n hx hb dJ7_fill_53178_2 rfl (lv_at hl 1 rfl) ?_
  refine z_alen X hR ha0.1 ha0.2 (by decide) (by decide) rfl (v := Int32.ofNat (zln a0)) rfl dJ7_fill_53178_3 ?_
  refine lv_topi (fun v1 hv1 => ?_)
  replace hf := hf v1 hv1
  refine lv_istore_n (lv' := [(3, .int v1), (2, .int (0 : Int32)), (0, .ref (ad a0)), (1, .int x1)]) hx hb dJ7_fill_53178_4 rfl hl (by decide) rfl (fun ls hl => ?_)
  obtain ⟨n9, hf⟩ := hf
  exact mJ7_fill_53178_L5 X hr hQ ha0  n9 x1 (0 : Int32) v1 w _ _ _ hf hR (lv_sub hl [2, 3, 1, 0] rfl)
/-! J6_bitCount_0f7a4 -/
def fJ6_bitCount_0f7a4 (x0 : Int32) (w : zW) (k : Int32 → zW → Prop) : Prop :=
  ∀ v1 : Int32, v1 = x0 - (((x0.toUInt32 >>> ((1 : Int32).toUInt32 &&& Int32.toUInt32 31)).toInt32) &&& (1431655765 : Int32)) →
  ∀ v2 : Int32, v2 = (v1 &&& (858993459 : Int32)) + (((v1.toUInt32 >>> ((2 : Int32).toUInt32 &&& Int32.toUInt32 31)).toInt32) &&& (858993459 : Int32)) →
  ∀ v3 : Int32, v3 = (v2 + ((v2.toUInt32 >>> ((4 : Int32).toUInt32 &&& Int32.toUInt32 31)).toInt32)) &&& (252645135 : Int32) →
  ∀ v4 : Int32, v4 = v3 + ((v3.toUInt32 >>> ((8 : Int32).toUInt32 &&& Int32.toUInt32 31)).toInt32) →
  ∀ v5 : Int32, v5 = v4 + ((v4.toUInt32 >>> ((16 : Int32).toUInt32 &&& Int32.toUInt32 31)).toInt32) →
  k (v5 &&& (63 : Int32)) w
set_option maxHeartbeats 4000000 in
set_option maxRecDepth 100000 in
theorem mJ6_bitCount_0f7a4 {l : Launch} {D : va_G} {dA : Nat → ClassId} {ad : Nat → Nat} {al : Nat → Prop} {w : zW} {k : Int32 → zW → Prop} {x0 : Int32}   (hf : fJ6_bitCount_0f7a4 x0 w k) : zmetI l yJ6_bitCount_0f7a4 cJ6_bitCount_0f7a4 1 (some .int) 0 [.int x0] D dA true ad al w k := by
  refine zmetI_of (by decide) (Nat.le_of_ble_eq_true rfl) ?_
  intro p e R s m below meth c Q H ls args locs cells slots X hr hQ hR hl
  have hx := X.1
  have hb := X.2.1
  have hml := X.2.2.1
  have hown := X.2.2.2.1
  have hts := X.2.2.2.2.1
  unfold fJ6_bitCount_0f7a4 at hf
  have hl : lv_has ls 1 [(0, .int x0)] := hl
  refine lv_iload_n hx hb dJ6_bitCount_0f7a4_0 rfl (lv_at hl 0 rfl) ?_
  refine lv_iload_n hx hb dJ6_bitCount_0f7a4_1 rfl (lv_at hl 0 rfl) ?_
  refine lv_iconst (v := (1 : Int32)) hx hb dJ6_bitCount_0f7a4_2 (by decide) ?_
  refine lv_iushr hx hb dJ6_bitCount_0f7a4_3 rfl ?_
  refine lv_ldcw (v := (1431655765 : Int32)) hx hb hown (hts _ zq_1006) dJ6_bitCount_0f7a4_4 ?_
  refine lv_iand hx hb dJ6_bitCount_0f7a4_7 ?_
  refine lv_isub hx hb dJ6_bitCount_0f7a4_8 ?_
  refine lv_topi (fun v1 hv1 => ?_)
  replace hf := hf v1 hv1
  refine lv_istore_n (lv' := [(0, .int v1)]) hx hb dJ6_bitCount_0f7a4_9 rfl hl (by decide) rfl (fun ls hl => ?_)
  refine lv_iload_n hx hb dJ6_bitCount_0f7a4_10 rfl (lv_at hl 0 rfl) ?_
  refine lv_ldcw (v := (858993459 : Int32)) hx hb hown (hts _ zq_1007) dJ6_bitCount_0f7a4_11 ?_
  refine lv_iand hx hb dJ6_bitCount_0f7a4_14 ?_
  refine lv_iload_n hx hb dJ6_bitCount_0f7a4_15 rfl (lv_at hl 0 rfl) ?_
  refine lv_iconst (v := (2 : Int32)) hx hb dJ6_bitCount_0f7a4_16 (by decide) ?_
  refine lv_iushr hx hb dJ6_bitCount_0f7a4_17 rfl ?_
  refine lv_ldcw (v := (858993459 : Int32)) hx hb hown (hts _ zq_1007) dJ6_bitCount_0f7a4_18 ?_
  refine lv_iand hx hb dJ6_bitCount_0f7a4_21 ?_
  refine lv_iadd hx hb dJ6_bitCount_0f7a4_22 ?_
  refine lv_topi (fun v2 hv2 => ?_)
  replace hf := hf v2 hv2
  refine lv_istore_n (lv' := [(0, .int v2)]) hx hb dJ6_bitCount_0f7a4_23 rfl hl (by decide) rfl (fun ls hl => ?_)
  refine lv_iload_n hx hb dJ6_bitCount_0f7a4_24 rfl (lv_at hl 0 rfl) ?_
  refine lv_iload_n hx hb dJ6_bitCount_0f7a4_25 rfl (lv_at hl 0 rfl) ?_
  refine lv_iconst (v := (4 : Int32)) hx hb dJ6_bitCount_0f7a4_26 (by decide) ?_
  refine lv_iushr hx hb dJ6_bitCount_0f7a4_27 rfl ?_
  refine lv_iadd hx hb dJ6_bitCount_0f7a4_28 ?_
  refine lv_ldcw (v := (252645135 : Int32)) hx hb hown (hts _ zq_1008) dJ6_bitCount_0f7a4_29 ?_
  refine lv_iand hx hb dJ6_bitCount_0f7a4_32 ?_
  refine lv_topi (fun v3 hv3 => ?_)
  replace hf := hf v3 hv3
  refine lv_istore_n (lv' := [(0, .int v3)]) hx hb dJ6_bitCount_0f7a4_33 rfl hl (by decide) rfl (fun ls hl => ?_)
  refine lv_iload_n hx hb dJ6_bitCount_0f7a4_34 rfl (lv_at hl 0 rfl) ?_
  refine lv_iload_n hx hb dJ6_bitCount_0f7a4_35 rfl (lv_at hl 0 rfl) ?_
  refine lv_bipush (v := (8 : Int32)) hx hb dJ6_bitCount_0f7a4_36 (by decide) ?_
  refine lv_iushr hx hb dJ6_bitCount_0f7a4_38 rfl ?_
  refine lv_iadd hx hb dJ6_bitCount_0f7a4_39 ?_
  refine lv_topi (fun v4 hv4 => ?_)
  replace hf := hf v4 hv4
  refine lv_istore_n (lv' := [(0, .int v4)]) hx hb dJ6_bitCount_0f7a4_40 rfl hl (by decide) rfl (fun ls hl => ?_)
  refine lv_iload_n hx hb dJ6_bitCount_0f7a4_41 rfl (lv_at hl 0 rfl) ?_
  refine lv_iload_n hx hb dJ6_bitCount_0f7a4_42 rfl (lv_at hl 0 rfl) ?_
  refine lv_bipush (v := (16 : Int32)) hx hb dJ6_bitCount_0f7a4_43 (by decide) ?_
  refine lv_iushr hx hb dJ6_bitCount_0f7a4_45 rfl ?_
  refine lv_iadd hx hb dJ6_bitCount_0f7a4_46 ?_
  refine lv_topi (fun v5 hv5 => ?_)
  replace hf := hf v5 hv5
  refine lv_istore_n (lv' := [(0, .int v5)]) hx hb dJ6_bitCount_0f7a4_47 rfl hl (by decide) rfl (fun ls hl => ?_)
  refine lv_iload_n hx hb dJ6_bitCount_0f7a4_48 rfl (lv_at hl 0 rfl) ?_
  refine lv_bipush (v := (63 : Int32)) hx hb dJ6_bitCount_0f7a4_49 (by decide) ?_
  refine lv_iand hx hb dJ6_bitCount_0f7a4_51 ?_
  exact hQ _ _ _ _ _ _ hf hR dJ6_bitCount_0f7a4_52
/-! J0_isLatin1_aae02 -/
def fJ0_isLatin1_aae02 (j0 : Nat) (w : zW) (k : Int32 → zW → Prop) : Prop :=
  (((1 : Int32) = 0 →
    k (0 : Int32) w) ∧
   (¬ (1 : Int32) = 0 →
    ∀ v2 : Int32, v2 = (if ¬ (0 : Int32) = 0 then (0 : Int32) else (1 : Int32)) →
    zb01 v2 ∧ k v2 w))
set_option maxHeartbeats 4000000 in
set_option maxRecDepth 100000 in
theorem mJ0_isLatin1_aae02 {l : Launch} {D : va_G} {dA : Nat → ClassId} {ad : Nat → Nat} {al : Nat → Prop} {w : zW} {k : Int32 → zW → Prop} {j0 : Nat} (hj0 : j0 < 3)  (hf : fJ0_isLatin1_aae02 j0 w k) : zmetI l yJ0_isLatin1_aae02 cJ0_isLatin1_aae02 1 (some .boolean) 0 [.ref (dA (100 + j0))] D dA true ad al w k := by
  refine zmetZ_of (by decide) (Nat.le_of_ble_eq_true rfl) ?_
  intro p e R s m below meth c Q H ls args locs cells slots X hr hQ hR hl
  have hx := X.1
  have hb := X.2.1
  have hml := X.2.2.1
  have hown := X.2.2.2.1
  have hts := X.2.2.2.2.1
  unfold fJ0_isLatin1_aae02 at hf
  have hl : lv_has ls 1 [(0, .ref (dA (100 + j0)))] := hl
  refine va_gets hx hb hR.2.2.2.2.2.1 hR.2.2.1 hown (hts _ zq_320) (fun _ h => h) dJ0_isLatin1_aae02_0 ?_
  refine lv_if_eq (tgt := 17) hx hb dJ0_isLatin1_aae02_3 (by decide) (fun c1 => ?_) (fun c1 => ?_)
  · replace hf := hf.1 c1
    refine lv_iconst (v := (0 : Int32)) hx hb dJ0_isLatin1_aae02_17 (by decide) ?_
    exact hQ _ _ _ _ _ _ zb01_0 hf hR dJ0_isLatin1_aae02_18
  · replace hf := hf.2 c1
    refine lv_aload_n hx hb dJ0_isLatin1_aae02_6 rfl (lv_at hl 0 rfl) ?_
    refine va_getX (N := 3) (v := fun _ => .int 0) (ad := fun i => dA (100 + i)) (i := j0) hx hb (fun i hi => (hR.2.2.2.2.1.1.1 i hi).2.1) hj0 hR.2.2.1 hown (hts _ zq_321) (fun _ h => h) dJ0_isLatin1_aae02_7 ?_
    have kJ2 : ∀ v2 : Int32, v2 = (if ¬ (0 : Int32) = 0 then (0 : Int32) else (1 : Int32)) → W p l e R s m args below meth c H locs cells slots Q (F0 m 18 ls (.int v2 :: [])) := by
      intro v2 hv2
      replace hf := hf v2 hv2
      obtain ⟨h01, hf⟩ := hf
      exact hQ _ _ _ _ _ _ h01 hf hR dJ0_isLatin1_aae02_18
    refine lv_if_ne (tgt := 17) hx hb dJ0_isLatin1_aae02_10 (by decide) (fun c2 => ?_) (fun c2 => ?_)
    · refine lv_iconst (v := (0 : Int32)) hx hb dJ0_isLatin1_aae02_17 (by decide) ?_
      exact kJ2 _ (if_pos c2).symm
    · refine lv_iconst (v := (1 : Int32)) hx hb dJ0_isLatin1_aae02_13 (by decide) ?_
      refine lv_goto (tgt := 18) hx hb dJ0_isLatin1_aae02_14 (by decide) ?_
      exact kJ2 _ (if_neg (fun h9 => h9 c2)).symm
/-! J1_charAt_3b067 -/
def fJ1_charAt_3b067 (j0 : Nat) (x1 : Int32) (w : zW) (k : Int32 → zW → Prop) : Prop :=
  fJ0_checkIndex_df160 x1 (Int32.ofNat (zLen.getD j0 0)) w (fun w1 =>
  vp_in x1 (zLen.getD j0 0) ∧ 
  narrow .char (.int (((((zByt.getD j0 []).getD x1.toNatClampNeg 0) &&& (255 : Int32)).toUInt32 % 65536).toInt32)) = .int (((((zByt.getD j0 []).getD x1.toNatClampNeg 0) &&& (255 : Int32)).toUInt32 % 65536).toInt32) ∧ k (((((zByt.getD j0 []).getD x1.toNatClampNeg 0) &&& (255 : Int32)).toUInt32 % 65536).toInt32) w1)
set_option maxHeartbeats 4000000 in
set_option maxRecDepth 100000 in
theorem mJ1_charAt_3b067 {l : Launch} {D : va_G} {dA : Nat → ClassId} {ad : Nat → Nat} {al : Nat → Prop} {w : zW} {k : Int32 → zW → Prop} {j0 : Nat} {x1 : Int32} (hj0 : j0 < 3)  (hf : fJ1_charAt_3b067 j0 x1 w k) : zmetI l yJ1_charAt_3b067 cJ1_charAt_3b067 2 (some .char) 2 [.ref (dA (110 + j0)), .int x1] D dA true ad al w k := by
  refine zmetN_of (by decide) (Nat.le_of_ble_eq_true rfl) ?_
  intro p e R s m below meth c Q H ls args locs cells slots X hr hQ hR hl
  have hx := X.1
  have hb := X.2.1
  have hml := X.2.2.1
  have hown := X.2.2.2.1
  have hts := X.2.2.2.2.1
  unfold fJ1_charAt_3b067 at hf
  have hl : lv_has ls 2 [(0, .ref (dA (110 + j0))), (1, .int x1)] := hl
  refine lv_iload_n hx hb dJ1_charAt_3b067_0 rfl (lv_at hl 1 rfl) ?_
  refine lv_aload_n hx hb dJ1_charAt_3b067_1 rfl (lv_at hl 0 rfl) ?_
  refine va_tlen hx hb (hR.2.2.2.2.1.1.1 j0 hj0).2.2.2 hR.2.2.1 (v := Int32.ofNat (zLen.getD j0 0)) rfl dJ1_charAt_3b067_2 ?_
  refine z_callSV (fr1 := 1) (As := [.int x1, .int (Int32.ofNat (zLen.getD j0 0))]) (rest := []) X (hr.le (by decide)) hR zy_J0_checkIndex_df160 zq_410 (mJ0_checkIndex_df160  hf) rfl hl (Nat.le_of_ble_eq_true rfl) dJ1_charAt_3b067_3 rfl (fun w1 H locs hf hR => ?_)
  refine lv_aload_n hx hb dJ1_charAt_3b067_6 rfl (lv_at hl 0 rfl) ?_
  refine lv_iload_n hx hb dJ1_charAt_3b067_7 rfl (lv_at hl 1 rfl) ?_
  obtain ⟨hb2, hf⟩ := hf
  refine va_tb hx hb (hR.2.2.2.2.1.1.1 j0 hj0).2.2.2 hR.2.2.1 hb2 (v := .int ((zByt.getD j0 []).getD x1.toNatClampNeg 0)) rfl dJ1_charAt_3b067_8 ?_
  refine lv_sipush (v := (255 : Int32)) hx hb dJ1_charAt_3b067_9 (by decide) ?_
  refine lv_iand hx hb dJ1_charAt_3b067_12 ?_
  refine lv_i2c hx hb dJ1_charAt_3b067_13 rfl ?_
  obtain ⟨h01, hf⟩ := hf
  exact hQ _ _ _ _ _ _ h01 hf hR dJ1_charAt_3b067_14
/-! J0_charAt_5068e -/
def fJ0_charAt_5068e (j0 : Nat) (x1 : Int32) (w : zW) (k : Int32 → zW → Prop) : Prop :=
  fJ0_isLatin1_aae02 j0 w (fun r1 w1 =>
  ((r1 = 0 →
    False) ∧
   (¬ r1 = 0 →
    fJ1_charAt_3b067 j0 x1 w1 (fun r3 w3 =>
    narrow .char (.int r3) = .int r3 ∧ k r3 w3))))
set_option maxHeartbeats 4000000 in
set_option maxRecDepth 100000 in
theorem mJ0_charAt_5068e {l : Launch} {D : va_G} {dA : Nat → ClassId} {ad : Nat → Nat} {al : Nat → Prop} {w : zW} {k : Int32 → zW → Prop} {j0 : Nat} {x1 : Int32} (hj0 : j0 < 3)  (hf : fJ0_charAt_5068e j0 x1 w k) : zmetI l yJ0_charAt_5068e cJ0_charAt_5068e 2 (some .char) 3 [.ref (dA (100 + j0)), .int x1] D dA true ad al w k := by
  refine zmetN_of (by decide) (Nat.le_of_ble_eq_true rfl) ?_
  intro p e R s m below meth c Q H ls args locs cells slots X hr hQ hR hl
  have hx := X.1
  have hb := X.2.1
  have hml := X.2.2.1
  have hown := X.2.2.2.1
  have hts := X.2.2.2.2.1
  unfold fJ0_charAt_5068e at hf
  have hl : lv_has ls 2 [(0, .ref (dA (100 + j0))), (1, .int x1)] := hl
  refine lv_aload_n hx hb dJ0_charAt_5068e_0 rfl (lv_at hl 0 rfl) ?_
  refine z_callTI (fr1 := 0) (j := j0) (As := []) (rest := []) X (hr.le (by decide)) hR zy_J0_isLatin1_aae02 zq_316 hj0 rfl (mJ0_isLatin1_aae02 hj0 hf) rfl hl (Nat.le_of_ble_eq_true rfl) dJ0_charAt_5068e_1 rfl (fun r1 w1 H locs hf hR => ?_)
  refine lv_if_eq (tgt := 16) hx hb dJ0_charAt_5068e_4 (by decide) (fun c2 => ?_) (fun c2 => ?_)
  · replace hf := hf.1 c2
    refine lv_aload_n hx hb dJ0_charAt_5068e_16 rfl (lv_at hl 0 rfl) ?_
    refine va_getX (N := 3) (v := fun i => .ref (dA (110 + i))) (ad := fun i => dA (100 + i)) (i := j0) hx hb (fun i hi => (hR.2.2.2.2.1.1.1 i hi).2.2.1) hj0 hR.2.2.1 hown (hts _ zq_315) (fun _ h => h) dJ0_charAt_5068e_17 ?_
    refine lv_iload_n hx hb dJ0_charAt_5068e_20 rfl (lv_at hl 1 rfl) ?_
    exact hf.elim
  · replace hf := hf.2 c2
    refine lv_aload_n hx hb dJ0_charAt_5068e_7 rfl (lv_at hl 0 rfl) ?_
    refine va_getX (N := 3) (v := fun i => .ref (dA (110 + i))) (ad := fun i => dA (100 + i)) (i := j0) hx hb (fun i hi => (hR.2.2.2.2.1.1.1 i hi).2.2.1) hj0 hR.2.2.1 hown (hts _ zq_315) (fun _ h => h) dJ0_charAt_5068e_8 ?_
    refine lv_iload_n hx hb dJ0_charAt_5068e_11 rfl (lv_at hl 1 rfl) ?_
    refine z_callSI (fr1 := 2) (As := [.ref (dA (110 + j0)), .int x1]) (rest := []) X (hr.le (by decide)) hR zy_J1_charAt_3b067 zq_407 (mJ1_charAt_3b067 hj0 hf) rfl hl (Nat.le_of_ble_eq_true rfl) dJ0_charAt_5068e_12 rfl (fun r3 w3 H locs hf hR => ?_)
    obtain ⟨h01, hf⟩ := hf
    exact hQ _ _ _ _ _ _ h01 hf hR dJ0_charAt_5068e_15
/-! J0_coder_7d493 -/
def fJ0_coder_7d493 (j0 : Nat) (w : zW) (k : Int32 → zW → Prop) : Prop :=
  (((1 : Int32) = 0 →
    k (1 : Int32) w) ∧
   (¬ (1 : Int32) = 0 →
    k (0 : Int32) w))
set_option maxHeartbeats 4000000 in
set_option maxRecDepth 100000 in
theorem mJ0_coder_7d493 {l : Launch} {D : va_G} {dA : Nat → ClassId} {ad : Nat → Nat} {al : Nat → Prop} {w : zW} {k : Int32 → zW → Prop} {j0 : Nat} (hj0 : j0 < 3)  (hf : fJ0_coder_7d493 j0 w k) : zmetI l yJ0_coder_7d493 cJ0_coder_7d493 1 (some .byte) 0 [.ref (dA (100 + j0))] D dA true ad al w k := by
  refine zmetN_of (by decide) (Nat.le_of_ble_eq_true rfl) ?_
  intro p e R s m below meth c Q H ls args locs cells slots X hr hQ hR hl
  have hx := X.1
  have hb := X.2.1
  have hml := X.2.2.1
  have hown := X.2.2.2.1
  have hts := X.2.2.2.2.1
  unfold fJ0_coder_7d493 at hf
  have hl : lv_has ls 1 [(0, .ref (dA (100 + j0)))] := hl
  refine va_gets hx hb hR.2.2.2.2.2.1 hR.2.2.1 hown (hts _ zq_320) (fun _ h => h) dJ0_coder_7d493_0 ?_
  refine lv_if_eq (tgt := 13) hx hb dJ0_coder_7d493_3 (by decide) (fun c1 => ?_) (fun c1 => ?_)
  · replace hf := hf.1 c1
    refine lv_iconst (v := (1 : Int32)) hx hb dJ0_coder_7d493_13 (by decide) ?_
    exact hQ _ _ _ _ _ _ rfl hf hR dJ0_coder_7d493_14
  · replace hf := hf.2 c1
    refine lv_aload_n hx hb dJ0_coder_7d493_6 rfl (lv_at hl 0 rfl) ?_
    refine va_getX (N := 3) (v := fun _ => .int 0) (ad := fun i => dA (100 + i)) (i := j0) hx hb (fun i hi => (hR.2.2.2.2.1.1.1 i hi).2.1) hj0 hR.2.2.1 hown (hts _ zq_321) (fun _ h => h) dJ0_coder_7d493_7 ?_
    refine lv_goto (tgt := 14) hx hb dJ0_coder_7d493_10 (by decide) ?_
    exact hQ _ _ _ _ _ _ rfl hf hR dJ0_coder_7d493_14
/-! J0_length_8abf5 -/
def fJ0_length_8abf5 (j0 : Nat) (w : zW) (k : Int32 → zW → Prop) : Prop :=
  fJ0_coder_7d493 j0 w (fun r1 w1 =>
  k ((Int32.ofNat (zLen.getD j0 0)) >>> (r1 &&& 31)) w1)
set_option maxHeartbeats 4000000 in
set_option maxRecDepth 100000 in
theorem mJ0_length_8abf5 {l : Launch} {D : va_G} {dA : Nat → ClassId} {ad : Nat → Nat} {al : Nat → Prop} {w : zW} {k : Int32 → zW → Prop} {j0 : Nat} (hj0 : j0 < 3)  (hf : fJ0_length_8abf5 j0 w k) : zmetI l yJ0_length_8abf5 cJ0_length_8abf5 1 (some .int) 1 [.ref (dA (100 + j0))] D dA true ad al w k := by
  refine zmetI_of (by decide) (Nat.le_of_ble_eq_true rfl) ?_
  intro p e R s m below meth c Q H ls args locs cells slots X hr hQ hR hl
  have hx := X.1
  have hb := X.2.1
  have hml := X.2.2.1
  have hown := X.2.2.2.1
  have hts := X.2.2.2.2.1
  unfold fJ0_length_8abf5 at hf
  have hl : lv_has ls 1 [(0, .ref (dA (100 + j0)))] := hl
  refine lv_aload_n hx hb dJ0_length_8abf5_0 rfl (lv_at hl 0 rfl) ?_
  refine va_getX (N := 3) (v := fun i => .ref (dA (110 + i))) (ad := fun i => dA (100 + i)) (i := j0) hx hb (fun i hi => (hR.2.2.2.2.1.1.1 i hi).2.2.1) hj0 hR.2.2.1 hown (hts _ zq_315) (fun _ h => h) dJ0_length_8abf5_1 ?_
  refine va_tlen hx hb (hR.2.2.2.2.1.1.1 j0 hj0).2.2.2 hR.2.2.1 (v := Int32.ofNat (zLen.getD j0 0)) rfl dJ0_length_8abf5_4 ?_
  refine lv_aload_n hx hb dJ0_length_8abf5_5 rfl (lv_at hl 0 rfl) ?_
  refine z_callTI (fr1 := 0) (j := j0) (As := []) (rest := [.int (Int32.ofNat (zLen.getD j0 0))]) X (hr.le (by decide)) hR zy_J0_coder_7d493 zq_326 hj0 rfl (mJ0_coder_7d493 hj0 hf) rfl hl (Nat.le_of_ble_eq_true rfl) dJ0_length_8abf5_6 rfl (fun r1 w1 H locs hf hR => ?_)
  refine lv_ishr hx hb dJ0_length_8abf5_9 ?_
  exact hQ _ _ _ _ _ _ hf hR dJ0_length_8abf5_10
/-! J1_canEncode_9a6ad -/
def fJ1_canEncode_9a6ad (x0 : Int32) (w : zW) (k : Int32 → zW → Prop) : Prop :=
  ∀ v1 : Int32, v1 = (if x0 < 0 then (0 : Int32) else (if (255 : Int32) < x0 then (0 : Int32) else (1 : Int32))) →
  zb01 v1 ∧ k v1 w
set_option maxHeartbeats 4000000 in
set_option maxRecDepth 100000 in
theorem mJ1_canEncode_9a6ad {l : Launch} {D : va_G} {dA : Nat → ClassId} {ad : Nat → Nat} {al : Nat → Prop} {w : zW} {k : Int32 → zW → Prop} {x0 : Int32}   (hf : fJ1_canEncode_9a6ad x0 w k) : zmetI l yJ1_canEncode_9a6ad cJ1_canEncode_9a6ad 1 (some .boolean) 0 [.int x0] D dA true ad al w k := by
  refine zmetZ_of (by decide) (Nat.le_of_ble_eq_true rfl) ?_
  intro p e R s m below meth c Q H ls args locs cells slots X hr hQ hR hl
  have hx := X.1
  have hb := X.2.1
  have hml := X.2.2.1
  have hown := X.2.2.2.1
  have hts := X.2.2.2.2.1
  unfold fJ1_canEncode_9a6ad at hf
  have hl : lv_has ls 1 [(0, .int x0)] := hl
  refine lv_iload_n hx hb dJ1_canEncode_9a6ad_0 rfl (lv_at hl 0 rfl) ?_
  have kJ1 : ∀ v1 : Int32, v1 = (if x0 < 0 then (0 : Int32) else (if (255 : Int32) < x0 then (0 : Int32) else (1 : Int32))) → W p l e R s m args below meth c H locs cells slots Q (F0 m 16 ls (.int v1 :: [])) := by
    intro v1 hv1
    replace hf := hf v1 hv1
    obtain ⟨h01, hf⟩ := hf
    exact hQ _ _ _ _ _ _ h01 hf hR dJ1_canEncode_9a6ad_16
  refine lv_if_lt (tgt := 15) hx hb dJ1_canEncode_9a6ad_1 (by decide) (fun c1 => ?_) (fun c1 => ?_)
  · refine lv_iconst (v := (0 : Int32)) hx hb dJ1_canEncode_9a6ad_15 (by decide) ?_
    exact kJ1 _ (if_pos c1).symm
  · refine lv_iload_n hx hb dJ1_canEncode_9a6ad_4 rfl (lv_at hl 0 rfl) ?_
    refine lv_sipush (v := (255 : Int32)) hx hb dJ1_canEncode_9a6ad_5 (by decide) ?_
    refine lv_icmp_gt (tgt := 15) hx hb dJ1_canEncode_9a6ad_8 (by decide) (fun c2 => ?_) (fun c2 => ?_)
    · refine lv_iconst (v := (0 : Int32)) hx hb dJ1_canEncode_9a6ad_15 (by decide) ?_
      exact kJ1 _ ((if_neg c1).trans (if_pos c2)).symm
    · refine lv_iconst (v := (1 : Int32)) hx hb dJ1_canEncode_9a6ad_11 (by decide) ?_
      refine lv_goto (tgt := 16) hx hb dJ1_canEncode_9a6ad_12 (by decide) ?_
      exact kJ1 _ ((if_neg c1).trans (if_neg c2)).symm
/-! J1_indexOfChar_4cfef -/
def fJ1_indexOfChar_4cfef_L7 (j0 : Nat) (k : Int32 → zW → Prop) : Nat → Int32 → Int32 → Int32 → zW → Prop
  | 0 => fun _ _ _ _ => False
  | n + 1 => fun x3 x4 x5 w =>
    ((x3 ≤ x5 →
      k (-1 : Int32) w) ∧
     (¬ x3 ≤ x5 →
      vp_in x5 (zLen.getD j0 0) ∧ 
      ((¬ ((zByt.getD j0 []).getD x5.toNatClampNeg 0) = x4 →
        fJ1_indexOfChar_4cfef_L7 j0 k n x3 x4 (x5 + (1 : Int32)) w) ∧
       (((zByt.getD j0 []).getD x5.toNatClampNeg 0) = x4 →
        k x5 w))))
set_option maxHeartbeats 4000000 in
set_option maxRecDepth 100000 in
theorem mJ1_indexOfChar_4cfef_L7 {k : Int32 → zW → Prop} {j0 : Nat} (X : zCx p s m args meth c cJ1_indexOfChar_4cfef 6 RJ1 (some .int)) (hr : zRm R 0 cells slots) (hQ : zRetI p l e R s m args below meth c cells slots Q D dA true ad0 al0 ad al cJ1_indexOfChar_4cfef k) (hj0 : j0 < 3)  : ∀ (n : Nat) (x3 : Int32) (x4 : Int32) (x5 : Int32) (w : zW) (H : Heap) (locs : List Loc) (ls : Array Slot), fJ1_indexOfChar_4cfef_L7 j0 k n x3 x4 x5 w → zSt D dA true ad0 al0 ad al w s H locs → lv_has ls 6 [(0, .ref (dA (110 + j0))), (3, .int x3), (4, .int x4), (5, .int x5)] → W p l e R s m args below meth c H locs cells slots Q (F0 m 7 ls []) := by
  intro n
  induction n with
  | zero => exact fun _ _ _ _ _ _ _ hf => hf.elim
  | succ n ih =>
    intro x3 x4 x5 w H locs ls hf hR hl
    have hx := X.1
    have hb := X.2.1
    have hml := X.2.2.1
    have hown := X.2.2.2.1
    have hts := X.2.2.2.2.1
    rw [fJ1_indexOfChar_4cfef_L7] at hf
    refine lv_iload hx hb dJ1_indexOfChar_4cfef_7 (lv_at hl 3 rfl) ?_
    refine lv_iload_n hx hb dJ1_indexOfChar_4cfef_9 rfl (lv_at hl 1 rfl) ?_
    refine lv_icmp_ge (tgt := 31) hx hb dJ1_indexOfChar_4cfef_10 (by decide) (fun c2 => ?_) (fun c2 => ?_)
    · replace hf := hf.1 c2
      refine lv_iconst (v := (-1 : Int32)) hx hb dJ1_indexOfChar_4cfef_31 (by decide) ?_
      exact hQ _ _ _ _ _ _ hf hR dJ1_indexOfChar_4cfef_32
    · replace hf := hf.2 c2
      refine lv_aload_n hx hb dJ1_indexOfChar_4cfef_13 rfl (lv_at hl 0 rfl) ?_
      refine lv_iload hx hb dJ1_indexOfChar_4cfef_14 (lv_at hl 3 rfl) ?_
      obtain ⟨hb3, hf⟩ := hf
      refine va_tb hx hb (hR.2.2.2.2.1.1.1 j0 hj0).2.2.2 hR.2.2.1 hb3 (v := .int ((zByt.getD j0 []).getD x5.toNatClampNeg 0)) rfl dJ1_indexOfChar_4cfef_16 ?_
      refine lv_iload hx hb dJ1_indexOfChar_4cfef_17 (lv_at hl 2 rfl) ?_
      refine lv_icmp_ne (tgt := 25) hx hb dJ1_indexOfChar_4cfef_19 (by decide) (fun c4 => ?_) (fun c4 => ?_)
      · replace hf := hf.1 c4
        refine lv_iinc (v := x5 + (1 : Int32)) (lv' := [(5, .int (x5 + (1 : Int32))), (0, .ref (dA (110 + j0))), (3, .int x3), (4, .int x4)]) hx hb dJ1_indexOfChar_4cfef_25 hl (k := 3) rfl rfl (by decide) rfl (fun ls hl => ?_)
        refine lv_goto (tgt := 7) hx hb dJ1_indexOfChar_4cfef_28 (by decide) ?_
        exact ih x3 x4 (x5 + (1 : Int32)) w _ _ _ hf hR (lv_sub hl [1, 2, 3, 0] rfl)
      · replace hf := hf.2 c4
        refine lv_iload hx hb dJ1_indexOfChar_4cfef_22 (lv_at hl 3 rfl) ?_
        exact hQ _ _ _ _ _ _ hf hR dJ1_indexOfChar_4cfef_24
def fJ1_indexOfChar_4cfef (j0 : Nat) (x1 : Int32) (x2 : Int32) (x3 : Int32) (w : zW) (k : Int32 → zW → Prop) : Prop :=
  ∀ v1 : Int32, v1 = x1.toInt8.toInt32 →
  ∃ n9, fJ1_indexOfChar_4cfef_L7 j0 k n9 x3 v1 x2 w
set_option maxHeartbeats 4000000 in
set_option maxRecDepth 100000 in
theorem mJ1_indexOfChar_4cfef {l : Launch} {D : va_G} {dA : Nat → ClassId} {ad : Nat → Nat} {al : Nat → Prop} {w : zW} {k : Int32 → zW → Prop} {j0 : Nat} {x1 : Int32} {x2 : Int32} {x3 : Int32} (hj0 : j0 < 3)  (hf : fJ1_indexOfChar_4cfef j0 x1 x2 x3 w k) : zmetI l yJ1_indexOfChar_4cfef cJ1_indexOfChar_4cfef 6 (some .int) 0 [.ref (dA (110 + j0)), .int x1, .int x2, .int x3] D dA true ad al w k := by
  refine zmetI_of (by decide) (Nat.le_of_ble_eq_true rfl) ?_
  intro p e R s m below meth c Q H ls args locs cells slots X hr hQ hR hl
  have hx := X.1
  have hb := X.2.1
  have hml := X.2.2.1
  have hown := X.2.2.2.1
  have hts := X.2.2.2.2.1
  unfold fJ1_indexOfChar_4cfef at hf
  have hl : lv_has ls 6 [(0, .ref (dA (110 + j0))), (1, .int x1), (2, .int x2), (3, .int x3)] := hl
  refine lv_iload_n hx hb dJ1_indexOfChar_4cfef_0 rfl (lv_at hl 1 rfl) ?_
  refine lv_i2b hx hb dJ1_indexOfChar_4cfef_1 rfl ?_
  refine lv_topi (fun v1 hv1 => ?_)
  replace hf := hf v1 hv1
  refine lv_istore (lv' := [(4, .int v1), (0, .ref (dA (110 + j0))), (1, .int x1), (2, .int x2), (3, .int x3)]) hx hb dJ1_indexOfChar_4cfef_2 hl (by decide) rfl (fun ls hl => ?_)
  refine lv_iload_n hx hb dJ1_indexOfChar_4cfef_4 rfl (lv_at hl 3 rfl) ?_
  refine lv_istore (lv' := [(5, .int x2), (4, .int v1), (0, .ref (dA (110 + j0))), (1, .int x1), (2, .int x2), (3, .int x3)]) hx hb dJ1_indexOfChar_4cfef_5 hl (by decide) rfl (fun ls hl => ?_)
  obtain ⟨n9, hf⟩ := hf
  exact mJ1_indexOfChar_4cfef_L7 X hr hQ hj0  n9 x3 v1 x2 w _ _ _ hf hR (lv_sub hl [2, 5, 1, 0] rfl)
/-! J1_indexOf_4cfef -/
def fJ1_indexOf_4cfef (j0 : Nat) (x1 : Int32) (x2 : Int32) (x3 : Int32) (w : zW) (k : Int32 → zW → Prop) : Prop :=
  fJ1_canEncode_9a6ad x1 w (fun r1 w1 =>
  ((¬ r1 = 0 →
    ∀ v3 : Int32, v3 = (if x2 < (0 : Int32) then (0 : Int32) else x2) →
    ∀ v4 : Int32, v4 = (if Int32.ofNat (zLen.getD j0 0) < x3 then Int32.ofNat (zLen.getD j0 0) else x3) →
    ((v3 < v4 →
      fJ1_indexOfChar_4cfef j0 x1 v3 v4 w1 (fun r6 w6 =>
      k r6 w6)) ∧
     (¬ v3 < v4 →
      k (-1 : Int32) w1))) ∧
   (r1 = 0 →
    k (-1 : Int32) w1)))
set_option maxHeartbeats 4000000 in
set_option maxRecDepth 100000 in
theorem mJ1_indexOf_4cfef {l : Launch} {D : va_G} {dA : Nat → ClassId} {ad : Nat → Nat} {al : Nat → Prop} {w : zW} {k : Int32 → zW → Prop} {j0 : Nat} {x1 : Int32} {x2 : Int32} {x3 : Int32} (hj0 : j0 < 3)  (hf : fJ1_indexOf_4cfef j0 x1 x2 x3 w k) : zmetI l yJ1_indexOf_4cfef cJ1_indexOf_4cfef 4 (some .int) 1 [.ref (dA (110 + j0)), .int x1, .int x2, .int x3] D dA true ad al w k := by
  refine zmetI_of (by decide) (Nat.le_of_ble_eq_true rfl) ?_
  intro p e R s m below meth c Q H ls args locs cells slots X hr hQ hR hl
  have hx := X.1
  have hb := X.2.1
  have hml := X.2.2.1
  have hown := X.2.2.2.1
  have hts := X.2.2.2.2.1
  unfold fJ1_indexOf_4cfef at hf
  have hl : lv_has ls 4 [(0, .ref (dA (110 + j0))), (1, .int x1), (2, .int x2), (3, .int x3)] := hl
  refine lv_iload_n hx hb dJ1_indexOf_4cfef_0 rfl (lv_at hl 1 rfl) ?_
  refine z_callSI (fr1 := 0) (As := [.int x1]) (rest := []) X (hr.le (by decide)) hR zy_J1_canEncode_9a6ad zq_341 (mJ1_canEncode_9a6ad  hf) rfl hl (Nat.le_of_ble_eq_true rfl) dJ1_indexOf_4cfef_1 rfl (fun r1 w1 H locs hf hR => ?_)
  refine lv_if_ne (tgt := 9) hx hb dJ1_indexOf_4cfef_4 (by decide) (fun c2 => ?_) (fun c2 => ?_)
  · replace hf := hf.1 c2
    refine lv_iload_n hx hb dJ1_indexOf_4cfef_9 rfl (lv_at hl 2 rfl) ?_
    refine lv_iconst (v := (0 : Int32)) hx hb dJ1_indexOf_4cfef_10 (by decide) ?_
    refine va_mmax hx hb (by rw [hml]; exact hl.1.symm) hown (hts _ zq_334) (hts _ zq_335) (hts _ zq_336) (hts _ zq_337) (by have := hr.1; omega) (by have := hr.2.1; show (List.sum []) + 13 ≤ R.locals; simp only [List.sum_cons, List.sum_nil, Value.category]; omega) hr.2.2.1 hr.2.2.2 dJ1_indexOf_4cfef_11 ?_
    refine lv_topi (fun v3 hv3 => ?_)
    replace hf := hf v3 hv3
    refine lv_istore_n (lv' := [(2, .int v3), (0, .ref (dA (110 + j0))), (1, .int x1), (3, .int x3)]) hx hb dJ1_indexOf_4cfef_14 rfl hl (by decide) rfl (fun ls hl => ?_)
    refine lv_iload_n hx hb dJ1_indexOf_4cfef_15 rfl (lv_at hl 3 rfl) ?_
    refine lv_aload_n hx hb dJ1_indexOf_4cfef_16 rfl (lv_at hl 1 rfl) ?_
    refine va_tlen hx hb (hR.2.2.2.2.1.1.1 j0 hj0).2.2.2 hR.2.2.1 (v := Int32.ofNat (zLen.getD j0 0)) rfl dJ1_indexOf_4cfef_17 ?_
    refine va_mmin hx hb (by rw [hml]; exact hl.1.symm) hown (hts _ zq_338) (hts _ zq_339) (hts _ zq_336) (hts _ zq_340) (by have := hr.1; omega) (by have := hr.2.1; show (List.sum []) + 13 ≤ R.locals; simp only [List.sum_cons, List.sum_nil, Value.category]; omega) hr.2.2.1 hr.2.2.2 dJ1_indexOf_4cfef_18 ?_
    refine lv_topi (fun v4 hv4 => ?_)
    replace hf := hf v4 hv4
    refine lv_istore_n (lv' := [(3, .int v4), (2, .int v3), (0, .ref (dA (110 + j0))), (1, .int x1)]) hx hb dJ1_indexOf_4cfef_21 rfl hl (by decide) rfl (fun ls hl => ?_)
    refine lv_iload_n hx hb dJ1_indexOf_4cfef_22 rfl (lv_at hl 1 rfl) ?_
    refine lv_iload_n hx hb dJ1_indexOf_4cfef_23 rfl (lv_at hl 0 rfl) ?_
    refine lv_icmp_lt (tgt := 29) hx hb dJ1_indexOf_4cfef_24 (by decide) (fun c5 => ?_) (fun c5 => ?_)
    · replace hf := hf.1 c5
      refine lv_aload_n hx hb dJ1_indexOf_4cfef_29 rfl (lv_at hl 2 rfl) ?_
      refine lv_iload_n hx hb dJ1_indexOf_4cfef_30 rfl (lv_at hl 3 rfl) ?_
      refine lv_iload_n hx hb dJ1_indexOf_4cfef_31 rfl (lv_at hl 1 rfl) ?_
      refine lv_iload_n hx hb dJ1_indexOf_4cfef_32 rfl (lv_at hl 0 rfl) ?_
      refine z_callSI (fr1 := 0) (As := [.ref (dA (110 + j0)), .int x1, .int v3, .int v4]) (rest := []) X (hr.le (by decide)) hR zy_J1_indexOfChar_4cfef zq_344 (mJ1_indexOfChar_4cfef hj0 hf) rfl hl (Nat.le_of_ble_eq_true rfl) dJ1_indexOf_4cfef_33 rfl (fun r6 w6 H locs hf hR => ?_)
      exact hQ _ _ _ _ _ _ hf hR dJ1_indexOf_4cfef_36
    · replace hf := hf.2 c5
      refine lv_iconst (v := (-1 : Int32)) hx hb dJ1_indexOf_4cfef_27 (by decide) ?_
      exact hQ _ _ _ _ _ _ hf hR dJ1_indexOf_4cfef_28
  · replace hf := hf.2 c2
    refine lv_iconst (v := (-1 : Int32)) hx hb dJ1_indexOf_4cfef_7 (by decide) ?_
    exact hQ _ _ _ _ _ _ hf hR dJ1_indexOf_4cfef_8
/-! J0_indexOf_7cf53 -/
def fJ0_indexOf_7cf53 (j0 : Nat) (x1 : Int32) (x2 : Int32) (w : zW) (k : Int32 → zW → Prop) : Prop :=
  fJ0_isLatin1_aae02 j0 w (fun r1 w1 =>
  ((r1 = 0 →
    fJ0_length_8abf5 j0 w1 (fun r3 w3 =>
    False)) ∧
   (¬ r1 = 0 →
    fJ0_length_8abf5 j0 w1 (fun r4 w4 =>
    fJ1_indexOf_4cfef j0 x1 x2 r4 w4 (fun r5 w5 =>
    k r5 w5)))))
set_option maxHeartbeats 4000000 in
set_option maxRecDepth 100000 in
theorem mJ0_indexOf_7cf53 {l : Launch} {D : va_G} {dA : Nat → ClassId} {ad : Nat → Nat} {al : Nat → Prop} {w : zW} {k : Int32 → zW → Prop} {j0 : Nat} {x1 : Int32} {x2 : Int32} (hj0 : j0 < 3)  (hf : fJ0_indexOf_7cf53 j0 x1 x2 w k) : zmetI l yJ0_indexOf_7cf53 cJ0_indexOf_7cf53 3 (some .int) 2 [.ref (dA (100 + j0)), .int x1, .int x2] D dA true ad al w k := by
  refine zmetI_of (by decide) (Nat.le_of_ble_eq_true rfl) ?_
  intro p e R s m below meth c Q H ls args locs cells slots X hr hQ hR hl
  have hx := X.1
  have hb := X.2.1
  have hml := X.2.2.1
  have hown := X.2.2.2.1
  have hts := X.2.2.2.2.1
  unfold fJ0_indexOf_7cf53 at hf
  have hl : lv_has ls 3 [(0, .ref (dA (100 + j0))), (1, .int x1), (2, .int x2)] := hl
  refine lv_aload_n hx hb dJ0_indexOf_7cf53_0 rfl (lv_at hl 0 rfl) ?_
  refine z_callTI (fr1 := 0) (j := j0) (As := []) (rest := []) X (hr.le (by decide)) hR zy_J0_isLatin1_aae02 zq_316 hj0 rfl (mJ0_isLatin1_aae02 hj0 hf) rfl hl (Nat.le_of_ble_eq_true rfl) dJ0_indexOf_7cf53_1 rfl (fun r1 w1 H locs hf hR => ?_)
  refine lv_if_eq (tgt := 23) hx hb dJ0_indexOf_7cf53_4 (by decide) (fun c2 => ?_) (fun c2 => ?_)
  · replace hf := hf.1 c2
    refine lv_aload_n hx hb dJ0_indexOf_7cf53_23 rfl (lv_at hl 0 rfl) ?_
    refine va_getX (N := 3) (v := fun i => .ref (dA (110 + i))) (ad := fun i => dA (100 + i)) (i := j0) hx hb (fun i hi => (hR.2.2.2.2.1.1.1 i hi).2.2.1) hj0 hR.2.2.1 hown (hts _ zq_315) (fun _ h => h) dJ0_indexOf_7cf53_24 ?_
    refine lv_iload_n hx hb dJ0_indexOf_7cf53_27 rfl (lv_at hl 1 rfl) ?_
    refine lv_iload_n hx hb dJ0_indexOf_7cf53_28 rfl (lv_at hl 2 rfl) ?_
    refine lv_aload_n hx hb dJ0_indexOf_7cf53_29 rfl (lv_at hl 0 rfl) ?_
    refine z_callTI (fr1 := 1) (j := j0) (As := []) (rest := [.int x2, .int x1, .ref (dA (110 + j0))]) X (hr.le (by decide)) hR zy_J0_length_8abf5 zq_322 hj0 rfl (mJ0_length_8abf5 hj0 hf) rfl hl (Nat.le_of_ble_eq_true rfl) dJ0_indexOf_7cf53_30 rfl (fun r3 w3 H locs hf hR => ?_)
    exact hf.elim
  · replace hf := hf.2 c2
    refine lv_aload_n hx hb dJ0_indexOf_7cf53_7 rfl (lv_at hl 0 rfl) ?_
    refine va_getX (N := 3) (v := fun i => .ref (dA (110 + i))) (ad := fun i => dA (100 + i)) (i := j0) hx hb (fun i hi => (hR.2.2.2.2.1.1.1 i hi).2.2.1) hj0 hR.2.2.1 hown (hts _ zq_315) (fun _ h => h) dJ0_indexOf_7cf53_8 ?_
    refine lv_iload_n hx hb dJ0_indexOf_7cf53_11 rfl (lv_at hl 1 rfl) ?_
    refine lv_iload_n hx hb dJ0_indexOf_7cf53_12 rfl (lv_at hl 2 rfl) ?_
    refine lv_aload_n hx hb dJ0_indexOf_7cf53_13 rfl (lv_at hl 0 rfl) ?_
    refine z_callTI (fr1 := 1) (j := j0) (As := []) (rest := [.int x2, .int x1, .ref (dA (110 + j0))]) X (hr.le (by decide)) hR zy_J0_length_8abf5 zq_322 hj0 rfl (mJ0_length_8abf5 hj0 hf) rfl hl (Nat.le_of_ble_eq_true rfl) dJ0_indexOf_7cf53_14 rfl (fun r4 w4 H locs hf hR => ?_)
    refine z_callSI (fr1 := 1) (As := [.ref (dA (110 + j0)), .int x1, .int x2, .int r4]) (rest := []) X (hr.le (by decide)) hR zy_J1_indexOf_4cfef zq_330 (mJ1_indexOf_4cfef hj0 hf) rfl hl (Nat.le_of_ble_eq_true rfl) dJ0_indexOf_7cf53_17 rfl (fun r5 w5 H locs hf hR => ?_)
    refine lv_goto (tgt := 36) hx hb dJ0_indexOf_7cf53_20 (by decide) ?_
    exact hQ _ _ _ _ _ _ hf hR dJ0_indexOf_7cf53_36
/-! J0_indexOf_0f7a4 -/
def fJ0_indexOf_0f7a4 (j0 : Nat) (x1 : Int32) (w : zW) (k : Int32 → zW → Prop) : Prop :=
  fJ0_indexOf_7cf53 j0 x1 (0 : Int32) w (fun r1 w1 =>
  k r1 w1)
set_option maxHeartbeats 4000000 in
set_option maxRecDepth 100000 in
theorem mJ0_indexOf_0f7a4 {l : Launch} {D : va_G} {dA : Nat → ClassId} {ad : Nat → Nat} {al : Nat → Prop} {w : zW} {k : Int32 → zW → Prop} {j0 : Nat} {x1 : Int32} (hj0 : j0 < 3)  (hf : fJ0_indexOf_0f7a4 j0 x1 w k) : zmetI l yJ0_indexOf_0f7a4 cJ0_indexOf_0f7a4 2 (some .int) 3 [.ref (dA (100 + j0)), .int x1] D dA true ad al w k := by
  refine zmetI_of (by decide) (Nat.le_of_ble_eq_true rfl) ?_
  intro p e R s m below meth c Q H ls args locs cells slots X hr hQ hR hl
  have hx := X.1
  have hb := X.2.1
  have hml := X.2.2.1
  have hown := X.2.2.2.1
  have hts := X.2.2.2.2.1
  unfold fJ0_indexOf_0f7a4 at hf
  have hl : lv_has ls 2 [(0, .ref (dA (100 + j0))), (1, .int x1)] := hl
  refine lv_aload_n hx hb dJ0_indexOf_0f7a4_0 rfl (lv_at hl 0 rfl) ?_
  refine lv_iload_n hx hb dJ0_indexOf_0f7a4_1 rfl (lv_at hl 1 rfl) ?_
  refine lv_iconst (v := (0 : Int32)) hx hb dJ0_indexOf_0f7a4_2 (by decide) ?_
  refine z_callTI (fr1 := 2) (j := j0) (As := [.int x1, .int (0 : Int32)]) (rest := []) X (hr.le (by decide)) hR zy_J0_indexOf_7cf53 zq_311 hj0 rfl (mJ0_indexOf_7cf53 hj0 hf) rfl hl (Nat.le_of_ble_eq_true rfl) dJ0_indexOf_0f7a4_3 rfl (fun r1 w1 H locs hf hR => ?_)
  exact hQ _ _ _ _ _ _ hf hR dJ0_indexOf_0f7a4_6
end ZM
