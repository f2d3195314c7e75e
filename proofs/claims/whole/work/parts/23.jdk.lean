theorem dJ6_bitCount_0f7a4_0 : decode cJ6_bitCount_0f7a4 0 = .ok (.iload_n 0, 1) := by decide +kernel
theorem dJ6_bitCount_0f7a4_1 : decode cJ6_bitCount_0f7a4 1 = .ok (.iload_n 0, 1) := by decide +kernel
theorem dJ6_bitCount_0f7a4_2 : decode cJ6_bitCount_0f7a4 2 = .ok (.iconst 1, 1) := by decide +kernel
theorem dJ6_bitCount_0f7a4_3 : decode cJ6_bitCount_0f7a4 3 = .ok (.iushr, 1) := by decide +kernel
theorem dJ6_bitCount_0f7a4_4 : decode cJ6_bitCount_0f7a4 4 = .ok (.ldc_w 265, 3) := by decide +kernel
theorem dJ6_bitCount_0f7a4_7 : decode cJ6_bitCount_0f7a4 7 = .ok (.iand, 1) := by decide +kernel
theorem dJ6_bitCount_0f7a4_8 : decode cJ6_bitCount_0f7a4 8 = .ok (.isub, 1) := by decide +kernel
theorem dJ6_bitCount_0f7a4_9 : decode cJ6_bitCount_0f7a4 9 = .ok (.istore_n 0, 1) := by decide +kernel
theorem dJ6_bitCount_0f7a4_10 : decode cJ6_bitCount_0f7a4 10 = .ok (.iload_n 0, 1) := by decide +kernel
theorem dJ6_bitCount_0f7a4_11 : decode cJ6_bitCount_0f7a4 11 = .ok (.ldc_w 266, 3) := by decide +kernel
theorem dJ6_bitCount_0f7a4_14 : decode cJ6_bitCount_0f7a4 14 = .ok (.iand, 1) := by decide +kernel
theorem dJ6_bitCount_0f7a4_15 : decode cJ6_bitCount_0f7a4 15 = .ok (.iload_n 0, 1) := by decide +kernel
theorem dJ6_bitCount_0f7a4_16 : decode cJ6_bitCount_0f7a4 16 = .ok (.iconst 2, 1) := by decide +kernel
theorem dJ6_bitCount_0f7a4_17 : decode cJ6_bitCount_0f7a4 17 = .ok (.iushr, 1) := by decide +kernel
theorem dJ6_bitCount_0f7a4_18 : decode cJ6_bitCount_0f7a4 18 = .ok (.ldc_w 266, 3) := by decide +kernel
theorem dJ6_bitCount_0f7a4_21 : decode cJ6_bitCount_0f7a4 21 = .ok (.iand, 1) := by decide +kernel
theorem dJ6_bitCount_0f7a4_22 : decode cJ6_bitCount_0f7a4 22 = .ok (.iadd, 1) := by decide +kernel
theorem dJ6_bitCount_0f7a4_23 : decode cJ6_bitCount_0f7a4 23 = .ok (.istore_n 0, 1) := by decide +kernel
theorem dJ6_bitCount_0f7a4_24 : decode cJ6_bitCount_0f7a4 24 = .ok (.iload_n 0, 1) := by decide +kernel
theorem dJ6_bitCount_0f7a4_25 : decode cJ6_bitCount_0f7a4 25 = .ok (.iload_n 0, 1) := by decide +kernel
theorem dJ6_bitCount_0f7a4_26 : decode cJ6_bitCount_0f7a4 26 = .ok (.iconst 4, 1) := by decide +kernel
theorem dJ6_bitCount_0f7a4_27 : decode cJ6_bitCount_0f7a4 27 = .ok (.iushr, 1) := by decide +kernel
theorem dJ6_bitCount_0f7a4_28 : decode cJ6_bitCount_0f7a4 28 = .ok (.iadd, 1) := by decide +kernel
theorem dJ6_bitCount_0f7a4_29 : decode cJ6_bitCount_0f7a4 29 = .ok (.ldc_w 267, 3) := by decide +kernel
theorem dJ6_bitCount_0f7a4_32 : decode cJ6_bitCount_0f7a4 32 = .ok (.iand, 1) := by decide +kernel
theorem dJ6_bitCount_0f7a4_33 : decode cJ6_bitCount_0f7a4 33 = .ok (.istore_n 0, 1) := by decide +kernel
theorem dJ6_bitCount_0f7a4_34 : decode cJ6_bitCount_0f7a4 34 = .ok (.iload_n 0, 1) := by decide +kernel
theorem dJ6_bitCount_0f7a4_35 : decode cJ6_bitCount_0f7a4 35 = .ok (.iload_n 0, 1) := by decide +kernel
theorem dJ6_bitCount_0f7a4_36 : decode cJ6_bitCount_0f7a4 36 = .ok (.bipush 8, 2) := by decide +kernel
theorem dJ6_bitCount_0f7a4_38 : decode cJ6_bitCount_0f7a4 38 = .ok (.iushr, 1) := by decide +kernel
theorem dJ6_bitCount_0f7a4_39 : decode cJ6_bitCount_0f7a4 39 = .ok (.iadd, 1) := by decide +kernel
theorem dJ6_bitCount_0f7a4_40 : decode cJ6_bitCount_0f7a4 40 = .ok (.istore_n 0, 1) := by decide +kernel
theorem dJ6_bitCount_0f7a4_41 : decode cJ6_bitCount_0f7a4 41 = .ok (.iload_n 0, 1) := by decide +kernel
theorem dJ6_bitCount_0f7a4_42 : decode cJ6_bitCount_0f7a4 42 = .ok (.iload_n 0, 1) := by decide +kernel
theorem dJ6_bitCount_0f7a4_43 : decode cJ6_bitCount_0f7a4 43 = .ok (.bipush 16, 2) := by decide +kernel
theorem dJ6_bitCount_0f7a4_45 : decode cJ6_bitCount_0f7a4 45 = .ok (.iushr, 1) := by decide +kernel
theorem dJ6_bitCount_0f7a4_46 : decode cJ6_bitCount_0f7a4 46 = .ok (.iadd, 1) := by decide +kernel
theorem dJ6_bitCount_0f7a4_47 : decode cJ6_bitCount_0f7a4 47 = .ok (.istore_n 0, 1) := by decide +kernel
theorem dJ6_bitCount_0f7a4_48 : decode cJ6_bitCount_0f7a4 48 = .ok (.iload_n 0, 1) := by decide +kernel
theorem dJ6_bitCount_0f7a4_49 : decode cJ6_bitCount_0f7a4 49 = .ok (.bipush 63, 2) := by decide +kernel
theorem dJ6_bitCount_0f7a4_51 : decode cJ6_bitCount_0f7a4 51 = .ok (.iand, 1) := by decide +kernel
theorem dJ6_bitCount_0f7a4_52 : decode cJ6_bitCount_0f7a4 52 = .ok (.ireturn, 1) := by decide +kernel
theorem dJ0_coder_7d493_0 : decode cJ0_coder_7d493 0 = .ok (.getstatic 38, 3) := by decide +kernel
theorem dJ0_coder_7d493_3 : decode cJ0_coder_7d493 3 = .ok (.ifCond .eq 10, 3) := by decide +kernel
theorem dJ0_coder_7d493_6 : decode cJ0_coder_7d493 6 = .ok (.aload_n 0, 1) := by decide +kernel
theorem dJ0_coder_7d493_7 : decode cJ0_coder_7d493 7 = .ok (.getfield 15, 3) := by decide +kernel
theorem dJ0_coder_7d493_10 : decode cJ0_coder_7d493 10 = .ok (.goto 4, 3) := by decide +kernel
theorem dJ0_coder_7d493_13 : decode cJ0_coder_7d493 13 = .ok (.iconst 1, 1) := by decide +kernel
theorem dJ0_coder_7d493_14 : decode cJ0_coder_7d493 14 = .ok (.ireturn, 1) := by decide +kernel
theorem dJ0_isLatin1_aae02_0 : decode cJ0_isLatin1_aae02 0 = .ok (.getstatic 38, 3) := by decide +kernel
theorem dJ0_isLatin1_aae02_3 : decode cJ0_isLatin1_aae02 3 = .ok (.ifCond .eq 14, 3) := by decide +kernel
theorem dJ0_isLatin1_aae02_6 : decode cJ0_isLatin1_aae02 6 = .ok (.aload_n 0, 1) := by decide +kernel
theorem dJ0_isLatin1_aae02_7 : decode cJ0_isLatin1_aae02 7 = .ok (.getfield 15, 3) := by decide +kernel
theorem dJ0_isLatin1_aae02_10 : decode cJ0_isLatin1_aae02 10 = .ok (.ifCond .ne 7, 3) := by decide +kernel
theorem dJ0_isLatin1_aae02_13 : decode cJ0_isLatin1_aae02 13 = .ok (.iconst 1, 1) := by decide +kernel
theorem dJ0_isLatin1_aae02_14 : decode cJ0_isLatin1_aae02 14 = .ok (.goto 4, 3) := by decide +kernel
theorem dJ0_isLatin1_aae02_17 : decode cJ0_isLatin1_aae02 17 = .ok (.iconst 0, 1) := by decide +kernel
theorem dJ0_isLatin1_aae02_18 : decode cJ0_isLatin1_aae02 18 = .ok (.ireturn, 1) := by decide +kernel
theorem dJ0_length_8abf5_0 : decode cJ0_length_8abf5 0 = .ok (.aload_n 0, 1) := by decide +kernel
theorem dJ0_length_8abf5_1 : decode cJ0_length_8abf5 1 = .ok (.getfield 9, 3) := by decide +kernel
theorem dJ0_length_8abf5_4 : decode cJ0_length_8abf5 4 = .ok (.arraylength, 1) := by decide +kernel
theorem dJ0_length_8abf5_5 : decode cJ0_length_8abf5 5 = .ok (.aload_n 0, 1) := by decide +kernel
theorem dJ0_length_8abf5_6 : decode cJ0_length_8abf5 6 = .ok (.invokevirtual 335, 3) := by decide +kernel
theorem dJ0_length_8abf5_9 : decode cJ0_length_8abf5 9 = .ok (.ishr, 1) := by decide +kernel
theorem dJ0_length_8abf5_10 : decode cJ0_length_8abf5 10 = .ok (.ireturn, 1) := by decide +kernel
theorem dJ1_canEncode_9a6ad_0 : decode cJ1_canEncode_9a6ad 0 = .ok (.iload_n 0, 1) := by decide +kernel
theorem dJ1_canEncode_9a6ad_1 : decode cJ1_canEncode_9a6ad 1 = .ok (.ifCond .lt 14, 3) := by decide +kernel
theorem dJ1_canEncode_9a6ad_4 : decode cJ1_canEncode_9a6ad 4 = .ok (.iload_n 0, 1) := by decide +kernel
theorem dJ1_canEncode_9a6ad_5 : decode cJ1_canEncode_9a6ad 5 = .ok (.sipush 255, 3) := by decide +kernel
theorem dJ1_canEncode_9a6ad_8 : decode cJ1_canEncode_9a6ad 8 = .ok (.if_icmp .gt 7, 3) := by decide +kernel
theorem dJ1_canEncode_9a6ad_11 : decode cJ1_canEncode_9a6ad 11 = .ok (.iconst 1, 1) := by decide +kernel
theorem dJ1_canEncode_9a6ad_12 : decode cJ1_canEncode_9a6ad 12 = .ok (.goto 4, 3) := by decide +kernel
theorem dJ1_canEncode_9a6ad_15 : decode cJ1_canEncode_9a6ad 15 = .ok (.iconst 0, 1) := by decide +kernel
theorem dJ1_canEncode_9a6ad_16 : decode cJ1_canEncode_9a6ad 16 = .ok (.ireturn, 1) := by decide +kernel
theorem dJ1_indexOfChar_4cfef_0 : decode cJ1_indexOfChar_4cfef 0 = .ok (.iload_n 1, 1) := by decide +kernel
theorem dJ1_indexOfChar_4cfef_1 : decode cJ1_indexOfChar_4cfef 1 = .ok (.i2b, 1) := by decide +kernel
theorem dJ1_indexOfChar_4cfef_2 : decode cJ1_indexOfChar_4cfef 2 = .ok (.istore 4, 2) := by decide +kernel
theorem dJ1_indexOfChar_4cfef_4 : decode cJ1_indexOfChar_4cfef 4 = .ok (.iload_n 2, 1) := by decide +kernel
theorem dJ1_indexOfChar_4cfef_5 : decode cJ1_indexOfChar_4cfef 5 = .ok (.istore 5, 2) := by decide +kernel
theorem dJ1_indexOfChar_4cfef_7 : decode cJ1_indexOfChar_4cfef 7 = .ok (.iload 5, 2) := by decide +kernel
theorem dJ1_indexOfChar_4cfef_9 : decode cJ1_indexOfChar_4cfef 9 = .ok (.iload_n 3, 1) := by decide +kernel
theorem dJ1_indexOfChar_4cfef_10 : decode cJ1_indexOfChar_4cfef 10 = .ok (.if_icmp .ge 21, 3) := by decide +kernel
theorem dJ1_indexOfChar_4cfef_13 : decode cJ1_indexOfChar_4cfef 13 = .ok (.aload_n 0, 1) := by decide +kernel
theorem dJ1_indexOfChar_4cfef_14 : decode cJ1_indexOfChar_4cfef 14 = .ok (.iload 5, 2) := by decide +kernel
theorem dJ1_indexOfChar_4cfef_16 : decode cJ1_indexOfChar_4cfef 16 = .ok (.baload, 1) := by decide +kernel
theorem dJ1_indexOfChar_4cfef_17 : decode cJ1_indexOfChar_4cfef 17 = .ok (.iload 4, 2) := by decide +kernel
theorem dJ1_indexOfChar_4cfef_19 : decode cJ1_indexOfChar_4cfef 19 = .ok (.if_icmp .ne 6, 3) := by decide +kernel
theorem dJ1_indexOfChar_4cfef_22 : decode cJ1_indexOfChar_4cfef 22 = .ok (.iload 5, 2) := by decide +kernel
theorem dJ1_indexOfChar_4cfef_24 : decode cJ1_indexOfChar_4cfef 24 = .ok (.ireturn, 1) := by decide +kernel
theorem dJ1_indexOfChar_4cfef_25 : decode cJ1_indexOfChar_4cfef 25 = .ok (.iinc 5 1, 3) := by decide +kernel
theorem dJ1_indexOfChar_4cfef_28 : decode cJ1_indexOfChar_4cfef 28 = .ok (.goto (-21), 3) := by decide +kernel
theorem dJ1_indexOfChar_4cfef_31 : decode cJ1_indexOfChar_4cfef 31 = .ok (.iconst (-1), 1) := by decide +kernel
theorem dJ1_indexOfChar_4cfef_32 : decode cJ1_indexOfChar_4cfef 32 = .ok (.ireturn, 1) := by decide +kernel
theorem dJ1_indexOf_4cfef_0 : decode cJ1_indexOf_4cfef 0 = .ok (.iload_n 1, 1) := by decide +kernel
theorem dJ1_indexOf_4cfef_1 : decode cJ1_indexOf_4cfef 1 = .ok (.invokestatic 88, 3) := by decide +kernel
theorem dJ1_indexOf_4cfef_4 : decode cJ1_indexOf_4cfef 4 = .ok (.ifCond .ne 5, 3) := by decide +kernel
theorem dJ1_indexOf_4cfef_7 : decode cJ1_indexOf_4cfef 7 = .ok (.iconst (-1), 1) := by decide +kernel
theorem dJ1_indexOf_4cfef_8 : decode cJ1_indexOf_4cfef 8 = .ok (.ireturn, 1) := by decide +kernel
theorem dJ1_indexOf_4cfef_9 : decode cJ1_indexOf_4cfef 9 = .ok (.iload_n 2, 1) := by decide +kernel
theorem dJ1_indexOf_4cfef_10 : decode cJ1_indexOf_4cfef 10 = .ok (.iconst 0, 1) := by decide +kernel
theorem dJ1_indexOf_4cfef_11 : decode cJ1_indexOf_4cfef 11 = .ok (.invokestatic 92, 3) := by decide +kernel
theorem dJ1_indexOf_4cfef_14 : decode cJ1_indexOf_4cfef 14 = .ok (.istore_n 2, 1) := by decide +kernel
theorem dJ1_indexOf_4cfef_15 : decode cJ1_indexOf_4cfef 15 = .ok (.iload_n 3, 1) := by decide +kernel
theorem dJ1_indexOf_4cfef_16 : decode cJ1_indexOf_4cfef 16 = .ok (.aload_n 0, 1) := by decide +kernel
theorem dJ1_indexOf_4cfef_17 : decode cJ1_indexOf_4cfef 17 = .ok (.arraylength, 1) := by decide +kernel
theorem dJ1_indexOf_4cfef_18 : decode cJ1_indexOf_4cfef 18 = .ok (.invokestatic 38, 3) := by decide +kernel
theorem dJ1_indexOf_4cfef_21 : decode cJ1_indexOf_4cfef 21 = .ok (.istore_n 3, 1) := by decide +kernel
theorem dJ1_indexOf_4cfef_22 : decode cJ1_indexOf_4cfef 22 = .ok (.iload_n 2, 1) := by decide +kernel
theorem dJ1_indexOf_4cfef_23 : decode cJ1_indexOf_4cfef 23 = .ok (.iload_n 3, 1) := by decide +kernel
theorem dJ1_indexOf_4cfef_24 : decode cJ1_indexOf_4cfef 24 = .ok (.if_icmp .lt 5, 3) := by decide +kernel
theorem dJ1_indexOf_4cfef_27 : decode cJ1_indexOf_4cfef 27 = .ok (.iconst (-1), 1) := by decide +kernel
theorem dJ1_indexOf_4cfef_28 : decode cJ1_indexOf_4cfef 28 = .ok (.ireturn, 1) := by decide +kernel
theorem dJ1_indexOf_4cfef_29 : decode cJ1_indexOf_4cfef 29 = .ok (.aload_n 0, 1) := by decide +kernel
theorem dJ1_indexOf_4cfef_30 : decode cJ1_indexOf_4cfef 30 = .ok (.iload_n 1, 1) := by decide +kernel
theorem dJ1_indexOf_4cfef_31 : decode cJ1_indexOf_4cfef 31 = .ok (.iload_n 2, 1) := by decide +kernel
theorem dJ1_indexOf_4cfef_32 : decode cJ1_indexOf_4cfef 32 = .ok (.iload_n 3, 1) := by decide +kernel
theorem dJ1_indexOf_4cfef_33 : decode cJ1_indexOf_4cfef 33 = .ok (.invokestatic 95, 3) := by decide +kernel
theorem dJ1_indexOf_4cfef_36 : decode cJ1_indexOf_4cfef 36 = .ok (.ireturn, 1) := by decide +kernel
theorem dJ0_indexOf_7cf53_0 : decode cJ0_indexOf_7cf53 0 = .ok (.aload_n 0, 1) := by decide +kernel
theorem dJ0_indexOf_7cf53_1 : decode cJ0_indexOf_7cf53 1 = .ok (.invokevirtual 492, 3) := by decide +kernel
theorem dJ0_indexOf_7cf53_4 : decode cJ0_indexOf_7cf53 4 = .ok (.ifCond .eq 19, 3) := by decide +kernel
theorem dJ0_indexOf_7cf53_7 : decode cJ0_indexOf_7cf53 7 = .ok (.aload_n 0, 1) := by decide +kernel
theorem dJ0_indexOf_7cf53_8 : decode cJ0_indexOf_7cf53 8 = .ok (.getfield 9, 3) := by decide +kernel
theorem dJ0_indexOf_7cf53_11 : decode cJ0_indexOf_7cf53 11 = .ok (.iload_n 1, 1) := by decide +kernel
theorem dJ0_indexOf_7cf53_12 : decode cJ0_indexOf_7cf53 12 = .ok (.iload_n 2, 1) := by decide +kernel
theorem dJ0_indexOf_7cf53_13 : decode cJ0_indexOf_7cf53 13 = .ok (.aload_n 0, 1) := by decide +kernel
theorem dJ0_indexOf_7cf53_14 : decode cJ0_indexOf_7cf53 14 = .ok (.invokevirtual 505, 3) := by decide +kernel
theorem dJ0_indexOf_7cf53_17 : decode cJ0_indexOf_7cf53 17 = .ok (.invokestatic 637, 3) := by decide +kernel
theorem dJ0_indexOf_7cf53_20 : decode cJ0_indexOf_7cf53 20 = .ok (.goto 16, 3) := by decide +kernel
theorem dJ0_indexOf_7cf53_23 : decode cJ0_indexOf_7cf53 23 = .ok (.aload_n 0, 1) := by decide +kernel
theorem dJ0_indexOf_7cf53_24 : decode cJ0_indexOf_7cf53 24 = .ok (.getfield 9, 3) := by decide +kernel
theorem dJ0_indexOf_7cf53_27 : decode cJ0_indexOf_7cf53 27 = .ok (.iload_n 1, 1) := by decide +kernel
theorem dJ0_indexOf_7cf53_28 : decode cJ0_indexOf_7cf53 28 = .ok (.iload_n 2, 1) := by decide +kernel
theorem dJ0_indexOf_7cf53_29 : decode cJ0_indexOf_7cf53 29 = .ok (.aload_n 0, 1) := by decide +kernel
theorem dJ0_indexOf_7cf53_30 : decode cJ0_indexOf_7cf53 30 = .ok (.invokevirtual 505, 3) := by decide +kernel
theorem dJ0_indexOf_7cf53_33 : decode cJ0_indexOf_7cf53 33 = .ok (.invokestatic 640, 3) := by decide +kernel
theorem dJ0_indexOf_7cf53_36 : decode cJ0_indexOf_7cf53 36 = .ok (.ireturn, 1) := by decide +kernel
theorem dJ0_indexOf_0f7a4_0 : decode cJ0_indexOf_0f7a4 0 = .ok (.aload_n 0, 1) := by decide +kernel
theorem dJ0_indexOf_0f7a4_1 : decode cJ0_indexOf_0f7a4 1 = .ok (.iload_n 1, 1) := by decide +kernel
theorem dJ0_indexOf_0f7a4_2 : decode cJ0_indexOf_0f7a4 2 = .ok (.iconst 0, 1) := by decide +kernel
theorem dJ0_indexOf_0f7a4_3 : decode cJ0_indexOf_0f7a4 3 = .ok (.invokevirtual 633, 3) := by decide +kernel
theorem dJ0_indexOf_0f7a4_6 : decode cJ0_indexOf_0f7a4 6 = .ok (.ireturn, 1) := by decide +kernel
theorem dX4_stepOf_0 : decode cX4_stepOf 0 = .ok (.aload_n 0, 1) := by decide +kernel
theorem dX4_stepOf_1 : decode cX4_stepOf 1 = .ok (.getfield 9, 3) := by decide +kernel
theorem dX4_stepOf_4 : decode cX4_stepOf 4 = .ok (.invokevirtual 24, 3) := by decide +kernel
theorem dX4_stepOf_7 : decode cX4_stepOf 7 = .ok (.ifCond .eq 18, 3) := by decide +kernel
theorem dX4_stepOf_10 : decode cX4_stepOf 10 = .ok (.aload_n 1, 1) := by decide +kernel
theorem dX4_stepOf_11 : decode cX4_stepOf 11 = .ok (.aload_n 0, 1) := by decide +kernel
theorem dX4_stepOf_12 : decode cX4_stepOf 12 = .ok (.getfield 9, 3) := by decide +kernel
theorem dX4_stepOf_15 : decode cX4_stepOf 15 = .ok (.getfield 34, 3) := by decide +kernel
theorem dX4_stepOf_18 : decode cX4_stepOf 18 = .ok (.i2c, 1) := by decide +kernel
theorem dX4_stepOf_19 : decode cX4_stepOf 19 = .ok (.invokevirtual 99, 3) := by decide +kernel
theorem dX4_stepOf_22 : decode cX4_stepOf 22 = .ok (.goto 4, 3) := by decide +kernel
theorem dX4_stepOf_25 : decode cX4_stepOf 25 = .ok (.iconst (-1), 1) := by decide +kernel
theorem dX4_stepOf_26 : decode cX4_stepOf 26 = .ok (.istore_n 3, 1) := by decide +kernel
theorem dX4_stepOf_27 : decode cX4_stepOf 27 = .ok (.iload_n 3, 1) := by decide +kernel
theorem dX4_stepOf_28 : decode cX4_stepOf 28 = .ok (.ifCond .ge 7, 3) := by decide +kernel
theorem dX4_stepOf_31 : decode cX4_stepOf 31 = .ok (.iconst (-1), 1) := by decide +kernel
theorem dX4_stepOf_32 : decode cX4_stepOf 32 = .ok (.goto 6, 3) := by decide +kernel
theorem dX4_stepOf_35 : decode cX4_stepOf 35 = .ok (.iload_n 2, 1) := by decide +kernel
theorem dX4_stepOf_36 : decode cX4_stepOf 36 = .ok (.iload_n 3, 1) := by decide +kernel
theorem dX4_stepOf_37 : decode cX4_stepOf 37 = .ok (.iadd, 1) := by decide +kernel
theorem dX4_stepOf_38 : decode cX4_stepOf 38 = .ok (.ireturn, 1) := by decide +kernel
theorem dX8_readDoing_0 : decode cX8_readDoing 0 = .ok (.aload_n 0, 1) := by decide +kernel
theorem dX8_readDoing_1 : decode cX8_readDoing 1 = .ok (.getfield 25, 3) := by decide +kernel
theorem dX8_readDoing_4 : decode cX8_readDoing 4 = .ok (.invokevirtual 49, 3) := by decide +kernel
theorem dX8_readDoing_7 : decode cX8_readDoing 7 = .ok (.ifCond .eq 19, 3) := by decide +kernel
theorem dX8_readDoing_10 : decode cX8_readDoing 10 = .ok (.ldc 81, 2) := by decide +kernel
theorem dX8_readDoing_12 : decode cX8_readDoing 12 = .ok (.aload_n 0, 1) := by decide +kernel
theorem dX8_readDoing_13 : decode cX8_readDoing 13 = .ok (.getfield 25, 3) := by decide +kernel
theorem dX8_readDoing_16 : decode cX8_readDoing 16 = .ok (.getfield 53, 3) := by decide +kernel
theorem dX8_readDoing_19 : decode cX8_readDoing 19 = .ok (.i2c, 1) := by decide +kernel
theorem dX8_readDoing_20 : decode cX8_readDoing 20 = .ok (.invokevirtual 83, 3) := by decide +kernel
theorem dX8_readDoing_23 : decode cX8_readDoing 23 = .ok (.goto 4, 3) := by decide +kernel
theorem dX8_readDoing_26 : decode cX8_readDoing 26 = .ok (.iconst (-1), 1) := by decide +kernel
theorem dX8_readDoing_27 : decode cX8_readDoing 27 = .ok (.istore_n 1, 1) := by decide +kernel
theorem dX8_readDoing_28 : decode cX8_readDoing 28 = .ok (.iload_n 1, 1) := by decide +kernel
theorem dX8_readDoing_29 : decode cX8_readDoing 29 = .ok (.ifCond .ge 19, 3) := by decide +kernel
theorem dX8_readDoing_32 : decode cX8_readDoing 32 = .ok (.aload_n 0, 1) := by decide +kernel
theorem dX8_readDoing_33 : decode cX8_readDoing 33 = .ok (.getfield 25, 3) := by decide +kernel
theorem dX8_readDoing_36 : decode cX8_readDoing 36 = .ok (.iconst 1, 1) := by decide +kernel
theorem dX8_readDoing_37 : decode cX8_readDoing 37 = .ok (.aload_n 0, 1) := by decide +kernel
theorem dX8_readDoing_38 : decode cX8_readDoing 38 = .ok (.getfield 25, 3) := by decide +kernel
theorem dX8_readDoing_41 : decode cX8_readDoing 41 = .ok (.getfield 56, 3) := by decide +kernel
theorem dX8_readDoing_44 : decode cX8_readDoing 44 = .ok (.invokevirtual 75, 3) := by decide +kernel
theorem dX8_readDoing_47 : decode cX8_readDoing 47 = .ok (.return_, 1) := by decide +kernel
theorem dX8_readDoing_48 : decode cX8_readDoing 48 = .ok (.aload_n 0, 1) := by decide +kernel
theorem dX8_readDoing_49 : decode cX8_readDoing 49 = .ok (.getfield 25, 3) := by decide +kernel
theorem dX8_readDoing_52 : decode cX8_readDoing 52 = .ok (.invokevirtual 59, 3) := by decide +kernel
theorem dX8_readDoing_55 : decode cX8_readDoing 55 = .ok (.aload_n 0, 1) := by decide +kernel
theorem dX8_readDoing_56 : decode cX8_readDoing 56 = .ok (.iload_n 1, 1) := by decide +kernel
theorem dX8_readDoing_57 : decode cX8_readDoing 57 = .ok (.invokevirtual 89, 3) := by decide +kernel
theorem dX8_readDoing_60 : decode cX8_readDoing 60 = .ok (.return_, 1) := by decide +kernel
def mJ6_bitCount_0f7a4 (F : Nat) (x0 : Int32) (σ : jS) : Option Int32 := (lt (x0 - (((x0.toUInt32 >>> ((1 : Int32).toUInt32 &&& Int32.toUInt32 31)).toInt32) &&& (1431655765 : Int32))) fun y1 => (lt ((y1 &&& (858993459 : Int32)) + (((y1.toUInt32 >>> ((2 : Int32).toUInt32 &&& Int32.toUInt32 31)).toInt32) &&& (858993459 : Int32))) fun y2 => (lt ((y2 + ((y2.toUInt32 >>> ((4 : Int32).toUInt32 &&& Int32.toUInt32 31)).toInt32)) &&& (252645135 : Int32)) fun y3 => (lt (y3 + ((y3.toUInt32 >>> ((8 : Int32).toUInt32 &&& Int32.toUInt32 31)).toInt32)) fun y4 => (lt (y4 + ((y4.toUInt32 >>> ((16 : Int32).toUInt32 &&& Int32.toUInt32 31)).toInt32)) fun y5 => some (y5 &&& (63 : Int32)))))))
set_option maxHeartbeats 4000000 in
set_option maxRecDepth 100000 in
theorem kJ6_bitCount_0f7a4 {V : jV} {F : Nat} {x0 : Int32} {σ : jS} {v : Int32} (hm : mJ6_bitCount_0f7a4 F x0 σ = some v) : Ct cfX 70 V yJ6_bitCount_0f7a4 cJ6_bitCount_0f7a4 1 (some .int) 0 [.int x0] σ (v, σ) := by
  refine j_start (own := RJ6) (by decide) rfl (Nat.le_of_ble_eq_true rfl) ?_
  intro G hV C
  subst hV
  unfold mJ6_bitCount_0f7a4 at hm
  show JX G 0 [(0, .int x0)] [] σ (v, σ)
  refine j_iloadn (pc := 0) C 0 dJ6_bitCount_0f7a4_0 rfl rfl ?_
  refine j_iloadn (pc := 1) C 0 dJ6_bitCount_0f7a4_1 rfl rfl ?_
  refine j_iconst (v := 1) (pc := 2) C dJ6_bitCount_0f7a4_2 (by decide) ?_
  refine j_iushr (pc := 3) C dJ6_bitCount_0f7a4_3 ?_
  refine j_ldcw (v := 1431655765) (pc := 4) C dJ6_bitCount_0f7a4_4 tw_3_186 ?_
  refine j_iand (pc := 7) C dJ6_bitCount_0f7a4_7 ?_
  refine j_isub (pc := 8) C dJ6_bitCount_0f7a4_8 ?_
  refine j_lti hm (fun y1 hm => ?_)
  refine j_istoren (ls' := [(0, .int y1)]) (pc := 9) C dJ6_bitCount_0f7a4_9 rfl (by decide) rfl ?_
  refine j_iloadn (pc := 10) C 0 dJ6_bitCount_0f7a4_10 rfl rfl ?_
  refine j_ldcw (v := 858993459) (pc := 11) C dJ6_bitCount_0f7a4_11 tw_3_187 ?_
  refine j_iand (pc := 14) C dJ6_bitCount_0f7a4_14 ?_
  refine j_iloadn (pc := 15) C 0 dJ6_bitCount_0f7a4_15 rfl rfl ?_
  refine j_iconst (v := 2) (pc := 16) C dJ6_bitCount_0f7a4_16 (by decide) ?_
  refine j_iushr (pc := 17) C dJ6_bitCount_0f7a4_17 ?_
  refine j_ldcw (v := 858993459) (pc := 18) C dJ6_bitCount_0f7a4_18 tw_3_187 ?_
  refine j_iand (pc := 21) C dJ6_bitCount_0f7a4_21 ?_
  refine j_iadd (pc := 22) C dJ6_bitCount_0f7a4_22 ?_
  refine j_lti hm (fun y2 hm => ?_)
  refine j_istoren (ls' := [(0, .int y2)]) (pc := 23) C dJ6_bitCount_0f7a4_23 rfl (by decide) rfl ?_
  refine j_iloadn (pc := 24) C 0 dJ6_bitCount_0f7a4_24 rfl rfl ?_
  refine j_iloadn (pc := 25) C 0 dJ6_bitCount_0f7a4_25 rfl rfl ?_
  refine j_iconst (v := 4) (pc := 26) C dJ6_bitCount_0f7a4_26 (by decide) ?_
  refine j_iushr (pc := 27) C dJ6_bitCount_0f7a4_27 ?_
  refine j_iadd (pc := 28) C dJ6_bitCount_0f7a4_28 ?_
  refine j_ldcw (v := 252645135) (pc := 29) C dJ6_bitCount_0f7a4_29 tw_3_188 ?_
  refine j_iand (pc := 32) C dJ6_bitCount_0f7a4_32 ?_
  refine j_lti hm (fun y3 hm => ?_)
  refine j_istoren (ls' := [(0, .int y3)]) (pc := 33) C dJ6_bitCount_0f7a4_33 rfl (by decide) rfl ?_
  refine j_iloadn (pc := 34) C 0 dJ6_bitCount_0f7a4_34 rfl rfl ?_
  refine j_iloadn (pc := 35) C 0 dJ6_bitCount_0f7a4_35 rfl rfl ?_
  refine j_bipush (v := 8) (pc := 36) C dJ6_bitCount_0f7a4_36 (by decide) ?_
  refine j_iushr (pc := 38) C dJ6_bitCount_0f7a4_38 ?_
  refine j_iadd (pc := 39) C dJ6_bitCount_0f7a4_39 ?_
  refine j_lti hm (fun y4 hm => ?_)
  refine j_istoren (ls' := [(0, .int y4)]) (pc := 40) C dJ6_bitCount_0f7a4_40 rfl (by decide) rfl ?_
  refine j_iloadn (pc := 41) C 0 dJ6_bitCount_0f7a4_41 rfl rfl ?_
  refine j_iloadn (pc := 42) C 0 dJ6_bitCount_0f7a4_42 rfl rfl ?_
  refine j_bipush (v := 16) (pc := 43) C dJ6_bitCount_0f7a4_43 (by decide) ?_
  refine j_iushr (pc := 45) C dJ6_bitCount_0f7a4_45 ?_
  refine j_iadd (pc := 46) C dJ6_bitCount_0f7a4_46 ?_
  refine j_lti hm (fun y5 hm => ?_)
  refine j_istoren (ls' := [(0, .int y5)]) (pc := 47) C dJ6_bitCount_0f7a4_47 rfl (by decide) rfl ?_
  refine j_iloadn (pc := 48) C 0 dJ6_bitCount_0f7a4_48 rfl rfl ?_
  refine j_bipush (v := 63) (pc := 49) C dJ6_bitCount_0f7a4_49 (by decide) ?_
  refine j_iand (pc := 51) C dJ6_bitCount_0f7a4_51 ?_
  exact j_iret (pc := 52) C rfl dJ6_bitCount_0f7a4_52 hm

def mJ0_coder_7d493 (F : Nat) (c : Nat) (σ : jS) : Option Int32 := (if (1 : Int32) = 0 then none else some (0 : Int32))
set_option maxHeartbeats 4000000 in
set_option maxRecDepth 100000 in
theorem kJ0_coder_7d493 {V : jV} {F : Nat} {c : Nat} (hc : c < 4) {σ : jS} {v : Int32} (hm : mJ0_coder_7d493 F c σ = some v) : Ct cfX 70 V yJ0_coder_7d493 cJ0_coder_7d493 1 (some .byte) 0 [.ref (vak V c)] σ (v, σ) := by
  refine j_start (own := RJ0) (by decide) rfl (Nat.le_of_ble_eq_true rfl) ?_
  intro G hV C
  subst hV
  unfold mJ0_coder_7d493 at hm
  show JX G 0 [(0, .ref (vak (gV G) c))] [] σ (v, σ)
  refine j_scomp (pc := 0) C tw_2_213 dJ0_coder_7d493_0 ?_
  refine j_if_eq (tgt := 13) (pc := 3) C dJ0_coder_7d493_3 (by decide) hm (fun _ hm => ?_) (fun _ hm => ?_)
  · cases hm
  · refine j_aloadn (pc := 6) C 0 dJ0_coder_7d493_6 rfl rfl ?_
    refine j_scod (x := c) (pc := 7) C hc tw_7_195 dJ0_coder_7d493_7 ?_
    refine j_goto (tgt := 14) (pc := 10) C dJ0_coder_7d493_10 (by decide) ?_
    exact j_bret (pc := 14) C rfl (by decide) dJ0_coder_7d493_14 hm

def mJ0_isLatin1_aae02 (F : Nat) (c : Nat) (σ : jS) : Option Int32 := (if (1 : Int32) = 0 then none else (if (0 : Int32) = 0 then some (1 : Int32) else none))
set_option maxHeartbeats 4000000 in
set_option maxRecDepth 100000 in
theorem kJ0_isLatin1_aae02 {V : jV} {F : Nat} {c : Nat} (hc : c < 4) {σ : jS} {v : Int32} (hm : mJ0_isLatin1_aae02 F c σ = some v) : Ct cfX 70 V yJ0_isLatin1_aae02 cJ0_isLatin1_aae02 1 (some .boolean) 0 [.ref (vak V c)] σ (v, σ) := by
  refine j_start (own := RJ0) (by decide) rfl (Nat.le_of_ble_eq_true rfl) ?_
  intro G hV C
  subst hV
  unfold mJ0_isLatin1_aae02 at hm
  show JX G 0 [(0, .ref (vak (gV G) c))] [] σ (v, σ)
  refine j_scomp (pc := 0) C tw_2_213 dJ0_isLatin1_aae02_0 ?_
  refine j_if_eq (tgt := 17) (pc := 3) C dJ0_isLatin1_aae02_3 (by decide) hm (fun _ hm => ?_) (fun _ hm => ?_)
  · cases hm
  · refine j_aloadn (pc := 6) C 0 dJ0_isLatin1_aae02_6 rfl rfl ?_
    refine j_scod (x := c) (pc := 7) C hc tw_7_195 dJ0_isLatin1_aae02_7 ?_
    refine j_if_ne (tgt := 17) (pc := 10) C dJ0_isLatin1_aae02_10 (by decide) hm (fun _ hm => ?_) (fun _ hm => ?_)
    · refine j_iconst (v := 1) (pc := 13) C dJ0_isLatin1_aae02_13 (by decide) ?_
      refine j_goto (tgt := 18) (pc := 14) C dJ0_isLatin1_aae02_14 (by decide) ?_
      exact j_zret (pc := 18) C rfl rfl dJ0_isLatin1_aae02_18 hm
    · cases hm

def mJ0_length_8abf5 (F : Nat) (c : Nat) (σ : jS) : Option Int32 := (Option.bind (mJ0_coder_7d493 F c σ) fun q1 => some ((nI (sl c)) >>> (q1 &&& 31)))
set_option maxHeartbeats 4000000 in
set_option maxRecDepth 100000 in
theorem kJ0_length_8abf5 {V : jV} {F : Nat} {c : Nat} (hc : c < 4) {σ : jS} {v : Int32} (hm : mJ0_length_8abf5 F c σ = some v) : Ct cfX 70 V yJ0_length_8abf5 cJ0_length_8abf5 1 (some .int) 1 [.ref (vak V c)] σ (v, σ) := by
  refine j_start (own := RJ0) (by decide) rfl (Nat.le_of_ble_eq_true rfl) ?_
  intro G hV C
  subst hV
  unfold mJ0_length_8abf5 at hm
  show JX G 0 [(0, .ref (vak (gV G) c))] [] σ (v, σ)
  refine j_aloadn (pc := 0) C 0 dJ0_length_8abf5_0 rfl rfl ?_
  refine j_sval (x := c) (pc := 1) C hc tw_7_196 dJ0_length_8abf5_1 ?_
  refine j_slen (x := c) (pc := 4) C hc dJ0_length_8abf5_4 ?_
  refine j_aloadn (pc := 5) C 0 dJ0_length_8abf5_5 rfl rfl ?_
  obtain ⟨q1, hq1, hm⟩ := Option.bind_eq_some_iff.mp hm
  refine cl_J0_335 (c := c) (pc := 6) C hc (kJ0_coder_7d493 hc hq1) (by decide) (Nat.le_of_ble_eq_true rfl) dJ0_length_8abf5_6 ?_
  refine j_ishr (pc := 9) C dJ0_length_8abf5_9 ?_
  exact j_iret (pc := 10) C rfl dJ0_length_8abf5_10 hm

def mJ1_canEncode_9a6ad (F : Nat) (x0 : Int32) (σ : jS) : Option Int32 := (if x0 < 0 then some (0 : Int32) else (if (255 : Int32) < x0 then some (0 : Int32) else some (1 : Int32)))
set_option maxHeartbeats 4000000 in
set_option maxRecDepth 100000 in
theorem kJ1_canEncode_9a6ad {V : jV} {F : Nat} {x0 : Int32} {σ : jS} {v : Int32} (hm : mJ1_canEncode_9a6ad F x0 σ = some v) : Ct cfX 70 V yJ1_canEncode_9a6ad cJ1_canEncode_9a6ad 1 (some .boolean) 0 [.int x0] σ (v, σ) := by
  refine j_start (own := RJ1) (by decide) rfl (Nat.le_of_ble_eq_true rfl) ?_
  intro G hV C
  subst hV
  unfold mJ1_canEncode_9a6ad at hm
  show JX G 0 [(0, .int x0)] [] σ (v, σ)
  refine j_iloadn (pc := 0) C 0 dJ1_canEncode_9a6ad_0 rfl rfl ?_
  refine j_if_lt (tgt := 15) (pc := 1) C dJ1_canEncode_9a6ad_1 (by decide) hm (fun _ hm => ?_) (fun _ hm => ?_)
  · refine j_iconst (v := 0) (pc := 15) C dJ1_canEncode_9a6ad_15 (by decide) ?_
    exact j_zret (pc := 16) C rfl rfl dJ1_canEncode_9a6ad_16 hm
  · refine j_iloadn (pc := 4) C 0 dJ1_canEncode_9a6ad_4 rfl rfl ?_
    refine j_sipush (v := 255) (pc := 5) C dJ1_canEncode_9a6ad_5 (by decide) ?_
    refine j_icmp_gt (tgt := 15) (pc := 8) C dJ1_canEncode_9a6ad_8 (by decide) hm (fun _ hm => ?_) (fun _ hm => ?_)
    · refine j_iconst (v := 0) (pc := 15) C dJ1_canEncode_9a6ad_15 (by decide) ?_
      exact j_zret (pc := 16) C rfl rfl dJ1_canEncode_9a6ad_16 hm
    · refine j_iconst (v := 1) (pc := 11) C dJ1_canEncode_9a6ad_11 (by decide) ?_
      refine j_goto (tgt := 16) (pc := 12) C dJ1_canEncode_9a6ad_12 (by decide) ?_
      exact j_zret (pc := 16) C rfl rfl dJ1_canEncode_9a6ad_16 hm

def lp_J1_indexOfChar_4cfef_7 (F : Nat) (e0 : Nat) (σ : jS) : Nat → Int32 → Int32 → Int32 → Option Int32
  | 0, _, _, _ => none
  | n + 1, x3, x4, x5 => (if x5 < x3 then (if jin x5 (sl e0) = true then (if (sc e0 x5.toNatClampNeg) = x4 then some x5 else (lp_J1_indexOfChar_4cfef_7 F e0 σ n x3 x4 ((x5 + (1 : Int32))))) else none) else some (-1 : Int32))
set_option maxHeartbeats 4000000 in
set_option maxRecDepth 100000 in
theorem lp_J1_indexOfChar_4cfef_7_ok {G : jG} (C : jc cfX 70 G cJ1_indexOfChar_4cfef RJ1 6 (some .int) 0) (F : Nat) (e0 : Nat) (he0 : e0 < 4) (σ : jS) {v : Int32} : ∀ (n : Nat) (x3 : Int32) (x4 : Int32) (x5 : Int32), lp_J1_indexOfChar_4cfef_7 F e0 σ n x3 x4 x5 = some v → JX G 7 [(0, .ref (vav (gV G) e0)), (3, .int x3), (4, .int x4), (5, .int x5)] [] σ (v, σ) := by
  intro n
  induction n with
  | zero =>
    intro x3 x4 x5 hm
    rw [lp_J1_indexOfChar_4cfef_7] at hm
    cases hm
  | succ n ih =>
    intro x3 x4 x5 hm
    rw [lp_J1_indexOfChar_4cfef_7] at hm
    refine j_iload (pc := 7) C 3 dJ1_indexOfChar_4cfef_7 rfl ?_
    refine j_iloadn (pc := 9) C 1 dJ1_indexOfChar_4cfef_9 rfl rfl ?_
    refine j_icmp_ge (tgt := 31) (pc := 10) C dJ1_indexOfChar_4cfef_10 (by decide) hm (fun _ hm => ?_) (fun _ hm => ?_)
    · refine j_aloadn (pc := 13) C 0 dJ1_indexOfChar_4cfef_13 rfl rfl ?_
      refine j_iload (pc := 14) C 3 dJ1_indexOfChar_4cfef_14 rfl ?_
      refine j_guard hm (fun hg2 hm => ?_)
      refine j_sald (x := e0) (pc := 16) C he0 hg2 dJ1_indexOfChar_4cfef_16 ?_
      refine j_iload (pc := 17) C 2 dJ1_indexOfChar_4cfef_17 rfl ?_
      refine j_icmp_ne (tgt := 25) (pc := 19) C dJ1_indexOfChar_4cfef_19 (by decide) hm (fun _ hm => ?_) (fun _ hm => ?_)
      · refine j_iload (pc := 22) C 3 dJ1_indexOfChar_4cfef_22 rfl ?_
        exact j_iret (pc := 24) C rfl dJ1_indexOfChar_4cfef_24 hm
      · refine j_iinc (v := (x5 + (1 : Int32))) (ls' := [(5, .int (x5 + (1 : Int32))), (0, .ref (vav (gV G) e0)), (3, .int x3), (4, .int x4)]) (pc := 25) C 3 dJ1_indexOfChar_4cfef_25 rfl rfl (by decide) rfl ?_
        refine j_goto (tgt := 7) (pc := 28) C dJ1_indexOfChar_4cfef_28 (by decide) ?_
        refine j_ls [1, 2, 3, 0] rfl ?_
        exact ih _ _ _ hm
    · refine j_iconst (v := -1) (pc := 31) C dJ1_indexOfChar_4cfef_31 (by decide) ?_
      exact j_iret (pc := 32) C rfl dJ1_indexOfChar_4cfef_32 hm

def mJ1_indexOfChar_4cfef (F : Nat) (e0 : Nat) (x1 : Int32) (x2 : Int32) (x3 : Int32) (σ : jS) : Option Int32 := (lt (x1.toInt8.toInt32) fun y1 => (lp_J1_indexOfChar_4cfef_7 F e0 σ F x3 y1 x2))
set_option maxHeartbeats 4000000 in
set_option maxRecDepth 100000 in
theorem kJ1_indexOfChar_4cfef {V : jV} {F : Nat} {e0 : Nat} (he0 : e0 < 4) {x1 : Int32} {x2 : Int32} {x3 : Int32} {σ : jS} {v : Int32} (hm : mJ1_indexOfChar_4cfef F e0 x1 x2 x3 σ = some v) : Ct cfX 70 V yJ1_indexOfChar_4cfef cJ1_indexOfChar_4cfef 6 (some .int) 0 [.ref (vav V e0), .int x1, .int x2, .int x3] σ (v, σ) := by
  refine j_start (own := RJ1) (by decide) rfl (Nat.le_of_ble_eq_true rfl) ?_
  intro G hV C
  subst hV
  unfold mJ1_indexOfChar_4cfef at hm
  show JX G 0 [(0, .ref (vav (gV G) e0)), (1, .int x1), (2, .int x2), (3, .int x3)] [] σ (v, σ)
  refine j_iloadn (pc := 0) C 1 dJ1_indexOfChar_4cfef_0 rfl rfl ?_
  refine j_i2b (pc := 1) C dJ1_indexOfChar_4cfef_1 ?_
  refine j_lti hm (fun y1 hm => ?_)
  refine j_istore (ls' := [(4, .int y1), (0, .ref (vav (gV G) e0)), (1, .int x1), (2, .int x2), (3, .int x3)]) (pc := 2) C dJ1_indexOfChar_4cfef_2 (by decide) rfl ?_
  refine j_iloadn (pc := 4) C 3 dJ1_indexOfChar_4cfef_4 rfl rfl ?_
  refine j_istore (ls' := [(5, .int x2), (4, .int y1), (0, .ref (vav (gV G) e0)), (1, .int x1), (2, .int x2), (3, .int x3)]) (pc := 5) C dJ1_indexOfChar_4cfef_5 (by decide) rfl ?_
  refine j_ls [2, 5, 1, 0] rfl ?_
  exact lp_J1_indexOfChar_4cfef_7_ok C F e0 he0 σ  F _ _ _ hm

def mJ1_indexOf_4cfef (F : Nat) (e0 : Nat) (x1 : Int32) (x2 : Int32) (x3 : Int32) (σ : jS) : Option Int32 := (Option.bind (mJ1_canEncode_9a6ad F x1 σ) fun q1 => (if q1 = 0 then some (-1 : Int32) else (lt (imax x2 (0 : Int32)) fun y2 => (lt (imin x3 (nI (sl e0))) fun y3 => (if y2 < y3 then (Option.bind (mJ1_indexOfChar_4cfef F e0 x1 y2 y3 σ) fun q4 => some q4) else some (-1 : Int32))))))
set_option maxHeartbeats 4000000 in
set_option maxRecDepth 100000 in
theorem kJ1_indexOf_4cfef {V : jV} {F : Nat} {e0 : Nat} (he0 : e0 < 4) {x1 : Int32} {x2 : Int32} {x3 : Int32} {σ : jS} {v : Int32} (hm : mJ1_indexOf_4cfef F e0 x1 x2 x3 σ = some v) : Ct cfX 70 V yJ1_indexOf_4cfef cJ1_indexOf_4cfef 4 (some .int) 1 [.ref (vav V e0), .int x1, .int x2, .int x3] σ (v, σ) := by
  refine j_start (own := RJ1) (by decide) rfl (Nat.le_of_ble_eq_true rfl) ?_
  intro G hV C
  subst hV
  unfold mJ1_indexOf_4cfef at hm
  show JX G 0 [(0, .ref (vav (gV G) e0)), (1, .int x1), (2, .int x2), (3, .int x3)] [] σ (v, σ)
  refine j_iloadn (pc := 0) C 1 dJ1_indexOf_4cfef_0 rfl rfl ?_
  obtain ⟨q1, hq1, hm⟩ := Option.bind_eq_some_iff.mp hm
  refine cl_J1_88 (pc := 1) C (kJ1_canEncode_9a6ad hq1) (by decide) (Nat.le_of_ble_eq_true rfl) dJ1_indexOf_4cfef_1 ?_
  refine j_if_ne (tgt := 9) (pc := 4) C dJ1_indexOf_4cfef_4 (by decide) hm (fun _ hm => ?_) (fun _ hm => ?_)
  · refine j_iconst (v := -1) (pc := 7) C dJ1_indexOf_4cfef_7 (by decide) ?_
    exact j_iret (pc := 8) C rfl dJ1_indexOf_4cfef_8 hm
  · refine j_iloadn (pc := 9) C 2 dJ1_indexOf_4cfef_9 rfl rfl ?_
    refine j_iconst (v := 0) (pc := 10) C dJ1_indexOf_4cfef_10 (by decide) ?_
    refine j_mmaxD (pc := 11) C tw_2_229 tw_2_230 tw_1_14 tw_2_231 (by decide) (Nat.le_of_ble_eq_true rfl) dJ1_indexOf_4cfef_11 ?_
    refine j_lti hm (fun y2 hm => ?_)
    refine j_istoren (ls' := [(2, .int y2), (0, .ref (vav (gV G) e0)), (1, .int x1), (3, .int x3)]) (pc := 14) C dJ1_indexOf_4cfef_14 rfl (by decide) rfl ?_
    refine j_iloadn (pc := 15) C 3 dJ1_indexOf_4cfef_15 rfl rfl ?_
    refine j_aloadn (pc := 16) C 1 dJ1_indexOf_4cfef_16 rfl rfl ?_
    refine j_slen (x := e0) (pc := 17) C he0 dJ1_indexOf_4cfef_17 ?_
    refine j_mminD (pc := 18) C tw_2_232 tw_2_162 tw_1_14 tw_2_163 (by decide) (Nat.le_of_ble_eq_true rfl) dJ1_indexOf_4cfef_18 ?_
    refine j_lti hm (fun y3 hm => ?_)
    refine j_istoren (ls' := [(3, .int y3), (2, .int y2), (0, .ref (vav (gV G) e0)), (1, .int x1)]) (pc := 21) C dJ1_indexOf_4cfef_21 rfl (by decide) rfl ?_
    refine j_iloadn (pc := 22) C 1 dJ1_indexOf_4cfef_22 rfl rfl ?_
    refine j_iloadn (pc := 23) C 0 dJ1_indexOf_4cfef_23 rfl rfl ?_
    refine j_icmp_lt (tgt := 29) (pc := 24) C dJ1_indexOf_4cfef_24 (by decide) hm (fun _ hm => ?_) (fun _ hm => ?_)
    · refine j_aloadn (pc := 29) C 2 dJ1_indexOf_4cfef_29 rfl rfl ?_
      refine j_iloadn (pc := 30) C 3 dJ1_indexOf_4cfef_30 rfl rfl ?_
      refine j_iloadn (pc := 31) C 1 dJ1_indexOf_4cfef_31 rfl rfl ?_
      refine j_iloadn (pc := 32) C 0 dJ1_indexOf_4cfef_32 rfl rfl ?_
      obtain ⟨q4, hq4, hm⟩ := Option.bind_eq_some_iff.mp hm
      refine cl_J1_95 (pc := 33) C (kJ1_indexOfChar_4cfef he0 hq4) (by decide) (Nat.le_of_ble_eq_true rfl) dJ1_indexOf_4cfef_33 ?_
      exact j_iret (pc := 36) C rfl dJ1_indexOf_4cfef_36 hm
    · refine j_iconst (v := -1) (pc := 27) C dJ1_indexOf_4cfef_27 (by decide) ?_
      exact j_iret (pc := 28) C rfl dJ1_indexOf_4cfef_28 hm

def mJ0_indexOf_7cf53 (F : Nat) (c : Nat) (x1 : Int32) (x2 : Int32) (σ : jS) : Option Int32 := (Option.bind (mJ0_isLatin1_aae02 F c σ) fun q1 => (if q1 = 0 then (Option.bind (mJ0_length_8abf5 F c σ) fun q2 => none) else (Option.bind (mJ0_length_8abf5 F c σ) fun q3 => (Option.bind (mJ1_indexOf_4cfef F c x1 x2 q3 σ) fun q4 => some q4))))
set_option maxHeartbeats 4000000 in
set_option maxRecDepth 100000 in
theorem kJ0_indexOf_7cf53 {V : jV} {F : Nat} {c : Nat} (hc : c < 4) {x1 : Int32} {x2 : Int32} {σ : jS} {v : Int32} (hm : mJ0_indexOf_7cf53 F c x1 x2 σ = some v) : Ct cfX 70 V yJ0_indexOf_7cf53 cJ0_indexOf_7cf53 3 (some .int) 2 [.ref (vak V c), .int x1, .int x2] σ (v, σ) := by
  refine j_start (own := RJ0) (by decide) rfl (Nat.le_of_ble_eq_true rfl) ?_
  intro G hV C
  subst hV
  unfold mJ0_indexOf_7cf53 at hm
  show JX G 0 [(0, .ref (vak (gV G) c)), (1, .int x1), (2, .int x2)] [] σ (v, σ)
  refine j_aloadn (pc := 0) C 0 dJ0_indexOf_7cf53_0 rfl rfl ?_
  obtain ⟨q1, hq1, hm⟩ := Option.bind_eq_some_iff.mp hm
  refine cl_J0_492 (c := c) (pc := 1) C hc (kJ0_isLatin1_aae02 hc hq1) (by decide) (Nat.le_of_ble_eq_true rfl) dJ0_indexOf_7cf53_1 ?_
  refine j_if_eq (tgt := 23) (pc := 4) C dJ0_indexOf_7cf53_4 (by decide) hm (fun _ hm => ?_) (fun _ hm => ?_)
  · refine j_aloadn (pc := 23) C 0 dJ0_indexOf_7cf53_23 rfl rfl ?_
    refine j_sval (x := c) (pc := 24) C hc tw_7_196 dJ0_indexOf_7cf53_24 ?_
    refine j_iloadn (pc := 27) C 1 dJ0_indexOf_7cf53_27 rfl rfl ?_
    refine j_iloadn (pc := 28) C 2 dJ0_indexOf_7cf53_28 rfl rfl ?_
    refine j_aloadn (pc := 29) C 0 dJ0_indexOf_7cf53_29 rfl rfl ?_
    obtain ⟨q2, hq2, hm⟩ := Option.bind_eq_some_iff.mp hm
    refine cl_J0_505 (c := c) (pc := 30) C hc (kJ0_length_8abf5 hc hq2) (by decide) (Nat.le_of_ble_eq_true rfl) dJ0_indexOf_7cf53_30 ?_
    cases hm
  · refine j_aloadn (pc := 7) C 0 dJ0_indexOf_7cf53_7 rfl rfl ?_
    refine j_sval (x := c) (pc := 8) C hc tw_7_196 dJ0_indexOf_7cf53_8 ?_
    refine j_iloadn (pc := 11) C 1 dJ0_indexOf_7cf53_11 rfl rfl ?_
    refine j_iloadn (pc := 12) C 2 dJ0_indexOf_7cf53_12 rfl rfl ?_
    refine j_aloadn (pc := 13) C 0 dJ0_indexOf_7cf53_13 rfl rfl ?_
    obtain ⟨q3, hq3, hm⟩ := Option.bind_eq_some_iff.mp hm
    refine cl_J0_505 (c := c) (pc := 14) C hc (kJ0_length_8abf5 hc hq3) (by decide) (Nat.le_of_ble_eq_true rfl) dJ0_indexOf_7cf53_14 ?_
    obtain ⟨q4, hq4, hm⟩ := Option.bind_eq_some_iff.mp hm
    refine cl_J0_637 (pc := 17) C (kJ1_indexOf_4cfef hc hq4) (by decide) (Nat.le_of_ble_eq_true rfl) dJ0_indexOf_7cf53_17 ?_
    refine j_goto (tgt := 36) (pc := 20) C dJ0_indexOf_7cf53_20 (by decide) ?_
    exact j_iret (pc := 36) C rfl dJ0_indexOf_7cf53_36 hm

def mJ0_indexOf_0f7a4 (F : Nat) (c : Nat) (x1 : Int32) (σ : jS) : Option Int32 := (Option.bind (mJ0_indexOf_7cf53 F c x1 (0 : Int32) σ) fun q1 => some q1)
set_option maxHeartbeats 4000000 in
set_option maxRecDepth 100000 in
theorem kJ0_indexOf_0f7a4 {V : jV} {F : Nat} {c : Nat} (hc : c < 4) {x1 : Int32} {σ : jS} {v : Int32} (hm : mJ0_indexOf_0f7a4 F c x1 σ = some v) : Ct cfX 70 V yJ0_indexOf_0f7a4 cJ0_indexOf_0f7a4 2 (some .int) 3 [.ref (vak V c), .int x1] σ (v, σ) := by
  refine j_start (own := RJ0) (by decide) rfl (Nat.le_of_ble_eq_true rfl) ?_
  intro G hV C
  subst hV
  unfold mJ0_indexOf_0f7a4 at hm
  show JX G 0 [(0, .ref (vak (gV G) c)), (1, .int x1)] [] σ (v, σ)
  refine j_aloadn (pc := 0) C 0 dJ0_indexOf_0f7a4_0 rfl rfl ?_
  refine j_iloadn (pc := 1) C 1 dJ0_indexOf_0f7a4_1 rfl rfl ?_
  refine j_iconst (v := 0) (pc := 2) C dJ0_indexOf_0f7a4_2 (by decide) ?_
  obtain ⟨q1, hq1, hm⟩ := Option.bind_eq_some_iff.mp hm
  refine cl_J0_633 (c := c) (pc := 3) C hc (kJ0_indexOf_7cf53 hc hq1) (by decide) (Nat.le_of_ble_eq_true rfl) dJ0_indexOf_0f7a4_3 ?_
  exact j_iret (pc := 6) C rfl dJ0_indexOf_0f7a4_6 hm

def mX4_stepOf (F : Nat) (e1 : Nat) (x2 : Int32) (σ : jS) : Option Int32 := (Option.bind (mX10_goesOn F σ) fun q1 => (if q1 = 0 then (if (-1 : Int32) < 0 then some (-1 : Int32) else none) else (Option.bind (mJ0_indexOf_0f7a4 F e1 ((((σ 1 4).toUInt32 % 65536).toInt32)) σ) fun q2 => (if q2 < 0 then some (-1 : Int32) else some (x2 + q2)))))
set_option maxHeartbeats 4000000 in
set_option maxRecDepth 100000 in
theorem kX4_stepOf {V : jV} {F : Nat} {e1 : Nat} (he1 : e1 < 4) {x2 : Int32} {σ : jS} {v : Int32} (hm : mX4_stepOf F e1 x2 σ = some v) : Ct cfX 70 V yX4_stepOf cX4_stepOf 4 (some .int) 4 [.ref (vad V 45), .ref (vak V e1), .int x2] σ (v, σ) := by
  refine j_start (own := RX4) (by decide) rfl (Nat.le_of_ble_eq_true rfl) ?_
  intro G hV C
  subst hV
  unfold mX4_stepOf at hm
  show JX G 0 [(0, .ref (vad (gV G) 45)), (1, .ref (vak (gV G) e1)), (2, .int x2)] [] σ (v, σ)
  refine j_aloadn (pc := 0) C 0 dX4_stepOf_0 rfl rfl ?_
  refine gf_X4_9 (c := 45) (pc := 1) C kx_45 dX4_stepOf_1 ?_
  obtain ⟨q1, hq1, hm⟩ := Option.bind_eq_some_iff.mp hm
  refine cl_X4_24 (c := 1) (pc := 4) C kx_1 (kX10_goesOn hq1) (by decide) (Nat.le_of_ble_eq_true rfl) dX4_stepOf_4 ?_
  refine j_if_eq (tgt := 25) (pc := 7) C dX4_stepOf_7 (by decide) hm (fun _ hm => ?_) (fun _ hm => ?_)
  · refine j_iconst (v := -1) (pc := 25) C dX4_stepOf_25 (by decide) ?_
    refine j_istoren (ls' := [(3, .int (-1 : Int32)), (0, .ref (vad (gV G) 45)), (1, .ref (vak (gV G) e1)), (2, .int x2)]) (pc := 26) C dX4_stepOf_26 rfl (by decide) rfl ?_
    refine j_iloadn (pc := 27) C 0 dX4_stepOf_27 rfl rfl ?_
    refine j_if_ge (tgt := 35) (pc := 28) C dX4_stepOf_28 (by decide) hm (fun _ hm => ?_) (fun _ hm => ?_)
    · refine j_iconst (v := -1) (pc := 31) C dX4_stepOf_31 (by decide) ?_
      refine j_goto (tgt := 38) (pc := 32) C dX4_stepOf_32 (by decide) ?_
      exact j_iret (pc := 38) C rfl dX4_stepOf_38 hm
    · cases hm
  · refine j_aloadn (pc := 10) C 1 dX4_stepOf_10 rfl rfl ?_
    refine j_aloadn (pc := 11) C 0 dX4_stepOf_11 rfl rfl ?_
    refine gf_X4_9 (c := 45) (pc := 12) C kx_45 dX4_stepOf_12 ?_
    refine gf_X4_34 (c := 1) (pc := 15) C kx_1 dX4_stepOf_15 ?_
    refine j_i2c (pc := 18) C dX4_stepOf_18 ?_
    obtain ⟨q2, hq2, hm⟩ := Option.bind_eq_some_iff.mp hm
    refine cl_X4_99 (c := e1) (pc := 19) C he1 (kJ0_indexOf_0f7a4 he1 hq2) (by decide) (Nat.le_of_ble_eq_true rfl) dX4_stepOf_19 ?_
    refine j_goto (tgt := 26) (pc := 22) C dX4_stepOf_22 (by decide) ?_
    refine j_istoren (ls' := [(3, .int q2), (0, .ref (vad (gV G) 45)), (1, .ref (vak (gV G) e1)), (2, .int x2)]) (pc := 26) C dX4_stepOf_26 rfl (by decide) rfl ?_
    refine j_iloadn (pc := 27) C 0 dX4_stepOf_27 rfl rfl ?_
    refine j_if_ge (tgt := 35) (pc := 28) C dX4_stepOf_28 (by decide) hm (fun _ hm => ?_) (fun _ hm => ?_)
    · refine j_iconst (v := -1) (pc := 31) C dX4_stepOf_31 (by decide) ?_
      refine j_goto (tgt := 38) (pc := 32) C dX4_stepOf_32 (by decide) ?_
      exact j_iret (pc := 38) C rfl dX4_stepOf_38 hm
    · refine j_iloadn (pc := 35) C 3 dX4_stepOf_35 rfl rfl ?_
      refine j_iloadn (pc := 36) C 0 dX4_stepOf_36 rfl rfl ?_
      refine j_iadd (pc := 37) C dX4_stepOf_37 ?_
      exact j_iret (pc := 38) C rfl dX4_stepOf_38 hm

def jn_X8_readDoing_27 (F : Nat) (s0 : Int32) (σ : jS) : Option jS := (if s0 < 0 then (Option.bind (mX10_fail F (1 : Int32) ((σ 1 3)) σ) fun q2 => some q2) else (Option.bind (mX10_step F σ) fun q3 => (Option.bind (mX8_put F s0 q3) fun q4 => some q4)))
set_option maxHeartbeats 4000000 in
set_option maxRecDepth 100000 in
theorem jn_X8_readDoing_27_ok {G : jG} (C : jc cfX 70 G cX8_readDoing RX8 2 none 4) (F : Nat) {v : jS} : ∀ (s0 : Int32) (σ : jS), jn_X8_readDoing_27 F s0 σ = some v → JX G 27 [(0, .ref (vad (gV G) 33))] [.int s0] σ (0, v) := by
  intro s0 σ hm
  unfold jn_X8_readDoing_27 at hm
  refine j_istoren (ls' := [(1, .int s0), (0, .ref (vad (gV G) 33))]) (pc := 27) C dX8_readDoing_27 rfl (by decide) rfl ?_
  refine j_iloadn (pc := 28) C 0 dX8_readDoing_28 rfl rfl ?_
  refine j_if_ge (tgt := 48) (pc := 29) C dX8_readDoing_29 (by decide) hm (fun _ hm => ?_) (fun _ hm => ?_)
  · refine j_aloadn (pc := 32) C 1 dX8_readDoing_32 rfl rfl ?_
    refine gf_X8_25 (c := 33) (pc := 33) C kx_33 dX8_readDoing_33 ?_
    refine j_iconst (v := 1) (pc := 36) C dX8_readDoing_36 (by decide) ?_
    refine j_aloadn (pc := 37) C 1 dX8_readDoing_37 rfl rfl ?_
    refine gf_X8_25 (c := 33) (pc := 38) C kx_33 dX8_readDoing_38 ?_
    refine gf_X8_56 (c := 1) (pc := 41) C kx_1 dX8_readDoing_41 ?_
    obtain ⟨q2, hq2, hm⟩ := Option.bind_eq_some_iff.mp hm
    refine cl_X8_75 (c := 1) (pc := 44) C kx_1 (kX10_fail hq2) (by decide) (Nat.le_of_ble_eq_true rfl) dX8_readDoing_44 ?_
    exact j_vret (pc := 47) C rfl dX8_readDoing_47 hm
  · refine j_aloadn (pc := 48) C 1 dX8_readDoing_48 rfl rfl ?_
    refine gf_X8_25 (c := 33) (pc := 49) C kx_33 dX8_readDoing_49 ?_
    obtain ⟨q3, hq3, hm⟩ := Option.bind_eq_some_iff.mp hm
    refine cl_X8_59 (c := 1) (pc := 52) C kx_1 (kX10_step hq3) (by decide) (Nat.le_of_ble_eq_true rfl) dX8_readDoing_52 ?_
    refine j_aloadn (pc := 55) C 1 dX8_readDoing_55 rfl rfl ?_
    refine j_iloadn (pc := 56) C 0 dX8_readDoing_56 rfl rfl ?_
    obtain ⟨q4, hq4, hm⟩ := Option.bind_eq_some_iff.mp hm
    refine cl_X8_89 (c := 33) (pc := 57) C kx_33 (kX8_put hq4) (by decide) (Nat.le_of_ble_eq_true rfl) dX8_readDoing_57 ?_
    exact j_vret (pc := 60) C rfl dX8_readDoing_60 hm

def mX8_readDoing (F : Nat) (σ : jS) : Option jS := (Option.bind (mX10_goesOn F σ) fun q1 => (if q1 = 0 then (jn_X8_readDoing_27 F (-1 : Int32) σ) else (Option.bind (mJ0_indexOf_0f7a4 F 0 ((((σ 1 4).toUInt32 % 65536).toInt32)) σ) fun q5 => (jn_X8_readDoing_27 F q5 σ))))
set_option maxHeartbeats 4000000 in
set_option maxRecDepth 100000 in
theorem kX8_readDoing {V : jV} {F : Nat} {σ : jS} {v : jS} (hm : mX8_readDoing F σ = some v) : Ct cfX 70 V yX8_readDoing cX8_readDoing 2 none 4 [.ref (vad V 33)] σ (0, v) := by
  refine j_start (own := RX8) (by decide) rfl (Nat.le_of_ble_eq_true rfl) ?_
  intro G hV C
  subst hV
  unfold mX8_readDoing at hm
  show JX G 0 [(0, .ref (vad (gV G) 33))] [] σ (0, v)
  refine j_aloadn (pc := 0) C 0 dX8_readDoing_0 rfl rfl ?_
  refine gf_X8_25 (c := 33) (pc := 1) C kx_33 dX8_readDoing_1 ?_
  obtain ⟨q1, hq1, hm⟩ := Option.bind_eq_some_iff.mp hm
  refine cl_X8_49 (c := 1) (pc := 4) C kx_1 (kX10_goesOn hq1) (by decide) (Nat.le_of_ble_eq_true rfl) dX8_readDoing_4 ?_
  refine j_if_eq (tgt := 26) (pc := 7) C dX8_readDoing_7 (by decide) hm (fun _ hm => ?_) (fun _ hm => ?_)
  · refine j_iconst (v := -1) (pc := 26) C dX8_readDoing_26 (by decide) ?_
    exact jn_X8_readDoing_27_ok C F  _ _ hm
  · refine j_lds0 (pc := 10) C dX8_readDoing_10 ?_
    refine j_aloadn (pc := 12) C 0 dX8_readDoing_12 rfl rfl ?_
    refine gf_X8_25 (c := 33) (pc := 13) C kx_33 dX8_readDoing_13 ?_
    refine gf_X8_53 (c := 1) (pc := 16) C kx_1 dX8_readDoing_16 ?_
    refine j_i2c (pc := 19) C dX8_readDoing_19 ?_
    obtain ⟨q5, hq5, hm⟩ := Option.bind_eq_some_iff.mp hm
    refine cl_X8_83 (c := 0) (pc := 20) C (by decide) (kJ0_indexOf_0f7a4 (by decide) hq5) (by decide) (Nat.le_of_ble_eq_true rfl) dX8_readDoing_20 ?_
    refine j_goto (tgt := 27) (pc := 23) C dX8_readDoing_23 (by decide) ?_
    exact jn_X8_readDoing_27_ok C F  _ _ hm

