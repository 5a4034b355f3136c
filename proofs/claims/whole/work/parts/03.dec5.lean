theorem dJ0_length_8abf5_0 : decode cJ0_length_8abf5 0 = .ok (.aload_n 0, 1) := by decide +kernel
theorem dJ0_length_8abf5_1 : decode cJ0_length_8abf5 1 = .ok (.getfield 9, 3) := by decide +kernel
theorem dJ0_length_8abf5_4 : decode cJ0_length_8abf5 4 = .ok (.arraylength, 1) := by decide +kernel
theorem dJ0_length_8abf5_5 : decode cJ0_length_8abf5 5 = .ok (.aload_n 0, 1) := by decide +kernel
theorem dJ0_length_8abf5_6 : decode cJ0_length_8abf5 6 = .ok (.invokevirtual 335, 3) := by decide +kernel
theorem dJ0_length_8abf5_9 : decode cJ0_length_8abf5 9 = .ok (.ishr, 1) := by decide +kernel
theorem dJ0_length_8abf5_10 : decode cJ0_length_8abf5 10 = .ok (.ireturn, 1) := by decide +kernel
theorem dJ0_indexOf_0f7a4_0 : decode cJ0_indexOf_0f7a4 0 = .ok (.aload_n 0, 1) := by decide +kernel
theorem dJ0_indexOf_0f7a4_1 : decode cJ0_indexOf_0f7a4 1 = .ok (.iload_n 1, 1) := by decide +kernel
theorem dJ0_indexOf_0f7a4_2 : decode cJ0_indexOf_0f7a4 2 = .ok (.iconst 0, 1) := by decide +kernel
theorem dJ0_indexOf_0f7a4_3 : decode cJ0_indexOf_0f7a4 3 = .ok (.invokevirtual 633, 3) := by decide +kernel
theorem dJ0_indexOf_0f7a4_6 : decode cJ0_indexOf_0f7a4 6 = .ok (.ireturn, 1) := by decide +kernel
theorem dJ0_indexOf_7cf53_0 : decode cJ0_indexOf_7cf53 0 = .ok (.aload_n 0, 1) := by decide +kernel
theorem dJ0_indexOf_7cf53_1 : decode cJ0_indexOf_7cf53 1 = .ok (.invokevirtual 492, 3) := by decide +kernel
theorem dJ0_indexOf_7cf53_4 : decode cJ0_indexOf_7cf53 4 = .ok (.ifCond .eq 19, 3) := by decide +kernel
theorem dJ0_indexOf_7cf53_7 : decode cJ0_indexOf_7cf53 7 = .ok (.aload_n 0, 1) := by decide +kernel
theorem dJ0_indexOf_7cf53_8 : decode cJ0_indexOf_7cf53 8 = .ok (.getfield 9, 3) := by decide +kernel
theorem dJ0_indexOf_7cf53_11 : decode cJ0_indexOf_7cf53 11 = .ok (.iload_n 1, 1) := by decide +kernel
theorem dJ0_indexOf_7cf53_12 : decode cJ0_indexOf_7cf53 12 = .ok (.iload_n 2, 1) := by decide +kernel
theorem dJ0_indexOf_7cf53_13 : decode cJ0_indexOf_7cf53 13 = .ok (.aload_n 0, 1) := by decide +kernel
theorem dJ0_indexOf_7cf53_14 : decode cJ0_indexOf_7cf53 14 = .ok (.invokevirtual 505, 3) := by decide +kernel
theorem dJ0_indexOf_7cf53_17 : decode cJ0_indexOf_7cf53 17 = .ok (.invokestatic 637, 3) := by decide +kernel
theorem dJ0_indexOf_7cf53_20 : decode cJ0_indexOf_7cf53 20 = .ok (.goto 16, 3) := by decide +kernel
theorem dJ0_indexOf_7cf53_23 : decode cJ0_indexOf_7cf53 23 = .ok (.aload_n 0, 1) := by decide +kernel
theorem dJ0_indexOf_7cf53_24 : decode cJ0_indexOf_7cf53 24 = .ok (.getfield 9, 3) := by decide +kernel
theorem dJ0_indexOf_7cf53_27 : decode cJ0_indexOf_7cf53 27 = .ok (.iload_n 1, 1) := by decide +kernel
theorem dJ0_indexOf_7cf53_28 : decode cJ0_indexOf_7cf53 28 = .ok (.iload_n 2, 1) := by decide +kernel
theorem dJ0_indexOf_7cf53_29 : decode cJ0_indexOf_7cf53 29 = .ok (.aload_n 0, 1) := by decide +kernel
theorem dJ0_indexOf_7cf53_30 : decode cJ0_indexOf_7cf53 30 = .ok (.invokevirtual 505, 3) := by decide +kernel
theorem dJ0_indexOf_7cf53_33 : decode cJ0_indexOf_7cf53 33 = .ok (.invokestatic 640, 3) := by decide +kernel
theorem dJ0_indexOf_7cf53_36 : decode cJ0_indexOf_7cf53 36 = .ok (.ireturn, 1) := by decide +kernel
theorem dJ0_coder_7d493_0 : decode cJ0_coder_7d493 0 = .ok (.getstatic 38, 3) := by decide +kernel
theorem dJ0_coder_7d493_3 : decode cJ0_coder_7d493 3 = .ok (.ifCond .eq 10, 3) := by decide +kernel
theorem dJ0_coder_7d493_6 : decode cJ0_coder_7d493 6 = .ok (.aload_n 0, 1) := by decide +kernel
theorem dJ0_coder_7d493_7 : decode cJ0_coder_7d493 7 = .ok (.getfield 15, 3) := by decide +kernel
theorem dJ0_coder_7d493_10 : decode cJ0_coder_7d493 10 = .ok (.goto 4, 3) := by decide +kernel
theorem dJ0_coder_7d493_13 : decode cJ0_coder_7d493 13 = .ok (.iconst 1, 1) := by decide +kernel
theorem dJ0_coder_7d493_14 : decode cJ0_coder_7d493 14 = .ok (.ireturn, 1) := by decide +kernel
theorem dJ0_isLatin1_aae02_0 : decode cJ0_isLatin1_aae02 0 = .ok (.getstatic 38, 3) := by decide +kernel
theorem dJ0_isLatin1_aae02_3 : decode cJ0_isLatin1_aae02 3 = .ok (.ifCond .eq 14, 3) := by decide +kernel
theorem dJ0_isLatin1_aae02_6 : decode cJ0_isLatin1_aae02 6 = .ok (.aload_n 0, 1) := by decide +kernel
theorem dJ0_isLatin1_aae02_7 : decode cJ0_isLatin1_aae02 7 = .ok (.getfield 15, 3) := by decide +kernel
theorem dJ0_isLatin1_aae02_10 : decode cJ0_isLatin1_aae02 10 = .ok (.ifCond .ne 7, 3) := by decide +kernel
theorem dJ0_isLatin1_aae02_13 : decode cJ0_isLatin1_aae02 13 = .ok (.iconst 1, 1) := by decide +kernel
theorem dJ0_isLatin1_aae02_14 : decode cJ0_isLatin1_aae02 14 = .ok (.goto 4, 3) := by decide +kernel
theorem dJ0_isLatin1_aae02_17 : decode cJ0_isLatin1_aae02 17 = .ok (.iconst 0, 1) := by decide +kernel
theorem dJ0_isLatin1_aae02_18 : decode cJ0_isLatin1_aae02 18 = .ok (.ireturn, 1) := by decide +kernel
theorem dJ0_checkBoundsBeginEnd_23922_0 : decode cJ0_checkBoundsBeginEnd_23922 0 = .ok (.iload_n 0, 1) := by decide +kernel
theorem dJ0_checkBoundsBeginEnd_23922_1 : decode cJ0_checkBoundsBeginEnd_23922 1 = .ok (.iload_n 1, 1) := by decide +kernel
theorem dJ0_checkBoundsBeginEnd_23922_2 : decode cJ0_checkBoundsBeginEnd_23922 2 = .ok (.iload_n 2, 1) := by decide +kernel
theorem dJ0_checkBoundsBeginEnd_23922_3 : decode cJ0_checkBoundsBeginEnd_23922 3 = .ok (.getstatic 1053, 3) := by decide +kernel
theorem dJ0_checkBoundsBeginEnd_23922_6 : decode cJ0_checkBoundsBeginEnd_23922 6 = .ok (.invokestatic 1062, 3) := by decide +kernel
theorem dJ0_checkBoundsBeginEnd_23922_9 : decode cJ0_checkBoundsBeginEnd_23922 9 = .ok (.pop, 1) := by decide +kernel
theorem dJ0_checkBoundsBeginEnd_23922_10 : decode cJ0_checkBoundsBeginEnd_23922 10 = .ok (.return_, 1) := by decide +kernel
theorem dJ1_canEncode_9a6ad_0 : decode cJ1_canEncode_9a6ad 0 = .ok (.iload_n 0, 1) := by decide +kernel
theorem dJ1_canEncode_9a6ad_1 : decode cJ1_canEncode_9a6ad 1 = .ok (.ifCond .lt 14, 3) := by decide +kernel
theorem dJ1_canEncode_9a6ad_4 : decode cJ1_canEncode_9a6ad 4 = .ok (.iload_n 0, 1) := by decide +kernel
theorem dJ1_canEncode_9a6ad_5 : decode cJ1_canEncode_9a6ad 5 = .ok (.sipush 255, 3) := by decide +kernel
theorem dJ1_canEncode_9a6ad_8 : decode cJ1_canEncode_9a6ad 8 = .ok (.if_icmp .gt 7, 3) := by decide +kernel
theorem dJ1_canEncode_9a6ad_11 : decode cJ1_canEncode_9a6ad 11 = .ok (.iconst 1, 1) := by decide +kernel
theorem dJ1_canEncode_9a6ad_12 : decode cJ1_canEncode_9a6ad 12 = .ok (.goto 4, 3) := by decide +kernel
theorem dJ1_canEncode_9a6ad_15 : decode cJ1_canEncode_9a6ad 15 = .ok (.iconst 0, 1) := by decide +kernel
theorem dJ1_canEncode_9a6ad_16 : decode cJ1_canEncode_9a6ad 16 = .ok (.ireturn, 1) := by decide +kernel
theorem dJ1_indexOf_4cfef_0 : decode cJ1_indexOf_4cfef 0 = .ok (.iload_n 1, 1) := by decide +kernel
theorem dJ1_indexOf_4cfef_1 : decode cJ1_indexOf_4cfef 1 = .ok (.invokestatic 88, 3) := by decide +kernel
theorem dJ1_indexOf_4cfef_4 : decode cJ1_indexOf_4cfef 4 = .ok (.ifCond .ne 5, 3) := by decide +kernel
theorem dJ1_indexOf_4cfef_7 : decode cJ1_indexOf_4cfef 7 = .ok (.iconst (-1), 1) := by decide +kernel
theorem dJ1_indexOf_4cfef_8 : decode cJ1_indexOf_4cfef 8 = .ok (.ireturn, 1) := by decide +kernel
theorem dJ1_indexOf_4cfef_9 : decode cJ1_indexOf_4cfef 9 = .ok (.iload_n 2, 1) := by decide +kernel
theorem dJ1_indexOf_4cfef_10 : decode cJ1_indexOf_4cfef 10 = .ok (.iconst 0, 1) := by decide +kernel
theorem dJ1_indexOf_4cfef_11 : decode cJ1_indexOf_4cfef 11 = .ok (.invokestatic 92, 3) := by decide +kernel
theorem dJ1_indexOf_4cfef_14 : decode cJ1_indexOf_4cfef 14 = .ok (.istore_n 2, 1) := by decide +kernel
theorem dJ1_indexOf_4cfef_15 : decode cJ1_indexOf_4cfef 15 = .ok (.iload_n 3, 1) := by decide +kernel
theorem dJ1_indexOf_4cfef_16 : decode cJ1_indexOf_4cfef 16 = .ok (.aload_n 0, 1) := by decide +kernel
theorem dJ1_indexOf_4cfef_17 : decode cJ1_indexOf_4cfef 17 = .ok (.arraylength, 1) := by decide +kernel
theorem dJ1_indexOf_4cfef_18 : decode cJ1_indexOf_4cfef 18 = .ok (.invokestatic 38, 3) := by decide +kernel
theorem dJ1_indexOf_4cfef_21 : decode cJ1_indexOf_4cfef 21 = .ok (.istore_n 3, 1) := by decide +kernel
theorem dJ1_indexOf_4cfef_22 : decode cJ1_indexOf_4cfef 22 = .ok (.iload_n 2, 1) := by decide +kernel
theorem dJ1_indexOf_4cfef_23 : decode cJ1_indexOf_4cfef 23 = .ok (.iload_n 3, 1) := by decide +kernel
theorem dJ1_indexOf_4cfef_24 : decode cJ1_indexOf_4cfef 24 = .ok (.if_icmp .lt 5, 3) := by decide +kernel
theorem dJ1_indexOf_4cfef_27 : decode cJ1_indexOf_4cfef 27 = .ok (.iconst (-1), 1) := by decide +kernel
theorem dJ1_indexOf_4cfef_28 : decode cJ1_indexOf_4cfef 28 = .ok (.ireturn, 1) := by decide +kernel
theorem dJ1_indexOf_4cfef_29 : decode cJ1_indexOf_4cfef 29 = .ok (.aload_n 0, 1) := by decide +kernel
theorem dJ1_indexOf_4cfef_30 : decode cJ1_indexOf_4cfef 30 = .ok (.iload_n 1, 1) := by decide +kernel
theorem dJ1_indexOf_4cfef_31 : decode cJ1_indexOf_4cfef 31 = .ok (.iload_n 2, 1) := by decide +kernel
theorem dJ1_indexOf_4cfef_32 : decode cJ1_indexOf_4cfef 32 = .ok (.iload_n 3, 1) := by decide +kernel
theorem dJ1_indexOf_4cfef_33 : decode cJ1_indexOf_4cfef 33 = .ok (.invokestatic 95, 3) := by decide +kernel
theorem dJ1_indexOf_4cfef_36 : decode cJ1_indexOf_4cfef 36 = .ok (.ireturn, 1) := by decide +kernel
theorem dJ1_indexOfChar_4cfef_0 : decode cJ1_indexOfChar_4cfef 0 = .ok (.iload_n 1, 1) := by decide +kernel
theorem dJ1_indexOfChar_4cfef_1 : decode cJ1_indexOfChar_4cfef 1 = .ok (.i2b, 1) := by decide +kernel
theorem dJ1_indexOfChar_4cfef_2 : decode cJ1_indexOfChar_4cfef 2 = .ok (.istore 4, 2) := by decide +kernel
theorem dJ1_indexOfChar_4cfef_4 : decode cJ1_indexOfChar_4cfef 4 = .ok (.iload_n 2, 1) := by decide +kernel
theorem dJ1_indexOfChar_4cfef_5 : decode cJ1_indexOfChar_4cfef 5 = .ok (.istore 5, 2) := by decide +kernel
theorem dJ1_indexOfChar_4cfef_7 : decode cJ1_indexOfChar_4cfef 7 = .ok (.iload 5, 2) := by decide +kernel
theorem dJ1_indexOfChar_4cfef_9 : decode cJ1_indexOfChar_4cfef 9 = .ok (.iload_n 3, 1) := by decide +kernel
theorem dJ1_indexOfChar_4cfef_10 : decode cJ1_indexOfChar_4cfef 10 = .ok (.if_icmp .ge 21, 3) := by decide +kernel
theorem dJ1_indexOfChar_4cfef_13 : decode cJ1_indexOfChar_4cfef 13 = .ok (.aload_n 0, 1) := by decide +kernel
theorem dJ1_indexOfChar_4cfef_14 : decode cJ1_indexOfChar_4cfef 14 = .ok (.iload 5, 2) := by decide +kernel
theorem dJ1_indexOfChar_4cfef_16 : decode cJ1_indexOfChar_4cfef 16 = .ok (.baload, 1) := by decide +kernel
theorem dJ1_indexOfChar_4cfef_17 : decode cJ1_indexOfChar_4cfef 17 = .ok (.iload 4, 2) := by decide +kernel
theorem dJ1_indexOfChar_4cfef_19 : decode cJ1_indexOfChar_4cfef 19 = .ok (.if_icmp .ne 6, 3) := by decide +kernel
theorem dJ1_indexOfChar_4cfef_22 : decode cJ1_indexOfChar_4cfef 22 = .ok (.iload 5, 2) := by decide +kernel
theorem dJ1_indexOfChar_4cfef_24 : decode cJ1_indexOfChar_4cfef 24 = .ok (.ireturn, 1) := by decide +kernel
theorem dJ1_indexOfChar_4cfef_25 : decode cJ1_indexOfChar_4cfef 25 = .ok (.iinc 5 1, 3) := by decide +kernel
theorem dJ1_indexOfChar_4cfef_28 : decode cJ1_indexOfChar_4cfef 28 = .ok (.goto (-21), 3) := by decide +kernel
theorem dJ1_indexOfChar_4cfef_31 : decode cJ1_indexOfChar_4cfef 31 = .ok (.iconst (-1), 1) := by decide +kernel
theorem dJ1_indexOfChar_4cfef_32 : decode cJ1_indexOfChar_4cfef 32 = .ok (.ireturn, 1) := by decide +kernel
theorem dJ11_isValidCodePoint_9a6ad_0 : decode cJ11_isValidCodePoint_9a6ad 0 = .ok (.iload_n 0, 1) := by decide +kernel
theorem dJ11_isValidCodePoint_9a6ad_1 : decode cJ11_isValidCodePoint_9a6ad 1 = .ok (.bipush 16, 2) := by decide +kernel
theorem dJ11_isValidCodePoint_9a6ad_3 : decode cJ11_isValidCodePoint_9a6ad 3 = .ok (.iushr, 1) := by decide +kernel
theorem dJ11_isValidCodePoint_9a6ad_4 : decode cJ11_isValidCodePoint_9a6ad 4 = .ok (.istore_n 1, 1) := by decide +kernel
theorem dJ11_isValidCodePoint_9a6ad_5 : decode cJ11_isValidCodePoint_9a6ad 5 = .ok (.iload_n 1, 1) := by decide +kernel
theorem dJ11_isValidCodePoint_9a6ad_6 : decode cJ11_isValidCodePoint_9a6ad 6 = .ok (.bipush 17, 2) := by decide +kernel
theorem dJ11_isValidCodePoint_9a6ad_8 : decode cJ11_isValidCodePoint_9a6ad 8 = .ok (.if_icmp .ge 7, 3) := by decide +kernel
theorem dJ11_isValidCodePoint_9a6ad_11 : decode cJ11_isValidCodePoint_9a6ad 11 = .ok (.iconst 1, 1) := by decide +kernel
theorem dJ11_isValidCodePoint_9a6ad_12 : decode cJ11_isValidCodePoint_9a6ad 12 = .ok (.goto 4, 3) := by decide +kernel
theorem dJ11_isValidCodePoint_9a6ad_15 : decode cJ11_isValidCodePoint_9a6ad 15 = .ok (.iconst 0, 1) := by decide +kernel
theorem dJ11_isValidCodePoint_9a6ad_16 : decode cJ11_isValidCodePoint_9a6ad 16 = .ok (.ireturn, 1) := by decide +kernel
theorem dJ11_highSurrogate_5068e_0 : decode cJ11_highSurrogate_5068e 0 = .ok (.iload_n 0, 1) := by decide +kernel
theorem dJ11_highSurrogate_5068e_1 : decode cJ11_highSurrogate_5068e 1 = .ok (.bipush 10, 2) := by decide +kernel
theorem dJ11_highSurrogate_5068e_3 : decode cJ11_highSurrogate_5068e 3 = .ok (.iushr, 1) := by decide +kernel
theorem dJ11_highSurrogate_5068e_4 : decode cJ11_highSurrogate_5068e 4 = .ok (.ldc 110, 2) := by decide +kernel
theorem dJ11_highSurrogate_5068e_6 : decode cJ11_highSurrogate_5068e 6 = .ok (.iadd, 1) := by decide +kernel
theorem dJ11_highSurrogate_5068e_7 : decode cJ11_highSurrogate_5068e 7 = .ok (.i2c, 1) := by decide +kernel
theorem dJ11_highSurrogate_5068e_8 : decode cJ11_highSurrogate_5068e 8 = .ok (.ireturn, 1) := by decide +kernel
theorem dJ11_lowSurrogate_5068e_0 : decode cJ11_lowSurrogate_5068e 0 = .ok (.iload_n 0, 1) := by decide +kernel
theorem dJ11_lowSurrogate_5068e_1 : decode cJ11_lowSurrogate_5068e 1 = .ok (.sipush 1023, 3) := by decide +kernel
theorem dJ11_lowSurrogate_5068e_4 : decode cJ11_lowSurrogate_5068e 4 = .ok (.iand, 1) := by decide +kernel
theorem dJ11_lowSurrogate_5068e_5 : decode cJ11_lowSurrogate_5068e 5 = .ok (.ldc 76, 2) := by decide +kernel
theorem dJ11_lowSurrogate_5068e_7 : decode cJ11_lowSurrogate_5068e 7 = .ok (.iadd, 1) := by decide +kernel
theorem dJ11_lowSurrogate_5068e_8 : decode cJ11_lowSurrogate_5068e 8 = .ok (.i2c, 1) := by decide +kernel
theorem dJ11_lowSurrogate_5068e_9 : decode cJ11_lowSurrogate_5068e 9 = .ok (.ireturn, 1) := by decide +kernel
theorem dJ2_getChar_3b067_0 : decode cJ2_getChar_3b067 0 = .ok (.getstatic 44, 3) := by decide +kernel
theorem dJ2_getChar_3b067_3 : decode cJ2_getChar_3b067 3 = .ok (.ifCond .ne 25, 3) := by decide +kernel
theorem dJ2_getChar_3b067_6 : decode cJ2_getChar_3b067 6 = .ok (.iload_n 1, 1) := by decide +kernel
theorem dJ2_getChar_3b067_7 : decode cJ2_getChar_3b067 7 = .ok (.ifCond .lt 11, 3) := by decide +kernel
theorem dJ2_getChar_3b067_10 : decode cJ2_getChar_3b067 10 = .ok (.iload_n 1, 1) := by decide +kernel
theorem dJ2_getChar_3b067_11 : decode cJ2_getChar_3b067 11 = .ok (.aload_n 0, 1) := by decide +kernel
theorem dJ2_getChar_3b067_12 : decode cJ2_getChar_3b067 12 = .ok (.invokestatic 48, 3) := by decide +kernel
theorem dJ2_getChar_3b067_15 : decode cJ2_getChar_3b067 15 = .ok (.if_icmp .lt 13, 3) := by decide +kernel
theorem dJ2_getChar_3b067_18 : decode cJ2_getChar_3b067 18 = .ok (.new 52, 3) := by decide +kernel
theorem dJ2_getChar_3b067_21 : decode cJ2_getChar_3b067 21 = .ok (.dup, 1) := by decide +kernel
theorem dJ2_getChar_3b067_22 : decode cJ2_getChar_3b067 22 = .ok (.ldc 54, 2) := by decide +kernel
theorem dJ2_getChar_3b067_24 : decode cJ2_getChar_3b067 24 = .ok (.invokespecial 56, 3) := by decide +kernel
theorem dJ2_getChar_3b067_27 : decode cJ2_getChar_3b067 27 = .ok (.athrow, 1) := by decide +kernel
theorem dJ2_getChar_3b067_28 : decode cJ2_getChar_3b067 28 = .ok (.iload_n 1, 1) := by decide +kernel
theorem dJ2_getChar_3b067_29 : decode cJ2_getChar_3b067 29 = .ok (.iconst 1, 1) := by decide +kernel
theorem dJ2_getChar_3b067_30 : decode cJ2_getChar_3b067 30 = .ok (.ishl, 1) := by decide +kernel
theorem dJ2_getChar_3b067_31 : decode cJ2_getChar_3b067 31 = .ok (.istore_n 1, 1) := by decide +kernel
theorem dJ2_getChar_3b067_32 : decode cJ2_getChar_3b067 32 = .ok (.aload_n 0, 1) := by decide +kernel
theorem dJ2_getChar_3b067_33 : decode cJ2_getChar_3b067 33 = .ok (.iload_n 1, 1) := by decide +kernel
theorem dJ2_getChar_3b067_34 : decode cJ2_getChar_3b067 34 = .ok (.iinc 1 1, 3) := by decide +kernel
theorem dJ2_getChar_3b067_37 : decode cJ2_getChar_3b067 37 = .ok (.baload, 1) := by decide +kernel
theorem dJ2_getChar_3b067_38 : decode cJ2_getChar_3b067 38 = .ok (.sipush 255, 3) := by decide +kernel
theorem dJ2_getChar_3b067_41 : decode cJ2_getChar_3b067 41 = .ok (.iand, 1) := by decide +kernel
theorem dJ2_getChar_3b067_42 : decode cJ2_getChar_3b067 42 = .ok (.getstatic 59, 3) := by decide +kernel
theorem dJ2_getChar_3b067_45 : decode cJ2_getChar_3b067 45 = .ok (.ishl, 1) := by decide +kernel
theorem dJ2_getChar_3b067_46 : decode cJ2_getChar_3b067 46 = .ok (.aload_n 0, 1) := by decide +kernel
theorem dJ2_getChar_3b067_47 : decode cJ2_getChar_3b067 47 = .ok (.iload_n 1, 1) := by decide +kernel
theorem dJ2_getChar_3b067_48 : decode cJ2_getChar_3b067 48 = .ok (.baload, 1) := by decide +kernel
theorem dJ2_getChar_3b067_49 : decode cJ2_getChar_3b067 49 = .ok (.sipush 255, 3) := by decide +kernel
theorem dJ2_getChar_3b067_52 : decode cJ2_getChar_3b067 52 = .ok (.iand, 1) := by decide +kernel
theorem dJ2_getChar_3b067_53 : decode cJ2_getChar_3b067 53 = .ok (.getstatic 63, 3) := by decide +kernel
theorem dJ2_getChar_3b067_56 : decode cJ2_getChar_3b067 56 = .ok (.ishl, 1) := by decide +kernel
theorem dJ2_getChar_3b067_57 : decode cJ2_getChar_3b067 57 = .ok (.ior, 1) := by decide +kernel
theorem dJ2_getChar_3b067_58 : decode cJ2_getChar_3b067 58 = .ok (.i2c, 1) := by decide +kernel
theorem dJ2_getChar_3b067_59 : decode cJ2_getChar_3b067 59 = .ok (.ireturn, 1) := by decide +kernel
theorem dJ2_length_9d52b_0 : decode cJ2_length_9d52b 0 = .ok (.aload_n 0, 1) := by decide +kernel
theorem dJ2_length_9d52b_1 : decode cJ2_length_9d52b 1 = .ok (.arraylength, 1) := by decide +kernel
theorem dJ2_length_9d52b_2 : decode cJ2_length_9d52b 2 = .ok (.iconst 1, 1) := by decide +kernel
theorem dJ2_length_9d52b_3 : decode cJ2_length_9d52b 3 = .ok (.ishr, 1) := by decide +kernel
theorem dJ2_length_9d52b_4 : decode cJ2_length_9d52b 4 = .ok (.ireturn, 1) := by decide +kernel
theorem dJ2_indexOf_4cfef_0 : decode cJ2_indexOf_4cfef 0 = .ok (.iload_n 2, 1) := by decide +kernel
theorem dJ2_indexOf_4cfef_1 : decode cJ2_indexOf_4cfef 1 = .ok (.iconst 0, 1) := by decide +kernel
theorem dJ2_indexOf_4cfef_2 : decode cJ2_indexOf_4cfef 2 = .ok (.invokestatic 224, 3) := by decide +kernel
theorem dJ2_indexOf_4cfef_5 : decode cJ2_indexOf_4cfef 5 = .ok (.istore_n 2, 1) := by decide +kernel
theorem dJ2_indexOf_4cfef_6 : decode cJ2_indexOf_4cfef 6 = .ok (.iload_n 3, 1) := by decide +kernel
theorem dJ2_indexOf_4cfef_7 : decode cJ2_indexOf_4cfef 7 = .ok (.aload_n 0, 1) := by decide +kernel
theorem dJ2_indexOf_4cfef_8 : decode cJ2_indexOf_4cfef 8 = .ok (.arraylength, 1) := by decide +kernel
theorem dJ2_indexOf_4cfef_9 : decode cJ2_indexOf_4cfef 9 = .ok (.iconst 1, 1) := by decide +kernel
theorem dJ2_indexOf_4cfef_10 : decode cJ2_indexOf_4cfef 10 = .ok (.ishr, 1) := by decide +kernel
theorem dJ2_indexOf_4cfef_11 : decode cJ2_indexOf_4cfef 11 = .ok (.invokestatic 183, 3) := by decide +kernel
theorem dJ2_indexOf_4cfef_14 : decode cJ2_indexOf_4cfef 14 = .ok (.istore_n 3, 1) := by decide +kernel
theorem dJ2_indexOf_4cfef_15 : decode cJ2_indexOf_4cfef 15 = .ok (.iload_n 2, 1) := by decide +kernel
theorem dJ2_indexOf_4cfef_16 : decode cJ2_indexOf_4cfef 16 = .ok (.iload_n 3, 1) := by decide +kernel
theorem dJ2_indexOf_4cfef_17 : decode cJ2_indexOf_4cfef 17 = .ok (.if_icmp .lt 5, 3) := by decide +kernel
theorem dJ2_indexOf_4cfef_20 : decode cJ2_indexOf_4cfef 20 = .ok (.iconst (-1), 1) := by decide +kernel
theorem dJ2_indexOf_4cfef_21 : decode cJ2_indexOf_4cfef 21 = .ok (.ireturn, 1) := by decide +kernel
theorem dJ2_indexOf_4cfef_22 : decode cJ2_indexOf_4cfef 22 = .ok (.iload_n 1, 1) := by decide +kernel
theorem dJ2_indexOf_4cfef_23 : decode cJ2_indexOf_4cfef 23 = .ok (.ldc 227, 2) := by decide +kernel
theorem dJ2_indexOf_4cfef_25 : decode cJ2_indexOf_4cfef 25 = .ok (.if_icmp .ge 11, 3) := by decide +kernel
theorem dJ2_indexOf_4cfef_28 : decode cJ2_indexOf_4cfef 28 = .ok (.aload_n 0, 1) := by decide +kernel
theorem dJ2_indexOf_4cfef_29 : decode cJ2_indexOf_4cfef 29 = .ok (.iload_n 1, 1) := by decide +kernel
theorem dJ2_indexOf_4cfef_30 : decode cJ2_indexOf_4cfef 30 = .ok (.iload_n 2, 1) := by decide +kernel
theorem dJ2_indexOf_4cfef_31 : decode cJ2_indexOf_4cfef 31 = .ok (.iload_n 3, 1) := by decide +kernel
theorem dJ2_indexOf_4cfef_32 : decode cJ2_indexOf_4cfef 32 = .ok (.invokestatic 228, 3) := by decide +kernel
theorem dJ2_indexOf_4cfef_35 : decode cJ2_indexOf_4cfef 35 = .ok (.ireturn, 1) := by decide +kernel
theorem dJ2_indexOf_4cfef_36 : decode cJ2_indexOf_4cfef 36 = .ok (.aload_n 0, 1) := by decide +kernel
theorem dJ2_indexOf_4cfef_37 : decode cJ2_indexOf_4cfef 37 = .ok (.iload_n 1, 1) := by decide +kernel
theorem dJ2_indexOf_4cfef_38 : decode cJ2_indexOf_4cfef 38 = .ok (.iload_n 2, 1) := by decide +kernel
theorem dJ2_indexOf_4cfef_39 : decode cJ2_indexOf_4cfef 39 = .ok (.iload_n 3, 1) := by decide +kernel
theorem dJ2_indexOf_4cfef_40 : decode cJ2_indexOf_4cfef 40 = .ok (.invokestatic 232, 3) := by decide +kernel
theorem dJ2_indexOf_4cfef_43 : decode cJ2_indexOf_4cfef 43 = .ok (.ireturn, 1) := by decide +kernel
theorem dJ2_indexOfChar_4cfef_0 : decode cJ2_indexOfChar_4cfef 0 = .ok (.iload_n 2, 1) := by decide +kernel
theorem dJ2_indexOfChar_4cfef_1 : decode cJ2_indexOfChar_4cfef 1 = .ok (.iload_n 3, 1) := by decide +kernel
theorem dJ2_indexOfChar_4cfef_2 : decode cJ2_indexOfChar_4cfef 2 = .ok (.aload_n 0, 1) := by decide +kernel
theorem dJ2_indexOfChar_4cfef_3 : decode cJ2_indexOfChar_4cfef 3 = .ok (.invokestatic 96, 3) := by decide +kernel
theorem dJ2_indexOfChar_4cfef_6 : decode cJ2_indexOfChar_4cfef 6 = .ok (.aload_n 0, 1) := by decide +kernel
theorem dJ2_indexOfChar_4cfef_7 : decode cJ2_indexOfChar_4cfef 7 = .ok (.iload_n 1, 1) := by decide +kernel
theorem dJ2_indexOfChar_4cfef_8 : decode cJ2_indexOfChar_4cfef 8 = .ok (.iload_n 2, 1) := by decide +kernel
theorem dJ2_indexOfChar_4cfef_9 : decode cJ2_indexOfChar_4cfef 9 = .ok (.iload_n 3, 1) := by decide +kernel
theorem dJ2_indexOfChar_4cfef_10 : decode cJ2_indexOfChar_4cfef 10 = .ok (.invokestatic 244, 3) := by decide +kernel
theorem dJ2_indexOfChar_4cfef_13 : decode cJ2_indexOfChar_4cfef 13 = .ok (.ireturn, 1) := by decide +kernel
theorem dJ2_indexOfCharUnsafe_4cfef_0 : decode cJ2_indexOfCharUnsafe_4cfef 0 = .ok (.iload_n 2, 1) := by decide +kernel
theorem dJ2_indexOfCharUnsafe_4cfef_1 : decode cJ2_indexOfCharUnsafe_4cfef 1 = .ok (.istore 4, 2) := by decide +kernel
theorem dJ2_indexOfCharUnsafe_4cfef_3 : decode cJ2_indexOfCharUnsafe_4cfef 3 = .ok (.iload 4, 2) := by decide +kernel
theorem dJ2_indexOfCharUnsafe_4cfef_5 : decode cJ2_indexOfCharUnsafe_4cfef 5 = .ok (.iload_n 3, 1) := by decide +kernel
theorem dJ2_indexOfCharUnsafe_4cfef_6 : decode cJ2_indexOfCharUnsafe_4cfef 6 = .ok (.if_icmp .ge 22, 3) := by decide +kernel
theorem dJ2_indexOfCharUnsafe_4cfef_9 : decode cJ2_indexOfCharUnsafe_4cfef 9 = .ok (.aload_n 0, 1) := by decide +kernel
theorem dJ2_indexOfCharUnsafe_4cfef_10 : decode cJ2_indexOfCharUnsafe_4cfef 10 = .ok (.iload 4, 2) := by decide +kernel
theorem dJ2_indexOfCharUnsafe_4cfef_12 : decode cJ2_indexOfCharUnsafe_4cfef 12 = .ok (.invokestatic 71, 3) := by decide +kernel
theorem dJ2_indexOfCharUnsafe_4cfef_15 : decode cJ2_indexOfCharUnsafe_4cfef 15 = .ok (.iload_n 1, 1) := by decide +kernel
theorem dJ2_indexOfCharUnsafe_4cfef_16 : decode cJ2_indexOfCharUnsafe_4cfef 16 = .ok (.if_icmp .ne 6, 3) := by decide +kernel
theorem dJ2_indexOfCharUnsafe_4cfef_19 : decode cJ2_indexOfCharUnsafe_4cfef 19 = .ok (.iload 4, 2) := by decide +kernel
theorem dJ2_indexOfCharUnsafe_4cfef_21 : decode cJ2_indexOfCharUnsafe_4cfef 21 = .ok (.ireturn, 1) := by decide +kernel
theorem dJ2_indexOfCharUnsafe_4cfef_22 : decode cJ2_indexOfCharUnsafe_4cfef 22 = .ok (.iinc 4 1, 3) := by decide +kernel
theorem dJ2_indexOfCharUnsafe_4cfef_25 : decode cJ2_indexOfCharUnsafe_4cfef 25 = .ok (.goto (-22), 3) := by decide +kernel
theorem dJ2_indexOfCharUnsafe_4cfef_28 : decode cJ2_indexOfCharUnsafe_4cfef 28 = .ok (.iconst (-1), 1) := by decide +kernel
theorem dJ2_indexOfCharUnsafe_4cfef_29 : decode cJ2_indexOfCharUnsafe_4cfef 29 = .ok (.ireturn, 1) := by decide +kernel
theorem dJ2_indexOfSupplementary_4cfef_0 : decode cJ2_indexOfSupplementary_4cfef 0 = .ok (.iload_n 1, 1) := by decide +kernel
theorem dJ2_indexOfSupplementary_4cfef_1 : decode cJ2_indexOfSupplementary_4cfef 1 = .ok (.invokestatic 164, 3) := by decide +kernel
theorem dJ2_indexOfSupplementary_4cfef_4 : decode cJ2_indexOfSupplementary_4cfef 4 = .ok (.ifCond .eq 65, 3) := by decide +kernel
theorem dJ2_indexOfSupplementary_4cfef_7 : decode cJ2_indexOfSupplementary_4cfef 7 = .ok (.iload_n 1, 1) := by decide +kernel
theorem dJ2_indexOfSupplementary_4cfef_8 : decode cJ2_indexOfSupplementary_4cfef 8 = .ok (.invokestatic 157, 3) := by decide +kernel
theorem dJ2_indexOfSupplementary_4cfef_11 : decode cJ2_indexOfSupplementary_4cfef 11 = .ok (.istore 4, 2) := by decide +kernel
theorem dJ2_indexOfSupplementary_4cfef_13 : decode cJ2_indexOfSupplementary_4cfef 13 = .ok (.iload_n 1, 1) := by decide +kernel
theorem dJ2_indexOfSupplementary_4cfef_14 : decode cJ2_indexOfSupplementary_4cfef 14 = .ok (.invokestatic 161, 3) := by decide +kernel
theorem dJ2_indexOfSupplementary_4cfef_17 : decode cJ2_indexOfSupplementary_4cfef 17 = .ok (.istore 5, 2) := by decide +kernel
theorem dJ2_indexOfSupplementary_4cfef_19 : decode cJ2_indexOfSupplementary_4cfef 19 = .ok (.iload_n 2, 1) := by decide +kernel
theorem dJ2_indexOfSupplementary_4cfef_20 : decode cJ2_indexOfSupplementary_4cfef 20 = .ok (.iload_n 3, 1) := by decide +kernel
theorem dJ2_indexOfSupplementary_4cfef_21 : decode cJ2_indexOfSupplementary_4cfef 21 = .ok (.aload_n 0, 1) := by decide +kernel
theorem dJ2_indexOfSupplementary_4cfef_22 : decode cJ2_indexOfSupplementary_4cfef 22 = .ok (.invokestatic 96, 3) := by decide +kernel
theorem dJ2_indexOfSupplementary_4cfef_25 : decode cJ2_indexOfSupplementary_4cfef 25 = .ok (.iload_n 2, 1) := by decide +kernel
theorem dJ2_indexOfSupplementary_4cfef_26 : decode cJ2_indexOfSupplementary_4cfef 26 = .ok (.istore 6, 2) := by decide +kernel
theorem dJ2_indexOfSupplementary_4cfef_28 : decode cJ2_indexOfSupplementary_4cfef 28 = .ok (.iload 6, 2) := by decide +kernel
theorem dJ2_indexOfSupplementary_4cfef_30 : decode cJ2_indexOfSupplementary_4cfef 30 = .ok (.iload_n 3, 1) := by decide +kernel
theorem dJ2_indexOfSupplementary_4cfef_31 : decode cJ2_indexOfSupplementary_4cfef 31 = .ok (.iconst 1, 1) := by decide +kernel
theorem dJ2_indexOfSupplementary_4cfef_32 : decode cJ2_indexOfSupplementary_4cfef 32 = .ok (.isub, 1) := by decide +kernel
theorem dJ2_indexOfSupplementary_4cfef_33 : decode cJ2_indexOfSupplementary_4cfef 33 = .ok (.if_icmp .ge 36, 3) := by decide +kernel
theorem dJ2_indexOfSupplementary_4cfef_36 : decode cJ2_indexOfSupplementary_4cfef 36 = .ok (.aload_n 0, 1) := by decide +kernel
theorem dJ2_indexOfSupplementary_4cfef_37 : decode cJ2_indexOfSupplementary_4cfef 37 = .ok (.iload 6, 2) := by decide +kernel
theorem dJ2_indexOfSupplementary_4cfef_39 : decode cJ2_indexOfSupplementary_4cfef 39 = .ok (.invokestatic 71, 3) := by decide +kernel
theorem dJ2_indexOfSupplementary_4cfef_42 : decode cJ2_indexOfSupplementary_4cfef 42 = .ok (.iload 4, 2) := by decide +kernel
theorem dJ2_indexOfSupplementary_4cfef_44 : decode cJ2_indexOfSupplementary_4cfef 44 = .ok (.if_icmp .ne 19, 3) := by decide +kernel
theorem dJ2_indexOfSupplementary_4cfef_47 : decode cJ2_indexOfSupplementary_4cfef 47 = .ok (.aload_n 0, 1) := by decide +kernel
theorem dJ2_indexOfSupplementary_4cfef_48 : decode cJ2_indexOfSupplementary_4cfef 48 = .ok (.iload 6, 2) := by decide +kernel
theorem dJ2_indexOfSupplementary_4cfef_50 : decode cJ2_indexOfSupplementary_4cfef 50 = .ok (.iconst 1, 1) := by decide +kernel
theorem dJ2_indexOfSupplementary_4cfef_51 : decode cJ2_indexOfSupplementary_4cfef 51 = .ok (.iadd, 1) := by decide +kernel
theorem dJ2_indexOfSupplementary_4cfef_52 : decode cJ2_indexOfSupplementary_4cfef 52 = .ok (.invokestatic 71, 3) := by decide +kernel
theorem dJ2_indexOfSupplementary_4cfef_55 : decode cJ2_indexOfSupplementary_4cfef 55 = .ok (.iload 5, 2) := by decide +kernel
theorem dJ2_indexOfSupplementary_4cfef_57 : decode cJ2_indexOfSupplementary_4cfef 57 = .ok (.if_icmp .ne 6, 3) := by decide +kernel
theorem dJ2_indexOfSupplementary_4cfef_60 : decode cJ2_indexOfSupplementary_4cfef 60 = .ok (.iload 6, 2) := by decide +kernel
theorem dJ2_indexOfSupplementary_4cfef_62 : decode cJ2_indexOfSupplementary_4cfef 62 = .ok (.ireturn, 1) := by decide +kernel
theorem dJ2_indexOfSupplementary_4cfef_63 : decode cJ2_indexOfSupplementary_4cfef 63 = .ok (.iinc 6 1, 3) := by decide +kernel
theorem dJ2_indexOfSupplementary_4cfef_66 : decode cJ2_indexOfSupplementary_4cfef 66 = .ok (.goto (-38), 3) := by decide +kernel
theorem dJ2_indexOfSupplementary_4cfef_69 : decode cJ2_indexOfSupplementary_4cfef 69 = .ok (.iconst (-1), 1) := by decide +kernel
theorem dJ2_indexOfSupplementary_4cfef_70 : decode cJ2_indexOfSupplementary_4cfef 70 = .ok (.ireturn, 1) := by decide +kernel
theorem dJ2_checkBoundsBeginEnd_d044e_0 : decode cJ2_checkBoundsBeginEnd_d044e 0 = .ok (.iload_n 0, 1) := by decide +kernel
theorem dJ2_checkBoundsBeginEnd_d044e_1 : decode cJ2_checkBoundsBeginEnd_d044e 1 = .ok (.iload_n 1, 1) := by decide +kernel
theorem dJ2_checkBoundsBeginEnd_d044e_2 : decode cJ2_checkBoundsBeginEnd_d044e 2 = .ok (.aload_n 2, 1) := by decide +kernel
theorem dJ2_checkBoundsBeginEnd_d044e_3 : decode cJ2_checkBoundsBeginEnd_d044e 3 = .ok (.invokestatic 48, 3) := by decide +kernel
theorem dJ2_checkBoundsBeginEnd_d044e_6 : decode cJ2_checkBoundsBeginEnd_d044e 6 = .ok (.invokestatic 241, 3) := by decide +kernel
theorem dJ2_checkBoundsBeginEnd_d044e_9 : decode cJ2_checkBoundsBeginEnd_d044e 9 = .ok (.return_, 1) := by decide +kernel
theorem dJ3_checkFromToIndex_8c36e_0 : decode cJ3_checkFromToIndex_8c36e 0 = .ok (.iload_n 0, 1) := by decide +kernel
theorem dJ3_checkFromToIndex_8c36e_1 : decode cJ3_checkFromToIndex_8c36e 1 = .ok (.ifCond .lt 13, 3) := by decide +kernel
theorem dJ3_checkFromToIndex_8c36e_4 : decode cJ3_checkFromToIndex_8c36e 4 = .ok (.iload_n 0, 1) := by decide +kernel
theorem dJ3_checkFromToIndex_8c36e_5 : decode cJ3_checkFromToIndex_8c36e 5 = .ok (.iload_n 1, 1) := by decide +kernel
theorem dJ3_checkFromToIndex_8c36e_6 : decode cJ3_checkFromToIndex_8c36e 6 = .ok (.if_icmp .gt 8, 3) := by decide +kernel
theorem dJ3_checkFromToIndex_8c36e_9 : decode cJ3_checkFromToIndex_8c36e 9 = .ok (.iload_n 1, 1) := by decide +kernel
theorem dJ3_checkFromToIndex_8c36e_10 : decode cJ3_checkFromToIndex_8c36e 10 = .ok (.iload_n 2, 1) := by decide +kernel
theorem dJ3_checkFromToIndex_8c36e_11 : decode cJ3_checkFromToIndex_8c36e 11 = .ok (.if_icmp .le 11, 3) := by decide +kernel
theorem dJ3_checkFromToIndex_8c36e_14 : decode cJ3_checkFromToIndex_8c36e 14 = .ok (.aload_n 3, 1) := by decide +kernel
theorem dJ3_checkFromToIndex_8c36e_15 : decode cJ3_checkFromToIndex_8c36e 15 = .ok (.iload_n 0, 1) := by decide +kernel
theorem dJ3_checkFromToIndex_8c36e_16 : decode cJ3_checkFromToIndex_8c36e 16 = .ok (.iload_n 1, 1) := by decide +kernel
theorem dJ3_checkFromToIndex_8c36e_17 : decode cJ3_checkFromToIndex_8c36e 17 = .ok (.iload_n 2, 1) := by decide +kernel
theorem dJ3_checkFromToIndex_8c36e_18 : decode cJ3_checkFromToIndex_8c36e 18 = .ok (.invokestatic 99, 3) := by decide +kernel
theorem dJ3_checkFromToIndex_8c36e_21 : decode cJ3_checkFromToIndex_8c36e 21 = .ok (.athrow, 1) := by decide +kernel
theorem dJ3_checkFromToIndex_8c36e_22 : decode cJ3_checkFromToIndex_8c36e 22 = .ok (.iload_n 0, 1) := by decide +kernel
theorem dJ3_checkFromToIndex_8c36e_23 : decode cJ3_checkFromToIndex_8c36e 23 = .ok (.ireturn, 1) := by decide +kernel
theorem dJ6_bitCount_0f7a4_0 : decode cJ6_bitCount_0f7a4 0 = .ok (.iload_n 0, 1) := by decide +kernel
theorem dJ6_bitCount_0f7a4_1 : decode cJ6_bitCount_0f7a4 1 = .ok (.iload_n 0, 1) := by decide +kernel
theorem dJ6_bitCount_0f7a4_2 : decode cJ6_bitCount_0f7a4 2 = .ok (.iconst 1, 1) := by decide +kernel
theorem dJ6_bitCount_0f7a4_3 : decode cJ6_bitCount_0f7a4 3 = .ok (.iushr, 1) := by decide +kernel
theorem dJ6_bitCount_0f7a4_4 : decode cJ6_bitCount_0f7a4 4 = .ok (.ldc_w 265, 3) := by decide +kernel
theorem dJ6_bitCount_0f7a4_7 : decode cJ6_bitCount_0f7a4 7 = .ok (.iand, 1) := by decide +kernel
theorem dJ6_bitCount_0f7a4_8 : decode cJ6_bitCount_0f7a4 8 = .ok (.isub, 1) := by decide +kernel
theorem dJ6_bitCount_0f7a4_9 : decode cJ6_bitCount_0f7a4 9 = .ok (.istore_n 0, 1) := by decide +kernel
theorem dJ6_bitCount_0f7a4_10 : decode cJ6_bitCount_0f7a4 10 = .ok (.iload_n 0, 1) := by decide +kernel
theorem dJ6_bitCount_0f7a4_11 : decode cJ6_bitCount_0f7a4 11 = .ok (.ldc_w 266, 3) := by decide +kernel
theorem dJ6_bitCount_0f7a4_14 : decode cJ6_bitCount_0f7a4 14 = .ok (.iand, 1) := by decide +kernel
theorem dJ6_bitCount_0f7a4_15 : decode cJ6_bitCount_0f7a4 15 = .ok (.iload_n 0, 1) := by decide +kernel
theorem dJ6_bitCount_0f7a4_16 : decode cJ6_bitCount_0f7a4 16 = .ok (.iconst 2, 1) := by decide +kernel
theorem dJ6_bitCount_0f7a4_17 : decode cJ6_bitCount_0f7a4 17 = .ok (.iushr, 1) := by decide +kernel
theorem dJ6_bitCount_0f7a4_18 : decode cJ6_bitCount_0f7a4 18 = .ok (.ldc_w 266, 3) := by decide +kernel
theorem dJ6_bitCount_0f7a4_21 : decode cJ6_bitCount_0f7a4 21 = .ok (.iand, 1) := by decide +kernel
theorem dJ6_bitCount_0f7a4_22 : decode cJ6_bitCount_0f7a4 22 = .ok (.iadd, 1) := by decide +kernel
theorem dJ6_bitCount_0f7a4_23 : decode cJ6_bitCount_0f7a4 23 = .ok (.istore_n 0, 1) := by decide +kernel
theorem dJ6_bitCount_0f7a4_24 : decode cJ6_bitCount_0f7a4 24 = .ok (.iload_n 0, 1) := by decide +kernel
theorem dJ6_bitCount_0f7a4_25 : decode cJ6_bitCount_0f7a4 25 = .ok (.iload_n 0, 1) := by decide +kernel
theorem dJ6_bitCount_0f7a4_26 : decode cJ6_bitCount_0f7a4 26 = .ok (.iconst 4, 1) := by decide +kernel
theorem dJ6_bitCount_0f7a4_27 : decode cJ6_bitCount_0f7a4 27 = .ok (.iushr, 1) := by decide +kernel
theorem dJ6_bitCount_0f7a4_28 : decode cJ6_bitCount_0f7a4 28 = .ok (.iadd, 1) := by decide +kernel
theorem dJ6_bitCount_0f7a4_29 : decode cJ6_bitCount_0f7a4 29 = .ok (.ldc_w 267, 3) := by decide +kernel
theorem dJ6_bitCount_0f7a4_32 : decode cJ6_bitCount_0f7a4 32 = .ok (.iand, 1) := by decide +kernel
theorem dJ6_bitCount_0f7a4_33 : decode cJ6_bitCount_0f7a4 33 = .ok (.istore_n 0, 1) := by decide +kernel
theorem dJ6_bitCount_0f7a4_34 : decode cJ6_bitCount_0f7a4 34 = .ok (.iload_n 0, 1) := by decide +kernel
theorem dJ6_bitCount_0f7a4_35 : decode cJ6_bitCount_0f7a4 35 = .ok (.iload_n 0, 1) := by decide +kernel
theorem dJ6_bitCount_0f7a4_36 : decode cJ6_bitCount_0f7a4 36 = .ok (.bipush 8, 2) := by decide +kernel
theorem dJ6_bitCount_0f7a4_38 : decode cJ6_bitCount_0f7a4 38 = .ok (.iushr, 1) := by decide +kernel
theorem dJ6_bitCount_0f7a4_39 : decode cJ6_bitCount_0f7a4 39 = .ok (.iadd, 1) := by decide +kernel
theorem dJ6_bitCount_0f7a4_40 : decode cJ6_bitCount_0f7a4 40 = .ok (.istore_n 0, 1) := by decide +kernel
theorem dJ6_bitCount_0f7a4_41 : decode cJ6_bitCount_0f7a4 41 = .ok (.iload_n 0, 1) := by decide +kernel
theorem dJ6_bitCount_0f7a4_42 : decode cJ6_bitCount_0f7a4 42 = .ok (.iload_n 0, 1) := by decide +kernel
theorem dJ6_bitCount_0f7a4_43 : decode cJ6_bitCount_0f7a4 43 = .ok (.bipush 16, 2) := by decide +kernel
theorem dJ6_bitCount_0f7a4_45 : decode cJ6_bitCount_0f7a4 45 = .ok (.iushr, 1) := by decide +kernel
theorem dJ6_bitCount_0f7a4_46 : decode cJ6_bitCount_0f7a4 46 = .ok (.iadd, 1) := by decide +kernel
theorem dJ6_bitCount_0f7a4_47 : decode cJ6_bitCount_0f7a4 47 = .ok (.istore_n 0, 1) := by decide +kernel
theorem dJ6_bitCount_0f7a4_48 : decode cJ6_bitCount_0f7a4 48 = .ok (.iload_n 0, 1) := by decide +kernel
theorem dJ6_bitCount_0f7a4_49 : decode cJ6_bitCount_0f7a4 49 = .ok (.bipush 63, 2) := by decide +kernel
theorem dJ6_bitCount_0f7a4_51 : decode cJ6_bitCount_0f7a4 51 = .ok (.iand, 1) := by decide +kernel
theorem dJ6_bitCount_0f7a4_52 : decode cJ6_bitCount_0f7a4 52 = .ok (.ireturn, 1) := by decide +kernel
theorem dJ9_max_7cf53_0 : decode cJ9_max_7cf53 0 = .ok (.iload_n 0, 1) := by decide +kernel
theorem dJ9_max_7cf53_1 : decode cJ9_max_7cf53 1 = .ok (.iload_n 1, 1) := by decide +kernel
theorem dJ9_max_7cf53_2 : decode cJ9_max_7cf53 2 = .ok (.if_icmp .lt 7, 3) := by decide +kernel
theorem dJ9_max_7cf53_5 : decode cJ9_max_7cf53 5 = .ok (.iload_n 0, 1) := by decide +kernel
theorem dJ9_max_7cf53_6 : decode cJ9_max_7cf53 6 = .ok (.goto 4, 3) := by decide +kernel
theorem dJ9_max_7cf53_9 : decode cJ9_max_7cf53 9 = .ok (.iload_n 1, 1) := by decide +kernel
theorem dJ9_max_7cf53_10 : decode cJ9_max_7cf53 10 = .ok (.ireturn, 1) := by decide +kernel
theorem dJ9_min_7cf53_0 : decode cJ9_min_7cf53 0 = .ok (.iload_n 0, 1) := by decide +kernel
theorem dJ9_min_7cf53_1 : decode cJ9_min_7cf53 1 = .ok (.iload_n 1, 1) := by decide +kernel
theorem dJ9_min_7cf53_2 : decode cJ9_min_7cf53 2 = .ok (.if_icmp .gt 7, 3) := by decide +kernel
theorem dJ9_min_7cf53_5 : decode cJ9_min_7cf53 5 = .ok (.iload_n 0, 1) := by decide +kernel
theorem dJ9_min_7cf53_6 : decode cJ9_min_7cf53 6 = .ok (.goto 4, 3) := by decide +kernel
theorem dJ9_min_7cf53_9 : decode cJ9_min_7cf53 9 = .ok (.iload_n 1, 1) := by decide +kernel
theorem dJ9_min_7cf53_10 : decode cJ9_min_7cf53 10 = .ok (.ireturn, 1) := by decide +kernel
theorem dX0_init_0 : decode cX0_init 0 = .ok (.aload_n 0, 1) := by decide +kernel
theorem dX0_init_1 : decode cX0_init 1 = .ok (.invokespecial 3, 3) := by decide +kernel
theorem dX0_init_4 : decode cX0_init 4 = .ok (.aload_n 0, 1) := by decide +kernel
theorem dX0_init_5 : decode cX0_init 5 = .ok (.bipush 16, 2) := by decide +kernel
theorem dX0_init_7 : decode cX0_init 7 = .ok (.newarray .int, 2) := by decide +kernel
theorem dX0_init_9 : decode cX0_init 9 = .ok (.putfield 9, 3) := by decide +kernel
theorem dX0_init_12 : decode cX0_init 12 = .ok (.aload_n 0, 1) := by decide +kernel
theorem dX0_init_13 : decode cX0_init 13 = .ok (.iconst 0, 1) := by decide +kernel
theorem dX0_init_14 : decode cX0_init 14 = .ok (.iload_n 1, 1) := by decide +kernel
theorem dX0_init_15 : decode cX0_init 15 = .ok (.invokestatic 15, 3) := by decide +kernel
theorem dX0_init_18 : decode cX0_init 18 = .ok (.newarray .int, 2) := by decide +kernel
theorem dX0_init_20 : decode cX0_init 20 = .ok (.putfield 21, 3) := by decide +kernel
theorem dX0_init_23 : decode cX0_init 23 = .ok (.return_, 1) := by decide +kernel
theorem dX0_empty_0 : decode cX0_empty 0 = .ok (.aload_n 0, 1) := by decide +kernel
theorem dX0_empty_1 : decode cX0_empty 1 = .ok (.iconst 0, 1) := by decide +kernel
theorem dX0_empty_2 : decode cX0_empty 2 = .ok (.putfield 24, 3) := by decide +kernel
theorem dX0_empty_5 : decode cX0_empty 5 = .ok (.iconst 0, 1) := by decide +kernel
theorem dX0_empty_6 : decode cX0_empty 6 = .ok (.istore_n 1, 1) := by decide +kernel
theorem dX0_empty_7 : decode cX0_empty 7 = .ok (.iload_n 1, 1) := by decide +kernel
theorem dX0_empty_8 : decode cX0_empty 8 = .ok (.bipush 16, 2) := by decide +kernel
theorem dX0_empty_10 : decode cX0_empty 10 = .ok (.if_icmp .ge 16, 3) := by decide +kernel
theorem dX0_empty_13 : decode cX0_empty 13 = .ok (.aload_n 0, 1) := by decide +kernel
theorem dX0_empty_14 : decode cX0_empty 14 = .ok (.getfield 9, 3) := by decide +kernel
theorem dX0_empty_17 : decode cX0_empty 17 = .ok (.iload_n 1, 1) := by decide +kernel
theorem dX0_empty_18 : decode cX0_empty 18 = .ok (.iconst 0, 1) := by decide +kernel
theorem dX0_empty_19 : decode cX0_empty 19 = .ok (.iastore, 1) := by decide +kernel
theorem dX0_empty_20 : decode cX0_empty 20 = .ok (.iinc 1 1, 3) := by decide +kernel
theorem dX0_empty_23 : decode cX0_empty 23 = .ok (.goto (-16), 3) := by decide +kernel
theorem dX0_empty_26 : decode cX0_empty 26 = .ok (.return_, 1) := by decide +kernel
theorem dX0_add_0 : decode cX0_add 0 = .ok (.aload_n 0, 1) := by decide +kernel
theorem dX0_add_1 : decode cX0_add 1 = .ok (.getfield 24, 3) := by decide +kernel
theorem dX0_add_4 : decode cX0_add 4 = .ok (.ifCond .lt 15, 3) := by decide +kernel
theorem dX0_add_7 : decode cX0_add 7 = .ok (.aload_n 0, 1) := by decide +kernel
theorem dX0_add_8 : decode cX0_add 8 = .ok (.getfield 24, 3) := by decide +kernel
theorem dX0_add_11 : decode cX0_add 11 = .ok (.aload_n 0, 1) := by decide +kernel
theorem dX0_add_12 : decode cX0_add 12 = .ok (.getfield 21, 3) := by decide +kernel
theorem dX0_add_15 : decode cX0_add 15 = .ok (.arraylength, 1) := by decide +kernel
theorem dX0_add_16 : decode cX0_add 16 = .ok (.if_icmp .lt 4, 3) := by decide +kernel
theorem dX0_add_19 : decode cX0_add 19 = .ok (.return_, 1) := by decide +kernel
theorem dX0_add_20 : decode cX0_add 20 = .ok (.aload_n 0, 1) := by decide +kernel
theorem dX0_add_21 : decode cX0_add 21 = .ok (.getfield 21, 3) := by decide +kernel
theorem dX0_add_24 : decode cX0_add 24 = .ok (.aload_n 0, 1) := by decide +kernel
theorem dX0_add_25 : decode cX0_add 25 = .ok (.getfield 24, 3) := by decide +kernel
theorem dX0_add_28 : decode cX0_add 28 = .ok (.iload_n 1, 1) := by decide +kernel
theorem dX0_add_29 : decode cX0_add 29 = .ok (.iastore, 1) := by decide +kernel
theorem dX0_add_30 : decode cX0_add 30 = .ok (.aload_n 0, 1) := by decide +kernel
theorem dX0_add_31 : decode cX0_add 31 = .ok (.dup, 1) := by decide +kernel
theorem dX0_add_32 : decode cX0_add 32 = .ok (.getfield 24, 3) := by decide +kernel
theorem dX0_add_35 : decode cX0_add 35 = .ok (.iconst 1, 1) := by decide +kernel
theorem dX0_add_36 : decode cX0_add 36 = .ok (.iadd, 1) := by decide +kernel
theorem dX0_add_37 : decode cX0_add 37 = .ok (.putfield 24, 3) := by decide +kernel
theorem dX0_add_40 : decode cX0_add 40 = .ok (.iconst 0, 1) := by decide +kernel
theorem dX0_add_41 : decode cX0_add 41 = .ok (.istore_n 2, 1) := by decide +kernel
theorem dX0_add_42 : decode cX0_add 42 = .ok (.iload_n 2, 1) := by decide +kernel
theorem dX0_add_43 : decode cX0_add 43 = .ok (.bipush 16, 2) := by decide +kernel
theorem dX0_add_45 : decode cX0_add 45 = .ok (.if_icmp .ge 23, 3) := by decide +kernel
theorem dX0_add_48 : decode cX0_add 48 = .ok (.aload_n 0, 1) := by decide +kernel
theorem dX0_add_49 : decode cX0_add 49 = .ok (.getfield 9, 3) := by decide +kernel
theorem dX0_add_52 : decode cX0_add 52 = .ok (.iload_n 2, 1) := by decide +kernel
theorem dX0_add_53 : decode cX0_add 53 = .ok (.dup2, 1) := by decide +kernel
theorem dX0_add_54 : decode cX0_add 54 = .ok (.iaload, 1) := by decide +kernel
theorem dX0_add_55 : decode cX0_add 55 = .ok (.iload_n 1, 1) := by decide +kernel
theorem dX0_add_56 : decode cX0_add 56 = .ok (.iload_n 2, 1) := by decide +kernel
theorem dX0_add_57 : decode cX0_add 57 = .ok (.ishr, 1) := by decide +kernel
theorem dX0_add_58 : decode cX0_add 58 = .ok (.iconst 1, 1) := by decide +kernel
theorem dX0_add_59 : decode cX0_add 59 = .ok (.iand, 1) := by decide +kernel
theorem dX0_add_60 : decode cX0_add 60 = .ok (.iadd, 1) := by decide +kernel
theorem dX0_add_61 : decode cX0_add 61 = .ok (.iastore, 1) := by decide +kernel
theorem dX0_add_62 : decode cX0_add 62 = .ok (.iinc 2 1, 3) := by decide +kernel
theorem dX0_add_65 : decode cX0_add 65 = .ok (.goto (-23), 3) := by decide +kernel
theorem dX0_add_68 : decode cX0_add 68 = .ok (.return_, 1) := by decide +kernel
theorem dX0_copyFrom_0 : decode cX0_copyFrom 0 = .ok (.aload_n 0, 1) := by decide +kernel
theorem dX0_copyFrom_1 : decode cX0_copyFrom 1 = .ok (.invokevirtual 28, 3) := by decide +kernel
theorem dX0_copyFrom_4 : decode cX0_copyFrom 4 = .ok (.iconst 0, 1) := by decide +kernel
theorem dX0_copyFrom_5 : decode cX0_copyFrom 5 = .ok (.istore_n 2, 1) := by decide +kernel
theorem dX0_copyFrom_6 : decode cX0_copyFrom 6 = .ok (.iload_n 2, 1) := by decide +kernel
theorem dX0_copyFrom_7 : decode cX0_copyFrom 7 = .ok (.aload_n 1, 1) := by decide +kernel
theorem dX0_copyFrom_8 : decode cX0_copyFrom 8 = .ok (.getfield 24, 3) := by decide +kernel
theorem dX0_copyFrom_11 : decode cX0_copyFrom 11 = .ok (.if_icmp .ge 18, 3) := by decide +kernel
theorem dX0_copyFrom_14 : decode cX0_copyFrom 14 = .ok (.aload_n 0, 1) := by decide +kernel
theorem dX0_copyFrom_15 : decode cX0_copyFrom 15 = .ok (.aload_n 1, 1) := by decide +kernel
theorem dX0_copyFrom_16 : decode cX0_copyFrom 16 = .ok (.iload_n 2, 1) := by decide +kernel
theorem dX0_copyFrom_17 : decode cX0_copyFrom 17 = .ok (.invokevirtual 31, 3) := by decide +kernel
theorem dX0_copyFrom_20 : decode cX0_copyFrom 20 = .ok (.invokevirtual 35, 3) := by decide +kernel
theorem dX0_copyFrom_23 : decode cX0_copyFrom 23 = .ok (.iinc 2 1, 3) := by decide +kernel
theorem dX0_copyFrom_26 : decode cX0_copyFrom 26 = .ok (.goto (-20), 3) := by decide +kernel
theorem dX0_copyFrom_29 : decode cX0_copyFrom 29 = .ok (.return_, 1) := by decide +kernel
theorem dX0_at_0 : decode cX0_at 0 = .ok (.iload_n 1, 1) := by decide +kernel
theorem dX0_at_1 : decode cX0_at 1 = .ok (.ifCond .lt 20, 3) := by decide +kernel
theorem dX0_at_4 : decode cX0_at 4 = .ok (.iload_n 1, 1) := by decide +kernel
theorem dX0_at_5 : decode cX0_at 5 = .ok (.aload_n 0, 1) := by decide +kernel
theorem dX0_at_6 : decode cX0_at 6 = .ok (.getfield 24, 3) := by decide +kernel
theorem dX0_at_9 : decode cX0_at 9 = .ok (.if_icmp .ge 12, 3) := by decide +kernel
theorem dX0_at_12 : decode cX0_at 12 = .ok (.iload_n 1, 1) := by decide +kernel
theorem dX0_at_13 : decode cX0_at 13 = .ok (.aload_n 0, 1) := by decide +kernel
theorem dX0_at_14 : decode cX0_at 14 = .ok (.getfield 21, 3) := by decide +kernel
theorem dX0_at_17 : decode cX0_at 17 = .ok (.arraylength, 1) := by decide +kernel
theorem dX0_at_18 : decode cX0_at 18 = .ok (.if_icmp .lt 5, 3) := by decide +kernel
theorem dX0_at_21 : decode cX0_at 21 = .ok (.iconst (-1), 1) := by decide +kernel
theorem dX0_at_22 : decode cX0_at 22 = .ok (.ireturn, 1) := by decide +kernel
theorem dX0_at_23 : decode cX0_at 23 = .ok (.aload_n 0, 1) := by decide +kernel
theorem dX0_at_24 : decode cX0_at 24 = .ok (.getfield 21, 3) := by decide +kernel
theorem dX0_at_27 : decode cX0_at 27 = .ok (.iload_n 1, 1) := by decide +kernel
theorem dX0_at_28 : decode cX0_at 28 = .ok (.iaload, 1) := by decide +kernel
theorem dX0_at_29 : decode cX0_at 29 = .ok (.ireturn, 1) := by decide +kernel
theorem dX0_blackIn_0 : decode cX0_blackIn 0 = .ok (.iload_n 1, 1) := by decide +kernel
theorem dX0_blackIn_1 : decode cX0_blackIn 1 = .ok (.ifCond .lt 18, 3) := by decide +kernel
theorem dX0_blackIn_4 : decode cX0_blackIn 4 = .ok (.iload_n 1, 1) := by decide +kernel
theorem dX0_blackIn_5 : decode cX0_blackIn 5 = .ok (.bipush 16, 2) := by decide +kernel
theorem dX0_blackIn_7 : decode cX0_blackIn 7 = .ok (.if_icmp .ge 12, 3) := by decide +kernel
theorem dX0_blackIn_10 : decode cX0_blackIn 10 = .ok (.aload_n 0, 1) := by decide +kernel
theorem dX0_blackIn_11 : decode cX0_blackIn 11 = .ok (.getfield 9, 3) := by decide +kernel
theorem dX0_blackIn_14 : decode cX0_blackIn 14 = .ok (.iload_n 1, 1) := by decide +kernel
theorem dX0_blackIn_15 : decode cX0_blackIn 15 = .ok (.iaload, 1) := by decide +kernel
theorem dX0_blackIn_16 : decode cX0_blackIn 16 = .ok (.goto 4, 3) := by decide +kernel
theorem dX0_blackIn_19 : decode cX0_blackIn 19 = .ok (.iconst 0, 1) := by decide +kernel
theorem dX0_blackIn_20 : decode cX0_blackIn 20 = .ok (.ireturn, 1) := by decide +kernel
theorem dX0_sure_0 : decode cX0_sure 0 = .ok (.aload_n 0, 1) := by decide +kernel
theorem dX0_sure_1 : decode cX0_sure 1 = .ok (.iload_n 1, 1) := by decide +kernel
theorem dX0_sure_2 : decode cX0_sure 2 = .ok (.invokevirtual 39, 3) := by decide +kernel
theorem dX0_sure_5 : decode cX0_sure 5 = .ok (.istore_n 2, 1) := by decide +kernel
theorem dX0_sure_6 : decode cX0_sure 6 = .ok (.aload_n 0, 1) := by decide +kernel
theorem dX0_sure_7 : decode cX0_sure 7 = .ok (.getfield 24, 3) := by decide +kernel
theorem dX0_sure_10 : decode cX0_sure 10 = .ok (.ifCond .eq 15, 3) := by decide +kernel
theorem dX0_sure_13 : decode cX0_sure 13 = .ok (.iload_n 2, 1) := by decide +kernel
theorem dX0_sure_14 : decode cX0_sure 14 = .ok (.ifCond .eq 13, 3) := by decide +kernel
theorem dX0_sure_17 : decode cX0_sure 17 = .ok (.iload_n 2, 1) := by decide +kernel
theorem dX0_sure_18 : decode cX0_sure 18 = .ok (.aload_n 0, 1) := by decide +kernel
theorem dX0_sure_19 : decode cX0_sure 19 = .ok (.getfield 24, 3) := by decide +kernel
theorem dX0_sure_22 : decode cX0_sure 22 = .ok (.if_icmp .eq 5, 3) := by decide +kernel
theorem dX0_sure_25 : decode cX0_sure 25 = .ok (.iconst (-1), 1) := by decide +kernel
theorem dX0_sure_26 : decode cX0_sure 26 = .ok (.ireturn, 1) := by decide +kernel
theorem dX0_sure_27 : decode cX0_sure 27 = .ok (.iload_n 2, 1) := by decide +kernel
theorem dX0_sure_28 : decode cX0_sure 28 = .ok (.ifCond .ne 7, 3) := by decide +kernel
theorem dX0_sure_31 : decode cX0_sure 31 = .ok (.iconst 0, 1) := by decide +kernel
theorem dX0_sure_32 : decode cX0_sure 32 = .ok (.goto 4, 3) := by decide +kernel
theorem dX0_sure_35 : decode cX0_sure 35 = .ok (.iconst 1, 1) := by decide +kernel
theorem dX0_sure_36 : decode cX0_sure 36 = .ok (.ireturn, 1) := by decide +kernel
theorem dX0_holds_0 : decode cX0_holds 0 = .ok (.iconst 0, 1) := by decide +kernel
theorem dX0_holds_1 : decode cX0_holds 1 = .ok (.istore_n 2, 1) := by decide +kernel
theorem dX0_holds_2 : decode cX0_holds 2 = .ok (.iload_n 2, 1) := by decide +kernel
theorem dX0_holds_3 : decode cX0_holds 3 = .ok (.aload_n 0, 1) := by decide +kernel
theorem dX0_holds_4 : decode cX0_holds 4 = .ok (.getfield 24, 3) := by decide +kernel
theorem dX0_holds_7 : decode cX0_holds 7 = .ok (.if_icmp .ge 20, 3) := by decide +kernel
theorem dX0_holds_10 : decode cX0_holds 10 = .ok (.aload_n 0, 1) := by decide +kernel
theorem dX0_holds_11 : decode cX0_holds 11 = .ok (.iload_n 2, 1) := by decide +kernel
theorem dX0_holds_12 : decode cX0_holds 12 = .ok (.invokevirtual 31, 3) := by decide +kernel
theorem dX0_holds_15 : decode cX0_holds 15 = .ok (.iload_n 1, 1) := by decide +kernel
theorem dX0_holds_16 : decode cX0_holds 16 = .ok (.if_icmp .ne 5, 3) := by decide +kernel
theorem dX0_holds_19 : decode cX0_holds 19 = .ok (.iconst 1, 1) := by decide +kernel
theorem dX0_holds_20 : decode cX0_holds 20 = .ok (.ireturn, 1) := by decide +kernel
theorem dX0_holds_21 : decode cX0_holds 21 = .ok (.iinc 2 1, 3) := by decide +kernel
theorem dX0_holds_24 : decode cX0_holds 24 = .ok (.goto (-22), 3) := by decide +kernel
theorem dX0_holds_27 : decode cX0_holds 27 = .ok (.iconst 0, 1) := by decide +kernel
theorem dX0_holds_28 : decode cX0_holds 28 = .ok (.ireturn, 1) := by decide +kernel
theorem dX0_bestLook_0 : decode cX0_bestLook 0 = .ok (.iconst (-1), 1) := by decide +kernel
theorem dX0_bestLook_1 : decode cX0_bestLook 1 = .ok (.istore_n 3, 1) := by decide +kernel
theorem dX0_bestLook_2 : decode cX0_bestLook 2 = .ok (.aload_n 0, 1) := by decide +kernel
theorem dX0_bestLook_3 : decode cX0_bestLook 3 = .ok (.getfield 24, 3) := by decide +kernel
theorem dX0_bestLook_6 : decode cX0_bestLook 6 = .ok (.istore 4, 2) := by decide +kernel
theorem dX0_bestLook_8 : decode cX0_bestLook 8 = .ok (.aload_n 0, 1) := by decide +kernel
theorem dX0_bestLook_9 : decode cX0_bestLook 9 = .ok (.getfield 24, 3) := by decide +kernel
theorem dX0_bestLook_12 : decode cX0_bestLook 12 = .ok (.ifCond .ne 5, 3) := by decide +kernel
theorem dX0_bestLook_15 : decode cX0_bestLook 15 = .ok (.iconst (-1), 1) := by decide +kernel
theorem dX0_bestLook_16 : decode cX0_bestLook 16 = .ok (.ireturn, 1) := by decide +kernel
theorem dX0_bestLook_17 : decode cX0_bestLook 17 = .ok (.iconst 0, 1) := by decide +kernel
theorem dX0_bestLook_18 : decode cX0_bestLook 18 = .ok (.istore 5, 2) := by decide +kernel
theorem dX0_bestLook_20 : decode cX0_bestLook 20 = .ok (.iload 5, 2) := by decide +kernel
theorem dX0_bestLook_22 : decode cX0_bestLook 22 = .ok (.iload_n 1, 1) := by decide +kernel
theorem dX0_bestLook_23 : decode cX0_bestLook 23 = .ok (.if_icmp .ge 62, 3) := by decide +kernel
theorem dX0_bestLook_26 : decode cX0_bestLook 26 = .ok (.iload_n 2, 1) := by decide +kernel
theorem dX0_bestLook_27 : decode cX0_bestLook 27 = .ok (.iload 5, 2) := by decide +kernel
theorem dX0_bestLook_29 : decode cX0_bestLook 29 = .ok (.ishr, 1) := by decide +kernel
theorem dX0_bestLook_30 : decode cX0_bestLook 30 = .ok (.iconst 1, 1) := by decide +kernel
theorem dX0_bestLook_31 : decode cX0_bestLook 31 = .ok (.iand, 1) := by decide +kernel
theorem dX0_bestLook_32 : decode cX0_bestLook 32 = .ok (.ifCond .eq 6, 3) := by decide +kernel
theorem dX0_bestLook_35 : decode cX0_bestLook 35 = .ok (.goto 44, 3) := by decide +kernel
theorem dX0_bestLook_38 : decode cX0_bestLook 38 = .ok (.aload_n 0, 1) := by decide +kernel
theorem dX0_bestLook_39 : decode cX0_bestLook 39 = .ok (.iload 5, 2) := by decide +kernel
theorem dX0_bestLook_41 : decode cX0_bestLook 41 = .ok (.invokevirtual 39, 3) := by decide +kernel
theorem dX0_bestLook_44 : decode cX0_bestLook 44 = .ok (.aload_n 0, 1) := by decide +kernel
theorem dX0_bestLook_45 : decode cX0_bestLook 45 = .ok (.getfield 24, 3) := by decide +kernel
theorem dX0_bestLook_48 : decode cX0_bestLook 48 = .ok (.aload_n 0, 1) := by decide +kernel
theorem dX0_bestLook_49 : decode cX0_bestLook 49 = .ok (.iload 5, 2) := by decide +kernel
theorem dX0_bestLook_51 : decode cX0_bestLook 51 = .ok (.invokevirtual 39, 3) := by decide +kernel
theorem dX0_bestLook_54 : decode cX0_bestLook 54 = .ok (.isub, 1) := by decide +kernel
theorem dX0_bestLook_55 : decode cX0_bestLook 55 = .ok (.invokestatic 15, 3) := by decide +kernel
theorem dX0_bestLook_58 : decode cX0_bestLook 58 = .ok (.istore 6, 2) := by decide +kernel
theorem dX0_bestLook_60 : decode cX0_bestLook 60 = .ok (.iload_n 3, 1) := by decide +kernel
theorem dX0_bestLook_61 : decode cX0_bestLook 61 = .ok (.iconst (-1), 1) := by decide +kernel
theorem dX0_bestLook_62 : decode cX0_bestLook 62 = .ok (.if_icmp .eq 10, 3) := by decide +kernel
theorem dX0_bestLook_65 : decode cX0_bestLook 65 = .ok (.iload 6, 2) := by decide +kernel
theorem dX0_bestLook_67 : decode cX0_bestLook 67 = .ok (.iload 4, 2) := by decide +kernel
theorem dX0_bestLook_69 : decode cX0_bestLook 69 = .ok (.if_icmp .ge 10, 3) := by decide +kernel
theorem dX0_bestLook_72 : decode cX0_bestLook 72 = .ok (.iload 5, 2) := by decide +kernel
theorem dX0_bestLook_74 : decode cX0_bestLook 74 = .ok (.istore_n 3, 1) := by decide +kernel
theorem dX0_bestLook_75 : decode cX0_bestLook 75 = .ok (.iload 6, 2) := by decide +kernel
theorem dX0_bestLook_77 : decode cX0_bestLook 77 = .ok (.istore 4, 2) := by decide +kernel
theorem dX0_bestLook_79 : decode cX0_bestLook 79 = .ok (.iinc 5 1, 3) := by decide +kernel
theorem dX0_bestLook_82 : decode cX0_bestLook 82 = .ok (.goto (-62), 3) := by decide +kernel
theorem dX0_bestLook_85 : decode cX0_bestLook 85 = .ok (.iload_n 3, 1) := by decide +kernel
theorem dX0_bestLook_86 : decode cX0_bestLook 86 = .ok (.ireturn, 1) := by decide +kernel
theorem dX0_keepLike_0 : decode cX0_keepLike 0 = .ok (.aload_n 0, 1) := by decide +kernel
theorem dX0_keepLike_1 : decode cX0_keepLike 1 = .ok (.getfield 24, 3) := by decide +kernel
theorem dX0_keepLike_4 : decode cX0_keepLike 4 = .ok (.istore_n 3, 1) := by decide +kernel
theorem dX0_keepLike_5 : decode cX0_keepLike 5 = .ok (.aload_n 0, 1) := by decide +kernel
theorem dX0_keepLike_6 : decode cX0_keepLike 6 = .ok (.invokevirtual 28, 3) := by decide +kernel
theorem dX0_keepLike_9 : decode cX0_keepLike 9 = .ok (.iconst 0, 1) := by decide +kernel
theorem dX0_keepLike_10 : decode cX0_keepLike 10 = .ok (.istore 4, 2) := by decide +kernel
theorem dX0_keepLike_12 : decode cX0_keepLike 12 = .ok (.iload 4, 2) := by decide +kernel
theorem dX0_keepLike_14 : decode cX0_keepLike 14 = .ok (.iload_n 3, 1) := by decide +kernel
theorem dX0_keepLike_15 : decode cX0_keepLike 15 = .ok (.if_icmp .ge 45, 3) := by decide +kernel
theorem dX0_keepLike_18 : decode cX0_keepLike 18 = .ok (.iload 4, 2) := by decide +kernel
theorem dX0_keepLike_20 : decode cX0_keepLike 20 = .ok (.aload_n 0, 1) := by decide +kernel
theorem dX0_keepLike_21 : decode cX0_keepLike 21 = .ok (.getfield 21, 3) := by decide +kernel
theorem dX0_keepLike_24 : decode cX0_keepLike 24 = .ok (.arraylength, 1) := by decide +kernel
theorem dX0_keepLike_25 : decode cX0_keepLike 25 = .ok (.if_icmp .ge 35, 3) := by decide +kernel
theorem dX0_keepLike_28 : decode cX0_keepLike 28 = .ok (.aload_n 0, 1) := by decide +kernel
theorem dX0_keepLike_29 : decode cX0_keepLike 29 = .ok (.getfield 21, 3) := by decide +kernel
theorem dX0_keepLike_32 : decode cX0_keepLike 32 = .ok (.iload 4, 2) := by decide +kernel
theorem dX0_keepLike_34 : decode cX0_keepLike 34 = .ok (.iaload, 1) := by decide +kernel
theorem dX0_keepLike_35 : decode cX0_keepLike 35 = .ok (.istore 5, 2) := by decide +kernel
theorem dX0_keepLike_37 : decode cX0_keepLike 37 = .ok (.iload 5, 2) := by decide +kernel
theorem dX0_keepLike_39 : decode cX0_keepLike 39 = .ok (.iload_n 1, 1) := by decide +kernel
theorem dX0_keepLike_40 : decode cX0_keepLike 40 = .ok (.ixor, 1) := by decide +kernel
theorem dX0_keepLike_41 : decode cX0_keepLike 41 = .ok (.iload_n 2, 1) := by decide +kernel
theorem dX0_keepLike_42 : decode cX0_keepLike 42 = .ok (.ishr, 1) := by decide +kernel
theorem dX0_keepLike_43 : decode cX0_keepLike 43 = .ok (.iconst 1, 1) := by decide +kernel
theorem dX0_keepLike_44 : decode cX0_keepLike 44 = .ok (.iand, 1) := by decide +kernel
theorem dX0_keepLike_45 : decode cX0_keepLike 45 = .ok (.ifCond .ne 9, 3) := by decide +kernel
theorem dX0_keepLike_48 : decode cX0_keepLike 48 = .ok (.aload_n 0, 1) := by decide +kernel
theorem dX0_keepLike_49 : decode cX0_keepLike 49 = .ok (.iload 5, 2) := by decide +kernel
theorem dX0_keepLike_51 : decode cX0_keepLike 51 = .ok (.invokevirtual 35, 3) := by decide +kernel
theorem dX0_keepLike_54 : decode cX0_keepLike 54 = .ok (.iinc 4 1, 3) := by decide +kernel
theorem dX0_keepLike_57 : decode cX0_keepLike 57 = .ok (.goto (-45), 3) := by decide +kernel
theorem dX0_keepLike_60 : decode cX0_keepLike 60 = .ok (.return_, 1) := by decide +kernel
theorem dX0_tells_0 : decode cX0_tells 0 = .ok (.iconst 0, 1) := by decide +kernel
theorem dX0_tells_1 : decode cX0_tells 1 = .ok (.istore_n 3, 1) := by decide +kernel
theorem dX0_tells_2 : decode cX0_tells 2 = .ok (.iload_n 3, 1) := by decide +kernel
theorem dX0_tells_3 : decode cX0_tells 3 = .ok (.aload_n 0, 1) := by decide +kernel
theorem dX0_tells_4 : decode cX0_tells 4 = .ok (.getfield 24, 3) := by decide +kernel
theorem dX0_tells_7 : decode cX0_tells 7 = .ok (.if_icmp .ge 33, 3) := by decide +kernel
theorem dX0_tells_10 : decode cX0_tells 10 = .ok (.aload_n 0, 1) := by decide +kernel
theorem dX0_tells_11 : decode cX0_tells 11 = .ok (.iload_n 3, 1) := by decide +kernel
theorem dX0_tells_12 : decode cX0_tells 12 = .ok (.invokevirtual 31, 3) := by decide +kernel
theorem dX0_tells_15 : decode cX0_tells 15 = .ok (.istore 4, 2) := by decide +kernel
theorem dX0_tells_17 : decode cX0_tells 17 = .ok (.iload 4, 2) := by decide +kernel
theorem dX0_tells_19 : decode cX0_tells 19 = .ok (.iload_n 1, 1) := by decide +kernel
theorem dX0_tells_20 : decode cX0_tells 20 = .ok (.if_icmp .eq 14, 3) := by decide +kernel
theorem dX0_tells_23 : decode cX0_tells 23 = .ok (.iload 4, 2) := by decide +kernel
theorem dX0_tells_25 : decode cX0_tells 25 = .ok (.iload_n 1, 1) := by decide +kernel
theorem dX0_tells_26 : decode cX0_tells 26 = .ok (.ixor, 1) := by decide +kernel
theorem dX0_tells_27 : decode cX0_tells 27 = .ok (.iload_n 2, 1) := by decide +kernel
theorem dX0_tells_28 : decode cX0_tells 28 = .ok (.iand, 1) := by decide +kernel
theorem dX0_tells_29 : decode cX0_tells 29 = .ok (.ifCond .ne 5, 3) := by decide +kernel
theorem dX0_tells_32 : decode cX0_tells 32 = .ok (.iconst 0, 1) := by decide +kernel
theorem dX0_tells_33 : decode cX0_tells 33 = .ok (.ireturn, 1) := by decide +kernel
theorem dX0_tells_34 : decode cX0_tells 34 = .ok (.iinc 3 1, 3) := by decide +kernel
theorem dX0_tells_37 : decode cX0_tells 37 = .ok (.goto (-35), 3) := by decide +kernel
theorem dX0_tells_40 : decode cX0_tells 40 = .ok (.iconst 1, 1) := by decide +kernel
theorem dX0_tells_41 : decode cX0_tells 41 = .ok (.ireturn, 1) := by decide +kernel
theorem dX1_isKind_0 : decode cX1_isKind 0 = .ok (.iload_n 0, 1) := by decide +kernel
theorem dX1_isKind_1 : decode cX1_isKind 1 = .ok (.ifCond .lt 12, 3) := by decide +kernel
theorem dX1_isKind_4 : decode cX1_isKind 4 = .ok (.iload_n 0, 1) := by decide +kernel
theorem dX1_isKind_5 : decode cX1_isKind 5 = .ok (.iconst 5, 1) := by decide +kernel
theorem dX1_isKind_6 : decode cX1_isKind 6 = .ok (.if_icmp .ge 7, 3) := by decide +kernel
theorem dX1_isKind_9 : decode cX1_isKind 9 = .ok (.iconst 1, 1) := by decide +kernel
theorem dX1_isKind_10 : decode cX1_isKind 10 = .ok (.goto 4, 3) := by decide +kernel
theorem dX1_isKind_13 : decode cX1_isKind 13 = .ok (.iconst 0, 1) := by decide +kernel
theorem dX1_isKind_14 : decode cX1_isKind 14 = .ok (.ireturn, 1) := by decide +kernel
theorem dX1_isSuch_0 : decode cX1_isSuch 0 = .ok (.iload_n 1, 1) := by decide +kernel
theorem dX1_isSuch_1 : decode cX1_isSuch 1 = .ok (.ifCond .eq 18, 3) := by decide +kernel
theorem dX1_isSuch_4 : decode cX1_isSuch 4 = .ok (.iload_n 1, 1) := by decide +kernel
theorem dX1_isSuch_5 : decode cX1_isSuch 5 = .ok (.iload_n 0, 1) := by decide +kernel
theorem dX1_isSuch_6 : decode cX1_isSuch 6 = .ok (.if_icmp .eq 13, 3) := by decide +kernel
theorem dX1_isSuch_9 : decode cX1_isSuch 9 = .ok (.iload_n 1, 1) := by decide +kernel
theorem dX1_isSuch_10 : decode cX1_isSuch 10 = .ok (.iconst 1, 1) := by decide +kernel
theorem dX1_isSuch_11 : decode cX1_isSuch 11 = .ok (.if_icmp .ne 12, 3) := by decide +kernel
theorem dX1_isSuch_14 : decode cX1_isSuch 14 = .ok (.iload_n 0, 1) := by decide +kernel
theorem dX1_isSuch_15 : decode cX1_isSuch 15 = .ok (.iconst 4, 1) := by decide +kernel
theorem dX1_isSuch_16 : decode cX1_isSuch 16 = .ok (.if_icmp .ne 7, 3) := by decide +kernel
theorem dX1_isSuch_19 : decode cX1_isSuch 19 = .ok (.iconst 1, 1) := by decide +kernel
theorem dX1_isSuch_20 : decode cX1_isSuch 20 = .ok (.goto 4, 3) := by decide +kernel
theorem dX1_isSuch_23 : decode cX1_isSuch 23 = .ok (.iconst 0, 1) := by decide +kernel
theorem dX1_isSuch_24 : decode cX1_isSuch 24 = .ok (.ireturn, 1) := by decide +kernel
theorem dX1_hasSecond_0 : decode cX1_hasSecond 0 = .ok (.iload_n 0, 1) := by decide +kernel
theorem dX1_hasSecond_1 : decode cX1_hasSecond 1 = .ok (.iconst 1, 1) := by decide +kernel
theorem dX1_hasSecond_2 : decode cX1_hasSecond 2 = .ok (.invokestatic 9, 3) := by decide +kernel
theorem dX1_hasSecond_5 : decode cX1_hasSecond 5 = .ok (.ireturn, 1) := by decide +kernel
theorem dX1_mostSecond_0 : decode cX1_mostSecond 0 = .ok (.iload_n 1, 1) := by decide +kernel
theorem dX1_mostSecond_1 : decode cX1_mostSecond 1 = .ok (.ifCond .ne 7, 3) := by decide +kernel
theorem dX1_mostSecond_4 : decode cX1_mostSecond 4 = .ok (.iconst 0, 1) := by decide +kernel
theorem dX1_mostSecond_5 : decode cX1_mostSecond 5 = .ok (.goto 12, 3) := by decide +kernel
theorem dX1_mostSecond_8 : decode cX1_mostSecond 8 = .ok (.iconst 0, 1) := by decide +kernel
theorem dX1_mostSecond_9 : decode cX1_mostSecond 9 = .ok (.iload_n 0, 1) := by decide +kernel
theorem dX1_mostSecond_10 : decode cX1_mostSecond 10 = .ok (.iload_n 1, 1) := by decide +kernel
theorem dX1_mostSecond_11 : decode cX1_mostSecond 11 = .ok (.isub, 1) := by decide +kernel
theorem dX1_mostSecond_12 : decode cX1_mostSecond 12 = .ok (.iconst 1, 1) := by decide +kernel
theorem dX1_mostSecond_13 : decode cX1_mostSecond 13 = .ok (.isub, 1) := by decide +kernel
theorem dX1_mostSecond_14 : decode cX1_mostSecond 14 = .ok (.invokestatic 15, 3) := by decide +kernel
theorem dX1_mostSecond_17 : decode cX1_mostSecond 17 = .ok (.ireturn, 1) := by decide +kernel
theorem dX1_allows_0 : decode cX1_allows 0 = .ok (.iload_n 1, 1) := by decide +kernel
theorem dX1_allows_1 : decode cX1_allows 1 = .ok (.invokestatic 21, 3) := by decide +kernel
theorem dX1_allows_4 : decode cX1_allows 4 = .ok (.ifCond .eq 12, 3) := by decide +kernel
theorem dX1_allows_7 : decode cX1_allows 7 = .ok (.iload_n 2, 1) := by decide +kernel
theorem dX1_allows_8 : decode cX1_allows 8 = .ok (.ifCond .lt 8, 3) := by decide +kernel
theorem dX1_allows_11 : decode cX1_allows 11 = .ok (.iload_n 2, 1) := by decide +kernel
theorem dX1_allows_12 : decode cX1_allows 12 = .ok (.iload_n 0, 1) := by decide +kernel
theorem dX1_allows_13 : decode cX1_allows 13 = .ok (.if_icmp .le 5, 3) := by decide +kernel
theorem dX1_allows_16 : decode cX1_allows 16 = .ok (.iconst 0, 1) := by decide +kernel
theorem dX1_allows_17 : decode cX1_allows 17 = .ok (.ireturn, 1) := by decide +kernel
theorem dX1_allows_18 : decode cX1_allows 18 = .ok (.iload_n 3, 1) := by decide +kernel
theorem dX1_allows_19 : decode cX1_allows 19 = .ok (.ifCond .lt 27, 3) := by decide +kernel
theorem dX1_allows_22 : decode cX1_allows 22 = .ok (.iload_n 3, 1) := by decide +kernel
theorem dX1_allows_23 : decode cX1_allows 23 = .ok (.iload_n 1, 1) := by decide +kernel
theorem dX1_allows_24 : decode cX1_allows 24 = .ok (.invokestatic 25, 3) := by decide +kernel
theorem dX1_allows_27 : decode cX1_allows 27 = .ok (.ifCond .eq 11, 3) := by decide +kernel
theorem dX1_allows_30 : decode cX1_allows 30 = .ok (.iload_n 0, 1) := by decide +kernel
theorem dX1_allows_31 : decode cX1_allows 31 = .ok (.iload_n 2, 1) := by decide +kernel
theorem dX1_allows_32 : decode cX1_allows 32 = .ok (.invokestatic 28, 3) := by decide +kernel
theorem dX1_allows_35 : decode cX1_allows 35 = .ok (.goto 4, 3) := by decide +kernel
theorem dX1_allows_38 : decode cX1_allows 38 = .ok (.iconst 0, 1) := by decide +kernel
theorem dX1_allows_39 : decode cX1_allows 39 = .ok (.if_icmp .gt 7, 3) := by decide +kernel
theorem dX1_allows_42 : decode cX1_allows 42 = .ok (.iconst 1, 1) := by decide +kernel
theorem dX1_allows_43 : decode cX1_allows 43 = .ok (.goto 4, 3) := by decide +kernel
theorem dX1_allows_46 : decode cX1_allows 46 = .ok (.iconst 0, 1) := by decide +kernel
theorem dX1_allows_47 : decode cX1_allows 47 = .ok (.ireturn, 1) := by decide +kernel
theorem dX1_anyCells_0 : decode cX1_anyCells 0 = .ok (.iconst 1, 1) := by decide +kernel
theorem dX1_anyCells_1 : decode cX1_anyCells 1 = .ok (.iconst 1, 1) := by decide +kernel
theorem dX1_anyCells_2 : decode cX1_anyCells 2 = .ok (.iload_n 0, 1) := by decide +kernel
theorem dX1_anyCells_3 : decode cX1_anyCells 3 = .ok (.ishl, 1) := by decide +kernel
theorem dX1_anyCells_4 : decode cX1_anyCells 4 = .ok (.ishl, 1) := by decide +kernel
theorem dX1_anyCells_5 : decode cX1_anyCells 5 = .ok (.iconst 1, 1) := by decide +kernel
theorem dX1_anyCells_6 : decode cX1_anyCells 6 = .ok (.isub, 1) := by decide +kernel
theorem dX1_anyCells_7 : decode cX1_anyCells 7 = .ok (.ireturn, 1) := by decide +kernel
theorem dX1_keeping_0 : decode cX1_keeping 0 = .ok (.iconst 0, 1) := by decide +kernel
theorem dX1_keeping_1 : decode cX1_keeping 1 = .ok (.istore 4, 2) := by decide +kernel
theorem dX1_keeping_3 : decode cX1_keeping 3 = .ok (.iconst 0, 1) := by decide +kernel
theorem dX1_keeping_4 : decode cX1_keeping 4 = .ok (.istore 5, 2) := by decide +kernel
theorem dX1_keeping_6 : decode cX1_keeping 6 = .ok (.iload 5, 2) := by decide +kernel
theorem dX1_keeping_8 : decode cX1_keeping 8 = .ok (.iconst 1, 1) := by decide +kernel
theorem dX1_keeping_9 : decode cX1_keeping 9 = .ok (.iload_n 0, 1) := by decide +kernel
theorem dX1_keeping_10 : decode cX1_keeping 10 = .ok (.ishl, 1) := by decide +kernel
theorem dX1_keeping_11 : decode cX1_keeping 11 = .ok (.if_icmp .ge 29, 3) := by decide +kernel
theorem dX1_keeping_14 : decode cX1_keeping 14 = .ok (.iload_n 1, 1) := by decide +kernel
theorem dX1_keeping_15 : decode cX1_keeping 15 = .ok (.iload_n 2, 1) := by decide +kernel
theorem dX1_keeping_16 : decode cX1_keeping 16 = .ok (.iload_n 3, 1) := by decide +kernel
theorem dX1_keeping_17 : decode cX1_keeping 17 = .ok (.iload 5, 2) := by decide +kernel
theorem dX1_keeping_19 : decode cX1_keeping 19 = .ok (.invokestatic 31, 3) := by decide +kernel
theorem dX1_keeping_22 : decode cX1_keeping 22 = .ok (.ifCond .eq 12, 3) := by decide +kernel
theorem dX1_keeping_25 : decode cX1_keeping 25 = .ok (.iload 4, 2) := by decide +kernel
theorem dX1_keeping_27 : decode cX1_keeping 27 = .ok (.iconst 1, 1) := by decide +kernel
theorem dX1_keeping_28 : decode cX1_keeping 28 = .ok (.iload 5, 2) := by decide +kernel
theorem dX1_keeping_30 : decode cX1_keeping 30 = .ok (.ishl, 1) := by decide +kernel
theorem dX1_keeping_31 : decode cX1_keeping 31 = .ok (.ior, 1) := by decide +kernel
theorem dX1_keeping_32 : decode cX1_keeping 32 = .ok (.istore 4, 2) := by decide +kernel
theorem dX1_keeping_34 : decode cX1_keeping 34 = .ok (.iinc 5 1, 3) := by decide +kernel
theorem dX1_keeping_37 : decode cX1_keeping 37 = .ok (.goto (-31), 3) := by decide +kernel
theorem dX1_keeping_40 : decode cX1_keeping 40 = .ok (.iload 4, 2) := by decide +kernel
theorem dX1_keeping_42 : decode cX1_keeping 42 = .ok (.ireturn, 1) := by decide +kernel
theorem dX1_isKept_0 : decode cX1_isKept 0 = .ok (.iconst 0, 1) := by decide +kernel
theorem dX1_isKept_1 : decode cX1_isKept 1 = .ok (.istore 4, 2) := by decide +kernel
theorem dX1_isKept_3 : decode cX1_isKept 3 = .ok (.iconst 0, 1) := by decide +kernel
theorem dX1_isKept_4 : decode cX1_isKept 4 = .ok (.istore 5, 2) := by decide +kernel
theorem dX1_isKept_6 : decode cX1_isKept 6 = .ok (.iconst 0, 1) := by decide +kernel
theorem dX1_isKept_7 : decode cX1_isKept 7 = .ok (.istore 6, 2) := by decide +kernel
theorem dX1_isKept_9 : decode cX1_isKept 9 = .ok (.iconst 0, 1) := by decide +kernel
theorem dX1_isKept_10 : decode cX1_isKept 10 = .ok (.istore 7, 2) := by decide +kernel
theorem dX1_isKept_12 : decode cX1_isKept 12 = .ok (.iconst 0, 1) := by decide +kernel
theorem dX1_isKept_13 : decode cX1_isKept 13 = .ok (.istore 8, 2) := by decide +kernel
theorem dX1_isKept_15 : decode cX1_isKept 15 = .ok (.iconst 0, 1) := by decide +kernel
theorem dX1_isKept_16 : decode cX1_isKept 16 = .ok (.istore 9, 2) := by decide +kernel
theorem dX1_isKept_18 : decode cX1_isKept 18 = .ok (.iload 9, 2) := by decide +kernel
theorem dX1_isKept_20 : decode cX1_isKept 20 = .ok (.iconst 4, 1) := by decide +kernel
theorem dX1_isKept_21 : decode cX1_isKept 21 = .ok (.if_icmp .gt 62, 3) := by decide +kernel
theorem dX1_isKept_24 : decode cX1_isKept 24 = .ok (.iload_n 3, 1) := by decide +kernel
theorem dX1_isKept_25 : decode cX1_isKept 25 = .ok (.iload 9, 2) := by decide +kernel
theorem dX1_isKept_27 : decode cX1_isKept 27 = .ok (.ishr, 1) := by decide +kernel
theorem dX1_isKept_28 : decode cX1_isKept 28 = .ok (.iconst 1, 1) := by decide +kernel
theorem dX1_isKept_29 : decode cX1_isKept 29 = .ok (.iand, 1) := by decide +kernel
theorem dX1_isKept_30 : decode cX1_isKept 30 = .ok (.ifCond .eq 9, 3) := by decide +kernel
theorem dX1_isKept_33 : decode cX1_isKept 33 = .ok (.iinc 8 1, 3) := by decide +kernel
theorem dX1_isKept_36 : decode cX1_isKept 36 = .ok (.goto 41, 3) := by decide +kernel
theorem dX1_isKept_39 : decode cX1_isKept 39 = .ok (.iload 8, 2) := by decide +kernel
theorem dX1_isKept_41 : decode cX1_isKept 41 = .ok (.ifCond .le 36, 3) := by decide +kernel
theorem dX1_isKept_44 : decode cX1_isKept 44 = .ok (.iload 4, 2) := by decide +kernel
theorem dX1_isKept_46 : decode cX1_isKept 46 = .ok (.ifCond .ne 10, 3) := by decide +kernel
theorem dX1_isKept_49 : decode cX1_isKept 49 = .ok (.iload 8, 2) := by decide +kernel
theorem dX1_isKept_51 : decode cX1_isKept 51 = .ok (.istore 5, 2) := by decide +kernel
theorem dX1_isKept_53 : decode cX1_isKept 53 = .ok (.goto 7, 3) := by decide +kernel
theorem dX1_isKept_56 : decode cX1_isKept 56 = .ok (.iload 8, 2) := by decide +kernel
theorem dX1_isKept_58 : decode cX1_isKept 58 = .ok (.istore 6, 2) := by decide +kernel
theorem dX1_isKept_60 : decode cX1_isKept 60 = .ok (.iinc 4 1, 3) := by decide +kernel
theorem dX1_isKept_63 : decode cX1_isKept 63 = .ok (.iload 8, 2) := by decide +kernel
theorem dX1_isKept_65 : decode cX1_isKept 65 = .ok (.iload 7, 2) := by decide +kernel
theorem dX1_isKept_67 : decode cX1_isKept 67 = .ok (.if_icmp .le 7, 3) := by decide +kernel
theorem dX1_isKept_70 : decode cX1_isKept 70 = .ok (.iload 8, 2) := by decide +kernel
theorem dX1_isKept_72 : decode cX1_isKept 72 = .ok (.istore 7, 2) := by decide +kernel
theorem dX1_isKept_74 : decode cX1_isKept 74 = .ok (.iconst 0, 1) := by decide +kernel
theorem dX1_isKept_75 : decode cX1_isKept 75 = .ok (.istore 8, 2) := by decide +kernel
theorem dX1_isKept_77 : decode cX1_isKept 77 = .ok (.iinc 9 1, 3) := by decide +kernel
theorem dX1_isKept_80 : decode cX1_isKept 80 = .ok (.goto (-62), 3) := by decide +kernel
theorem dX1_isKept_83 : decode cX1_isKept 83 = .ok (.iload 5, 2) := by decide +kernel
theorem dX1_isKept_85 : decode cX1_isKept 85 = .ok (.iload_n 1, 1) := by decide +kernel
theorem dX1_isKept_86 : decode cX1_isKept 86 = .ok (.if_icmp .ne 13, 3) := by decide +kernel
theorem dX1_isKept_89 : decode cX1_isKept 89 = .ok (.iload 6, 2) := by decide +kernel
theorem dX1_isKept_91 : decode cX1_isKept 91 = .ok (.iload_n 2, 1) := by decide +kernel
theorem dX1_isKept_92 : decode cX1_isKept 92 = .ok (.if_icmp .ne 7, 3) := by decide +kernel
theorem dX1_isKept_95 : decode cX1_isKept 95 = .ok (.iconst 1, 1) := by decide +kernel
theorem dX1_isKept_96 : decode cX1_isKept 96 = .ok (.goto 4, 3) := by decide +kernel
theorem dX1_isKept_99 : decode cX1_isKept 99 = .ok (.iconst 0, 1) := by decide +kernel
theorem dX1_isKept_100 : decode cX1_isKept 100 = .ok (.istore 9, 2) := by decide +kernel
theorem dX1_isKept_102 : decode cX1_isKept 102 = .ok (.iload_n 0, 1) := by decide +kernel
theorem dX1_isKept_103 : decode cX1_isKept 103 = .ok (.tableswitch 79 1 4 #[29, 32, 44, 56], 29) := by decide +kernel
theorem dX1_isKept_132 : decode cX1_isKept 132 = .ok (.iload 9, 2) := by decide +kernel
theorem dX1_isKept_134 : decode cX1_isKept 134 = .ok (.ireturn, 1) := by decide +kernel
theorem dX1_isKept_135 : decode cX1_isKept 135 = .ok (.iload 4, 2) := by decide +kernel
theorem dX1_isKept_137 : decode cX1_isKept 137 = .ok (.iload_n 1, 1) := by decide +kernel
theorem dX1_isKept_138 : decode cX1_isKept 138 = .ok (.if_icmp .ne 7, 3) := by decide +kernel
theorem dX1_isKept_141 : decode cX1_isKept 141 = .ok (.iconst 1, 1) := by decide +kernel
theorem dX1_isKept_142 : decode cX1_isKept 142 = .ok (.goto 4, 3) := by decide +kernel
theorem dX1_isKept_145 : decode cX1_isKept 145 = .ok (.iconst 0, 1) := by decide +kernel
theorem dX1_isKept_146 : decode cX1_isKept 146 = .ok (.ireturn, 1) := by decide +kernel
theorem dX1_isKept_147 : decode cX1_isKept 147 = .ok (.iload 7, 2) := by decide +kernel
theorem dX1_isKept_149 : decode cX1_isKept 149 = .ok (.iload_n 1, 1) := by decide +kernel
theorem dX1_isKept_150 : decode cX1_isKept 150 = .ok (.if_icmp .ne 7, 3) := by decide +kernel
theorem dX1_isKept_153 : decode cX1_isKept 153 = .ok (.iconst 1, 1) := by decide +kernel
theorem dX1_isKept_154 : decode cX1_isKept 154 = .ok (.goto 4, 3) := by decide +kernel
theorem dX1_isKept_157 : decode cX1_isKept 157 = .ok (.iconst 0, 1) := by decide +kernel
theorem dX1_isKept_158 : decode cX1_isKept 158 = .ok (.ireturn, 1) := by decide +kernel
theorem dX1_isKept_159 : decode cX1_isKept 159 = .ok (.iload 9, 2) := by decide +kernel
theorem dX1_isKept_161 : decode cX1_isKept 161 = .ok (.ifCond .ne 15, 3) := by decide +kernel
theorem dX1_isKept_164 : decode cX1_isKept 164 = .ok (.iload 5, 2) := by decide +kernel
theorem dX1_isKept_166 : decode cX1_isKept 166 = .ok (.iload_n 2, 1) := by decide +kernel
theorem dX1_isKept_167 : decode cX1_isKept 167 = .ok (.if_icmp .ne 13, 3) := by decide +kernel
theorem dX1_isKept_170 : decode cX1_isKept 170 = .ok (.iload 6, 2) := by decide +kernel
theorem dX1_isKept_172 : decode cX1_isKept 172 = .ok (.iload_n 1, 1) := by decide +kernel
theorem dX1_isKept_173 : decode cX1_isKept 173 = .ok (.if_icmp .ne 7, 3) := by decide +kernel
theorem dX1_isKept_176 : decode cX1_isKept 176 = .ok (.iconst 1, 1) := by decide +kernel
theorem dX1_isKept_177 : decode cX1_isKept 177 = .ok (.goto 4, 3) := by decide +kernel
theorem dX1_isKept_180 : decode cX1_isKept 180 = .ok (.iconst 0, 1) := by decide +kernel
theorem dX1_isKept_181 : decode cX1_isKept 181 = .ok (.ireturn, 1) := by decide +kernel
theorem dX1_isKept_182 : decode cX1_isKept 182 = .ok (.iload_n 3, 1) := by decide +kernel
theorem dX1_isKept_183 : decode cX1_isKept 183 = .ok (.invokestatic 35, 3) := by decide +kernel
theorem dX1_isKept_186 : decode cX1_isKept 186 = .ok (.iload_n 1, 1) := by decide +kernel
theorem dX1_isKept_187 : decode cX1_isKept 187 = .ok (.if_icmp .ne 7, 3) := by decide +kernel
theorem dX1_isKept_190 : decode cX1_isKept 190 = .ok (.iconst 1, 1) := by decide +kernel
theorem dX1_isKept_191 : decode cX1_isKept 191 = .ok (.goto 4, 3) := by decide +kernel
theorem dX1_isKept_194 : decode cX1_isKept 194 = .ok (.iconst 0, 1) := by decide +kernel
theorem dX1_isKept_195 : decode cX1_isKept 195 = .ok (.ireturn, 1) := by decide +kernel
theorem dX2_init_0 : decode cX2_init 0 = .ok (.aload_n 0, 1) := by decide +kernel
theorem dX2_init_1 : decode cX2_init 1 = .ok (.invokespecial 3, 3) := by decide +kernel
theorem dX2_init_4 : decode cX2_init 4 = .ok (.aload_n 0, 1) := by decide +kernel
theorem dX2_init_5 : decode cX2_init 5 = .ok (.bipush 36, 2) := by decide +kernel
theorem dX2_init_7 : decode cX2_init 7 = .ok (.newarray .char, 2) := by decide +kernel
theorem dX2_init_9 : decode cX2_init 9 = .ok (.putfield 9, 3) := by decide +kernel
theorem dX2_init_12 : decode cX2_init 12 = .ok (.return_, 1) := by decide +kernel
theorem dX2_add_0 : decode cX2_add 0 = .ok (.aload_n 0, 1) := by decide +kernel
theorem dX2_add_1 : decode cX2_add 1 = .ok (.getfield 15, 3) := by decide +kernel
theorem dX2_add_4 : decode cX2_add 4 = .ok (.aload_n 0, 1) := by decide +kernel
theorem dX2_add_5 : decode cX2_add 5 = .ok (.getfield 9, 3) := by decide +kernel
theorem dX2_add_8 : decode cX2_add 8 = .ok (.arraylength, 1) := by decide +kernel
theorem dX2_add_9 : decode cX2_add 9 = .ok (.if_icmp .lt 4, 3) := by decide +kernel
theorem dX2_add_12 : decode cX2_add 12 = .ok (.return_, 1) := by decide +kernel
theorem dX2_add_13 : decode cX2_add 13 = .ok (.aload_n 0, 1) := by decide +kernel
theorem dX2_add_14 : decode cX2_add 14 = .ok (.getfield 9, 3) := by decide +kernel
theorem dX2_add_17 : decode cX2_add 17 = .ok (.aload_n 0, 1) := by decide +kernel
theorem dX2_add_18 : decode cX2_add 18 = .ok (.getfield 15, 3) := by decide +kernel
theorem dX2_add_21 : decode cX2_add 21 = .ok (.iload_n 1, 1) := by decide +kernel
theorem dX2_add_22 : decode cX2_add 22 = .ok (.i2c, 1) := by decide +kernel
theorem dX2_add_23 : decode cX2_add 23 = .ok (.castore, 1) := by decide +kernel
theorem dX2_add_24 : decode cX2_add 24 = .ok (.aload_n 0, 1) := by decide +kernel
theorem dX2_add_25 : decode cX2_add 25 = .ok (.dup, 1) := by decide +kernel
theorem dX2_add_26 : decode cX2_add 26 = .ok (.getfield 15, 3) := by decide +kernel
theorem dX2_add_29 : decode cX2_add 29 = .ok (.iconst 1, 1) := by decide +kernel
theorem dX2_add_30 : decode cX2_add 30 = .ok (.iadd, 1) := by decide +kernel
theorem dX2_add_31 : decode cX2_add 31 = .ok (.putfield 15, 3) := by decide +kernel
theorem dX2_add_34 : decode cX2_add 34 = .ok (.return_, 1) := by decide +kernel
theorem dX2_codeAt_0 : decode cX2_codeAt 0 = .ok (.iload_n 1, 1) := by decide +kernel
theorem dX2_codeAt_1 : decode cX2_codeAt 1 = .ok (.ifCond .lt 21, 3) := by decide +kernel
theorem dX2_codeAt_4 : decode cX2_codeAt 4 = .ok (.iload_n 1, 1) := by decide +kernel
theorem dX2_codeAt_5 : decode cX2_codeAt 5 = .ok (.aload_n 0, 1) := by decide +kernel
theorem dX2_codeAt_6 : decode cX2_codeAt 6 = .ok (.getfield 9, 3) := by decide +kernel
theorem dX2_codeAt_9 : decode cX2_codeAt 9 = .ok (.arraylength, 1) := by decide +kernel
theorem dX2_codeAt_10 : decode cX2_codeAt 10 = .ok (.if_icmp .ge 12, 3) := by decide +kernel
theorem dX2_codeAt_13 : decode cX2_codeAt 13 = .ok (.aload_n 0, 1) := by decide +kernel
theorem dX2_codeAt_14 : decode cX2_codeAt 14 = .ok (.getfield 9, 3) := by decide +kernel
theorem dX2_codeAt_17 : decode cX2_codeAt 17 = .ok (.iload_n 1, 1) := by decide +kernel
theorem dX2_codeAt_18 : decode cX2_codeAt 18 = .ok (.caload, 1) := by decide +kernel
theorem dX2_codeAt_19 : decode cX2_codeAt 19 = .ok (.goto 4, 3) := by decide +kernel
theorem dX2_codeAt_22 : decode cX2_codeAt 22 = .ok (.iconst 0, 1) := by decide +kernel
theorem dX2_codeAt_23 : decode cX2_codeAt 23 = .ok (.ireturn, 1) := by decide +kernel
theorem dX2_readInto_0 : decode cX2_readInto 0 = .ok (.aload_n 0, 1) := by decide +kernel
theorem dX2_readInto_1 : decode cX2_readInto 1 = .ok (.iconst 0, 1) := by decide +kernel
theorem dX2_readInto_2 : decode cX2_readInto 2 = .ok (.putfield 19, 3) := by decide +kernel
theorem dX2_readInto_5 : decode cX2_readInto 5 = .ok (.aload_n 1, 1) := by decide +kernel
theorem dX2_readInto_6 : decode cX2_readInto 6 = .ok (.invokevirtual 22, 3) := by decide +kernel
theorem dX2_readInto_9 : decode cX2_readInto 9 = .ok (.aload_n 0, 1) := by decide +kernel
theorem dX2_readInto_10 : decode cX2_readInto 10 = .ok (.iconst 2, 1) := by decide +kernel
theorem dX2_readInto_11 : decode cX2_readInto 11 = .ok (.iconst 4, 1) := by decide +kernel
theorem dX2_readInto_12 : decode cX2_readInto 12 = .ok (.invokevirtual 27, 3) := by decide +kernel
theorem dX2_readInto_15 : decode cX2_readInto 15 = .ok (.istore_n 2, 1) := by decide +kernel
theorem dX2_readInto_16 : decode cX2_readInto 16 = .ok (.iload_n 2, 1) := by decide +kernel
theorem dX2_readInto_17 : decode cX2_readInto 17 = .ok (.ifCond .ge 5, 3) := by decide +kernel
theorem dX2_readInto_20 : decode cX2_readInto 20 = .ok (.iconst 0, 1) := by decide +kernel
theorem dX2_readInto_21 : decode cX2_readInto 21 = .ok (.ireturn, 1) := by decide +kernel
theorem dX2_readInto_22 : decode cX2_readInto 22 = .ok (.aload_n 0, 1) := by decide +kernel
theorem dX2_readInto_23 : decode cX2_readInto 23 = .ok (.iconst 2, 1) := by decide +kernel
theorem dX2_readInto_24 : decode cX2_readInto 24 = .ok (.iconst 4, 1) := by decide +kernel
theorem dX2_readInto_25 : decode cX2_readInto 25 = .ok (.invokevirtual 27, 3) := by decide +kernel
theorem dX2_readInto_28 : decode cX2_readInto 28 = .ok (.istore_n 3, 1) := by decide +kernel
theorem dX2_readInto_29 : decode cX2_readInto 29 = .ok (.iload_n 3, 1) := by decide +kernel
theorem dX2_readInto_30 : decode cX2_readInto 30 = .ok (.ifCond .ge 5, 3) := by decide +kernel
theorem dX2_readInto_33 : decode cX2_readInto 33 = .ok (.iconst 0, 1) := by decide +kernel
theorem dX2_readInto_34 : decode cX2_readInto 34 = .ok (.ireturn, 1) := by decide +kernel
theorem dX2_readInto_35 : decode cX2_readInto 35 = .ok (.aload_n 1, 1) := by decide +kernel
theorem dX2_readInto_36 : decode cX2_readInto 36 = .ok (.iload_n 2, 1) := by decide +kernel
theorem dX2_readInto_37 : decode cX2_readInto 37 = .ok (.putfield 31, 3) := by decide +kernel
theorem dX2_readInto_40 : decode cX2_readInto 40 = .ok (.aload_n 1, 1) := by decide +kernel
theorem dX2_readInto_41 : decode cX2_readInto 41 = .ok (.iload_n 3, 1) := by decide +kernel
theorem dX2_readInto_42 : decode cX2_readInto 42 = .ok (.putfield 34, 3) := by decide +kernel
theorem dX2_readInto_45 : decode cX2_readInto 45 = .ok (.iconst 0, 1) := by decide +kernel
theorem dX2_readInto_46 : decode cX2_readInto 46 = .ok (.istore 4, 2) := by decide +kernel
theorem dX2_readInto_48 : decode cX2_readInto 48 = .ok (.iload 4, 2) := by decide +kernel
theorem dX2_readInto_50 : decode cX2_readInto 50 = .ok (.iload_n 2, 1) := by decide +kernel
theorem dX2_readInto_51 : decode cX2_readInto 51 = .ok (.iload_n 3, 1) := by decide +kernel
theorem dX2_readInto_52 : decode cX2_readInto 52 = .ok (.iadd, 1) := by decide +kernel
theorem dX2_readInto_53 : decode cX2_readInto 53 = .ok (.if_icmp .ge 50, 3) := by decide +kernel
theorem dX2_readInto_56 : decode cX2_readInto 56 = .ok (.iload 4, 2) := by decide +kernel
theorem dX2_readInto_58 : decode cX2_readInto 58 = .ok (.ifCond .eq 9, 3) := by decide +kernel
theorem dX2_readInto_61 : decode cX2_readInto 61 = .ok (.iload 4, 2) := by decide +kernel
theorem dX2_readInto_63 : decode cX2_readInto 63 = .ok (.iload_n 2, 1) := by decide +kernel
theorem dX2_readInto_64 : decode cX2_readInto 64 = .ok (.if_icmp .ne 8, 3) := by decide +kernel
theorem dX2_readInto_67 : decode cX2_readInto 67 = .ok (.bipush 59, 2) := by decide +kernel
theorem dX2_readInto_69 : decode cX2_readInto 69 = .ok (.goto 5, 3) := by decide +kernel
theorem dX2_readInto_72 : decode cX2_readInto 72 = .ok (.bipush 44, 2) := by decide +kernel
theorem dX2_readInto_74 : decode cX2_readInto 74 = .ok (.istore 5, 2) := by decide +kernel
theorem dX2_readInto_76 : decode cX2_readInto 76 = .ok (.aload_n 0, 1) := by decide +kernel
theorem dX2_readInto_77 : decode cX2_readInto 77 = .ok (.iload 5, 2) := by decide +kernel
theorem dX2_readInto_79 : decode cX2_readInto 79 = .ok (.invokevirtual 37, 3) := by decide +kernel
theorem dX2_readInto_82 : decode cX2_readInto 82 = .ok (.ifCond .eq 13, 3) := by decide +kernel
theorem dX2_readInto_85 : decode cX2_readInto 85 = .ok (.aload_n 0, 1) := by decide +kernel
theorem dX2_readInto_86 : decode cX2_readInto 86 = .ok (.aload_n 1, 1) := by decide +kernel
theorem dX2_readInto_87 : decode cX2_readInto 87 = .ok (.iload 4, 2) := by decide +kernel
theorem dX2_readInto_89 : decode cX2_readInto 89 = .ok (.invokevirtual 41, 3) := by decide +kernel
theorem dX2_readInto_92 : decode cX2_readInto 92 = .ok (.ifCond .ne 5, 3) := by decide +kernel
theorem dX2_readInto_95 : decode cX2_readInto 95 = .ok (.iconst 0, 1) := by decide +kernel
theorem dX2_readInto_96 : decode cX2_readInto 96 = .ok (.ireturn, 1) := by decide +kernel
theorem dX2_readInto_97 : decode cX2_readInto 97 = .ok (.iinc 4 1, 3) := by decide +kernel
theorem dX2_readInto_100 : decode cX2_readInto 100 = .ok (.goto (-52), 3) := by decide +kernel
theorem dX2_readInto_103 : decode cX2_readInto 103 = .ok (.aload_n 0, 1) := by decide +kernel
theorem dX2_readInto_104 : decode cX2_readInto 104 = .ok (.getfield 19, 3) := by decide +kernel
theorem dX2_readInto_107 : decode cX2_readInto 107 = .ok (.aload_n 0, 1) := by decide +kernel
theorem dX2_readInto_108 : decode cX2_readInto 108 = .ok (.getfield 15, 3) := by decide +kernel
theorem dX2_readInto_111 : decode cX2_readInto 111 = .ok (.if_icmp .ne 7, 3) := by decide +kernel
theorem dX2_readInto_114 : decode cX2_readInto 114 = .ok (.iconst 1, 1) := by decide +kernel
theorem dX2_readInto_115 : decode cX2_readInto 115 = .ok (.goto 4, 3) := by decide +kernel
theorem dX2_readInto_118 : decode cX2_readInto 118 = .ok (.iconst 0, 1) := by decide +kernel
theorem dX2_readInto_119 : decode cX2_readInto 119 = .ok (.ireturn, 1) := by decide +kernel
theorem dX2_readClue_0 : decode cX2_readClue 0 = .ok (.aload_n 1, 1) := by decide +kernel
theorem dX2_readClue_1 : decode cX2_readClue 1 = .ok (.iload_n 2, 1) := by decide +kernel
theorem dX2_readClue_2 : decode cX2_readClue 2 = .ok (.invokevirtual 45, 3) := by decide +kernel
theorem dX2_readClue_5 : decode cX2_readClue 5 = .ok (.istore_n 3, 1) := by decide +kernel
theorem dX2_readClue_6 : decode cX2_readClue 6 = .ok (.aload_n 0, 1) := by decide +kernel
theorem dX2_readClue_7 : decode cX2_readClue 7 = .ok (.invokevirtual 49, 3) := by decide +kernel
theorem dX2_readClue_10 : decode cX2_readClue 10 = .ok (.istore 4, 2) := by decide +kernel
theorem dX2_readClue_12 : decode cX2_readClue 12 = .ok (.iload 4, 2) := by decide +kernel
theorem dX2_readClue_14 : decode cX2_readClue 14 = .ok (.ifCond .ge 5, 3) := by decide +kernel
theorem dX2_readClue_17 : decode cX2_readClue 17 = .ok (.iconst 0, 1) := by decide +kernel
theorem dX2_readClue_18 : decode cX2_readClue 18 = .ok (.ireturn, 1) := by decide +kernel
theorem dX2_readClue_19 : decode cX2_readClue 19 = .ok (.aload_n 0, 1) := by decide +kernel
theorem dX2_readClue_20 : decode cX2_readClue 20 = .ok (.iconst 0, 1) := by decide +kernel
theorem dX2_readClue_21 : decode cX2_readClue 21 = .ok (.iload_n 3, 1) := by decide +kernel
theorem dX2_readClue_22 : decode cX2_readClue 22 = .ok (.invokevirtual 27, 3) := by decide +kernel
theorem dX2_readClue_25 : decode cX2_readClue 25 = .ok (.istore 5, 2) := by decide +kernel
theorem dX2_readClue_27 : decode cX2_readClue 27 = .ok (.iload 5, 2) := by decide +kernel
theorem dX2_readClue_29 : decode cX2_readClue 29 = .ok (.ifCond .ge 5, 3) := by decide +kernel
theorem dX2_readClue_32 : decode cX2_readClue 32 = .ok (.iconst 0, 1) := by decide +kernel
theorem dX2_readClue_33 : decode cX2_readClue 33 = .ok (.ireturn, 1) := by decide +kernel
theorem dX2_readClue_34 : decode cX2_readClue 34 = .ok (.iconst 0, 1) := by decide +kernel
theorem dX2_readClue_35 : decode cX2_readClue 35 = .ok (.istore 6, 2) := by decide +kernel
theorem dX2_readClue_37 : decode cX2_readClue 37 = .ok (.iload 4, 2) := by decide +kernel
theorem dX2_readClue_39 : decode cX2_readClue 39 = .ok (.invokestatic 53, 3) := by decide +kernel
theorem dX2_readClue_42 : decode cX2_readClue 42 = .ok (.ifCond .eq 16, 3) := by decide +kernel
theorem dX2_readClue_45 : decode cX2_readClue 45 = .ok (.aload_n 0, 1) := by decide +kernel
theorem dX2_readClue_46 : decode cX2_readClue 46 = .ok (.iconst 0, 1) := by decide +kernel
theorem dX2_readClue_47 : decode cX2_readClue 47 = .ok (.iload_n 3, 1) := by decide +kernel
theorem dX2_readClue_48 : decode cX2_readClue 48 = .ok (.iload 5, 2) := by decide +kernel
theorem dX2_readClue_50 : decode cX2_readClue 50 = .ok (.invokestatic 59, 3) := by decide +kernel
theorem dX2_readClue_53 : decode cX2_readClue 53 = .ok (.invokevirtual 27, 3) := by decide +kernel
theorem dX2_readClue_56 : decode cX2_readClue 56 = .ok (.istore 6, 2) := by decide +kernel
theorem dX2_readClue_58 : decode cX2_readClue 58 = .ok (.iload 6, 2) := by decide +kernel
theorem dX2_readClue_60 : decode cX2_readClue 60 = .ok (.ifCond .ge 5, 3) := by decide +kernel
theorem dX2_readClue_63 : decode cX2_readClue 63 = .ok (.iconst 0, 1) := by decide +kernel
theorem dX2_readClue_64 : decode cX2_readClue 64 = .ok (.ireturn, 1) := by decide +kernel
theorem dX2_readClue_65 : decode cX2_readClue 65 = .ok (.aload_n 1, 1) := by decide +kernel
theorem dX2_readClue_66 : decode cX2_readClue 66 = .ok (.iload_n 2, 1) := by decide +kernel
theorem dX2_readClue_67 : decode cX2_readClue 67 = .ok (.iload 4, 2) := by decide +kernel
theorem dX2_readClue_69 : decode cX2_readClue 69 = .ok (.iload 5, 2) := by decide +kernel
theorem dX2_readClue_71 : decode cX2_readClue 71 = .ok (.iload 6, 2) := by decide +kernel
theorem dX2_readClue_73 : decode cX2_readClue 73 = .ok (.invokevirtual 62, 3) := by decide +kernel
theorem dX2_readClue_76 : decode cX2_readClue 76 = .ok (.iconst 1, 1) := by decide +kernel
theorem dX2_readClue_77 : decode cX2_readClue 77 = .ok (.ireturn, 1) := by decide +kernel
theorem dX2_readNumber_0 : decode cX2_readNumber 0 = .ok (.aload_n 0, 1) := by decide +kernel
theorem dX2_readNumber_1 : decode cX2_readNumber 1 = .ok (.getfield 19, 3) := by decide +kernel
theorem dX2_readNumber_4 : decode cX2_readNumber 4 = .ok (.aload_n 0, 1) := by decide +kernel
theorem dX2_readNumber_5 : decode cX2_readNumber 5 = .ok (.getfield 15, 3) := by decide +kernel
theorem dX2_readNumber_8 : decode cX2_readNumber 8 = .ok (.if_icmp .lt 5, 3) := by decide +kernel
theorem dX2_readNumber_11 : decode cX2_readNumber 11 = .ok (.iconst (-1), 1) := by decide +kernel
theorem dX2_readNumber_12 : decode cX2_readNumber 12 = .ok (.ireturn, 1) := by decide +kernel
theorem dX2_readNumber_13 : decode cX2_readNumber 13 = .ok (.aload_n 0, 1) := by decide +kernel
theorem dX2_readNumber_14 : decode cX2_readNumber 14 = .ok (.aload_n 0, 1) := by decide +kernel
theorem dX2_readNumber_15 : decode cX2_readNumber 15 = .ok (.getfield 19, 3) := by decide +kernel
theorem dX2_readNumber_18 : decode cX2_readNumber 18 = .ok (.invokevirtual 66, 3) := by decide +kernel
theorem dX2_readNumber_21 : decode cX2_readNumber 21 = .ok (.bipush 48, 2) := by decide +kernel
theorem dX2_readNumber_23 : decode cX2_readNumber 23 = .ok (.isub, 1) := by decide +kernel
theorem dX2_readNumber_24 : decode cX2_readNumber 24 = .ok (.istore_n 3, 1) := by decide +kernel
theorem dX2_readNumber_25 : decode cX2_readNumber 25 = .ok (.iload_n 3, 1) := by decide +kernel
theorem dX2_readNumber_26 : decode cX2_readNumber 26 = .ok (.iload_n 1, 1) := by decide +kernel
theorem dX2_readNumber_27 : decode cX2_readNumber 27 = .ok (.if_icmp .lt 8, 3) := by decide +kernel
theorem dX2_readNumber_30 : decode cX2_readNumber 30 = .ok (.iload_n 3, 1) := by decide +kernel
theorem dX2_readNumber_31 : decode cX2_readNumber 31 = .ok (.iload_n 2, 1) := by decide +kernel
theorem dX2_readNumber_32 : decode cX2_readNumber 32 = .ok (.if_icmp .le 5, 3) := by decide +kernel
theorem dX2_readNumber_35 : decode cX2_readNumber 35 = .ok (.iconst (-1), 1) := by decide +kernel
theorem dX2_readNumber_36 : decode cX2_readNumber 36 = .ok (.ireturn, 1) := by decide +kernel
theorem dX2_readNumber_37 : decode cX2_readNumber 37 = .ok (.aload_n 0, 1) := by decide +kernel
theorem dX2_readNumber_38 : decode cX2_readNumber 38 = .ok (.dup, 1) := by decide +kernel
theorem dX2_readNumber_39 : decode cX2_readNumber 39 = .ok (.getfield 19, 3) := by decide +kernel
theorem dX2_readNumber_42 : decode cX2_readNumber 42 = .ok (.iconst 1, 1) := by decide +kernel
theorem dX2_readNumber_43 : decode cX2_readNumber 43 = .ok (.iadd, 1) := by decide +kernel
theorem dX2_readNumber_44 : decode cX2_readNumber 44 = .ok (.putfield 19, 3) := by decide +kernel
theorem dX2_readNumber_47 : decode cX2_readNumber 47 = .ok (.iload_n 3, 1) := by decide +kernel
theorem dX2_readNumber_48 : decode cX2_readNumber 48 = .ok (.ireturn, 1) := by decide +kernel
theorem dX2_readKind_0 : decode cX2_readKind 0 = .ok (.aload_n 0, 1) := by decide +kernel
theorem dX2_readKind_1 : decode cX2_readKind 1 = .ok (.getfield 19, 3) := by decide +kernel
theorem dX2_readKind_4 : decode cX2_readKind 4 = .ok (.aload_n 0, 1) := by decide +kernel
theorem dX2_readKind_5 : decode cX2_readKind 5 = .ok (.getfield 15, 3) := by decide +kernel
theorem dX2_readKind_8 : decode cX2_readKind 8 = .ok (.if_icmp .lt 5, 3) := by decide +kernel
theorem dX2_readKind_11 : decode cX2_readKind 11 = .ok (.iconst (-1), 1) := by decide +kernel
theorem dX2_readKind_12 : decode cX2_readKind 12 = .ok (.ireturn, 1) := by decide +kernel
theorem dX2_readKind_13 : decode cX2_readKind 13 = .ok (.ldc 69, 2) := by decide +kernel
theorem dX2_readKind_15 : decode cX2_readKind 15 = .ok (.aload_n 0, 1) := by decide +kernel
theorem dX2_readKind_16 : decode cX2_readKind 16 = .ok (.aload_n 0, 1) := by decide +kernel
theorem dX2_readKind_17 : decode cX2_readKind 17 = .ok (.getfield 19, 3) := by decide +kernel
theorem dX2_readKind_20 : decode cX2_readKind 20 = .ok (.invokevirtual 66, 3) := by decide +kernel
theorem dX2_readKind_23 : decode cX2_readKind 23 = .ok (.i2c, 1) := by decide +kernel
theorem dX2_readKind_24 : decode cX2_readKind 24 = .ok (.invokevirtual 71, 3) := by decide +kernel
theorem dX2_readKind_27 : decode cX2_readKind 27 = .ok (.istore_n 1, 1) := by decide +kernel
theorem dX2_readKind_28 : decode cX2_readKind 28 = .ok (.iload_n 1, 1) := by decide +kernel
theorem dX2_readKind_29 : decode cX2_readKind 29 = .ok (.ifCond .lt 13, 3) := by decide +kernel
theorem dX2_readKind_32 : decode cX2_readKind 32 = .ok (.aload_n 0, 1) := by decide +kernel
theorem dX2_readKind_33 : decode cX2_readKind 33 = .ok (.dup, 1) := by decide +kernel
theorem dX2_readKind_34 : decode cX2_readKind 34 = .ok (.getfield 19, 3) := by decide +kernel
theorem dX2_readKind_37 : decode cX2_readKind 37 = .ok (.iconst 1, 1) := by decide +kernel
theorem dX2_readKind_38 : decode cX2_readKind 38 = .ok (.iadd, 1) := by decide +kernel
theorem dX2_readKind_39 : decode cX2_readKind 39 = .ok (.putfield 19, 3) := by decide +kernel
theorem dX2_readKind_42 : decode cX2_readKind 42 = .ok (.iload_n 1, 1) := by decide +kernel
theorem dX2_readKind_43 : decode cX2_readKind 43 = .ok (.ireturn, 1) := by decide +kernel
theorem dX2_readSign_0 : decode cX2_readSign 0 = .ok (.aload_n 0, 1) := by decide +kernel
theorem dX2_readSign_1 : decode cX2_readSign 1 = .ok (.getfield 19, 3) := by decide +kernel
theorem dX2_readSign_4 : decode cX2_readSign 4 = .ok (.aload_n 0, 1) := by decide +kernel
theorem dX2_readSign_5 : decode cX2_readSign 5 = .ok (.getfield 15, 3) := by decide +kernel
theorem dX2_readSign_8 : decode cX2_readSign 8 = .ok (.if_icmp .ge 15, 3) := by decide +kernel
theorem dX2_readSign_11 : decode cX2_readSign 11 = .ok (.aload_n 0, 1) := by decide +kernel
theorem dX2_readSign_12 : decode cX2_readSign 12 = .ok (.aload_n 0, 1) := by decide +kernel
theorem dX2_readSign_13 : decode cX2_readSign 13 = .ok (.getfield 19, 3) := by decide +kernel
theorem dX2_readSign_16 : decode cX2_readSign 16 = .ok (.invokevirtual 66, 3) := by decide +kernel
theorem dX2_readSign_19 : decode cX2_readSign 19 = .ok (.iload_n 1, 1) := by decide +kernel
theorem dX2_readSign_20 : decode cX2_readSign 20 = .ok (.if_icmp .eq 5, 3) := by decide +kernel
theorem dX2_readSign_23 : decode cX2_readSign 23 = .ok (.iconst 0, 1) := by decide +kernel
theorem dX2_readSign_24 : decode cX2_readSign 24 = .ok (.ireturn, 1) := by decide +kernel
theorem dX2_readSign_25 : decode cX2_readSign 25 = .ok (.aload_n 0, 1) := by decide +kernel
theorem dX2_readSign_26 : decode cX2_readSign 26 = .ok (.dup, 1) := by decide +kernel
theorem dX2_readSign_27 : decode cX2_readSign 27 = .ok (.getfield 19, 3) := by decide +kernel
theorem dX2_readSign_30 : decode cX2_readSign 30 = .ok (.iconst 1, 1) := by decide +kernel
theorem dX2_readSign_31 : decode cX2_readSign 31 = .ok (.iadd, 1) := by decide +kernel
theorem dX2_readSign_32 : decode cX2_readSign 32 = .ok (.putfield 19, 3) := by decide +kernel
theorem dX2_readSign_35 : decode cX2_readSign 35 = .ok (.iconst 1, 1) := by decide +kernel
theorem dX2_readSign_36 : decode cX2_readSign 36 = .ok (.ireturn, 1) := by decide +kernel
theorem dX3_init_0 : decode cX3_init 0 = .ok (.aload_n 0, 1) := by decide +kernel
theorem dX3_init_1 : decode cX3_init 1 = .ok (.invokespecial 3, 3) := by decide +kernel
theorem dX3_init_4 : decode cX3_init 4 = .ok (.aload_n 0, 1) := by decide +kernel
theorem dX3_init_5 : decode cX3_init 5 = .ok (.bipush 8, 2) := by decide +kernel
theorem dX3_init_7 : decode cX3_init 7 = .ok (.newarray .int, 2) := by decide +kernel
theorem dX3_init_9 : decode cX3_init 9 = .ok (.putfield 9, 3) := by decide +kernel
theorem dX3_init_12 : decode cX3_init 12 = .ok (.aload_n 0, 1) := by decide +kernel
theorem dX3_init_13 : decode cX3_init 13 = .ok (.bipush 16, 2) := by decide +kernel
theorem dX3_init_15 : decode cX3_init 15 = .ok (.newarray .int, 2) := by decide +kernel
theorem dX3_init_17 : decode cX3_init 17 = .ok (.putfield 15, 3) := by decide +kernel
theorem dX3_init_20 : decode cX3_init 20 = .ok (.return_, 1) := by decide +kernel
theorem dX3_take_0 : decode cX3_take 0 = .ok (.aload_n 0, 1) := by decide +kernel
theorem dX3_take_1 : decode cX3_take 1 = .ok (.aload_n 1, 1) := by decide +kernel
theorem dX3_take_2 : decode cX3_take 2 = .ok (.getfield 18, 3) := by decide +kernel
theorem dX3_take_5 : decode cX3_take 5 = .ok (.putfield 24, 3) := by decide +kernel
theorem dX3_take_8 : decode cX3_take 8 = .ok (.aload_n 0, 1) := by decide +kernel
theorem dX3_take_9 : decode cX3_take 9 = .ok (.aload_n 1, 1) := by decide +kernel
theorem dX3_take_10 : decode cX3_take 10 = .ok (.getfield 25, 3) := by decide +kernel
theorem dX3_take_13 : decode cX3_take 13 = .ok (.putfield 28, 3) := by decide +kernel
theorem dX3_take_16 : decode cX3_take 16 = .ok (.aload_n 0, 1) := by decide +kernel
theorem dX3_take_17 : decode cX3_take 17 = .ok (.aload_n 1, 1) := by decide +kernel
theorem dX3_take_18 : decode cX3_take 18 = .ok (.getfield 29, 3) := by decide +kernel
theorem dX3_take_21 : decode cX3_take 21 = .ok (.putfield 32, 3) := by decide +kernel
theorem dX3_take_24 : decode cX3_take 24 = .ok (.aload_n 0, 1) := by decide +kernel
theorem dX3_take_25 : decode cX3_take 25 = .ok (.aload_n 1, 1) := by decide +kernel
theorem dX3_take_26 : decode cX3_take 26 = .ok (.getfield 33, 3) := by decide +kernel
theorem dX3_take_29 : decode cX3_take 29 = .ok (.putfield 36, 3) := by decide +kernel
theorem dX3_take_32 : decode cX3_take 32 = .ok (.iconst 0, 1) := by decide +kernel
theorem dX3_take_33 : decode cX3_take 33 = .ok (.istore_n 2, 1) := by decide +kernel
theorem dX3_take_34 : decode cX3_take 34 = .ok (.iload_n 2, 1) := by decide +kernel
theorem dX3_take_35 : decode cX3_take 35 = .ok (.aload_n 1, 1) := by decide +kernel
theorem dX3_take_36 : decode cX3_take 36 = .ok (.invokevirtual 37, 3) := by decide +kernel
theorem dX3_take_39 : decode cX3_take 39 = .ok (.if_icmp .ge 47, 3) := by decide +kernel
theorem dX3_take_42 : decode cX3_take 42 = .ok (.iload_n 2, 1) := by decide +kernel
theorem dX3_take_43 : decode cX3_take 43 = .ok (.bipush 8, 2) := by decide +kernel
theorem dX3_take_45 : decode cX3_take 45 = .ok (.if_icmp .ge 41, 3) := by decide +kernel
theorem dX3_take_48 : decode cX3_take 48 = .ok (.aload_n 0, 1) := by decide +kernel
theorem dX3_take_49 : decode cX3_take 49 = .ok (.getfield 9, 3) := by decide +kernel
theorem dX3_take_52 : decode cX3_take 52 = .ok (.iload_n 2, 1) := by decide +kernel
theorem dX3_take_53 : decode cX3_take 53 = .ok (.aload_n 1, 1) := by decide +kernel
theorem dX3_take_54 : decode cX3_take 54 = .ok (.iload_n 2, 1) := by decide +kernel
theorem dX3_take_55 : decode cX3_take 55 = .ok (.invokevirtual 41, 3) := by decide +kernel
theorem dX3_take_58 : decode cX3_take 58 = .ok (.aload_n 1, 1) := by decide +kernel
theorem dX3_take_59 : decode cX3_take 59 = .ok (.getfield 45, 3) := by decide +kernel
theorem dX3_take_62 : decode cX3_take 62 = .ok (.iload_n 2, 1) := by decide +kernel
theorem dX3_take_63 : decode cX3_take 63 = .ok (.iaload, 1) := by decide +kernel
theorem dX3_take_64 : decode cX3_take 64 = .ok (.aload_n 1, 1) := by decide +kernel
theorem dX3_take_65 : decode cX3_take 65 = .ok (.getfield 48, 3) := by decide +kernel
theorem dX3_take_68 : decode cX3_take 68 = .ok (.iload_n 2, 1) := by decide +kernel
theorem dX3_take_69 : decode cX3_take 69 = .ok (.iaload, 1) := by decide +kernel
theorem dX3_take_70 : decode cX3_take 70 = .ok (.aload_n 1, 1) := by decide +kernel
theorem dX3_take_71 : decode cX3_take 71 = .ok (.getfield 51, 3) := by decide +kernel
theorem dX3_take_74 : decode cX3_take 74 = .ok (.iload_n 2, 1) := by decide +kernel
theorem dX3_take_75 : decode cX3_take 75 = .ok (.iaload, 1) := by decide +kernel
theorem dX3_take_76 : decode cX3_take 76 = .ok (.invokestatic 54, 3) := by decide +kernel
theorem dX3_take_79 : decode cX3_take 79 = .ok (.iastore, 1) := by decide +kernel
theorem dX3_take_80 : decode cX3_take 80 = .ok (.iinc 2 1, 3) := by decide +kernel
theorem dX3_take_83 : decode cX3_take 83 = .ok (.goto (-49), 3) := by decide +kernel
theorem dX3_take_86 : decode cX3_take 86 = .ok (.return_, 1) := by decide +kernel
theorem dX3_countWith_0 : decode cX3_countWith 0 = .ok (.iload_n 1, 1) := by decide +kernel
theorem dX3_countWith_1 : decode cX3_countWith 1 = .ok (.ifCond .lt 9, 3) := by decide +kernel
theorem dX3_countWith_4 : decode cX3_countWith 4 = .ok (.iload_n 1, 1) := by decide +kernel
theorem dX3_countWith_5 : decode cX3_countWith 5 = .ok (.bipush 8, 2) := by decide +kernel
theorem dX3_countWith_7 : decode cX3_countWith 7 = .ok (.if_icmp .lt 5, 3) := by decide +kernel
theorem dX3_countWith_10 : decode cX3_countWith 10 = .ok (.iconst 0, 1) := by decide +kernel
theorem dX3_countWith_11 : decode cX3_countWith 11 = .ok (.ireturn, 1) := by decide +kernel
theorem dX3_countWith_12 : decode cX3_countWith 12 = .ok (.aload_n 0, 1) := by decide +kernel
theorem dX3_countWith_13 : decode cX3_countWith 13 = .ok (.getfield 9, 3) := by decide +kernel
theorem dX3_countWith_16 : decode cX3_countWith 16 = .ok (.iload_n 1, 1) := by decide +kernel
theorem dX3_countWith_17 : decode cX3_countWith 17 = .ok (.iaload, 1) := by decide +kernel
theorem dX3_countWith_18 : decode cX3_countWith 18 = .ok (.istore 4, 2) := by decide +kernel
theorem dX3_countWith_20 : decode cX3_countWith 20 = .ok (.aload_n 0, 1) := by decide +kernel
theorem dX3_countWith_21 : decode cX3_countWith 21 = .ok (.getfield 9, 3) := by decide +kernel
theorem dX3_countWith_24 : decode cX3_countWith 24 = .ok (.iload_n 1, 1) := by decide +kernel
theorem dX3_countWith_25 : decode cX3_countWith 25 = .ok (.iload_n 2, 1) := by decide +kernel
theorem dX3_countWith_26 : decode cX3_countWith 26 = .ok (.iastore, 1) := by decide +kernel
theorem dX3_countWith_27 : decode cX3_countWith 27 = .ok (.aload_n 0, 1) := by decide +kernel
theorem dX3_countWith_28 : decode cX3_countWith 28 = .ok (.iload_n 3, 1) := by decide +kernel
theorem dX3_countWith_29 : decode cX3_countWith 29 = .ok (.aconst_null, 1) := by decide +kernel
theorem dX3_countWith_30 : decode cX3_countWith 30 = .ok (.invokevirtual 60, 3) := by decide +kernel
theorem dX3_countWith_33 : decode cX3_countWith 33 = .ok (.aload_n 0, 1) := by decide +kernel
theorem dX3_countWith_34 : decode cX3_countWith 34 = .ok (.getfield 9, 3) := by decide +kernel
theorem dX3_countWith_37 : decode cX3_countWith 37 = .ok (.iload_n 1, 1) := by decide +kernel
theorem dX3_countWith_38 : decode cX3_countWith 38 = .ok (.iload 4, 2) := by decide +kernel
theorem dX3_countWith_40 : decode cX3_countWith 40 = .ok (.iastore, 1) := by decide +kernel
theorem dX3_countWith_41 : decode cX3_countWith 41 = .ok (.aload_n 0, 1) := by decide +kernel
theorem dX3_countWith_42 : decode cX3_countWith 42 = .ok (.getfield 64, 3) := by decide +kernel
theorem dX3_countWith_45 : decode cX3_countWith 45 = .ok (.ireturn, 1) := by decide +kernel
theorem dX3_run_0 : decode cX3_run 0 = .ok (.aload_n 0, 1) := by decide +kernel
theorem dX3_run_1 : decode cX3_run 1 = .ok (.iload_n 1, 1) := by decide +kernel
theorem dX3_run_2 : decode cX3_run 2 = .ok (.putfield 67, 3) := by decide +kernel
theorem dX3_run_5 : decode cX3_run 5 = .ok (.aload_n 0, 1) := by decide +kernel
theorem dX3_run_6 : decode cX3_run 6 = .ok (.iconst 0, 1) := by decide +kernel
theorem dX3_run_7 : decode cX3_run 7 = .ok (.putfield 64, 3) := by decide +kernel
theorem dX3_run_10 : decode cX3_run 10 = .ok (.iconst 0, 1) := by decide +kernel
theorem dX3_run_11 : decode cX3_run 11 = .ok (.istore_n 3, 1) := by decide +kernel
theorem dX3_run_12 : decode cX3_run 12 = .ok (.iload_n 3, 1) := by decide +kernel
theorem dX3_run_13 : decode cX3_run 13 = .ok (.aload_n 0, 1) := by decide +kernel
theorem dX3_run_14 : decode cX3_run 14 = .ok (.getfield 28, 3) := by decide +kernel
theorem dX3_run_17 : decode cX3_run 17 = .ok (.if_icmp .ge 34, 3) := by decide +kernel
theorem dX3_run_20 : decode cX3_run 20 = .ok (.iconst 0, 1) := by decide +kernel
theorem dX3_run_21 : decode cX3_run 21 = .ok (.istore 4, 2) := by decide +kernel
theorem dX3_run_23 : decode cX3_run 23 = .ok (.iload 4, 2) := by decide +kernel
theorem dX3_run_25 : decode cX3_run 25 = .ok (.aload_n 0, 1) := by decide +kernel
theorem dX3_run_26 : decode cX3_run 26 = .ok (.getfield 24, 3) := by decide +kernel
theorem dX3_run_29 : decode cX3_run 29 = .ok (.if_icmp .ge 16, 3) := by decide +kernel
theorem dX3_run_32 : decode cX3_run 32 = .ok (.aload_n 0, 1) := by decide +kernel
theorem dX3_run_33 : decode cX3_run 33 = .ok (.iload 4, 2) := by decide +kernel
theorem dX3_run_35 : decode cX3_run 35 = .ok (.iload_n 3, 1) := by decide +kernel
theorem dX3_run_36 : decode cX3_run 36 = .ok (.invokevirtual 70, 3) := by decide +kernel
theorem dX3_run_39 : decode cX3_run 39 = .ok (.iinc 4 1, 3) := by decide +kernel
theorem dX3_run_42 : decode cX3_run 42 = .ok (.goto (-19), 3) := by decide +kernel
theorem dX3_run_45 : decode cX3_run 45 = .ok (.iinc 3 1, 3) := by decide +kernel
theorem dX3_run_48 : decode cX3_run 48 = .ok (.goto (-36), 3) := by decide +kernel
theorem dX3_run_51 : decode cX3_run 51 = .ok (.aload_n 0, 1) := by decide +kernel
theorem dX3_run_52 : decode cX3_run 52 = .ok (.aload_n 0, 1) := by decide +kernel
theorem dX3_run_53 : decode cX3_run 53 = .ok (.getfield 24, 3) := by decide +kernel
theorem dX3_run_56 : decode cX3_run 56 = .ok (.iconst 1, 1) := by decide +kernel
theorem dX3_run_57 : decode cX3_run 57 = .ok (.isub, 1) := by decide +kernel
theorem dX3_run_58 : decode cX3_run 58 = .ok (.iconst 0, 1) := by decide +kernel
theorem dX3_run_59 : decode cX3_run 59 = .ok (.iconst 0, 1) := by decide +kernel
theorem dX3_run_60 : decode cX3_run 60 = .ok (.aload_n 2, 1) := by decide +kernel
theorem dX3_run_61 : decode cX3_run 61 = .ok (.invokevirtual 74, 3) := by decide +kernel
theorem dX3_run_64 : decode cX3_run 64 = .ok (.return_, 1) := by decide +kernel
theorem dX3_openColumn_0 : decode cX3_openColumn 0 = .ok (.aload_n 0, 1) := by decide +kernel
theorem dX3_openColumn_1 : decode cX3_openColumn 1 = .ok (.getfield 24, 3) := by decide +kernel
theorem dX3_openColumn_4 : decode cX3_openColumn 4 = .ok (.iload_n 2, 1) := by decide +kernel
theorem dX3_openColumn_5 : decode cX3_openColumn 5 = .ok (.iadd, 1) := by decide +kernel
theorem dX3_openColumn_6 : decode cX3_openColumn 6 = .ok (.istore_n 3, 1) := by decide +kernel
theorem dX3_openColumn_7 : decode cX3_openColumn 7 = .ok (.iload_n 1, 1) := by decide +kernel
theorem dX3_openColumn_8 : decode cX3_openColumn 8 = .ok (.iconst 4, 1) := by decide +kernel
theorem dX3_openColumn_9 : decode cX3_openColumn 9 = .ok (.imul, 1) := by decide +kernel
theorem dX3_openColumn_10 : decode cX3_openColumn 10 = .ok (.iload_n 2, 1) := by decide +kernel
theorem dX3_openColumn_11 : decode cX3_openColumn 11 = .ok (.iadd, 1) := by decide +kernel
theorem dX3_openColumn_12 : decode cX3_openColumn 12 = .ok (.istore 4, 2) := by decide +kernel
theorem dX3_openColumn_14 : decode cX3_openColumn 14 = .ok (.iload_n 3, 1) := by decide +kernel
theorem dX3_openColumn_15 : decode cX3_openColumn 15 = .ok (.bipush 8, 2) := by decide +kernel
theorem dX3_openColumn_17 : decode cX3_openColumn 17 = .ok (.if_icmp .ge 10, 3) := by decide +kernel
theorem dX3_openColumn_20 : decode cX3_openColumn 20 = .ok (.iload 4, 2) := by decide +kernel
theorem dX3_openColumn_22 : decode cX3_openColumn 22 = .ok (.bipush 16, 2) := by decide +kernel
theorem dX3_openColumn_24 : decode cX3_openColumn 24 = .ok (.if_icmp .lt 4, 3) := by decide +kernel
theorem dX3_openColumn_27 : decode cX3_openColumn 27 = .ok (.return_, 1) := by decide +kernel
theorem dX3_openColumn_28 : decode cX3_openColumn 28 = .ok (.iconst 0, 1) := by decide +kernel
theorem dX3_openColumn_29 : decode cX3_openColumn 29 = .ok (.istore 5, 2) := by decide +kernel
theorem dX3_openColumn_31 : decode cX3_openColumn 31 = .ok (.iconst 0, 1) := by decide +kernel
theorem dX3_openColumn_32 : decode cX3_openColumn 32 = .ok (.istore 6, 2) := by decide +kernel
theorem dX3_openColumn_34 : decode cX3_openColumn 34 = .ok (.iload 6, 2) := by decide +kernel
theorem dX3_openColumn_36 : decode cX3_openColumn 36 = .ok (.iconst 1, 1) := by decide +kernel
theorem dX3_openColumn_37 : decode cX3_openColumn 37 = .ok (.aload_n 0, 1) := by decide +kernel
theorem dX3_openColumn_38 : decode cX3_openColumn 38 = .ok (.getfield 24, 3) := by decide +kernel
theorem dX3_openColumn_41 : decode cX3_openColumn 41 = .ok (.ishl, 1) := by decide +kernel
theorem dX3_openColumn_42 : decode cX3_openColumn 42 = .ok (.if_icmp .ge 36, 3) := by decide +kernel
theorem dX3_openColumn_45 : decode cX3_openColumn 45 = .ok (.aload_n 0, 1) := by decide +kernel
theorem dX3_openColumn_46 : decode cX3_openColumn 46 = .ok (.getfield 9, 3) := by decide +kernel
theorem dX3_openColumn_49 : decode cX3_openColumn 49 = .ok (.iload_n 3, 1) := by decide +kernel
theorem dX3_openColumn_50 : decode cX3_openColumn 50 = .ok (.iaload, 1) := by decide +kernel
theorem dX3_openColumn_51 : decode cX3_openColumn 51 = .ok (.iload 6, 2) := by decide +kernel
theorem dX3_openColumn_53 : decode cX3_openColumn 53 = .ok (.ishr, 1) := by decide +kernel
theorem dX3_openColumn_54 : decode cX3_openColumn 54 = .ok (.iconst 1, 1) := by decide +kernel
theorem dX3_openColumn_55 : decode cX3_openColumn 55 = .ok (.iand, 1) := by decide +kernel
theorem dX3_openColumn_56 : decode cX3_openColumn 56 = .ok (.ifCond .eq 16, 3) := by decide +kernel
theorem dX3_openColumn_59 : decode cX3_openColumn 59 = .ok (.iload 5, 2) := by decide +kernel
theorem dX3_openColumn_61 : decode cX3_openColumn 61 = .ok (.iconst 1, 1) := by decide +kernel
theorem dX3_openColumn_62 : decode cX3_openColumn 62 = .ok (.iload 6, 2) := by decide +kernel
theorem dX3_openColumn_64 : decode cX3_openColumn 64 = .ok (.iload_n 1, 1) := by decide +kernel
theorem dX3_openColumn_65 : decode cX3_openColumn 65 = .ok (.ishr, 1) := by decide +kernel
theorem dX3_openColumn_66 : decode cX3_openColumn 66 = .ok (.iload_n 1, 1) := by decide +kernel
theorem dX3_openColumn_67 : decode cX3_openColumn 67 = .ok (.ishl, 1) := by decide +kernel
theorem dX3_openColumn_68 : decode cX3_openColumn 68 = .ok (.ishl, 1) := by decide +kernel
theorem dX3_openColumn_69 : decode cX3_openColumn 69 = .ok (.ior, 1) := by decide +kernel
theorem dX3_openColumn_70 : decode cX3_openColumn 70 = .ok (.istore 5, 2) := by decide +kernel
theorem dX3_openColumn_72 : decode cX3_openColumn 72 = .ok (.iinc 6 1, 3) := by decide +kernel
theorem dX3_openColumn_75 : decode cX3_openColumn 75 = .ok (.goto (-41), 3) := by decide +kernel
theorem dX3_openColumn_78 : decode cX3_openColumn 78 = .ok (.aload_n 0, 1) := by decide +kernel
theorem dX3_openColumn_79 : decode cX3_openColumn 79 = .ok (.getfield 15, 3) := by decide +kernel
theorem dX3_openColumn_82 : decode cX3_openColumn 82 = .ok (.iload 4, 2) := by decide +kernel
theorem dX3_openColumn_84 : decode cX3_openColumn 84 = .ok (.iload 5, 2) := by decide +kernel
theorem dX3_openColumn_86 : decode cX3_openColumn 86 = .ok (.iastore, 1) := by decide +kernel
theorem dX3_openColumn_87 : decode cX3_openColumn 87 = .ok (.return_, 1) := by decide +kernel
theorem dX3_lay_0 : decode cX3_lay 0 = .ok (.iload_n 1, 1) := by decide +kernel
theorem dX3_lay_1 : decode cX3_lay 1 = .ok (.iconst 4, 1) := by decide +kernel
theorem dX3_lay_2 : decode cX3_lay 2 = .ok (.if_icmp .lt 4, 3) := by decide +kernel
theorem dX3_lay_5 : decode cX3_lay 5 = .ok (.return_, 1) := by decide +kernel
theorem dX3_lay_6 : decode cX3_lay 6 = .ok (.iload_n 1, 1) := by decide +kernel
theorem dX3_lay_7 : decode cX3_lay 7 = .ok (.ifCond .ge 25, 3) := by decide +kernel
theorem dX3_lay_10 : decode cX3_lay 10 = .ok (.aload_n 0, 1) := by decide +kernel
theorem dX3_lay_11 : decode cX3_lay 11 = .ok (.dup, 1) := by decide +kernel
theorem dX3_lay_12 : decode cX3_lay 12 = .ok (.getfield 64, 3) := by decide +kernel
theorem dX3_lay_15 : decode cX3_lay 15 = .ok (.iconst 1, 1) := by decide +kernel
theorem dX3_lay_16 : decode cX3_lay 16 = .ok (.iadd, 1) := by decide +kernel
theorem dX3_lay_17 : decode cX3_lay 17 = .ok (.putfield 64, 3) := by decide +kernel
theorem dX3_lay_20 : decode cX3_lay 20 = .ok (.aload 4, 2) := by decide +kernel
theorem dX3_lay_22 : decode cX3_lay 22 = .ok (.ifnull 9, 3) := by decide +kernel
theorem dX3_lay_25 : decode cX3_lay 25 = .ok (.aload 4, 2) := by decide +kernel
theorem dX3_lay_27 : decode cX3_lay 27 = .ok (.iload_n 2, 1) := by decide +kernel
theorem dX3_lay_28 : decode cX3_lay 28 = .ok (.invokevirtual 78, 3) := by decide +kernel
theorem dX3_lay_31 : decode cX3_lay 31 = .ok (.return_, 1) := by decide +kernel
theorem dX3_lay_32 : decode cX3_lay 32 = .ok (.iconst 1, 1) := by decide +kernel
theorem dX3_lay_33 : decode cX3_lay 33 = .ok (.aload_n 0, 1) := by decide +kernel
theorem dX3_lay_34 : decode cX3_lay 34 = .ok (.getfield 28, 3) := by decide +kernel
theorem dX3_lay_37 : decode cX3_lay 37 = .ok (.ishl, 1) := by decide +kernel
theorem dX3_lay_38 : decode cX3_lay 38 = .ok (.iconst 1, 1) := by decide +kernel
theorem dX3_lay_39 : decode cX3_lay 39 = .ok (.isub, 1) := by decide +kernel
theorem dX3_lay_40 : decode cX3_lay 40 = .ok (.istore 5, 2) := by decide +kernel
theorem dX3_lay_42 : decode cX3_lay 42 = .ok (.aload_n 0, 1) := by decide +kernel
theorem dX3_lay_43 : decode cX3_lay 43 = .ok (.getfield 32, 3) := by decide +kernel
theorem dX3_lay_46 : decode cX3_lay 46 = .ok (.iload_n 1, 1) := by decide +kernel
theorem dX3_lay_47 : decode cX3_lay 47 = .ok (.aload_n 0, 1) := by decide +kernel
theorem dX3_lay_48 : decode cX3_lay 48 = .ok (.getfield 28, 3) := by decide +kernel
theorem dX3_lay_51 : decode cX3_lay 51 = .ok (.imul, 1) := by decide +kernel
theorem dX3_lay_52 : decode cX3_lay 52 = .ok (.ishr, 1) := by decide +kernel
theorem dX3_lay_53 : decode cX3_lay 53 = .ok (.iload 5, 2) := by decide +kernel
theorem dX3_lay_55 : decode cX3_lay 55 = .ok (.iand, 1) := by decide +kernel
theorem dX3_lay_56 : decode cX3_lay 56 = .ok (.istore 6, 2) := by decide +kernel
theorem dX3_lay_58 : decode cX3_lay 58 = .ok (.aload_n 0, 1) := by decide +kernel
theorem dX3_lay_59 : decode cX3_lay 59 = .ok (.getfield 36, 3) := by decide +kernel
theorem dX3_lay_62 : decode cX3_lay 62 = .ok (.iload_n 1, 1) := by decide +kernel
theorem dX3_lay_63 : decode cX3_lay 63 = .ok (.aload_n 0, 1) := by decide +kernel
theorem dX3_lay_64 : decode cX3_lay 64 = .ok (.getfield 28, 3) := by decide +kernel
theorem dX3_lay_67 : decode cX3_lay 67 = .ok (.imul, 1) := by decide +kernel
theorem dX3_lay_68 : decode cX3_lay 68 = .ok (.ishr, 1) := by decide +kernel
theorem dX3_lay_69 : decode cX3_lay 69 = .ok (.iload 5, 2) := by decide +kernel
theorem dX3_lay_71 : decode cX3_lay 71 = .ok (.iand, 1) := by decide +kernel
theorem dX3_lay_72 : decode cX3_lay 72 = .ok (.istore 7, 2) := by decide +kernel
theorem dX3_lay_74 : decode cX3_lay 74 = .ok (.iconst 0, 1) := by decide +kernel
theorem dX3_lay_75 : decode cX3_lay 75 = .ok (.istore 8, 2) := by decide +kernel
theorem dX3_lay_77 : decode cX3_lay 77 = .ok (.iload 8, 2) := by decide +kernel
theorem dX3_lay_79 : decode cX3_lay 79 = .ok (.iload 5, 2) := by decide +kernel
theorem dX3_lay_81 : decode cX3_lay 81 = .ok (.if_icmp .gt 101, 3) := by decide +kernel
theorem dX3_lay_84 : decode cX3_lay 84 = .ok (.aload_n 0, 1) := by decide +kernel
theorem dX3_lay_85 : decode cX3_lay 85 = .ok (.getfield 64, 3) := by decide +kernel
theorem dX3_lay_88 : decode cX3_lay 88 = .ok (.aload_n 0, 1) := by decide +kernel
theorem dX3_lay_89 : decode cX3_lay 89 = .ok (.getfield 67, 3) := by decide +kernel
theorem dX3_lay_92 : decode cX3_lay 92 = .ok (.if_icmp .ge 90, 3) := by decide +kernel
theorem dX3_lay_95 : decode cX3_lay 95 = .ok (.aload_n 0, 1) := by decide +kernel
theorem dX3_lay_96 : decode cX3_lay 96 = .ok (.getfield 9, 3) := by decide +kernel
theorem dX3_lay_99 : decode cX3_lay 99 = .ok (.iload_n 1, 1) := by decide +kernel
theorem dX3_lay_100 : decode cX3_lay 100 = .ok (.iaload, 1) := by decide +kernel
theorem dX3_lay_101 : decode cX3_lay 101 = .ok (.iload 8, 2) := by decide +kernel
theorem dX3_lay_103 : decode cX3_lay 103 = .ok (.ishr, 1) := by decide +kernel
theorem dX3_lay_104 : decode cX3_lay 104 = .ok (.iconst 1, 1) := by decide +kernel
theorem dX3_lay_105 : decode cX3_lay 105 = .ok (.iand, 1) := by decide +kernel
theorem dX3_lay_106 : decode cX3_lay 106 = .ok (.ifCond .ne 6, 3) := by decide +kernel
theorem dX3_lay_109 : decode cX3_lay 109 = .ok (.goto 67, 3) := by decide +kernel
theorem dX3_lay_112 : decode cX3_lay 112 = .ok (.iload 8, 2) := by decide +kernel
theorem dX3_lay_114 : decode cX3_lay 114 = .ok (.iload 6, 2) := by decide +kernel
theorem dX3_lay_116 : decode cX3_lay 116 = .ok (.iand, 1) := by decide +kernel
theorem dX3_lay_117 : decode cX3_lay 117 = .ok (.iload 6, 2) := by decide +kernel
theorem dX3_lay_119 : decode cX3_lay 119 = .ok (.if_icmp .ne 57, 3) := by decide +kernel
theorem dX3_lay_122 : decode cX3_lay 122 = .ok (.iload 8, 2) := by decide +kernel
theorem dX3_lay_124 : decode cX3_lay 124 = .ok (.iload 7, 2) := by decide +kernel
theorem dX3_lay_126 : decode cX3_lay 126 = .ok (.iand, 1) := by decide +kernel
theorem dX3_lay_127 : decode cX3_lay 127 = .ok (.ifCond .eq 6, 3) := by decide +kernel
theorem dX3_lay_130 : decode cX3_lay 130 = .ok (.goto 46, 3) := by decide +kernel
theorem dX3_lay_133 : decode cX3_lay 133 = .ok (.iload_n 3, 1) := by decide +kernel
theorem dX3_lay_134 : decode cX3_lay 134 = .ok (.iload 8, 2) := by decide +kernel
theorem dX3_lay_136 : decode cX3_lay 136 = .ok (.invokestatic 84, 3) := by decide +kernel
theorem dX3_lay_139 : decode cX3_lay 139 = .ok (.iload_n 1, 1) := by decide +kernel
theorem dX3_lay_140 : decode cX3_lay 140 = .ok (.ishl, 1) := by decide +kernel
theorem dX3_lay_141 : decode cX3_lay 141 = .ok (.ior, 1) := by decide +kernel
theorem dX3_lay_142 : decode cX3_lay 142 = .ok (.istore 9, 2) := by decide +kernel
theorem dX3_lay_144 : decode cX3_lay 144 = .ok (.aload_n 0, 1) := by decide +kernel
theorem dX3_lay_145 : decode cX3_lay 145 = .ok (.iload_n 1, 1) := by decide +kernel
theorem dX3_lay_146 : decode cX3_lay 146 = .ok (.iload 9, 2) := by decide +kernel
theorem dX3_lay_148 : decode cX3_lay 148 = .ok (.invokevirtual 87, 3) := by decide +kernel
theorem dX3_lay_151 : decode cX3_lay 151 = .ok (.ifCond .eq 25, 3) := by decide +kernel
theorem dX3_lay_154 : decode cX3_lay 154 = .ok (.aload_n 0, 1) := by decide +kernel
theorem dX3_lay_155 : decode cX3_lay 155 = .ok (.iload_n 1, 1) := by decide +kernel
theorem dX3_lay_156 : decode cX3_lay 156 = .ok (.iconst 1, 1) := by decide +kernel
theorem dX3_lay_157 : decode cX3_lay 157 = .ok (.isub, 1) := by decide +kernel
theorem dX3_lay_158 : decode cX3_lay 158 = .ok (.iload_n 2, 1) := by decide +kernel
theorem dX3_lay_159 : decode cX3_lay 159 = .ok (.iload 8, 2) := by decide +kernel
theorem dX3_lay_161 : decode cX3_lay 161 = .ok (.iload_n 1, 1) := by decide +kernel
theorem dX3_lay_162 : decode cX3_lay 162 = .ok (.aload_n 0, 1) := by decide +kernel
theorem dX3_lay_163 : decode cX3_lay 163 = .ok (.getfield 28, 3) := by decide +kernel
theorem dX3_lay_166 : decode cX3_lay 166 = .ok (.imul, 1) := by decide +kernel
theorem dX3_lay_167 : decode cX3_lay 167 = .ok (.ishl, 1) := by decide +kernel
theorem dX3_lay_168 : decode cX3_lay 168 = .ok (.ior, 1) := by decide +kernel
theorem dX3_lay_169 : decode cX3_lay 169 = .ok (.iload 9, 2) := by decide +kernel
theorem dX3_lay_171 : decode cX3_lay 171 = .ok (.aload 4, 2) := by decide +kernel
theorem dX3_lay_173 : decode cX3_lay 173 = .ok (.invokevirtual 74, 3) := by decide +kernel
theorem dX3_lay_176 : decode cX3_lay 176 = .ok (.iinc 8 1, 3) := by decide +kernel
theorem dX3_lay_179 : decode cX3_lay 179 = .ok (.goto (-102), 3) := by decide +kernel
theorem dX3_lay_182 : decode cX3_lay 182 = .ok (.return_, 1) := by decide +kernel
theorem dX3_spread_0 : decode cX3_spread 0 = .ok (.iload_n 0, 1) := by decide +kernel
theorem dX3_spread_1 : decode cX3_spread 1 = .ok (.iconst 1, 1) := by decide +kernel
theorem dX3_spread_2 : decode cX3_spread 2 = .ok (.iand, 1) := by decide +kernel
theorem dX3_spread_3 : decode cX3_spread 3 = .ok (.iload_n 0, 1) := by decide +kernel
theorem dX3_spread_4 : decode cX3_spread 4 = .ok (.iconst 2, 1) := by decide +kernel
theorem dX3_spread_5 : decode cX3_spread 5 = .ok (.iand, 1) := by decide +kernel
theorem dX3_spread_6 : decode cX3_spread 6 = .ok (.iconst 3, 1) := by decide +kernel
theorem dX3_spread_7 : decode cX3_spread 7 = .ok (.ishl, 1) := by decide +kernel
theorem dX3_spread_8 : decode cX3_spread 8 = .ok (.ior, 1) := by decide +kernel
theorem dX3_spread_9 : decode cX3_spread 9 = .ok (.iload_n 0, 1) := by decide +kernel
theorem dX3_spread_10 : decode cX3_spread 10 = .ok (.iconst 4, 1) := by decide +kernel
theorem dX3_spread_11 : decode cX3_spread 11 = .ok (.iand, 1) := by decide +kernel
theorem dX3_spread_12 : decode cX3_spread 12 = .ok (.bipush 6, 2) := by decide +kernel
theorem dX3_spread_14 : decode cX3_spread 14 = .ok (.ishl, 1) := by decide +kernel
theorem dX3_spread_15 : decode cX3_spread 15 = .ok (.ior, 1) := by decide +kernel
theorem dX3_spread_16 : decode cX3_spread 16 = .ok (.iload_n 0, 1) := by decide +kernel
theorem dX3_spread_17 : decode cX3_spread 17 = .ok (.bipush 8, 2) := by decide +kernel
theorem dX3_spread_19 : decode cX3_spread 19 = .ok (.iand, 1) := by decide +kernel
theorem dX3_spread_20 : decode cX3_spread 20 = .ok (.bipush 9, 2) := by decide +kernel
theorem dX3_spread_22 : decode cX3_spread 22 = .ok (.ishl, 1) := by decide +kernel
theorem dX3_spread_23 : decode cX3_spread 23 = .ok (.ior, 1) := by decide +kernel
theorem dX3_spread_24 : decode cX3_spread 24 = .ok (.ireturn, 1) := by decide +kernel
theorem dX3_canGoOn_0 : decode cX3_canGoOn 0 = .ok (.iconst 0, 1) := by decide +kernel
theorem dX3_canGoOn_1 : decode cX3_canGoOn 1 = .ok (.istore_n 3, 1) := by decide +kernel
theorem dX3_canGoOn_2 : decode cX3_canGoOn 2 = .ok (.iload_n 3, 1) := by decide +kernel
theorem dX3_canGoOn_3 : decode cX3_canGoOn 3 = .ok (.aload_n 0, 1) := by decide +kernel
theorem dX3_canGoOn_4 : decode cX3_canGoOn 4 = .ok (.getfield 28, 3) := by decide +kernel
theorem dX3_canGoOn_7 : decode cX3_canGoOn 7 = .ok (.if_icmp .ge 55, 3) := by decide +kernel
theorem dX3_canGoOn_10 : decode cX3_canGoOn 10 = .ok (.iload_n 3, 1) := by decide +kernel
theorem dX3_canGoOn_11 : decode cX3_canGoOn 11 = .ok (.iconst 4, 1) := by decide +kernel
theorem dX3_canGoOn_12 : decode cX3_canGoOn 12 = .ok (.if_icmp .ge 50, 3) := by decide +kernel
theorem dX3_canGoOn_15 : decode cX3_canGoOn 15 = .ok (.iload_n 2, 1) := by decide +kernel
theorem dX3_canGoOn_16 : decode cX3_canGoOn 16 = .ok (.iload_n 3, 1) := by decide +kernel
theorem dX3_canGoOn_17 : decode cX3_canGoOn 17 = .ok (.iconst 4, 1) := by decide +kernel
theorem dX3_canGoOn_18 : decode cX3_canGoOn 18 = .ok (.imul, 1) := by decide +kernel
theorem dX3_canGoOn_19 : decode cX3_canGoOn 19 = .ok (.ishr, 1) := by decide +kernel
theorem dX3_canGoOn_20 : decode cX3_canGoOn 20 = .ok (.bipush 15, 2) := by decide +kernel
theorem dX3_canGoOn_22 : decode cX3_canGoOn 22 = .ok (.iand, 1) := by decide +kernel
theorem dX3_canGoOn_23 : decode cX3_canGoOn 23 = .ok (.istore 4, 2) := by decide +kernel
theorem dX3_canGoOn_25 : decode cX3_canGoOn 25 = .ok (.iload_n 1, 1) := by decide +kernel
theorem dX3_canGoOn_26 : decode cX3_canGoOn 26 = .ok (.iconst 4, 1) := by decide +kernel
theorem dX3_canGoOn_27 : decode cX3_canGoOn 27 = .ok (.imul, 1) := by decide +kernel
theorem dX3_canGoOn_28 : decode cX3_canGoOn 28 = .ok (.iload_n 3, 1) := by decide +kernel
theorem dX3_canGoOn_29 : decode cX3_canGoOn 29 = .ok (.iadd, 1) := by decide +kernel
theorem dX3_canGoOn_30 : decode cX3_canGoOn 30 = .ok (.istore 5, 2) := by decide +kernel
theorem dX3_canGoOn_32 : decode cX3_canGoOn 32 = .ok (.iload 5, 2) := by decide +kernel
theorem dX3_canGoOn_34 : decode cX3_canGoOn 34 = .ok (.bipush 16, 2) := by decide +kernel
theorem dX3_canGoOn_36 : decode cX3_canGoOn 36 = .ok (.if_icmp .ge 18, 3) := by decide +kernel
theorem dX3_canGoOn_39 : decode cX3_canGoOn 39 = .ok (.aload_n 0, 1) := by decide +kernel
theorem dX3_canGoOn_40 : decode cX3_canGoOn 40 = .ok (.getfield 15, 3) := by decide +kernel
theorem dX3_canGoOn_43 : decode cX3_canGoOn 43 = .ok (.iload 5, 2) := by decide +kernel
theorem dX3_canGoOn_45 : decode cX3_canGoOn 45 = .ok (.iaload, 1) := by decide +kernel
theorem dX3_canGoOn_46 : decode cX3_canGoOn 46 = .ok (.iload 4, 2) := by decide +kernel
theorem dX3_canGoOn_48 : decode cX3_canGoOn 48 = .ok (.ishr, 1) := by decide +kernel
theorem dX3_canGoOn_49 : decode cX3_canGoOn 49 = .ok (.iconst 1, 1) := by decide +kernel
theorem dX3_canGoOn_50 : decode cX3_canGoOn 50 = .ok (.iand, 1) := by decide +kernel
theorem dX3_canGoOn_51 : decode cX3_canGoOn 51 = .ok (.ifCond .ne 5, 3) := by decide +kernel
theorem dX3_canGoOn_54 : decode cX3_canGoOn 54 = .ok (.iconst 0, 1) := by decide +kernel
theorem dX3_canGoOn_55 : decode cX3_canGoOn 55 = .ok (.ireturn, 1) := by decide +kernel
theorem dX3_canGoOn_56 : decode cX3_canGoOn 56 = .ok (.iinc 3 1, 3) := by decide +kernel
theorem dX3_canGoOn_59 : decode cX3_canGoOn 59 = .ok (.goto (-57), 3) := by decide +kernel
theorem dX3_canGoOn_62 : decode cX3_canGoOn 62 = .ok (.iconst 1, 1) := by decide +kernel
theorem dX3_canGoOn_63 : decode cX3_canGoOn 63 = .ok (.ireturn, 1) := by decide +kernel
theorem dX4_init_0 : decode cX4_init 0 = .ok (.aload_n 0, 1) := by decide +kernel
theorem dX4_init_1 : decode cX4_init 1 = .ok (.invokespecial 3, 3) := by decide +kernel
theorem dX4_init_4 : decode cX4_init 4 = .ok (.aload_n 0, 1) := by decide +kernel
theorem dX4_init_5 : decode cX4_init 5 = .ok (.bipush 8, 2) := by decide +kernel
theorem dX4_init_7 : decode cX4_init 7 = .ok (.newarray .int, 2) := by decide +kernel
theorem dX4_init_9 : decode cX4_init 9 = .ok (.putfield 9, 3) := by decide +kernel
theorem dX4_init_12 : decode cX4_init 12 = .ok (.aload_n 0, 1) := by decide +kernel
theorem dX4_init_13 : decode cX4_init 13 = .ok (.bipush 8, 2) := by decide +kernel
theorem dX4_init_15 : decode cX4_init 15 = .ok (.newarray .int, 2) := by decide +kernel
theorem dX4_init_17 : decode cX4_init 17 = .ok (.putfield 15, 3) := by decide +kernel
theorem dX4_init_20 : decode cX4_init 20 = .ok (.aload_n 0, 1) := by decide +kernel
theorem dX4_init_21 : decode cX4_init 21 = .ok (.bipush 8, 2) := by decide +kernel
theorem dX4_init_23 : decode cX4_init 23 = .ok (.newarray .int, 2) := by decide +kernel
theorem dX4_init_25 : decode cX4_init 25 = .ok (.putfield 18, 3) := by decide +kernel
theorem dX4_init_28 : decode cX4_init 28 = .ok (.aload_n 0, 1) := by decide +kernel
theorem dX4_init_29 : decode cX4_init 29 = .ok (.bipush 6, 2) := by decide +kernel
theorem dX4_init_31 : decode cX4_init 31 = .ok (.newarray .int, 2) := by decide +kernel
theorem dX4_init_33 : decode cX4_init 33 = .ok (.putfield 21, 3) := by decide +kernel
theorem dX4_init_36 : decode cX4_init 36 = .ok (.aload_n 0, 1) := by decide +kernel
theorem dX4_init_37 : decode cX4_init 37 = .ok (.bipush 6, 2) := by decide +kernel
theorem dX4_init_39 : decode cX4_init 39 = .ok (.newarray .int, 2) := by decide +kernel
theorem dX4_init_41 : decode cX4_init 41 = .ok (.putfield 24, 3) := by decide +kernel
theorem dX4_init_44 : decode cX4_init 44 = .ok (.aload_n 0, 1) := by decide +kernel
theorem dX4_init_45 : decode cX4_init 45 = .ok (.bipush 6, 2) := by decide +kernel
theorem dX4_init_47 : decode cX4_init 47 = .ok (.newarray .boolean, 2) := by decide +kernel
theorem dX4_init_49 : decode cX4_init 49 = .ok (.putfield 27, 3) := by decide +kernel
theorem dX4_init_52 : decode cX4_init 52 = .ok (.return_, 1) := by decide +kernel
theorem dX4_forgetAll_0 : decode cX4_forgetAll 0 = .ok (.aload_n 0, 1) := by decide +kernel
theorem dX4_forgetAll_1 : decode cX4_forgetAll 1 = .ok (.iconst 0, 1) := by decide +kernel
theorem dX4_forgetAll_2 : decode cX4_forgetAll 2 = .ok (.putfield 31, 3) := by decide +kernel
theorem dX4_forgetAll_5 : decode cX4_forgetAll 5 = .ok (.aload_n 0, 1) := by decide +kernel
theorem dX4_forgetAll_6 : decode cX4_forgetAll 6 = .ok (.iconst 0, 1) := by decide +kernel
theorem dX4_forgetAll_7 : decode cX4_forgetAll 7 = .ok (.putfield 35, 3) := by decide +kernel
theorem dX4_forgetAll_10 : decode cX4_forgetAll 10 = .ok (.aload_n 0, 1) := by decide +kernel
theorem dX4_forgetAll_11 : decode cX4_forgetAll 11 = .ok (.iconst 0, 1) := by decide +kernel
theorem dX4_forgetAll_12 : decode cX4_forgetAll 12 = .ok (.putfield 38, 3) := by decide +kernel
theorem dX4_forgetAll_15 : decode cX4_forgetAll 15 = .ok (.aload_n 0, 1) := by decide +kernel
theorem dX4_forgetAll_16 : decode cX4_forgetAll 16 = .ok (.invokevirtual 41, 3) := by decide +kernel
theorem dX4_forgetAll_19 : decode cX4_forgetAll 19 = .ok (.return_, 1) := by decide +kernel
theorem dX4_copyFrom_0 : decode cX4_copyFrom 0 = .ok (.aload_n 0, 1) := by decide +kernel
theorem dX4_copyFrom_1 : decode cX4_copyFrom 1 = .ok (.aload_n 1, 1) := by decide +kernel
theorem dX4_copyFrom_2 : decode cX4_copyFrom 2 = .ok (.getfield 31, 3) := by decide +kernel
theorem dX4_copyFrom_5 : decode cX4_copyFrom 5 = .ok (.putfield 31, 3) := by decide +kernel
theorem dX4_copyFrom_8 : decode cX4_copyFrom 8 = .ok (.aload_n 0, 1) := by decide +kernel
theorem dX4_copyFrom_9 : decode cX4_copyFrom 9 = .ok (.aload_n 1, 1) := by decide +kernel
theorem dX4_copyFrom_10 : decode cX4_copyFrom 10 = .ok (.getfield 35, 3) := by decide +kernel
theorem dX4_copyFrom_13 : decode cX4_copyFrom 13 = .ok (.putfield 35, 3) := by decide +kernel
theorem dX4_copyFrom_16 : decode cX4_copyFrom 16 = .ok (.aload_n 0, 1) := by decide +kernel
theorem dX4_copyFrom_17 : decode cX4_copyFrom 17 = .ok (.aload_n 1, 1) := by decide +kernel
theorem dX4_copyFrom_18 : decode cX4_copyFrom 18 = .ok (.getfield 44, 3) := by decide +kernel
theorem dX4_copyFrom_21 : decode cX4_copyFrom 21 = .ok (.putfield 44, 3) := by decide +kernel
theorem dX4_copyFrom_24 : decode cX4_copyFrom 24 = .ok (.aload_n 0, 1) := by decide +kernel
theorem dX4_copyFrom_25 : decode cX4_copyFrom 25 = .ok (.aload_n 1, 1) := by decide +kernel
theorem dX4_copyFrom_26 : decode cX4_copyFrom 26 = .ok (.getfield 47, 3) := by decide +kernel
theorem dX4_copyFrom_29 : decode cX4_copyFrom 29 = .ok (.putfield 47, 3) := by decide +kernel
theorem dX4_copyFrom_32 : decode cX4_copyFrom 32 = .ok (.aload_n 0, 1) := by decide +kernel
theorem dX4_copyFrom_33 : decode cX4_copyFrom 33 = .ok (.aload_n 1, 1) := by decide +kernel
theorem dX4_copyFrom_34 : decode cX4_copyFrom 34 = .ok (.getfield 38, 3) := by decide +kernel
theorem dX4_copyFrom_37 : decode cX4_copyFrom 37 = .ok (.putfield 38, 3) := by decide +kernel
theorem dX4_copyFrom_40 : decode cX4_copyFrom 40 = .ok (.iconst 0, 1) := by decide +kernel
theorem dX4_copyFrom_41 : decode cX4_copyFrom 41 = .ok (.istore_n 2, 1) := by decide +kernel
theorem dX4_copyFrom_42 : decode cX4_copyFrom 42 = .ok (.iload_n 2, 1) := by decide +kernel
theorem dX4_copyFrom_43 : decode cX4_copyFrom 43 = .ok (.bipush 8, 2) := by decide +kernel
theorem dX4_copyFrom_45 : decode cX4_copyFrom 45 = .ok (.if_icmp .ge 45, 3) := by decide +kernel
theorem dX4_copyFrom_48 : decode cX4_copyFrom 48 = .ok (.aload_n 0, 1) := by decide +kernel
theorem dX4_copyFrom_49 : decode cX4_copyFrom 49 = .ok (.getfield 9, 3) := by decide +kernel
theorem dX4_copyFrom_52 : decode cX4_copyFrom 52 = .ok (.iload_n 2, 1) := by decide +kernel
theorem dX4_copyFrom_53 : decode cX4_copyFrom 53 = .ok (.aload_n 1, 1) := by decide +kernel
theorem dX4_copyFrom_54 : decode cX4_copyFrom 54 = .ok (.getfield 9, 3) := by decide +kernel
theorem dX4_copyFrom_57 : decode cX4_copyFrom 57 = .ok (.iload_n 2, 1) := by decide +kernel
theorem dX4_copyFrom_58 : decode cX4_copyFrom 58 = .ok (.iaload, 1) := by decide +kernel
theorem dX4_copyFrom_59 : decode cX4_copyFrom 59 = .ok (.iastore, 1) := by decide +kernel
theorem dX4_copyFrom_60 : decode cX4_copyFrom 60 = .ok (.aload_n 0, 1) := by decide +kernel
theorem dX4_copyFrom_61 : decode cX4_copyFrom 61 = .ok (.getfield 15, 3) := by decide +kernel
theorem dX4_copyFrom_64 : decode cX4_copyFrom 64 = .ok (.iload_n 2, 1) := by decide +kernel
theorem dX4_copyFrom_65 : decode cX4_copyFrom 65 = .ok (.aload_n 1, 1) := by decide +kernel
theorem dX4_copyFrom_66 : decode cX4_copyFrom 66 = .ok (.getfield 15, 3) := by decide +kernel
theorem dX4_copyFrom_69 : decode cX4_copyFrom 69 = .ok (.iload_n 2, 1) := by decide +kernel
theorem dX4_copyFrom_70 : decode cX4_copyFrom 70 = .ok (.iaload, 1) := by decide +kernel
theorem dX4_copyFrom_71 : decode cX4_copyFrom 71 = .ok (.iastore, 1) := by decide +kernel
theorem dX4_copyFrom_72 : decode cX4_copyFrom 72 = .ok (.aload_n 0, 1) := by decide +kernel
theorem dX4_copyFrom_73 : decode cX4_copyFrom 73 = .ok (.getfield 18, 3) := by decide +kernel
theorem dX4_copyFrom_76 : decode cX4_copyFrom 76 = .ok (.iload_n 2, 1) := by decide +kernel
theorem dX4_copyFrom_77 : decode cX4_copyFrom 77 = .ok (.aload_n 1, 1) := by decide +kernel
theorem dX4_copyFrom_78 : decode cX4_copyFrom 78 = .ok (.getfield 18, 3) := by decide +kernel
theorem dX4_copyFrom_81 : decode cX4_copyFrom 81 = .ok (.iload_n 2, 1) := by decide +kernel
theorem dX4_copyFrom_82 : decode cX4_copyFrom 82 = .ok (.iaload, 1) := by decide +kernel
theorem dX4_copyFrom_83 : decode cX4_copyFrom 83 = .ok (.iastore, 1) := by decide +kernel
theorem dX4_copyFrom_84 : decode cX4_copyFrom 84 = .ok (.iinc 2 1, 3) := by decide +kernel
theorem dX4_copyFrom_87 : decode cX4_copyFrom 87 = .ok (.goto (-45), 3) := by decide +kernel
theorem dX4_copyFrom_90 : decode cX4_copyFrom 90 = .ok (.iconst 0, 1) := by decide +kernel
theorem dX4_copyFrom_91 : decode cX4_copyFrom 91 = .ok (.istore_n 2, 1) := by decide +kernel
theorem dX4_copyFrom_92 : decode cX4_copyFrom 92 = .ok (.iload_n 2, 1) := by decide +kernel
theorem dX4_copyFrom_93 : decode cX4_copyFrom 93 = .ok (.bipush 6, 2) := by decide +kernel
theorem dX4_copyFrom_95 : decode cX4_copyFrom 95 = .ok (.if_icmp .ge 45, 3) := by decide +kernel
theorem dX4_copyFrom_98 : decode cX4_copyFrom 98 = .ok (.aload_n 0, 1) := by decide +kernel
theorem dX4_copyFrom_99 : decode cX4_copyFrom 99 = .ok (.getfield 21, 3) := by decide +kernel
theorem dX4_copyFrom_102 : decode cX4_copyFrom 102 = .ok (.iload_n 2, 1) := by decide +kernel
theorem dX4_copyFrom_103 : decode cX4_copyFrom 103 = .ok (.aload_n 1, 1) := by decide +kernel
theorem dX4_copyFrom_104 : decode cX4_copyFrom 104 = .ok (.getfield 21, 3) := by decide +kernel
theorem dX4_copyFrom_107 : decode cX4_copyFrom 107 = .ok (.iload_n 2, 1) := by decide +kernel
theorem dX4_copyFrom_108 : decode cX4_copyFrom 108 = .ok (.iaload, 1) := by decide +kernel
theorem dX4_copyFrom_109 : decode cX4_copyFrom 109 = .ok (.iastore, 1) := by decide +kernel
theorem dX4_copyFrom_110 : decode cX4_copyFrom 110 = .ok (.aload_n 0, 1) := by decide +kernel
theorem dX4_copyFrom_111 : decode cX4_copyFrom 111 = .ok (.getfield 24, 3) := by decide +kernel
theorem dX4_copyFrom_114 : decode cX4_copyFrom 114 = .ok (.iload_n 2, 1) := by decide +kernel
theorem dX4_copyFrom_115 : decode cX4_copyFrom 115 = .ok (.aload_n 1, 1) := by decide +kernel
theorem dX4_copyFrom_116 : decode cX4_copyFrom 116 = .ok (.getfield 24, 3) := by decide +kernel
theorem dX4_copyFrom_119 : decode cX4_copyFrom 119 = .ok (.iload_n 2, 1) := by decide +kernel
theorem dX4_copyFrom_120 : decode cX4_copyFrom 120 = .ok (.iaload, 1) := by decide +kernel
theorem dX4_copyFrom_121 : decode cX4_copyFrom 121 = .ok (.iastore, 1) := by decide +kernel
theorem dX4_copyFrom_122 : decode cX4_copyFrom 122 = .ok (.aload_n 0, 1) := by decide +kernel
theorem dX4_copyFrom_123 : decode cX4_copyFrom 123 = .ok (.getfield 27, 3) := by decide +kernel
theorem dX4_copyFrom_126 : decode cX4_copyFrom 126 = .ok (.iload_n 2, 1) := by decide +kernel
theorem dX4_copyFrom_127 : decode cX4_copyFrom 127 = .ok (.aload_n 1, 1) := by decide +kernel
theorem dX4_copyFrom_128 : decode cX4_copyFrom 128 = .ok (.getfield 27, 3) := by decide +kernel
theorem dX4_copyFrom_131 : decode cX4_copyFrom 131 = .ok (.iload_n 2, 1) := by decide +kernel
theorem dX4_copyFrom_132 : decode cX4_copyFrom 132 = .ok (.baload, 1) := by decide +kernel
theorem dX4_copyFrom_133 : decode cX4_copyFrom 133 = .ok (.bastore, 1) := by decide +kernel
theorem dX4_copyFrom_134 : decode cX4_copyFrom 134 = .ok (.iinc 2 1, 3) := by decide +kernel
theorem dX4_copyFrom_137 : decode cX4_copyFrom 137 = .ok (.goto (-45), 3) := by decide +kernel
theorem dX4_copyFrom_140 : decode cX4_copyFrom 140 = .ok (.return_, 1) := by decide +kernel
theorem dX4_isBoard_0 : decode cX4_isBoard 0 = .ok (.aload_n 0, 1) := by decide +kernel
theorem dX4_isBoard_1 : decode cX4_isBoard 1 = .ok (.getfield 31, 3) := by decide +kernel
theorem dX4_isBoard_4 : decode cX4_isBoard 4 = .ok (.ifCond .le 7, 3) := by decide +kernel
theorem dX4_isBoard_7 : decode cX4_isBoard 7 = .ok (.iconst 1, 1) := by decide +kernel
theorem dX4_isBoard_8 : decode cX4_isBoard 8 = .ok (.goto 4, 3) := by decide +kernel
theorem dX4_isBoard_11 : decode cX4_isBoard 11 = .ok (.iconst 0, 1) := by decide +kernel
theorem dX4_isBoard_12 : decode cX4_isBoard 12 = .ok (.ireturn, 1) := by decide +kernel
theorem dX4_lines_0 : decode cX4_lines 0 = .ok (.aload_n 0, 1) := by decide +kernel
theorem dX4_lines_1 : decode cX4_lines 1 = .ok (.getfield 31, 3) := by decide +kernel
theorem dX4_lines_4 : decode cX4_lines 4 = .ok (.aload_n 0, 1) := by decide +kernel
theorem dX4_lines_5 : decode cX4_lines 5 = .ok (.getfield 35, 3) := by decide +kernel
theorem dX4_lines_8 : decode cX4_lines 8 = .ok (.iadd, 1) := by decide +kernel
theorem dX4_lines_9 : decode cX4_lines 9 = .ok (.ireturn, 1) := by decide +kernel
theorem dX4_cells_0 : decode cX4_cells 0 = .ok (.aload_n 0, 1) := by decide +kernel
theorem dX4_cells_1 : decode cX4_cells 1 = .ok (.getfield 31, 3) := by decide +kernel
theorem dX4_cells_4 : decode cX4_cells 4 = .ok (.aload_n 0, 1) := by decide +kernel
theorem dX4_cells_5 : decode cX4_cells 5 = .ok (.getfield 35, 3) := by decide +kernel
theorem dX4_cells_8 : decode cX4_cells 8 = .ok (.imul, 1) := by decide +kernel
theorem dX4_cells_9 : decode cX4_cells 9 = .ok (.ireturn, 1) := by decide +kernel
theorem dX4_hasLine_0 : decode cX4_hasLine 0 = .ok (.iload_n 1, 1) := by decide +kernel
theorem dX4_hasLine_1 : decode cX4_hasLine 1 = .ok (.ifCond .lt 21, 3) := by decide +kernel
theorem dX4_hasLine_4 : decode cX4_hasLine 4 = .ok (.iload_n 1, 1) := by decide +kernel
theorem dX4_hasLine_5 : decode cX4_hasLine 5 = .ok (.aload_n 0, 1) := by decide +kernel
theorem dX4_hasLine_6 : decode cX4_hasLine 6 = .ok (.invokevirtual 50, 3) := by decide +kernel
theorem dX4_hasLine_9 : decode cX4_hasLine 9 = .ok (.if_icmp .ge 13, 3) := by decide +kernel
theorem dX4_hasLine_12 : decode cX4_hasLine 12 = .ok (.iload_n 1, 1) := by decide +kernel
theorem dX4_hasLine_13 : decode cX4_hasLine 13 = .ok (.bipush 8, 2) := by decide +kernel
theorem dX4_hasLine_15 : decode cX4_hasLine 15 = .ok (.if_icmp .ge 7, 3) := by decide +kernel
theorem dX4_hasLine_18 : decode cX4_hasLine 18 = .ok (.iconst 1, 1) := by decide +kernel
theorem dX4_hasLine_19 : decode cX4_hasLine 19 = .ok (.goto 4, 3) := by decide +kernel
theorem dX4_hasLine_22 : decode cX4_hasLine 22 = .ok (.iconst 0, 1) := by decide +kernel
theorem dX4_hasLine_23 : decode cX4_hasLine 23 = .ok (.ireturn, 1) := by decide +kernel
theorem dX4_hasCell_0 : decode cX4_hasCell 0 = .ok (.iload_n 1, 1) := by decide +kernel
theorem dX4_hasCell_1 : decode cX4_hasCell 1 = .ok (.ifCond .lt 15, 3) := by decide +kernel
theorem dX4_hasCell_4 : decode cX4_hasCell 4 = .ok (.iload_n 1, 1) := by decide +kernel
theorem dX4_hasCell_5 : decode cX4_hasCell 5 = .ok (.aload_n 0, 1) := by decide +kernel
theorem dX4_hasCell_6 : decode cX4_hasCell 6 = .ok (.invokevirtual 54, 3) := by decide +kernel
theorem dX4_hasCell_9 : decode cX4_hasCell 9 = .ok (.if_icmp .ge 7, 3) := by decide +kernel
theorem dX4_hasCell_12 : decode cX4_hasCell 12 = .ok (.iconst 1, 1) := by decide +kernel
theorem dX4_hasCell_13 : decode cX4_hasCell 13 = .ok (.goto 4, 3) := by decide +kernel
theorem dX4_hasCell_16 : decode cX4_hasCell 16 = .ok (.iconst 0, 1) := by decide +kernel
theorem dX4_hasCell_17 : decode cX4_hasCell 17 = .ok (.ireturn, 1) := by decide +kernel
theorem dX4_length_0 : decode cX4_length 0 = .ok (.iload_n 1, 1) := by decide +kernel
theorem dX4_length_1 : decode cX4_length 1 = .ok (.aload_n 0, 1) := by decide +kernel
theorem dX4_length_2 : decode cX4_length 2 = .ok (.getfield 31, 3) := by decide +kernel
theorem dX4_length_5 : decode cX4_length 5 = .ok (.if_icmp .ge 10, 3) := by decide +kernel
theorem dX4_length_8 : decode cX4_length 8 = .ok (.aload_n 0, 1) := by decide +kernel
theorem dX4_length_9 : decode cX4_length 9 = .ok (.getfield 35, 3) := by decide +kernel
theorem dX4_length_12 : decode cX4_length 12 = .ok (.goto 7, 3) := by decide +kernel
theorem dX4_length_15 : decode cX4_length 15 = .ok (.aload_n 0, 1) := by decide +kernel
theorem dX4_length_16 : decode cX4_length 16 = .ok (.getfield 31, 3) := by decide +kernel
theorem dX4_length_19 : decode cX4_length 19 = .ok (.ireturn, 1) := by decide +kernel
theorem dX4_hasCellsOf_0 : decode cX4_hasCellsOf 0 = .ok (.iload_n 2, 1) := by decide +kernel
theorem dX4_hasCellsOf_1 : decode cX4_hasCellsOf 1 = .ok (.ifCond .lt 18, 3) := by decide +kernel
theorem dX4_hasCellsOf_4 : decode cX4_hasCellsOf 4 = .ok (.iload_n 2, 1) := by decide +kernel
theorem dX4_hasCellsOf_5 : decode cX4_hasCellsOf 5 = .ok (.iconst 1, 1) := by decide +kernel
theorem dX4_hasCellsOf_6 : decode cX4_hasCellsOf 6 = .ok (.aload_n 0, 1) := by decide +kernel
theorem dX4_hasCellsOf_7 : decode cX4_hasCellsOf 7 = .ok (.iload_n 1, 1) := by decide +kernel
theorem dX4_hasCellsOf_8 : decode cX4_hasCellsOf 8 = .ok (.invokevirtual 57, 3) := by decide +kernel
theorem dX4_hasCellsOf_11 : decode cX4_hasCellsOf 11 = .ok (.ishl, 1) := by decide +kernel
theorem dX4_hasCellsOf_12 : decode cX4_hasCellsOf 12 = .ok (.if_icmp .ge 7, 3) := by decide +kernel
theorem dX4_hasCellsOf_15 : decode cX4_hasCellsOf 15 = .ok (.iconst 1, 1) := by decide +kernel
theorem dX4_hasCellsOf_16 : decode cX4_hasCellsOf 16 = .ok (.goto 4, 3) := by decide +kernel
theorem dX4_hasCellsOf_19 : decode cX4_hasCellsOf 19 = .ok (.iconst 0, 1) := by decide +kernel
theorem dX4_hasCellsOf_20 : decode cX4_hasCellsOf 20 = .ok (.ireturn, 1) := by decide +kernel
theorem dX4_setClue_0 : decode cX4_setClue 0 = .ok (.aload_n 0, 1) := by decide +kernel
theorem dX4_setClue_1 : decode cX4_setClue 1 = .ok (.iload_n 1, 1) := by decide +kernel
theorem dX4_setClue_2 : decode cX4_setClue 2 = .ok (.invokevirtual 61, 3) := by decide +kernel
theorem dX4_setClue_5 : decode cX4_setClue 5 = .ok (.ifCond .ne 4, 3) := by decide +kernel
theorem dX4_setClue_8 : decode cX4_setClue 8 = .ok (.return_, 1) := by decide +kernel
theorem dX4_setClue_9 : decode cX4_setClue 9 = .ok (.aload_n 0, 1) := by decide +kernel
theorem dX4_setClue_10 : decode cX4_setClue 10 = .ok (.getfield 9, 3) := by decide +kernel
theorem dX4_setClue_13 : decode cX4_setClue 13 = .ok (.iload_n 1, 1) := by decide +kernel
theorem dX4_setClue_14 : decode cX4_setClue 14 = .ok (.iload_n 2, 1) := by decide +kernel
theorem dX4_setClue_15 : decode cX4_setClue 15 = .ok (.iastore, 1) := by decide +kernel
theorem dX4_setClue_16 : decode cX4_setClue 16 = .ok (.aload_n 0, 1) := by decide +kernel
theorem dX4_setClue_17 : decode cX4_setClue 17 = .ok (.getfield 15, 3) := by decide +kernel
theorem dX4_setClue_20 : decode cX4_setClue 20 = .ok (.iload_n 1, 1) := by decide +kernel
theorem dX4_setClue_21 : decode cX4_setClue 21 = .ok (.iload_n 3, 1) := by decide +kernel
theorem dX4_setClue_22 : decode cX4_setClue 22 = .ok (.iastore, 1) := by decide +kernel
theorem dX4_setClue_23 : decode cX4_setClue 23 = .ok (.aload_n 0, 1) := by decide +kernel
theorem dX4_setClue_24 : decode cX4_setClue 24 = .ok (.getfield 18, 3) := by decide +kernel
theorem dX4_setClue_27 : decode cX4_setClue 27 = .ok (.iload_n 1, 1) := by decide +kernel
theorem dX4_setClue_28 : decode cX4_setClue 28 = .ok (.iload 4, 2) := by decide +kernel
theorem dX4_setClue_30 : decode cX4_setClue 30 = .ok (.iastore, 1) := by decide +kernel
theorem dX4_setClue_31 : decode cX4_setClue 31 = .ok (.return_, 1) := by decide +kernel
theorem dX4_marked_0 : decode cX4_marked 0 = .ok (.aload_n 0, 1) := by decide +kernel
theorem dX4_marked_1 : decode cX4_marked 1 = .ok (.getfield 44, 3) := by decide +kernel
theorem dX4_marked_4 : decode cX4_marked 4 = .ok (.aload_n 0, 1) := by decide +kernel
theorem dX4_marked_5 : decode cX4_marked 5 = .ok (.getfield 47, 3) := by decide +kernel
theorem dX4_marked_8 : decode cX4_marked 8 = .ok (.ior, 1) := by decide +kernel
theorem dX4_marked_9 : decode cX4_marked 9 = .ok (.ireturn, 1) := by decide +kernel
theorem dX4_markedCells_0 : decode cX4_markedCells 0 = .ok (.aload_n 0, 1) := by decide +kernel
theorem dX4_markedCells_1 : decode cX4_markedCells 1 = .ok (.invokevirtual 65, 3) := by decide +kernel
theorem dX4_markedCells_4 : decode cX4_markedCells 4 = .ok (.invokestatic 68, 3) := by decide +kernel
theorem dX4_markedCells_7 : decode cX4_markedCells 7 = .ok (.ireturn, 1) := by decide +kernel
theorem dX4_howMarked_0 : decode cX4_howMarked 0 = .ok (.aload_n 0, 1) := by decide +kernel
theorem dX4_howMarked_1 : decode cX4_howMarked 1 = .ok (.getfield 44, 3) := by decide +kernel
theorem dX4_howMarked_4 : decode cX4_howMarked 4 = .ok (.iload_n 1, 1) := by decide +kernel
theorem dX4_howMarked_5 : decode cX4_howMarked 5 = .ok (.ishr, 1) := by decide +kernel
theorem dX4_howMarked_6 : decode cX4_howMarked 6 = .ok (.iconst 1, 1) := by decide +kernel
theorem dX4_howMarked_7 : decode cX4_howMarked 7 = .ok (.iand, 1) := by decide +kernel
theorem dX4_howMarked_8 : decode cX4_howMarked 8 = .ok (.ifCond .eq 5, 3) := by decide +kernel
theorem dX4_howMarked_11 : decode cX4_howMarked 11 = .ok (.iconst 1, 1) := by decide +kernel
theorem dX4_howMarked_12 : decode cX4_howMarked 12 = .ok (.ireturn, 1) := by decide +kernel
theorem dX4_howMarked_13 : decode cX4_howMarked 13 = .ok (.aload_n 0, 1) := by decide +kernel
theorem dX4_howMarked_14 : decode cX4_howMarked 14 = .ok (.getfield 47, 3) := by decide +kernel
theorem dX4_howMarked_17 : decode cX4_howMarked 17 = .ok (.iload_n 1, 1) := by decide +kernel
theorem dX4_howMarked_18 : decode cX4_howMarked 18 = .ok (.ishr, 1) := by decide +kernel
theorem dX4_howMarked_19 : decode cX4_howMarked 19 = .ok (.iconst 1, 1) := by decide +kernel
theorem dX4_howMarked_20 : decode cX4_howMarked 20 = .ok (.iand, 1) := by decide +kernel
theorem dX4_howMarked_21 : decode cX4_howMarked 21 = .ok (.ifCond .eq 7, 3) := by decide +kernel
theorem dX4_howMarked_24 : decode cX4_howMarked 24 = .ok (.iconst 2, 1) := by decide +kernel
theorem dX4_howMarked_25 : decode cX4_howMarked 25 = .ok (.goto 4, 3) := by decide +kernel
theorem dX4_howMarked_28 : decode cX4_howMarked 28 = .ok (.iconst 0, 1) := by decide +kernel
theorem dX4_howMarked_29 : decode cX4_howMarked 29 = .ok (.ireturn, 1) := by decide +kernel
theorem dX4_setMark_0 : decode cX4_setMark 0 = .ok (.iconst 1, 1) := by decide +kernel
theorem dX4_setMark_1 : decode cX4_setMark 1 = .ok (.iload_n 1, 1) := by decide +kernel
theorem dX4_setMark_2 : decode cX4_setMark 2 = .ok (.ishl, 1) := by decide +kernel
theorem dX4_setMark_3 : decode cX4_setMark 3 = .ok (.istore_n 3, 1) := by decide +kernel
theorem dX4_setMark_4 : decode cX4_setMark 4 = .ok (.aload_n 0, 1) := by decide +kernel
theorem dX4_setMark_5 : decode cX4_setMark 5 = .ok (.dup, 1) := by decide +kernel
theorem dX4_setMark_6 : decode cX4_setMark 6 = .ok (.getfield 44, 3) := by decide +kernel
theorem dX4_setMark_9 : decode cX4_setMark 9 = .ok (.iload_n 3, 1) := by decide +kernel
theorem dX4_setMark_10 : decode cX4_setMark 10 = .ok (.iconst (-1), 1) := by decide +kernel
theorem dX4_setMark_11 : decode cX4_setMark 11 = .ok (.ixor, 1) := by decide +kernel
theorem dX4_setMark_12 : decode cX4_setMark 12 = .ok (.iand, 1) := by decide +kernel
theorem dX4_setMark_13 : decode cX4_setMark 13 = .ok (.putfield 44, 3) := by decide +kernel
theorem dX4_setMark_16 : decode cX4_setMark 16 = .ok (.aload_n 0, 1) := by decide +kernel
theorem dX4_setMark_17 : decode cX4_setMark 17 = .ok (.dup, 1) := by decide +kernel
theorem dX4_setMark_18 : decode cX4_setMark 18 = .ok (.getfield 47, 3) := by decide +kernel
theorem dX4_setMark_21 : decode cX4_setMark 21 = .ok (.iload_n 3, 1) := by decide +kernel
theorem dX4_setMark_22 : decode cX4_setMark 22 = .ok (.iconst (-1), 1) := by decide +kernel
theorem dX4_setMark_23 : decode cX4_setMark 23 = .ok (.ixor, 1) := by decide +kernel
theorem dX4_setMark_24 : decode cX4_setMark 24 = .ok (.iand, 1) := by decide +kernel
theorem dX4_setMark_25 : decode cX4_setMark 25 = .ok (.putfield 47, 3) := by decide +kernel
theorem dX4_setMark_28 : decode cX4_setMark 28 = .ok (.iload_n 2, 1) := by decide +kernel
theorem dX4_setMark_29 : decode cX4_setMark 29 = .ok (.iconst 1, 1) := by decide +kernel
theorem dX4_setMark_30 : decode cX4_setMark 30 = .ok (.if_icmp .ne 13, 3) := by decide +kernel
theorem dX4_setMark_33 : decode cX4_setMark 33 = .ok (.aload_n 0, 1) := by decide +kernel
theorem dX4_setMark_34 : decode cX4_setMark 34 = .ok (.dup, 1) := by decide +kernel
theorem dX4_setMark_35 : decode cX4_setMark 35 = .ok (.getfield 44, 3) := by decide +kernel
theorem dX4_setMark_38 : decode cX4_setMark 38 = .ok (.iload_n 3, 1) := by decide +kernel
theorem dX4_setMark_39 : decode cX4_setMark 39 = .ok (.ior, 1) := by decide +kernel
theorem dX4_setMark_40 : decode cX4_setMark 40 = .ok (.putfield 44, 3) := by decide +kernel
theorem dX4_setMark_43 : decode cX4_setMark 43 = .ok (.iload_n 2, 1) := by decide +kernel
theorem dX4_setMark_44 : decode cX4_setMark 44 = .ok (.iconst 2, 1) := by decide +kernel
theorem dX4_setMark_45 : decode cX4_setMark 45 = .ok (.if_icmp .ne 13, 3) := by decide +kernel
theorem dX4_setMark_48 : decode cX4_setMark 48 = .ok (.aload_n 0, 1) := by decide +kernel
theorem dX4_setMark_49 : decode cX4_setMark 49 = .ok (.dup, 1) := by decide +kernel
theorem dX4_setMark_50 : decode cX4_setMark 50 = .ok (.getfield 47, 3) := by decide +kernel
theorem dX4_setMark_53 : decode cX4_setMark 53 = .ok (.iload_n 3, 1) := by decide +kernel
theorem dX4_setMark_54 : decode cX4_setMark 54 = .ok (.ior, 1) := by decide +kernel
theorem dX4_setMark_55 : decode cX4_setMark 55 = .ok (.putfield 47, 3) := by decide +kernel
theorem dX4_setMark_58 : decode cX4_setMark 58 = .ok (.return_, 1) := by decide +kernel
theorem dX4_unmarkAll_0 : decode cX4_unmarkAll 0 = .ok (.aload_n 0, 1) := by decide +kernel
theorem dX4_unmarkAll_1 : decode cX4_unmarkAll 1 = .ok (.iconst 0, 1) := by decide +kernel
theorem dX4_unmarkAll_2 : decode cX4_unmarkAll 2 = .ok (.putfield 44, 3) := by decide +kernel
theorem dX4_unmarkAll_5 : decode cX4_unmarkAll 5 = .ok (.aload_n 0, 1) := by decide +kernel
theorem dX4_unmarkAll_6 : decode cX4_unmarkAll 6 = .ok (.iconst 0, 1) := by decide +kernel
theorem dX4_unmarkAll_7 : decode cX4_unmarkAll 7 = .ok (.putfield 47, 3) := by decide +kernel
theorem dX4_unmarkAll_10 : decode cX4_unmarkAll 10 = .ok (.return_, 1) := by decide +kernel
theorem dX4_addSeen_0 : decode cX4_addSeen 0 = .ok (.aload_n 0, 1) := by decide +kernel
theorem dX4_addSeen_1 : decode cX4_addSeen 1 = .ok (.getfield 38, 3) := by decide +kernel
theorem dX4_addSeen_4 : decode cX4_addSeen 4 = .ok (.bipush 6, 2) := by decide +kernel
theorem dX4_addSeen_6 : decode cX4_addSeen 6 = .ok (.if_icmp .lt 4, 3) := by decide +kernel
theorem dX4_addSeen_9 : decode cX4_addSeen 9 = .ok (.return_, 1) := by decide +kernel
theorem dX4_addSeen_10 : decode cX4_addSeen 10 = .ok (.aload_n 0, 1) := by decide +kernel
theorem dX4_addSeen_11 : decode cX4_addSeen 11 = .ok (.getfield 21, 3) := by decide +kernel
theorem dX4_addSeen_14 : decode cX4_addSeen 14 = .ok (.aload_n 0, 1) := by decide +kernel
theorem dX4_addSeen_15 : decode cX4_addSeen 15 = .ok (.getfield 38, 3) := by decide +kernel
theorem dX4_addSeen_18 : decode cX4_addSeen 18 = .ok (.iload_n 1, 1) := by decide +kernel
theorem dX4_addSeen_19 : decode cX4_addSeen 19 = .ok (.iastore, 1) := by decide +kernel
theorem dX4_addSeen_20 : decode cX4_addSeen 20 = .ok (.aload_n 0, 1) := by decide +kernel
theorem dX4_addSeen_21 : decode cX4_addSeen 21 = .ok (.getfield 24, 3) := by decide +kernel
theorem dX4_addSeen_24 : decode cX4_addSeen 24 = .ok (.aload_n 0, 1) := by decide +kernel
theorem dX4_addSeen_25 : decode cX4_addSeen 25 = .ok (.getfield 38, 3) := by decide +kernel
theorem dX4_addSeen_28 : decode cX4_addSeen 28 = .ok (.iload_n 2, 1) := by decide +kernel
theorem dX4_addSeen_29 : decode cX4_addSeen 29 = .ok (.iastore, 1) := by decide +kernel
theorem dX4_addSeen_30 : decode cX4_addSeen 30 = .ok (.aload_n 0, 1) := by decide +kernel
theorem dX4_addSeen_31 : decode cX4_addSeen 31 = .ok (.getfield 27, 3) := by decide +kernel
theorem dX4_addSeen_34 : decode cX4_addSeen 34 = .ok (.aload_n 0, 1) := by decide +kernel
theorem dX4_addSeen_35 : decode cX4_addSeen 35 = .ok (.getfield 38, 3) := by decide +kernel
theorem dX4_addSeen_38 : decode cX4_addSeen 38 = .ok (.iload_n 3, 1) := by decide +kernel
theorem dX4_addSeen_39 : decode cX4_addSeen 39 = .ok (.bastore, 1) := by decide +kernel
theorem dX4_addSeen_40 : decode cX4_addSeen 40 = .ok (.aload_n 0, 1) := by decide +kernel
theorem dX4_addSeen_41 : decode cX4_addSeen 41 = .ok (.dup, 1) := by decide +kernel
theorem dX4_addSeen_42 : decode cX4_addSeen 42 = .ok (.getfield 38, 3) := by decide +kernel
theorem dX4_addSeen_45 : decode cX4_addSeen 45 = .ok (.iconst 1, 1) := by decide +kernel
theorem dX4_addSeen_46 : decode cX4_addSeen 46 = .ok (.iadd, 1) := by decide +kernel
theorem dX4_addSeen_47 : decode cX4_addSeen 47 = .ok (.putfield 38, 3) := by decide +kernel
theorem dX4_addSeen_50 : decode cX4_addSeen 50 = .ok (.return_, 1) := by decide +kernel
theorem dX4_sorts_0 : decode cX4_sorts 0 = .ok (.iconst 0, 1) := by decide +kernel
theorem dX4_sorts_1 : decode cX4_sorts 1 = .ok (.istore_n 2, 1) := by decide +kernel
theorem dX4_sorts_2 : decode cX4_sorts 2 = .ok (.iconst 0, 1) := by decide +kernel
theorem dX4_sorts_3 : decode cX4_sorts 3 = .ok (.istore_n 3, 1) := by decide +kernel
theorem dX4_sorts_4 : decode cX4_sorts 4 = .ok (.iload_n 3, 1) := by decide +kernel
theorem dX4_sorts_5 : decode cX4_sorts 5 = .ok (.iconst 5, 1) := by decide +kernel
theorem dX4_sorts_6 : decode cX4_sorts 6 = .ok (.if_icmp .ge 24, 3) := by decide +kernel
theorem dX4_sorts_9 : decode cX4_sorts 9 = .ok (.aload_n 0, 1) := by decide +kernel
theorem dX4_sorts_10 : decode cX4_sorts 10 = .ok (.iload_n 1, 1) := by decide +kernel
theorem dX4_sorts_11 : decode cX4_sorts 11 = .ok (.iload_n 3, 1) := by decide +kernel
theorem dX4_sorts_12 : decode cX4_sorts 12 = .ok (.invokevirtual 73, 3) := by decide +kernel
theorem dX4_sorts_15 : decode cX4_sorts 15 = .ok (.ifCond .eq 9, 3) := by decide +kernel
theorem dX4_sorts_18 : decode cX4_sorts 18 = .ok (.iload_n 2, 1) := by decide +kernel
theorem dX4_sorts_19 : decode cX4_sorts 19 = .ok (.iconst 1, 1) := by decide +kernel
theorem dX4_sorts_20 : decode cX4_sorts 20 = .ok (.iload_n 3, 1) := by decide +kernel
theorem dX4_sorts_21 : decode cX4_sorts 21 = .ok (.ishl, 1) := by decide +kernel
theorem dX4_sorts_22 : decode cX4_sorts 22 = .ok (.ior, 1) := by decide +kernel
theorem dX4_sorts_23 : decode cX4_sorts 23 = .ok (.istore_n 2, 1) := by decide +kernel
theorem dX4_sorts_24 : decode cX4_sorts 24 = .ok (.iinc 3 1, 3) := by decide +kernel
theorem dX4_sorts_27 : decode cX4_sorts 27 = .ok (.goto (-23), 3) := by decide +kernel
theorem dX4_sorts_30 : decode cX4_sorts 30 = .ok (.iload_n 2, 1) := by decide +kernel
theorem dX4_sorts_31 : decode cX4_sorts 31 = .ok (.ireturn, 1) := by decide +kernel
theorem dX4_canBeOf_0 : decode cX4_canBeOf 0 = .ok (.iconst 0, 1) := by decide +kernel
theorem dX4_canBeOf_1 : decode cX4_canBeOf 1 = .ok (.istore_n 3, 1) := by decide +kernel
theorem dX4_canBeOf_2 : decode cX4_canBeOf 2 = .ok (.iload_n 3, 1) := by decide +kernel
theorem dX4_canBeOf_3 : decode cX4_canBeOf 3 = .ok (.aload_n 0, 1) := by decide +kernel
theorem dX4_canBeOf_4 : decode cX4_canBeOf 4 = .ok (.getfield 38, 3) := by decide +kernel
theorem dX4_canBeOf_7 : decode cX4_canBeOf 7 = .ok (.if_icmp .ge 51, 3) := by decide +kernel
theorem dX4_canBeOf_10 : decode cX4_canBeOf 10 = .ok (.iload_n 3, 1) := by decide +kernel
theorem dX4_canBeOf_11 : decode cX4_canBeOf 11 = .ok (.bipush 6, 2) := by decide +kernel
theorem dX4_canBeOf_13 : decode cX4_canBeOf 13 = .ok (.if_icmp .ge 45, 3) := by decide +kernel
theorem dX4_canBeOf_16 : decode cX4_canBeOf 16 = .ok (.aload_n 0, 1) := by decide +kernel
theorem dX4_canBeOf_17 : decode cX4_canBeOf 17 = .ok (.getfield 21, 3) := by decide +kernel
theorem dX4_canBeOf_20 : decode cX4_canBeOf 20 = .ok (.iload_n 3, 1) := by decide +kernel
theorem dX4_canBeOf_21 : decode cX4_canBeOf 21 = .ok (.iaload, 1) := by decide +kernel
theorem dX4_canBeOf_22 : decode cX4_canBeOf 22 = .ok (.iload_n 1, 1) := by decide +kernel
theorem dX4_canBeOf_23 : decode cX4_canBeOf 23 = .ok (.if_icmp .eq 6, 3) := by decide +kernel
theorem dX4_canBeOf_26 : decode cX4_canBeOf 26 = .ok (.goto 26, 3) := by decide +kernel
theorem dX4_canBeOf_29 : decode cX4_canBeOf 29 = .ok (.aload_n 0, 1) := by decide +kernel
theorem dX4_canBeOf_30 : decode cX4_canBeOf 30 = .ok (.iload_n 1, 1) := by decide +kernel
theorem dX4_canBeOf_31 : decode cX4_canBeOf 31 = .ok (.iload_n 2, 1) := by decide +kernel
theorem dX4_canBeOf_32 : decode cX4_canBeOf 32 = .ok (.aload_n 0, 1) := by decide +kernel
theorem dX4_canBeOf_33 : decode cX4_canBeOf 33 = .ok (.getfield 24, 3) := by decide +kernel
theorem dX4_canBeOf_36 : decode cX4_canBeOf 36 = .ok (.iload_n 3, 1) := by decide +kernel
theorem dX4_canBeOf_37 : decode cX4_canBeOf 37 = .ok (.iaload, 1) := by decide +kernel
theorem dX4_canBeOf_38 : decode cX4_canBeOf 38 = .ok (.invokevirtual 77, 3) := by decide +kernel
theorem dX4_canBeOf_41 : decode cX4_canBeOf 41 = .ok (.aload_n 0, 1) := by decide +kernel
theorem dX4_canBeOf_42 : decode cX4_canBeOf 42 = .ok (.getfield 27, 3) := by decide +kernel
theorem dX4_canBeOf_45 : decode cX4_canBeOf 45 = .ok (.iload_n 3, 1) := by decide +kernel
theorem dX4_canBeOf_46 : decode cX4_canBeOf 46 = .ok (.baload, 1) := by decide +kernel
theorem dX4_canBeOf_47 : decode cX4_canBeOf 47 = .ok (.if_icmp .eq 5, 3) := by decide +kernel
theorem dX4_canBeOf_50 : decode cX4_canBeOf 50 = .ok (.iconst 0, 1) := by decide +kernel
theorem dX4_canBeOf_51 : decode cX4_canBeOf 51 = .ok (.ireturn, 1) := by decide +kernel
theorem dX4_canBeOf_52 : decode cX4_canBeOf 52 = .ok (.iinc 3 1, 3) := by decide +kernel
theorem dX4_canBeOf_55 : decode cX4_canBeOf 55 = .ok (.goto (-53), 3) := by decide +kernel
theorem dX4_canBeOf_58 : decode cX4_canBeOf 58 = .ok (.iconst 1, 1) := by decide +kernel
theorem dX4_canBeOf_59 : decode cX4_canBeOf 59 = .ok (.ireturn, 1) := by decide +kernel
theorem dX4_wouldKeep_0 : decode cX4_wouldKeep 0 = .ok (.iload_n 1, 1) := by decide +kernel
theorem dX4_wouldKeep_1 : decode cX4_wouldKeep 1 = .ok (.ifCond .lt 9, 3) := by decide +kernel
theorem dX4_wouldKeep_4 : decode cX4_wouldKeep 4 = .ok (.iload_n 1, 1) := by decide +kernel
theorem dX4_wouldKeep_5 : decode cX4_wouldKeep 5 = .ok (.bipush 8, 2) := by decide +kernel
theorem dX4_wouldKeep_7 : decode cX4_wouldKeep 7 = .ok (.if_icmp .lt 5, 3) := by decide +kernel
theorem dX4_wouldKeep_10 : decode cX4_wouldKeep 10 = .ok (.iconst 0, 1) := by decide +kernel
theorem dX4_wouldKeep_11 : decode cX4_wouldKeep 11 = .ok (.ireturn, 1) := by decide +kernel
theorem dX4_wouldKeep_12 : decode cX4_wouldKeep 12 = .ok (.iload_n 2, 1) := by decide +kernel
theorem dX4_wouldKeep_13 : decode cX4_wouldKeep 13 = .ok (.aload_n 0, 1) := by decide +kernel
theorem dX4_wouldKeep_14 : decode cX4_wouldKeep 14 = .ok (.getfield 15, 3) := by decide +kernel
theorem dX4_wouldKeep_17 : decode cX4_wouldKeep 17 = .ok (.iload_n 1, 1) := by decide +kernel
theorem dX4_wouldKeep_18 : decode cX4_wouldKeep 18 = .ok (.iaload, 1) := by decide +kernel
theorem dX4_wouldKeep_19 : decode cX4_wouldKeep 19 = .ok (.aload_n 0, 1) := by decide +kernel
theorem dX4_wouldKeep_20 : decode cX4_wouldKeep 20 = .ok (.getfield 18, 3) := by decide +kernel
theorem dX4_wouldKeep_23 : decode cX4_wouldKeep 23 = .ok (.iload_n 1, 1) := by decide +kernel
theorem dX4_wouldKeep_24 : decode cX4_wouldKeep 24 = .ok (.iaload, 1) := by decide +kernel
theorem dX4_wouldKeep_25 : decode cX4_wouldKeep 25 = .ok (.iload_n 3, 1) := by decide +kernel
theorem dX4_wouldKeep_26 : decode cX4_wouldKeep 26 = .ok (.invokestatic 81, 3) := by decide +kernel
theorem dX4_wouldKeep_29 : decode cX4_wouldKeep 29 = .ok (.ireturn, 1) := by decide +kernel
theorem dX4_nextTry_0 : decode cX4_nextTry 0 = .ok (.aload_n 0, 1) := by decide +kernel
theorem dX4_nextTry_1 : decode cX4_nextTry 1 = .ok (.iload_n 1, 1) := by decide +kernel
theorem dX4_nextTry_2 : decode cX4_nextTry 2 = .ok (.invokevirtual 87, 3) := by decide +kernel
theorem dX4_nextTry_5 : decode cX4_nextTry 5 = .ok (.istore_n 2, 1) := by decide +kernel
theorem dX4_nextTry_6 : decode cX4_nextTry 6 = .ok (.iconst (-1), 1) := by decide +kernel
theorem dX4_nextTry_7 : decode cX4_nextTry 7 = .ok (.istore_n 3, 1) := by decide +kernel
theorem dX4_nextTry_8 : decode cX4_nextTry 8 = .ok (.iload_n 2, 1) := by decide +kernel
theorem dX4_nextTry_9 : decode cX4_nextTry 9 = .ok (.invokestatic 68, 3) := by decide +kernel
theorem dX4_nextTry_12 : decode cX4_nextTry 12 = .ok (.istore 4, 2) := by decide +kernel
theorem dX4_nextTry_14 : decode cX4_nextTry 14 = .ok (.iload 4, 2) := by decide +kernel
theorem dX4_nextTry_16 : decode cX4_nextTry 16 = .ok (.ifCond .ne 5, 3) := by decide +kernel
theorem dX4_nextTry_19 : decode cX4_nextTry 19 = .ok (.iconst (-1), 1) := by decide +kernel
theorem dX4_nextTry_20 : decode cX4_nextTry 20 = .ok (.ireturn, 1) := by decide +kernel
theorem dX4_nextTry_21 : decode cX4_nextTry 21 = .ok (.iconst 0, 1) := by decide +kernel
theorem dX4_nextTry_22 : decode cX4_nextTry 22 = .ok (.istore 5, 2) := by decide +kernel
theorem dX4_nextTry_24 : decode cX4_nextTry 24 = .ok (.iload 5, 2) := by decide +kernel
theorem dX4_nextTry_26 : decode cX4_nextTry 26 = .ok (.iconst 1, 1) := by decide +kernel
theorem dX4_nextTry_27 : decode cX4_nextTry 27 = .ok (.aload_n 0, 1) := by decide +kernel
theorem dX4_nextTry_28 : decode cX4_nextTry 28 = .ok (.iload_n 1, 1) := by decide +kernel
theorem dX4_nextTry_29 : decode cX4_nextTry 29 = .ok (.invokevirtual 57, 3) := by decide +kernel
theorem dX4_nextTry_32 : decode cX4_nextTry 32 = .ok (.ishl, 1) := by decide +kernel
theorem dX4_nextTry_33 : decode cX4_nextTry 33 = .ok (.if_icmp .ge 38, 3) := by decide +kernel
theorem dX4_nextTry_36 : decode cX4_nextTry 36 = .ok (.aload_n 0, 1) := by decide +kernel
theorem dX4_nextTry_37 : decode cX4_nextTry 37 = .ok (.iload_n 1, 1) := by decide +kernel
theorem dX4_nextTry_38 : decode cX4_nextTry 38 = .ok (.iload_n 2, 1) := by decide +kernel
theorem dX4_nextTry_39 : decode cX4_nextTry 39 = .ok (.iload 5, 2) := by decide +kernel
theorem dX4_nextTry_41 : decode cX4_nextTry 41 = .ok (.invokevirtual 90, 3) := by decide +kernel
theorem dX4_nextTry_44 : decode cX4_nextTry 44 = .ok (.istore 6, 2) := by decide +kernel
theorem dX4_nextTry_46 : decode cX4_nextTry 46 = .ok (.iload_n 3, 1) := by decide +kernel
theorem dX4_nextTry_47 : decode cX4_nextTry 47 = .ok (.iconst (-1), 1) := by decide +kernel
theorem dX4_nextTry_48 : decode cX4_nextTry 48 = .ok (.if_icmp .eq 10, 3) := by decide +kernel
theorem dX4_nextTry_51 : decode cX4_nextTry 51 = .ok (.iload 6, 2) := by decide +kernel
theorem dX4_nextTry_53 : decode cX4_nextTry 53 = .ok (.iload 4, 2) := by decide +kernel
theorem dX4_nextTry_55 : decode cX4_nextTry 55 = .ok (.if_icmp .ge 10, 3) := by decide +kernel
theorem dX4_nextTry_58 : decode cX4_nextTry 58 = .ok (.iload 5, 2) := by decide +kernel
theorem dX4_nextTry_60 : decode cX4_nextTry 60 = .ok (.istore_n 3, 1) := by decide +kernel
theorem dX4_nextTry_61 : decode cX4_nextTry 61 = .ok (.iload 6, 2) := by decide +kernel
theorem dX4_nextTry_63 : decode cX4_nextTry 63 = .ok (.istore 4, 2) := by decide +kernel
theorem dX4_nextTry_65 : decode cX4_nextTry 65 = .ok (.iinc 5 1, 3) := by decide +kernel
theorem dX4_nextTry_68 : decode cX4_nextTry 68 = .ok (.goto (-44), 3) := by decide +kernel
theorem dX4_nextTry_71 : decode cX4_nextTry 71 = .ok (.iload_n 3, 1) := by decide +kernel
theorem dX4_nextTry_72 : decode cX4_nextTry 72 = .ok (.ireturn, 1) := by decide +kernel
theorem dX4_worstOfTry_0 : decode cX4_worstOfTry 0 = .ok (.iconst 0, 1) := by decide +kernel
theorem dX4_worstOfTry_1 : decode cX4_worstOfTry 1 = .ok (.istore 4, 2) := by decide +kernel
theorem dX4_worstOfTry_3 : decode cX4_worstOfTry 3 = .ok (.iconst 0, 1) := by decide +kernel
theorem dX4_worstOfTry_4 : decode cX4_worstOfTry 4 = .ok (.istore 5, 2) := by decide +kernel
theorem dX4_worstOfTry_6 : decode cX4_worstOfTry 6 = .ok (.iload 5, 2) := by decide +kernel
theorem dX4_worstOfTry_8 : decode cX4_worstOfTry 8 = .ok (.iconst 5, 1) := by decide +kernel
theorem dX4_worstOfTry_9 : decode cX4_worstOfTry 9 = .ok (.if_icmp .ge 32, 3) := by decide +kernel
theorem dX4_worstOfTry_12 : decode cX4_worstOfTry 12 = .ok (.iload_n 2, 1) := by decide +kernel
theorem dX4_worstOfTry_13 : decode cX4_worstOfTry 13 = .ok (.iload 5, 2) := by decide +kernel
theorem dX4_worstOfTry_15 : decode cX4_worstOfTry 15 = .ok (.ishr, 1) := by decide +kernel
theorem dX4_worstOfTry_16 : decode cX4_worstOfTry 16 = .ok (.iconst 1, 1) := by decide +kernel
theorem dX4_worstOfTry_17 : decode cX4_worstOfTry 17 = .ok (.iand, 1) := by decide +kernel
theorem dX4_worstOfTry_18 : decode cX4_worstOfTry 18 = .ok (.ifCond .eq 17, 3) := by decide +kernel
theorem dX4_worstOfTry_21 : decode cX4_worstOfTry 21 = .ok (.aload_n 0, 1) := by decide +kernel
theorem dX4_worstOfTry_22 : decode cX4_worstOfTry 22 = .ok (.iload_n 1, 1) := by decide +kernel
theorem dX4_worstOfTry_23 : decode cX4_worstOfTry 23 = .ok (.iload 5, 2) := by decide +kernel
theorem dX4_worstOfTry_25 : decode cX4_worstOfTry 25 = .ok (.iload_n 3, 1) := by decide +kernel
theorem dX4_worstOfTry_26 : decode cX4_worstOfTry 26 = .ok (.invokevirtual 77, 3) := by decide +kernel
theorem dX4_worstOfTry_29 : decode cX4_worstOfTry 29 = .ok (.ifCond .eq 6, 3) := by decide +kernel
theorem dX4_worstOfTry_32 : decode cX4_worstOfTry 32 = .ok (.iinc 4 1, 3) := by decide +kernel
theorem dX4_worstOfTry_35 : decode cX4_worstOfTry 35 = .ok (.iinc 5 1, 3) := by decide +kernel
theorem dX4_worstOfTry_38 : decode cX4_worstOfTry 38 = .ok (.goto (-32), 3) := by decide +kernel
theorem dX4_worstOfTry_41 : decode cX4_worstOfTry 41 = .ok (.iload 4, 2) := by decide +kernel
theorem dX4_worstOfTry_43 : decode cX4_worstOfTry 43 = .ok (.iload_n 2, 1) := by decide +kernel
theorem dX4_worstOfTry_44 : decode cX4_worstOfTry 44 = .ok (.invokestatic 68, 3) := by decide +kernel
theorem dX4_worstOfTry_47 : decode cX4_worstOfTry 47 = .ok (.iload 4, 2) := by decide +kernel
theorem dX4_worstOfTry_49 : decode cX4_worstOfTry 49 = .ok (.isub, 1) := by decide +kernel
theorem dX4_worstOfTry_50 : decode cX4_worstOfTry 50 = .ok (.invokestatic 94, 3) := by decide +kernel
theorem dX4_worstOfTry_53 : decode cX4_worstOfTry 53 = .ok (.ireturn, 1) := by decide +kernel
theorem dX5_init_0 : decode cX5_init 0 = .ok (.aload_n 0, 1) := by decide +kernel
theorem dX5_init_1 : decode cX5_init 1 = .ok (.invokespecial 3, 3) := by decide +kernel
theorem dX5_init_4 : decode cX5_init 4 = .ok (.aload_n 0, 1) := by decide +kernel
theorem dX5_init_5 : decode cX5_init 5 = .ok (.new 9, 3) := by decide +kernel
theorem dX5_init_8 : decode cX5_init 8 = .ok (.dup, 1) := by decide +kernel
theorem dX5_init_9 : decode cX5_init 9 = .ok (.invokespecial 11, 3) := by decide +kernel
theorem dX5_init_12 : decode cX5_init 12 = .ok (.putfield 12, 3) := by decide +kernel
theorem dX5_init_15 : decode cX5_init 15 = .ok (.aload_n 0, 1) := by decide +kernel
theorem dX5_init_16 : decode cX5_init 16 = .ok (.new 16, 3) := by decide +kernel
theorem dX5_init_19 : decode cX5_init 19 = .ok (.dup, 1) := by decide +kernel
theorem dX5_init_20 : decode cX5_init 20 = .ok (.invokespecial 18, 3) := by decide +kernel
theorem dX5_init_23 : decode cX5_init 23 = .ok (.putfield 19, 3) := by decide +kernel
theorem dX5_init_26 : decode cX5_init 26 = .ok (.aload_n 0, 1) := by decide +kernel
theorem dX5_init_27 : decode cX5_init 27 = .ok (.new 16, 3) := by decide +kernel
theorem dX5_init_30 : decode cX5_init 30 = .ok (.dup, 1) := by decide +kernel
theorem dX5_init_31 : decode cX5_init 31 = .ok (.invokespecial 18, 3) := by decide +kernel
theorem dX5_init_34 : decode cX5_init 34 = .ok (.putfield 23, 3) := by decide +kernel
theorem dX5_init_37 : decode cX5_init 37 = .ok (.aload_n 0, 1) := by decide +kernel
theorem dX5_init_38 : decode cX5_init 38 = .ok (.new 16, 3) := by decide +kernel
theorem dX5_init_41 : decode cX5_init 41 = .ok (.dup, 1) := by decide +kernel
theorem dX5_init_42 : decode cX5_init 42 = .ok (.invokespecial 18, 3) := by decide +kernel
theorem dX5_init_45 : decode cX5_init 45 = .ok (.putfield 26, 3) := by decide +kernel
theorem dX5_init_48 : decode cX5_init 48 = .ok (.aload_n 0, 1) := by decide +kernel
theorem dX5_init_49 : decode cX5_init 49 = .ok (.new 29, 3) := by decide +kernel
theorem dX5_init_52 : decode cX5_init 52 = .ok (.dup, 1) := by decide +kernel
theorem dX5_init_53 : decode cX5_init 53 = .ok (.invokespecial 31, 3) := by decide +kernel
theorem dX5_init_56 : decode cX5_init 56 = .ok (.putfield 32, 3) := by decide +kernel
theorem dX5_init_59 : decode cX5_init 59 = .ok (.aload_n 0, 1) := by decide +kernel
theorem dX5_init_60 : decode cX5_init 60 = .ok (.new 36, 3) := by decide +kernel
theorem dX5_init_63 : decode cX5_init 63 = .ok (.dup, 1) := by decide +kernel
theorem dX5_init_64 : decode cX5_init 64 = .ok (.sipush 1690, 3) := by decide +kernel
theorem dX5_init_67 : decode cX5_init 67 = .ok (.invokespecial 38, 3) := by decide +kernel
theorem dX5_init_70 : decode cX5_init 70 = .ok (.putfield 41, 3) := by decide +kernel
theorem dX5_init_73 : decode cX5_init 73 = .ok (.aload_n 0, 1) := by decide +kernel
theorem dX5_init_74 : decode cX5_init 74 = .ok (.new 36, 3) := by decide +kernel
theorem dX5_init_77 : decode cX5_init 77 = .ok (.dup, 1) := by decide +kernel
theorem dX5_init_78 : decode cX5_init 78 = .ok (.sipush 200, 3) := by decide +kernel
theorem dX5_init_81 : decode cX5_init 81 = .ok (.invokespecial 38, 3) := by decide +kernel
theorem dX5_init_84 : decode cX5_init 84 = .ok (.putfield 45, 3) := by decide +kernel
theorem dX5_init_87 : decode cX5_init 87 = .ok (.return_, 1) := by decide +kernel
theorem dX5_letter_0 : decode cX5_letter 0 = .ok (.iload_n 1, 1) := by decide +kernel
theorem dX5_letter_1 : decode cX5_letter 1 = .ok (.iconst 1, 1) := by decide +kernel
theorem dX5_letter_2 : decode cX5_letter 2 = .ok (.if_icmp .lt 9, 3) := by decide +kernel
theorem dX5_letter_5 : decode cX5_letter 5 = .ok (.iload_n 1, 1) := by decide +kernel
theorem dX5_letter_6 : decode cX5_letter 6 = .ok (.bipush 126, 2) := by decide +kernel
theorem dX5_letter_8 : decode cX5_letter 8 = .ok (.if_icmp .le 6, 3) := by decide +kernel
theorem dX5_letter_11 : decode cX5_letter 11 = .ok (.bipush (-102), 2) := by decide +kernel
theorem dX5_letter_13 : decode cX5_letter 13 = .ok (.ireturn, 1) := by decide +kernel
theorem dX5_letter_14 : decode cX5_letter 14 = .ok (.aload_n 0, 1) := by decide +kernel
theorem dX5_letter_15 : decode cX5_letter 15 = .ok (.getfield 12, 3) := by decide +kernel
theorem dX5_letter_18 : decode cX5_letter 18 = .ok (.getfield 48, 3) := by decide +kernel
theorem dX5_letter_21 : decode cX5_letter 21 = .ok (.bipush 36, 2) := by decide +kernel
theorem dX5_letter_23 : decode cX5_letter 23 = .ok (.if_icmp .lt 6, 3) := by decide +kernel
theorem dX5_letter_26 : decode cX5_letter 26 = .ok (.bipush (-104), 2) := by decide +kernel
theorem dX5_letter_28 : decode cX5_letter 28 = .ok (.ireturn, 1) := by decide +kernel
theorem dX5_letter_29 : decode cX5_letter 29 = .ok (.aload_n 0, 1) := by decide +kernel
theorem dX5_letter_30 : decode cX5_letter 30 = .ok (.getfield 12, 3) := by decide +kernel
theorem dX5_letter_33 : decode cX5_letter 33 = .ok (.iload_n 1, 1) := by decide +kernel
theorem dX5_letter_34 : decode cX5_letter 34 = .ok (.invokevirtual 52, 3) := by decide +kernel
theorem dX5_letter_37 : decode cX5_letter 37 = .ok (.aload_n 0, 1) := by decide +kernel
theorem dX5_letter_38 : decode cX5_letter 38 = .ok (.getfield 12, 3) := by decide +kernel
theorem dX5_letter_41 : decode cX5_letter 41 = .ok (.getfield 48, 3) := by decide +kernel
theorem dX5_letter_44 : decode cX5_letter 44 = .ok (.ireturn, 1) := by decide +kernel
theorem dX5_blank_0 : decode cX5_blank 0 = .ok (.aload_n 0, 1) := by decide +kernel
theorem dX5_blank_1 : decode cX5_blank 1 = .ok (.getfield 12, 3) := by decide +kernel
theorem dX5_blank_4 : decode cX5_blank 4 = .ok (.getfield 48, 3) := by decide +kernel
theorem dX5_blank_7 : decode cX5_blank 7 = .ok (.istore_n 1, 1) := by decide +kernel
theorem dX5_blank_8 : decode cX5_blank 8 = .ok (.aload_n 0, 1) := by decide +kernel
theorem dX5_blank_9 : decode cX5_blank 9 = .ok (.getfield 12, 3) := by decide +kernel
theorem dX5_blank_12 : decode cX5_blank 12 = .ok (.iconst 0, 1) := by decide +kernel
theorem dX5_blank_13 : decode cX5_blank 13 = .ok (.putfield 48, 3) := by decide +kernel
theorem dX5_blank_16 : decode cX5_blank 16 = .ok (.iload_n 1, 1) := by decide +kernel
theorem dX5_blank_17 : decode cX5_blank 17 = .ok (.ireturn, 1) := by decide +kernel
theorem dX5_fault_0 : decode cX5_fault 0 = .ok (.aload_n 0, 1) := by decide +kernel
theorem dX5_fault_1 : decode cX5_fault 1 = .ok (.getfield 12, 3) := by decide +kernel
theorem dX5_fault_4 : decode cX5_fault 4 = .ok (.aload_n 0, 1) := by decide +kernel
theorem dX5_fault_5 : decode cX5_fault 5 = .ok (.getfield 26, 3) := by decide +kernel
theorem dX5_fault_8 : decode cX5_fault 8 = .ok (.invokevirtual 55, 3) := by decide +kernel
theorem dX5_fault_11 : decode cX5_fault 11 = .ok (.pop, 1) := by decide +kernel
theorem dX5_fault_12 : decode cX5_fault 12 = .ok (.aload_n 0, 1) := by decide +kernel
theorem dX5_fault_13 : decode cX5_fault 13 = .ok (.getfield 12, 3) := by decide +kernel
theorem dX5_fault_16 : decode cX5_fault 16 = .ok (.getfield 59, 3) := by decide +kernel
theorem dX5_fault_19 : decode cX5_fault 19 = .ok (.ireturn, 1) := by decide +kernel
theorem dX5_board_0 : decode cX5_board 0 = .ok (.aload_n 0, 1) := by decide +kernel
theorem dX5_board_1 : decode cX5_board 1 = .ok (.getfield 12, 3) := by decide +kernel
theorem dX5_board_4 : decode cX5_board 4 = .ok (.aload_n 0, 1) := by decide +kernel
theorem dX5_board_5 : decode cX5_board 5 = .ok (.getfield 26, 3) := by decide +kernel
theorem dX5_board_8 : decode cX5_board 8 = .ok (.invokevirtual 55, 3) := by decide +kernel
theorem dX5_board_11 : decode cX5_board 11 = .ok (.ifCond .ne 6, 3) := by decide +kernel
theorem dX5_board_14 : decode cX5_board 14 = .ok (.bipush (-103), 2) := by decide +kernel
theorem dX5_board_16 : decode cX5_board 16 = .ok (.ireturn, 1) := by decide +kernel
theorem dX5_board_17 : decode cX5_board 17 = .ok (.aload_n 0, 1) := by decide +kernel
theorem dX5_board_18 : decode cX5_board 18 = .ok (.getfield 19, 3) := by decide +kernel
theorem dX5_board_21 : decode cX5_board 21 = .ok (.aload_n 0, 1) := by decide +kernel
theorem dX5_board_22 : decode cX5_board 22 = .ok (.getfield 26, 3) := by decide +kernel
theorem dX5_board_25 : decode cX5_board 25 = .ok (.invokevirtual 62, 3) := by decide +kernel
theorem dX5_board_28 : decode cX5_board 28 = .ok (.aload_n 0, 1) := by decide +kernel
theorem dX5_board_29 : decode cX5_board 29 = .ok (.getfield 12, 3) := by decide +kernel
theorem dX5_board_32 : decode cX5_board 32 = .ok (.iconst 0, 1) := by decide +kernel
theorem dX5_board_33 : decode cX5_board 33 = .ok (.putfield 48, 3) := by decide +kernel
theorem dX5_board_36 : decode cX5_board 36 = .ok (.aload_n 0, 1) := by decide +kernel
theorem dX5_board_37 : decode cX5_board 37 = .ok (.dup, 1) := by decide +kernel
theorem dX5_board_38 : decode cX5_board 38 = .ok (.getfield 66, 3) := by decide +kernel
theorem dX5_board_41 : decode cX5_board 41 = .ok (.iconst 1, 1) := by decide +kernel
theorem dX5_board_42 : decode cX5_board 42 = .ok (.iadd, 1) := by decide +kernel
theorem dX5_board_43 : decode cX5_board 43 = .ok (.putfield 66, 3) := by decide +kernel
theorem dX5_board_46 : decode cX5_board 46 = .ok (.aload_n 0, 1) := by decide +kernel
theorem dX5_board_47 : decode cX5_board 47 = .ok (.iconst 0, 1) := by decide +kernel
theorem dX5_board_48 : decode cX5_board 48 = .ok (.putfield 69, 3) := by decide +kernel
theorem dX5_board_51 : decode cX5_board 51 = .ok (.aload_n 0, 1) := by decide +kernel
theorem dX5_board_52 : decode cX5_board 52 = .ok (.iconst 1, 1) := by decide +kernel
theorem dX5_board_53 : decode cX5_board 53 = .ok (.putfield 73, 3) := by decide +kernel
theorem dX5_board_56 : decode cX5_board 56 = .ok (.aload_n 0, 1) := by decide +kernel
theorem dX5_board_57 : decode cX5_board 57 = .ok (.getfield 19, 3) := by decide +kernel
theorem dX5_board_60 : decode cX5_board 60 = .ok (.invokevirtual 76, 3) := by decide +kernel
theorem dX5_board_63 : decode cX5_board 63 = .ok (.ireturn, 1) := by decide +kernel
theorem dX5_line_0 : decode cX5_line 0 = .ok (.aload_n 0, 1) := by decide +kernel
theorem dX5_line_1 : decode cX5_line 1 = .ok (.getfield 19, 3) := by decide +kernel
theorem dX5_line_4 : decode cX5_line 4 = .ok (.iload_n 1, 1) := by decide +kernel
theorem dX5_line_5 : decode cX5_line 5 = .ok (.invokevirtual 80, 3) := by decide +kernel
theorem dX5_line_8 : decode cX5_line 8 = .ok (.ifCond .ne 6, 3) := by decide +kernel
theorem dX5_line_11 : decode cX5_line 11 = .ok (.bipush (-101), 2) := by decide +kernel
theorem dX5_line_13 : decode cX5_line 13 = .ok (.ireturn, 1) := by decide +kernel
theorem dX5_line_14 : decode cX5_line 14 = .ok (.iload_n 2, 1) := by decide +kernel
theorem dX5_line_15 : decode cX5_line 15 = .ok (.tableswitch 112 0 6 #[41, 51, 61, 71, 80, 94, 103], 41) := by decide +kernel
theorem dX5_line_56 : decode cX5_line 56 = .ok (.aload_n 0, 1) := by decide +kernel
theorem dX5_line_57 : decode cX5_line 57 = .ok (.getfield 19, 3) := by decide +kernel
theorem dX5_line_60 : decode cX5_line 60 = .ok (.getfield 84, 3) := by decide +kernel
theorem dX5_line_63 : decode cX5_line 63 = .ok (.iload_n 1, 1) := by decide +kernel
theorem dX5_line_64 : decode cX5_line 64 = .ok (.iaload, 1) := by decide +kernel
theorem dX5_line_65 : decode cX5_line 65 = .ok (.ireturn, 1) := by decide +kernel
theorem dX5_line_66 : decode cX5_line 66 = .ok (.aload_n 0, 1) := by decide +kernel
theorem dX5_line_67 : decode cX5_line 67 = .ok (.getfield 19, 3) := by decide +kernel
theorem dX5_line_70 : decode cX5_line 70 = .ok (.getfield 88, 3) := by decide +kernel
theorem dX5_line_73 : decode cX5_line 73 = .ok (.iload_n 1, 1) := by decide +kernel
theorem dX5_line_74 : decode cX5_line 74 = .ok (.iaload, 1) := by decide +kernel
theorem dX5_line_75 : decode cX5_line 75 = .ok (.ireturn, 1) := by decide +kernel
theorem dX5_line_76 : decode cX5_line 76 = .ok (.aload_n 0, 1) := by decide +kernel
theorem dX5_line_77 : decode cX5_line 77 = .ok (.getfield 19, 3) := by decide +kernel
theorem dX5_line_80 : decode cX5_line 80 = .ok (.getfield 91, 3) := by decide +kernel
theorem dX5_line_83 : decode cX5_line 83 = .ok (.iload_n 1, 1) := by decide +kernel
theorem dX5_line_84 : decode cX5_line 84 = .ok (.iaload, 1) := by decide +kernel
theorem dX5_line_85 : decode cX5_line 85 = .ok (.ireturn, 1) := by decide +kernel
theorem dX5_line_86 : decode cX5_line 86 = .ok (.aload_n 0, 1) := by decide +kernel
theorem dX5_line_87 : decode cX5_line 87 = .ok (.getfield 19, 3) := by decide +kernel
theorem dX5_line_90 : decode cX5_line 90 = .ok (.iload_n 1, 1) := by decide +kernel
theorem dX5_line_91 : decode cX5_line 91 = .ok (.invokevirtual 94, 3) := by decide +kernel
theorem dX5_line_94 : decode cX5_line 94 = .ok (.ireturn, 1) := by decide +kernel
theorem dX5_line_95 : decode cX5_line 95 = .ok (.aload_n 0, 1) := by decide +kernel
theorem dX5_line_96 : decode cX5_line 96 = .ok (.iload_n 1, 1) := by decide +kernel
theorem dX5_line_97 : decode cX5_line 97 = .ok (.invokevirtual 98, 3) := by decide +kernel
theorem dX5_line_100 : decode cX5_line 100 = .ok (.ifCond .eq 7, 3) := by decide +kernel
theorem dX5_line_103 : decode cX5_line 103 = .ok (.iconst 1, 1) := by decide +kernel
theorem dX5_line_104 : decode cX5_line 104 = .ok (.goto 4, 3) := by decide +kernel
theorem dX5_line_107 : decode cX5_line 107 = .ok (.iconst 0, 1) := by decide +kernel
theorem dX5_line_108 : decode cX5_line 108 = .ok (.ireturn, 1) := by decide +kernel
theorem dX5_line_109 : decode cX5_line 109 = .ok (.aload_n 0, 1) := by decide +kernel
theorem dX5_line_110 : decode cX5_line 110 = .ok (.getfield 19, 3) := by decide +kernel
theorem dX5_line_113 : decode cX5_line 113 = .ok (.iload_n 1, 1) := by decide +kernel
theorem dX5_line_114 : decode cX5_line 114 = .ok (.invokevirtual 101, 3) := by decide +kernel
theorem dX5_line_117 : decode cX5_line 117 = .ok (.ireturn, 1) := by decide +kernel
theorem dX5_line_118 : decode cX5_line 118 = .ok (.aload_n 0, 1) := by decide +kernel
theorem dX5_line_119 : decode cX5_line 119 = .ok (.getfield 19, 3) := by decide +kernel
theorem dX5_line_122 : decode cX5_line 122 = .ok (.iload_n 1, 1) := by decide +kernel
theorem dX5_line_123 : decode cX5_line 123 = .ok (.invokevirtual 104, 3) := by decide +kernel
theorem dX5_line_126 : decode cX5_line 126 = .ok (.ireturn, 1) := by decide +kernel
theorem dX5_line_127 : decode cX5_line 127 = .ok (.bipush (-102), 2) := by decide +kernel
theorem dX5_line_129 : decode cX5_line 129 = .ok (.ireturn, 1) := by decide +kernel
theorem dX5_as_0 : decode cX5_as 0 = .ok (.aload_n 0, 1) := by decide +kernel
theorem dX5_as_1 : decode cX5_as 1 = .ok (.getfield 19, 3) := by decide +kernel
theorem dX5_as_4 : decode cX5_as 4 = .ok (.iload_n 1, 1) := by decide +kernel
theorem dX5_as_5 : decode cX5_as 5 = .ok (.invokevirtual 80, 3) := by decide +kernel
theorem dX5_as_8 : decode cX5_as 8 = .ok (.ifCond .ne 6, 3) := by decide +kernel
theorem dX5_as_11 : decode cX5_as 11 = .ok (.bipush (-101), 2) := by decide +kernel
theorem dX5_as_13 : decode cX5_as 13 = .ok (.ireturn, 1) := by decide +kernel
theorem dX5_as_14 : decode cX5_as 14 = .ok (.iload_n 2, 1) := by decide +kernel
theorem dX5_as_15 : decode cX5_as 15 = .ok (.invokestatic 107, 3) := by decide +kernel
theorem dX5_as_18 : decode cX5_as 18 = .ok (.ifCond .ne 6, 3) := by decide +kernel
theorem dX5_as_21 : decode cX5_as 21 = .ok (.bipush (-102), 2) := by decide +kernel
theorem dX5_as_23 : decode cX5_as 23 = .ok (.ireturn, 1) := by decide +kernel
theorem dX5_as_24 : decode cX5_as 24 = .ok (.aload_n 0, 1) := by decide +kernel
theorem dX5_as_25 : decode cX5_as 25 = .ok (.getfield 19, 3) := by decide +kernel
theorem dX5_as_28 : decode cX5_as 28 = .ok (.getfield 84, 3) := by decide +kernel
theorem dX5_as_31 : decode cX5_as 31 = .ok (.iload_n 1, 1) := by decide +kernel
theorem dX5_as_32 : decode cX5_as 32 = .ok (.iaload, 1) := by decide +kernel
theorem dX5_as_33 : decode cX5_as 33 = .ok (.iload_n 2, 1) := by decide +kernel
theorem dX5_as_34 : decode cX5_as 34 = .ok (.invokestatic 112, 3) := by decide +kernel
theorem dX5_as_37 : decode cX5_as 37 = .ok (.ifCond .eq 7, 3) := by decide +kernel
theorem dX5_as_40 : decode cX5_as 40 = .ok (.iload_n 1, 1) := by decide +kernel
theorem dX5_as_41 : decode cX5_as 41 = .ok (.goto 4, 3) := by decide +kernel
theorem dX5_as_44 : decode cX5_as 44 = .ok (.iconst (-1), 1) := by decide +kernel
theorem dX5_as_45 : decode cX5_as 45 = .ok (.ireturn, 1) := by decide +kernel
theorem dX5_cell_0 : decode cX5_cell 0 = .ok (.aload_n 0, 1) := by decide +kernel
theorem dX5_cell_1 : decode cX5_cell 1 = .ok (.getfield 19, 3) := by decide +kernel
theorem dX5_cell_4 : decode cX5_cell 4 = .ok (.iload_n 1, 1) := by decide +kernel
theorem dX5_cell_5 : decode cX5_cell 5 = .ok (.invokevirtual 116, 3) := by decide +kernel
theorem dX5_cell_8 : decode cX5_cell 8 = .ok (.ifCond .ne 6, 3) := by decide +kernel
theorem dX5_cell_11 : decode cX5_cell 11 = .ok (.bipush (-101), 2) := by decide +kernel
theorem dX5_cell_13 : decode cX5_cell 13 = .ok (.ireturn, 1) := by decide +kernel
theorem dX5_cell_14 : decode cX5_cell 14 = .ok (.iload_n 2, 1) := by decide +kernel
theorem dX5_cell_15 : decode cX5_cell 15 = .ok (.tableswitch 52 0 2 #[25, 34, 43], 25) := by decide +kernel
theorem dX5_cell_40 : decode cX5_cell 40 = .ok (.aload_n 0, 1) := by decide +kernel
theorem dX5_cell_41 : decode cX5_cell 41 = .ok (.getfield 19, 3) := by decide +kernel
theorem dX5_cell_44 : decode cX5_cell 44 = .ok (.iload_n 1, 1) := by decide +kernel
theorem dX5_cell_45 : decode cX5_cell 45 = .ok (.invokevirtual 119, 3) := by decide +kernel
theorem dX5_cell_48 : decode cX5_cell 48 = .ok (.ireturn, 1) := by decide +kernel
theorem dX5_cell_49 : decode cX5_cell 49 = .ok (.aload_n 0, 1) := by decide +kernel
theorem dX5_cell_50 : decode cX5_cell 50 = .ok (.invokevirtual 122, 3) := by decide +kernel
theorem dX5_cell_53 : decode cX5_cell 53 = .ok (.iload_n 1, 1) := by decide +kernel
theorem dX5_cell_54 : decode cX5_cell 54 = .ok (.invokevirtual 126, 3) := by decide +kernel
theorem dX5_cell_57 : decode cX5_cell 57 = .ok (.ireturn, 1) := by decide +kernel
theorem dX5_cell_58 : decode cX5_cell 58 = .ok (.aload_n 0, 1) := by decide +kernel
theorem dX5_cell_59 : decode cX5_cell 59 = .ok (.invokevirtual 122, 3) := by decide +kernel
theorem dX5_cell_62 : decode cX5_cell 62 = .ok (.iload_n 1, 1) := by decide +kernel
theorem dX5_cell_63 : decode cX5_cell 63 = .ok (.invokevirtual 129, 3) := by decide +kernel
theorem dX5_cell_66 : decode cX5_cell 66 = .ok (.ireturn, 1) := by decide +kernel
theorem dX5_cell_67 : decode cX5_cell 67 = .ok (.bipush (-102), 2) := by decide +kernel
theorem dX5_cell_69 : decode cX5_cell 69 = .ok (.ireturn, 1) := by decide +kernel
theorem dX5_keeps_0 : decode cX5_keeps 0 = .ok (.aload_n 0, 1) := by decide +kernel
theorem dX5_keeps_1 : decode cX5_keeps 1 = .ok (.getfield 19, 3) := by decide +kernel
theorem dX5_keeps_4 : decode cX5_keeps 4 = .ok (.iload_n 1, 1) := by decide +kernel
theorem dX5_keeps_5 : decode cX5_keeps 5 = .ok (.invokevirtual 80, 3) := by decide +kernel
theorem dX5_keeps_8 : decode cX5_keeps 8 = .ok (.ifCond .ne 6, 3) := by decide +kernel
theorem dX5_keeps_11 : decode cX5_keeps 11 = .ok (.bipush (-101), 2) := by decide +kernel
theorem dX5_keeps_13 : decode cX5_keeps 13 = .ok (.ireturn, 1) := by decide +kernel
theorem dX5_keeps_14 : decode cX5_keeps 14 = .ok (.aload_n 0, 1) := by decide +kernel
theorem dX5_keeps_15 : decode cX5_keeps 15 = .ok (.getfield 19, 3) := by decide +kernel
theorem dX5_keeps_18 : decode cX5_keeps 18 = .ok (.iload_n 1, 1) := by decide +kernel
theorem dX5_keeps_19 : decode cX5_keeps 19 = .ok (.iload_n 2, 1) := by decide +kernel
theorem dX5_keeps_20 : decode cX5_keeps 20 = .ok (.invokevirtual 132, 3) := by decide +kernel
theorem dX5_keeps_23 : decode cX5_keeps 23 = .ok (.ifCond .ne 6, 3) := by decide +kernel
theorem dX5_keeps_26 : decode cX5_keeps 26 = .ok (.bipush (-102), 2) := by decide +kernel
theorem dX5_keeps_28 : decode cX5_keeps 28 = .ok (.ireturn, 1) := by decide +kernel
theorem dX5_keeps_29 : decode cX5_keeps 29 = .ok (.aload_n 0, 1) := by decide +kernel
theorem dX5_keeps_30 : decode cX5_keeps 30 = .ok (.getfield 19, 3) := by decide +kernel
theorem dX5_keeps_33 : decode cX5_keeps 33 = .ok (.getfield 84, 3) := by decide +kernel
theorem dX5_keeps_36 : decode cX5_keeps 36 = .ok (.iload_n 1, 1) := by decide +kernel
theorem dX5_keeps_37 : decode cX5_keeps 37 = .ok (.iaload, 1) := by decide +kernel
theorem dX5_keeps_38 : decode cX5_keeps 38 = .ok (.aload_n 0, 1) := by decide +kernel
theorem dX5_keeps_39 : decode cX5_keeps 39 = .ok (.getfield 19, 3) := by decide +kernel
theorem dX5_keeps_42 : decode cX5_keeps 42 = .ok (.getfield 88, 3) := by decide +kernel
theorem dX5_keeps_45 : decode cX5_keeps 45 = .ok (.iload_n 1, 1) := by decide +kernel
theorem dX5_keeps_46 : decode cX5_keeps 46 = .ok (.iaload, 1) := by decide +kernel
theorem dX5_keeps_47 : decode cX5_keeps 47 = .ok (.aload_n 0, 1) := by decide +kernel
theorem dX5_keeps_48 : decode cX5_keeps 48 = .ok (.getfield 19, 3) := by decide +kernel
theorem dX5_keeps_51 : decode cX5_keeps 51 = .ok (.getfield 91, 3) := by decide +kernel
theorem dX5_keeps_54 : decode cX5_keeps 54 = .ok (.iload_n 1, 1) := by decide +kernel
theorem dX5_keeps_55 : decode cX5_keeps 55 = .ok (.iaload, 1) := by decide +kernel
theorem dX5_keeps_56 : decode cX5_keeps 56 = .ok (.iload_n 2, 1) := by decide +kernel
theorem dX5_keeps_57 : decode cX5_keeps 57 = .ok (.invokestatic 135, 3) := by decide +kernel
theorem dX5_keeps_60 : decode cX5_keeps 60 = .ok (.ifCond .eq 7, 3) := by decide +kernel
theorem dX5_keeps_63 : decode cX5_keeps 63 = .ok (.iconst 1, 1) := by decide +kernel
theorem dX5_keeps_64 : decode cX5_keeps 64 = .ok (.goto 4, 3) := by decide +kernel
theorem dX5_keeps_67 : decode cX5_keeps 67 = .ok (.iconst 0, 1) := by decide +kernel
theorem dX5_keeps_68 : decode cX5_keeps 68 = .ok (.ireturn, 1) := by decide +kernel
theorem dX5_mark_0 : decode cX5_mark 0 = .ok (.aload_n 0, 1) := by decide +kernel
theorem dX5_mark_1 : decode cX5_mark 1 = .ok (.getfield 19, 3) := by decide +kernel
theorem dX5_mark_4 : decode cX5_mark 4 = .ok (.iload_n 1, 1) := by decide +kernel
theorem dX5_mark_5 : decode cX5_mark 5 = .ok (.invokevirtual 116, 3) := by decide +kernel
theorem dX5_mark_8 : decode cX5_mark 8 = .ok (.ifCond .ne 6, 3) := by decide +kernel
theorem dX5_mark_11 : decode cX5_mark 11 = .ok (.bipush (-101), 2) := by decide +kernel
theorem dX5_mark_13 : decode cX5_mark 13 = .ok (.ireturn, 1) := by decide +kernel
theorem dX5_mark_14 : decode cX5_mark 14 = .ok (.iload_n 2, 1) := by decide +kernel
theorem dX5_mark_15 : decode cX5_mark 15 = .ok (.ifCond .lt 8, 3) := by decide +kernel
theorem dX5_mark_18 : decode cX5_mark 18 = .ok (.iload_n 2, 1) := by decide +kernel
theorem dX5_mark_19 : decode cX5_mark 19 = .ok (.iconst 2, 1) := by decide +kernel
theorem dX5_mark_20 : decode cX5_mark 20 = .ok (.if_icmp .le 6, 3) := by decide +kernel
theorem dX5_mark_23 : decode cX5_mark 23 = .ok (.bipush (-102), 2) := by decide +kernel
theorem dX5_mark_25 : decode cX5_mark 25 = .ok (.ireturn, 1) := by decide +kernel
theorem dX5_mark_26 : decode cX5_mark 26 = .ok (.aload_n 0, 1) := by decide +kernel
theorem dX5_mark_27 : decode cX5_mark 27 = .ok (.getfield 19, 3) := by decide +kernel
theorem dX5_mark_30 : decode cX5_mark 30 = .ok (.iload_n 1, 1) := by decide +kernel
theorem dX5_mark_31 : decode cX5_mark 31 = .ok (.invokevirtual 119, 3) := by decide +kernel
theorem dX5_mark_34 : decode cX5_mark 34 = .ok (.istore_n 3, 1) := by decide +kernel
theorem dX5_mark_35 : decode cX5_mark 35 = .ok (.aload_n 0, 1) := by decide +kernel
theorem dX5_mark_36 : decode cX5_mark 36 = .ok (.getfield 19, 3) := by decide +kernel
theorem dX5_mark_39 : decode cX5_mark 39 = .ok (.iload_n 1, 1) := by decide +kernel
theorem dX5_mark_40 : decode cX5_mark 40 = .ok (.iload_n 2, 1) := by decide +kernel
theorem dX5_mark_41 : decode cX5_mark 41 = .ok (.invokevirtual 139, 3) := by decide +kernel
theorem dX5_mark_44 : decode cX5_mark 44 = .ok (.aload_n 0, 1) := by decide +kernel
theorem dX5_mark_45 : decode cX5_mark 45 = .ok (.iconst 1, 1) := by decide +kernel
theorem dX5_mark_46 : decode cX5_mark 46 = .ok (.putfield 73, 3) := by decide +kernel
theorem dX5_mark_49 : decode cX5_mark 49 = .ok (.iload_n 3, 1) := by decide +kernel
theorem dX5_mark_50 : decode cX5_mark 50 = .ok (.ireturn, 1) := by decide +kernel
theorem dX5_clear_0 : decode cX5_clear 0 = .ok (.aload_n 0, 1) := by decide +kernel
theorem dX5_clear_1 : decode cX5_clear 1 = .ok (.getfield 19, 3) := by decide +kernel
theorem dX5_clear_4 : decode cX5_clear 4 = .ok (.invokevirtual 143, 3) := by decide +kernel
theorem dX5_clear_7 : decode cX5_clear 7 = .ok (.istore_n 1, 1) := by decide +kernel
theorem dX5_clear_8 : decode cX5_clear 8 = .ok (.aload_n 0, 1) := by decide +kernel
theorem dX5_clear_9 : decode cX5_clear 9 = .ok (.getfield 19, 3) := by decide +kernel
theorem dX5_clear_12 : decode cX5_clear 12 = .ok (.invokevirtual 146, 3) := by decide +kernel
theorem dX5_clear_15 : decode cX5_clear 15 = .ok (.aload_n 0, 1) := by decide +kernel
theorem dX5_clear_16 : decode cX5_clear 16 = .ok (.iconst 1, 1) := by decide +kernel
theorem dX5_clear_17 : decode cX5_clear 17 = .ok (.putfield 73, 3) := by decide +kernel
theorem dX5_clear_20 : decode cX5_clear 20 = .ok (.iload_n 1, 1) := by decide +kernel
theorem dX5_clear_21 : decode cX5_clear 21 = .ok (.ireturn, 1) := by decide +kernel
theorem dX5_clue_0 : decode cX5_clue 0 = .ok (.aload_n 0, 1) := by decide +kernel
theorem dX5_clue_1 : decode cX5_clue 1 = .ok (.getfield 19, 3) := by decide +kernel
theorem dX5_clue_4 : decode cX5_clue 4 = .ok (.iload_n 1, 1) := by decide +kernel
theorem dX5_clue_5 : decode cX5_clue 5 = .ok (.invokevirtual 80, 3) := by decide +kernel
theorem dX5_clue_8 : decode cX5_clue 8 = .ok (.ifCond .ne 6, 3) := by decide +kernel
theorem dX5_clue_11 : decode cX5_clue 11 = .ok (.bipush (-101), 2) := by decide +kernel
theorem dX5_clue_13 : decode cX5_clue 13 = .ok (.ireturn, 1) := by decide +kernel
theorem dX5_clue_14 : decode cX5_clue 14 = .ok (.aload_n 0, 1) := by decide +kernel
theorem dX5_clue_15 : decode cX5_clue 15 = .ok (.getfield 19, 3) := by decide +kernel
theorem dX5_clue_18 : decode cX5_clue 18 = .ok (.iload_n 1, 1) := by decide +kernel
theorem dX5_clue_19 : decode cX5_clue 19 = .ok (.invokevirtual 94, 3) := by decide +kernel
theorem dX5_clue_22 : decode cX5_clue 22 = .ok (.iload_n 2, 1) := by decide +kernel
theorem dX5_clue_23 : decode cX5_clue 23 = .ok (.iload_n 3, 1) := by decide +kernel
theorem dX5_clue_24 : decode cX5_clue 24 = .ok (.iload 4, 2) := by decide +kernel
theorem dX5_clue_26 : decode cX5_clue 26 = .ok (.invokestatic 149, 3) := by decide +kernel
theorem dX5_clue_29 : decode cX5_clue 29 = .ok (.ifCond .ne 6, 3) := by decide +kernel
theorem dX5_clue_32 : decode cX5_clue 32 = .ok (.bipush (-102), 2) := by decide +kernel
theorem dX5_clue_34 : decode cX5_clue 34 = .ok (.ireturn, 1) := by decide +kernel
theorem dX5_clue_35 : decode cX5_clue 35 = .ok (.aload_n 0, 1) := by decide +kernel
theorem dX5_clue_36 : decode cX5_clue 36 = .ok (.getfield 19, 3) := by decide +kernel
theorem dX5_clue_39 : decode cX5_clue 39 = .ok (.getfield 84, 3) := by decide +kernel
theorem dX5_clue_42 : decode cX5_clue 42 = .ok (.iload_n 1, 1) := by decide +kernel
theorem dX5_clue_43 : decode cX5_clue 43 = .ok (.iaload, 1) := by decide +kernel
theorem dX5_clue_44 : decode cX5_clue 44 = .ok (.istore 5, 2) := by decide +kernel
theorem dX5_clue_46 : decode cX5_clue 46 = .ok (.aload_n 0, 1) := by decide +kernel
theorem dX5_clue_47 : decode cX5_clue 47 = .ok (.getfield 19, 3) := by decide +kernel
theorem dX5_clue_50 : decode cX5_clue 50 = .ok (.iload_n 1, 1) := by decide +kernel
theorem dX5_clue_51 : decode cX5_clue 51 = .ok (.iload_n 2, 1) := by decide +kernel
theorem dX5_clue_52 : decode cX5_clue 52 = .ok (.iload_n 3, 1) := by decide +kernel
theorem dX5_clue_53 : decode cX5_clue 53 = .ok (.iload 4, 2) := by decide +kernel
theorem dX5_clue_55 : decode cX5_clue 55 = .ok (.invokevirtual 152, 3) := by decide +kernel
theorem dX5_clue_58 : decode cX5_clue 58 = .ok (.aload_n 0, 1) := by decide +kernel
theorem dX5_clue_59 : decode cX5_clue 59 = .ok (.iconst 1, 1) := by decide +kernel
theorem dX5_clue_60 : decode cX5_clue 60 = .ok (.putfield 73, 3) := by decide +kernel
theorem dX5_clue_63 : decode cX5_clue 63 = .ok (.iload 5, 2) := by decide +kernel
theorem dX5_clue_65 : decode cX5_clue 65 = .ok (.ireturn, 1) := by decide +kernel
theorem dX5_left_0 : decode cX5_left 0 = .ok (.aload_n 0, 1) := by decide +kernel
theorem dX5_left_1 : decode cX5_left 1 = .ok (.getfield 19, 3) := by decide +kernel
theorem dX5_left_4 : decode cX5_left 4 = .ok (.invokevirtual 156, 3) := by decide +kernel
theorem dX5_left_7 : decode cX5_left 7 = .ok (.ifCond .ne 6, 3) := by decide +kernel
theorem dX5_left_10 : decode cX5_left 10 = .ok (.bipush (-103), 2) := by decide +kernel
theorem dX5_left_12 : decode cX5_left 12 = .ok (.ireturn, 1) := by decide +kernel
theorem dX5_left_13 : decode cX5_left 13 = .ok (.aload_n 0, 1) := by decide +kernel
theorem dX5_left_14 : decode cX5_left 14 = .ok (.invokevirtual 122, 3) := by decide +kernel
theorem dX5_left_17 : decode cX5_left 17 = .ok (.getfield 160, 3) := by decide +kernel
theorem dX5_left_20 : decode cX5_left 20 = .ok (.ireturn, 1) := by decide +kernel
theorem dX5_picture_0 : decode cX5_picture 0 = .ok (.iload_n 1, 1) := by decide +kernel
theorem dX5_picture_1 : decode cX5_picture 1 = .ok (.ifCond .ge 6, 3) := by decide +kernel
theorem dX5_picture_4 : decode cX5_picture 4 = .ok (.bipush (-102), 2) := by decide +kernel
theorem dX5_picture_6 : decode cX5_picture 6 = .ok (.ireturn, 1) := by decide +kernel
theorem dX5_picture_7 : decode cX5_picture 7 = .ok (.aload_n 0, 1) := by decide +kernel
theorem dX5_picture_8 : decode cX5_picture 8 = .ok (.getfield 19, 3) := by decide +kernel
theorem dX5_picture_11 : decode cX5_picture 11 = .ok (.invokevirtual 156, 3) := by decide +kernel
theorem dX5_picture_14 : decode cX5_picture 14 = .ok (.ifCond .ne 6, 3) := by decide +kernel
theorem dX5_picture_17 : decode cX5_picture 17 = .ok (.bipush (-103), 2) := by decide +kernel
theorem dX5_picture_19 : decode cX5_picture 19 = .ok (.ireturn, 1) := by decide +kernel
theorem dX5_picture_20 : decode cX5_picture 20 = .ok (.aload_n 0, 1) := by decide +kernel
theorem dX5_picture_21 : decode cX5_picture 21 = .ok (.invokevirtual 122, 3) := by decide +kernel
theorem dX5_picture_24 : decode cX5_picture 24 = .ok (.iload_n 1, 1) := by decide +kernel
theorem dX5_picture_25 : decode cX5_picture 25 = .ok (.invokevirtual 161, 3) := by decide +kernel
theorem dX5_picture_28 : decode cX5_picture 28 = .ok (.ireturn, 1) := by decide +kernel
theorem dX5_look_0 : decode cX5_look 0 = .ok (.aload_n 0, 1) := by decide +kernel
theorem dX5_look_1 : decode cX5_look 1 = .ok (.getfield 19, 3) := by decide +kernel
theorem dX5_look_4 : decode cX5_look 4 = .ok (.invokevirtual 156, 3) := by decide +kernel
theorem dX5_look_7 : decode cX5_look 7 = .ok (.ifCond .ne 6, 3) := by decide +kernel
theorem dX5_look_10 : decode cX5_look 10 = .ok (.bipush (-103), 2) := by decide +kernel
theorem dX5_look_12 : decode cX5_look 12 = .ok (.ireturn, 1) := by decide +kernel
theorem dX5_look_13 : decode cX5_look 13 = .ok (.aload_n 0, 1) := by decide +kernel
theorem dX5_look_14 : decode cX5_look 14 = .ok (.invokevirtual 122, 3) := by decide +kernel
theorem dX5_look_17 : decode cX5_look 17 = .ok (.aload_n 0, 1) := by decide +kernel
theorem dX5_look_18 : decode cX5_look 18 = .ok (.getfield 19, 3) := by decide +kernel
theorem dX5_look_21 : decode cX5_look 21 = .ok (.invokevirtual 76, 3) := by decide +kernel
theorem dX5_look_24 : decode cX5_look 24 = .ok (.aload_n 0, 1) := by decide +kernel
theorem dX5_look_25 : decode cX5_look 25 = .ok (.getfield 19, 3) := by decide +kernel
theorem dX5_look_28 : decode cX5_look 28 = .ok (.invokevirtual 164, 3) := by decide +kernel
theorem dX5_look_31 : decode cX5_look 31 = .ok (.invokevirtual 167, 3) := by decide +kernel
theorem dX5_look_34 : decode cX5_look 34 = .ok (.ireturn, 1) := by decide +kernel
theorem dX5_odds_0 : decode cX5_odds 0 = .ok (.aload_n 0, 1) := by decide +kernel
theorem dX5_odds_1 : decode cX5_odds 1 = .ok (.getfield 19, 3) := by decide +kernel
theorem dX5_odds_4 : decode cX5_odds 4 = .ok (.iload_n 1, 1) := by decide +kernel
theorem dX5_odds_5 : decode cX5_odds 5 = .ok (.invokevirtual 116, 3) := by decide +kernel
theorem dX5_odds_8 : decode cX5_odds 8 = .ok (.ifCond .ne 6, 3) := by decide +kernel
theorem dX5_odds_11 : decode cX5_odds 11 = .ok (.bipush (-101), 2) := by decide +kernel
theorem dX5_odds_13 : decode cX5_odds 13 = .ok (.ireturn, 1) := by decide +kernel
theorem dX5_odds_14 : decode cX5_odds 14 = .ok (.iload_n 2, 1) := by decide +kernel
theorem dX5_odds_15 : decode cX5_odds 15 = .ok (.ifCond .lt 8, 3) := by decide +kernel
theorem dX5_odds_18 : decode cX5_odds 18 = .ok (.iload_n 2, 1) := by decide +kernel
theorem dX5_odds_19 : decode cX5_odds 19 = .ok (.iconst 1, 1) := by decide +kernel
theorem dX5_odds_20 : decode cX5_odds 20 = .ok (.if_icmp .le 6, 3) := by decide +kernel
theorem dX5_odds_23 : decode cX5_odds 23 = .ok (.bipush (-102), 2) := by decide +kernel
theorem dX5_odds_25 : decode cX5_odds 25 = .ok (.ireturn, 1) := by decide +kernel
theorem dX5_odds_26 : decode cX5_odds 26 = .ok (.aload_n 0, 1) := by decide +kernel
theorem dX5_odds_27 : decode cX5_odds 27 = .ok (.invokevirtual 122, 3) := by decide +kernel
theorem dX5_odds_30 : decode cX5_odds 30 = .ok (.iload_n 1, 1) := by decide +kernel
theorem dX5_odds_31 : decode cX5_odds 31 = .ok (.invokevirtual 126, 3) := by decide +kernel
theorem dX5_odds_34 : decode cX5_odds 34 = .ok (.istore_n 3, 1) := by decide +kernel
theorem dX5_odds_35 : decode cX5_odds 35 = .ok (.aload_n 0, 1) := by decide +kernel
theorem dX5_odds_36 : decode cX5_odds 36 = .ok (.getfield 41, 3) := by decide +kernel
theorem dX5_odds_39 : decode cX5_odds 39 = .ok (.getfield 160, 3) := by decide +kernel
theorem dX5_odds_42 : decode cX5_odds 42 = .ok (.istore 4, 2) := by decide +kernel
theorem dX5_odds_44 : decode cX5_odds 44 = .ok (.iload_n 3, 1) := by decide +kernel
theorem dX5_odds_45 : decode cX5_odds 45 = .ok (.iload 4, 2) := by decide +kernel
theorem dX5_odds_47 : decode cX5_odds 47 = .ok (.invokestatic 171, 3) := by decide +kernel
theorem dX5_odds_50 : decode cX5_odds 50 = .ok (.istore 5, 2) := by decide +kernel
theorem dX5_odds_52 : decode cX5_odds 52 = .ok (.iload 5, 2) := by decide +kernel
theorem dX5_odds_54 : decode cX5_odds 54 = .ok (.iconst 1, 1) := by decide +kernel
theorem dX5_odds_55 : decode cX5_odds 55 = .ok (.if_icmp .ge 13, 3) := by decide +kernel
theorem dX5_odds_58 : decode cX5_odds 58 = .ok (.iload_n 2, 1) := by decide +kernel
theorem dX5_odds_59 : decode cX5_odds 59 = .ok (.ifCond .ne 7, 3) := by decide +kernel
theorem dX5_odds_62 : decode cX5_odds 62 = .ok (.iconst 0, 1) := by decide +kernel
theorem dX5_odds_63 : decode cX5_odds 63 = .ok (.goto 4, 3) := by decide +kernel
theorem dX5_odds_66 : decode cX5_odds 66 = .ok (.iconst 1, 1) := by decide +kernel
theorem dX5_odds_67 : decode cX5_odds 67 = .ok (.ireturn, 1) := by decide +kernel
theorem dX5_odds_68 : decode cX5_odds 68 = .ok (.iload_n 2, 1) := by decide +kernel
theorem dX5_odds_69 : decode cX5_odds 69 = .ok (.ifCond .ne 7, 3) := by decide +kernel
theorem dX5_odds_72 : decode cX5_odds 72 = .ok (.iload_n 3, 1) := by decide +kernel
theorem dX5_odds_73 : decode cX5_odds 73 = .ok (.goto 5, 3) := by decide +kernel
theorem dX5_odds_76 : decode cX5_odds 76 = .ok (.iload 4, 2) := by decide +kernel
theorem dX5_odds_78 : decode cX5_odds 78 = .ok (.iload 5, 2) := by decide +kernel
theorem dX5_odds_80 : decode cX5_odds 80 = .ok (.idiv, 1) := by decide +kernel
theorem dX5_odds_81 : decode cX5_odds 81 = .ok (.ireturn, 1) := by decide +kernel
theorem dX5_hints_0 : decode cX5_hints 0 = .ok (.aload_n 0, 1) := by decide +kernel
theorem dX5_hints_1 : decode cX5_hints 1 = .ok (.getfield 19, 3) := by decide +kernel
theorem dX5_hints_4 : decode cX5_hints 4 = .ok (.invokevirtual 156, 3) := by decide +kernel
theorem dX5_hints_7 : decode cX5_hints 7 = .ok (.ifCond .eq 14, 3) := by decide +kernel
theorem dX5_hints_10 : decode cX5_hints 10 = .ok (.aload_n 0, 1) := by decide +kernel
theorem dX5_hints_11 : decode cX5_hints 11 = .ok (.invokevirtual 122, 3) := by decide +kernel
theorem dX5_hints_14 : decode cX5_hints 14 = .ok (.iload_n 1, 1) := by decide +kernel
theorem dX5_hints_15 : decode cX5_hints 15 = .ok (.invokevirtual 174, 3) := by decide +kernel
theorem dX5_hints_18 : decode cX5_hints 18 = .ok (.ifCond .ne 6, 3) := by decide +kernel
theorem dX5_hints_21 : decode cX5_hints 21 = .ok (.bipush (-101), 2) := by decide +kernel
theorem dX5_hints_23 : decode cX5_hints 23 = .ok (.ireturn, 1) := by decide +kernel
theorem dX5_hints_24 : decode cX5_hints 24 = .ok (.iload_n 2, 1) := by decide +kernel
theorem dX5_hints_25 : decode cX5_hints 25 = .ok (.ifCond .lt 8, 3) := by decide +kernel
theorem dX5_hints_28 : decode cX5_hints 28 = .ok (.iload_n 2, 1) := by decide +kernel
theorem dX5_hints_29 : decode cX5_hints 29 = .ok (.iconst 3, 1) := by decide +kernel
theorem dX5_hints_30 : decode cX5_hints 30 = .ok (.if_icmp .le 6, 3) := by decide +kernel
theorem dX5_hints_33 : decode cX5_hints 33 = .ok (.bipush (-102), 2) := by decide +kernel
theorem dX5_hints_35 : decode cX5_hints 35 = .ok (.ireturn, 1) := by decide +kernel
theorem dX5_hints_36 : decode cX5_hints 36 = .ok (.aload_n 0, 1) := by decide +kernel
theorem dX5_hints_37 : decode cX5_hints 37 = .ok (.getfield 177, 3) := by decide +kernel
theorem dX5_hints_40 : decode cX5_hints 40 = .ok (.bipush 12, 2) := by decide +kernel
theorem dX5_hints_42 : decode cX5_hints 42 = .ok (.if_icmp .lt 6, 3) := by decide +kernel
theorem dX5_hints_45 : decode cX5_hints 45 = .ok (.bipush (-103), 2) := by decide +kernel
theorem dX5_hints_47 : decode cX5_hints 47 = .ok (.ireturn, 1) := by decide +kernel
theorem dX5_hints_48 : decode cX5_hints 48 = .ok (.aload_n 0, 1) := by decide +kernel
theorem dX5_hints_49 : decode cX5_hints 49 = .ok (.dup, 1) := by decide +kernel
theorem dX5_hints_50 : decode cX5_hints 50 = .ok (.getfield 177, 3) := by decide +kernel
theorem dX5_hints_53 : decode cX5_hints 53 = .ok (.iconst 1, 1) := by decide +kernel
theorem dX5_hints_54 : decode cX5_hints 54 = .ok (.iadd, 1) := by decide +kernel
theorem dX5_hints_55 : decode cX5_hints 55 = .ok (.putfield 177, 3) := by decide +kernel
theorem dX5_hints_58 : decode cX5_hints 58 = .ok (.aload_n 0, 1) := by decide +kernel
theorem dX5_hints_59 : decode cX5_hints 59 = .ok (.iload_n 1, 1) := by decide +kernel
theorem dX5_hints_60 : decode cX5_hints 60 = .ok (.invokevirtual 180, 3) := by decide +kernel
theorem dX5_hints_63 : decode cX5_hints 63 = .ok (.istore_n 3, 1) := by decide +kernel
theorem dX5_hints_64 : decode cX5_hints 64 = .ok (.iload_n 3, 1) := by decide +kernel
theorem dX5_hints_65 : decode cX5_hints 65 = .ok (.iconst (-1), 1) := by decide +kernel
theorem dX5_hints_66 : decode cX5_hints 66 = .ok (.if_icmp .ne 5, 3) := by decide +kernel
theorem dX5_hints_69 : decode cX5_hints 69 = .ok (.iconst (-1), 1) := by decide +kernel
theorem dX5_hints_70 : decode cX5_hints 70 = .ok (.ireturn, 1) := by decide +kernel
theorem dX5_hints_71 : decode cX5_hints 71 = .ok (.iload_n 2, 1) := by decide +kernel
theorem dX5_hints_72 : decode cX5_hints 72 = .ok (.ifCond .ne 10, 3) := by decide +kernel
theorem dX5_hints_75 : decode cX5_hints 75 = .ok (.iload_n 3, 1) := by decide +kernel
theorem dX5_hints_76 : decode cX5_hints 76 = .ok (.invokestatic 183, 3) := by decide +kernel
theorem dX5_hints_79 : decode cX5_hints 79 = .ok (.goto 8, 3) := by decide +kernel
theorem dX5_hints_82 : decode cX5_hints 82 = .ok (.iload_n 3, 1) := by decide +kernel
theorem dX5_hints_83 : decode cX5_hints 83 = .ok (.iload_n 2, 1) := by decide +kernel
theorem dX5_hints_84 : decode cX5_hints 84 = .ok (.invokestatic 188, 3) := by decide +kernel
theorem dX5_hints_87 : decode cX5_hints 87 = .ok (.ireturn, 1) := by decide +kernel
theorem dX5_one_0 : decode cX5_one 0 = .ok (.aload_n 0, 1) := by decide +kernel
theorem dX5_one_1 : decode cX5_one 1 = .ok (.getfield 19, 3) := by decide +kernel
theorem dX5_one_4 : decode cX5_one 4 = .ok (.invokevirtual 156, 3) := by decide +kernel
theorem dX5_one_7 : decode cX5_one 7 = .ok (.ifCond .eq 12, 3) := by decide +kernel
theorem dX5_one_10 : decode cX5_one 10 = .ok (.aload_n 0, 1) := by decide +kernel
theorem dX5_one_11 : decode cX5_one 11 = .ok (.getfield 191, 3) := by decide +kernel
theorem dX5_one_14 : decode cX5_one 14 = .ok (.bipush 6, 2) := by decide +kernel
theorem dX5_one_16 : decode cX5_one 16 = .ok (.if_icmp .lt 6, 3) := by decide +kernel
theorem dX5_one_19 : decode cX5_one 19 = .ok (.bipush (-103), 2) := by decide +kernel
theorem dX5_one_21 : decode cX5_one 21 = .ok (.ireturn, 1) := by decide +kernel
theorem dX5_one_22 : decode cX5_one 22 = .ok (.aload_n 0, 1) := by decide +kernel
theorem dX5_one_23 : decode cX5_one 23 = .ok (.dup, 1) := by decide +kernel
theorem dX5_one_24 : decode cX5_one 24 = .ok (.getfield 191, 3) := by decide +kernel
theorem dX5_one_27 : decode cX5_one 27 = .ok (.iconst 1, 1) := by decide +kernel
theorem dX5_one_28 : decode cX5_one 28 = .ok (.iadd, 1) := by decide +kernel
theorem dX5_one_29 : decode cX5_one 29 = .ok (.putfield 191, 3) := by decide +kernel
theorem dX5_one_32 : decode cX5_one 32 = .ok (.aload_n 0, 1) := by decide +kernel
theorem dX5_one_33 : decode cX5_one 33 = .ok (.invokevirtual 122, 3) := by decide +kernel
theorem dX5_one_36 : decode cX5_one 36 = .ok (.getfield 160, 3) := by decide +kernel
theorem dX5_one_39 : decode cX5_one 39 = .ok (.iconst 1, 1) := by decide +kernel
theorem dX5_one_40 : decode cX5_one 40 = .ok (.if_icmp .ne 6, 3) := by decide +kernel
theorem dX5_one_43 : decode cX5_one 43 = .ok (.bipush (-2), 2) := by decide +kernel
theorem dX5_one_45 : decode cX5_one 45 = .ok (.ireturn, 1) := by decide +kernel
theorem dX5_one_46 : decode cX5_one 46 = .ok (.iconst 0, 1) := by decide +kernel
theorem dX5_one_47 : decode cX5_one 47 = .ok (.istore_n 1, 1) := by decide +kernel
theorem dX5_one_48 : decode cX5_one 48 = .ok (.iload_n 1, 1) := by decide +kernel
theorem dX5_one_49 : decode cX5_one 49 = .ok (.aload_n 0, 1) := by decide +kernel
theorem dX5_one_50 : decode cX5_one 50 = .ok (.getfield 19, 3) := by decide +kernel
theorem dX5_one_53 : decode cX5_one 53 = .ok (.invokevirtual 194, 3) := by decide +kernel
theorem dX5_one_56 : decode cX5_one 56 = .ok (.if_icmp .ge 27, 3) := by decide +kernel
theorem dX5_one_59 : decode cX5_one 59 = .ok (.aload_n 0, 1) := by decide +kernel
theorem dX5_one_60 : decode cX5_one 60 = .ok (.iload_n 1, 1) := by decide +kernel
theorem dX5_one_61 : decode cX5_one 61 = .ok (.invokevirtual 197, 3) := by decide +kernel
theorem dX5_one_64 : decode cX5_one 64 = .ok (.istore_n 2, 1) := by decide +kernel
theorem dX5_one_65 : decode cX5_one 65 = .ok (.iload_n 2, 1) := by decide +kernel
theorem dX5_one_66 : decode cX5_one 66 = .ok (.iconst (-1), 1) := by decide +kernel
theorem dX5_one_67 : decode cX5_one 67 = .ok (.if_icmp .eq 10, 3) := by decide +kernel
theorem dX5_one_70 : decode cX5_one 70 = .ok (.bipush 100, 2) := by decide +kernel
theorem dX5_one_72 : decode cX5_one 72 = .ok (.iload_n 1, 1) := by decide +kernel
theorem dX5_one_73 : decode cX5_one 73 = .ok (.imul, 1) := by decide +kernel
theorem dX5_one_74 : decode cX5_one 74 = .ok (.iload_n 2, 1) := by decide +kernel
theorem dX5_one_75 : decode cX5_one 75 = .ok (.iadd, 1) := by decide +kernel
theorem dX5_one_76 : decode cX5_one 76 = .ok (.ireturn, 1) := by decide +kernel
theorem dX5_one_77 : decode cX5_one 77 = .ok (.iinc 1 1, 3) := by decide +kernel
theorem dX5_one_80 : decode cX5_one 80 = .ok (.goto (-32), 3) := by decide +kernel
theorem dX5_one_83 : decode cX5_one 83 = .ok (.iconst (-1), 1) := by decide +kernel
theorem dX5_one_84 : decode cX5_one 84 = .ok (.ireturn, 1) := by decide +kernel
theorem dX5_see_0 : decode cX5_see 0 = .ok (.aload_n 0, 1) := by decide +kernel
theorem dX5_see_1 : decode cX5_see 1 = .ok (.getfield 19, 3) := by decide +kernel
theorem dX5_see_4 : decode cX5_see 4 = .ok (.iload_n 1, 1) := by decide +kernel
theorem dX5_see_5 : decode cX5_see 5 = .ok (.invokevirtual 80, 3) := by decide +kernel
theorem dX5_see_8 : decode cX5_see 8 = .ok (.ifCond .ne 6, 3) := by decide +kernel
theorem dX5_see_11 : decode cX5_see 11 = .ok (.bipush (-101), 2) := by decide +kernel
theorem dX5_see_13 : decode cX5_see 13 = .ok (.ireturn, 1) := by decide +kernel
theorem dX5_see_14 : decode cX5_see 14 = .ok (.aload_n 0, 1) := by decide +kernel
theorem dX5_see_15 : decode cX5_see 15 = .ok (.getfield 19, 3) := by decide +kernel
theorem dX5_see_18 : decode cX5_see 18 = .ok (.iload_n 1, 1) := by decide +kernel
theorem dX5_see_19 : decode cX5_see 19 = .ok (.iload_n 2, 1) := by decide +kernel
theorem dX5_see_20 : decode cX5_see 20 = .ok (.invokevirtual 132, 3) := by decide +kernel
theorem dX5_see_23 : decode cX5_see 23 = .ok (.ifCond .ne 6, 3) := by decide +kernel
theorem dX5_see_26 : decode cX5_see 26 = .ok (.bipush (-102), 2) := by decide +kernel
theorem dX5_see_28 : decode cX5_see 28 = .ok (.ireturn, 1) := by decide +kernel
theorem dX5_see_29 : decode cX5_see 29 = .ok (.aload_n 0, 1) := by decide +kernel
theorem dX5_see_30 : decode cX5_see 30 = .ok (.getfield 19, 3) := by decide +kernel
theorem dX5_see_33 : decode cX5_see 33 = .ok (.getfield 200, 3) := by decide +kernel
theorem dX5_see_36 : decode cX5_see 36 = .ok (.bipush 6, 2) := by decide +kernel
theorem dX5_see_38 : decode cX5_see 38 = .ok (.if_icmp .lt 6, 3) := by decide +kernel
theorem dX5_see_41 : decode cX5_see 41 = .ok (.bipush (-104), 2) := by decide +kernel
theorem dX5_see_43 : decode cX5_see 43 = .ok (.ireturn, 1) := by decide +kernel
theorem dX5_see_44 : decode cX5_see 44 = .ok (.aload_n 0, 1) := by decide +kernel
theorem dX5_see_45 : decode cX5_see 45 = .ok (.getfield 19, 3) := by decide +kernel
theorem dX5_see_48 : decode cX5_see 48 = .ok (.iload_n 1, 1) := by decide +kernel
theorem dX5_see_49 : decode cX5_see 49 = .ok (.iload_n 2, 1) := by decide +kernel
theorem dX5_see_50 : decode cX5_see 50 = .ok (.iload_n 3, 1) := by decide +kernel
theorem dX5_see_51 : decode cX5_see 51 = .ok (.invokevirtual 203, 3) := by decide +kernel
theorem dX5_see_54 : decode cX5_see 54 = .ok (.aload_n 0, 1) := by decide +kernel
theorem dX5_see_55 : decode cX5_see 55 = .ok (.getfield 19, 3) := by decide +kernel
theorem dX5_see_58 : decode cX5_see 58 = .ok (.getfield 200, 3) := by decide +kernel
theorem dX5_see_61 : decode cX5_see 61 = .ok (.ireturn, 1) := by decide +kernel
theorem dX5_forget_0 : decode cX5_forget 0 = .ok (.aload_n 0, 1) := by decide +kernel
theorem dX5_forget_1 : decode cX5_forget 1 = .ok (.getfield 19, 3) := by decide +kernel
theorem dX5_forget_4 : decode cX5_forget 4 = .ok (.getfield 200, 3) := by decide +kernel
theorem dX5_forget_7 : decode cX5_forget 7 = .ok (.istore_n 1, 1) := by decide +kernel
theorem dX5_forget_8 : decode cX5_forget 8 = .ok (.aload_n 0, 1) := by decide +kernel
theorem dX5_forget_9 : decode cX5_forget 9 = .ok (.getfield 19, 3) := by decide +kernel
theorem dX5_forget_12 : decode cX5_forget 12 = .ok (.iconst 0, 1) := by decide +kernel
theorem dX5_forget_13 : decode cX5_forget 13 = .ok (.putfield 200, 3) := by decide +kernel
theorem dX5_forget_16 : decode cX5_forget 16 = .ok (.iload_n 1, 1) := by decide +kernel
theorem dX5_forget_17 : decode cX5_forget 17 = .ok (.ireturn, 1) := by decide +kernel
theorem dX5_games_0 : decode cX5_games 0 = .ok (.iload_n 1, 1) := by decide +kernel
theorem dX5_games_1 : decode cX5_games 1 = .ok (.iconst 1, 1) := by decide +kernel
theorem dX5_games_2 : decode cX5_games 2 = .ok (.if_icmp .lt 22, 3) := by decide +kernel
theorem dX5_games_5 : decode cX5_games 5 = .ok (.iload_n 1, 1) := by decide +kernel
theorem dX5_games_6 : decode cX5_games 6 = .ok (.bipush 10, 2) := by decide +kernel
theorem dX5_games_8 : decode cX5_games 8 = .ok (.if_icmp .gt 16, 3) := by decide +kernel
theorem dX5_games_11 : decode cX5_games 11 = .ok (.iload_n 2, 1) := by decide +kernel
theorem dX5_games_12 : decode cX5_games 12 = .ok (.ifCond .lt 12, 3) := by decide +kernel
theorem dX5_games_15 : decode cX5_games 15 = .ok (.iload_n 3, 1) := by decide +kernel
theorem dX5_games_16 : decode cX5_games 16 = .ok (.ifCond .lt 8, 3) := by decide +kernel
theorem dX5_games_19 : decode cX5_games 19 = .ok (.iload_n 3, 1) := by decide +kernel
theorem dX5_games_20 : decode cX5_games 20 = .ok (.iconst 2, 1) := by decide +kernel
theorem dX5_games_21 : decode cX5_games 21 = .ok (.if_icmp .le 6, 3) := by decide +kernel
theorem dX5_games_24 : decode cX5_games 24 = .ok (.bipush (-102), 2) := by decide +kernel
theorem dX5_games_26 : decode cX5_games 26 = .ok (.ireturn, 1) := by decide +kernel
theorem dX5_games_27 : decode cX5_games 27 = .ok (.aload_n 0, 1) := by decide +kernel
theorem dX5_games_28 : decode cX5_games 28 = .ok (.getfield 19, 3) := by decide +kernel
theorem dX5_games_31 : decode cX5_games 31 = .ok (.invokevirtual 156, 3) := by decide +kernel
theorem dX5_games_34 : decode cX5_games 34 = .ok (.ifCond .ne 6, 3) := by decide +kernel
theorem dX5_games_37 : decode cX5_games 37 = .ok (.bipush (-103), 2) := by decide +kernel
theorem dX5_games_39 : decode cX5_games 39 = .ok (.ireturn, 1) := by decide +kernel
theorem dX5_games_40 : decode cX5_games 40 = .ok (.aload_n 0, 1) := by decide +kernel
theorem dX5_games_41 : decode cX5_games 41 = .ok (.invokevirtual 122, 3) := by decide +kernel
theorem dX5_games_44 : decode cX5_games 44 = .ok (.getfield 160, 3) := by decide +kernel
theorem dX5_games_47 : decode cX5_games 47 = .ok (.istore 4, 2) := by decide +kernel
theorem dX5_games_49 : decode cX5_games 49 = .ok (.iload 4, 2) := by decide +kernel
theorem dX5_games_51 : decode cX5_games 51 = .ok (.iconst 1, 1) := by decide +kernel
theorem dX5_games_52 : decode cX5_games 52 = .ok (.if_icmp .lt 11, 3) := by decide +kernel
theorem dX5_games_55 : decode cX5_games 55 = .ok (.iload 4, 2) := by decide +kernel
theorem dX5_games_57 : decode cX5_games 57 = .ok (.sipush 200, 3) := by decide +kernel
theorem dX5_games_60 : decode cX5_games 60 = .ok (.if_icmp .le 6, 3) := by decide +kernel
theorem dX5_games_63 : decode cX5_games 63 = .ok (.bipush (-103), 2) := by decide +kernel
theorem dX5_games_65 : decode cX5_games 65 = .ok (.ireturn, 1) := by decide +kernel
theorem dX5_games_66 : decode cX5_games 66 = .ok (.iload_n 2, 1) := by decide +kernel
theorem dX5_games_67 : decode cX5_games 67 = .ok (.i2l, 1) := by decide +kernel
theorem dX5_games_68 : decode cX5_games 68 = .ok (.lstore 5, 2) := by decide +kernel
theorem dX5_games_70 : decode cX5_games 70 = .ok (.iconst 0, 1) := by decide +kernel
theorem dX5_games_71 : decode cX5_games 71 = .ok (.istore 7, 2) := by decide +kernel
theorem dX5_games_73 : decode cX5_games 73 = .ok (.iconst 0, 1) := by decide +kernel
theorem dX5_games_74 : decode cX5_games 74 = .ok (.istore 8, 2) := by decide +kernel
theorem dX5_games_76 : decode cX5_games 76 = .ok (.iconst 0, 1) := by decide +kernel
theorem dX5_games_77 : decode cX5_games 77 = .ok (.istore 9, 2) := by decide +kernel
theorem dX5_games_79 : decode cX5_games 79 = .ok (.iload 9, 2) := by decide +kernel
theorem dX5_games_81 : decode cX5_games 81 = .ok (.iload_n 1, 1) := by decide +kernel
theorem dX5_games_82 : decode cX5_games 82 = .ok (.if_icmp .ge 56, 3) := by decide +kernel
theorem dX5_games_85 : decode cX5_games 85 = .ok (.lload 5, 2) := by decide +kernel
theorem dX5_games_87 : decode cX5_games 87 = .ok (.invokestatic 207, 3) := by decide +kernel
theorem dX5_games_90 : decode cX5_games 90 = .ok (.lstore 5, 2) := by decide +kernel
theorem dX5_games_92 : decode cX5_games 92 = .ok (.aload_n 0, 1) := by decide +kernel
theorem dX5_games_93 : decode cX5_games 93 = .ok (.aload_n 0, 1) := by decide +kernel
theorem dX5_games_94 : decode cX5_games 94 = .ok (.getfield 41, 3) := by decide +kernel
theorem dX5_games_97 : decode cX5_games 97 = .ok (.lload 5, 2) := by decide +kernel
theorem dX5_games_99 : decode cX5_games 99 = .ok (.ldc2_w 211, 3) := by decide +kernel
theorem dX5_games_102 : decode cX5_games 102 = .ok (.ldiv, 1) := by decide +kernel
theorem dX5_games_103 : decode cX5_games 103 = .ok (.iload 4, 2) := by decide +kernel
theorem dX5_games_105 : decode cX5_games 105 = .ok (.i2l, 1) := by decide +kernel
theorem dX5_games_106 : decode cX5_games 106 = .ok (.lrem, 1) := by decide +kernel
theorem dX5_games_107 : decode cX5_games 107 = .ok (.l2i, 1) := by decide +kernel
theorem dX5_games_108 : decode cX5_games 108 = .ok (.invokevirtual 161, 3) := by decide +kernel
theorem dX5_games_111 : decode cX5_games 111 = .ok (.invokevirtual 213, 3) := by decide +kernel
theorem dX5_games_114 : decode cX5_games 114 = .ok (.istore 10, 2) := by decide +kernel
theorem dX5_games_116 : decode cX5_games 116 = .ok (.iload 7, 2) := by decide +kernel
theorem dX5_games_118 : decode cX5_games 118 = .ok (.iload 10, 2) := by decide +kernel
theorem dX5_games_120 : decode cX5_games 120 = .ok (.iadd, 1) := by decide +kernel
theorem dX5_games_121 : decode cX5_games 121 = .ok (.istore 7, 2) := by decide +kernel
theorem dX5_games_123 : decode cX5_games 123 = .ok (.iload 10, 2) := by decide +kernel
theorem dX5_games_125 : decode cX5_games 125 = .ok (.iconst 2, 1) := by decide +kernel
theorem dX5_games_126 : decode cX5_games 126 = .ok (.if_icmp .gt 6, 3) := by decide +kernel
theorem dX5_games_129 : decode cX5_games 129 = .ok (.iinc 8 1, 3) := by decide +kernel
theorem dX5_games_132 : decode cX5_games 132 = .ok (.iinc 9 1, 3) := by decide +kernel
theorem dX5_games_135 : decode cX5_games 135 = .ok (.goto (-56), 3) := by decide +kernel
theorem dX5_games_138 : decode cX5_games 138 = .ok (.iload_n 3, 1) := by decide +kernel
theorem dX5_games_139 : decode cX5_games 139 = .ok (.ifCond .ne 6, 3) := by decide +kernel
theorem dX5_games_142 : decode cX5_games 142 = .ok (.iload 7, 2) := by decide +kernel
theorem dX5_games_144 : decode cX5_games 144 = .ok (.ireturn, 1) := by decide +kernel
theorem dX5_games_145 : decode cX5_games 145 = .ok (.iload_n 3, 1) := by decide +kernel
theorem dX5_games_146 : decode cX5_games 146 = .ok (.iconst 1, 1) := by decide +kernel
theorem dX5_games_147 : decode cX5_games 147 = .ok (.if_icmp .ne 8, 3) := by decide +kernel
theorem dX5_games_150 : decode cX5_games 150 = .ok (.iload 8, 2) := by decide +kernel
theorem dX5_games_152 : decode cX5_games 152 = .ok (.goto 6, 3) := by decide +kernel
theorem dX5_games_155 : decode cX5_games 155 = .ok (.lload 5, 2) := by decide +kernel
theorem dX5_games_157 : decode cX5_games 157 = .ok (.l2i, 1) := by decide +kernel
theorem dX5_games_158 : decode cX5_games 158 = .ok (.ireturn, 1) := by decide +kernel
theorem dX5_image_0 : decode cX5_image 0 = .ok (.aload_n 0, 1) := by decide +kernel
theorem dX5_image_1 : decode cX5_image 1 = .ok (.getfield 19, 3) := by decide +kernel
theorem dX5_image_4 : decode cX5_image 4 = .ok (.invokevirtual 156, 3) := by decide +kernel
theorem dX5_image_7 : decode cX5_image 7 = .ok (.ifCond .ne 6, 3) := by decide +kernel
theorem dX5_image_10 : decode cX5_image 10 = .ok (.bipush (-103), 2) := by decide +kernel
theorem dX5_image_12 : decode cX5_image 12 = .ok (.ireturn, 1) := by decide +kernel
theorem dX5_image_13 : decode cX5_image 13 = .ok (.aload_n 0, 1) := by decide +kernel
theorem dX5_image_14 : decode cX5_image 14 = .ok (.getfield 23, 3) := by decide +kernel
theorem dX5_image_17 : decode cX5_image 17 = .ok (.aload_n 0, 1) := by decide +kernel
theorem dX5_image_18 : decode cX5_image 18 = .ok (.getfield 19, 3) := by decide +kernel
theorem dX5_image_21 : decode cX5_image 21 = .ok (.invokevirtual 62, 3) := by decide +kernel
theorem dX5_image_24 : decode cX5_image 24 = .ok (.aload_n 0, 1) := by decide +kernel
theorem dX5_image_25 : decode cX5_image 25 = .ok (.iconst 1, 1) := by decide +kernel
theorem dX5_image_26 : decode cX5_image 26 = .ok (.putfield 69, 3) := by decide +kernel
theorem dX5_image_29 : decode cX5_image 29 = .ok (.aload_n 0, 1) := by decide +kernel
theorem dX5_image_30 : decode cX5_image 30 = .ok (.getfield 23, 3) := by decide +kernel
theorem dX5_image_33 : decode cX5_image 33 = .ok (.invokevirtual 143, 3) := by decide +kernel
theorem dX5_image_36 : decode cX5_image 36 = .ok (.ireturn, 1) := by decide +kernel
theorem dX5_restore_0 : decode cX5_restore 0 = .ok (.aload_n 0, 1) := by decide +kernel
theorem dX5_restore_1 : decode cX5_restore 1 = .ok (.getfield 69, 3) := by decide +kernel
theorem dX5_restore_4 : decode cX5_restore 4 = .ok (.ifCond .ne 6, 3) := by decide +kernel
theorem dX5_restore_7 : decode cX5_restore 7 = .ok (.bipush (-103), 2) := by decide +kernel
theorem dX5_restore_9 : decode cX5_restore 9 = .ok (.ireturn, 1) := by decide +kernel
theorem dX5_restore_10 : decode cX5_restore 10 = .ok (.aload_n 0, 1) := by decide +kernel
theorem dX5_restore_11 : decode cX5_restore 11 = .ok (.getfield 19, 3) := by decide +kernel
theorem dX5_restore_14 : decode cX5_restore 14 = .ok (.aload_n 0, 1) := by decide +kernel
theorem dX5_restore_15 : decode cX5_restore 15 = .ok (.getfield 23, 3) := by decide +kernel
theorem dX5_restore_18 : decode cX5_restore 18 = .ok (.invokevirtual 62, 3) := by decide +kernel
theorem dX5_restore_21 : decode cX5_restore 21 = .ok (.aload_n 0, 1) := by decide +kernel
theorem dX5_restore_22 : decode cX5_restore 22 = .ok (.iconst 1, 1) := by decide +kernel
theorem dX5_restore_23 : decode cX5_restore 23 = .ok (.putfield 73, 3) := by decide +kernel
theorem dX5_restore_26 : decode cX5_restore 26 = .ok (.aload_n 0, 1) := by decide +kernel
theorem dX5_restore_27 : decode cX5_restore 27 = .ok (.getfield 19, 3) := by decide +kernel
theorem dX5_restore_30 : decode cX5_restore 30 = .ok (.invokevirtual 143, 3) := by decide +kernel
theorem dX5_restore_33 : decode cX5_restore 33 = .ok (.ireturn, 1) := by decide +kernel
theorem dX5_count_0 : decode cX5_count 0 = .ok (.iload_n 1, 1) := by decide +kernel
theorem dX5_count_1 : decode cX5_count 1 = .ok (.tableswitch 141 0 10 #[59, 67, 75, 83, 94, 105, 110, 118, 126, 131, 136], 59) := by decide +kernel
theorem dX5_count_60 : decode cX5_count 60 = .ok (.aload_n 0, 1) := by decide +kernel
theorem dX5_count_61 : decode cX5_count 61 = .ok (.getfield 19, 3) := by decide +kernel
theorem dX5_count_64 : decode cX5_count 64 = .ok (.getfield 216, 3) := by decide +kernel
theorem dX5_count_67 : decode cX5_count 67 = .ok (.ireturn, 1) := by decide +kernel
theorem dX5_count_68 : decode cX5_count 68 = .ok (.aload_n 0, 1) := by decide +kernel
theorem dX5_count_69 : decode cX5_count 69 = .ok (.getfield 19, 3) := by decide +kernel
theorem dX5_count_72 : decode cX5_count 72 = .ok (.getfield 219, 3) := by decide +kernel
theorem dX5_count_75 : decode cX5_count 75 = .ok (.ireturn, 1) := by decide +kernel
theorem dX5_count_76 : decode cX5_count 76 = .ok (.aload_n 0, 1) := by decide +kernel
theorem dX5_count_77 : decode cX5_count 77 = .ok (.getfield 19, 3) := by decide +kernel
theorem dX5_count_80 : decode cX5_count 80 = .ok (.invokevirtual 194, 3) := by decide +kernel
theorem dX5_count_83 : decode cX5_count 83 = .ok (.ireturn, 1) := by decide +kernel
theorem dX5_count_84 : decode cX5_count 84 = .ok (.aload_n 0, 1) := by decide +kernel
theorem dX5_count_85 : decode cX5_count 85 = .ok (.getfield 19, 3) := by decide +kernel
theorem dX5_count_88 : decode cX5_count 88 = .ok (.getfield 222, 3) := by decide +kernel
theorem dX5_count_91 : decode cX5_count 91 = .ok (.invokestatic 183, 3) := by decide +kernel
theorem dX5_count_94 : decode cX5_count 94 = .ok (.ireturn, 1) := by decide +kernel
theorem dX5_count_95 : decode cX5_count 95 = .ok (.aload_n 0, 1) := by decide +kernel
theorem dX5_count_96 : decode cX5_count 96 = .ok (.getfield 19, 3) := by decide +kernel
theorem dX5_count_99 : decode cX5_count 99 = .ok (.getfield 225, 3) := by decide +kernel
theorem dX5_count_102 : decode cX5_count 102 = .ok (.invokestatic 183, 3) := by decide +kernel
theorem dX5_count_105 : decode cX5_count 105 = .ok (.ireturn, 1) := by decide +kernel
theorem dX5_count_106 : decode cX5_count 106 = .ok (.aload_n 0, 1) := by decide +kernel
theorem dX5_count_107 : decode cX5_count 107 = .ok (.invokevirtual 228, 3) := by decide +kernel
theorem dX5_count_110 : decode cX5_count 110 = .ok (.ireturn, 1) := by decide +kernel
theorem dX5_count_111 : decode cX5_count 111 = .ok (.aload_n 0, 1) := by decide +kernel
theorem dX5_count_112 : decode cX5_count 112 = .ok (.getfield 19, 3) := by decide +kernel
theorem dX5_count_115 : decode cX5_count 115 = .ok (.getfield 200, 3) := by decide +kernel
theorem dX5_count_118 : decode cX5_count 118 = .ok (.ireturn, 1) := by decide +kernel
theorem dX5_count_119 : decode cX5_count 119 = .ok (.aload_n 0, 1) := by decide +kernel
theorem dX5_count_120 : decode cX5_count 120 = .ok (.getfield 12, 3) := by decide +kernel
theorem dX5_count_123 : decode cX5_count 123 = .ok (.getfield 48, 3) := by decide +kernel
theorem dX5_count_126 : decode cX5_count 126 = .ok (.ireturn, 1) := by decide +kernel
theorem dX5_count_127 : decode cX5_count 127 = .ok (.aload_n 0, 1) := by decide +kernel
theorem dX5_count_128 : decode cX5_count 128 = .ok (.getfield 66, 3) := by decide +kernel
theorem dX5_count_131 : decode cX5_count 131 = .ok (.ireturn, 1) := by decide +kernel
theorem dX5_count_132 : decode cX5_count 132 = .ok (.aload_n 0, 1) := by decide +kernel
theorem dX5_count_133 : decode cX5_count 133 = .ok (.getfield 177, 3) := by decide +kernel
theorem dX5_count_136 : decode cX5_count 136 = .ok (.ireturn, 1) := by decide +kernel
theorem dX5_count_137 : decode cX5_count 137 = .ok (.aload_n 0, 1) := by decide +kernel
theorem dX5_count_138 : decode cX5_count 138 = .ok (.getfield 191, 3) := by decide +kernel
theorem dX5_count_141 : decode cX5_count 141 = .ok (.ireturn, 1) := by decide +kernel
theorem dX5_count_142 : decode cX5_count 142 = .ok (.bipush (-102), 2) := by decide +kernel
theorem dX5_count_144 : decode cX5_count 144 = .ok (.ireturn, 1) := by decide +kernel
theorem dX5_digest_0 : decode cX5_digest 0 = .ok (.ldc2_w 231, 3) := by decide +kernel
theorem dX5_digest_3 : decode cX5_digest 3 = .ok (.lstore_n 1, 1) := by decide +kernel
theorem dX5_digest_4 : decode cX5_digest 4 = .ok (.iconst 0, 1) := by decide +kernel
theorem dX5_digest_5 : decode cX5_digest 5 = .ok (.istore_n 3, 1) := by decide +kernel
theorem dX5_digest_6 : decode cX5_digest 6 = .ok (.iload_n 3, 1) := by decide +kernel
theorem dX5_digest_7 : decode cX5_digest 7 = .ok (.aload_n 0, 1) := by decide +kernel
theorem dX5_digest_8 : decode cX5_digest 8 = .ok (.getfield 19, 3) := by decide +kernel
theorem dX5_digest_11 : decode cX5_digest 11 = .ok (.invokevirtual 194, 3) := by decide +kernel
theorem dX5_digest_14 : decode cX5_digest 14 = .ok (.if_icmp .ge 46, 3) := by decide +kernel
theorem dX5_digest_17 : decode cX5_digest 17 = .ok (.iconst 0, 1) := by decide +kernel
theorem dX5_digest_18 : decode cX5_digest 18 = .ok (.istore 4, 2) := by decide +kernel
theorem dX5_digest_20 : decode cX5_digest 20 = .ok (.iload 4, 2) := by decide +kernel
theorem dX5_digest_22 : decode cX5_digest 22 = .ok (.bipush 6, 2) := by decide +kernel
theorem dX5_digest_24 : decode cX5_digest 24 = .ok (.if_icmp .gt 30, 3) := by decide +kernel
theorem dX5_digest_27 : decode cX5_digest 27 = .ok (.iload 4, 2) := by decide +kernel
theorem dX5_digest_29 : decode cX5_digest 29 = .ok (.iconst 4, 1) := by decide +kernel
theorem dX5_digest_30 : decode cX5_digest 30 = .ok (.if_icmp .eq 18, 3) := by decide +kernel
theorem dX5_digest_33 : decode cX5_digest 33 = .ok (.ldc2_w 233, 3) := by decide +kernel
theorem dX5_digest_36 : decode cX5_digest 36 = .ok (.lload_n 1, 1) := by decide +kernel
theorem dX5_digest_37 : decode cX5_digest 37 = .ok (.lmul, 1) := by decide +kernel
theorem dX5_digest_38 : decode cX5_digest 38 = .ok (.aload_n 0, 1) := by decide +kernel
theorem dX5_digest_39 : decode cX5_digest 39 = .ok (.iload_n 3, 1) := by decide +kernel
theorem dX5_digest_40 : decode cX5_digest 40 = .ok (.iload 4, 2) := by decide +kernel
theorem dX5_digest_42 : decode cX5_digest 42 = .ok (.invokevirtual 235, 3) := by decide +kernel
theorem dX5_digest_45 : decode cX5_digest 45 = .ok (.i2l, 1) := by decide +kernel
theorem dX5_digest_46 : decode cX5_digest 46 = .ok (.ladd, 1) := by decide +kernel
theorem dX5_digest_47 : decode cX5_digest 47 = .ok (.lstore_n 1, 1) := by decide +kernel
theorem dX5_digest_48 : decode cX5_digest 48 = .ok (.iinc 4 1, 3) := by decide +kernel
theorem dX5_digest_51 : decode cX5_digest 51 = .ok (.goto (-31), 3) := by decide +kernel
theorem dX5_digest_54 : decode cX5_digest 54 = .ok (.iinc 3 1, 3) := by decide +kernel
theorem dX5_digest_57 : decode cX5_digest 57 = .ok (.goto (-51), 3) := by decide +kernel
theorem dX5_digest_60 : decode cX5_digest 60 = .ok (.iconst 0, 1) := by decide +kernel
theorem dX5_digest_61 : decode cX5_digest 61 = .ok (.istore_n 3, 1) := by decide +kernel
theorem dX5_digest_62 : decode cX5_digest 62 = .ok (.iload_n 3, 1) := by decide +kernel
theorem dX5_digest_63 : decode cX5_digest 63 = .ok (.aload_n 0, 1) := by decide +kernel
theorem dX5_digest_64 : decode cX5_digest 64 = .ok (.getfield 19, 3) := by decide +kernel
theorem dX5_digest_67 : decode cX5_digest 67 = .ok (.invokevirtual 76, 3) := by decide +kernel
theorem dX5_digest_70 : decode cX5_digest 70 = .ok (.if_icmp .ge 39, 3) := by decide +kernel
theorem dX5_digest_73 : decode cX5_digest 73 = .ok (.iconst 0, 1) := by decide +kernel
theorem dX5_digest_74 : decode cX5_digest 74 = .ok (.istore 4, 2) := by decide +kernel
theorem dX5_digest_76 : decode cX5_digest 76 = .ok (.iload 4, 2) := by decide +kernel
theorem dX5_digest_78 : decode cX5_digest 78 = .ok (.iconst 2, 1) := by decide +kernel
theorem dX5_digest_79 : decode cX5_digest 79 = .ok (.if_icmp .gt 24, 3) := by decide +kernel
theorem dX5_digest_82 : decode cX5_digest 82 = .ok (.ldc2_w 233, 3) := by decide +kernel
theorem dX5_digest_85 : decode cX5_digest 85 = .ok (.lload_n 1, 1) := by decide +kernel
theorem dX5_digest_86 : decode cX5_digest 86 = .ok (.lmul, 1) := by decide +kernel
theorem dX5_digest_87 : decode cX5_digest 87 = .ok (.aload_n 0, 1) := by decide +kernel
theorem dX5_digest_88 : decode cX5_digest 88 = .ok (.iload_n 3, 1) := by decide +kernel
theorem dX5_digest_89 : decode cX5_digest 89 = .ok (.iload 4, 2) := by decide +kernel
theorem dX5_digest_91 : decode cX5_digest 91 = .ok (.invokevirtual 238, 3) := by decide +kernel
theorem dX5_digest_94 : decode cX5_digest 94 = .ok (.i2l, 1) := by decide +kernel
theorem dX5_digest_95 : decode cX5_digest 95 = .ok (.ladd, 1) := by decide +kernel
theorem dX5_digest_96 : decode cX5_digest 96 = .ok (.lstore_n 1, 1) := by decide +kernel
theorem dX5_digest_97 : decode cX5_digest 97 = .ok (.iinc 4 1, 3) := by decide +kernel
theorem dX5_digest_100 : decode cX5_digest 100 = .ok (.goto (-24), 3) := by decide +kernel
theorem dX5_digest_103 : decode cX5_digest 103 = .ok (.iinc 3 1, 3) := by decide +kernel
theorem dX5_digest_106 : decode cX5_digest 106 = .ok (.goto (-44), 3) := by decide +kernel
theorem dX5_digest_109 : decode cX5_digest 109 = .ok (.aload_n 0, 1) := by decide +kernel
theorem dX5_digest_110 : decode cX5_digest 110 = .ok (.getfield 19, 3) := by decide +kernel
theorem dX5_digest_113 : decode cX5_digest 113 = .ok (.invokevirtual 156, 3) := by decide +kernel
theorem dX5_digest_116 : decode cX5_digest 116 = .ok (.ifCond .eq 40, 3) := by decide +kernel
theorem dX5_digest_119 : decode cX5_digest 119 = .ok (.ldc2_w 233, 3) := by decide +kernel
theorem dX5_digest_122 : decode cX5_digest 122 = .ok (.lload_n 1, 1) := by decide +kernel
theorem dX5_digest_123 : decode cX5_digest 123 = .ok (.lmul, 1) := by decide +kernel
theorem dX5_digest_124 : decode cX5_digest 124 = .ok (.aload_n 0, 1) := by decide +kernel
theorem dX5_digest_125 : decode cX5_digest 125 = .ok (.invokevirtual 241, 3) := by decide +kernel
theorem dX5_digest_128 : decode cX5_digest 128 = .ok (.i2l, 1) := by decide +kernel
theorem dX5_digest_129 : decode cX5_digest 129 = .ok (.ladd, 1) := by decide +kernel
theorem dX5_digest_130 : decode cX5_digest 130 = .ok (.lstore_n 1, 1) := by decide +kernel
theorem dX5_digest_131 : decode cX5_digest 131 = .ok (.ldc2_w 233, 3) := by decide +kernel
theorem dX5_digest_134 : decode cX5_digest 134 = .ok (.lload_n 1, 1) := by decide +kernel
theorem dX5_digest_135 : decode cX5_digest 135 = .ok (.lmul, 1) := by decide +kernel
theorem dX5_digest_136 : decode cX5_digest 136 = .ok (.aload_n 0, 1) := by decide +kernel
theorem dX5_digest_137 : decode cX5_digest 137 = .ok (.iconst 0, 1) := by decide +kernel
theorem dX5_digest_138 : decode cX5_digest 138 = .ok (.invokevirtual 244, 3) := by decide +kernel
theorem dX5_digest_141 : decode cX5_digest 141 = .ok (.i2l, 1) := by decide +kernel
theorem dX5_digest_142 : decode cX5_digest 142 = .ok (.ladd, 1) := by decide +kernel
theorem dX5_digest_143 : decode cX5_digest 143 = .ok (.lstore_n 1, 1) := by decide +kernel
theorem dX5_digest_144 : decode cX5_digest 144 = .ok (.ldc2_w 233, 3) := by decide +kernel
theorem dX5_digest_147 : decode cX5_digest 147 = .ok (.lload_n 1, 1) := by decide +kernel
theorem dX5_digest_148 : decode cX5_digest 148 = .ok (.lmul, 1) := by decide +kernel
theorem dX5_digest_149 : decode cX5_digest 149 = .ok (.aload_n 0, 1) := by decide +kernel
theorem dX5_digest_150 : decode cX5_digest 150 = .ok (.invokevirtual 247, 3) := by decide +kernel
theorem dX5_digest_153 : decode cX5_digest 153 = .ok (.i2l, 1) := by decide +kernel
theorem dX5_digest_154 : decode cX5_digest 154 = .ok (.ladd, 1) := by decide +kernel
theorem dX5_digest_155 : decode cX5_digest 155 = .ok (.lstore_n 1, 1) := by decide +kernel
theorem dX5_digest_156 : decode cX5_digest 156 = .ok (.iconst 0, 1) := by decide +kernel
theorem dX5_digest_157 : decode cX5_digest 157 = .ok (.istore_n 3, 1) := by decide +kernel
theorem dX5_digest_158 : decode cX5_digest 158 = .ok (.iload_n 3, 1) := by decide +kernel
theorem dX5_digest_159 : decode cX5_digest 159 = .ok (.aload_n 0, 1) := by decide +kernel
theorem dX5_digest_160 : decode cX5_digest 160 = .ok (.getfield 12, 3) := by decide +kernel
theorem dX5_digest_163 : decode cX5_digest 163 = .ok (.getfield 48, 3) := by decide +kernel
theorem dX5_digest_166 : decode cX5_digest 166 = .ok (.if_icmp .ge 25, 3) := by decide +kernel
theorem dX5_digest_169 : decode cX5_digest 169 = .ok (.ldc2_w 233, 3) := by decide +kernel
theorem dX5_digest_172 : decode cX5_digest 172 = .ok (.lload_n 1, 1) := by decide +kernel
theorem dX5_digest_173 : decode cX5_digest 173 = .ok (.lmul, 1) := by decide +kernel
theorem dX5_digest_174 : decode cX5_digest 174 = .ok (.aload_n 0, 1) := by decide +kernel
theorem dX5_digest_175 : decode cX5_digest 175 = .ok (.getfield 12, 3) := by decide +kernel
theorem dX5_digest_178 : decode cX5_digest 178 = .ok (.iload_n 3, 1) := by decide +kernel
theorem dX5_digest_179 : decode cX5_digest 179 = .ok (.invokevirtual 250, 3) := by decide +kernel
theorem dX5_digest_182 : decode cX5_digest 182 = .ok (.i2l, 1) := by decide +kernel
theorem dX5_digest_183 : decode cX5_digest 183 = .ok (.ladd, 1) := by decide +kernel
theorem dX5_digest_184 : decode cX5_digest 184 = .ok (.lstore_n 1, 1) := by decide +kernel
theorem dX5_digest_185 : decode cX5_digest 185 = .ok (.iinc 3 1, 3) := by decide +kernel
theorem dX5_digest_188 : decode cX5_digest 188 = .ok (.goto (-30), 3) := by decide +kernel
theorem dX5_digest_191 : decode cX5_digest 191 = .ok (.iconst 0, 1) := by decide +kernel
theorem dX5_digest_192 : decode cX5_digest 192 = .ok (.istore_n 3, 1) := by decide +kernel
theorem dX5_digest_193 : decode cX5_digest 193 = .ok (.iload_n 3, 1) := by decide +kernel
theorem dX5_digest_194 : decode cX5_digest 194 = .ok (.bipush 11, 2) := by decide +kernel
theorem dX5_digest_196 : decode cX5_digest 196 = .ok (.if_icmp .ge 22, 3) := by decide +kernel
theorem dX5_digest_199 : decode cX5_digest 199 = .ok (.ldc2_w 233, 3) := by decide +kernel
theorem dX5_digest_202 : decode cX5_digest 202 = .ok (.lload_n 1, 1) := by decide +kernel
theorem dX5_digest_203 : decode cX5_digest 203 = .ok (.lmul, 1) := by decide +kernel
theorem dX5_digest_204 : decode cX5_digest 204 = .ok (.aload_n 0, 1) := by decide +kernel
theorem dX5_digest_205 : decode cX5_digest 205 = .ok (.iload_n 3, 1) := by decide +kernel
theorem dX5_digest_206 : decode cX5_digest 206 = .ok (.invokevirtual 253, 3) := by decide +kernel
theorem dX5_digest_209 : decode cX5_digest 209 = .ok (.i2l, 1) := by decide +kernel
theorem dX5_digest_210 : decode cX5_digest 210 = .ok (.ladd, 1) := by decide +kernel
theorem dX5_digest_211 : decode cX5_digest 211 = .ok (.lstore_n 1, 1) := by decide +kernel
theorem dX5_digest_212 : decode cX5_digest 212 = .ok (.iinc 3 1, 3) := by decide +kernel
theorem dX5_digest_215 : decode cX5_digest 215 = .ok (.goto (-22), 3) := by decide +kernel
theorem dX5_digest_218 : decode cX5_digest 218 = .ok (.lload_n 1, 1) := by decide +kernel
theorem dX5_digest_219 : decode cX5_digest 219 = .ok (.lreturn, 1) := by decide +kernel
theorem dX5_settled_0 : decode cX5_settled 0 = .ok (.aload_n 0, 1) := by decide +kernel
theorem dX5_settled_1 : decode cX5_settled 1 = .ok (.getfield 73, 3) := by decide +kernel
theorem dX5_settled_4 : decode cX5_settled 4 = .ok (.ifCond .eq 40, 3) := by decide +kernel
theorem dX5_settled_7 : decode cX5_settled 7 = .ok (.aload_n 0, 1) := by decide +kernel
theorem dX5_settled_8 : decode cX5_settled 8 = .ok (.getfield 32, 3) := by decide +kernel
theorem dX5_settled_11 : decode cX5_settled 11 = .ok (.aload_n 0, 1) := by decide +kernel
theorem dX5_settled_12 : decode cX5_settled 12 = .ok (.getfield 19, 3) := by decide +kernel
theorem dX5_settled_15 : decode cX5_settled 15 = .ok (.invokevirtual 256, 3) := by decide +kernel
theorem dX5_settled_18 : decode cX5_settled 18 = .ok (.aload_n 0, 1) := by decide +kernel
theorem dX5_settled_19 : decode cX5_settled 19 = .ok (.getfield 41, 3) := by decide +kernel
theorem dX5_settled_22 : decode cX5_settled 22 = .ok (.invokevirtual 259, 3) := by decide +kernel
theorem dX5_settled_25 : decode cX5_settled 25 = .ok (.aload_n 0, 1) := by decide +kernel
theorem dX5_settled_26 : decode cX5_settled 26 = .ok (.getfield 32, 3) := by decide +kernel
theorem dX5_settled_29 : decode cX5_settled 29 = .ok (.sipush 1690, 3) := by decide +kernel
theorem dX5_settled_32 : decode cX5_settled 32 = .ok (.aload_n 0, 1) := by decide +kernel
theorem dX5_settled_33 : decode cX5_settled 33 = .ok (.getfield 41, 3) := by decide +kernel
theorem dX5_settled_36 : decode cX5_settled 36 = .ok (.invokevirtual 262, 3) := by decide +kernel
theorem dX5_settled_39 : decode cX5_settled 39 = .ok (.aload_n 0, 1) := by decide +kernel
theorem dX5_settled_40 : decode cX5_settled 40 = .ok (.iconst 0, 1) := by decide +kernel
theorem dX5_settled_41 : decode cX5_settled 41 = .ok (.putfield 73, 3) := by decide +kernel
theorem dX5_settled_44 : decode cX5_settled 44 = .ok (.aload_n 0, 1) := by decide +kernel
theorem dX5_settled_45 : decode cX5_settled 45 = .ok (.getfield 41, 3) := by decide +kernel
theorem dX5_settled_48 : decode cX5_settled 48 = .ok (.areturn, 1) := by decide +kernel
theorem dX5_isSpare_0 : decode cX5_isSpare 0 = .ok (.aload_n 0, 1) := by decide +kernel
theorem dX5_isSpare_1 : decode cX5_isSpare 1 = .ok (.invokevirtual 122, 3) := by decide +kernel
theorem dX5_isSpare_4 : decode cX5_isSpare 4 = .ok (.getfield 160, 3) := by decide +kernel
theorem dX5_isSpare_7 : decode cX5_isSpare 7 = .ok (.istore_n 2, 1) := by decide +kernel
theorem dX5_isSpare_8 : decode cX5_isSpare 8 = .ok (.aload_n 0, 1) := by decide +kernel
theorem dX5_isSpare_9 : decode cX5_isSpare 9 = .ok (.getfield 19, 3) := by decide +kernel
theorem dX5_isSpare_12 : decode cX5_isSpare 12 = .ok (.iload_n 1, 1) := by decide +kernel
theorem dX5_isSpare_13 : decode cX5_isSpare 13 = .ok (.invokevirtual 94, 3) := by decide +kernel
theorem dX5_isSpare_16 : decode cX5_isSpare 16 = .ok (.invokestatic 266, 3) := by decide +kernel
theorem dX5_isSpare_19 : decode cX5_isSpare 19 = .ok (.istore_n 3, 1) := by decide +kernel
theorem dX5_isSpare_20 : decode cX5_isSpare 20 = .ok (.aload_n 0, 1) := by decide +kernel
theorem dX5_isSpare_21 : decode cX5_isSpare 21 = .ok (.getfield 32, 3) := by decide +kernel
theorem dX5_isSpare_24 : decode cX5_isSpare 24 = .ok (.iload_n 1, 1) := by decide +kernel
theorem dX5_isSpare_25 : decode cX5_isSpare 25 = .ok (.iload_n 3, 1) := by decide +kernel
theorem dX5_isSpare_26 : decode cX5_isSpare 26 = .ok (.iload_n 2, 1) := by decide +kernel
theorem dX5_isSpare_27 : decode cX5_isSpare 27 = .ok (.iconst 1, 1) := by decide +kernel
theorem dX5_isSpare_28 : decode cX5_isSpare 28 = .ok (.iadd, 1) := by decide +kernel
theorem dX5_isSpare_29 : decode cX5_isSpare 29 = .ok (.invokevirtual 269, 3) := by decide +kernel
theorem dX5_isSpare_32 : decode cX5_isSpare 32 = .ok (.iload_n 2, 1) := by decide +kernel
theorem dX5_isSpare_33 : decode cX5_isSpare 33 = .ok (.if_icmp .ne 7, 3) := by decide +kernel
theorem dX5_isSpare_36 : decode cX5_isSpare 36 = .ok (.iconst 1, 1) := by decide +kernel
theorem dX5_isSpare_37 : decode cX5_isSpare 37 = .ok (.goto 4, 3) := by decide +kernel
theorem dX5_isSpare_40 : decode cX5_isSpare 40 = .ok (.iconst 0, 1) := by decide +kernel
theorem dX5_isSpare_41 : decode cX5_isSpare 41 = .ok (.ireturn, 1) := by decide +kernel
theorem dX5_sureCells_0 : decode cX5_sureCells 0 = .ok (.iconst 0, 1) := by decide +kernel
theorem dX5_sureCells_1 : decode cX5_sureCells 1 = .ok (.istore_n 1, 1) := by decide +kernel
theorem dX5_sureCells_2 : decode cX5_sureCells 2 = .ok (.iconst 0, 1) := by decide +kernel
theorem dX5_sureCells_3 : decode cX5_sureCells 3 = .ok (.istore_n 2, 1) := by decide +kernel
theorem dX5_sureCells_4 : decode cX5_sureCells 4 = .ok (.iload_n 2, 1) := by decide +kernel
theorem dX5_sureCells_5 : decode cX5_sureCells 5 = .ok (.aload_n 0, 1) := by decide +kernel
theorem dX5_sureCells_6 : decode cX5_sureCells 6 = .ok (.getfield 19, 3) := by decide +kernel
theorem dX5_sureCells_9 : decode cX5_sureCells 9 = .ok (.invokevirtual 76, 3) := by decide +kernel
theorem dX5_sureCells_12 : decode cX5_sureCells 12 = .ok (.if_icmp .ge 24, 3) := by decide +kernel
theorem dX5_sureCells_15 : decode cX5_sureCells 15 = .ok (.aload_n 0, 1) := by decide +kernel
theorem dX5_sureCells_16 : decode cX5_sureCells 16 = .ok (.invokevirtual 122, 3) := by decide +kernel
theorem dX5_sureCells_19 : decode cX5_sureCells 19 = .ok (.iload_n 2, 1) := by decide +kernel
theorem dX5_sureCells_20 : decode cX5_sureCells 20 = .ok (.invokevirtual 129, 3) := by decide +kernel
theorem dX5_sureCells_23 : decode cX5_sureCells 23 = .ok (.iconst (-1), 1) := by decide +kernel
theorem dX5_sureCells_24 : decode cX5_sureCells 24 = .ok (.if_icmp .eq 6, 3) := by decide +kernel
theorem dX5_sureCells_27 : decode cX5_sureCells 27 = .ok (.iinc 1 1, 3) := by decide +kernel
theorem dX5_sureCells_30 : decode cX5_sureCells 30 = .ok (.iinc 2 1, 3) := by decide +kernel
theorem dX5_sureCells_33 : decode cX5_sureCells 33 = .ok (.goto (-29), 3) := by decide +kernel
theorem dX5_sureCells_36 : decode cX5_sureCells 36 = .ok (.iload_n 1, 1) := by decide +kernel
theorem dX5_sureCells_37 : decode cX5_sureCells 37 = .ok (.ireturn, 1) := by decide +kernel
theorem dX5_commonDivisor_0 : decode cX5_commonDivisor 0 = .ok (.iload_n 1, 1) := by decide +kernel
theorem dX5_commonDivisor_1 : decode cX5_commonDivisor 1 = .ok (.istore_n 2, 1) := by decide +kernel
theorem dX5_commonDivisor_2 : decode cX5_commonDivisor 2 = .ok (.iload_n 0, 1) := by decide +kernel
theorem dX5_commonDivisor_3 : decode cX5_commonDivisor 3 = .ok (.istore_n 3, 1) := by decide +kernel
theorem dX5_commonDivisor_4 : decode cX5_commonDivisor 4 = .ok (.iconst 0, 1) := by decide +kernel
theorem dX5_commonDivisor_5 : decode cX5_commonDivisor 5 = .ok (.istore 4, 2) := by decide +kernel
theorem dX5_commonDivisor_7 : decode cX5_commonDivisor 7 = .ok (.iload 4, 2) := by decide +kernel
theorem dX5_commonDivisor_9 : decode cX5_commonDivisor 9 = .ok (.bipush 64, 2) := by decide +kernel
theorem dX5_commonDivisor_11 : decode cX5_commonDivisor 11 = .ok (.if_icmp .ge 23, 3) := by decide +kernel
theorem dX5_commonDivisor_14 : decode cX5_commonDivisor 14 = .ok (.iload_n 3, 1) := by decide +kernel
theorem dX5_commonDivisor_15 : decode cX5_commonDivisor 15 = .ok (.ifCond .eq 19, 3) := by decide +kernel
theorem dX5_commonDivisor_18 : decode cX5_commonDivisor 18 = .ok (.iload_n 2, 1) := by decide +kernel
theorem dX5_commonDivisor_19 : decode cX5_commonDivisor 19 = .ok (.iload_n 3, 1) := by decide +kernel
theorem dX5_commonDivisor_20 : decode cX5_commonDivisor 20 = .ok (.irem, 1) := by decide +kernel
theorem dX5_commonDivisor_21 : decode cX5_commonDivisor 21 = .ok (.istore 5, 2) := by decide +kernel
theorem dX5_commonDivisor_23 : decode cX5_commonDivisor 23 = .ok (.iload_n 3, 1) := by decide +kernel
theorem dX5_commonDivisor_24 : decode cX5_commonDivisor 24 = .ok (.istore_n 2, 1) := by decide +kernel
theorem dX5_commonDivisor_25 : decode cX5_commonDivisor 25 = .ok (.iload 5, 2) := by decide +kernel
theorem dX5_commonDivisor_27 : decode cX5_commonDivisor 27 = .ok (.istore_n 3, 1) := by decide +kernel
theorem dX5_commonDivisor_28 : decode cX5_commonDivisor 28 = .ok (.iinc 4 1, 3) := by decide +kernel
theorem dX5_commonDivisor_31 : decode cX5_commonDivisor 31 = .ok (.goto (-24), 3) := by decide +kernel
theorem dX5_commonDivisor_34 : decode cX5_commonDivisor 34 = .ok (.iload_n 2, 1) := by decide +kernel
theorem dX5_commonDivisor_35 : decode cX5_commonDivisor 35 = .ok (.ireturn, 1) := by decide +kernel
theorem dX5_fewestHints_0 : decode cX5_fewestHints 0 = .ok (.iconst 0, 1) := by decide +kernel
theorem dX5_fewestHints_1 : decode cX5_fewestHints 1 = .ok (.istore_n 2, 1) := by decide +kernel
theorem dX5_fewestHints_2 : decode cX5_fewestHints 2 = .ok (.iload_n 2, 1) := by decide +kernel
theorem dX5_fewestHints_3 : decode cX5_fewestHints 3 = .ok (.iconst 3, 1) := by decide +kernel
theorem dX5_fewestHints_4 : decode cX5_fewestHints 4 = .ok (.if_icmp .gt 25, 3) := by decide +kernel
theorem dX5_fewestHints_7 : decode cX5_fewestHints 7 = .ok (.aload_n 0, 1) := by decide +kernel
theorem dX5_fewestHints_8 : decode cX5_fewestHints 8 = .ok (.iload_n 1, 1) := by decide +kernel
theorem dX5_fewestHints_9 : decode cX5_fewestHints 9 = .ok (.iconst 0, 1) := by decide +kernel
theorem dX5_fewestHints_10 : decode cX5_fewestHints 10 = .ok (.iconst 0, 1) := by decide +kernel
theorem dX5_fewestHints_11 : decode cX5_fewestHints 11 = .ok (.iload_n 2, 1) := by decide +kernel
theorem dX5_fewestHints_12 : decode cX5_fewestHints 12 = .ok (.invokevirtual 273, 3) := by decide +kernel
theorem dX5_fewestHints_15 : decode cX5_fewestHints 15 = .ok (.istore_n 3, 1) := by decide +kernel
theorem dX5_fewestHints_16 : decode cX5_fewestHints 16 = .ok (.iload_n 3, 1) := by decide +kernel
theorem dX5_fewestHints_17 : decode cX5_fewestHints 17 = .ok (.iconst (-1), 1) := by decide +kernel
theorem dX5_fewestHints_18 : decode cX5_fewestHints 18 = .ok (.if_icmp .eq 5, 3) := by decide +kernel
theorem dX5_fewestHints_21 : decode cX5_fewestHints 21 = .ok (.iload_n 3, 1) := by decide +kernel
theorem dX5_fewestHints_22 : decode cX5_fewestHints 22 = .ok (.ireturn, 1) := by decide +kernel
theorem dX5_fewestHints_23 : decode cX5_fewestHints 23 = .ok (.iinc 2 1, 3) := by decide +kernel
theorem dX5_fewestHints_26 : decode cX5_fewestHints 26 = .ok (.goto (-24), 3) := by decide +kernel
theorem dX5_fewestHints_29 : decode cX5_fewestHints 29 = .ok (.iconst (-1), 1) := by decide +kernel
theorem dX5_fewestHints_30 : decode cX5_fewestHints 30 = .ok (.ireturn, 1) := by decide +kernel
theorem dX5_growHints_0 : decode cX5_growHints 0 = .ok (.iload 4, 2) := by decide +kernel
theorem dX5_growHints_2 : decode cX5_growHints 2 = .ok (.iconst 3, 1) := by decide +kernel
theorem dX5_growHints_3 : decode cX5_growHints 3 = .ok (.if_icmp .le 5, 3) := by decide +kernel
theorem dX5_growHints_6 : decode cX5_growHints 6 = .ok (.iconst (-1), 1) := by decide +kernel
theorem dX5_growHints_7 : decode cX5_growHints 7 = .ok (.ireturn, 1) := by decide +kernel
theorem dX5_growHints_8 : decode cX5_growHints 8 = .ok (.iload 4, 2) := by decide +kernel
theorem dX5_growHints_10 : decode cX5_growHints 10 = .ok (.iconst 1, 1) := by decide +kernel
theorem dX5_growHints_11 : decode cX5_growHints 11 = .ok (.if_icmp .ge 21, 3) := by decide +kernel
theorem dX5_growHints_14 : decode cX5_growHints 14 = .ok (.aload_n 0, 1) := by decide +kernel
theorem dX5_growHints_15 : decode cX5_growHints 15 = .ok (.getfield 41, 3) := by decide +kernel
theorem dX5_growHints_18 : decode cX5_growHints 18 = .ok (.iload_n 1, 1) := by decide +kernel
theorem dX5_growHints_19 : decode cX5_growHints 19 = .ok (.iload_n 2, 1) := by decide +kernel
theorem dX5_growHints_20 : decode cX5_growHints 20 = .ok (.invokevirtual 277, 3) := by decide +kernel
theorem dX5_growHints_23 : decode cX5_growHints 23 = .ok (.ifCond .eq 7, 3) := by decide +kernel
theorem dX5_growHints_26 : decode cX5_growHints 26 = .ok (.iload_n 2, 1) := by decide +kernel
theorem dX5_growHints_27 : decode cX5_growHints 27 = .ok (.goto 4, 3) := by decide +kernel
theorem dX5_growHints_30 : decode cX5_growHints 30 = .ok (.iconst (-1), 1) := by decide +kernel
theorem dX5_growHints_31 : decode cX5_growHints 31 = .ok (.ireturn, 1) := by decide +kernel
theorem dX5_growHints_32 : decode cX5_growHints 32 = .ok (.iload_n 3, 1) := by decide +kernel
theorem dX5_growHints_33 : decode cX5_growHints 33 = .ok (.istore 5, 2) := by decide +kernel
theorem dX5_growHints_35 : decode cX5_growHints 35 = .ok (.iload 5, 2) := by decide +kernel
theorem dX5_growHints_37 : decode cX5_growHints 37 = .ok (.aload_n 0, 1) := by decide +kernel
theorem dX5_growHints_38 : decode cX5_growHints 38 = .ok (.getfield 19, 3) := by decide +kernel
theorem dX5_growHints_41 : decode cX5_growHints 41 = .ok (.invokevirtual 76, 3) := by decide +kernel
theorem dX5_growHints_44 : decode cX5_growHints 44 = .ok (.if_icmp .ge 54, 3) := by decide +kernel
theorem dX5_growHints_47 : decode cX5_growHints 47 = .ok (.aload_n 0, 1) := by decide +kernel
theorem dX5_growHints_48 : decode cX5_growHints 48 = .ok (.getfield 19, 3) := by decide +kernel
theorem dX5_growHints_51 : decode cX5_growHints 51 = .ok (.iload 5, 2) := by decide +kernel
theorem dX5_growHints_53 : decode cX5_growHints 53 = .ok (.invokevirtual 119, 3) := by decide +kernel
theorem dX5_growHints_56 : decode cX5_growHints 56 = .ok (.ifCond .eq 6, 3) := by decide +kernel
theorem dX5_growHints_59 : decode cX5_growHints 59 = .ok (.goto 33, 3) := by decide +kernel
theorem dX5_growHints_62 : decode cX5_growHints 62 = .ok (.aload_n 0, 1) := by decide +kernel
theorem dX5_growHints_63 : decode cX5_growHints 63 = .ok (.iload_n 1, 1) := by decide +kernel
theorem dX5_growHints_64 : decode cX5_growHints 64 = .ok (.iload_n 2, 1) := by decide +kernel
theorem dX5_growHints_65 : decode cX5_growHints 65 = .ok (.iconst 1, 1) := by decide +kernel
theorem dX5_growHints_66 : decode cX5_growHints 66 = .ok (.iload 5, 2) := by decide +kernel
theorem dX5_growHints_68 : decode cX5_growHints 68 = .ok (.ishl, 1) := by decide +kernel
theorem dX5_growHints_69 : decode cX5_growHints 69 = .ok (.ior, 1) := by decide +kernel
theorem dX5_growHints_70 : decode cX5_growHints 70 = .ok (.iload 5, 2) := by decide +kernel
theorem dX5_growHints_72 : decode cX5_growHints 72 = .ok (.iconst 1, 1) := by decide +kernel
theorem dX5_growHints_73 : decode cX5_growHints 73 = .ok (.iadd, 1) := by decide +kernel
theorem dX5_growHints_74 : decode cX5_growHints 74 = .ok (.iload 4, 2) := by decide +kernel
theorem dX5_growHints_76 : decode cX5_growHints 76 = .ok (.iconst 1, 1) := by decide +kernel
theorem dX5_growHints_77 : decode cX5_growHints 77 = .ok (.isub, 1) := by decide +kernel
theorem dX5_growHints_78 : decode cX5_growHints 78 = .ok (.invokevirtual 273, 3) := by decide +kernel
theorem dX5_growHints_81 : decode cX5_growHints 81 = .ok (.istore 6, 2) := by decide +kernel
theorem dX5_growHints_83 : decode cX5_growHints 83 = .ok (.iload 6, 2) := by decide +kernel
theorem dX5_growHints_85 : decode cX5_growHints 85 = .ok (.iconst (-1), 1) := by decide +kernel
theorem dX5_growHints_86 : decode cX5_growHints 86 = .ok (.if_icmp .eq 6, 3) := by decide +kernel
theorem dX5_growHints_89 : decode cX5_growHints 89 = .ok (.iload 6, 2) := by decide +kernel
theorem dX5_growHints_91 : decode cX5_growHints 91 = .ok (.ireturn, 1) := by decide +kernel
theorem dX5_growHints_92 : decode cX5_growHints 92 = .ok (.iinc 5 1, 3) := by decide +kernel
theorem dX5_growHints_95 : decode cX5_growHints 95 = .ok (.goto (-60), 3) := by decide +kernel
theorem dX5_growHints_98 : decode cX5_growHints 98 = .ok (.iconst (-1), 1) := by decide +kernel
theorem dX5_growHints_99 : decode cX5_growHints 99 = .ok (.ireturn, 1) := by decide +kernel
theorem dX5_cellAt_0 : decode cX5_cellAt 0 = .ok (.iconst 0, 1) := by decide +kernel
theorem dX5_cellAt_1 : decode cX5_cellAt 1 = .ok (.istore_n 2, 1) := by decide +kernel
theorem dX5_cellAt_2 : decode cX5_cellAt 2 = .ok (.iconst 0, 1) := by decide +kernel
theorem dX5_cellAt_3 : decode cX5_cellAt 3 = .ok (.istore_n 3, 1) := by decide +kernel
theorem dX5_cellAt_4 : decode cX5_cellAt 4 = .ok (.iload_n 3, 1) := by decide +kernel
theorem dX5_cellAt_5 : decode cX5_cellAt 5 = .ok (.bipush 16, 2) := by decide +kernel
theorem dX5_cellAt_7 : decode cX5_cellAt 7 = .ok (.if_icmp .ge 27, 3) := by decide +kernel
theorem dX5_cellAt_10 : decode cX5_cellAt 10 = .ok (.iload_n 0, 1) := by decide +kernel
theorem dX5_cellAt_11 : decode cX5_cellAt 11 = .ok (.iload_n 3, 1) := by decide +kernel
theorem dX5_cellAt_12 : decode cX5_cellAt 12 = .ok (.ishr, 1) := by decide +kernel
theorem dX5_cellAt_13 : decode cX5_cellAt 13 = .ok (.iconst 1, 1) := by decide +kernel
theorem dX5_cellAt_14 : decode cX5_cellAt 14 = .ok (.iand, 1) := by decide +kernel
theorem dX5_cellAt_15 : decode cX5_cellAt 15 = .ok (.ifCond .eq 6, 3) := by decide +kernel
theorem dX5_cellAt_18 : decode cX5_cellAt 18 = .ok (.iinc 2 1, 3) := by decide +kernel
theorem dX5_cellAt_21 : decode cX5_cellAt 21 = .ok (.iload_n 2, 1) := by decide +kernel
theorem dX5_cellAt_22 : decode cX5_cellAt 22 = .ok (.iload_n 1, 1) := by decide +kernel
theorem dX5_cellAt_23 : decode cX5_cellAt 23 = .ok (.if_icmp .ne 5, 3) := by decide +kernel
theorem dX5_cellAt_26 : decode cX5_cellAt 26 = .ok (.iload_n 3, 1) := by decide +kernel
theorem dX5_cellAt_27 : decode cX5_cellAt 27 = .ok (.ireturn, 1) := by decide +kernel
theorem dX5_cellAt_28 : decode cX5_cellAt 28 = .ok (.iinc 3 1, 3) := by decide +kernel
theorem dX5_cellAt_31 : decode cX5_cellAt 31 = .ok (.goto (-27), 3) := by decide +kernel
theorem dX5_cellAt_34 : decode cX5_cellAt 34 = .ok (.iconst (-1), 1) := by decide +kernel
theorem dX5_cellAt_35 : decode cX5_cellAt 35 = .ok (.ireturn, 1) := by decide +kernel
theorem dX5_changeToOne_0 : decode cX5_changeToOne 0 = .ok (.aload_n 0, 1) := by decide +kernel
theorem dX5_changeToOne_1 : decode cX5_changeToOne 1 = .ok (.getfield 19, 3) := by decide +kernel
theorem dX5_changeToOne_4 : decode cX5_changeToOne 4 = .ok (.iload_n 1, 1) := by decide +kernel
theorem dX5_changeToOne_5 : decode cX5_changeToOne 5 = .ok (.invokevirtual 80, 3) := by decide +kernel
theorem dX5_changeToOne_8 : decode cX5_changeToOne 8 = .ok (.ifCond .ne 5, 3) := by decide +kernel
theorem dX5_changeToOne_11 : decode cX5_changeToOne 11 = .ok (.iconst (-1), 1) := by decide +kernel
theorem dX5_changeToOne_12 : decode cX5_changeToOne 12 = .ok (.ireturn, 1) := by decide +kernel
theorem dX5_changeToOne_13 : decode cX5_changeToOne 13 = .ok (.aload_n 0, 1) := by decide +kernel
theorem dX5_changeToOne_14 : decode cX5_changeToOne 14 = .ok (.getfield 19, 3) := by decide +kernel
theorem dX5_changeToOne_17 : decode cX5_changeToOne 17 = .ok (.iload_n 1, 1) := by decide +kernel
theorem dX5_changeToOne_18 : decode cX5_changeToOne 18 = .ok (.invokevirtual 94, 3) := by decide +kernel
theorem dX5_changeToOne_21 : decode cX5_changeToOne 21 = .ok (.istore_n 2, 1) := by decide +kernel
theorem dX5_changeToOne_22 : decode cX5_changeToOne 22 = .ok (.aload_n 0, 1) := by decide +kernel
theorem dX5_changeToOne_23 : decode cX5_changeToOne 23 = .ok (.getfield 19, 3) := by decide +kernel
theorem dX5_changeToOne_26 : decode cX5_changeToOne 26 = .ok (.getfield 84, 3) := by decide +kernel
theorem dX5_changeToOne_29 : decode cX5_changeToOne 29 = .ok (.iload_n 1, 1) := by decide +kernel
theorem dX5_changeToOne_30 : decode cX5_changeToOne 30 = .ok (.iaload, 1) := by decide +kernel
theorem dX5_changeToOne_31 : decode cX5_changeToOne 31 = .ok (.istore_n 3, 1) := by decide +kernel
theorem dX5_changeToOne_32 : decode cX5_changeToOne 32 = .ok (.aload_n 0, 1) := by decide +kernel
theorem dX5_changeToOne_33 : decode cX5_changeToOne 33 = .ok (.getfield 19, 3) := by decide +kernel
theorem dX5_changeToOne_36 : decode cX5_changeToOne 36 = .ok (.getfield 88, 3) := by decide +kernel
theorem dX5_changeToOne_39 : decode cX5_changeToOne 39 = .ok (.iload_n 1, 1) := by decide +kernel
theorem dX5_changeToOne_40 : decode cX5_changeToOne 40 = .ok (.iaload, 1) := by decide +kernel
theorem dX5_changeToOne_41 : decode cX5_changeToOne 41 = .ok (.istore 4, 2) := by decide +kernel
theorem dX5_changeToOne_43 : decode cX5_changeToOne 43 = .ok (.aload_n 0, 1) := by decide +kernel
theorem dX5_changeToOne_44 : decode cX5_changeToOne 44 = .ok (.getfield 19, 3) := by decide +kernel
theorem dX5_changeToOne_47 : decode cX5_changeToOne 47 = .ok (.getfield 91, 3) := by decide +kernel
theorem dX5_changeToOne_50 : decode cX5_changeToOne 50 = .ok (.iload_n 1, 1) := by decide +kernel
theorem dX5_changeToOne_51 : decode cX5_changeToOne 51 = .ok (.iaload, 1) := by decide +kernel
theorem dX5_changeToOne_52 : decode cX5_changeToOne 52 = .ok (.istore 5, 2) := by decide +kernel
theorem dX5_changeToOne_54 : decode cX5_changeToOne 54 = .ok (.iconst 0, 1) := by decide +kernel
theorem dX5_changeToOne_55 : decode cX5_changeToOne 55 = .ok (.istore 6, 2) := by decide +kernel
theorem dX5_changeToOne_57 : decode cX5_changeToOne 57 = .ok (.iload 6, 2) := by decide +kernel
theorem dX5_changeToOne_59 : decode cX5_changeToOne 59 = .ok (.iload_n 2, 1) := by decide +kernel
theorem dX5_changeToOne_60 : decode cX5_changeToOne 60 = .ok (.if_icmp .gt 51, 3) := by decide +kernel
theorem dX5_changeToOne_63 : decode cX5_changeToOne 63 = .ok (.iload 5, 2) := by decide +kernel
theorem dX5_changeToOne_65 : decode cX5_changeToOne 65 = .ok (.iload_n 2, 1) := by decide +kernel
theorem dX5_changeToOne_66 : decode cX5_changeToOne 66 = .ok (.iload 6, 2) := by decide +kernel
theorem dX5_changeToOne_68 : decode cX5_changeToOne 68 = .ok (.invokestatic 280, 3) := by decide +kernel
theorem dX5_changeToOne_71 : decode cX5_changeToOne 71 = .ok (.if_icmp .le 7, 3) := by decide +kernel
theorem dX5_changeToOne_74 : decode cX5_changeToOne 74 = .ok (.iconst 0, 1) := by decide +kernel
theorem dX5_changeToOne_75 : decode cX5_changeToOne 75 = .ok (.goto 5, 3) := by decide +kernel
theorem dX5_changeToOne_78 : decode cX5_changeToOne 78 = .ok (.iload 5, 2) := by decide +kernel
theorem dX5_changeToOne_80 : decode cX5_changeToOne 80 = .ok (.istore 7, 2) := by decide +kernel
theorem dX5_changeToOne_82 : decode cX5_changeToOne 82 = .ok (.iload 6, 2) := by decide +kernel
theorem dX5_changeToOne_84 : decode cX5_changeToOne 84 = .ok (.iload 4, 2) := by decide +kernel
theorem dX5_changeToOne_86 : decode cX5_changeToOne 86 = .ok (.if_icmp .eq 19, 3) := by decide +kernel
theorem dX5_changeToOne_89 : decode cX5_changeToOne 89 = .ok (.aload_n 0, 1) := by decide +kernel
theorem dX5_changeToOne_90 : decode cX5_changeToOne 90 = .ok (.iload_n 1, 1) := by decide +kernel
theorem dX5_changeToOne_91 : decode cX5_changeToOne 91 = .ok (.iload_n 3, 1) := by decide +kernel
theorem dX5_changeToOne_92 : decode cX5_changeToOne 92 = .ok (.iload 6, 2) := by decide +kernel
theorem dX5_changeToOne_94 : decode cX5_changeToOne 94 = .ok (.iload 7, 2) := by decide +kernel
theorem dX5_changeToOne_96 : decode cX5_changeToOne 96 = .ok (.invokevirtual 283, 3) := by decide +kernel
theorem dX5_changeToOne_99 : decode cX5_changeToOne 99 = .ok (.ifCond .eq 6, 3) := by decide +kernel
theorem dX5_changeToOne_102 : decode cX5_changeToOne 102 = .ok (.iload 6, 2) := by decide +kernel
theorem dX5_changeToOne_104 : decode cX5_changeToOne 104 = .ok (.ireturn, 1) := by decide +kernel
theorem dX5_changeToOne_105 : decode cX5_changeToOne 105 = .ok (.iinc 6 1, 3) := by decide +kernel
theorem dX5_changeToOne_108 : decode cX5_changeToOne 108 = .ok (.goto (-51), 3) := by decide +kernel
theorem dX5_changeToOne_111 : decode cX5_changeToOne 111 = .ok (.iconst 0, 1) := by decide +kernel
theorem dX5_changeToOne_112 : decode cX5_changeToOne 112 = .ok (.istore 6, 2) := by decide +kernel
theorem dX5_changeToOne_114 : decode cX5_changeToOne 114 = .ok (.iload 6, 2) := by decide +kernel
theorem dX5_changeToOne_116 : decode cX5_changeToOne 116 = .ok (.iconst 5, 1) := by decide +kernel
theorem dX5_changeToOne_117 : decode cX5_changeToOne 117 = .ok (.if_icmp .ge 51, 3) := by decide +kernel
theorem dX5_changeToOne_120 : decode cX5_changeToOne 120 = .ok (.iload 6, 2) := by decide +kernel
theorem dX5_changeToOne_122 : decode cX5_changeToOne 122 = .ok (.invokestatic 286, 3) := by decide +kernel
theorem dX5_changeToOne_125 : decode cX5_changeToOne 125 = .ok (.ifCond .eq 8, 3) := by decide +kernel
theorem dX5_changeToOne_128 : decode cX5_changeToOne 128 = .ok (.iload 5, 2) := by decide +kernel
theorem dX5_changeToOne_130 : decode cX5_changeToOne 130 = .ok (.goto 4, 3) := by decide +kernel
theorem dX5_changeToOne_133 : decode cX5_changeToOne 133 = .ok (.iconst 0, 1) := by decide +kernel
theorem dX5_changeToOne_134 : decode cX5_changeToOne 134 = .ok (.istore 7, 2) := by decide +kernel
theorem dX5_changeToOne_136 : decode cX5_changeToOne 136 = .ok (.iload 6, 2) := by decide +kernel
theorem dX5_changeToOne_138 : decode cX5_changeToOne 138 = .ok (.iload_n 3, 1) := by decide +kernel
theorem dX5_changeToOne_139 : decode cX5_changeToOne 139 = .ok (.if_icmp .eq 23, 3) := by decide +kernel
theorem dX5_changeToOne_142 : decode cX5_changeToOne 142 = .ok (.aload_n 0, 1) := by decide +kernel
theorem dX5_changeToOne_143 : decode cX5_changeToOne 143 = .ok (.iload_n 1, 1) := by decide +kernel
theorem dX5_changeToOne_144 : decode cX5_changeToOne 144 = .ok (.iload 6, 2) := by decide +kernel
theorem dX5_changeToOne_146 : decode cX5_changeToOne 146 = .ok (.iload 4, 2) := by decide +kernel
theorem dX5_changeToOne_148 : decode cX5_changeToOne 148 = .ok (.iload 7, 2) := by decide +kernel
theorem dX5_changeToOne_150 : decode cX5_changeToOne 150 = .ok (.invokevirtual 283, 3) := by decide +kernel
theorem dX5_changeToOne_153 : decode cX5_changeToOne 153 = .ok (.ifCond .eq 9, 3) := by decide +kernel
theorem dX5_changeToOne_156 : decode cX5_changeToOne 156 = .ok (.bipush 10, 2) := by decide +kernel
theorem dX5_changeToOne_158 : decode cX5_changeToOne 158 = .ok (.iload 6, 2) := by decide +kernel
theorem dX5_changeToOne_160 : decode cX5_changeToOne 160 = .ok (.iadd, 1) := by decide +kernel
theorem dX5_changeToOne_161 : decode cX5_changeToOne 161 = .ok (.ireturn, 1) := by decide +kernel
theorem dX5_changeToOne_162 : decode cX5_changeToOne 162 = .ok (.iinc 6 1, 3) := by decide +kernel
theorem dX5_changeToOne_165 : decode cX5_changeToOne 165 = .ok (.goto (-51), 3) := by decide +kernel
theorem dX5_changeToOne_168 : decode cX5_changeToOne 168 = .ok (.iconst (-1), 1) := by decide +kernel
theorem dX5_changeToOne_169 : decode cX5_changeToOne 169 = .ok (.ireturn, 1) := by decide +kernel
theorem dX5_leavesOne_0 : decode cX5_leavesOne 0 = .ok (.aload_n 0, 1) := by decide +kernel
theorem dX5_leavesOne_1 : decode cX5_leavesOne 1 = .ok (.getfield 19, 3) := by decide +kernel
theorem dX5_leavesOne_4 : decode cX5_leavesOne 4 = .ok (.iload_n 1, 1) := by decide +kernel
theorem dX5_leavesOne_5 : decode cX5_leavesOne 5 = .ok (.invokevirtual 94, 3) := by decide +kernel
theorem dX5_leavesOne_8 : decode cX5_leavesOne 8 = .ok (.iload_n 2, 1) := by decide +kernel
theorem dX5_leavesOne_9 : decode cX5_leavesOne 9 = .ok (.iload_n 3, 1) := by decide +kernel
theorem dX5_leavesOne_10 : decode cX5_leavesOne 10 = .ok (.iload 4, 2) := by decide +kernel
theorem dX5_leavesOne_12 : decode cX5_leavesOne 12 = .ok (.invokestatic 289, 3) := by decide +kernel
theorem dX5_leavesOne_15 : decode cX5_leavesOne 15 = .ok (.istore 5, 2) := by decide +kernel
theorem dX5_leavesOne_17 : decode cX5_leavesOne 17 = .ok (.aload_n 0, 1) := by decide +kernel
theorem dX5_leavesOne_18 : decode cX5_leavesOne 18 = .ok (.getfield 32, 3) := by decide +kernel
theorem dX5_leavesOne_21 : decode cX5_leavesOne 21 = .ok (.iload_n 1, 1) := by decide +kernel
theorem dX5_leavesOne_22 : decode cX5_leavesOne 22 = .ok (.iload 5, 2) := by decide +kernel
theorem dX5_leavesOne_24 : decode cX5_leavesOne 24 = .ok (.iconst 2, 1) := by decide +kernel
theorem dX5_leavesOne_25 : decode cX5_leavesOne 25 = .ok (.invokevirtual 269, 3) := by decide +kernel
theorem dX5_leavesOne_28 : decode cX5_leavesOne 28 = .ok (.iconst 1, 1) := by decide +kernel
theorem dX5_leavesOne_29 : decode cX5_leavesOne 29 = .ok (.if_icmp .ne 7, 3) := by decide +kernel
theorem dX5_leavesOne_32 : decode cX5_leavesOne 32 = .ok (.iconst 1, 1) := by decide +kernel
theorem dX5_leavesOne_33 : decode cX5_leavesOne 33 = .ok (.goto 4, 3) := by decide +kernel
theorem dX5_leavesOne_36 : decode cX5_leavesOne 36 = .ok (.iconst 0, 1) := by decide +kernel
theorem dX5_leavesOne_37 : decode cX5_leavesOne 37 = .ok (.ireturn, 1) := by decide +kernel
theorem dX5_nextSeed_0 : decode cX5_nextSeed 0 = .ok (.ldc2_w 292, 3) := by decide +kernel
theorem dX5_nextSeed_3 : decode cX5_nextSeed 3 = .ok (.lload_n 0, 1) := by decide +kernel
theorem dX5_nextSeed_4 : decode cX5_nextSeed 4 = .ok (.lmul, 1) := by decide +kernel
theorem dX5_nextSeed_5 : decode cX5_nextSeed 5 = .ok (.ldc2_w 294, 3) := by decide +kernel
theorem dX5_nextSeed_8 : decode cX5_nextSeed 8 = .ok (.ladd, 1) := by decide +kernel
theorem dX5_nextSeed_9 : decode cX5_nextSeed 9 = .ok (.ldc2_w 296, 3) := by decide +kernel
theorem dX5_nextSeed_12 : decode cX5_nextSeed 12 = .ok (.lrem, 1) := by decide +kernel
theorem dX5_nextSeed_13 : decode cX5_nextSeed 13 = .ok (.lreturn, 1) := by decide +kernel
theorem dX5_playGame_0 : decode cX5_playGame 0 = .ok (.aload_n 0, 1) := by decide +kernel
theorem dX5_playGame_1 : decode cX5_playGame 1 = .ok (.getfield 19, 3) := by decide +kernel
theorem dX5_playGame_4 : decode cX5_playGame 4 = .ok (.invokevirtual 164, 3) := by decide +kernel
theorem dX5_playGame_7 : decode cX5_playGame 7 = .ok (.istore_n 2, 1) := by decide +kernel
theorem dX5_playGame_8 : decode cX5_playGame 8 = .ok (.iconst 0, 1) := by decide +kernel
theorem dX5_playGame_9 : decode cX5_playGame 9 = .ok (.istore_n 3, 1) := by decide +kernel
theorem dX5_playGame_10 : decode cX5_playGame 10 = .ok (.aload_n 0, 1) := by decide +kernel
theorem dX5_playGame_11 : decode cX5_playGame 11 = .ok (.getfield 45, 3) := by decide +kernel
theorem dX5_playGame_14 : decode cX5_playGame 14 = .ok (.aload_n 0, 1) := by decide +kernel
theorem dX5_playGame_15 : decode cX5_playGame 15 = .ok (.getfield 41, 3) := by decide +kernel
theorem dX5_playGame_18 : decode cX5_playGame 18 = .ok (.invokevirtual 298, 3) := by decide +kernel
theorem dX5_playGame_21 : decode cX5_playGame 21 = .ok (.aload_n 0, 1) := by decide +kernel
theorem dX5_playGame_22 : decode cX5_playGame 22 = .ok (.getfield 45, 3) := by decide +kernel
theorem dX5_playGame_25 : decode cX5_playGame 25 = .ok (.getfield 160, 3) := by decide +kernel
theorem dX5_playGame_28 : decode cX5_playGame 28 = .ok (.iconst 1, 1) := by decide +kernel
theorem dX5_playGame_29 : decode cX5_playGame 29 = .ok (.if_icmp .le 57, 3) := by decide +kernel
theorem dX5_playGame_32 : decode cX5_playGame 32 = .ok (.iload_n 3, 1) := by decide +kernel
theorem dX5_playGame_33 : decode cX5_playGame 33 = .ok (.bipush 16, 2) := by decide +kernel
theorem dX5_playGame_35 : decode cX5_playGame 35 = .ok (.if_icmp .ge 51, 3) := by decide +kernel
theorem dX5_playGame_38 : decode cX5_playGame 38 = .ok (.aload_n 0, 1) := by decide +kernel
theorem dX5_playGame_39 : decode cX5_playGame 39 = .ok (.getfield 45, 3) := by decide +kernel
theorem dX5_playGame_42 : decode cX5_playGame 42 = .ok (.aload_n 0, 1) := by decide +kernel
theorem dX5_playGame_43 : decode cX5_playGame 43 = .ok (.getfield 19, 3) := by decide +kernel
theorem dX5_playGame_46 : decode cX5_playGame 46 = .ok (.invokevirtual 76, 3) := by decide +kernel
theorem dX5_playGame_49 : decode cX5_playGame 49 = .ok (.iload_n 2, 1) := by decide +kernel
theorem dX5_playGame_50 : decode cX5_playGame 50 = .ok (.invokevirtual 167, 3) := by decide +kernel
theorem dX5_playGame_53 : decode cX5_playGame 53 = .ok (.istore 4, 2) := by decide +kernel
theorem dX5_playGame_55 : decode cX5_playGame 55 = .ok (.iload 4, 2) := by decide +kernel
theorem dX5_playGame_57 : decode cX5_playGame 57 = .ok (.iconst (-1), 1) := by decide +kernel
theorem dX5_playGame_58 : decode cX5_playGame 58 = .ok (.if_icmp .ne 5, 3) := by decide +kernel
theorem dX5_playGame_61 : decode cX5_playGame 61 = .ok (.iload_n 3, 1) := by decide +kernel
theorem dX5_playGame_62 : decode cX5_playGame 62 = .ok (.ireturn, 1) := by decide +kernel
theorem dX5_playGame_63 : decode cX5_playGame 63 = .ok (.iload_n 2, 1) := by decide +kernel
theorem dX5_playGame_64 : decode cX5_playGame 64 = .ok (.iconst 1, 1) := by decide +kernel
theorem dX5_playGame_65 : decode cX5_playGame 65 = .ok (.iload 4, 2) := by decide +kernel
theorem dX5_playGame_67 : decode cX5_playGame 67 = .ok (.ishl, 1) := by decide +kernel
theorem dX5_playGame_68 : decode cX5_playGame 68 = .ok (.ior, 1) := by decide +kernel
theorem dX5_playGame_69 : decode cX5_playGame 69 = .ok (.istore_n 2, 1) := by decide +kernel
theorem dX5_playGame_70 : decode cX5_playGame 70 = .ok (.aload_n 0, 1) := by decide +kernel
theorem dX5_playGame_71 : decode cX5_playGame 71 = .ok (.getfield 45, 3) := by decide +kernel
theorem dX5_playGame_74 : decode cX5_playGame 74 = .ok (.iload_n 1, 1) := by decide +kernel
theorem dX5_playGame_75 : decode cX5_playGame 75 = .ok (.iload 4, 2) := by decide +kernel
theorem dX5_playGame_77 : decode cX5_playGame 77 = .ok (.invokevirtual 301, 3) := by decide +kernel
theorem dX5_playGame_80 : decode cX5_playGame 80 = .ok (.iinc 3 1, 3) := by decide +kernel
theorem dX5_playGame_83 : decode cX5_playGame 83 = .ok (.goto (-62), 3) := by decide +kernel
theorem dX5_playGame_86 : decode cX5_playGame 86 = .ok (.iload_n 3, 1) := by decide +kernel
theorem dX5_playGame_87 : decode cX5_playGame 87 = .ok (.ireturn, 1) := by decide +kernel
