theorem dX6_init_0 : decode cX6_init 0 = .ok (.aload_n 0, 1) := by decide +kernel
theorem dX6_init_1 : decode cX6_init 1 = .ok (.invokespecial 1, 3) := by decide +kernel
theorem dX6_init_4 : decode cX6_init 4 = .ok (.aload_n 0, 1) := by decide +kernel
theorem dX6_init_5 : decode cX6_init 5 = .ok (.bipush 36, 2) := by decide +kernel
theorem dX6_init_7 : decode cX6_init 7 = .ok (.newarray .int, 2) := by decide +kernel
theorem dX6_init_9 : decode cX6_init 9 = .ok (.putfield 7, 3) := by decide +kernel
theorem dX6_init_12 : decode cX6_init 12 = .ok (.aload_n 0, 1) := by decide +kernel
theorem dX6_init_13 : decode cX6_init 13 = .ok (.bipush 8, 2) := by decide +kernel
theorem dX6_init_15 : decode cX6_init 15 = .ok (.newarray .int, 2) := by decide +kernel
theorem dX6_init_17 : decode cX6_init 17 = .ok (.putfield 13, 3) := by decide +kernel
theorem dX6_init_20 : decode cX6_init 20 = .ok (.aload_n 0, 1) := by decide +kernel
theorem dX6_init_21 : decode cX6_init 21 = .ok (.bipush 8, 2) := by decide +kernel
theorem dX6_init_23 : decode cX6_init 23 = .ok (.newarray .int, 2) := by decide +kernel
theorem dX6_init_25 : decode cX6_init 25 = .ok (.putfield 16, 3) := by decide +kernel
theorem dX6_init_28 : decode cX6_init 28 = .ok (.aload_n 0, 1) := by decide +kernel
theorem dX6_init_29 : decode cX6_init 29 = .ok (.bipush 8, 2) := by decide +kernel
theorem dX6_init_31 : decode cX6_init 31 = .ok (.newarray .int, 2) := by decide +kernel
theorem dX6_init_33 : decode cX6_init 33 = .ok (.putfield 19, 3) := by decide +kernel
theorem dX6_init_36 : decode cX6_init 36 = .ok (.aload_n 0, 1) := by decide +kernel
theorem dX6_init_37 : decode cX6_init 37 = .ok (.bipush 8, 2) := by decide +kernel
theorem dX6_init_39 : decode cX6_init 39 = .ok (.newarray .int, 2) := by decide +kernel
theorem dX6_init_41 : decode cX6_init 41 = .ok (.putfield 22, 3) := by decide +kernel
theorem dX6_init_44 : decode cX6_init 44 = .ok (.aload_n 0, 1) := by decide +kernel
theorem dX6_init_45 : decode cX6_init 45 = .ok (.bipush 8, 2) := by decide +kernel
theorem dX6_init_47 : decode cX6_init 47 = .ok (.newarray .int, 2) := by decide +kernel
theorem dX6_init_49 : decode cX6_init 49 = .ok (.putfield 25, 3) := by decide +kernel
theorem dX6_init_52 : decode cX6_init 52 = .ok (.aload_n 0, 1) := by decide +kernel
theorem dX6_init_53 : decode cX6_init 53 = .ok (.bipush 8, 2) := by decide +kernel
theorem dX6_init_55 : decode cX6_init 55 = .ok (.newarray .int, 2) := by decide +kernel
theorem dX6_init_57 : decode cX6_init 57 = .ok (.putfield 28, 3) := by decide +kernel
theorem dX6_init_60 : decode cX6_init 60 = .ok (.aload_n 0, 1) := by decide +kernel
theorem dX6_init_61 : decode cX6_init 61 = .ok (.bipush 16, 2) := by decide +kernel
theorem dX6_init_63 : decode cX6_init 63 = .ok (.newarray .int, 2) := by decide +kernel
theorem dX6_init_65 : decode cX6_init 65 = .ok (.putfield 31, 3) := by decide +kernel
theorem dX6_init_68 : decode cX6_init 68 = .ok (.aload_n 0, 1) := by decide +kernel
theorem dX6_init_69 : decode cX6_init 69 = .ok (.sipush 1024, 3) := by decide +kernel
theorem dX6_init_72 : decode cX6_init 72 = .ok (.newarray .long, 2) := by decide +kernel
theorem dX6_init_74 : decode cX6_init 74 = .ok (.putfield 34, 3) := by decide +kernel
theorem dX6_init_77 : decode cX6_init 77 = .ok (.aload_n 0, 1) := by decide +kernel
theorem dX6_init_78 : decode cX6_init 78 = .ok (.bipush 16, 2) := by decide +kernel
theorem dX6_init_80 : decode cX6_init 80 = .ok (.newarray .int, 2) := by decide +kernel
theorem dX6_init_82 : decode cX6_init 82 = .ok (.putfield 38, 3) := by decide +kernel
theorem dX6_init_85 : decode cX6_init 85 = .ok (.aload_n 0, 1) := by decide +kernel
theorem dX6_init_86 : decode cX6_init 86 = .ok (.sipush 128, 3) := by decide +kernel
theorem dX6_init_89 : decode cX6_init 89 = .ok (.newarray .int, 2) := by decide +kernel
theorem dX6_init_91 : decode cX6_init 91 = .ok (.putfield 41, 3) := by decide +kernel
theorem dX6_init_94 : decode cX6_init 94 = .ok (.aload_n 0, 1) := by decide +kernel
theorem dX6_init_95 : decode cX6_init 95 = .ok (.bipush 18, 2) := by decide +kernel
theorem dX6_init_97 : decode cX6_init 97 = .ok (.newarray .int, 2) := by decide +kernel
theorem dX6_init_99 : decode cX6_init 99 = .ok (.putfield 44, 3) := by decide +kernel
theorem dX6_init_102 : decode cX6_init 102 = .ok (.aload_n 0, 1) := by decide +kernel
theorem dX6_init_103 : decode cX6_init 103 = .ok (.sipush 200, 3) := by decide +kernel
theorem dX6_init_106 : decode cX6_init 106 = .ok (.newarray .int, 2) := by decide +kernel
theorem dX6_init_108 : decode cX6_init 108 = .ok (.putfield 47, 3) := by decide +kernel
theorem dX6_init_111 : decode cX6_init 111 = .ok (.aload_n 0, 1) := by decide +kernel
theorem dX6_init_112 : decode cX6_init 112 = .ok (.bipush 16, 2) := by decide +kernel
theorem dX6_init_114 : decode cX6_init 114 = .ok (.newarray .int, 2) := by decide +kernel
theorem dX6_init_116 : decode cX6_init 116 = .ok (.putfield 50, 3) := by decide +kernel
theorem dX6_init_119 : decode cX6_init 119 = .ok (.aload_n 0, 1) := by decide +kernel
theorem dX6_init_120 : decode cX6_init 120 = .ok (.bipush 8, 2) := by decide +kernel
theorem dX6_init_122 : decode cX6_init 122 = .ok (.newarray .int, 2) := by decide +kernel
theorem dX6_init_124 : decode cX6_init 124 = .ok (.putfield 53, 3) := by decide +kernel
theorem dX6_init_127 : decode cX6_init 127 = .ok (.aload_n 0, 1) := by decide +kernel
theorem dX6_init_128 : decode cX6_init 128 = .ok (.bipush 8, 2) := by decide +kernel
theorem dX6_init_130 : decode cX6_init 130 = .ok (.newarray .int, 2) := by decide +kernel
theorem dX6_init_132 : decode cX6_init 132 = .ok (.putfield 56, 3) := by decide +kernel
theorem dX6_init_135 : decode cX6_init 135 = .ok (.aload_n 0, 1) := by decide +kernel
theorem dX6_init_136 : decode cX6_init 136 = .ok (.bipush 8, 2) := by decide +kernel
theorem dX6_init_138 : decode cX6_init 138 = .ok (.newarray .int, 2) := by decide +kernel
theorem dX6_init_140 : decode cX6_init 140 = .ok (.putfield 59, 3) := by decide +kernel
theorem dX6_init_143 : decode cX6_init 143 = .ok (.aload_n 0, 1) := by decide +kernel
theorem dX6_init_144 : decode cX6_init 144 = .ok (.bipush 16, 2) := by decide +kernel
theorem dX6_init_146 : decode cX6_init 146 = .ok (.newarray .int, 2) := by decide +kernel
theorem dX6_init_148 : decode cX6_init 148 = .ok (.putfield 62, 3) := by decide +kernel
theorem dX6_init_151 : decode cX6_init 151 = .ok (.aload_n 0, 1) := by decide +kernel
theorem dX6_init_152 : decode cX6_init 152 = .ok (.bipush 18, 2) := by decide +kernel
theorem dX6_init_154 : decode cX6_init 154 = .ok (.newarray .int, 2) := by decide +kernel
theorem dX6_init_156 : decode cX6_init 156 = .ok (.putfield 65, 3) := by decide +kernel
theorem dX6_init_159 : decode cX6_init 159 = .ok (.aload_n 0, 1) := by decide +kernel
theorem dX6_init_160 : decode cX6_init 160 = .ok (.iconst (-1), 1) := by decide +kernel
theorem dX6_init_161 : decode cX6_init 161 = .ok (.putfield 68, 3) := by decide +kernel
theorem dX6_init_164 : decode cX6_init 164 = .ok (.aload_n 0, 1) := by decide +kernel
theorem dX6_init_165 : decode cX6_init 165 = .ok (.iconst 1, 1) := by decide +kernel
theorem dX6_init_166 : decode cX6_init 166 = .ok (.putfield 72, 3) := by decide +kernel
theorem dX6_init_169 : decode cX6_init 169 = .ok (.return_, 1) := by decide +kernel
theorem dX6_in_0 : decode cX6_in 0 = .ok (.lload_n 0, 1) := by decide +kernel
theorem dX6_in_1 : decode cX6_in 1 = .ok (.lload_n 2, 1) := by decide +kernel
theorem dX6_in_2 : decode cX6_in 2 = .ok (.lcmp, 1) := by decide +kernel
theorem dX6_in_3 : decode cX6_in 3 = .ok (.ifCond .lt 14, 3) := by decide +kernel
theorem dX6_in_6 : decode cX6_in 6 = .ok (.lload_n 0, 1) := by decide +kernel
theorem dX6_in_7 : decode cX6_in 7 = .ok (.lload 4, 2) := by decide +kernel
theorem dX6_in_9 : decode cX6_in 9 = .ok (.lcmp, 1) := by decide +kernel
theorem dX6_in_10 : decode cX6_in 10 = .ok (.ifCond .gt 7, 3) := by decide +kernel
theorem dX6_in_13 : decode cX6_in 13 = .ok (.iconst 1, 1) := by decide +kernel
theorem dX6_in_14 : decode cX6_in 14 = .ok (.goto 4, 3) := by decide +kernel
theorem dX6_in_17 : decode cX6_in 17 = .ok (.iconst 0, 1) := by decide +kernel
theorem dX6_in_18 : decode cX6_in 18 = .ok (.ireturn, 1) := by decide +kernel
theorem dX6_copy_0 : decode cX6_copy 0 = .ok (.iconst 0, 1) := by decide +kernel
theorem dX6_copy_1 : decode cX6_copy 1 = .ok (.istore_n 2, 1) := by decide +kernel
theorem dX6_copy_2 : decode cX6_copy 2 = .ok (.iload_n 2, 1) := by decide +kernel
theorem dX6_copy_3 : decode cX6_copy 3 = .ok (.aload_n 0, 1) := by decide +kernel
theorem dX6_copy_4 : decode cX6_copy 4 = .ok (.arraylength, 1) := by decide +kernel
theorem dX6_copy_5 : decode cX6_copy 5 = .ok (.if_icmp .ge 15, 3) := by decide +kernel
theorem dX6_copy_8 : decode cX6_copy 8 = .ok (.aload_n 1, 1) := by decide +kernel
theorem dX6_copy_9 : decode cX6_copy 9 = .ok (.iload_n 2, 1) := by decide +kernel
theorem dX6_copy_10 : decode cX6_copy 10 = .ok (.aload_n 0, 1) := by decide +kernel
theorem dX6_copy_11 : decode cX6_copy 11 = .ok (.iload_n 2, 1) := by decide +kernel
theorem dX6_copy_12 : decode cX6_copy 12 = .ok (.iaload, 1) := by decide +kernel
theorem dX6_copy_13 : decode cX6_copy 13 = .ok (.iastore, 1) := by decide +kernel
theorem dX6_copy_14 : decode cX6_copy 14 = .ok (.iinc 2 1, 3) := by decide +kernel
theorem dX6_copy_17 : decode cX6_copy 17 = .ok (.goto (-15), 3) := by decide +kernel
theorem dX6_copy_20 : decode cX6_copy 20 = .ok (.return_, 1) := by decide +kernel
theorem dX6_ones_0 : decode cX6_ones 0 = .ok (.iconst 0, 1) := by decide +kernel
theorem dX6_ones_1 : decode cX6_ones 1 = .ok (.istore_n 1, 1) := by decide +kernel
theorem dX6_ones_2 : decode cX6_ones 2 = .ok (.iconst 0, 1) := by decide +kernel
theorem dX6_ones_3 : decode cX6_ones 3 = .ok (.istore_n 2, 1) := by decide +kernel
theorem dX6_ones_4 : decode cX6_ones 4 = .ok (.iload_n 2, 1) := by decide +kernel
theorem dX6_ones_5 : decode cX6_ones 5 = .ok (.bipush 16, 2) := by decide +kernel
theorem dX6_ones_7 : decode cX6_ones 7 = .ok (.if_icmp .ge 17, 3) := by decide +kernel
theorem dX6_ones_10 : decode cX6_ones 10 = .ok (.iload_n 1, 1) := by decide +kernel
theorem dX6_ones_11 : decode cX6_ones 11 = .ok (.iload_n 0, 1) := by decide +kernel
theorem dX6_ones_12 : decode cX6_ones 12 = .ok (.iload_n 2, 1) := by decide +kernel
theorem dX6_ones_13 : decode cX6_ones 13 = .ok (.ishr, 1) := by decide +kernel
theorem dX6_ones_14 : decode cX6_ones 14 = .ok (.iconst 1, 1) := by decide +kernel
theorem dX6_ones_15 : decode cX6_ones 15 = .ok (.iand, 1) := by decide +kernel
theorem dX6_ones_16 : decode cX6_ones 16 = .ok (.iadd, 1) := by decide +kernel
theorem dX6_ones_17 : decode cX6_ones 17 = .ok (.istore_n 1, 1) := by decide +kernel
theorem dX6_ones_18 : decode cX6_ones 18 = .ok (.iinc 2 1, 3) := by decide +kernel
theorem dX6_ones_21 : decode cX6_ones 21 = .ok (.goto (-17), 3) := by decide +kernel
theorem dX6_ones_24 : decode cX6_ones 24 = .ok (.iload_n 1, 1) := by decide +kernel
theorem dX6_ones_25 : decode cX6_ones 25 = .ok (.ireturn, 1) := by decide +kernel
theorem dX6_letter_0 : decode cX6_letter 0 = .ok (.iload_n 1, 1) := by decide +kernel
theorem dX6_letter_1 : decode cX6_letter 1 = .ok (.i2l, 1) := by decide +kernel
theorem dX6_letter_2 : decode cX6_letter 2 = .ok (.lconst 1, 1) := by decide +kernel
theorem dX6_letter_3 : decode cX6_letter 3 = .ok (.ldc2_w 76, 3) := by decide +kernel
theorem dX6_letter_6 : decode cX6_letter 6 = .ok (.invokestatic 78, 3) := by decide +kernel
theorem dX6_letter_9 : decode cX6_letter 9 = .ok (.ifCond .ne 6, 3) := by decide +kernel
theorem dX6_letter_12 : decode cX6_letter 12 = .ok (.bipush (-102), 2) := by decide +kernel
theorem dX6_letter_14 : decode cX6_letter 14 = .ok (.ireturn, 1) := by decide +kernel
theorem dX6_letter_15 : decode cX6_letter 15 = .ok (.aload_n 0, 1) := by decide +kernel
theorem dX6_letter_16 : decode cX6_letter 16 = .ok (.getfield 82, 3) := by decide +kernel
theorem dX6_letter_19 : decode cX6_letter 19 = .ok (.bipush 36, 2) := by decide +kernel
theorem dX6_letter_21 : decode cX6_letter 21 = .ok (.if_icmp .ne 6, 3) := by decide +kernel
theorem dX6_letter_24 : decode cX6_letter 24 = .ok (.bipush (-104), 2) := by decide +kernel
theorem dX6_letter_26 : decode cX6_letter 26 = .ok (.ireturn, 1) := by decide +kernel
theorem dX6_letter_27 : decode cX6_letter 27 = .ok (.aload_n 0, 1) := by decide +kernel
theorem dX6_letter_28 : decode cX6_letter 28 = .ok (.getfield 7, 3) := by decide +kernel
theorem dX6_letter_31 : decode cX6_letter 31 = .ok (.aload_n 0, 1) := by decide +kernel
theorem dX6_letter_32 : decode cX6_letter 32 = .ok (.getfield 82, 3) := by decide +kernel
theorem dX6_letter_35 : decode cX6_letter 35 = .ok (.iload_n 1, 1) := by decide +kernel
theorem dX6_letter_36 : decode cX6_letter 36 = .ok (.iastore, 1) := by decide +kernel
theorem dX6_letter_37 : decode cX6_letter 37 = .ok (.aload_n 0, 1) := by decide +kernel
theorem dX6_letter_38 : decode cX6_letter 38 = .ok (.dup, 1) := by decide +kernel
theorem dX6_letter_39 : decode cX6_letter 39 = .ok (.getfield 82, 3) := by decide +kernel
theorem dX6_letter_42 : decode cX6_letter 42 = .ok (.iconst 1, 1) := by decide +kernel
theorem dX6_letter_43 : decode cX6_letter 43 = .ok (.iadd, 1) := by decide +kernel
theorem dX6_letter_44 : decode cX6_letter 44 = .ok (.putfield 82, 3) := by decide +kernel
theorem dX6_letter_47 : decode cX6_letter 47 = .ok (.aload_n 0, 1) := by decide +kernel
theorem dX6_letter_48 : decode cX6_letter 48 = .ok (.getfield 82, 3) := by decide +kernel
theorem dX6_letter_51 : decode cX6_letter 51 = .ok (.ireturn, 1) := by decide +kernel
theorem dX6_blank_0 : decode cX6_blank 0 = .ok (.aload_n 0, 1) := by decide +kernel
theorem dX6_blank_1 : decode cX6_blank 1 = .ok (.getfield 82, 3) := by decide +kernel
theorem dX6_blank_4 : decode cX6_blank 4 = .ok (.istore_n 1, 1) := by decide +kernel
theorem dX6_blank_5 : decode cX6_blank 5 = .ok (.aload_n 0, 1) := by decide +kernel
theorem dX6_blank_6 : decode cX6_blank 6 = .ok (.iconst 0, 1) := by decide +kernel
theorem dX6_blank_7 : decode cX6_blank 7 = .ok (.putfield 82, 3) := by decide +kernel
theorem dX6_blank_10 : decode cX6_blank 10 = .ok (.iload_n 1, 1) := by decide +kernel
theorem dX6_blank_11 : decode cX6_blank 11 = .ok (.ireturn, 1) := by decide +kernel
theorem dX6_kindBy_0 : decode cX6_kindBy 0 = .ok (.iload_n 0, 1) := by decide +kernel
theorem dX6_kindBy_1 : decode cX6_kindBy 1 = .ok (.lookupswitch 61 #[(99, 51), (108, 57), (112, 55), (114, 53), (116, 59)], 51) := by decide +kernel
theorem dX6_kindBy_52 : decode cX6_kindBy 52 = .ok (.iconst 0, 1) := by decide +kernel
theorem dX6_kindBy_53 : decode cX6_kindBy 53 = .ok (.ireturn, 1) := by decide +kernel
theorem dX6_kindBy_54 : decode cX6_kindBy 54 = .ok (.iconst 1, 1) := by decide +kernel
theorem dX6_kindBy_55 : decode cX6_kindBy 55 = .ok (.ireturn, 1) := by decide +kernel
theorem dX6_kindBy_56 : decode cX6_kindBy 56 = .ok (.iconst 2, 1) := by decide +kernel
theorem dX6_kindBy_57 : decode cX6_kindBy 57 = .ok (.ireturn, 1) := by decide +kernel
theorem dX6_kindBy_58 : decode cX6_kindBy 58 = .ok (.iconst 3, 1) := by decide +kernel
theorem dX6_kindBy_59 : decode cX6_kindBy 59 = .ok (.ireturn, 1) := by decide +kernel
theorem dX6_kindBy_60 : decode cX6_kindBy 60 = .ok (.iconst 4, 1) := by decide +kernel
theorem dX6_kindBy_61 : decode cX6_kindBy 61 = .ok (.ireturn, 1) := by decide +kernel
theorem dX6_kindBy_62 : decode cX6_kindBy 62 = .ok (.iconst (-1), 1) := by decide +kernel
theorem dX6_kindBy_63 : decode cX6_kindBy 63 = .ok (.ireturn, 1) := by decide +kernel
theorem dX6_isDouble_0 : decode cX6_isDouble 0 = .ok (.iload_n 0, 1) := by decide +kernel
theorem dX6_isDouble_1 : decode cX6_isDouble 1 = .ok (.iconst 1, 1) := by decide +kernel
theorem dX6_isDouble_2 : decode cX6_isDouble 2 = .ok (.if_icmp .eq 8, 3) := by decide +kernel
theorem dX6_isDouble_5 : decode cX6_isDouble 5 = .ok (.iload_n 0, 1) := by decide +kernel
theorem dX6_isDouble_6 : decode cX6_isDouble 6 = .ok (.iconst 4, 1) := by decide +kernel
theorem dX6_isDouble_7 : decode cX6_isDouble 7 = .ok (.if_icmp .ne 7, 3) := by decide +kernel
theorem dX6_isDouble_10 : decode cX6_isDouble 10 = .ok (.iconst 1, 1) := by decide +kernel
theorem dX6_isDouble_11 : decode cX6_isDouble 11 = .ok (.goto 4, 3) := by decide +kernel
theorem dX6_isDouble_14 : decode cX6_isDouble 14 = .ok (.iconst 0, 1) := by decide +kernel
theorem dX6_isDouble_15 : decode cX6_isDouble 15 = .ok (.ireturn, 1) := by decide +kernel
theorem dX6_mostSecond_0 : decode cX6_mostSecond 0 = .ok (.iload_n 0, 1) := by decide +kernel
theorem dX6_mostSecond_1 : decode cX6_mostSecond 1 = .ok (.ifCond .eq 10, 3) := by decide +kernel
theorem dX6_mostSecond_4 : decode cX6_mostSecond 4 = .ok (.iload_n 0, 1) := by decide +kernel
theorem dX6_mostSecond_5 : decode cX6_mostSecond 5 = .ok (.iconst 1, 1) := by decide +kernel
theorem dX6_mostSecond_6 : decode cX6_mostSecond 6 = .ok (.iadd, 1) := by decide +kernel
theorem dX6_mostSecond_7 : decode cX6_mostSecond 7 = .ok (.iload_n 1, 1) := by decide +kernel
theorem dX6_mostSecond_8 : decode cX6_mostSecond 8 = .ok (.if_icmp .le 7, 3) := by decide +kernel
theorem dX6_mostSecond_11 : decode cX6_mostSecond 11 = .ok (.iconst 0, 1) := by decide +kernel
theorem dX6_mostSecond_12 : decode cX6_mostSecond 12 = .ok (.goto 8, 3) := by decide +kernel
theorem dX6_mostSecond_15 : decode cX6_mostSecond 15 = .ok (.iload_n 1, 1) := by decide +kernel
theorem dX6_mostSecond_16 : decode cX6_mostSecond 16 = .ok (.iload_n 0, 1) := by decide +kernel
theorem dX6_mostSecond_17 : decode cX6_mostSecond 17 = .ok (.isub, 1) := by decide +kernel
theorem dX6_mostSecond_18 : decode cX6_mostSecond 18 = .ok (.iconst 1, 1) := by decide +kernel
theorem dX6_mostSecond_19 : decode cX6_mostSecond 19 = .ok (.isub, 1) := by decide +kernel
theorem dX6_mostSecond_20 : decode cX6_mostSecond 20 = .ok (.ireturn, 1) := by decide +kernel
theorem dX6_readHigh_0 : decode cX6_readHigh 0 = .ok (.aload_n 0, 1) := by decide +kernel
theorem dX6_readHigh_1 : decode cX6_readHigh 1 = .ok (.getfield 7, 3) := by decide +kernel
theorem dX6_readHigh_4 : decode cX6_readHigh 4 = .ok (.iconst 0, 1) := by decide +kernel
theorem dX6_readHigh_5 : decode cX6_readHigh 5 = .ok (.iaload, 1) := by decide +kernel
theorem dX6_readHigh_6 : decode cX6_readHigh 6 = .ok (.bipush 48, 2) := by decide +kernel
theorem dX6_readHigh_8 : decode cX6_readHigh 8 = .ok (.isub, 1) := by decide +kernel
theorem dX6_readHigh_9 : decode cX6_readHigh 9 = .ok (.ireturn, 1) := by decide +kernel
theorem dX6_readLines_0 : decode cX6_readLines 0 = .ok (.aload_n 0, 1) := by decide +kernel
theorem dX6_readLines_1 : decode cX6_readLines 1 = .ok (.getfield 7, 3) := by decide +kernel
theorem dX6_readLines_4 : decode cX6_readLines 4 = .ok (.iconst 0, 1) := by decide +kernel
theorem dX6_readLines_5 : decode cX6_readLines 5 = .ok (.iaload, 1) := by decide +kernel
theorem dX6_readLines_6 : decode cX6_readLines 6 = .ok (.bipush 48, 2) := by decide +kernel
theorem dX6_readLines_8 : decode cX6_readLines 8 = .ok (.isub, 1) := by decide +kernel
theorem dX6_readLines_9 : decode cX6_readLines 9 = .ok (.aload_n 0, 1) := by decide +kernel
theorem dX6_readLines_10 : decode cX6_readLines 10 = .ok (.getfield 7, 3) := by decide +kernel
theorem dX6_readLines_13 : decode cX6_readLines 13 = .ok (.iconst 1, 1) := by decide +kernel
theorem dX6_readLines_14 : decode cX6_readLines 14 = .ok (.iaload, 1) := by decide +kernel
theorem dX6_readLines_15 : decode cX6_readLines 15 = .ok (.iadd, 1) := by decide +kernel
theorem dX6_readLines_16 : decode cX6_readLines 16 = .ok (.bipush 48, 2) := by decide +kernel
theorem dX6_readLines_18 : decode cX6_readLines 18 = .ok (.isub, 1) := by decide +kernel
theorem dX6_readLines_19 : decode cX6_readLines 19 = .ok (.ireturn, 1) := by decide +kernel
theorem dX6_readCells_0 : decode cX6_readCells 0 = .ok (.aload_n 0, 1) := by decide +kernel
theorem dX6_readCells_1 : decode cX6_readCells 1 = .ok (.getfield 85, 3) := by decide +kernel
theorem dX6_readCells_4 : decode cX6_readCells 4 = .ok (.aload_n 0, 1) := by decide +kernel
theorem dX6_readCells_5 : decode cX6_readCells 5 = .ok (.invokevirtual 88, 3) := by decide +kernel
theorem dX6_readCells_8 : decode cX6_readCells 8 = .ok (.if_icmp .ge 15, 3) := by decide +kernel
theorem dX6_readCells_11 : decode cX6_readCells 11 = .ok (.aload_n 0, 1) := by decide +kernel
theorem dX6_readCells_12 : decode cX6_readCells 12 = .ok (.getfield 7, 3) := by decide +kernel
theorem dX6_readCells_15 : decode cX6_readCells 15 = .ok (.iconst 1, 1) := by decide +kernel
theorem dX6_readCells_16 : decode cX6_readCells 16 = .ok (.iaload, 1) := by decide +kernel
theorem dX6_readCells_17 : decode cX6_readCells 17 = .ok (.bipush 48, 2) := by decide +kernel
theorem dX6_readCells_19 : decode cX6_readCells 19 = .ok (.isub, 1) := by decide +kernel
theorem dX6_readCells_20 : decode cX6_readCells 20 = .ok (.goto 12, 3) := by decide +kernel
theorem dX6_readCells_23 : decode cX6_readCells 23 = .ok (.aload_n 0, 1) := by decide +kernel
theorem dX6_readCells_24 : decode cX6_readCells 24 = .ok (.getfield 7, 3) := by decide +kernel
theorem dX6_readCells_27 : decode cX6_readCells 27 = .ok (.iconst 0, 1) := by decide +kernel
theorem dX6_readCells_28 : decode cX6_readCells 28 = .ok (.iaload, 1) := by decide +kernel
theorem dX6_readCells_29 : decode cX6_readCells 29 = .ok (.bipush 48, 2) := by decide +kernel
theorem dX6_readCells_31 : decode cX6_readCells 31 = .ok (.isub, 1) := by decide +kernel
theorem dX6_readCells_32 : decode cX6_readCells 32 = .ok (.ireturn, 1) := by decide +kernel
theorem dX6_isKindLetter_0 : decode cX6_isKindLetter 0 = .ok (.aload_n 0, 1) := by decide +kernel
theorem dX6_isKindLetter_1 : decode cX6_isKindLetter 1 = .ok (.iload_n 1, 1) := by decide +kernel
theorem dX6_isKindLetter_2 : decode cX6_isKindLetter 2 = .ok (.invokestatic 92, 3) := by decide +kernel
theorem dX6_isKindLetter_5 : decode cX6_isKindLetter 5 = .ok (.putfield 96, 3) := by decide +kernel
theorem dX6_isKindLetter_8 : decode cX6_isKindLetter 8 = .ok (.aload_n 0, 1) := by decide +kernel
theorem dX6_isKindLetter_9 : decode cX6_isKindLetter 9 = .ok (.iconst 1, 1) := by decide +kernel
theorem dX6_isKindLetter_10 : decode cX6_isKindLetter 10 = .ok (.putfield 99, 3) := by decide +kernel
theorem dX6_isKindLetter_13 : decode cX6_isKindLetter 13 = .ok (.aload_n 0, 1) := by decide +kernel
theorem dX6_isKindLetter_14 : decode cX6_isKindLetter 14 = .ok (.getfield 96, 3) := by decide +kernel
theorem dX6_isKindLetter_17 : decode cX6_isKindLetter 17 = .ok (.iconst (-1), 1) := by decide +kernel
theorem dX6_isKindLetter_18 : decode cX6_isKindLetter 18 = .ok (.if_icmp .eq 26, 3) := by decide +kernel
theorem dX6_isKindLetter_21 : decode cX6_isKindLetter 21 = .ok (.aload_n 0, 1) := by decide +kernel
theorem dX6_isKindLetter_22 : decode cX6_isKindLetter 22 = .ok (.getfield 13, 3) := by decide +kernel
theorem dX6_isKindLetter_25 : decode cX6_isKindLetter 25 = .ok (.aload_n 0, 1) := by decide +kernel
theorem dX6_isKindLetter_26 : decode cX6_isKindLetter 26 = .ok (.getfield 85, 3) := by decide +kernel
theorem dX6_isKindLetter_29 : decode cX6_isKindLetter 29 = .ok (.aload_n 0, 1) := by decide +kernel
theorem dX6_isKindLetter_30 : decode cX6_isKindLetter 30 = .ok (.getfield 96, 3) := by decide +kernel
theorem dX6_isKindLetter_33 : decode cX6_isKindLetter 33 = .ok (.iastore, 1) := by decide +kernel
theorem dX6_isKindLetter_34 : decode cX6_isKindLetter 34 = .ok (.aload_n 0, 1) := by decide +kernel
theorem dX6_isKindLetter_35 : decode cX6_isKindLetter 35 = .ok (.getfield 19, 3) := by decide +kernel
theorem dX6_isKindLetter_38 : decode cX6_isKindLetter 38 = .ok (.aload_n 0, 1) := by decide +kernel
theorem dX6_isKindLetter_39 : decode cX6_isKindLetter 39 = .ok (.getfield 85, 3) := by decide +kernel
theorem dX6_isKindLetter_42 : decode cX6_isKindLetter 42 = .ok (.iconst 0, 1) := by decide +kernel
theorem dX6_isKindLetter_43 : decode cX6_isKindLetter 43 = .ok (.iastore, 1) := by decide +kernel
theorem dX6_isKindLetter_44 : decode cX6_isKindLetter 44 = .ok (.aload_n 0, 1) := by decide +kernel
theorem dX6_isKindLetter_45 : decode cX6_isKindLetter 45 = .ok (.getfield 96, 3) := by decide +kernel
theorem dX6_isKindLetter_48 : decode cX6_isKindLetter 48 = .ok (.iconst (-1), 1) := by decide +kernel
theorem dX6_isKindLetter_49 : decode cX6_isKindLetter 49 = .ok (.if_icmp .eq 7, 3) := by decide +kernel
theorem dX6_isKindLetter_52 : decode cX6_isKindLetter 52 = .ok (.iconst 1, 1) := by decide +kernel
theorem dX6_isKindLetter_53 : decode cX6_isKindLetter 53 = .ok (.goto 4, 3) := by decide +kernel
theorem dX6_isKindLetter_56 : decode cX6_isKindLetter 56 = .ok (.iconst 0, 1) := by decide +kernel
theorem dX6_isKindLetter_57 : decode cX6_isKindLetter 57 = .ok (.ireturn, 1) := by decide +kernel
theorem dX6_isFirstLetter_0 : decode cX6_isFirstLetter 0 = .ok (.aload_n 0, 1) := by decide +kernel
theorem dX6_isFirstLetter_1 : decode cX6_isFirstLetter 1 = .ok (.iload_n 1, 1) := by decide +kernel
theorem dX6_isFirstLetter_2 : decode cX6_isFirstLetter 2 = .ok (.bipush 48, 2) := by decide +kernel
theorem dX6_isFirstLetter_4 : decode cX6_isFirstLetter 4 = .ok (.isub, 1) := by decide +kernel
theorem dX6_isFirstLetter_5 : decode cX6_isFirstLetter 5 = .ok (.putfield 102, 3) := by decide +kernel
theorem dX6_isFirstLetter_8 : decode cX6_isFirstLetter 8 = .ok (.aload_n 0, 1) := by decide +kernel
theorem dX6_isFirstLetter_9 : decode cX6_isFirstLetter 9 = .ok (.getfield 16, 3) := by decide +kernel
theorem dX6_isFirstLetter_12 : decode cX6_isFirstLetter 12 = .ok (.aload_n 0, 1) := by decide +kernel
theorem dX6_isFirstLetter_13 : decode cX6_isFirstLetter 13 = .ok (.getfield 85, 3) := by decide +kernel
theorem dX6_isFirstLetter_16 : decode cX6_isFirstLetter 16 = .ok (.aload_n 0, 1) := by decide +kernel
theorem dX6_isFirstLetter_17 : decode cX6_isFirstLetter 17 = .ok (.getfield 102, 3) := by decide +kernel
theorem dX6_isFirstLetter_20 : decode cX6_isFirstLetter 20 = .ok (.iastore, 1) := by decide +kernel
theorem dX6_isFirstLetter_21 : decode cX6_isFirstLetter 21 = .ok (.aload_n 0, 1) := by decide +kernel
theorem dX6_isFirstLetter_22 : decode cX6_isFirstLetter 22 = .ok (.aload_n 0, 1) := by decide +kernel
theorem dX6_isFirstLetter_23 : decode cX6_isFirstLetter 23 = .ok (.getfield 96, 3) := by decide +kernel
theorem dX6_isFirstLetter_26 : decode cX6_isFirstLetter 26 = .ok (.invokestatic 105, 3) := by decide +kernel
theorem dX6_isFirstLetter_29 : decode cX6_isFirstLetter 29 = .ok (.ifCond .eq 7, 3) := by decide +kernel
theorem dX6_isFirstLetter_32 : decode cX6_isFirstLetter 32 = .ok (.iconst 2, 1) := by decide +kernel
theorem dX6_isFirstLetter_33 : decode cX6_isFirstLetter 33 = .ok (.goto 4, 3) := by decide +kernel
theorem dX6_isFirstLetter_36 : decode cX6_isFirstLetter 36 = .ok (.iconst 3, 1) := by decide +kernel
theorem dX6_isFirstLetter_37 : decode cX6_isFirstLetter 37 = .ok (.putfield 99, 3) := by decide +kernel
theorem dX6_isFirstLetter_40 : decode cX6_isFirstLetter 40 = .ok (.aload_n 0, 1) := by decide +kernel
theorem dX6_isFirstLetter_41 : decode cX6_isFirstLetter 41 = .ok (.getfield 102, 3) := by decide +kernel
theorem dX6_isFirstLetter_44 : decode cX6_isFirstLetter 44 = .ok (.i2l, 1) := by decide +kernel
theorem dX6_isFirstLetter_45 : decode cX6_isFirstLetter 45 = .ok (.lconst 0, 1) := by decide +kernel
theorem dX6_isFirstLetter_46 : decode cX6_isFirstLetter 46 = .ok (.aload_n 0, 1) := by decide +kernel
theorem dX6_isFirstLetter_47 : decode cX6_isFirstLetter 47 = .ok (.invokevirtual 109, 3) := by decide +kernel
theorem dX6_isFirstLetter_50 : decode cX6_isFirstLetter 50 = .ok (.i2l, 1) := by decide +kernel
theorem dX6_isFirstLetter_51 : decode cX6_isFirstLetter 51 = .ok (.invokestatic 78, 3) := by decide +kernel
theorem dX6_isFirstLetter_54 : decode cX6_isFirstLetter 54 = .ok (.ireturn, 1) := by decide +kernel
theorem dX6_isSecondLetter_0 : decode cX6_isSecondLetter 0 = .ok (.aload_n 0, 1) := by decide +kernel
theorem dX6_isSecondLetter_1 : decode cX6_isSecondLetter 1 = .ok (.getfield 19, 3) := by decide +kernel
theorem dX6_isSecondLetter_4 : decode cX6_isSecondLetter 4 = .ok (.aload_n 0, 1) := by decide +kernel
theorem dX6_isSecondLetter_5 : decode cX6_isSecondLetter 5 = .ok (.getfield 85, 3) := by decide +kernel
theorem dX6_isSecondLetter_8 : decode cX6_isSecondLetter 8 = .ok (.iload_n 1, 1) := by decide +kernel
theorem dX6_isSecondLetter_9 : decode cX6_isSecondLetter 9 = .ok (.bipush 48, 2) := by decide +kernel
theorem dX6_isSecondLetter_11 : decode cX6_isSecondLetter 11 = .ok (.isub, 1) := by decide +kernel
theorem dX6_isSecondLetter_12 : decode cX6_isSecondLetter 12 = .ok (.iastore, 1) := by decide +kernel
theorem dX6_isSecondLetter_13 : decode cX6_isSecondLetter 13 = .ok (.aload_n 0, 1) := by decide +kernel
theorem dX6_isSecondLetter_14 : decode cX6_isSecondLetter 14 = .ok (.iconst 3, 1) := by decide +kernel
theorem dX6_isSecondLetter_15 : decode cX6_isSecondLetter 15 = .ok (.putfield 99, 3) := by decide +kernel
theorem dX6_isSecondLetter_18 : decode cX6_isSecondLetter 18 = .ok (.iload_n 1, 1) := by decide +kernel
theorem dX6_isSecondLetter_19 : decode cX6_isSecondLetter 19 = .ok (.bipush 48, 2) := by decide +kernel
theorem dX6_isSecondLetter_21 : decode cX6_isSecondLetter 21 = .ok (.isub, 1) := by decide +kernel
theorem dX6_isSecondLetter_22 : decode cX6_isSecondLetter 22 = .ok (.i2l, 1) := by decide +kernel
theorem dX6_isSecondLetter_23 : decode cX6_isSecondLetter 23 = .ok (.lconst 0, 1) := by decide +kernel
theorem dX6_isSecondLetter_24 : decode cX6_isSecondLetter 24 = .ok (.aload_n 0, 1) := by decide +kernel
theorem dX6_isSecondLetter_25 : decode cX6_isSecondLetter 25 = .ok (.getfield 102, 3) := by decide +kernel
theorem dX6_isSecondLetter_28 : decode cX6_isSecondLetter 28 = .ok (.aload_n 0, 1) := by decide +kernel
theorem dX6_isSecondLetter_29 : decode cX6_isSecondLetter 29 = .ok (.invokevirtual 109, 3) := by decide +kernel
theorem dX6_isSecondLetter_32 : decode cX6_isSecondLetter 32 = .ok (.invokestatic 112, 3) := by decide +kernel
theorem dX6_isSecondLetter_35 : decode cX6_isSecondLetter 35 = .ok (.i2l, 1) := by decide +kernel
theorem dX6_isSecondLetter_36 : decode cX6_isSecondLetter 36 = .ok (.invokestatic 78, 3) := by decide +kernel
theorem dX6_isSecondLetter_39 : decode cX6_isSecondLetter 39 = .ok (.ireturn, 1) := by decide +kernel
theorem dX6_isBehindLetter_0 : decode cX6_isBehindLetter 0 = .ok (.aload_n 0, 1) := by decide +kernel
theorem dX6_isBehindLetter_1 : decode cX6_isBehindLetter 1 = .ok (.dup, 1) := by decide +kernel
theorem dX6_isBehindLetter_2 : decode cX6_isBehindLetter 2 = .ok (.getfield 85, 3) := by decide +kernel
theorem dX6_isBehindLetter_5 : decode cX6_isBehindLetter 5 = .ok (.iconst 1, 1) := by decide +kernel
theorem dX6_isBehindLetter_6 : decode cX6_isBehindLetter 6 = .ok (.iadd, 1) := by decide +kernel
theorem dX6_isBehindLetter_7 : decode cX6_isBehindLetter 7 = .ok (.putfield 85, 3) := by decide +kernel
theorem dX6_isBehindLetter_10 : decode cX6_isBehindLetter 10 = .ok (.aload_n 0, 1) := by decide +kernel
theorem dX6_isBehindLetter_11 : decode cX6_isBehindLetter 11 = .ok (.iconst 0, 1) := by decide +kernel
theorem dX6_isBehindLetter_12 : decode cX6_isBehindLetter 12 = .ok (.putfield 99, 3) := by decide +kernel
theorem dX6_isBehindLetter_15 : decode cX6_isBehindLetter 15 = .ok (.aload_n 0, 1) := by decide +kernel
theorem dX6_isBehindLetter_16 : decode cX6_isBehindLetter 16 = .ok (.getfield 85, 3) := by decide +kernel
theorem dX6_isBehindLetter_19 : decode cX6_isBehindLetter 19 = .ok (.aload_n 0, 1) := by decide +kernel
theorem dX6_isBehindLetter_20 : decode cX6_isBehindLetter 20 = .ok (.invokevirtual 116, 3) := by decide +kernel
theorem dX6_isBehindLetter_23 : decode cX6_isBehindLetter 23 = .ok (.if_icmp .ge 29, 3) := by decide +kernel
theorem dX6_isBehindLetter_26 : decode cX6_isBehindLetter 26 = .ok (.iload_n 1, 1) := by decide +kernel
theorem dX6_isBehindLetter_27 : decode cX6_isBehindLetter 27 = .ok (.aload_n 0, 1) := by decide +kernel
theorem dX6_isBehindLetter_28 : decode cX6_isBehindLetter 28 = .ok (.getfield 85, 3) := by decide +kernel
theorem dX6_isBehindLetter_31 : decode cX6_isBehindLetter 31 = .ok (.aload_n 0, 1) := by decide +kernel
theorem dX6_isBehindLetter_32 : decode cX6_isBehindLetter 32 = .ok (.invokevirtual 88, 3) := by decide +kernel
theorem dX6_isBehindLetter_35 : decode cX6_isBehindLetter 35 = .ok (.if_icmp .ne 8, 3) := by decide +kernel
theorem dX6_isBehindLetter_38 : decode cX6_isBehindLetter 38 = .ok (.bipush 59, 2) := by decide +kernel
theorem dX6_isBehindLetter_40 : decode cX6_isBehindLetter 40 = .ok (.goto 5, 3) := by decide +kernel
theorem dX6_isBehindLetter_43 : decode cX6_isBehindLetter 43 = .ok (.bipush 44, 2) := by decide +kernel
theorem dX6_isBehindLetter_45 : decode cX6_isBehindLetter 45 = .ok (.if_icmp .ne 7, 3) := by decide +kernel
theorem dX6_isBehindLetter_48 : decode cX6_isBehindLetter 48 = .ok (.iconst 1, 1) := by decide +kernel
theorem dX6_isBehindLetter_49 : decode cX6_isBehindLetter 49 = .ok (.goto 4, 3) := by decide +kernel
theorem dX6_isBehindLetter_52 : decode cX6_isBehindLetter 52 = .ok (.iconst 0, 1) := by decide +kernel
theorem dX6_isBehindLetter_53 : decode cX6_isBehindLetter 53 = .ok (.ireturn, 1) := by decide +kernel
theorem dX6_isGood_0 : decode cX6_isGood 0 = .ok (.aload_n 0, 1) := by decide +kernel
theorem dX6_isGood_1 : decode cX6_isGood 1 = .ok (.getfield 7, 3) := by decide +kernel
theorem dX6_isGood_4 : decode cX6_isGood 4 = .ok (.iload_n 1, 1) := by decide +kernel
theorem dX6_isGood_5 : decode cX6_isGood 5 = .ok (.iaload, 1) := by decide +kernel
theorem dX6_isGood_6 : decode cX6_isGood 6 = .ok (.istore_n 2, 1) := by decide +kernel
theorem dX6_isGood_7 : decode cX6_isGood 7 = .ok (.iload_n 1, 1) := by decide +kernel
theorem dX6_isGood_8 : decode cX6_isGood 8 = .ok (.iconst 2, 1) := by decide +kernel
theorem dX6_isGood_9 : decode cX6_isGood 9 = .ok (.if_icmp .ge 15, 3) := by decide +kernel
theorem dX6_isGood_12 : decode cX6_isGood 12 = .ok (.iload_n 2, 1) := by decide +kernel
theorem dX6_isGood_13 : decode cX6_isGood 13 = .ok (.i2l, 1) := by decide +kernel
theorem dX6_isGood_14 : decode cX6_isGood 14 = .ok (.ldc2_w 119, 3) := by decide +kernel
theorem dX6_isGood_17 : decode cX6_isGood 17 = .ok (.ldc2_w 121, 3) := by decide +kernel
theorem dX6_isGood_20 : decode cX6_isGood 20 = .ok (.invokestatic 78, 3) := by decide +kernel
theorem dX6_isGood_23 : decode cX6_isGood 23 = .ok (.ireturn, 1) := by decide +kernel
theorem dX6_isGood_24 : decode cX6_isGood 24 = .ok (.iload_n 1, 1) := by decide +kernel
theorem dX6_isGood_25 : decode cX6_isGood 25 = .ok (.iconst 2, 1) := by decide +kernel
theorem dX6_isGood_26 : decode cX6_isGood 26 = .ok (.if_icmp .ne 25, 3) := by decide +kernel
theorem dX6_isGood_29 : decode cX6_isGood 29 = .ok (.aload_n 0, 1) := by decide +kernel
theorem dX6_isGood_30 : decode cX6_isGood 30 = .ok (.iconst 0, 1) := by decide +kernel
theorem dX6_isGood_31 : decode cX6_isGood 31 = .ok (.putfield 85, 3) := by decide +kernel
theorem dX6_isGood_34 : decode cX6_isGood 34 = .ok (.aload_n 0, 1) := by decide +kernel
theorem dX6_isGood_35 : decode cX6_isGood 35 = .ok (.iconst 0, 1) := by decide +kernel
theorem dX6_isGood_36 : decode cX6_isGood 36 = .ok (.putfield 99, 3) := by decide +kernel
theorem dX6_isGood_39 : decode cX6_isGood 39 = .ok (.iload_n 2, 1) := by decide +kernel
theorem dX6_isGood_40 : decode cX6_isGood 40 = .ok (.bipush 59, 2) := by decide +kernel
theorem dX6_isGood_42 : decode cX6_isGood 42 = .ok (.if_icmp .ne 7, 3) := by decide +kernel
theorem dX6_isGood_45 : decode cX6_isGood 45 = .ok (.iconst 1, 1) := by decide +kernel
theorem dX6_isGood_46 : decode cX6_isGood 46 = .ok (.goto 4, 3) := by decide +kernel
theorem dX6_isGood_49 : decode cX6_isGood 49 = .ok (.iconst 0, 1) := by decide +kernel
theorem dX6_isGood_50 : decode cX6_isGood 50 = .ok (.ireturn, 1) := by decide +kernel
theorem dX6_isGood_51 : decode cX6_isGood 51 = .ok (.aload_n 0, 1) := by decide +kernel
theorem dX6_isGood_52 : decode cX6_isGood 52 = .ok (.getfield 99, 3) := by decide +kernel
theorem dX6_isGood_55 : decode cX6_isGood 55 = .ok (.tableswitch 43 0 2 #[25, 31, 37], 25) := by decide +kernel
theorem dX6_isGood_80 : decode cX6_isGood 80 = .ok (.aload_n 0, 1) := by decide +kernel
theorem dX6_isGood_81 : decode cX6_isGood 81 = .ok (.iload_n 2, 1) := by decide +kernel
theorem dX6_isGood_82 : decode cX6_isGood 82 = .ok (.invokevirtual 123, 3) := by decide +kernel
theorem dX6_isGood_85 : decode cX6_isGood 85 = .ok (.ireturn, 1) := by decide +kernel
theorem dX6_isGood_86 : decode cX6_isGood 86 = .ok (.aload_n 0, 1) := by decide +kernel
theorem dX6_isGood_87 : decode cX6_isGood 87 = .ok (.iload_n 2, 1) := by decide +kernel
theorem dX6_isGood_88 : decode cX6_isGood 88 = .ok (.invokevirtual 126, 3) := by decide +kernel
theorem dX6_isGood_91 : decode cX6_isGood 91 = .ok (.ireturn, 1) := by decide +kernel
theorem dX6_isGood_92 : decode cX6_isGood 92 = .ok (.aload_n 0, 1) := by decide +kernel
theorem dX6_isGood_93 : decode cX6_isGood 93 = .ok (.iload_n 2, 1) := by decide +kernel
theorem dX6_isGood_94 : decode cX6_isGood 94 = .ok (.invokevirtual 129, 3) := by decide +kernel
theorem dX6_isGood_97 : decode cX6_isGood 97 = .ok (.ireturn, 1) := by decide +kernel
theorem dX6_isGood_98 : decode cX6_isGood 98 = .ok (.aload_n 0, 1) := by decide +kernel
theorem dX6_isGood_99 : decode cX6_isGood 99 = .ok (.iload_n 2, 1) := by decide +kernel
theorem dX6_isGood_100 : decode cX6_isGood 100 = .ok (.invokevirtual 132, 3) := by decide +kernel
theorem dX6_isGood_103 : decode cX6_isGood 103 = .ok (.ireturn, 1) := by decide +kernel
theorem dX6_faultOf_0 : decode cX6_faultOf 0 = .ok (.aload_n 0, 1) := by decide +kernel
theorem dX6_faultOf_1 : decode cX6_faultOf 1 = .ok (.iconst 0, 1) := by decide +kernel
theorem dX6_faultOf_2 : decode cX6_faultOf 2 = .ok (.putfield 85, 3) := by decide +kernel
theorem dX6_faultOf_5 : decode cX6_faultOf 5 = .ok (.aload_n 0, 1) := by decide +kernel
theorem dX6_faultOf_6 : decode cX6_faultOf 6 = .ok (.iconst 0, 1) := by decide +kernel
theorem dX6_faultOf_7 : decode cX6_faultOf 7 = .ok (.putfield 99, 3) := by decide +kernel
theorem dX6_faultOf_10 : decode cX6_faultOf 10 = .ok (.iconst 0, 1) := by decide +kernel
theorem dX6_faultOf_11 : decode cX6_faultOf 11 = .ok (.istore_n 1, 1) := by decide +kernel
theorem dX6_faultOf_12 : decode cX6_faultOf 12 = .ok (.iload_n 1, 1) := by decide +kernel
theorem dX6_faultOf_13 : decode cX6_faultOf 13 = .ok (.aload_n 0, 1) := by decide +kernel
theorem dX6_faultOf_14 : decode cX6_faultOf 14 = .ok (.getfield 82, 3) := by decide +kernel
theorem dX6_faultOf_17 : decode cX6_faultOf 17 = .ok (.if_icmp .ge 17, 3) := by decide +kernel
theorem dX6_faultOf_20 : decode cX6_faultOf 20 = .ok (.aload_n 0, 1) := by decide +kernel
theorem dX6_faultOf_21 : decode cX6_faultOf 21 = .ok (.iload_n 1, 1) := by decide +kernel
theorem dX6_faultOf_22 : decode cX6_faultOf 22 = .ok (.invokevirtual 135, 3) := by decide +kernel
theorem dX6_faultOf_25 : decode cX6_faultOf 25 = .ok (.ifCond .eq 9, 3) := by decide +kernel
theorem dX6_faultOf_28 : decode cX6_faultOf 28 = .ok (.iinc 1 1, 3) := by decide +kernel
theorem dX6_faultOf_31 : decode cX6_faultOf 31 = .ok (.goto (-19), 3) := by decide +kernel
theorem dX6_faultOf_34 : decode cX6_faultOf 34 = .ok (.iload_n 1, 1) := by decide +kernel
theorem dX6_faultOf_35 : decode cX6_faultOf 35 = .ok (.ireturn, 1) := by decide +kernel
theorem dX6_fault_0 : decode cX6_fault 0 = .ok (.aload_n 0, 1) := by decide +kernel
theorem dX6_fault_1 : decode cX6_fault 1 = .ok (.invokevirtual 138, 3) := by decide +kernel
theorem dX6_fault_4 : decode cX6_fault 4 = .ok (.ireturn, 1) := by decide +kernel
theorem dX6_board_0 : decode cX6_board 0 = .ok (.aload_n 0, 1) := by decide +kernel
theorem dX6_board_1 : decode cX6_board 1 = .ok (.getfield 82, 3) := by decide +kernel
theorem dX6_board_4 : decode cX6_board 4 = .ok (.iconst 3, 1) := by decide +kernel
theorem dX6_board_5 : decode cX6_board 5 = .ok (.if_icmp .lt 35, 3) := by decide +kernel
theorem dX6_board_8 : decode cX6_board 8 = .ok (.aload_n 0, 1) := by decide +kernel
theorem dX6_board_9 : decode cX6_board 9 = .ok (.invokevirtual 138, 3) := by decide +kernel
theorem dX6_board_12 : decode cX6_board 12 = .ok (.aload_n 0, 1) := by decide +kernel
theorem dX6_board_13 : decode cX6_board 13 = .ok (.getfield 82, 3) := by decide +kernel
theorem dX6_board_16 : decode cX6_board 16 = .ok (.if_icmp .lt 24, 3) := by decide +kernel
theorem dX6_board_19 : decode cX6_board 19 = .ok (.aload_n 0, 1) := by decide +kernel
theorem dX6_board_20 : decode cX6_board 20 = .ok (.getfield 99, 3) := by decide +kernel
theorem dX6_board_23 : decode cX6_board 23 = .ok (.iconst 3, 1) := by decide +kernel
theorem dX6_board_24 : decode cX6_board 24 = .ok (.if_icmp .ne 16, 3) := by decide +kernel
theorem dX6_board_27 : decode cX6_board 27 = .ok (.aload_n 0, 1) := by decide +kernel
theorem dX6_board_28 : decode cX6_board 28 = .ok (.getfield 85, 3) := by decide +kernel
theorem dX6_board_31 : decode cX6_board 31 = .ok (.aload_n 0, 1) := by decide +kernel
theorem dX6_board_32 : decode cX6_board 32 = .ok (.invokevirtual 116, 3) := by decide +kernel
theorem dX6_board_35 : decode cX6_board 35 = .ok (.iconst 1, 1) := by decide +kernel
theorem dX6_board_36 : decode cX6_board 36 = .ok (.isub, 1) := by decide +kernel
theorem dX6_board_37 : decode cX6_board 37 = .ok (.if_icmp .eq 6, 3) := by decide +kernel
theorem dX6_board_40 : decode cX6_board 40 = .ok (.bipush (-103), 2) := by decide +kernel
theorem dX6_board_42 : decode cX6_board 42 = .ok (.ireturn, 1) := by decide +kernel
theorem dX6_board_43 : decode cX6_board 43 = .ok (.aload_n 0, 1) := by decide +kernel
theorem dX6_board_44 : decode cX6_board 44 = .ok (.aload_n 0, 1) := by decide +kernel
theorem dX6_board_45 : decode cX6_board 45 = .ok (.getfield 7, 3) := by decide +kernel
theorem dX6_board_48 : decode cX6_board 48 = .ok (.iconst 0, 1) := by decide +kernel
theorem dX6_board_49 : decode cX6_board 49 = .ok (.iaload, 1) := by decide +kernel
theorem dX6_board_50 : decode cX6_board 50 = .ok (.bipush 48, 2) := by decide +kernel
theorem dX6_board_52 : decode cX6_board 52 = .ok (.isub, 1) := by decide +kernel
theorem dX6_board_53 : decode cX6_board 53 = .ok (.putfield 141, 3) := by decide +kernel
theorem dX6_board_56 : decode cX6_board 56 = .ok (.aload_n 0, 1) := by decide +kernel
theorem dX6_board_57 : decode cX6_board 57 = .ok (.aload_n 0, 1) := by decide +kernel
theorem dX6_board_58 : decode cX6_board 58 = .ok (.getfield 7, 3) := by decide +kernel
theorem dX6_board_61 : decode cX6_board 61 = .ok (.iconst 1, 1) := by decide +kernel
theorem dX6_board_62 : decode cX6_board 62 = .ok (.iaload, 1) := by decide +kernel
theorem dX6_board_63 : decode cX6_board 63 = .ok (.bipush 48, 2) := by decide +kernel
theorem dX6_board_65 : decode cX6_board 65 = .ok (.isub, 1) := by decide +kernel
theorem dX6_board_66 : decode cX6_board 66 = .ok (.putfield 144, 3) := by decide +kernel
theorem dX6_board_69 : decode cX6_board 69 = .ok (.aload_n 0, 1) := by decide +kernel
theorem dX6_board_70 : decode cX6_board 70 = .ok (.getfield 13, 3) := by decide +kernel
theorem dX6_board_73 : decode cX6_board 73 = .ok (.aload_n 0, 1) := by decide +kernel
theorem dX6_board_74 : decode cX6_board 74 = .ok (.getfield 22, 3) := by decide +kernel
theorem dX6_board_77 : decode cX6_board 77 = .ok (.invokestatic 147, 3) := by decide +kernel
theorem dX6_board_80 : decode cX6_board 80 = .ok (.aload_n 0, 1) := by decide +kernel
theorem dX6_board_81 : decode cX6_board 81 = .ok (.getfield 16, 3) := by decide +kernel
theorem dX6_board_84 : decode cX6_board 84 = .ok (.aload_n 0, 1) := by decide +kernel
theorem dX6_board_85 : decode cX6_board 85 = .ok (.getfield 25, 3) := by decide +kernel
theorem dX6_board_88 : decode cX6_board 88 = .ok (.invokestatic 147, 3) := by decide +kernel
theorem dX6_board_91 : decode cX6_board 91 = .ok (.aload_n 0, 1) := by decide +kernel
theorem dX6_board_92 : decode cX6_board 92 = .ok (.getfield 19, 3) := by decide +kernel
theorem dX6_board_95 : decode cX6_board 95 = .ok (.aload_n 0, 1) := by decide +kernel
theorem dX6_board_96 : decode cX6_board 96 = .ok (.getfield 28, 3) := by decide +kernel
theorem dX6_board_99 : decode cX6_board 99 = .ok (.invokestatic 147, 3) := by decide +kernel
theorem dX6_board_102 : decode cX6_board 102 = .ok (.iconst 0, 1) := by decide +kernel
theorem dX6_board_103 : decode cX6_board 103 = .ok (.istore_n 1, 1) := by decide +kernel
theorem dX6_board_104 : decode cX6_board 104 = .ok (.iload_n 1, 1) := by decide +kernel
theorem dX6_board_105 : decode cX6_board 105 = .ok (.bipush 16, 2) := by decide +kernel
theorem dX6_board_107 : decode cX6_board 107 = .ok (.if_icmp .ge 16, 3) := by decide +kernel
theorem dX6_board_110 : decode cX6_board 110 = .ok (.aload_n 0, 1) := by decide +kernel
theorem dX6_board_111 : decode cX6_board 111 = .ok (.getfield 31, 3) := by decide +kernel
theorem dX6_board_114 : decode cX6_board 114 = .ok (.iload_n 1, 1) := by decide +kernel
theorem dX6_board_115 : decode cX6_board 115 = .ok (.iconst 0, 1) := by decide +kernel
theorem dX6_board_116 : decode cX6_board 116 = .ok (.iastore, 1) := by decide +kernel
theorem dX6_board_117 : decode cX6_board 117 = .ok (.iinc 1 1, 3) := by decide +kernel
theorem dX6_board_120 : decode cX6_board 120 = .ok (.goto (-16), 3) := by decide +kernel
theorem dX6_board_123 : decode cX6_board 123 = .ok (.aload_n 0, 1) := by decide +kernel
theorem dX6_board_124 : decode cX6_board 124 = .ok (.iconst 0, 1) := by decide +kernel
theorem dX6_board_125 : decode cX6_board 125 = .ok (.putfield 151, 3) := by decide +kernel
theorem dX6_board_128 : decode cX6_board 128 = .ok (.aload_n 0, 1) := by decide +kernel
theorem dX6_board_129 : decode cX6_board 129 = .ok (.dup, 1) := by decide +kernel
theorem dX6_board_130 : decode cX6_board 130 = .ok (.getfield 154, 3) := by decide +kernel
theorem dX6_board_133 : decode cX6_board 133 = .ok (.iconst 1, 1) := by decide +kernel
theorem dX6_board_134 : decode cX6_board 134 = .ok (.iadd, 1) := by decide +kernel
theorem dX6_board_135 : decode cX6_board 135 = .ok (.putfield 154, 3) := by decide +kernel
theorem dX6_board_138 : decode cX6_board 138 = .ok (.aload_n 0, 1) := by decide +kernel
theorem dX6_board_139 : decode cX6_board 139 = .ok (.iconst 0, 1) := by decide +kernel
theorem dX6_board_140 : decode cX6_board 140 = .ok (.putfield 82, 3) := by decide +kernel
theorem dX6_board_143 : decode cX6_board 143 = .ok (.aload_n 0, 1) := by decide +kernel
theorem dX6_board_144 : decode cX6_board 144 = .ok (.iconst 1, 1) := by decide +kernel
theorem dX6_board_145 : decode cX6_board 145 = .ok (.putfield 72, 3) := by decide +kernel
theorem dX6_board_148 : decode cX6_board 148 = .ok (.aload_n 0, 1) := by decide +kernel
theorem dX6_board_149 : decode cX6_board 149 = .ok (.getfield 141, 3) := by decide +kernel
theorem dX6_board_152 : decode cX6_board 152 = .ok (.aload_n 0, 1) := by decide +kernel
theorem dX6_board_153 : decode cX6_board 153 = .ok (.getfield 144, 3) := by decide +kernel
theorem dX6_board_156 : decode cX6_board 156 = .ok (.imul, 1) := by decide +kernel
theorem dX6_board_157 : decode cX6_board 157 = .ok (.ireturn, 1) := by decide +kernel
theorem dX6_lacks_0 : decode cX6_lacks 0 = .ok (.aload_n 0, 1) := by decide +kernel
theorem dX6_lacks_1 : decode cX6_lacks 1 = .ok (.getfield 141, 3) := by decide +kernel
theorem dX6_lacks_4 : decode cX6_lacks 4 = .ok (.ifCond .ne 7, 3) := by decide +kernel
theorem dX6_lacks_7 : decode cX6_lacks 7 = .ok (.iconst 1, 1) := by decide +kernel
theorem dX6_lacks_8 : decode cX6_lacks 8 = .ok (.goto 4, 3) := by decide +kernel
theorem dX6_lacks_11 : decode cX6_lacks 11 = .ok (.iconst 0, 1) := by decide +kernel
theorem dX6_lacks_12 : decode cX6_lacks 12 = .ok (.ireturn, 1) := by decide +kernel
theorem dX6_isLine_0 : decode cX6_isLine 0 = .ok (.iload_n 1, 1) := by decide +kernel
theorem dX6_isLine_1 : decode cX6_isLine 1 = .ok (.i2l, 1) := by decide +kernel
theorem dX6_isLine_2 : decode cX6_isLine 2 = .ok (.lconst 0, 1) := by decide +kernel
theorem dX6_isLine_3 : decode cX6_isLine 3 = .ok (.aload_n 0, 1) := by decide +kernel
theorem dX6_isLine_4 : decode cX6_isLine 4 = .ok (.getfield 141, 3) := by decide +kernel
theorem dX6_isLine_7 : decode cX6_isLine 7 = .ok (.aload_n 0, 1) := by decide +kernel
theorem dX6_isLine_8 : decode cX6_isLine 8 = .ok (.getfield 144, 3) := by decide +kernel
theorem dX6_isLine_11 : decode cX6_isLine 11 = .ok (.iadd, 1) := by decide +kernel
theorem dX6_isLine_12 : decode cX6_isLine 12 = .ok (.iconst 1, 1) := by decide +kernel
theorem dX6_isLine_13 : decode cX6_isLine 13 = .ok (.isub, 1) := by decide +kernel
theorem dX6_isLine_14 : decode cX6_isLine 14 = .ok (.i2l, 1) := by decide +kernel
theorem dX6_isLine_15 : decode cX6_isLine 15 = .ok (.invokestatic 78, 3) := by decide +kernel
theorem dX6_isLine_18 : decode cX6_isLine 18 = .ok (.ireturn, 1) := by decide +kernel
theorem dX6_isCell_0 : decode cX6_isCell 0 = .ok (.iload_n 1, 1) := by decide +kernel
theorem dX6_isCell_1 : decode cX6_isCell 1 = .ok (.i2l, 1) := by decide +kernel
theorem dX6_isCell_2 : decode cX6_isCell 2 = .ok (.lconst 0, 1) := by decide +kernel
theorem dX6_isCell_3 : decode cX6_isCell 3 = .ok (.aload_n 0, 1) := by decide +kernel
theorem dX6_isCell_4 : decode cX6_isCell 4 = .ok (.getfield 141, 3) := by decide +kernel
theorem dX6_isCell_7 : decode cX6_isCell 7 = .ok (.aload_n 0, 1) := by decide +kernel
theorem dX6_isCell_8 : decode cX6_isCell 8 = .ok (.getfield 144, 3) := by decide +kernel
theorem dX6_isCell_11 : decode cX6_isCell 11 = .ok (.imul, 1) := by decide +kernel
theorem dX6_isCell_12 : decode cX6_isCell 12 = .ok (.iconst 1, 1) := by decide +kernel
theorem dX6_isCell_13 : decode cX6_isCell 13 = .ok (.isub, 1) := by decide +kernel
theorem dX6_isCell_14 : decode cX6_isCell 14 = .ok (.i2l, 1) := by decide +kernel
theorem dX6_isCell_15 : decode cX6_isCell 15 = .ok (.invokestatic 78, 3) := by decide +kernel
theorem dX6_isCell_18 : decode cX6_isCell 18 = .ok (.ireturn, 1) := by decide +kernel
theorem dX6_cellsOf_0 : decode cX6_cellsOf 0 = .ok (.iload_n 1, 1) := by decide +kernel
theorem dX6_cellsOf_1 : decode cX6_cellsOf 1 = .ok (.aload_n 0, 1) := by decide +kernel
theorem dX6_cellsOf_2 : decode cX6_cellsOf 2 = .ok (.getfield 141, 3) := by decide +kernel
theorem dX6_cellsOf_5 : decode cX6_cellsOf 5 = .ok (.if_icmp .ge 10, 3) := by decide +kernel
theorem dX6_cellsOf_8 : decode cX6_cellsOf 8 = .ok (.aload_n 0, 1) := by decide +kernel
theorem dX6_cellsOf_9 : decode cX6_cellsOf 9 = .ok (.getfield 144, 3) := by decide +kernel
theorem dX6_cellsOf_12 : decode cX6_cellsOf 12 = .ok (.goto 7, 3) := by decide +kernel
theorem dX6_cellsOf_15 : decode cX6_cellsOf 15 = .ok (.aload_n 0, 1) := by decide +kernel
theorem dX6_cellsOf_16 : decode cX6_cellsOf 16 = .ok (.getfield 141, 3) := by decide +kernel
theorem dX6_cellsOf_19 : decode cX6_cellsOf 19 = .ok (.ireturn, 1) := by decide +kernel
theorem dX6_layRuns_0 : decode cX6_layRuns 0 = .ok (.aload_n 0, 1) := by decide +kernel
theorem dX6_layRuns_1 : decode cX6_layRuns 1 = .ok (.iconst 0, 1) := by decide +kernel
theorem dX6_layRuns_2 : decode cX6_layRuns 2 = .ok (.putfield 157, 3) := by decide +kernel
theorem dX6_layRuns_5 : decode cX6_layRuns 5 = .ok (.aload_n 0, 1) := by decide +kernel
theorem dX6_layRuns_6 : decode cX6_layRuns 6 = .ok (.iconst 0, 1) := by decide +kernel
theorem dX6_layRuns_7 : decode cX6_layRuns 7 = .ok (.putfield 160, 3) := by decide +kernel
theorem dX6_layRuns_10 : decode cX6_layRuns 10 = .ok (.aload_n 0, 1) := by decide +kernel
theorem dX6_layRuns_11 : decode cX6_layRuns 11 = .ok (.iconst 0, 1) := by decide +kernel
theorem dX6_layRuns_12 : decode cX6_layRuns 12 = .ok (.putfield 163, 3) := by decide +kernel
theorem dX6_layRuns_15 : decode cX6_layRuns 15 = .ok (.aload_n 0, 1) := by decide +kernel
theorem dX6_layRuns_16 : decode cX6_layRuns 16 = .ok (.iconst 0, 1) := by decide +kernel
theorem dX6_layRuns_17 : decode cX6_layRuns 17 = .ok (.putfield 166, 3) := by decide +kernel
theorem dX6_layRuns_20 : decode cX6_layRuns 20 = .ok (.iconst 0, 1) := by decide +kernel
theorem dX6_layRuns_21 : decode cX6_layRuns 21 = .ok (.istore_n 2, 1) := by decide +kernel
theorem dX6_layRuns_22 : decode cX6_layRuns 22 = .ok (.iconst 0, 1) := by decide +kernel
theorem dX6_layRuns_23 : decode cX6_layRuns 23 = .ok (.istore_n 3, 1) := by decide +kernel
theorem dX6_layRuns_24 : decode cX6_layRuns 24 = .ok (.iload_n 3, 1) := by decide +kernel
theorem dX6_layRuns_25 : decode cX6_layRuns 25 = .ok (.iconst 5, 1) := by decide +kernel
theorem dX6_layRuns_26 : decode cX6_layRuns 26 = .ok (.if_icmp .ge 100, 3) := by decide +kernel
theorem dX6_layRuns_29 : decode cX6_layRuns 29 = .ok (.iload_n 1, 1) := by decide +kernel
theorem dX6_layRuns_30 : decode cX6_layRuns 30 = .ok (.iload_n 3, 1) := by decide +kernel
theorem dX6_layRuns_31 : decode cX6_layRuns 31 = .ok (.ishr, 1) := by decide +kernel
theorem dX6_layRuns_32 : decode cX6_layRuns 32 = .ok (.iconst 1, 1) := by decide +kernel
theorem dX6_layRuns_33 : decode cX6_layRuns 33 = .ok (.iand, 1) := by decide +kernel
theorem dX6_layRuns_34 : decode cX6_layRuns 34 = .ok (.iconst 1, 1) := by decide +kernel
theorem dX6_layRuns_35 : decode cX6_layRuns 35 = .ok (.if_icmp .ne 9, 3) := by decide +kernel
theorem dX6_layRuns_38 : decode cX6_layRuns 38 = .ok (.iinc 2 1, 3) := by decide +kernel
theorem dX6_layRuns_41 : decode cX6_layRuns 41 = .ok (.goto 79, 3) := by decide +kernel
theorem dX6_layRuns_44 : decode cX6_layRuns 44 = .ok (.iload_n 2, 1) := by decide +kernel
theorem dX6_layRuns_45 : decode cX6_layRuns 45 = .ok (.ifCond .le 73, 3) := by decide +kernel
theorem dX6_layRuns_48 : decode cX6_layRuns 48 = .ok (.aload_n 0, 1) := by decide +kernel
theorem dX6_layRuns_49 : decode cX6_layRuns 49 = .ok (.dup, 1) := by decide +kernel
theorem dX6_layRuns_50 : decode cX6_layRuns 50 = .ok (.getfield 157, 3) := by decide +kernel
theorem dX6_layRuns_53 : decode cX6_layRuns 53 = .ok (.iconst 1, 1) := by decide +kernel
theorem dX6_layRuns_54 : decode cX6_layRuns 54 = .ok (.iadd, 1) := by decide +kernel
theorem dX6_layRuns_55 : decode cX6_layRuns 55 = .ok (.putfield 157, 3) := by decide +kernel
theorem dX6_layRuns_58 : decode cX6_layRuns 58 = .ok (.aload_n 0, 1) := by decide +kernel
theorem dX6_layRuns_59 : decode cX6_layRuns 59 = .ok (.aload_n 0, 1) := by decide +kernel
theorem dX6_layRuns_60 : decode cX6_layRuns 60 = .ok (.getfield 157, 3) := by decide +kernel
theorem dX6_layRuns_63 : decode cX6_layRuns 63 = .ok (.iconst 1, 1) := by decide +kernel
theorem dX6_layRuns_64 : decode cX6_layRuns 64 = .ok (.if_icmp .ne 7, 3) := by decide +kernel
theorem dX6_layRuns_67 : decode cX6_layRuns 67 = .ok (.iload_n 2, 1) := by decide +kernel
theorem dX6_layRuns_68 : decode cX6_layRuns 68 = .ok (.goto 7, 3) := by decide +kernel
theorem dX6_layRuns_71 : decode cX6_layRuns 71 = .ok (.aload_n 0, 1) := by decide +kernel
theorem dX6_layRuns_72 : decode cX6_layRuns 72 = .ok (.getfield 163, 3) := by decide +kernel
theorem dX6_layRuns_75 : decode cX6_layRuns 75 = .ok (.putfield 163, 3) := by decide +kernel
theorem dX6_layRuns_78 : decode cX6_layRuns 78 = .ok (.aload_n 0, 1) := by decide +kernel
theorem dX6_layRuns_79 : decode cX6_layRuns 79 = .ok (.aload_n 0, 1) := by decide +kernel
theorem dX6_layRuns_80 : decode cX6_layRuns 80 = .ok (.getfield 157, 3) := by decide +kernel
theorem dX6_layRuns_83 : decode cX6_layRuns 83 = .ok (.iconst 2, 1) := by decide +kernel
theorem dX6_layRuns_84 : decode cX6_layRuns 84 = .ok (.if_icmp .ne 7, 3) := by decide +kernel
theorem dX6_layRuns_87 : decode cX6_layRuns 87 = .ok (.iload_n 2, 1) := by decide +kernel
theorem dX6_layRuns_88 : decode cX6_layRuns 88 = .ok (.goto 7, 3) := by decide +kernel
theorem dX6_layRuns_91 : decode cX6_layRuns 91 = .ok (.aload_n 0, 1) := by decide +kernel
theorem dX6_layRuns_92 : decode cX6_layRuns 92 = .ok (.getfield 166, 3) := by decide +kernel
theorem dX6_layRuns_95 : decode cX6_layRuns 95 = .ok (.putfield 166, 3) := by decide +kernel
theorem dX6_layRuns_98 : decode cX6_layRuns 98 = .ok (.aload_n 0, 1) := by decide +kernel
theorem dX6_layRuns_99 : decode cX6_layRuns 99 = .ok (.iload_n 2, 1) := by decide +kernel
theorem dX6_layRuns_100 : decode cX6_layRuns 100 = .ok (.aload_n 0, 1) := by decide +kernel
theorem dX6_layRuns_101 : decode cX6_layRuns 101 = .ok (.getfield 160, 3) := by decide +kernel
theorem dX6_layRuns_104 : decode cX6_layRuns 104 = .ok (.if_icmp .le 7, 3) := by decide +kernel
theorem dX6_layRuns_107 : decode cX6_layRuns 107 = .ok (.iload_n 2, 1) := by decide +kernel
theorem dX6_layRuns_108 : decode cX6_layRuns 108 = .ok (.goto 7, 3) := by decide +kernel
theorem dX6_layRuns_111 : decode cX6_layRuns 111 = .ok (.aload_n 0, 1) := by decide +kernel
theorem dX6_layRuns_112 : decode cX6_layRuns 112 = .ok (.getfield 160, 3) := by decide +kernel
theorem dX6_layRuns_115 : decode cX6_layRuns 115 = .ok (.putfield 160, 3) := by decide +kernel
theorem dX6_layRuns_118 : decode cX6_layRuns 118 = .ok (.iconst 0, 1) := by decide +kernel
theorem dX6_layRuns_119 : decode cX6_layRuns 119 = .ok (.istore_n 2, 1) := by decide +kernel
theorem dX6_layRuns_120 : decode cX6_layRuns 120 = .ok (.iinc 3 1, 3) := by decide +kernel
theorem dX6_layRuns_123 : decode cX6_layRuns 123 = .ok (.goto (-99), 3) := by decide +kernel
theorem dX6_layRuns_126 : decode cX6_layRuns 126 = .ok (.return_, 1) := by decide +kernel
theorem dX6_isKept_0 : decode cX6_isKept 0 = .ok (.aload_n 0, 1) := by decide +kernel
theorem dX6_isKept_1 : decode cX6_isKept 1 = .ok (.iload 4, 2) := by decide +kernel
theorem dX6_isKept_3 : decode cX6_isKept 3 = .ok (.invokevirtual 169, 3) := by decide +kernel
theorem dX6_isKept_6 : decode cX6_isKept 6 = .ok (.iload_n 1, 1) := by decide +kernel
theorem dX6_isKept_7 : decode cX6_isKept 7 = .ok (.tableswitch 125 1 4 #[29, 97, 111, 51], 29) := by decide +kernel
theorem dX6_isKept_36 : decode cX6_isKept 36 = .ok (.aload_n 0, 1) := by decide +kernel
theorem dX6_isKept_37 : decode cX6_isKept 37 = .ok (.getfield 163, 3) := by decide +kernel
theorem dX6_isKept_40 : decode cX6_isKept 40 = .ok (.iload_n 2, 1) := by decide +kernel
theorem dX6_isKept_41 : decode cX6_isKept 41 = .ok (.if_icmp .ne 15, 3) := by decide +kernel
theorem dX6_isKept_44 : decode cX6_isKept 44 = .ok (.aload_n 0, 1) := by decide +kernel
theorem dX6_isKept_45 : decode cX6_isKept 45 = .ok (.getfield 166, 3) := by decide +kernel
theorem dX6_isKept_48 : decode cX6_isKept 48 = .ok (.iload_n 3, 1) := by decide +kernel
theorem dX6_isKept_49 : decode cX6_isKept 49 = .ok (.if_icmp .ne 7, 3) := by decide +kernel
theorem dX6_isKept_52 : decode cX6_isKept 52 = .ok (.iconst 1, 1) := by decide +kernel
theorem dX6_isKept_53 : decode cX6_isKept 53 = .ok (.goto 4, 3) := by decide +kernel
theorem dX6_isKept_56 : decode cX6_isKept 56 = .ok (.iconst 0, 1) := by decide +kernel
theorem dX6_isKept_57 : decode cX6_isKept 57 = .ok (.ireturn, 1) := by decide +kernel
theorem dX6_isKept_58 : decode cX6_isKept 58 = .ok (.aload_n 0, 1) := by decide +kernel
theorem dX6_isKept_59 : decode cX6_isKept 59 = .ok (.getfield 163, 3) := by decide +kernel
theorem dX6_isKept_62 : decode cX6_isKept 62 = .ok (.iload_n 2, 1) := by decide +kernel
theorem dX6_isKept_63 : decode cX6_isKept 63 = .ok (.if_icmp .ne 11, 3) := by decide +kernel
theorem dX6_isKept_66 : decode cX6_isKept 66 = .ok (.aload_n 0, 1) := by decide +kernel
theorem dX6_isKept_67 : decode cX6_isKept 67 = .ok (.getfield 166, 3) := by decide +kernel
theorem dX6_isKept_70 : decode cX6_isKept 70 = .ok (.iload_n 3, 1) := by decide +kernel
theorem dX6_isKept_71 : decode cX6_isKept 71 = .ok (.if_icmp .eq 27, 3) := by decide +kernel
theorem dX6_isKept_74 : decode cX6_isKept 74 = .ok (.aload_n 0, 1) := by decide +kernel
theorem dX6_isKept_75 : decode cX6_isKept 75 = .ok (.getfield 157, 3) := by decide +kernel
theorem dX6_isKept_78 : decode cX6_isKept 78 = .ok (.iconst 2, 1) := by decide +kernel
theorem dX6_isKept_79 : decode cX6_isKept 79 = .ok (.if_icmp .ne 23, 3) := by decide +kernel
theorem dX6_isKept_82 : decode cX6_isKept 82 = .ok (.aload_n 0, 1) := by decide +kernel
theorem dX6_isKept_83 : decode cX6_isKept 83 = .ok (.getfield 163, 3) := by decide +kernel
theorem dX6_isKept_86 : decode cX6_isKept 86 = .ok (.iload_n 3, 1) := by decide +kernel
theorem dX6_isKept_87 : decode cX6_isKept 87 = .ok (.if_icmp .ne 15, 3) := by decide +kernel
theorem dX6_isKept_90 : decode cX6_isKept 90 = .ok (.aload_n 0, 1) := by decide +kernel
theorem dX6_isKept_91 : decode cX6_isKept 91 = .ok (.getfield 166, 3) := by decide +kernel
theorem dX6_isKept_94 : decode cX6_isKept 94 = .ok (.iload_n 2, 1) := by decide +kernel
theorem dX6_isKept_95 : decode cX6_isKept 95 = .ok (.if_icmp .ne 7, 3) := by decide +kernel
theorem dX6_isKept_98 : decode cX6_isKept 98 = .ok (.iconst 1, 1) := by decide +kernel
theorem dX6_isKept_99 : decode cX6_isKept 99 = .ok (.goto 4, 3) := by decide +kernel
theorem dX6_isKept_102 : decode cX6_isKept 102 = .ok (.iconst 0, 1) := by decide +kernel
theorem dX6_isKept_103 : decode cX6_isKept 103 = .ok (.ireturn, 1) := by decide +kernel
theorem dX6_isKept_104 : decode cX6_isKept 104 = .ok (.aload_n 0, 1) := by decide +kernel
theorem dX6_isKept_105 : decode cX6_isKept 105 = .ok (.getfield 157, 3) := by decide +kernel
theorem dX6_isKept_108 : decode cX6_isKept 108 = .ok (.iload_n 2, 1) := by decide +kernel
theorem dX6_isKept_109 : decode cX6_isKept 109 = .ok (.if_icmp .ne 7, 3) := by decide +kernel
theorem dX6_isKept_112 : decode cX6_isKept 112 = .ok (.iconst 1, 1) := by decide +kernel
theorem dX6_isKept_113 : decode cX6_isKept 113 = .ok (.goto 4, 3) := by decide +kernel
theorem dX6_isKept_116 : decode cX6_isKept 116 = .ok (.iconst 0, 1) := by decide +kernel
theorem dX6_isKept_117 : decode cX6_isKept 117 = .ok (.ireturn, 1) := by decide +kernel
theorem dX6_isKept_118 : decode cX6_isKept 118 = .ok (.aload_n 0, 1) := by decide +kernel
theorem dX6_isKept_119 : decode cX6_isKept 119 = .ok (.getfield 160, 3) := by decide +kernel
theorem dX6_isKept_122 : decode cX6_isKept 122 = .ok (.iload_n 2, 1) := by decide +kernel
theorem dX6_isKept_123 : decode cX6_isKept 123 = .ok (.if_icmp .ne 7, 3) := by decide +kernel
theorem dX6_isKept_126 : decode cX6_isKept 126 = .ok (.iconst 1, 1) := by decide +kernel
theorem dX6_isKept_127 : decode cX6_isKept 127 = .ok (.goto 4, 3) := by decide +kernel
theorem dX6_isKept_130 : decode cX6_isKept 130 = .ok (.iconst 0, 1) := by decide +kernel
theorem dX6_isKept_131 : decode cX6_isKept 131 = .ok (.ireturn, 1) := by decide +kernel
theorem dX6_isKept_132 : decode cX6_isKept 132 = .ok (.iload 4, 2) := by decide +kernel
theorem dX6_isKept_134 : decode cX6_isKept 134 = .ok (.invokestatic 173, 3) := by decide +kernel
theorem dX6_isKept_137 : decode cX6_isKept 137 = .ok (.iload_n 2, 1) := by decide +kernel
theorem dX6_isKept_138 : decode cX6_isKept 138 = .ok (.if_icmp .ne 7, 3) := by decide +kernel
theorem dX6_isKept_141 : decode cX6_isKept 141 = .ok (.iconst 1, 1) := by decide +kernel
theorem dX6_isKept_142 : decode cX6_isKept 142 = .ok (.goto 4, 3) := by decide +kernel
theorem dX6_isKept_145 : decode cX6_isKept 145 = .ok (.iconst 0, 1) := by decide +kernel
theorem dX6_isKept_146 : decode cX6_isKept 146 = .ok (.ireturn, 1) := by decide +kernel
theorem dX6_keepsOf_0 : decode cX6_keepsOf 0 = .ok (.aload_n 0, 1) := by decide +kernel
theorem dX6_keepsOf_1 : decode cX6_keepsOf 1 = .ok (.aload_n 0, 1) := by decide +kernel
theorem dX6_keepsOf_2 : decode cX6_keepsOf 2 = .ok (.getfield 22, 3) := by decide +kernel
theorem dX6_keepsOf_5 : decode cX6_keepsOf 5 = .ok (.iload_n 1, 1) := by decide +kernel
theorem dX6_keepsOf_6 : decode cX6_keepsOf 6 = .ok (.iaload, 1) := by decide +kernel
theorem dX6_keepsOf_7 : decode cX6_keepsOf 7 = .ok (.aload_n 0, 1) := by decide +kernel
theorem dX6_keepsOf_8 : decode cX6_keepsOf 8 = .ok (.getfield 25, 3) := by decide +kernel
theorem dX6_keepsOf_11 : decode cX6_keepsOf 11 = .ok (.iload_n 1, 1) := by decide +kernel
theorem dX6_keepsOf_12 : decode cX6_keepsOf 12 = .ok (.iaload, 1) := by decide +kernel
theorem dX6_keepsOf_13 : decode cX6_keepsOf 13 = .ok (.aload_n 0, 1) := by decide +kernel
theorem dX6_keepsOf_14 : decode cX6_keepsOf 14 = .ok (.getfield 28, 3) := by decide +kernel
theorem dX6_keepsOf_17 : decode cX6_keepsOf 17 = .ok (.iload_n 1, 1) := by decide +kernel
theorem dX6_keepsOf_18 : decode cX6_keepsOf 18 = .ok (.iaload, 1) := by decide +kernel
theorem dX6_keepsOf_19 : decode cX6_keepsOf 19 = .ok (.iload_n 2, 1) := by decide +kernel
theorem dX6_keepsOf_20 : decode cX6_keepsOf 20 = .ok (.invokevirtual 176, 3) := by decide +kernel
theorem dX6_keepsOf_23 : decode cX6_keepsOf 23 = .ok (.ifCond .eq 7, 3) := by decide +kernel
theorem dX6_keepsOf_26 : decode cX6_keepsOf 26 = .ok (.iconst 1, 1) := by decide +kernel
theorem dX6_keepsOf_27 : decode cX6_keepsOf 27 = .ok (.goto 4, 3) := by decide +kernel
theorem dX6_keepsOf_30 : decode cX6_keepsOf 30 = .ok (.iconst 0, 1) := by decide +kernel
theorem dX6_keepsOf_31 : decode cX6_keepsOf 31 = .ok (.ireturn, 1) := by decide +kernel
theorem dX6_keeps_0 : decode cX6_keeps 0 = .ok (.aload_n 0, 1) := by decide +kernel
theorem dX6_keeps_1 : decode cX6_keeps 1 = .ok (.iload_n 1, 1) := by decide +kernel
theorem dX6_keeps_2 : decode cX6_keeps 2 = .ok (.invokevirtual 180, 3) := by decide +kernel
theorem dX6_keeps_5 : decode cX6_keeps 5 = .ok (.ifCond .ne 6, 3) := by decide +kernel
theorem dX6_keeps_8 : decode cX6_keeps 8 = .ok (.bipush (-101), 2) := by decide +kernel
theorem dX6_keeps_10 : decode cX6_keeps 10 = .ok (.ireturn, 1) := by decide +kernel
theorem dX6_keeps_11 : decode cX6_keeps 11 = .ok (.iload_n 2, 1) := by decide +kernel
theorem dX6_keeps_12 : decode cX6_keeps 12 = .ok (.i2l, 1) := by decide +kernel
theorem dX6_keeps_13 : decode cX6_keeps 13 = .ok (.lconst 0, 1) := by decide +kernel
theorem dX6_keeps_14 : decode cX6_keeps 14 = .ok (.iconst 1, 1) := by decide +kernel
theorem dX6_keeps_15 : decode cX6_keeps 15 = .ok (.aload_n 0, 1) := by decide +kernel
theorem dX6_keeps_16 : decode cX6_keeps 16 = .ok (.iload_n 1, 1) := by decide +kernel
theorem dX6_keeps_17 : decode cX6_keeps 17 = .ok (.invokevirtual 183, 3) := by decide +kernel
theorem dX6_keeps_20 : decode cX6_keeps 20 = .ok (.ishl, 1) := by decide +kernel
theorem dX6_keeps_21 : decode cX6_keeps 21 = .ok (.iconst 1, 1) := by decide +kernel
theorem dX6_keeps_22 : decode cX6_keeps 22 = .ok (.isub, 1) := by decide +kernel
theorem dX6_keeps_23 : decode cX6_keeps 23 = .ok (.i2l, 1) := by decide +kernel
theorem dX6_keeps_24 : decode cX6_keeps 24 = .ok (.invokestatic 78, 3) := by decide +kernel
theorem dX6_keeps_27 : decode cX6_keeps 27 = .ok (.ifCond .eq 12, 3) := by decide +kernel
theorem dX6_keeps_30 : decode cX6_keeps 30 = .ok (.aload_n 0, 1) := by decide +kernel
theorem dX6_keeps_31 : decode cX6_keeps 31 = .ok (.iload_n 1, 1) := by decide +kernel
theorem dX6_keeps_32 : decode cX6_keeps 32 = .ok (.iload_n 2, 1) := by decide +kernel
theorem dX6_keeps_33 : decode cX6_keeps 33 = .ok (.invokevirtual 186, 3) := by decide +kernel
theorem dX6_keeps_36 : decode cX6_keeps 36 = .ok (.goto 5, 3) := by decide +kernel
theorem dX6_keeps_39 : decode cX6_keeps 39 = .ok (.bipush (-102), 2) := by decide +kernel
theorem dX6_keeps_41 : decode cX6_keeps 41 = .ok (.ireturn, 1) := by decide +kernel
theorem dX6_layTable_0 : decode cX6_layTable 0 = .ok (.iconst 0, 1) := by decide +kernel
theorem dX6_layTable_1 : decode cX6_layTable 1 = .ok (.istore_n 1, 1) := by decide +kernel
theorem dX6_layTable_2 : decode cX6_layTable 2 = .ok (.iload_n 1, 1) := by decide +kernel
theorem dX6_layTable_3 : decode cX6_layTable 3 = .ok (.sipush 128, 3) := by decide +kernel
theorem dX6_layTable_6 : decode cX6_layTable 6 = .ok (.if_icmp .ge 54, 3) := by decide +kernel
theorem dX6_layTable_9 : decode cX6_layTable 9 = .ok (.iload_n 1, 1) := by decide +kernel
theorem dX6_layTable_10 : decode cX6_layTable 10 = .ok (.bipush 16, 2) := by decide +kernel
theorem dX6_layTable_12 : decode cX6_layTable 12 = .ok (.idiv, 1) := by decide +kernel
theorem dX6_layTable_13 : decode cX6_layTable 13 = .ok (.istore_n 2, 1) := by decide +kernel
theorem dX6_layTable_14 : decode cX6_layTable 14 = .ok (.aload_n 0, 1) := by decide +kernel
theorem dX6_layTable_15 : decode cX6_layTable 15 = .ok (.getfield 41, 3) := by decide +kernel
theorem dX6_layTable_18 : decode cX6_layTable 18 = .ok (.iload_n 1, 1) := by decide +kernel
theorem dX6_layTable_19 : decode cX6_layTable 19 = .ok (.iload_n 2, 1) := by decide +kernel
theorem dX6_layTable_20 : decode cX6_layTable 20 = .ok (.aload_n 0, 1) := by decide +kernel
theorem dX6_layTable_21 : decode cX6_layTable 21 = .ok (.getfield 189, 3) := by decide +kernel
theorem dX6_layTable_24 : decode cX6_layTable 24 = .ok (.if_icmp .eq 24, 3) := by decide +kernel
theorem dX6_layTable_27 : decode cX6_layTable 27 = .ok (.aload_n 0, 1) := by decide +kernel
theorem dX6_layTable_28 : decode cX6_layTable 28 = .ok (.iload_n 2, 1) := by decide +kernel
theorem dX6_layTable_29 : decode cX6_layTable 29 = .ok (.invokevirtual 180, 3) := by decide +kernel
theorem dX6_layTable_32 : decode cX6_layTable 32 = .ok (.ifCond .eq 20, 3) := by decide +kernel
theorem dX6_layTable_35 : decode cX6_layTable 35 = .ok (.aload_n 0, 1) := by decide +kernel
theorem dX6_layTable_36 : decode cX6_layTable 36 = .ok (.iload_n 2, 1) := by decide +kernel
theorem dX6_layTable_37 : decode cX6_layTable 37 = .ok (.iload_n 1, 1) := by decide +kernel
theorem dX6_layTable_38 : decode cX6_layTable 38 = .ok (.bipush 16, 2) := by decide +kernel
theorem dX6_layTable_40 : decode cX6_layTable 40 = .ok (.irem, 1) := by decide +kernel
theorem dX6_layTable_41 : decode cX6_layTable 41 = .ok (.invokevirtual 186, 3) := by decide +kernel
theorem dX6_layTable_44 : decode cX6_layTable 44 = .ok (.iconst 1, 1) := by decide +kernel
theorem dX6_layTable_45 : decode cX6_layTable 45 = .ok (.if_icmp .ne 7, 3) := by decide +kernel
theorem dX6_layTable_48 : decode cX6_layTable 48 = .ok (.iconst 1, 1) := by decide +kernel
theorem dX6_layTable_49 : decode cX6_layTable 49 = .ok (.goto 4, 3) := by decide +kernel
theorem dX6_layTable_52 : decode cX6_layTable 52 = .ok (.iconst 0, 1) := by decide +kernel
theorem dX6_layTable_53 : decode cX6_layTable 53 = .ok (.iastore, 1) := by decide +kernel
theorem dX6_layTable_54 : decode cX6_layTable 54 = .ok (.iinc 1 1, 3) := by decide +kernel
theorem dX6_layTable_57 : decode cX6_layTable 57 = .ok (.goto (-55), 3) := by decide +kernel
theorem dX6_layTable_60 : decode cX6_layTable 60 = .ok (.return_, 1) := by decide +kernel
theorem dX6_rowOf_0 : decode cX6_rowOf 0 = .ok (.iload_n 1, 1) := by decide +kernel
theorem dX6_rowOf_1 : decode cX6_rowOf 1 = .ok (.aload_n 0, 1) := by decide +kernel
theorem dX6_rowOf_2 : decode cX6_rowOf 2 = .ok (.getfield 144, 3) := by decide +kernel
theorem dX6_rowOf_5 : decode cX6_rowOf 5 = .ok (.iload_n 2, 1) := by decide +kernel
theorem dX6_rowOf_6 : decode cX6_rowOf 6 = .ok (.imul, 1) := by decide +kernel
theorem dX6_rowOf_7 : decode cX6_rowOf 7 = .ok (.ishr, 1) := by decide +kernel
theorem dX6_rowOf_8 : decode cX6_rowOf 8 = .ok (.iconst 1, 1) := by decide +kernel
theorem dX6_rowOf_9 : decode cX6_rowOf 9 = .ok (.aload_n 0, 1) := by decide +kernel
theorem dX6_rowOf_10 : decode cX6_rowOf 10 = .ok (.getfield 144, 3) := by decide +kernel
theorem dX6_rowOf_13 : decode cX6_rowOf 13 = .ok (.ishl, 1) := by decide +kernel
theorem dX6_rowOf_14 : decode cX6_rowOf 14 = .ok (.iconst 1, 1) := by decide +kernel
theorem dX6_rowOf_15 : decode cX6_rowOf 15 = .ok (.isub, 1) := by decide +kernel
theorem dX6_rowOf_16 : decode cX6_rowOf 16 = .ok (.iand, 1) := by decide +kernel
theorem dX6_rowOf_17 : decode cX6_rowOf 17 = .ok (.ireturn, 1) := by decide +kernel
theorem dX6_columnOf_0 : decode cX6_columnOf 0 = .ok (.iconst 0, 1) := by decide +kernel
theorem dX6_columnOf_1 : decode cX6_columnOf 1 = .ok (.istore_n 3, 1) := by decide +kernel
theorem dX6_columnOf_2 : decode cX6_columnOf 2 = .ok (.iconst 0, 1) := by decide +kernel
theorem dX6_columnOf_3 : decode cX6_columnOf 3 = .ok (.istore 4, 2) := by decide +kernel
theorem dX6_columnOf_5 : decode cX6_columnOf 5 = .ok (.iload 4, 2) := by decide +kernel
theorem dX6_columnOf_7 : decode cX6_columnOf 7 = .ok (.aload_n 0, 1) := by decide +kernel
theorem dX6_columnOf_8 : decode cX6_columnOf 8 = .ok (.getfield 141, 3) := by decide +kernel
theorem dX6_columnOf_11 : decode cX6_columnOf 11 = .ok (.if_icmp .ge 28, 3) := by decide +kernel
theorem dX6_columnOf_14 : decode cX6_columnOf 14 = .ok (.iload_n 3, 1) := by decide +kernel
theorem dX6_columnOf_15 : decode cX6_columnOf 15 = .ok (.iload_n 1, 1) := by decide +kernel
theorem dX6_columnOf_16 : decode cX6_columnOf 16 = .ok (.aload_n 0, 1) := by decide +kernel
theorem dX6_columnOf_17 : decode cX6_columnOf 17 = .ok (.getfield 144, 3) := by decide +kernel
theorem dX6_columnOf_20 : decode cX6_columnOf 20 = .ok (.iload 4, 2) := by decide +kernel
theorem dX6_columnOf_22 : decode cX6_columnOf 22 = .ok (.imul, 1) := by decide +kernel
theorem dX6_columnOf_23 : decode cX6_columnOf 23 = .ok (.iload_n 2, 1) := by decide +kernel
theorem dX6_columnOf_24 : decode cX6_columnOf 24 = .ok (.iadd, 1) := by decide +kernel
theorem dX6_columnOf_25 : decode cX6_columnOf 25 = .ok (.ishr, 1) := by decide +kernel
theorem dX6_columnOf_26 : decode cX6_columnOf 26 = .ok (.iconst 1, 1) := by decide +kernel
theorem dX6_columnOf_27 : decode cX6_columnOf 27 = .ok (.iand, 1) := by decide +kernel
theorem dX6_columnOf_28 : decode cX6_columnOf 28 = .ok (.iload 4, 2) := by decide +kernel
theorem dX6_columnOf_30 : decode cX6_columnOf 30 = .ok (.ishl, 1) := by decide +kernel
theorem dX6_columnOf_31 : decode cX6_columnOf 31 = .ok (.ior, 1) := by decide +kernel
theorem dX6_columnOf_32 : decode cX6_columnOf 32 = .ok (.istore_n 3, 1) := by decide +kernel
theorem dX6_columnOf_33 : decode cX6_columnOf 33 = .ok (.iinc 4 1, 3) := by decide +kernel
theorem dX6_columnOf_36 : decode cX6_columnOf 36 = .ok (.goto (-31), 3) := by decide +kernel
theorem dX6_columnOf_39 : decode cX6_columnOf 39 = .ok (.iload_n 3, 1) := by decide +kernel
theorem dX6_columnOf_40 : decode cX6_columnOf 40 = .ok (.ireturn, 1) := by decide +kernel
theorem dX6_isFitting_0 : decode cX6_isFitting 0 = .ok (.iload_n 1, 1) := by decide +kernel
theorem dX6_isFitting_1 : decode cX6_isFitting 1 = .ok (.iload_n 2, 1) := by decide +kernel
theorem dX6_isFitting_2 : decode cX6_isFitting 2 = .ok (.iand, 1) := by decide +kernel
theorem dX6_isFitting_3 : decode cX6_isFitting 3 = .ok (.iload_n 2, 1) := by decide +kernel
theorem dX6_isFitting_4 : decode cX6_isFitting 4 = .ok (.if_icmp .ne 9, 3) := by decide +kernel
theorem dX6_isFitting_7 : decode cX6_isFitting 7 = .ok (.iload_n 1, 1) := by decide +kernel
theorem dX6_isFitting_8 : decode cX6_isFitting 8 = .ok (.iload_n 3, 1) := by decide +kernel
theorem dX6_isFitting_9 : decode cX6_isFitting 9 = .ok (.iand, 1) := by decide +kernel
theorem dX6_isFitting_10 : decode cX6_isFitting 10 = .ok (.ifCond .eq 5, 3) := by decide +kernel
theorem dX6_isFitting_13 : decode cX6_isFitting 13 = .ok (.iconst 0, 1) := by decide +kernel
theorem dX6_isFitting_14 : decode cX6_isFitting 14 = .ok (.ireturn, 1) := by decide +kernel
theorem dX6_isFitting_15 : decode cX6_isFitting 15 = .ok (.iconst 0, 1) := by decide +kernel
theorem dX6_isFitting_16 : decode cX6_isFitting 16 = .ok (.istore 4, 2) := by decide +kernel
theorem dX6_isFitting_18 : decode cX6_isFitting 18 = .ok (.iload 4, 2) := by decide +kernel
theorem dX6_isFitting_20 : decode cX6_isFitting 20 = .ok (.aload_n 0, 1) := by decide +kernel
theorem dX6_isFitting_21 : decode cX6_isFitting 21 = .ok (.getfield 141, 3) := by decide +kernel
theorem dX6_isFitting_24 : decode cX6_isFitting 24 = .ok (.if_icmp .ge 32, 3) := by decide +kernel
theorem dX6_isFitting_27 : decode cX6_isFitting 27 = .ok (.aload_n 0, 1) := by decide +kernel
theorem dX6_isFitting_28 : decode cX6_isFitting 28 = .ok (.getfield 41, 3) := by decide +kernel
theorem dX6_isFitting_31 : decode cX6_isFitting 31 = .ok (.bipush 16, 2) := by decide +kernel
theorem dX6_isFitting_33 : decode cX6_isFitting 33 = .ok (.iload 4, 2) := by decide +kernel
theorem dX6_isFitting_35 : decode cX6_isFitting 35 = .ok (.imul, 1) := by decide +kernel
theorem dX6_isFitting_36 : decode cX6_isFitting 36 = .ok (.aload_n 0, 1) := by decide +kernel
theorem dX6_isFitting_37 : decode cX6_isFitting 37 = .ok (.iload_n 1, 1) := by decide +kernel
theorem dX6_isFitting_38 : decode cX6_isFitting 38 = .ok (.iload 4, 2) := by decide +kernel
theorem dX6_isFitting_40 : decode cX6_isFitting 40 = .ok (.invokevirtual 192, 3) := by decide +kernel
theorem dX6_isFitting_43 : decode cX6_isFitting 43 = .ok (.iadd, 1) := by decide +kernel
theorem dX6_isFitting_44 : decode cX6_isFitting 44 = .ok (.iaload, 1) := by decide +kernel
theorem dX6_isFitting_45 : decode cX6_isFitting 45 = .ok (.ifCond .ne 5, 3) := by decide +kernel
theorem dX6_isFitting_48 : decode cX6_isFitting 48 = .ok (.iconst 0, 1) := by decide +kernel
theorem dX6_isFitting_49 : decode cX6_isFitting 49 = .ok (.ireturn, 1) := by decide +kernel
theorem dX6_isFitting_50 : decode cX6_isFitting 50 = .ok (.iinc 4 1, 3) := by decide +kernel
theorem dX6_isFitting_53 : decode cX6_isFitting 53 = .ok (.goto (-35), 3) := by decide +kernel
theorem dX6_isFitting_56 : decode cX6_isFitting 56 = .ok (.iconst 0, 1) := by decide +kernel
theorem dX6_isFitting_57 : decode cX6_isFitting 57 = .ok (.istore 4, 2) := by decide +kernel
theorem dX6_isFitting_59 : decode cX6_isFitting 59 = .ok (.iload 4, 2) := by decide +kernel
theorem dX6_isFitting_61 : decode cX6_isFitting 61 = .ok (.aload_n 0, 1) := by decide +kernel
theorem dX6_isFitting_62 : decode cX6_isFitting 62 = .ok (.getfield 144, 3) := by decide +kernel
theorem dX6_isFitting_65 : decode cX6_isFitting 65 = .ok (.if_icmp .ge 37, 3) := by decide +kernel
theorem dX6_isFitting_68 : decode cX6_isFitting 68 = .ok (.aload_n 0, 1) := by decide +kernel
theorem dX6_isFitting_69 : decode cX6_isFitting 69 = .ok (.getfield 41, 3) := by decide +kernel
theorem dX6_isFitting_72 : decode cX6_isFitting 72 = .ok (.bipush 16, 2) := by decide +kernel
theorem dX6_isFitting_74 : decode cX6_isFitting 74 = .ok (.aload_n 0, 1) := by decide +kernel
theorem dX6_isFitting_75 : decode cX6_isFitting 75 = .ok (.getfield 141, 3) := by decide +kernel
theorem dX6_isFitting_78 : decode cX6_isFitting 78 = .ok (.iload 4, 2) := by decide +kernel
theorem dX6_isFitting_80 : decode cX6_isFitting 80 = .ok (.iadd, 1) := by decide +kernel
theorem dX6_isFitting_81 : decode cX6_isFitting 81 = .ok (.imul, 1) := by decide +kernel
theorem dX6_isFitting_82 : decode cX6_isFitting 82 = .ok (.aload_n 0, 1) := by decide +kernel
theorem dX6_isFitting_83 : decode cX6_isFitting 83 = .ok (.iload_n 1, 1) := by decide +kernel
theorem dX6_isFitting_84 : decode cX6_isFitting 84 = .ok (.iload 4, 2) := by decide +kernel
theorem dX6_isFitting_86 : decode cX6_isFitting 86 = .ok (.invokevirtual 195, 3) := by decide +kernel
theorem dX6_isFitting_89 : decode cX6_isFitting 89 = .ok (.iadd, 1) := by decide +kernel
theorem dX6_isFitting_90 : decode cX6_isFitting 90 = .ok (.iaload, 1) := by decide +kernel
theorem dX6_isFitting_91 : decode cX6_isFitting 91 = .ok (.ifCond .ne 5, 3) := by decide +kernel
theorem dX6_isFitting_94 : decode cX6_isFitting 94 = .ok (.iconst 0, 1) := by decide +kernel
theorem dX6_isFitting_95 : decode cX6_isFitting 95 = .ok (.ireturn, 1) := by decide +kernel
theorem dX6_isFitting_96 : decode cX6_isFitting 96 = .ok (.iinc 4 1, 3) := by decide +kernel
theorem dX6_isFitting_99 : decode cX6_isFitting 99 = .ok (.goto (-40), 3) := by decide +kernel
theorem dX6_isFitting_102 : decode cX6_isFitting 102 = .ok (.iconst 1, 1) := by decide +kernel
theorem dX6_isFitting_103 : decode cX6_isFitting 103 = .ok (.ireturn, 1) := by decide +kernel
theorem dX6_marked_0 : decode cX6_marked 0 = .ok (.iconst 0, 1) := by decide +kernel
theorem dX6_marked_1 : decode cX6_marked 1 = .ok (.istore_n 2, 1) := by decide +kernel
theorem dX6_marked_2 : decode cX6_marked 2 = .ok (.iconst 0, 1) := by decide +kernel
theorem dX6_marked_3 : decode cX6_marked 3 = .ok (.istore_n 3, 1) := by decide +kernel
theorem dX6_marked_4 : decode cX6_marked 4 = .ok (.iload_n 3, 1) := by decide +kernel
theorem dX6_marked_5 : decode cX6_marked 5 = .ok (.aload_n 0, 1) := by decide +kernel
theorem dX6_marked_6 : decode cX6_marked 6 = .ok (.getfield 141, 3) := by decide +kernel
theorem dX6_marked_9 : decode cX6_marked 9 = .ok (.aload_n 0, 1) := by decide +kernel
theorem dX6_marked_10 : decode cX6_marked 10 = .ok (.getfield 144, 3) := by decide +kernel
theorem dX6_marked_13 : decode cX6_marked 13 = .ok (.imul, 1) := by decide +kernel
theorem dX6_marked_14 : decode cX6_marked 14 = .ok (.if_icmp .ge 29, 3) := by decide +kernel
theorem dX6_marked_17 : decode cX6_marked 17 = .ok (.iload_n 2, 1) := by decide +kernel
theorem dX6_marked_18 : decode cX6_marked 18 = .ok (.aload_n 0, 1) := by decide +kernel
theorem dX6_marked_19 : decode cX6_marked 19 = .ok (.getfield 31, 3) := by decide +kernel
theorem dX6_marked_22 : decode cX6_marked 22 = .ok (.iload_n 3, 1) := by decide +kernel
theorem dX6_marked_23 : decode cX6_marked 23 = .ok (.iaload, 1) := by decide +kernel
theorem dX6_marked_24 : decode cX6_marked 24 = .ok (.iload_n 1, 1) := by decide +kernel
theorem dX6_marked_25 : decode cX6_marked 25 = .ok (.if_icmp .ne 9, 3) := by decide +kernel
theorem dX6_marked_28 : decode cX6_marked 28 = .ok (.iconst 1, 1) := by decide +kernel
theorem dX6_marked_29 : decode cX6_marked 29 = .ok (.iload_n 3, 1) := by decide +kernel
theorem dX6_marked_30 : decode cX6_marked 30 = .ok (.ishl, 1) := by decide +kernel
theorem dX6_marked_31 : decode cX6_marked 31 = .ok (.goto 4, 3) := by decide +kernel
theorem dX6_marked_34 : decode cX6_marked 34 = .ok (.iconst 0, 1) := by decide +kernel
theorem dX6_marked_35 : decode cX6_marked 35 = .ok (.ior, 1) := by decide +kernel
theorem dX6_marked_36 : decode cX6_marked 36 = .ok (.istore_n 2, 1) := by decide +kernel
theorem dX6_marked_37 : decode cX6_marked 37 = .ok (.iinc 3 1, 3) := by decide +kernel
theorem dX6_marked_40 : decode cX6_marked 40 = .ok (.goto (-36), 3) := by decide +kernel
theorem dX6_marked_43 : decode cX6_marked 43 = .ok (.iload_n 2, 1) := by decide +kernel
theorem dX6_marked_44 : decode cX6_marked 44 = .ok (.ireturn, 1) := by decide +kernel
theorem dX6_layFit_0 : decode cX6_layFit 0 = .ok (.aload_n 0, 1) := by decide +kernel
theorem dX6_layFit_1 : decode cX6_layFit 1 = .ok (.invokevirtual 198, 3) := by decide +kernel
theorem dX6_layFit_4 : decode cX6_layFit 4 = .ok (.iconst 0, 1) := by decide +kernel
theorem dX6_layFit_5 : decode cX6_layFit 5 = .ok (.istore_n 1, 1) := by decide +kernel
theorem dX6_layFit_6 : decode cX6_layFit 6 = .ok (.iload_n 1, 1) := by decide +kernel
theorem dX6_layFit_7 : decode cX6_layFit 7 = .ok (.sipush 1024, 3) := by decide +kernel
theorem dX6_layFit_10 : decode cX6_layFit 10 = .ok (.if_icmp .ge 16, 3) := by decide +kernel
theorem dX6_layFit_13 : decode cX6_layFit 13 = .ok (.aload_n 0, 1) := by decide +kernel
theorem dX6_layFit_14 : decode cX6_layFit 14 = .ok (.getfield 34, 3) := by decide +kernel
theorem dX6_layFit_17 : decode cX6_layFit 17 = .ok (.iload_n 1, 1) := by decide +kernel
theorem dX6_layFit_18 : decode cX6_layFit 18 = .ok (.lconst 0, 1) := by decide +kernel
theorem dX6_layFit_19 : decode cX6_layFit 19 = .ok (.lastore, 1) := by decide +kernel
theorem dX6_layFit_20 : decode cX6_layFit 20 = .ok (.iinc 1 1, 3) := by decide +kernel
theorem dX6_layFit_23 : decode cX6_layFit 23 = .ok (.goto (-17), 3) := by decide +kernel
theorem dX6_layFit_26 : decode cX6_layFit 26 = .ok (.iconst 0, 1) := by decide +kernel
theorem dX6_layFit_27 : decode cX6_layFit 27 = .ok (.istore_n 1, 1) := by decide +kernel
theorem dX6_layFit_28 : decode cX6_layFit 28 = .ok (.iload_n 1, 1) := by decide +kernel
theorem dX6_layFit_29 : decode cX6_layFit 29 = .ok (.bipush 16, 2) := by decide +kernel
theorem dX6_layFit_31 : decode cX6_layFit 31 = .ok (.if_icmp .ge 16, 3) := by decide +kernel
theorem dX6_layFit_34 : decode cX6_layFit 34 = .ok (.aload_n 0, 1) := by decide +kernel
theorem dX6_layFit_35 : decode cX6_layFit 35 = .ok (.getfield 38, 3) := by decide +kernel
theorem dX6_layFit_38 : decode cX6_layFit 38 = .ok (.iload_n 1, 1) := by decide +kernel
theorem dX6_layFit_39 : decode cX6_layFit 39 = .ok (.iconst 0, 1) := by decide +kernel
theorem dX6_layFit_40 : decode cX6_layFit 40 = .ok (.iastore, 1) := by decide +kernel
theorem dX6_layFit_41 : decode cX6_layFit 41 = .ok (.iinc 1 1, 3) := by decide +kernel
theorem dX6_layFit_44 : decode cX6_layFit 44 = .ok (.goto (-16), 3) := by decide +kernel
theorem dX6_layFit_47 : decode cX6_layFit 47 = .ok (.aload_n 0, 1) := by decide +kernel
theorem dX6_layFit_48 : decode cX6_layFit 48 = .ok (.iconst 0, 1) := by decide +kernel
theorem dX6_layFit_49 : decode cX6_layFit 49 = .ok (.putfield 201, 3) := by decide +kernel
theorem dX6_layFit_52 : decode cX6_layFit 52 = .ok (.aload_n 0, 1) := by decide +kernel
theorem dX6_layFit_53 : decode cX6_layFit 53 = .ok (.iconst 1, 1) := by decide +kernel
theorem dX6_layFit_54 : decode cX6_layFit 54 = .ok (.invokevirtual 204, 3) := by decide +kernel
theorem dX6_layFit_57 : decode cX6_layFit 57 = .ok (.istore_n 1, 1) := by decide +kernel
theorem dX6_layFit_58 : decode cX6_layFit 58 = .ok (.aload_n 0, 1) := by decide +kernel
theorem dX6_layFit_59 : decode cX6_layFit 59 = .ok (.iconst 2, 1) := by decide +kernel
theorem dX6_layFit_60 : decode cX6_layFit 60 = .ok (.invokevirtual 204, 3) := by decide +kernel
theorem dX6_layFit_63 : decode cX6_layFit 63 = .ok (.istore_n 2, 1) := by decide +kernel
theorem dX6_layFit_64 : decode cX6_layFit 64 = .ok (.iconst 0, 1) := by decide +kernel
theorem dX6_layFit_65 : decode cX6_layFit 65 = .ok (.istore_n 3, 1) := by decide +kernel
theorem dX6_layFit_66 : decode cX6_layFit 66 = .ok (.iload_n 3, 1) := by decide +kernel
theorem dX6_layFit_67 : decode cX6_layFit 67 = .ok (.iconst 1, 1) := by decide +kernel
theorem dX6_layFit_68 : decode cX6_layFit 68 = .ok (.aload_n 0, 1) := by decide +kernel
theorem dX6_layFit_69 : decode cX6_layFit 69 = .ok (.getfield 141, 3) := by decide +kernel
theorem dX6_layFit_72 : decode cX6_layFit 72 = .ok (.aload_n 0, 1) := by decide +kernel
theorem dX6_layFit_73 : decode cX6_layFit 73 = .ok (.getfield 144, 3) := by decide +kernel
theorem dX6_layFit_76 : decode cX6_layFit 76 = .ok (.imul, 1) := by decide +kernel
theorem dX6_layFit_77 : decode cX6_layFit 77 = .ok (.ishl, 1) := by decide +kernel
theorem dX6_layFit_78 : decode cX6_layFit 78 = .ok (.if_icmp .ge 79, 3) := by decide +kernel
theorem dX6_layFit_81 : decode cX6_layFit 81 = .ok (.aload_n 0, 1) := by decide +kernel
theorem dX6_layFit_82 : decode cX6_layFit 82 = .ok (.iload_n 3, 1) := by decide +kernel
theorem dX6_layFit_83 : decode cX6_layFit 83 = .ok (.iload_n 1, 1) := by decide +kernel
theorem dX6_layFit_84 : decode cX6_layFit 84 = .ok (.iload_n 2, 1) := by decide +kernel
theorem dX6_layFit_85 : decode cX6_layFit 85 = .ok (.invokevirtual 207, 3) := by decide +kernel
theorem dX6_layFit_88 : decode cX6_layFit 88 = .ok (.ifCond .eq 63, 3) := by decide +kernel
theorem dX6_layFit_91 : decode cX6_layFit 91 = .ok (.aload_n 0, 1) := by decide +kernel
theorem dX6_layFit_92 : decode cX6_layFit 92 = .ok (.getfield 34, 3) := by decide +kernel
theorem dX6_layFit_95 : decode cX6_layFit 95 = .ok (.iload_n 3, 1) := by decide +kernel
theorem dX6_layFit_96 : decode cX6_layFit 96 = .ok (.bipush 64, 2) := by decide +kernel
theorem dX6_layFit_98 : decode cX6_layFit 98 = .ok (.idiv, 1) := by decide +kernel
theorem dX6_layFit_99 : decode cX6_layFit 99 = .ok (.dup2, 1) := by decide +kernel
theorem dX6_layFit_100 : decode cX6_layFit 100 = .ok (.laload, 1) := by decide +kernel
theorem dX6_layFit_101 : decode cX6_layFit 101 = .ok (.lconst 1, 1) := by decide +kernel
theorem dX6_layFit_102 : decode cX6_layFit 102 = .ok (.iload_n 3, 1) := by decide +kernel
theorem dX6_layFit_103 : decode cX6_layFit 103 = .ok (.bipush 64, 2) := by decide +kernel
theorem dX6_layFit_105 : decode cX6_layFit 105 = .ok (.irem, 1) := by decide +kernel
theorem dX6_layFit_106 : decode cX6_layFit 106 = .ok (.lshl, 1) := by decide +kernel
theorem dX6_layFit_107 : decode cX6_layFit 107 = .ok (.lor, 1) := by decide +kernel
theorem dX6_layFit_108 : decode cX6_layFit 108 = .ok (.lastore, 1) := by decide +kernel
theorem dX6_layFit_109 : decode cX6_layFit 109 = .ok (.aload_n 0, 1) := by decide +kernel
theorem dX6_layFit_110 : decode cX6_layFit 110 = .ok (.dup, 1) := by decide +kernel
theorem dX6_layFit_111 : decode cX6_layFit 111 = .ok (.getfield 201, 3) := by decide +kernel
theorem dX6_layFit_114 : decode cX6_layFit 114 = .ok (.iconst 1, 1) := by decide +kernel
theorem dX6_layFit_115 : decode cX6_layFit 115 = .ok (.iadd, 1) := by decide +kernel
theorem dX6_layFit_116 : decode cX6_layFit 116 = .ok (.putfield 201, 3) := by decide +kernel
theorem dX6_layFit_119 : decode cX6_layFit 119 = .ok (.iconst 0, 1) := by decide +kernel
theorem dX6_layFit_120 : decode cX6_layFit 120 = .ok (.istore 4, 2) := by decide +kernel
theorem dX6_layFit_122 : decode cX6_layFit 122 = .ok (.iload 4, 2) := by decide +kernel
theorem dX6_layFit_124 : decode cX6_layFit 124 = .ok (.bipush 16, 2) := by decide +kernel
theorem dX6_layFit_126 : decode cX6_layFit 126 = .ok (.if_icmp .ge 25, 3) := by decide +kernel
theorem dX6_layFit_129 : decode cX6_layFit 129 = .ok (.aload_n 0, 1) := by decide +kernel
theorem dX6_layFit_130 : decode cX6_layFit 130 = .ok (.getfield 38, 3) := by decide +kernel
theorem dX6_layFit_133 : decode cX6_layFit 133 = .ok (.iload 4, 2) := by decide +kernel
theorem dX6_layFit_135 : decode cX6_layFit 135 = .ok (.dup2, 1) := by decide +kernel
theorem dX6_layFit_136 : decode cX6_layFit 136 = .ok (.iaload, 1) := by decide +kernel
theorem dX6_layFit_137 : decode cX6_layFit 137 = .ok (.iload_n 3, 1) := by decide +kernel
theorem dX6_layFit_138 : decode cX6_layFit 138 = .ok (.iload 4, 2) := by decide +kernel
theorem dX6_layFit_140 : decode cX6_layFit 140 = .ok (.ishr, 1) := by decide +kernel
theorem dX6_layFit_141 : decode cX6_layFit 141 = .ok (.iconst 1, 1) := by decide +kernel
theorem dX6_layFit_142 : decode cX6_layFit 142 = .ok (.iand, 1) := by decide +kernel
theorem dX6_layFit_143 : decode cX6_layFit 143 = .ok (.iadd, 1) := by decide +kernel
theorem dX6_layFit_144 : decode cX6_layFit 144 = .ok (.iastore, 1) := by decide +kernel
theorem dX6_layFit_145 : decode cX6_layFit 145 = .ok (.iinc 4 1, 3) := by decide +kernel
theorem dX6_layFit_148 : decode cX6_layFit 148 = .ok (.goto (-26), 3) := by decide +kernel
theorem dX6_layFit_151 : decode cX6_layFit 151 = .ok (.iinc 3 1, 3) := by decide +kernel
theorem dX6_layFit_154 : decode cX6_layFit 154 = .ok (.goto (-88), 3) := by decide +kernel
theorem dX6_layFit_157 : decode cX6_layFit 157 = .ok (.return_, 1) := by decide +kernel
theorem dX6_freshen_0 : decode cX6_freshen 0 = .ok (.aload_n 0, 1) := by decide +kernel
theorem dX6_freshen_1 : decode cX6_freshen 1 = .ok (.getfield 72, 3) := by decide +kernel
theorem dX6_freshen_4 : decode cX6_freshen 4 = .ok (.ifCond .eq 17, 3) := by decide +kernel
theorem dX6_freshen_7 : decode cX6_freshen 7 = .ok (.aload_n 0, 1) := by decide +kernel
theorem dX6_freshen_8 : decode cX6_freshen 8 = .ok (.iconst (-1), 1) := by decide +kernel
theorem dX6_freshen_9 : decode cX6_freshen 9 = .ok (.putfield 189, 3) := by decide +kernel
theorem dX6_freshen_12 : decode cX6_freshen 12 = .ok (.aload_n 0, 1) := by decide +kernel
theorem dX6_freshen_13 : decode cX6_freshen 13 = .ok (.invokevirtual 211, 3) := by decide +kernel
theorem dX6_freshen_16 : decode cX6_freshen 16 = .ok (.aload_n 0, 1) := by decide +kernel
theorem dX6_freshen_17 : decode cX6_freshen 17 = .ok (.iconst 0, 1) := by decide +kernel
theorem dX6_freshen_18 : decode cX6_freshen 18 = .ok (.putfield 72, 3) := by decide +kernel
theorem dX6_freshen_21 : decode cX6_freshen 21 = .ok (.return_, 1) := by decide +kernel
theorem dX6_isFit_0 : decode cX6_isFit 0 = .ok (.aload_n 0, 1) := by decide +kernel
theorem dX6_isFit_1 : decode cX6_isFit 1 = .ok (.getfield 34, 3) := by decide +kernel
theorem dX6_isFit_4 : decode cX6_isFit 4 = .ok (.iload_n 1, 1) := by decide +kernel
theorem dX6_isFit_5 : decode cX6_isFit 5 = .ok (.bipush 64, 2) := by decide +kernel
theorem dX6_isFit_7 : decode cX6_isFit 7 = .ok (.idiv, 1) := by decide +kernel
theorem dX6_isFit_8 : decode cX6_isFit 8 = .ok (.laload, 1) := by decide +kernel
theorem dX6_isFit_9 : decode cX6_isFit 9 = .ok (.iload_n 1, 1) := by decide +kernel
theorem dX6_isFit_10 : decode cX6_isFit 10 = .ok (.bipush 64, 2) := by decide +kernel
theorem dX6_isFit_12 : decode cX6_isFit 12 = .ok (.irem, 1) := by decide +kernel
theorem dX6_isFit_13 : decode cX6_isFit 13 = .ok (.lshr, 1) := by decide +kernel
theorem dX6_isFit_14 : decode cX6_isFit 14 = .ok (.lconst 1, 1) := by decide +kernel
theorem dX6_isFit_15 : decode cX6_isFit 15 = .ok (.land, 1) := by decide +kernel
theorem dX6_isFit_16 : decode cX6_isFit 16 = .ok (.lconst 1, 1) := by decide +kernel
theorem dX6_isFit_17 : decode cX6_isFit 17 = .ok (.lcmp, 1) := by decide +kernel
theorem dX6_isFit_18 : decode cX6_isFit 18 = .ok (.ifCond .ne 7, 3) := by decide +kernel
theorem dX6_isFit_21 : decode cX6_isFit 21 = .ok (.iconst 1, 1) := by decide +kernel
theorem dX6_isFit_22 : decode cX6_isFit 22 = .ok (.goto 4, 3) := by decide +kernel
theorem dX6_isFit_25 : decode cX6_isFit 25 = .ok (.iconst 0, 1) := by decide +kernel
theorem dX6_isFit_26 : decode cX6_isFit 26 = .ok (.ireturn, 1) := by decide +kernel
theorem dX6_nextFit_0 : decode cX6_nextFit 0 = .ok (.iload_n 1, 1) := by decide +kernel
theorem dX6_nextFit_1 : decode cX6_nextFit 1 = .ok (.iconst 1, 1) := by decide +kernel
theorem dX6_nextFit_2 : decode cX6_nextFit 2 = .ok (.iadd, 1) := by decide +kernel
theorem dX6_nextFit_3 : decode cX6_nextFit 3 = .ok (.istore_n 2, 1) := by decide +kernel
theorem dX6_nextFit_4 : decode cX6_nextFit 4 = .ok (.iload_n 2, 1) := by decide +kernel
theorem dX6_nextFit_5 : decode cX6_nextFit 5 = .ok (.iconst 1, 1) := by decide +kernel
theorem dX6_nextFit_6 : decode cX6_nextFit 6 = .ok (.aload_n 0, 1) := by decide +kernel
theorem dX6_nextFit_7 : decode cX6_nextFit 7 = .ok (.getfield 141, 3) := by decide +kernel
theorem dX6_nextFit_10 : decode cX6_nextFit 10 = .ok (.aload_n 0, 1) := by decide +kernel
theorem dX6_nextFit_11 : decode cX6_nextFit 11 = .ok (.getfield 144, 3) := by decide +kernel
theorem dX6_nextFit_14 : decode cX6_nextFit 14 = .ok (.imul, 1) := by decide +kernel
theorem dX6_nextFit_15 : decode cX6_nextFit 15 = .ok (.ishl, 1) := by decide +kernel
theorem dX6_nextFit_16 : decode cX6_nextFit 16 = .ok (.if_icmp .ge 47, 3) := by decide +kernel
theorem dX6_nextFit_19 : decode cX6_nextFit 19 = .ok (.aload_n 0, 1) := by decide +kernel
theorem dX6_nextFit_20 : decode cX6_nextFit 20 = .ok (.getfield 34, 3) := by decide +kernel
theorem dX6_nextFit_23 : decode cX6_nextFit 23 = .ok (.iload_n 2, 1) := by decide +kernel
theorem dX6_nextFit_24 : decode cX6_nextFit 24 = .ok (.bipush 64, 2) := by decide +kernel
theorem dX6_nextFit_26 : decode cX6_nextFit 26 = .ok (.idiv, 1) := by decide +kernel
theorem dX6_nextFit_27 : decode cX6_nextFit 27 = .ok (.laload, 1) := by decide +kernel
theorem dX6_nextFit_28 : decode cX6_nextFit 28 = .ok (.lconst 0, 1) := by decide +kernel
theorem dX6_nextFit_29 : decode cX6_nextFit 29 = .ok (.lcmp, 1) := by decide +kernel
theorem dX6_nextFit_30 : decode cX6_nextFit 30 = .ok (.ifCond .ne 17, 3) := by decide +kernel
theorem dX6_nextFit_33 : decode cX6_nextFit 33 = .ok (.bipush 64, 2) := by decide +kernel
theorem dX6_nextFit_35 : decode cX6_nextFit 35 = .ok (.iload_n 2, 1) := by decide +kernel
theorem dX6_nextFit_36 : decode cX6_nextFit 36 = .ok (.bipush 64, 2) := by decide +kernel
theorem dX6_nextFit_38 : decode cX6_nextFit 38 = .ok (.idiv, 1) := by decide +kernel
theorem dX6_nextFit_39 : decode cX6_nextFit 39 = .ok (.imul, 1) := by decide +kernel
theorem dX6_nextFit_40 : decode cX6_nextFit 40 = .ok (.bipush 64, 2) := by decide +kernel
theorem dX6_nextFit_42 : decode cX6_nextFit 42 = .ok (.iadd, 1) := by decide +kernel
theorem dX6_nextFit_43 : decode cX6_nextFit 43 = .ok (.istore_n 2, 1) := by decide +kernel
theorem dX6_nextFit_44 : decode cX6_nextFit 44 = .ok (.goto (-40), 3) := by decide +kernel
theorem dX6_nextFit_47 : decode cX6_nextFit 47 = .ok (.aload_n 0, 1) := by decide +kernel
theorem dX6_nextFit_48 : decode cX6_nextFit 48 = .ok (.iload_n 2, 1) := by decide +kernel
theorem dX6_nextFit_49 : decode cX6_nextFit 49 = .ok (.invokevirtual 214, 3) := by decide +kernel
theorem dX6_nextFit_52 : decode cX6_nextFit 52 = .ok (.ifCond .eq 5, 3) := by decide +kernel
theorem dX6_nextFit_55 : decode cX6_nextFit 55 = .ok (.iload_n 2, 1) := by decide +kernel
theorem dX6_nextFit_56 : decode cX6_nextFit 56 = .ok (.ireturn, 1) := by decide +kernel
theorem dX6_nextFit_57 : decode cX6_nextFit 57 = .ok (.iinc 2 1, 3) := by decide +kernel
theorem dX6_nextFit_60 : decode cX6_nextFit 60 = .ok (.goto (-56), 3) := by decide +kernel
theorem dX6_nextFit_63 : decode cX6_nextFit 63 = .ok (.iconst (-1), 1) := by decide +kernel
theorem dX6_nextFit_64 : decode cX6_nextFit 64 = .ok (.ireturn, 1) := by decide +kernel
theorem dX6_soManieth_0 : decode cX6_soManieth 0 = .ok (.aload_n 0, 1) := by decide +kernel
theorem dX6_soManieth_1 : decode cX6_soManieth 1 = .ok (.iconst (-1), 1) := by decide +kernel
theorem dX6_soManieth_2 : decode cX6_soManieth 2 = .ok (.invokevirtual 217, 3) := by decide +kernel
theorem dX6_soManieth_5 : decode cX6_soManieth 5 = .ok (.istore_n 2, 1) := by decide +kernel
theorem dX6_soManieth_6 : decode cX6_soManieth 6 = .ok (.iconst 0, 1) := by decide +kernel
theorem dX6_soManieth_7 : decode cX6_soManieth 7 = .ok (.istore_n 3, 1) := by decide +kernel
theorem dX6_soManieth_8 : decode cX6_soManieth 8 = .ok (.iload_n 3, 1) := by decide +kernel
theorem dX6_soManieth_9 : decode cX6_soManieth 9 = .ok (.iload_n 1, 1) := by decide +kernel
theorem dX6_soManieth_10 : decode cX6_soManieth 10 = .ok (.if_icmp .ge 20, 3) := by decide +kernel
theorem dX6_soManieth_13 : decode cX6_soManieth 13 = .ok (.iload_n 2, 1) := by decide +kernel
theorem dX6_soManieth_14 : decode cX6_soManieth 14 = .ok (.iconst (-1), 1) := by decide +kernel
theorem dX6_soManieth_15 : decode cX6_soManieth 15 = .ok (.if_icmp .eq 15, 3) := by decide +kernel
theorem dX6_soManieth_18 : decode cX6_soManieth 18 = .ok (.aload_n 0, 1) := by decide +kernel
theorem dX6_soManieth_19 : decode cX6_soManieth 19 = .ok (.iload_n 2, 1) := by decide +kernel
theorem dX6_soManieth_20 : decode cX6_soManieth 20 = .ok (.invokevirtual 217, 3) := by decide +kernel
theorem dX6_soManieth_23 : decode cX6_soManieth 23 = .ok (.istore_n 2, 1) := by decide +kernel
theorem dX6_soManieth_24 : decode cX6_soManieth 24 = .ok (.iinc 3 1, 3) := by decide +kernel
theorem dX6_soManieth_27 : decode cX6_soManieth 27 = .ok (.goto (-19), 3) := by decide +kernel
theorem dX6_soManieth_30 : decode cX6_soManieth 30 = .ok (.iload_n 2, 1) := by decide +kernel
theorem dX6_soManieth_31 : decode cX6_soManieth 31 = .ok (.ireturn, 1) := by decide +kernel
theorem dX6_leftOf_0 : decode cX6_leftOf 0 = .ok (.aload_n 0, 1) := by decide +kernel
theorem dX6_leftOf_1 : decode cX6_leftOf 1 = .ok (.invokevirtual 220, 3) := by decide +kernel
theorem dX6_leftOf_4 : decode cX6_leftOf 4 = .ok (.aload_n 0, 1) := by decide +kernel
theorem dX6_leftOf_5 : decode cX6_leftOf 5 = .ok (.getfield 201, 3) := by decide +kernel
theorem dX6_leftOf_8 : decode cX6_leftOf 8 = .ok (.ireturn, 1) := by decide +kernel
theorem dX6_left_0 : decode cX6_left 0 = .ok (.aload_n 0, 1) := by decide +kernel
theorem dX6_left_1 : decode cX6_left 1 = .ok (.invokevirtual 223, 3) := by decide +kernel
theorem dX6_left_4 : decode cX6_left 4 = .ok (.ifCond .eq 8, 3) := by decide +kernel
theorem dX6_left_7 : decode cX6_left 7 = .ok (.bipush (-103), 2) := by decide +kernel
theorem dX6_left_9 : decode cX6_left 9 = .ok (.goto 7, 3) := by decide +kernel
theorem dX6_left_12 : decode cX6_left 12 = .ok (.aload_n 0, 1) := by decide +kernel
theorem dX6_left_13 : decode cX6_left 13 = .ok (.invokevirtual 227, 3) := by decide +kernel
theorem dX6_left_16 : decode cX6_left 16 = .ok (.ireturn, 1) := by decide +kernel
theorem dX6_pictureOf_0 : decode cX6_pictureOf 0 = .ok (.aload_n 0, 1) := by decide +kernel
theorem dX6_pictureOf_1 : decode cX6_pictureOf 1 = .ok (.invokevirtual 220, 3) := by decide +kernel
theorem dX6_pictureOf_4 : decode cX6_pictureOf 4 = .ok (.iload_n 1, 1) := by decide +kernel
theorem dX6_pictureOf_5 : decode cX6_pictureOf 5 = .ok (.aload_n 0, 1) := by decide +kernel
theorem dX6_pictureOf_6 : decode cX6_pictureOf 6 = .ok (.getfield 201, 3) := by decide +kernel
theorem dX6_pictureOf_9 : decode cX6_pictureOf 9 = .ok (.if_icmp .ge 11, 3) := by decide +kernel
theorem dX6_pictureOf_12 : decode cX6_pictureOf 12 = .ok (.aload_n 0, 1) := by decide +kernel
theorem dX6_pictureOf_13 : decode cX6_pictureOf 13 = .ok (.iload_n 1, 1) := by decide +kernel
theorem dX6_pictureOf_14 : decode cX6_pictureOf 14 = .ok (.invokevirtual 230, 3) := by decide +kernel
theorem dX6_pictureOf_17 : decode cX6_pictureOf 17 = .ok (.goto 4, 3) := by decide +kernel
theorem dX6_pictureOf_20 : decode cX6_pictureOf 20 = .ok (.iconst (-1), 1) := by decide +kernel
theorem dX6_pictureOf_21 : decode cX6_pictureOf 21 = .ok (.ireturn, 1) := by decide +kernel
theorem dX6_picture_0 : decode cX6_picture 0 = .ok (.iload_n 1, 1) := by decide +kernel
theorem dX6_picture_1 : decode cX6_picture 1 = .ok (.ifCond .ge 6, 3) := by decide +kernel
theorem dX6_picture_4 : decode cX6_picture 4 = .ok (.bipush (-102), 2) := by decide +kernel
theorem dX6_picture_6 : decode cX6_picture 6 = .ok (.ireturn, 1) := by decide +kernel
theorem dX6_picture_7 : decode cX6_picture 7 = .ok (.aload_n 0, 1) := by decide +kernel
theorem dX6_picture_8 : decode cX6_picture 8 = .ok (.invokevirtual 223, 3) := by decide +kernel
theorem dX6_picture_11 : decode cX6_picture 11 = .ok (.ifCond .eq 8, 3) := by decide +kernel
theorem dX6_picture_14 : decode cX6_picture 14 = .ok (.bipush (-103), 2) := by decide +kernel
theorem dX6_picture_16 : decode cX6_picture 16 = .ok (.goto 8, 3) := by decide +kernel
theorem dX6_picture_19 : decode cX6_picture 19 = .ok (.aload_n 0, 1) := by decide +kernel
theorem dX6_picture_20 : decode cX6_picture 20 = .ok (.iload_n 1, 1) := by decide +kernel
theorem dX6_picture_21 : decode cX6_picture 21 = .ok (.invokevirtual 233, 3) := by decide +kernel
theorem dX6_picture_24 : decode cX6_picture 24 = .ok (.ireturn, 1) := by decide +kernel
theorem dX6_sureOf_0 : decode cX6_sureOf 0 = .ok (.aload_n 0, 1) := by decide +kernel
theorem dX6_sureOf_1 : decode cX6_sureOf 1 = .ok (.invokevirtual 220, 3) := by decide +kernel
theorem dX6_sureOf_4 : decode cX6_sureOf 4 = .ok (.aload_n 0, 1) := by decide +kernel
theorem dX6_sureOf_5 : decode cX6_sureOf 5 = .ok (.getfield 201, 3) := by decide +kernel
theorem dX6_sureOf_8 : decode cX6_sureOf 8 = .ok (.ifCond .ne 7, 3) := by decide +kernel
theorem dX6_sureOf_11 : decode cX6_sureOf 11 = .ok (.iconst (-1), 1) := by decide +kernel
theorem dX6_sureOf_12 : decode cX6_sureOf 12 = .ok (.goto 34, 3) := by decide +kernel
theorem dX6_sureOf_15 : decode cX6_sureOf 15 = .ok (.aload_n 0, 1) := by decide +kernel
theorem dX6_sureOf_16 : decode cX6_sureOf 16 = .ok (.getfield 38, 3) := by decide +kernel
theorem dX6_sureOf_19 : decode cX6_sureOf 19 = .ok (.iload_n 1, 1) := by decide +kernel
theorem dX6_sureOf_20 : decode cX6_sureOf 20 = .ok (.iaload, 1) := by decide +kernel
theorem dX6_sureOf_21 : decode cX6_sureOf 21 = .ok (.aload_n 0, 1) := by decide +kernel
theorem dX6_sureOf_22 : decode cX6_sureOf 22 = .ok (.getfield 201, 3) := by decide +kernel
theorem dX6_sureOf_25 : decode cX6_sureOf 25 = .ok (.if_icmp .ne 7, 3) := by decide +kernel
theorem dX6_sureOf_28 : decode cX6_sureOf 28 = .ok (.iconst 1, 1) := by decide +kernel
theorem dX6_sureOf_29 : decode cX6_sureOf 29 = .ok (.goto 17, 3) := by decide +kernel
theorem dX6_sureOf_32 : decode cX6_sureOf 32 = .ok (.aload_n 0, 1) := by decide +kernel
theorem dX6_sureOf_33 : decode cX6_sureOf 33 = .ok (.getfield 38, 3) := by decide +kernel
theorem dX6_sureOf_36 : decode cX6_sureOf 36 = .ok (.iload_n 1, 1) := by decide +kernel
theorem dX6_sureOf_37 : decode cX6_sureOf 37 = .ok (.iaload, 1) := by decide +kernel
theorem dX6_sureOf_38 : decode cX6_sureOf 38 = .ok (.ifCond .ne 7, 3) := by decide +kernel
theorem dX6_sureOf_41 : decode cX6_sureOf 41 = .ok (.iconst 0, 1) := by decide +kernel
theorem dX6_sureOf_42 : decode cX6_sureOf 42 = .ok (.goto 4, 3) := by decide +kernel
theorem dX6_sureOf_45 : decode cX6_sureOf 45 = .ok (.iconst (-1), 1) := by decide +kernel
theorem dX6_sureOf_46 : decode cX6_sureOf 46 = .ok (.ireturn, 1) := by decide +kernel
theorem dX6_blackOf_0 : decode cX6_blackOf 0 = .ok (.aload_n 0, 1) := by decide +kernel
theorem dX6_blackOf_1 : decode cX6_blackOf 1 = .ok (.invokevirtual 220, 3) := by decide +kernel
theorem dX6_blackOf_4 : decode cX6_blackOf 4 = .ok (.aload_n 0, 1) := by decide +kernel
theorem dX6_blackOf_5 : decode cX6_blackOf 5 = .ok (.getfield 38, 3) := by decide +kernel
theorem dX6_blackOf_8 : decode cX6_blackOf 8 = .ok (.iload_n 1, 1) := by decide +kernel
theorem dX6_blackOf_9 : decode cX6_blackOf 9 = .ok (.iaload, 1) := by decide +kernel
theorem dX6_blackOf_10 : decode cX6_blackOf 10 = .ok (.ireturn, 1) := by decide +kernel
theorem dX6_tellCell_0 : decode cX6_tellCell 0 = .ok (.iload_n 2, 1) := by decide +kernel
theorem dX6_tellCell_1 : decode cX6_tellCell 1 = .ok (.tableswitch 46 0 2 #[27, 34, 40], 27) := by decide +kernel
theorem dX6_tellCell_28 : decode cX6_tellCell 28 = .ok (.aload_n 0, 1) := by decide +kernel
theorem dX6_tellCell_29 : decode cX6_tellCell 29 = .ok (.getfield 31, 3) := by decide +kernel
theorem dX6_tellCell_32 : decode cX6_tellCell 32 = .ok (.iload_n 1, 1) := by decide +kernel
theorem dX6_tellCell_33 : decode cX6_tellCell 33 = .ok (.iaload, 1) := by decide +kernel
theorem dX6_tellCell_34 : decode cX6_tellCell 34 = .ok (.ireturn, 1) := by decide +kernel
theorem dX6_tellCell_35 : decode cX6_tellCell 35 = .ok (.aload_n 0, 1) := by decide +kernel
theorem dX6_tellCell_36 : decode cX6_tellCell 36 = .ok (.iload_n 1, 1) := by decide +kernel
theorem dX6_tellCell_37 : decode cX6_tellCell 37 = .ok (.invokevirtual 236, 3) := by decide +kernel
theorem dX6_tellCell_40 : decode cX6_tellCell 40 = .ok (.ireturn, 1) := by decide +kernel
theorem dX6_tellCell_41 : decode cX6_tellCell 41 = .ok (.aload_n 0, 1) := by decide +kernel
theorem dX6_tellCell_42 : decode cX6_tellCell 42 = .ok (.iload_n 1, 1) := by decide +kernel
theorem dX6_tellCell_43 : decode cX6_tellCell 43 = .ok (.invokevirtual 239, 3) := by decide +kernel
theorem dX6_tellCell_46 : decode cX6_tellCell 46 = .ok (.ireturn, 1) := by decide +kernel
theorem dX6_tellCell_47 : decode cX6_tellCell 47 = .ok (.bipush (-102), 2) := by decide +kernel
theorem dX6_tellCell_49 : decode cX6_tellCell 49 = .ok (.ireturn, 1) := by decide +kernel
theorem dX6_cell_0 : decode cX6_cell 0 = .ok (.aload_n 0, 1) := by decide +kernel
theorem dX6_cell_1 : decode cX6_cell 1 = .ok (.iload_n 1, 1) := by decide +kernel
theorem dX6_cell_2 : decode cX6_cell 2 = .ok (.invokevirtual 242, 3) := by decide +kernel
theorem dX6_cell_5 : decode cX6_cell 5 = .ok (.ifCond .eq 12, 3) := by decide +kernel
theorem dX6_cell_8 : decode cX6_cell 8 = .ok (.aload_n 0, 1) := by decide +kernel
theorem dX6_cell_9 : decode cX6_cell 9 = .ok (.iload_n 1, 1) := by decide +kernel
theorem dX6_cell_10 : decode cX6_cell 10 = .ok (.iload_n 2, 1) := by decide +kernel
theorem dX6_cell_11 : decode cX6_cell 11 = .ok (.invokevirtual 245, 3) := by decide +kernel
theorem dX6_cell_14 : decode cX6_cell 14 = .ok (.goto 5, 3) := by decide +kernel
theorem dX6_cell_17 : decode cX6_cell 17 = .ok (.bipush (-101), 2) := by decide +kernel
theorem dX6_cell_19 : decode cX6_cell 19 = .ok (.ireturn, 1) := by decide +kernel
theorem dX6_spareOf_0 : decode cX6_spareOf 0 = .ok (.aload_n 0, 1) := by decide +kernel
theorem dX6_spareOf_1 : decode cX6_spareOf 1 = .ok (.invokevirtual 220, 3) := by decide +kernel
theorem dX6_spareOf_4 : decode cX6_spareOf 4 = .ok (.aload_n 0, 1) := by decide +kernel
theorem dX6_spareOf_5 : decode cX6_spareOf 5 = .ok (.getfield 201, 3) := by decide +kernel
theorem dX6_spareOf_8 : decode cX6_spareOf 8 = .ok (.istore_n 2, 1) := by decide +kernel
theorem dX6_spareOf_9 : decode cX6_spareOf 9 = .ok (.aload_n 0, 1) := by decide +kernel
theorem dX6_spareOf_10 : decode cX6_spareOf 10 = .ok (.iload_n 1, 1) := by decide +kernel
theorem dX6_spareOf_11 : decode cX6_spareOf 11 = .ok (.putfield 189, 3) := by decide +kernel
theorem dX6_spareOf_14 : decode cX6_spareOf 14 = .ok (.aload_n 0, 1) := by decide +kernel
theorem dX6_spareOf_15 : decode cX6_spareOf 15 = .ok (.invokevirtual 211, 3) := by decide +kernel
theorem dX6_spareOf_18 : decode cX6_spareOf 18 = .ok (.aload_n 0, 1) := by decide +kernel
theorem dX6_spareOf_19 : decode cX6_spareOf 19 = .ok (.getfield 201, 3) := by decide +kernel
theorem dX6_spareOf_22 : decode cX6_spareOf 22 = .ok (.istore_n 3, 1) := by decide +kernel
theorem dX6_spareOf_23 : decode cX6_spareOf 23 = .ok (.aload_n 0, 1) := by decide +kernel
theorem dX6_spareOf_24 : decode cX6_spareOf 24 = .ok (.iconst 1, 1) := by decide +kernel
theorem dX6_spareOf_25 : decode cX6_spareOf 25 = .ok (.putfield 72, 3) := by decide +kernel
theorem dX6_spareOf_28 : decode cX6_spareOf 28 = .ok (.iload_n 2, 1) := by decide +kernel
theorem dX6_spareOf_29 : decode cX6_spareOf 29 = .ok (.iload_n 3, 1) := by decide +kernel
theorem dX6_spareOf_30 : decode cX6_spareOf 30 = .ok (.if_icmp .ne 7, 3) := by decide +kernel
theorem dX6_spareOf_33 : decode cX6_spareOf 33 = .ok (.iconst 1, 1) := by decide +kernel
theorem dX6_spareOf_34 : decode cX6_spareOf 34 = .ok (.goto 4, 3) := by decide +kernel
theorem dX6_spareOf_37 : decode cX6_spareOf 37 = .ok (.iconst 0, 1) := by decide +kernel
theorem dX6_spareOf_38 : decode cX6_spareOf 38 = .ok (.ireturn, 1) := by decide +kernel
theorem dX6_tellLine_0 : decode cX6_tellLine 0 = .ok (.iload_n 2, 1) := by decide +kernel
theorem dX6_tellLine_1 : decode cX6_tellLine 1 = .ok (.tableswitch 88 0 6 #[43, 50, 57, 64, 70, 76, 82], 43) := by decide +kernel
theorem dX6_tellLine_44 : decode cX6_tellLine 44 = .ok (.aload_n 0, 1) := by decide +kernel
theorem dX6_tellLine_45 : decode cX6_tellLine 45 = .ok (.getfield 22, 3) := by decide +kernel
theorem dX6_tellLine_48 : decode cX6_tellLine 48 = .ok (.iload_n 1, 1) := by decide +kernel
theorem dX6_tellLine_49 : decode cX6_tellLine 49 = .ok (.iaload, 1) := by decide +kernel
theorem dX6_tellLine_50 : decode cX6_tellLine 50 = .ok (.ireturn, 1) := by decide +kernel
theorem dX6_tellLine_51 : decode cX6_tellLine 51 = .ok (.aload_n 0, 1) := by decide +kernel
theorem dX6_tellLine_52 : decode cX6_tellLine 52 = .ok (.getfield 25, 3) := by decide +kernel
theorem dX6_tellLine_55 : decode cX6_tellLine 55 = .ok (.iload_n 1, 1) := by decide +kernel
theorem dX6_tellLine_56 : decode cX6_tellLine 56 = .ok (.iaload, 1) := by decide +kernel
theorem dX6_tellLine_57 : decode cX6_tellLine 57 = .ok (.ireturn, 1) := by decide +kernel
theorem dX6_tellLine_58 : decode cX6_tellLine 58 = .ok (.aload_n 0, 1) := by decide +kernel
theorem dX6_tellLine_59 : decode cX6_tellLine 59 = .ok (.getfield 28, 3) := by decide +kernel
theorem dX6_tellLine_62 : decode cX6_tellLine 62 = .ok (.iload_n 1, 1) := by decide +kernel
theorem dX6_tellLine_63 : decode cX6_tellLine 63 = .ok (.iaload, 1) := by decide +kernel
theorem dX6_tellLine_64 : decode cX6_tellLine 64 = .ok (.ireturn, 1) := by decide +kernel
theorem dX6_tellLine_65 : decode cX6_tellLine 65 = .ok (.aload_n 0, 1) := by decide +kernel
theorem dX6_tellLine_66 : decode cX6_tellLine 66 = .ok (.iload_n 1, 1) := by decide +kernel
theorem dX6_tellLine_67 : decode cX6_tellLine 67 = .ok (.invokevirtual 183, 3) := by decide +kernel
theorem dX6_tellLine_70 : decode cX6_tellLine 70 = .ok (.ireturn, 1) := by decide +kernel
theorem dX6_tellLine_71 : decode cX6_tellLine 71 = .ok (.aload_n 0, 1) := by decide +kernel
theorem dX6_tellLine_72 : decode cX6_tellLine 72 = .ok (.iload_n 1, 1) := by decide +kernel
theorem dX6_tellLine_73 : decode cX6_tellLine 73 = .ok (.invokevirtual 248, 3) := by decide +kernel
theorem dX6_tellLine_76 : decode cX6_tellLine 76 = .ok (.ireturn, 1) := by decide +kernel
theorem dX6_tellLine_77 : decode cX6_tellLine 77 = .ok (.aload_n 0, 1) := by decide +kernel
theorem dX6_tellLine_78 : decode cX6_tellLine 78 = .ok (.iload_n 1, 1) := by decide +kernel
theorem dX6_tellLine_79 : decode cX6_tellLine 79 = .ok (.invokevirtual 251, 3) := by decide +kernel
theorem dX6_tellLine_82 : decode cX6_tellLine 82 = .ok (.ireturn, 1) := by decide +kernel
theorem dX6_tellLine_83 : decode cX6_tellLine 83 = .ok (.aload_n 0, 1) := by decide +kernel
theorem dX6_tellLine_84 : decode cX6_tellLine 84 = .ok (.iload_n 1, 1) := by decide +kernel
theorem dX6_tellLine_85 : decode cX6_tellLine 85 = .ok (.invokevirtual 254, 3) := by decide +kernel
theorem dX6_tellLine_88 : decode cX6_tellLine 88 = .ok (.ireturn, 1) := by decide +kernel
theorem dX6_tellLine_89 : decode cX6_tellLine 89 = .ok (.bipush (-102), 2) := by decide +kernel
theorem dX6_tellLine_91 : decode cX6_tellLine 91 = .ok (.ireturn, 1) := by decide +kernel
theorem dX6_line_0 : decode cX6_line 0 = .ok (.aload_n 0, 1) := by decide +kernel
theorem dX6_line_1 : decode cX6_line 1 = .ok (.iload_n 1, 1) := by decide +kernel
theorem dX6_line_2 : decode cX6_line 2 = .ok (.invokevirtual 180, 3) := by decide +kernel
theorem dX6_line_5 : decode cX6_line 5 = .ok (.ifCond .eq 12, 3) := by decide +kernel
theorem dX6_line_8 : decode cX6_line 8 = .ok (.aload_n 0, 1) := by decide +kernel
theorem dX6_line_9 : decode cX6_line 9 = .ok (.iload_n 1, 1) := by decide +kernel
theorem dX6_line_10 : decode cX6_line 10 = .ok (.iload_n 2, 1) := by decide +kernel
theorem dX6_line_11 : decode cX6_line 11 = .ok (.invokevirtual 257, 3) := by decide +kernel
theorem dX6_line_14 : decode cX6_line 14 = .ok (.goto 5, 3) := by decide +kernel
theorem dX6_line_17 : decode cX6_line 17 = .ok (.bipush (-101), 2) := by decide +kernel
theorem dX6_line_19 : decode cX6_line 19 = .ok (.ireturn, 1) := by decide +kernel
theorem dX6_as_0 : decode cX6_as 0 = .ok (.aload_n 0, 1) := by decide +kernel
theorem dX6_as_1 : decode cX6_as 1 = .ok (.iload_n 1, 1) := by decide +kernel
theorem dX6_as_2 : decode cX6_as 2 = .ok (.invokevirtual 180, 3) := by decide +kernel
theorem dX6_as_5 : decode cX6_as 5 = .ok (.ifCond .ne 6, 3) := by decide +kernel
theorem dX6_as_8 : decode cX6_as 8 = .ok (.bipush (-101), 2) := by decide +kernel
theorem dX6_as_10 : decode cX6_as 10 = .ok (.ireturn, 1) := by decide +kernel
theorem dX6_as_11 : decode cX6_as 11 = .ok (.iload_n 2, 1) := by decide +kernel
theorem dX6_as_12 : decode cX6_as 12 = .ok (.i2l, 1) := by decide +kernel
theorem dX6_as_13 : decode cX6_as 13 = .ok (.lconst 0, 1) := by decide +kernel
theorem dX6_as_14 : decode cX6_as 14 = .ok (.ldc2_w 260, 3) := by decide +kernel
theorem dX6_as_17 : decode cX6_as 17 = .ok (.invokestatic 78, 3) := by decide +kernel
theorem dX6_as_20 : decode cX6_as 20 = .ok (.ifCond .ne 6, 3) := by decide +kernel
theorem dX6_as_23 : decode cX6_as 23 = .ok (.bipush (-102), 2) := by decide +kernel
theorem dX6_as_25 : decode cX6_as 25 = .ok (.ireturn, 1) := by decide +kernel
theorem dX6_as_26 : decode cX6_as 26 = .ok (.iload_n 2, 1) := by decide +kernel
theorem dX6_as_27 : decode cX6_as 27 = .ok (.ifCond .eq 28, 3) := by decide +kernel
theorem dX6_as_30 : decode cX6_as 30 = .ok (.iload_n 2, 1) := by decide +kernel
theorem dX6_as_31 : decode cX6_as 31 = .ok (.aload_n 0, 1) := by decide +kernel
theorem dX6_as_32 : decode cX6_as 32 = .ok (.getfield 22, 3) := by decide +kernel
theorem dX6_as_35 : decode cX6_as 35 = .ok (.iload_n 1, 1) := by decide +kernel
theorem dX6_as_36 : decode cX6_as 36 = .ok (.iaload, 1) := by decide +kernel
theorem dX6_as_37 : decode cX6_as 37 = .ok (.if_icmp .eq 18, 3) := by decide +kernel
theorem dX6_as_40 : decode cX6_as 40 = .ok (.iload_n 2, 1) := by decide +kernel
theorem dX6_as_41 : decode cX6_as 41 = .ok (.iconst 1, 1) := by decide +kernel
theorem dX6_as_42 : decode cX6_as 42 = .ok (.if_icmp .ne 17, 3) := by decide +kernel
theorem dX6_as_45 : decode cX6_as 45 = .ok (.aload_n 0, 1) := by decide +kernel
theorem dX6_as_46 : decode cX6_as 46 = .ok (.getfield 22, 3) := by decide +kernel
theorem dX6_as_49 : decode cX6_as 49 = .ok (.iload_n 1, 1) := by decide +kernel
theorem dX6_as_50 : decode cX6_as 50 = .ok (.iaload, 1) := by decide +kernel
theorem dX6_as_51 : decode cX6_as 51 = .ok (.iconst 4, 1) := by decide +kernel
theorem dX6_as_52 : decode cX6_as 52 = .ok (.if_icmp .ne 7, 3) := by decide +kernel
theorem dX6_as_55 : decode cX6_as 55 = .ok (.iconst 1, 1) := by decide +kernel
theorem dX6_as_56 : decode cX6_as 56 = .ok (.goto 4, 3) := by decide +kernel
theorem dX6_as_59 : decode cX6_as 59 = .ok (.iconst 0, 1) := by decide +kernel
theorem dX6_as_60 : decode cX6_as 60 = .ok (.istore_n 3, 1) := by decide +kernel
theorem dX6_as_61 : decode cX6_as 61 = .ok (.iload_n 3, 1) := by decide +kernel
theorem dX6_as_62 : decode cX6_as 62 = .ok (.ifCond .eq 7, 3) := by decide +kernel
theorem dX6_as_65 : decode cX6_as 65 = .ok (.iload_n 1, 1) := by decide +kernel
theorem dX6_as_66 : decode cX6_as 66 = .ok (.goto 4, 3) := by decide +kernel
theorem dX6_as_69 : decode cX6_as 69 = .ok (.iconst (-1), 1) := by decide +kernel
theorem dX6_as_70 : decode cX6_as 70 = .ok (.ireturn, 1) := by decide +kernel
theorem dX6_mark_0 : decode cX6_mark 0 = .ok (.aload_n 0, 1) := by decide +kernel
theorem dX6_mark_1 : decode cX6_mark 1 = .ok (.iload_n 1, 1) := by decide +kernel
theorem dX6_mark_2 : decode cX6_mark 2 = .ok (.invokevirtual 242, 3) := by decide +kernel
theorem dX6_mark_5 : decode cX6_mark 5 = .ok (.ifCond .ne 6, 3) := by decide +kernel
theorem dX6_mark_8 : decode cX6_mark 8 = .ok (.bipush (-101), 2) := by decide +kernel
theorem dX6_mark_10 : decode cX6_mark 10 = .ok (.ireturn, 1) := by decide +kernel
theorem dX6_mark_11 : decode cX6_mark 11 = .ok (.iload_n 2, 1) := by decide +kernel
theorem dX6_mark_12 : decode cX6_mark 12 = .ok (.i2l, 1) := by decide +kernel
theorem dX6_mark_13 : decode cX6_mark 13 = .ok (.lconst 0, 1) := by decide +kernel
theorem dX6_mark_14 : decode cX6_mark 14 = .ok (.ldc2_w 262, 3) := by decide +kernel
theorem dX6_mark_17 : decode cX6_mark 17 = .ok (.invokestatic 78, 3) := by decide +kernel
theorem dX6_mark_20 : decode cX6_mark 20 = .ok (.ifCond .ne 6, 3) := by decide +kernel
theorem dX6_mark_23 : decode cX6_mark 23 = .ok (.bipush (-102), 2) := by decide +kernel
theorem dX6_mark_25 : decode cX6_mark 25 = .ok (.ireturn, 1) := by decide +kernel
theorem dX6_mark_26 : decode cX6_mark 26 = .ok (.aload_n 0, 1) := by decide +kernel
theorem dX6_mark_27 : decode cX6_mark 27 = .ok (.getfield 31, 3) := by decide +kernel
theorem dX6_mark_30 : decode cX6_mark 30 = .ok (.iload_n 1, 1) := by decide +kernel
theorem dX6_mark_31 : decode cX6_mark 31 = .ok (.iaload, 1) := by decide +kernel
theorem dX6_mark_32 : decode cX6_mark 32 = .ok (.istore_n 3, 1) := by decide +kernel
theorem dX6_mark_33 : decode cX6_mark 33 = .ok (.aload_n 0, 1) := by decide +kernel
theorem dX6_mark_34 : decode cX6_mark 34 = .ok (.getfield 31, 3) := by decide +kernel
theorem dX6_mark_37 : decode cX6_mark 37 = .ok (.iload_n 1, 1) := by decide +kernel
theorem dX6_mark_38 : decode cX6_mark 38 = .ok (.iload_n 2, 1) := by decide +kernel
theorem dX6_mark_39 : decode cX6_mark 39 = .ok (.iastore, 1) := by decide +kernel
theorem dX6_mark_40 : decode cX6_mark 40 = .ok (.aload_n 0, 1) := by decide +kernel
theorem dX6_mark_41 : decode cX6_mark 41 = .ok (.iconst 1, 1) := by decide +kernel
theorem dX6_mark_42 : decode cX6_mark 42 = .ok (.putfield 72, 3) := by decide +kernel
theorem dX6_mark_45 : decode cX6_mark 45 = .ok (.iload_n 3, 1) := by decide +kernel
theorem dX6_mark_46 : decode cX6_mark 46 = .ok (.ireturn, 1) := by decide +kernel
theorem dX6_markedMany_0 : decode cX6_markedMany 0 = .ok (.aload_n 0, 1) := by decide +kernel
theorem dX6_markedMany_1 : decode cX6_markedMany 1 = .ok (.iconst 1, 1) := by decide +kernel
theorem dX6_markedMany_2 : decode cX6_markedMany 2 = .ok (.invokevirtual 204, 3) := by decide +kernel
theorem dX6_markedMany_5 : decode cX6_markedMany 5 = .ok (.invokestatic 173, 3) := by decide +kernel
theorem dX6_markedMany_8 : decode cX6_markedMany 8 = .ok (.aload_n 0, 1) := by decide +kernel
theorem dX6_markedMany_9 : decode cX6_markedMany 9 = .ok (.iconst 2, 1) := by decide +kernel
theorem dX6_markedMany_10 : decode cX6_markedMany 10 = .ok (.invokevirtual 204, 3) := by decide +kernel
theorem dX6_markedMany_13 : decode cX6_markedMany 13 = .ok (.invokestatic 173, 3) := by decide +kernel
theorem dX6_markedMany_16 : decode cX6_markedMany 16 = .ok (.iadd, 1) := by decide +kernel
theorem dX6_markedMany_17 : decode cX6_markedMany 17 = .ok (.ireturn, 1) := by decide +kernel
theorem dX6_clear_0 : decode cX6_clear 0 = .ok (.aload_n 0, 1) := by decide +kernel
theorem dX6_clear_1 : decode cX6_clear 1 = .ok (.invokevirtual 264, 3) := by decide +kernel
theorem dX6_clear_4 : decode cX6_clear 4 = .ok (.istore_n 1, 1) := by decide +kernel
theorem dX6_clear_5 : decode cX6_clear 5 = .ok (.iconst 0, 1) := by decide +kernel
theorem dX6_clear_6 : decode cX6_clear 6 = .ok (.istore_n 2, 1) := by decide +kernel
theorem dX6_clear_7 : decode cX6_clear 7 = .ok (.iload_n 2, 1) := by decide +kernel
theorem dX6_clear_8 : decode cX6_clear 8 = .ok (.bipush 16, 2) := by decide +kernel
theorem dX6_clear_10 : decode cX6_clear 10 = .ok (.if_icmp .ge 16, 3) := by decide +kernel
theorem dX6_clear_13 : decode cX6_clear 13 = .ok (.aload_n 0, 1) := by decide +kernel
theorem dX6_clear_14 : decode cX6_clear 14 = .ok (.getfield 31, 3) := by decide +kernel
theorem dX6_clear_17 : decode cX6_clear 17 = .ok (.iload_n 2, 1) := by decide +kernel
theorem dX6_clear_18 : decode cX6_clear 18 = .ok (.iconst 0, 1) := by decide +kernel
theorem dX6_clear_19 : decode cX6_clear 19 = .ok (.iastore, 1) := by decide +kernel
theorem dX6_clear_20 : decode cX6_clear 20 = .ok (.iinc 2 1, 3) := by decide +kernel
theorem dX6_clear_23 : decode cX6_clear 23 = .ok (.goto (-16), 3) := by decide +kernel
theorem dX6_clear_26 : decode cX6_clear 26 = .ok (.aload_n 0, 1) := by decide +kernel
theorem dX6_clear_27 : decode cX6_clear 27 = .ok (.iconst 1, 1) := by decide +kernel
theorem dX6_clear_28 : decode cX6_clear 28 = .ok (.putfield 72, 3) := by decide +kernel
theorem dX6_clear_31 : decode cX6_clear 31 = .ok (.iload_n 1, 1) := by decide +kernel
theorem dX6_clear_32 : decode cX6_clear 32 = .ok (.ireturn, 1) := by decide +kernel
theorem dX6_clue_0 : decode cX6_clue 0 = .ok (.aload_n 0, 1) := by decide +kernel
theorem dX6_clue_1 : decode cX6_clue 1 = .ok (.iload_n 1, 1) := by decide +kernel
theorem dX6_clue_2 : decode cX6_clue 2 = .ok (.invokevirtual 180, 3) := by decide +kernel
theorem dX6_clue_5 : decode cX6_clue 5 = .ok (.ifCond .ne 6, 3) := by decide +kernel
theorem dX6_clue_8 : decode cX6_clue 8 = .ok (.bipush (-101), 2) := by decide +kernel
theorem dX6_clue_10 : decode cX6_clue 10 = .ok (.ireturn, 1) := by decide +kernel
theorem dX6_clue_11 : decode cX6_clue 11 = .ok (.iload_n 2, 1) := by decide +kernel
theorem dX6_clue_12 : decode cX6_clue 12 = .ok (.i2l, 1) := by decide +kernel
theorem dX6_clue_13 : decode cX6_clue 13 = .ok (.lconst 0, 1) := by decide +kernel
theorem dX6_clue_14 : decode cX6_clue 14 = .ok (.ldc2_w 260, 3) := by decide +kernel
theorem dX6_clue_17 : decode cX6_clue 17 = .ok (.invokestatic 78, 3) := by decide +kernel
theorem dX6_clue_20 : decode cX6_clue 20 = .ok (.ifCond .eq 49, 3) := by decide +kernel
theorem dX6_clue_23 : decode cX6_clue 23 = .ok (.iload_n 3, 1) := by decide +kernel
theorem dX6_clue_24 : decode cX6_clue 24 = .ok (.i2l, 1) := by decide +kernel
theorem dX6_clue_25 : decode cX6_clue 25 = .ok (.lconst 0, 1) := by decide +kernel
theorem dX6_clue_26 : decode cX6_clue 26 = .ok (.aload_n 0, 1) := by decide +kernel
theorem dX6_clue_27 : decode cX6_clue 27 = .ok (.iload_n 1, 1) := by decide +kernel
theorem dX6_clue_28 : decode cX6_clue 28 = .ok (.invokevirtual 183, 3) := by decide +kernel
theorem dX6_clue_31 : decode cX6_clue 31 = .ok (.i2l, 1) := by decide +kernel
theorem dX6_clue_32 : decode cX6_clue 32 = .ok (.invokestatic 78, 3) := by decide +kernel
theorem dX6_clue_35 : decode cX6_clue 35 = .ok (.ifCond .eq 34, 3) := by decide +kernel
theorem dX6_clue_38 : decode cX6_clue 38 = .ok (.iload 4, 2) := by decide +kernel
theorem dX6_clue_40 : decode cX6_clue 40 = .ok (.i2l, 1) := by decide +kernel
theorem dX6_clue_41 : decode cX6_clue 41 = .ok (.lconst 0, 1) := by decide +kernel
theorem dX6_clue_42 : decode cX6_clue 42 = .ok (.iload_n 2, 1) := by decide +kernel
theorem dX6_clue_43 : decode cX6_clue 43 = .ok (.invokestatic 105, 3) := by decide +kernel
theorem dX6_clue_46 : decode cX6_clue 46 = .ok (.ifCond .eq 16, 3) := by decide +kernel
theorem dX6_clue_49 : decode cX6_clue 49 = .ok (.iload_n 3, 1) := by decide +kernel
theorem dX6_clue_50 : decode cX6_clue 50 = .ok (.aload_n 0, 1) := by decide +kernel
theorem dX6_clue_51 : decode cX6_clue 51 = .ok (.iload_n 1, 1) := by decide +kernel
theorem dX6_clue_52 : decode cX6_clue 52 = .ok (.invokevirtual 183, 3) := by decide +kernel
theorem dX6_clue_55 : decode cX6_clue 55 = .ok (.invokestatic 112, 3) := by decide +kernel
theorem dX6_clue_58 : decode cX6_clue 58 = .ok (.i2l, 1) := by decide +kernel
theorem dX6_clue_59 : decode cX6_clue 59 = .ok (.goto 4, 3) := by decide +kernel
theorem dX6_clue_62 : decode cX6_clue 62 = .ok (.lconst 0, 1) := by decide +kernel
theorem dX6_clue_63 : decode cX6_clue 63 = .ok (.invokestatic 78, 3) := by decide +kernel
theorem dX6_clue_66 : decode cX6_clue 66 = .ok (.ifCond .ne 6, 3) := by decide +kernel
theorem dX6_clue_69 : decode cX6_clue 69 = .ok (.bipush (-102), 2) := by decide +kernel
theorem dX6_clue_71 : decode cX6_clue 71 = .ok (.ireturn, 1) := by decide +kernel
theorem dX6_clue_72 : decode cX6_clue 72 = .ok (.aload_n 0, 1) := by decide +kernel
theorem dX6_clue_73 : decode cX6_clue 73 = .ok (.getfield 22, 3) := by decide +kernel
theorem dX6_clue_76 : decode cX6_clue 76 = .ok (.iload_n 1, 1) := by decide +kernel
theorem dX6_clue_77 : decode cX6_clue 77 = .ok (.iaload, 1) := by decide +kernel
theorem dX6_clue_78 : decode cX6_clue 78 = .ok (.istore 5, 2) := by decide +kernel
theorem dX6_clue_80 : decode cX6_clue 80 = .ok (.aload_n 0, 1) := by decide +kernel
theorem dX6_clue_81 : decode cX6_clue 81 = .ok (.getfield 22, 3) := by decide +kernel
theorem dX6_clue_84 : decode cX6_clue 84 = .ok (.iload_n 1, 1) := by decide +kernel
theorem dX6_clue_85 : decode cX6_clue 85 = .ok (.iload_n 2, 1) := by decide +kernel
theorem dX6_clue_86 : decode cX6_clue 86 = .ok (.iastore, 1) := by decide +kernel
theorem dX6_clue_87 : decode cX6_clue 87 = .ok (.aload_n 0, 1) := by decide +kernel
theorem dX6_clue_88 : decode cX6_clue 88 = .ok (.getfield 25, 3) := by decide +kernel
theorem dX6_clue_91 : decode cX6_clue 91 = .ok (.iload_n 1, 1) := by decide +kernel
theorem dX6_clue_92 : decode cX6_clue 92 = .ok (.iload_n 3, 1) := by decide +kernel
theorem dX6_clue_93 : decode cX6_clue 93 = .ok (.iastore, 1) := by decide +kernel
theorem dX6_clue_94 : decode cX6_clue 94 = .ok (.aload_n 0, 1) := by decide +kernel
theorem dX6_clue_95 : decode cX6_clue 95 = .ok (.getfield 28, 3) := by decide +kernel
theorem dX6_clue_98 : decode cX6_clue 98 = .ok (.iload_n 1, 1) := by decide +kernel
theorem dX6_clue_99 : decode cX6_clue 99 = .ok (.iload 4, 2) := by decide +kernel
theorem dX6_clue_101 : decode cX6_clue 101 = .ok (.iastore, 1) := by decide +kernel
theorem dX6_clue_102 : decode cX6_clue 102 = .ok (.aload_n 0, 1) := by decide +kernel
theorem dX6_clue_103 : decode cX6_clue 103 = .ok (.iconst 1, 1) := by decide +kernel
theorem dX6_clue_104 : decode cX6_clue 104 = .ok (.putfield 72, 3) := by decide +kernel
theorem dX6_clue_107 : decode cX6_clue 107 = .ok (.iload 5, 2) := by decide +kernel
theorem dX6_clue_109 : decode cX6_clue 109 = .ok (.ireturn, 1) := by decide +kernel
theorem dX6_bestCell_0 : decode cX6_bestCell 0 = .ok (.iconst (-1), 1) := by decide +kernel
theorem dX6_bestCell_1 : decode cX6_bestCell 1 = .ok (.istore 4, 2) := by decide +kernel
theorem dX6_bestCell_3 : decode cX6_bestCell 3 = .ok (.ldc_w 267, 3) := by decide +kernel
theorem dX6_bestCell_6 : decode cX6_bestCell 6 = .ok (.istore 5, 2) := by decide +kernel
theorem dX6_bestCell_8 : decode cX6_bestCell 8 = .ok (.iconst 0, 1) := by decide +kernel
theorem dX6_bestCell_9 : decode cX6_bestCell 9 = .ok (.istore 6, 2) := by decide +kernel
theorem dX6_bestCell_11 : decode cX6_bestCell 11 = .ok (.iload 6, 2) := by decide +kernel
theorem dX6_bestCell_13 : decode cX6_bestCell 13 = .ok (.aload_n 0, 1) := by decide +kernel
theorem dX6_bestCell_14 : decode cX6_bestCell 14 = .ok (.getfield 141, 3) := by decide +kernel
theorem dX6_bestCell_17 : decode cX6_bestCell 17 = .ok (.aload_n 0, 1) := by decide +kernel
theorem dX6_bestCell_18 : decode cX6_bestCell 18 = .ok (.getfield 144, 3) := by decide +kernel
theorem dX6_bestCell_21 : decode cX6_bestCell 21 = .ok (.imul, 1) := by decide +kernel
theorem dX6_bestCell_22 : decode cX6_bestCell 22 = .ok (.if_icmp .ge 65, 3) := by decide +kernel
theorem dX6_bestCell_25 : decode cX6_bestCell 25 = .ok (.iload_n 2, 1) := by decide +kernel
theorem dX6_bestCell_26 : decode cX6_bestCell 26 = .ok (.ifCond .le 61, 3) := by decide +kernel
theorem dX6_bestCell_29 : decode cX6_bestCell 29 = .ok (.aload_n 1, 1) := by decide +kernel
theorem dX6_bestCell_30 : decode cX6_bestCell 30 = .ok (.iload 6, 2) := by decide +kernel
theorem dX6_bestCell_32 : decode cX6_bestCell 32 = .ok (.iaload, 1) := by decide +kernel
theorem dX6_bestCell_33 : decode cX6_bestCell 33 = .ok (.iload_n 2, 1) := by decide +kernel
theorem dX6_bestCell_34 : decode cX6_bestCell 34 = .ok (.aload_n 1, 1) := by decide +kernel
theorem dX6_bestCell_35 : decode cX6_bestCell 35 = .ok (.iload 6, 2) := by decide +kernel
theorem dX6_bestCell_37 : decode cX6_bestCell 37 = .ok (.iaload, 1) := by decide +kernel
theorem dX6_bestCell_38 : decode cX6_bestCell 38 = .ok (.isub, 1) := by decide +kernel
theorem dX6_bestCell_39 : decode cX6_bestCell 39 = .ok (.if_icmp .le 10, 3) := by decide +kernel
theorem dX6_bestCell_42 : decode cX6_bestCell 42 = .ok (.aload_n 1, 1) := by decide +kernel
theorem dX6_bestCell_43 : decode cX6_bestCell 43 = .ok (.iload 6, 2) := by decide +kernel
theorem dX6_bestCell_45 : decode cX6_bestCell 45 = .ok (.iaload, 1) := by decide +kernel
theorem dX6_bestCell_46 : decode cX6_bestCell 46 = .ok (.goto 9, 3) := by decide +kernel
theorem dX6_bestCell_49 : decode cX6_bestCell 49 = .ok (.iload_n 2, 1) := by decide +kernel
theorem dX6_bestCell_50 : decode cX6_bestCell 50 = .ok (.aload_n 1, 1) := by decide +kernel
theorem dX6_bestCell_51 : decode cX6_bestCell 51 = .ok (.iload 6, 2) := by decide +kernel
theorem dX6_bestCell_53 : decode cX6_bestCell 53 = .ok (.iaload, 1) := by decide +kernel
theorem dX6_bestCell_54 : decode cX6_bestCell 54 = .ok (.isub, 1) := by decide +kernel
theorem dX6_bestCell_55 : decode cX6_bestCell 55 = .ok (.istore 7, 2) := by decide +kernel
theorem dX6_bestCell_57 : decode cX6_bestCell 57 = .ok (.iload_n 3, 1) := by decide +kernel
theorem dX6_bestCell_58 : decode cX6_bestCell 58 = .ok (.iload 6, 2) := by decide +kernel
theorem dX6_bestCell_60 : decode cX6_bestCell 60 = .ok (.ishr, 1) := by decide +kernel
theorem dX6_bestCell_61 : decode cX6_bestCell 61 = .ok (.iconst 1, 1) := by decide +kernel
theorem dX6_bestCell_62 : decode cX6_bestCell 62 = .ok (.iand, 1) := by decide +kernel
theorem dX6_bestCell_63 : decode cX6_bestCell 63 = .ok (.ifCond .ne 18, 3) := by decide +kernel
theorem dX6_bestCell_66 : decode cX6_bestCell 66 = .ok (.iload 7, 2) := by decide +kernel
theorem dX6_bestCell_68 : decode cX6_bestCell 68 = .ok (.iload 5, 2) := by decide +kernel
theorem dX6_bestCell_70 : decode cX6_bestCell 70 = .ok (.if_icmp .ge 11, 3) := by decide +kernel
theorem dX6_bestCell_73 : decode cX6_bestCell 73 = .ok (.iload 6, 2) := by decide +kernel
theorem dX6_bestCell_75 : decode cX6_bestCell 75 = .ok (.istore 4, 2) := by decide +kernel
theorem dX6_bestCell_77 : decode cX6_bestCell 77 = .ok (.iload 7, 2) := by decide +kernel
theorem dX6_bestCell_79 : decode cX6_bestCell 79 = .ok (.istore 5, 2) := by decide +kernel
theorem dX6_bestCell_81 : decode cX6_bestCell 81 = .ok (.iinc 6 1, 3) := by decide +kernel
theorem dX6_bestCell_84 : decode cX6_bestCell 84 = .ok (.goto (-73), 3) := by decide +kernel
theorem dX6_bestCell_87 : decode cX6_bestCell 87 = .ok (.iload 4, 2) := by decide +kernel
theorem dX6_bestCell_89 : decode cX6_bestCell 89 = .ok (.ireturn, 1) := by decide +kernel
theorem dX6_lookOf_0 : decode cX6_lookOf 0 = .ok (.aload_n 0, 1) := by decide +kernel
theorem dX6_lookOf_1 : decode cX6_lookOf 1 = .ok (.invokevirtual 220, 3) := by decide +kernel
theorem dX6_lookOf_4 : decode cX6_lookOf 4 = .ok (.aload_n 0, 1) := by decide +kernel
theorem dX6_lookOf_5 : decode cX6_lookOf 5 = .ok (.aload_n 0, 1) := by decide +kernel
theorem dX6_lookOf_6 : decode cX6_lookOf 6 = .ok (.getfield 38, 3) := by decide +kernel
theorem dX6_lookOf_9 : decode cX6_lookOf 9 = .ok (.aload_n 0, 1) := by decide +kernel
theorem dX6_lookOf_10 : decode cX6_lookOf 10 = .ok (.getfield 201, 3) := by decide +kernel
theorem dX6_lookOf_13 : decode cX6_lookOf 13 = .ok (.aload_n 0, 1) := by decide +kernel
theorem dX6_lookOf_14 : decode cX6_lookOf 14 = .ok (.iconst 1, 1) := by decide +kernel
theorem dX6_lookOf_15 : decode cX6_lookOf 15 = .ok (.invokevirtual 204, 3) := by decide +kernel
theorem dX6_lookOf_18 : decode cX6_lookOf 18 = .ok (.aload_n 0, 1) := by decide +kernel
theorem dX6_lookOf_19 : decode cX6_lookOf 19 = .ok (.iconst 2, 1) := by decide +kernel
theorem dX6_lookOf_20 : decode cX6_lookOf 20 = .ok (.invokevirtual 204, 3) := by decide +kernel
theorem dX6_lookOf_23 : decode cX6_lookOf 23 = .ok (.ior, 1) := by decide +kernel
theorem dX6_lookOf_24 : decode cX6_lookOf 24 = .ok (.invokevirtual 268, 3) := by decide +kernel
theorem dX6_lookOf_27 : decode cX6_lookOf 27 = .ok (.ireturn, 1) := by decide +kernel
theorem dX6_look_0 : decode cX6_look 0 = .ok (.aload_n 0, 1) := by decide +kernel
theorem dX6_look_1 : decode cX6_look 1 = .ok (.invokevirtual 223, 3) := by decide +kernel
theorem dX6_look_4 : decode cX6_look 4 = .ok (.ifCond .eq 8, 3) := by decide +kernel
theorem dX6_look_7 : decode cX6_look 7 = .ok (.bipush (-103), 2) := by decide +kernel
theorem dX6_look_9 : decode cX6_look 9 = .ok (.goto 7, 3) := by decide +kernel
theorem dX6_look_12 : decode cX6_look 12 = .ok (.aload_n 0, 1) := by decide +kernel
theorem dX6_look_13 : decode cX6_look 13 = .ok (.invokevirtual 272, 3) := by decide +kernel
theorem dX6_look_16 : decode cX6_look 16 = .ok (.ireturn, 1) := by decide +kernel
theorem dX6_oddsOf_0 : decode cX6_oddsOf 0 = .ok (.aload_n 0, 1) := by decide +kernel
theorem dX6_oddsOf_1 : decode cX6_oddsOf 1 = .ok (.invokevirtual 220, 3) := by decide +kernel
theorem dX6_oddsOf_4 : decode cX6_oddsOf 4 = .ok (.aload_n 0, 1) := by decide +kernel
theorem dX6_oddsOf_5 : decode cX6_oddsOf 5 = .ok (.getfield 201, 3) := by decide +kernel
theorem dX6_oddsOf_8 : decode cX6_oddsOf 8 = .ok (.ifCond .ne 5, 3) := by decide +kernel
theorem dX6_oddsOf_11 : decode cX6_oddsOf 11 = .ok (.iload_n 2, 1) := by decide +kernel
theorem dX6_oddsOf_12 : decode cX6_oddsOf 12 = .ok (.ireturn, 1) := by decide +kernel
theorem dX6_oddsOf_13 : decode cX6_oddsOf 13 = .ok (.aload_n 0, 1) := by decide +kernel
theorem dX6_oddsOf_14 : decode cX6_oddsOf 14 = .ok (.getfield 201, 3) := by decide +kernel
theorem dX6_oddsOf_17 : decode cX6_oddsOf 17 = .ok (.istore_n 3, 1) := by decide +kernel
theorem dX6_oddsOf_18 : decode cX6_oddsOf 18 = .ok (.aload_n 0, 1) := by decide +kernel
theorem dX6_oddsOf_19 : decode cX6_oddsOf 19 = .ok (.getfield 38, 3) := by decide +kernel
theorem dX6_oddsOf_22 : decode cX6_oddsOf 22 = .ok (.iload_n 1, 1) := by decide +kernel
theorem dX6_oddsOf_23 : decode cX6_oddsOf 23 = .ok (.iaload, 1) := by decide +kernel
theorem dX6_oddsOf_24 : decode cX6_oddsOf 24 = .ok (.istore 4, 2) := by decide +kernel
theorem dX6_oddsOf_26 : decode cX6_oddsOf 26 = .ok (.iload 4, 2) := by decide +kernel
theorem dX6_oddsOf_28 : decode cX6_oddsOf 28 = .ok (.ifCond .le 19, 3) := by decide +kernel
theorem dX6_oddsOf_31 : decode cX6_oddsOf 31 = .ok (.iload_n 3, 1) := by decide +kernel
theorem dX6_oddsOf_32 : decode cX6_oddsOf 32 = .ok (.iload 4, 2) := by decide +kernel
theorem dX6_oddsOf_34 : decode cX6_oddsOf 34 = .ok (.irem, 1) := by decide +kernel
theorem dX6_oddsOf_35 : decode cX6_oddsOf 35 = .ok (.istore 5, 2) := by decide +kernel
theorem dX6_oddsOf_37 : decode cX6_oddsOf 37 = .ok (.iload 4, 2) := by decide +kernel
theorem dX6_oddsOf_39 : decode cX6_oddsOf 39 = .ok (.istore_n 3, 1) := by decide +kernel
theorem dX6_oddsOf_40 : decode cX6_oddsOf 40 = .ok (.iload 5, 2) := by decide +kernel
theorem dX6_oddsOf_42 : decode cX6_oddsOf 42 = .ok (.istore 4, 2) := by decide +kernel
theorem dX6_oddsOf_44 : decode cX6_oddsOf 44 = .ok (.goto (-18), 3) := by decide +kernel
theorem dX6_oddsOf_47 : decode cX6_oddsOf 47 = .ok (.iload_n 2, 1) := by decide +kernel
theorem dX6_oddsOf_48 : decode cX6_oddsOf 48 = .ok (.ifCond .ne 14, 3) := by decide +kernel
theorem dX6_oddsOf_51 : decode cX6_oddsOf 51 = .ok (.aload_n 0, 1) := by decide +kernel
theorem dX6_oddsOf_52 : decode cX6_oddsOf 52 = .ok (.getfield 38, 3) := by decide +kernel
theorem dX6_oddsOf_55 : decode cX6_oddsOf 55 = .ok (.iload_n 1, 1) := by decide +kernel
theorem dX6_oddsOf_56 : decode cX6_oddsOf 56 = .ok (.iaload, 1) := by decide +kernel
theorem dX6_oddsOf_57 : decode cX6_oddsOf 57 = .ok (.iload_n 3, 1) := by decide +kernel
theorem dX6_oddsOf_58 : decode cX6_oddsOf 58 = .ok (.idiv, 1) := by decide +kernel
theorem dX6_oddsOf_59 : decode cX6_oddsOf 59 = .ok (.goto 9, 3) := by decide +kernel
theorem dX6_oddsOf_62 : decode cX6_oddsOf 62 = .ok (.aload_n 0, 1) := by decide +kernel
theorem dX6_oddsOf_63 : decode cX6_oddsOf 63 = .ok (.getfield 201, 3) := by decide +kernel
theorem dX6_oddsOf_66 : decode cX6_oddsOf 66 = .ok (.iload_n 3, 1) := by decide +kernel
theorem dX6_oddsOf_67 : decode cX6_oddsOf 67 = .ok (.idiv, 1) := by decide +kernel
theorem dX6_oddsOf_68 : decode cX6_oddsOf 68 = .ok (.ireturn, 1) := by decide +kernel
theorem dX6_odds_0 : decode cX6_odds 0 = .ok (.aload_n 0, 1) := by decide +kernel
theorem dX6_odds_1 : decode cX6_odds 1 = .ok (.iload_n 1, 1) := by decide +kernel
theorem dX6_odds_2 : decode cX6_odds 2 = .ok (.invokevirtual 242, 3) := by decide +kernel
theorem dX6_odds_5 : decode cX6_odds 5 = .ok (.ifCond .ne 6, 3) := by decide +kernel
theorem dX6_odds_8 : decode cX6_odds 8 = .ok (.bipush (-101), 2) := by decide +kernel
theorem dX6_odds_10 : decode cX6_odds 10 = .ok (.ireturn, 1) := by decide +kernel
theorem dX6_odds_11 : decode cX6_odds 11 = .ok (.iload_n 2, 1) := by decide +kernel
theorem dX6_odds_12 : decode cX6_odds 12 = .ok (.i2l, 1) := by decide +kernel
theorem dX6_odds_13 : decode cX6_odds 13 = .ok (.lconst 0, 1) := by decide +kernel
theorem dX6_odds_14 : decode cX6_odds 14 = .ok (.lconst 1, 1) := by decide +kernel
theorem dX6_odds_15 : decode cX6_odds 15 = .ok (.invokestatic 78, 3) := by decide +kernel
theorem dX6_odds_18 : decode cX6_odds 18 = .ok (.ifCond .eq 12, 3) := by decide +kernel
theorem dX6_odds_21 : decode cX6_odds 21 = .ok (.aload_n 0, 1) := by decide +kernel
theorem dX6_odds_22 : decode cX6_odds 22 = .ok (.iload_n 1, 1) := by decide +kernel
theorem dX6_odds_23 : decode cX6_odds 23 = .ok (.iload_n 2, 1) := by decide +kernel
theorem dX6_odds_24 : decode cX6_odds 24 = .ok (.invokevirtual 275, 3) := by decide +kernel
theorem dX6_odds_27 : decode cX6_odds 27 = .ok (.goto 5, 3) := by decide +kernel
theorem dX6_odds_30 : decode cX6_odds 30 = .ok (.bipush (-102), 2) := by decide +kernel
theorem dX6_odds_32 : decode cX6_odds 32 = .ok (.ireturn, 1) := by decide +kernel
theorem dX6_isTelling_0 : decode cX6_isTelling 0 = .ok (.aload_n 0, 1) := by decide +kernel
theorem dX6_isTelling_1 : decode cX6_isTelling 1 = .ok (.iconst (-1), 1) := by decide +kernel
theorem dX6_isTelling_2 : decode cX6_isTelling 2 = .ok (.invokevirtual 217, 3) := by decide +kernel
theorem dX6_isTelling_5 : decode cX6_isTelling 5 = .ok (.istore_n 3, 1) := by decide +kernel
theorem dX6_isTelling_6 : decode cX6_isTelling 6 = .ok (.iload_n 3, 1) := by decide +kernel
theorem dX6_isTelling_7 : decode cX6_isTelling 7 = .ok (.iconst (-1), 1) := by decide +kernel
theorem dX6_isTelling_8 : decode cX6_isTelling 8 = .ok (.if_icmp .eq 27, 3) := by decide +kernel
theorem dX6_isTelling_11 : decode cX6_isTelling 11 = .ok (.iload_n 3, 1) := by decide +kernel
theorem dX6_isTelling_12 : decode cX6_isTelling 12 = .ok (.iload_n 1, 1) := by decide +kernel
theorem dX6_isTelling_13 : decode cX6_isTelling 13 = .ok (.if_icmp .eq 13, 3) := by decide +kernel
theorem dX6_isTelling_16 : decode cX6_isTelling 16 = .ok (.iload_n 3, 1) := by decide +kernel
theorem dX6_isTelling_17 : decode cX6_isTelling 17 = .ok (.iload_n 1, 1) := by decide +kernel
theorem dX6_isTelling_18 : decode cX6_isTelling 18 = .ok (.ixor, 1) := by decide +kernel
theorem dX6_isTelling_19 : decode cX6_isTelling 19 = .ok (.iload_n 2, 1) := by decide +kernel
theorem dX6_isTelling_20 : decode cX6_isTelling 20 = .ok (.iand, 1) := by decide +kernel
theorem dX6_isTelling_21 : decode cX6_isTelling 21 = .ok (.ifCond .ne 5, 3) := by decide +kernel
theorem dX6_isTelling_24 : decode cX6_isTelling 24 = .ok (.iconst 0, 1) := by decide +kernel
theorem dX6_isTelling_25 : decode cX6_isTelling 25 = .ok (.ireturn, 1) := by decide +kernel
theorem dX6_isTelling_26 : decode cX6_isTelling 26 = .ok (.aload_n 0, 1) := by decide +kernel
theorem dX6_isTelling_27 : decode cX6_isTelling 27 = .ok (.iload_n 3, 1) := by decide +kernel
theorem dX6_isTelling_28 : decode cX6_isTelling 28 = .ok (.invokevirtual 217, 3) := by decide +kernel
theorem dX6_isTelling_31 : decode cX6_isTelling 31 = .ok (.istore_n 3, 1) := by decide +kernel
theorem dX6_isTelling_32 : decode cX6_isTelling 32 = .ok (.goto (-26), 3) := by decide +kernel
theorem dX6_isTelling_35 : decode cX6_isTelling 35 = .ok (.iconst 1, 1) := by decide +kernel
theorem dX6_isTelling_36 : decode cX6_isTelling 36 = .ok (.ireturn, 1) := by decide +kernel
theorem dX6_telling_0 : decode cX6_telling 0 = .ok (.iconst 0, 1) := by decide +kernel
theorem dX6_telling_1 : decode cX6_telling 1 = .ok (.istore 4, 2) := by decide +kernel
theorem dX6_telling_3 : decode cX6_telling 3 = .ok (.iconst 0, 1) := by decide +kernel
theorem dX6_telling_4 : decode cX6_telling 4 = .ok (.istore 5, 2) := by decide +kernel
theorem dX6_telling_6 : decode cX6_telling 6 = .ok (.iload 5, 2) := by decide +kernel
theorem dX6_telling_8 : decode cX6_telling 8 = .ok (.bipush 16, 2) := by decide +kernel
theorem dX6_telling_10 : decode cX6_telling 10 = .ok (.if_icmp .ge 129, 3) := by decide +kernel
theorem dX6_telling_13 : decode cX6_telling 13 = .ok (.iload_n 2, 1) := by decide +kernel
theorem dX6_telling_14 : decode cX6_telling 14 = .ok (.iconst 1, 1) := by decide +kernel
theorem dX6_telling_15 : decode cX6_telling 15 = .ok (.if_icmp .le 10, 3) := by decide +kernel
theorem dX6_telling_18 : decode cX6_telling 18 = .ok (.iload 5, 2) := by decide +kernel
theorem dX6_telling_20 : decode cX6_telling 20 = .ok (.iconst 1, 1) := by decide +kernel
theorem dX6_telling_21 : decode cX6_telling 21 = .ok (.iadd, 1) := by decide +kernel
theorem dX6_telling_22 : decode cX6_telling 22 = .ok (.goto 5, 3) := by decide +kernel
theorem dX6_telling_25 : decode cX6_telling 25 = .ok (.bipush 15, 2) := by decide +kernel
theorem dX6_telling_27 : decode cX6_telling 27 = .ok (.istore 6, 2) := by decide +kernel
theorem dX6_telling_29 : decode cX6_telling 29 = .ok (.iload 6, 2) := by decide +kernel
theorem dX6_telling_31 : decode cX6_telling 31 = .ok (.bipush 16, 2) := by decide +kernel
theorem dX6_telling_33 : decode cX6_telling 33 = .ok (.if_icmp .ge 100, 3) := by decide +kernel
theorem dX6_telling_36 : decode cX6_telling 36 = .ok (.iload_n 2, 1) := by decide +kernel
theorem dX6_telling_37 : decode cX6_telling 37 = .ok (.iconst 2, 1) := by decide +kernel
theorem dX6_telling_38 : decode cX6_telling 38 = .ok (.if_icmp .le 10, 3) := by decide +kernel
theorem dX6_telling_41 : decode cX6_telling 41 = .ok (.iload 6, 2) := by decide +kernel
theorem dX6_telling_43 : decode cX6_telling 43 = .ok (.iconst 1, 1) := by decide +kernel
theorem dX6_telling_44 : decode cX6_telling 44 = .ok (.iadd, 1) := by decide +kernel
theorem dX6_telling_45 : decode cX6_telling 45 = .ok (.goto 5, 3) := by decide +kernel
theorem dX6_telling_48 : decode cX6_telling 48 = .ok (.bipush 15, 2) := by decide +kernel
theorem dX6_telling_50 : decode cX6_telling 50 = .ok (.istore 7, 2) := by decide +kernel
theorem dX6_telling_52 : decode cX6_telling 52 = .ok (.iload 7, 2) := by decide +kernel
theorem dX6_telling_54 : decode cX6_telling 54 = .ok (.bipush 16, 2) := by decide +kernel
theorem dX6_telling_56 : decode cX6_telling 56 = .ok (.if_icmp .ge 71, 3) := by decide +kernel
theorem dX6_telling_59 : decode cX6_telling 59 = .ok (.iconst 1, 1) := by decide +kernel
theorem dX6_telling_60 : decode cX6_telling 60 = .ok (.iload 5, 2) := by decide +kernel
theorem dX6_telling_62 : decode cX6_telling 62 = .ok (.ishl, 1) := by decide +kernel
theorem dX6_telling_63 : decode cX6_telling 63 = .ok (.iload_n 2, 1) := by decide +kernel
theorem dX6_telling_64 : decode cX6_telling 64 = .ok (.iconst 1, 1) := by decide +kernel
theorem dX6_telling_65 : decode cX6_telling 65 = .ok (.if_icmp .le 10, 3) := by decide +kernel
theorem dX6_telling_68 : decode cX6_telling 68 = .ok (.iconst 1, 1) := by decide +kernel
theorem dX6_telling_69 : decode cX6_telling 69 = .ok (.iload 6, 2) := by decide +kernel
theorem dX6_telling_71 : decode cX6_telling 71 = .ok (.ishl, 1) := by decide +kernel
theorem dX6_telling_72 : decode cX6_telling 72 = .ok (.goto 4, 3) := by decide +kernel
theorem dX6_telling_75 : decode cX6_telling 75 = .ok (.iconst 0, 1) := by decide +kernel
theorem dX6_telling_76 : decode cX6_telling 76 = .ok (.ior, 1) := by decide +kernel
theorem dX6_telling_77 : decode cX6_telling 77 = .ok (.iload_n 2, 1) := by decide +kernel
theorem dX6_telling_78 : decode cX6_telling 78 = .ok (.iconst 2, 1) := by decide +kernel
theorem dX6_telling_79 : decode cX6_telling 79 = .ok (.if_icmp .le 10, 3) := by decide +kernel
theorem dX6_telling_82 : decode cX6_telling 82 = .ok (.iconst 1, 1) := by decide +kernel
theorem dX6_telling_83 : decode cX6_telling 83 = .ok (.iload 7, 2) := by decide +kernel
theorem dX6_telling_85 : decode cX6_telling 85 = .ok (.ishl, 1) := by decide +kernel
theorem dX6_telling_86 : decode cX6_telling 86 = .ok (.goto 4, 3) := by decide +kernel
theorem dX6_telling_89 : decode cX6_telling 89 = .ok (.iconst 0, 1) := by decide +kernel
theorem dX6_telling_90 : decode cX6_telling 90 = .ok (.ior, 1) := by decide +kernel
theorem dX6_telling_91 : decode cX6_telling 91 = .ok (.istore 8, 2) := by decide +kernel
theorem dX6_telling_93 : decode cX6_telling 93 = .ok (.iload 4, 2) := by decide +kernel
theorem dX6_telling_95 : decode cX6_telling 95 = .ok (.ifCond .ne 26, 3) := by decide +kernel
theorem dX6_telling_98 : decode cX6_telling 98 = .ok (.iload 8, 2) := by decide +kernel
theorem dX6_telling_100 : decode cX6_telling 100 = .ok (.iload_n 3, 1) := by decide +kernel
theorem dX6_telling_101 : decode cX6_telling 101 = .ok (.iconst (-1), 1) := by decide +kernel
theorem dX6_telling_102 : decode cX6_telling 102 = .ok (.ixor, 1) := by decide +kernel
theorem dX6_telling_103 : decode cX6_telling 103 = .ok (.iand, 1) := by decide +kernel
theorem dX6_telling_104 : decode cX6_telling 104 = .ok (.ifCond .ne 17, 3) := by decide +kernel
theorem dX6_telling_107 : decode cX6_telling 107 = .ok (.aload_n 0, 1) := by decide +kernel
theorem dX6_telling_108 : decode cX6_telling 108 = .ok (.iload_n 1, 1) := by decide +kernel
theorem dX6_telling_109 : decode cX6_telling 109 = .ok (.iload 8, 2) := by decide +kernel
theorem dX6_telling_111 : decode cX6_telling 111 = .ok (.invokevirtual 278, 3) := by decide +kernel
theorem dX6_telling_114 : decode cX6_telling 114 = .ok (.ifCond .eq 7, 3) := by decide +kernel
theorem dX6_telling_117 : decode cX6_telling 117 = .ok (.iload 8, 2) := by decide +kernel
theorem dX6_telling_119 : decode cX6_telling 119 = .ok (.istore 4, 2) := by decide +kernel
theorem dX6_telling_121 : decode cX6_telling 121 = .ok (.iinc 7 1, 3) := by decide +kernel
theorem dX6_telling_124 : decode cX6_telling 124 = .ok (.goto (-72), 3) := by decide +kernel
theorem dX6_telling_127 : decode cX6_telling 127 = .ok (.iinc 6 1, 3) := by decide +kernel
theorem dX6_telling_130 : decode cX6_telling 130 = .ok (.goto (-101), 3) := by decide +kernel
theorem dX6_telling_133 : decode cX6_telling 133 = .ok (.iinc 5 1, 3) := by decide +kernel
theorem dX6_telling_136 : decode cX6_telling 136 = .ok (.goto (-130), 3) := by decide +kernel
theorem dX6_telling_139 : decode cX6_telling 139 = .ok (.iload 4, 2) := by decide +kernel
theorem dX6_telling_141 : decode cX6_telling 141 = .ok (.ireturn, 1) := by decide +kernel
theorem dX6_hintsOf_0 : decode cX6_hintsOf 0 = .ok (.aload_n 0, 1) := by decide +kernel
theorem dX6_hintsOf_1 : decode cX6_hintsOf 1 = .ok (.getfield 201, 3) := by decide +kernel
theorem dX6_hintsOf_4 : decode cX6_hintsOf 4 = .ok (.iconst 1, 1) := by decide +kernel
theorem dX6_hintsOf_5 : decode cX6_hintsOf 5 = .ok (.if_icmp .ne 13, 3) := by decide +kernel
theorem dX6_hintsOf_8 : decode cX6_hintsOf 8 = .ok (.iload_n 2, 1) := by decide +kernel
theorem dX6_hintsOf_9 : decode cX6_hintsOf 9 = .ok (.ifCond .ne 7, 3) := by decide +kernel
theorem dX6_hintsOf_12 : decode cX6_hintsOf 12 = .ok (.iconst 0, 1) := by decide +kernel
theorem dX6_hintsOf_13 : decode cX6_hintsOf 13 = .ok (.goto 4, 3) := by decide +kernel
theorem dX6_hintsOf_16 : decode cX6_hintsOf 16 = .ok (.iconst (-1), 1) := by decide +kernel
theorem dX6_hintsOf_17 : decode cX6_hintsOf 17 = .ok (.ireturn, 1) := by decide +kernel
theorem dX6_hintsOf_18 : decode cX6_hintsOf 18 = .ok (.iconst 1, 1) := by decide +kernel
theorem dX6_hintsOf_19 : decode cX6_hintsOf 19 = .ok (.aload_n 0, 1) := by decide +kernel
theorem dX6_hintsOf_20 : decode cX6_hintsOf 20 = .ok (.getfield 141, 3) := by decide +kernel
theorem dX6_hintsOf_23 : decode cX6_hintsOf 23 = .ok (.aload_n 0, 1) := by decide +kernel
theorem dX6_hintsOf_24 : decode cX6_hintsOf 24 = .ok (.getfield 144, 3) := by decide +kernel
theorem dX6_hintsOf_27 : decode cX6_hintsOf 27 = .ok (.imul, 1) := by decide +kernel
theorem dX6_hintsOf_28 : decode cX6_hintsOf 28 = .ok (.ishl, 1) := by decide +kernel
theorem dX6_hintsOf_29 : decode cX6_hintsOf 29 = .ok (.iconst 1, 1) := by decide +kernel
theorem dX6_hintsOf_30 : decode cX6_hintsOf 30 = .ok (.isub, 1) := by decide +kernel
theorem dX6_hintsOf_31 : decode cX6_hintsOf 31 = .ok (.aload_n 0, 1) := by decide +kernel
theorem dX6_hintsOf_32 : decode cX6_hintsOf 32 = .ok (.iconst 1, 1) := by decide +kernel
theorem dX6_hintsOf_33 : decode cX6_hintsOf 33 = .ok (.invokevirtual 204, 3) := by decide +kernel
theorem dX6_hintsOf_36 : decode cX6_hintsOf 36 = .ok (.isub, 1) := by decide +kernel
theorem dX6_hintsOf_37 : decode cX6_hintsOf 37 = .ok (.aload_n 0, 1) := by decide +kernel
theorem dX6_hintsOf_38 : decode cX6_hintsOf 38 = .ok (.iconst 2, 1) := by decide +kernel
theorem dX6_hintsOf_39 : decode cX6_hintsOf 39 = .ok (.invokevirtual 204, 3) := by decide +kernel
theorem dX6_hintsOf_42 : decode cX6_hintsOf 42 = .ok (.isub, 1) := by decide +kernel
theorem dX6_hintsOf_43 : decode cX6_hintsOf 43 = .ok (.istore_n 3, 1) := by decide +kernel
theorem dX6_hintsOf_44 : decode cX6_hintsOf 44 = .ok (.iconst 1, 1) := by decide +kernel
theorem dX6_hintsOf_45 : decode cX6_hintsOf 45 = .ok (.istore 4, 2) := by decide +kernel
theorem dX6_hintsOf_47 : decode cX6_hintsOf 47 = .ok (.iload 4, 2) := by decide +kernel
theorem dX6_hintsOf_49 : decode cX6_hintsOf 49 = .ok (.iconst 4, 1) := by decide +kernel
theorem dX6_hintsOf_50 : decode cX6_hintsOf 50 = .ok (.if_icmp .ge 96, 3) := by decide +kernel
theorem dX6_hintsOf_53 : decode cX6_hintsOf 53 = .ok (.aload_n 0, 1) := by decide +kernel
theorem dX6_hintsOf_54 : decode cX6_hintsOf 54 = .ok (.iload_n 1, 1) := by decide +kernel
theorem dX6_hintsOf_55 : decode cX6_hintsOf 55 = .ok (.iload 4, 2) := by decide +kernel
theorem dX6_hintsOf_57 : decode cX6_hintsOf 57 = .ok (.iload_n 3, 1) := by decide +kernel
theorem dX6_hintsOf_58 : decode cX6_hintsOf 58 = .ok (.invokevirtual 282, 3) := by decide +kernel
theorem dX6_hintsOf_61 : decode cX6_hintsOf 61 = .ok (.istore 5, 2) := by decide +kernel
theorem dX6_hintsOf_63 : decode cX6_hintsOf 63 = .ok (.iload 5, 2) := by decide +kernel
theorem dX6_hintsOf_65 : decode cX6_hintsOf 65 = .ok (.ifCond .eq 75, 3) := by decide +kernel
theorem dX6_hintsOf_68 : decode cX6_hintsOf 68 = .ok (.iconst 0, 1) := by decide +kernel
theorem dX6_hintsOf_69 : decode cX6_hintsOf 69 = .ok (.istore 6, 2) := by decide +kernel
theorem dX6_hintsOf_71 : decode cX6_hintsOf 71 = .ok (.iconst (-1), 1) := by decide +kernel
theorem dX6_hintsOf_72 : decode cX6_hintsOf 72 = .ok (.istore 7, 2) := by decide +kernel
theorem dX6_hintsOf_74 : decode cX6_hintsOf 74 = .ok (.iconst 0, 1) := by decide +kernel
theorem dX6_hintsOf_75 : decode cX6_hintsOf 75 = .ok (.istore 8, 2) := by decide +kernel
theorem dX6_hintsOf_77 : decode cX6_hintsOf 77 = .ok (.iload 8, 2) := by decide +kernel
theorem dX6_hintsOf_79 : decode cX6_hintsOf 79 = .ok (.bipush 16, 2) := by decide +kernel
theorem dX6_hintsOf_81 : decode cX6_hintsOf 81 = .ok (.if_icmp .ge 47, 3) := by decide +kernel
theorem dX6_hintsOf_84 : decode cX6_hintsOf 84 = .ok (.iload 6, 2) := by decide +kernel
theorem dX6_hintsOf_86 : decode cX6_hintsOf 86 = .ok (.iload 5, 2) := by decide +kernel
theorem dX6_hintsOf_88 : decode cX6_hintsOf 88 = .ok (.iload 8, 2) := by decide +kernel
theorem dX6_hintsOf_90 : decode cX6_hintsOf 90 = .ok (.ishr, 1) := by decide +kernel
theorem dX6_hintsOf_91 : decode cX6_hintsOf 91 = .ok (.iconst 1, 1) := by decide +kernel
theorem dX6_hintsOf_92 : decode cX6_hintsOf 92 = .ok (.iand, 1) := by decide +kernel
theorem dX6_hintsOf_93 : decode cX6_hintsOf 93 = .ok (.iadd, 1) := by decide +kernel
theorem dX6_hintsOf_94 : decode cX6_hintsOf 94 = .ok (.istore 6, 2) := by decide +kernel
theorem dX6_hintsOf_96 : decode cX6_hintsOf 96 = .ok (.iload 5, 2) := by decide +kernel
theorem dX6_hintsOf_98 : decode cX6_hintsOf 98 = .ok (.iload 8, 2) := by decide +kernel
theorem dX6_hintsOf_100 : decode cX6_hintsOf 100 = .ok (.ishr, 1) := by decide +kernel
theorem dX6_hintsOf_101 : decode cX6_hintsOf 101 = .ok (.iconst 1, 1) := by decide +kernel
theorem dX6_hintsOf_102 : decode cX6_hintsOf 102 = .ok (.iand, 1) := by decide +kernel
theorem dX6_hintsOf_103 : decode cX6_hintsOf 103 = .ok (.iconst 1, 1) := by decide +kernel
theorem dX6_hintsOf_104 : decode cX6_hintsOf 104 = .ok (.if_icmp .ne 14, 3) := by decide +kernel
theorem dX6_hintsOf_107 : decode cX6_hintsOf 107 = .ok (.iload 6, 2) := by decide +kernel
theorem dX6_hintsOf_109 : decode cX6_hintsOf 109 = .ok (.iload_n 2, 1) := by decide +kernel
theorem dX6_hintsOf_110 : decode cX6_hintsOf 110 = .ok (.if_icmp .ne 8, 3) := by decide +kernel
theorem dX6_hintsOf_113 : decode cX6_hintsOf 113 = .ok (.iload 8, 2) := by decide +kernel
theorem dX6_hintsOf_115 : decode cX6_hintsOf 115 = .ok (.goto 5, 3) := by decide +kernel
theorem dX6_hintsOf_118 : decode cX6_hintsOf 118 = .ok (.iload 7, 2) := by decide +kernel
theorem dX6_hintsOf_120 : decode cX6_hintsOf 120 = .ok (.istore 7, 2) := by decide +kernel
theorem dX6_hintsOf_122 : decode cX6_hintsOf 122 = .ok (.iinc 8 1, 3) := by decide +kernel
theorem dX6_hintsOf_125 : decode cX6_hintsOf 125 = .ok (.goto (-48), 3) := by decide +kernel
theorem dX6_hintsOf_128 : decode cX6_hintsOf 128 = .ok (.iload_n 2, 1) := by decide +kernel
theorem dX6_hintsOf_129 : decode cX6_hintsOf 129 = .ok (.ifCond .ne 8, 3) := by decide +kernel
theorem dX6_hintsOf_132 : decode cX6_hintsOf 132 = .ok (.iload 4, 2) := by decide +kernel
theorem dX6_hintsOf_134 : decode cX6_hintsOf 134 = .ok (.goto 5, 3) := by decide +kernel
theorem dX6_hintsOf_137 : decode cX6_hintsOf 137 = .ok (.iload 7, 2) := by decide +kernel
theorem dX6_hintsOf_139 : decode cX6_hintsOf 139 = .ok (.ireturn, 1) := by decide +kernel
theorem dX6_hintsOf_140 : decode cX6_hintsOf 140 = .ok (.iinc 4 1, 3) := by decide +kernel
theorem dX6_hintsOf_143 : decode cX6_hintsOf 143 = .ok (.goto (-96), 3) := by decide +kernel
theorem dX6_hintsOf_146 : decode cX6_hintsOf 146 = .ok (.iconst (-1), 1) := by decide +kernel
theorem dX6_hintsOf_147 : decode cX6_hintsOf 147 = .ok (.ireturn, 1) := by decide +kernel
theorem dX6_hints_0 : decode cX6_hints 0 = .ok (.aload_n 0, 1) := by decide +kernel
theorem dX6_hints_1 : decode cX6_hints 1 = .ok (.invokevirtual 223, 3) := by decide +kernel
theorem dX6_hints_4 : decode cX6_hints 4 = .ok (.ifCond .ne 26, 3) := by decide +kernel
theorem dX6_hints_7 : decode cX6_hints 7 = .ok (.iload_n 1, 1) := by decide +kernel
theorem dX6_hints_8 : decode cX6_hints 8 = .ok (.i2l, 1) := by decide +kernel
theorem dX6_hints_9 : decode cX6_hints 9 = .ok (.lconst 0, 1) := by decide +kernel
theorem dX6_hints_10 : decode cX6_hints 10 = .ok (.iconst 1, 1) := by decide +kernel
theorem dX6_hints_11 : decode cX6_hints 11 = .ok (.aload_n 0, 1) := by decide +kernel
theorem dX6_hints_12 : decode cX6_hints 12 = .ok (.getfield 141, 3) := by decide +kernel
theorem dX6_hints_15 : decode cX6_hints 15 = .ok (.aload_n 0, 1) := by decide +kernel
theorem dX6_hints_16 : decode cX6_hints 16 = .ok (.getfield 144, 3) := by decide +kernel
theorem dX6_hints_19 : decode cX6_hints 19 = .ok (.imul, 1) := by decide +kernel
theorem dX6_hints_20 : decode cX6_hints 20 = .ok (.ishl, 1) := by decide +kernel
theorem dX6_hints_21 : decode cX6_hints 21 = .ok (.iconst 1, 1) := by decide +kernel
theorem dX6_hints_22 : decode cX6_hints 22 = .ok (.isub, 1) := by decide +kernel
theorem dX6_hints_23 : decode cX6_hints 23 = .ok (.i2l, 1) := by decide +kernel
theorem dX6_hints_24 : decode cX6_hints 24 = .ok (.invokestatic 78, 3) := by decide +kernel
theorem dX6_hints_27 : decode cX6_hints 27 = .ok (.ifCond .ne 6, 3) := by decide +kernel
theorem dX6_hints_30 : decode cX6_hints 30 = .ok (.bipush (-101), 2) := by decide +kernel
theorem dX6_hints_32 : decode cX6_hints 32 = .ok (.ireturn, 1) := by decide +kernel
theorem dX6_hints_33 : decode cX6_hints 33 = .ok (.aload_n 0, 1) := by decide +kernel
theorem dX6_hints_34 : decode cX6_hints 34 = .ok (.invokevirtual 220, 3) := by decide +kernel
theorem dX6_hints_37 : decode cX6_hints 37 = .ok (.aload_n 0, 1) := by decide +kernel
theorem dX6_hints_38 : decode cX6_hints 38 = .ok (.iload_n 1, 1) := by decide +kernel
theorem dX6_hints_39 : decode cX6_hints 39 = .ok (.invokevirtual 214, 3) := by decide +kernel
theorem dX6_hints_42 : decode cX6_hints 42 = .ok (.ifCond .ne 6, 3) := by decide +kernel
theorem dX6_hints_45 : decode cX6_hints 45 = .ok (.bipush (-101), 2) := by decide +kernel
theorem dX6_hints_47 : decode cX6_hints 47 = .ok (.ireturn, 1) := by decide +kernel
theorem dX6_hints_48 : decode cX6_hints 48 = .ok (.iload_n 2, 1) := by decide +kernel
theorem dX6_hints_49 : decode cX6_hints 49 = .ok (.i2l, 1) := by decide +kernel
theorem dX6_hints_50 : decode cX6_hints 50 = .ok (.lconst 0, 1) := by decide +kernel
theorem dX6_hints_51 : decode cX6_hints 51 = .ok (.ldc2_w 286, 3) := by decide +kernel
theorem dX6_hints_54 : decode cX6_hints 54 = .ok (.invokestatic 78, 3) := by decide +kernel
theorem dX6_hints_57 : decode cX6_hints 57 = .ok (.ifCond .ne 6, 3) := by decide +kernel
theorem dX6_hints_60 : decode cX6_hints 60 = .ok (.bipush (-102), 2) := by decide +kernel
theorem dX6_hints_62 : decode cX6_hints 62 = .ok (.ireturn, 1) := by decide +kernel
theorem dX6_hints_63 : decode cX6_hints 63 = .ok (.aload_n 0, 1) := by decide +kernel
theorem dX6_hints_64 : decode cX6_hints 64 = .ok (.getfield 288, 3) := by decide +kernel
theorem dX6_hints_67 : decode cX6_hints 67 = .ok (.bipush 12, 2) := by decide +kernel
theorem dX6_hints_69 : decode cX6_hints 69 = .ok (.if_icmp .ne 6, 3) := by decide +kernel
theorem dX6_hints_72 : decode cX6_hints 72 = .ok (.bipush (-103), 2) := by decide +kernel
theorem dX6_hints_74 : decode cX6_hints 74 = .ok (.ireturn, 1) := by decide +kernel
theorem dX6_hints_75 : decode cX6_hints 75 = .ok (.aload_n 0, 1) := by decide +kernel
theorem dX6_hints_76 : decode cX6_hints 76 = .ok (.dup, 1) := by decide +kernel
theorem dX6_hints_77 : decode cX6_hints 77 = .ok (.getfield 288, 3) := by decide +kernel
theorem dX6_hints_80 : decode cX6_hints 80 = .ok (.iconst 1, 1) := by decide +kernel
theorem dX6_hints_81 : decode cX6_hints 81 = .ok (.iadd, 1) := by decide +kernel
theorem dX6_hints_82 : decode cX6_hints 82 = .ok (.putfield 288, 3) := by decide +kernel
theorem dX6_hints_85 : decode cX6_hints 85 = .ok (.aload_n 0, 1) := by decide +kernel
theorem dX6_hints_86 : decode cX6_hints 86 = .ok (.iload_n 1, 1) := by decide +kernel
theorem dX6_hints_87 : decode cX6_hints 87 = .ok (.iload_n 2, 1) := by decide +kernel
theorem dX6_hints_88 : decode cX6_hints 88 = .ok (.invokevirtual 291, 3) := by decide +kernel
theorem dX6_hints_91 : decode cX6_hints 91 = .ok (.ireturn, 1) := by decide +kernel
theorem dX6_isOneBy_0 : decode cX6_isOneBy 0 = .ok (.aload_n 0, 1) := by decide +kernel
theorem dX6_isOneBy_1 : decode cX6_isOneBy 1 = .ok (.getfield 22, 3) := by decide +kernel
theorem dX6_isOneBy_4 : decode cX6_isOneBy 4 = .ok (.iload_n 1, 1) := by decide +kernel
theorem dX6_isOneBy_5 : decode cX6_isOneBy 5 = .ok (.iaload, 1) := by decide +kernel
theorem dX6_isOneBy_6 : decode cX6_isOneBy 6 = .ok (.istore 5, 2) := by decide +kernel
theorem dX6_isOneBy_8 : decode cX6_isOneBy 8 = .ok (.aload_n 0, 1) := by decide +kernel
theorem dX6_isOneBy_9 : decode cX6_isOneBy 9 = .ok (.getfield 25, 3) := by decide +kernel
theorem dX6_isOneBy_12 : decode cX6_isOneBy 12 = .ok (.iload_n 1, 1) := by decide +kernel
theorem dX6_isOneBy_13 : decode cX6_isOneBy 13 = .ok (.iaload, 1) := by decide +kernel
theorem dX6_isOneBy_14 : decode cX6_isOneBy 14 = .ok (.istore 6, 2) := by decide +kernel
theorem dX6_isOneBy_16 : decode cX6_isOneBy 16 = .ok (.aload_n 0, 1) := by decide +kernel
theorem dX6_isOneBy_17 : decode cX6_isOneBy 17 = .ok (.getfield 28, 3) := by decide +kernel
theorem dX6_isOneBy_20 : decode cX6_isOneBy 20 = .ok (.iload_n 1, 1) := by decide +kernel
theorem dX6_isOneBy_21 : decode cX6_isOneBy 21 = .ok (.iaload, 1) := by decide +kernel
theorem dX6_isOneBy_22 : decode cX6_isOneBy 22 = .ok (.istore 7, 2) := by decide +kernel
theorem dX6_isOneBy_24 : decode cX6_isOneBy 24 = .ok (.aload_n 0, 1) := by decide +kernel
theorem dX6_isOneBy_25 : decode cX6_isOneBy 25 = .ok (.getfield 22, 3) := by decide +kernel
theorem dX6_isOneBy_28 : decode cX6_isOneBy 28 = .ok (.iload_n 1, 1) := by decide +kernel
theorem dX6_isOneBy_29 : decode cX6_isOneBy 29 = .ok (.iload_n 2, 1) := by decide +kernel
theorem dX6_isOneBy_30 : decode cX6_isOneBy 30 = .ok (.iastore, 1) := by decide +kernel
theorem dX6_isOneBy_31 : decode cX6_isOneBy 31 = .ok (.aload_n 0, 1) := by decide +kernel
theorem dX6_isOneBy_32 : decode cX6_isOneBy 32 = .ok (.getfield 25, 3) := by decide +kernel
theorem dX6_isOneBy_35 : decode cX6_isOneBy 35 = .ok (.iload_n 1, 1) := by decide +kernel
theorem dX6_isOneBy_36 : decode cX6_isOneBy 36 = .ok (.iload_n 3, 1) := by decide +kernel
theorem dX6_isOneBy_37 : decode cX6_isOneBy 37 = .ok (.iastore, 1) := by decide +kernel
theorem dX6_isOneBy_38 : decode cX6_isOneBy 38 = .ok (.aload_n 0, 1) := by decide +kernel
theorem dX6_isOneBy_39 : decode cX6_isOneBy 39 = .ok (.getfield 28, 3) := by decide +kernel
theorem dX6_isOneBy_42 : decode cX6_isOneBy 42 = .ok (.iload_n 1, 1) := by decide +kernel
theorem dX6_isOneBy_43 : decode cX6_isOneBy 43 = .ok (.iload 4, 2) := by decide +kernel
theorem dX6_isOneBy_45 : decode cX6_isOneBy 45 = .ok (.iastore, 1) := by decide +kernel
theorem dX6_isOneBy_46 : decode cX6_isOneBy 46 = .ok (.aload_n 0, 1) := by decide +kernel
theorem dX6_isOneBy_47 : decode cX6_isOneBy 47 = .ok (.iconst (-1), 1) := by decide +kernel
theorem dX6_isOneBy_48 : decode cX6_isOneBy 48 = .ok (.putfield 189, 3) := by decide +kernel
theorem dX6_isOneBy_51 : decode cX6_isOneBy 51 = .ok (.aload_n 0, 1) := by decide +kernel
theorem dX6_isOneBy_52 : decode cX6_isOneBy 52 = .ok (.invokevirtual 211, 3) := by decide +kernel
theorem dX6_isOneBy_55 : decode cX6_isOneBy 55 = .ok (.aload_n 0, 1) := by decide +kernel
theorem dX6_isOneBy_56 : decode cX6_isOneBy 56 = .ok (.getfield 22, 3) := by decide +kernel
theorem dX6_isOneBy_59 : decode cX6_isOneBy 59 = .ok (.iload_n 1, 1) := by decide +kernel
theorem dX6_isOneBy_60 : decode cX6_isOneBy 60 = .ok (.iload 5, 2) := by decide +kernel
theorem dX6_isOneBy_62 : decode cX6_isOneBy 62 = .ok (.iastore, 1) := by decide +kernel
theorem dX6_isOneBy_63 : decode cX6_isOneBy 63 = .ok (.aload_n 0, 1) := by decide +kernel
theorem dX6_isOneBy_64 : decode cX6_isOneBy 64 = .ok (.getfield 25, 3) := by decide +kernel
theorem dX6_isOneBy_67 : decode cX6_isOneBy 67 = .ok (.iload_n 1, 1) := by decide +kernel
theorem dX6_isOneBy_68 : decode cX6_isOneBy 68 = .ok (.iload 6, 2) := by decide +kernel
theorem dX6_isOneBy_70 : decode cX6_isOneBy 70 = .ok (.iastore, 1) := by decide +kernel
theorem dX6_isOneBy_71 : decode cX6_isOneBy 71 = .ok (.aload_n 0, 1) := by decide +kernel
theorem dX6_isOneBy_72 : decode cX6_isOneBy 72 = .ok (.getfield 28, 3) := by decide +kernel
theorem dX6_isOneBy_75 : decode cX6_isOneBy 75 = .ok (.iload_n 1, 1) := by decide +kernel
theorem dX6_isOneBy_76 : decode cX6_isOneBy 76 = .ok (.iload 7, 2) := by decide +kernel
theorem dX6_isOneBy_78 : decode cX6_isOneBy 78 = .ok (.iastore, 1) := by decide +kernel
theorem dX6_isOneBy_79 : decode cX6_isOneBy 79 = .ok (.aload_n 0, 1) := by decide +kernel
theorem dX6_isOneBy_80 : decode cX6_isOneBy 80 = .ok (.iconst 1, 1) := by decide +kernel
theorem dX6_isOneBy_81 : decode cX6_isOneBy 81 = .ok (.putfield 72, 3) := by decide +kernel
theorem dX6_isOneBy_84 : decode cX6_isOneBy 84 = .ok (.aload_n 0, 1) := by decide +kernel
theorem dX6_isOneBy_85 : decode cX6_isOneBy 85 = .ok (.getfield 201, 3) := by decide +kernel
theorem dX6_isOneBy_88 : decode cX6_isOneBy 88 = .ok (.iconst 1, 1) := by decide +kernel
theorem dX6_isOneBy_89 : decode cX6_isOneBy 89 = .ok (.if_icmp .ne 7, 3) := by decide +kernel
theorem dX6_isOneBy_92 : decode cX6_isOneBy 92 = .ok (.iconst 1, 1) := by decide +kernel
theorem dX6_isOneBy_93 : decode cX6_isOneBy 93 = .ok (.goto 4, 3) := by decide +kernel
theorem dX6_isOneBy_96 : decode cX6_isOneBy 96 = .ok (.iconst 0, 1) := by decide +kernel
theorem dX6_isOneBy_97 : decode cX6_isOneBy 97 = .ok (.ireturn, 1) := by decide +kernel
theorem dX6_oneOf_0 : decode cX6_oneOf 0 = .ok (.iconst 0, 1) := by decide +kernel
theorem dX6_oneOf_1 : decode cX6_oneOf 1 = .ok (.istore_n 2, 1) := by decide +kernel
theorem dX6_oneOf_2 : decode cX6_oneOf 2 = .ok (.iload_n 2, 1) := by decide +kernel
theorem dX6_oneOf_3 : decode cX6_oneOf 3 = .ok (.aload_n 0, 1) := by decide +kernel
theorem dX6_oneOf_4 : decode cX6_oneOf 4 = .ok (.iload_n 1, 1) := by decide +kernel
theorem dX6_oneOf_5 : decode cX6_oneOf 5 = .ok (.invokevirtual 183, 3) := by decide +kernel
theorem dX6_oneOf_8 : decode cX6_oneOf 8 = .ok (.if_icmp .gt 71, 3) := by decide +kernel
theorem dX6_oneOf_11 : decode cX6_oneOf 11 = .ok (.aload_n 0, 1) := by decide +kernel
theorem dX6_oneOf_12 : decode cX6_oneOf 12 = .ok (.getfield 28, 3) := by decide +kernel
theorem dX6_oneOf_15 : decode cX6_oneOf 15 = .ok (.iload_n 1, 1) := by decide +kernel
theorem dX6_oneOf_16 : decode cX6_oneOf 16 = .ok (.iaload, 1) := by decide +kernel
theorem dX6_oneOf_17 : decode cX6_oneOf 17 = .ok (.iload_n 2, 1) := by decide +kernel
theorem dX6_oneOf_18 : decode cX6_oneOf 18 = .ok (.aload_n 0, 1) := by decide +kernel
theorem dX6_oneOf_19 : decode cX6_oneOf 19 = .ok (.iload_n 1, 1) := by decide +kernel
theorem dX6_oneOf_20 : decode cX6_oneOf 20 = .ok (.invokevirtual 183, 3) := by decide +kernel
theorem dX6_oneOf_23 : decode cX6_oneOf 23 = .ok (.invokestatic 112, 3) := by decide +kernel
theorem dX6_oneOf_26 : decode cX6_oneOf 26 = .ok (.if_icmp .le 7, 3) := by decide +kernel
theorem dX6_oneOf_29 : decode cX6_oneOf 29 = .ok (.iconst 0, 1) := by decide +kernel
theorem dX6_oneOf_30 : decode cX6_oneOf 30 = .ok (.goto 9, 3) := by decide +kernel
theorem dX6_oneOf_33 : decode cX6_oneOf 33 = .ok (.aload_n 0, 1) := by decide +kernel
theorem dX6_oneOf_34 : decode cX6_oneOf 34 = .ok (.getfield 28, 3) := by decide +kernel
theorem dX6_oneOf_37 : decode cX6_oneOf 37 = .ok (.iload_n 1, 1) := by decide +kernel
theorem dX6_oneOf_38 : decode cX6_oneOf 38 = .ok (.iaload, 1) := by decide +kernel
theorem dX6_oneOf_39 : decode cX6_oneOf 39 = .ok (.istore_n 3, 1) := by decide +kernel
theorem dX6_oneOf_40 : decode cX6_oneOf 40 = .ok (.iload_n 2, 1) := by decide +kernel
theorem dX6_oneOf_41 : decode cX6_oneOf 41 = .ok (.aload_n 0, 1) := by decide +kernel
theorem dX6_oneOf_42 : decode cX6_oneOf 42 = .ok (.getfield 25, 3) := by decide +kernel
theorem dX6_oneOf_45 : decode cX6_oneOf 45 = .ok (.iload_n 1, 1) := by decide +kernel
theorem dX6_oneOf_46 : decode cX6_oneOf 46 = .ok (.iaload, 1) := by decide +kernel
theorem dX6_oneOf_47 : decode cX6_oneOf 47 = .ok (.if_icmp .eq 26, 3) := by decide +kernel
theorem dX6_oneOf_50 : decode cX6_oneOf 50 = .ok (.aload_n 0, 1) := by decide +kernel
theorem dX6_oneOf_51 : decode cX6_oneOf 51 = .ok (.iload_n 1, 1) := by decide +kernel
theorem dX6_oneOf_52 : decode cX6_oneOf 52 = .ok (.aload_n 0, 1) := by decide +kernel
theorem dX6_oneOf_53 : decode cX6_oneOf 53 = .ok (.getfield 22, 3) := by decide +kernel
theorem dX6_oneOf_56 : decode cX6_oneOf 56 = .ok (.iload_n 1, 1) := by decide +kernel
theorem dX6_oneOf_57 : decode cX6_oneOf 57 = .ok (.iaload, 1) := by decide +kernel
theorem dX6_oneOf_58 : decode cX6_oneOf 58 = .ok (.iload_n 2, 1) := by decide +kernel
theorem dX6_oneOf_59 : decode cX6_oneOf 59 = .ok (.iload_n 3, 1) := by decide +kernel
theorem dX6_oneOf_60 : decode cX6_oneOf 60 = .ok (.invokevirtual 294, 3) := by decide +kernel
theorem dX6_oneOf_63 : decode cX6_oneOf 63 = .ok (.ifCond .eq 10, 3) := by decide +kernel
theorem dX6_oneOf_66 : decode cX6_oneOf 66 = .ok (.bipush 100, 2) := by decide +kernel
theorem dX6_oneOf_68 : decode cX6_oneOf 68 = .ok (.iload_n 1, 1) := by decide +kernel
theorem dX6_oneOf_69 : decode cX6_oneOf 69 = .ok (.imul, 1) := by decide +kernel
theorem dX6_oneOf_70 : decode cX6_oneOf 70 = .ok (.iload_n 2, 1) := by decide +kernel
theorem dX6_oneOf_71 : decode cX6_oneOf 71 = .ok (.iadd, 1) := by decide +kernel
theorem dX6_oneOf_72 : decode cX6_oneOf 72 = .ok (.ireturn, 1) := by decide +kernel
theorem dX6_oneOf_73 : decode cX6_oneOf 73 = .ok (.iinc 2 1, 3) := by decide +kernel
theorem dX6_oneOf_76 : decode cX6_oneOf 76 = .ok (.goto (-74), 3) := by decide +kernel
theorem dX6_oneOf_79 : decode cX6_oneOf 79 = .ok (.iconst 0, 1) := by decide +kernel
theorem dX6_oneOf_80 : decode cX6_oneOf 80 = .ok (.istore_n 2, 1) := by decide +kernel
theorem dX6_oneOf_81 : decode cX6_oneOf 81 = .ok (.iload_n 2, 1) := by decide +kernel
theorem dX6_oneOf_82 : decode cX6_oneOf 82 = .ok (.iconst 5, 1) := by decide +kernel
theorem dX6_oneOf_83 : decode cX6_oneOf 83 = .ok (.if_icmp .ge 63, 3) := by decide +kernel
theorem dX6_oneOf_86 : decode cX6_oneOf 86 = .ok (.iload_n 2, 1) := by decide +kernel
theorem dX6_oneOf_87 : decode cX6_oneOf 87 = .ok (.invokestatic 105, 3) := by decide +kernel
theorem dX6_oneOf_90 : decode cX6_oneOf 90 = .ok (.ifCond .eq 12, 3) := by decide +kernel
theorem dX6_oneOf_93 : decode cX6_oneOf 93 = .ok (.aload_n 0, 1) := by decide +kernel
theorem dX6_oneOf_94 : decode cX6_oneOf 94 = .ok (.getfield 28, 3) := by decide +kernel
theorem dX6_oneOf_97 : decode cX6_oneOf 97 = .ok (.iload_n 1, 1) := by decide +kernel
theorem dX6_oneOf_98 : decode cX6_oneOf 98 = .ok (.iaload, 1) := by decide +kernel
theorem dX6_oneOf_99 : decode cX6_oneOf 99 = .ok (.goto 4, 3) := by decide +kernel
theorem dX6_oneOf_102 : decode cX6_oneOf 102 = .ok (.iconst 0, 1) := by decide +kernel
theorem dX6_oneOf_103 : decode cX6_oneOf 103 = .ok (.istore_n 3, 1) := by decide +kernel
theorem dX6_oneOf_104 : decode cX6_oneOf 104 = .ok (.iload_n 2, 1) := by decide +kernel
theorem dX6_oneOf_105 : decode cX6_oneOf 105 = .ok (.aload_n 0, 1) := by decide +kernel
theorem dX6_oneOf_106 : decode cX6_oneOf 106 = .ok (.getfield 22, 3) := by decide +kernel
theorem dX6_oneOf_109 : decode cX6_oneOf 109 = .ok (.iload_n 1, 1) := by decide +kernel
theorem dX6_oneOf_110 : decode cX6_oneOf 110 = .ok (.iaload, 1) := by decide +kernel
theorem dX6_oneOf_111 : decode cX6_oneOf 111 = .ok (.if_icmp .eq 29, 3) := by decide +kernel
theorem dX6_oneOf_114 : decode cX6_oneOf 114 = .ok (.aload_n 0, 1) := by decide +kernel
theorem dX6_oneOf_115 : decode cX6_oneOf 115 = .ok (.iload_n 1, 1) := by decide +kernel
theorem dX6_oneOf_116 : decode cX6_oneOf 116 = .ok (.iload_n 2, 1) := by decide +kernel
theorem dX6_oneOf_117 : decode cX6_oneOf 117 = .ok (.aload_n 0, 1) := by decide +kernel
theorem dX6_oneOf_118 : decode cX6_oneOf 118 = .ok (.getfield 25, 3) := by decide +kernel
theorem dX6_oneOf_121 : decode cX6_oneOf 121 = .ok (.iload_n 1, 1) := by decide +kernel
theorem dX6_oneOf_122 : decode cX6_oneOf 122 = .ok (.iaload, 1) := by decide +kernel
theorem dX6_oneOf_123 : decode cX6_oneOf 123 = .ok (.iload_n 3, 1) := by decide +kernel
theorem dX6_oneOf_124 : decode cX6_oneOf 124 = .ok (.invokevirtual 294, 3) := by decide +kernel
theorem dX6_oneOf_127 : decode cX6_oneOf 127 = .ok (.ifCond .eq 13, 3) := by decide +kernel
theorem dX6_oneOf_130 : decode cX6_oneOf 130 = .ok (.bipush 100, 2) := by decide +kernel
theorem dX6_oneOf_132 : decode cX6_oneOf 132 = .ok (.iload_n 1, 1) := by decide +kernel
theorem dX6_oneOf_133 : decode cX6_oneOf 133 = .ok (.imul, 1) := by decide +kernel
theorem dX6_oneOf_134 : decode cX6_oneOf 134 = .ok (.bipush 10, 2) := by decide +kernel
theorem dX6_oneOf_136 : decode cX6_oneOf 136 = .ok (.iadd, 1) := by decide +kernel
theorem dX6_oneOf_137 : decode cX6_oneOf 137 = .ok (.iload_n 2, 1) := by decide +kernel
theorem dX6_oneOf_138 : decode cX6_oneOf 138 = .ok (.iadd, 1) := by decide +kernel
theorem dX6_oneOf_139 : decode cX6_oneOf 139 = .ok (.ireturn, 1) := by decide +kernel
theorem dX6_oneOf_140 : decode cX6_oneOf 140 = .ok (.iinc 2 1, 3) := by decide +kernel
theorem dX6_oneOf_143 : decode cX6_oneOf 143 = .ok (.goto (-62), 3) := by decide +kernel
theorem dX6_oneOf_146 : decode cX6_oneOf 146 = .ok (.iconst (-1), 1) := by decide +kernel
theorem dX6_oneOf_147 : decode cX6_oneOf 147 = .ok (.ireturn, 1) := by decide +kernel
theorem dX6_oneOfAll_0 : decode cX6_oneOfAll 0 = .ok (.aload_n 0, 1) := by decide +kernel
theorem dX6_oneOfAll_1 : decode cX6_oneOfAll 1 = .ok (.invokevirtual 227, 3) := by decide +kernel
theorem dX6_oneOfAll_4 : decode cX6_oneOfAll 4 = .ok (.iconst 1, 1) := by decide +kernel
theorem dX6_oneOfAll_5 : decode cX6_oneOfAll 5 = .ok (.if_icmp .ne 6, 3) := by decide +kernel
theorem dX6_oneOfAll_8 : decode cX6_oneOfAll 8 = .ok (.bipush (-2), 2) := by decide +kernel
theorem dX6_oneOfAll_10 : decode cX6_oneOfAll 10 = .ok (.ireturn, 1) := by decide +kernel
theorem dX6_oneOfAll_11 : decode cX6_oneOfAll 11 = .ok (.iconst 0, 1) := by decide +kernel
theorem dX6_oneOfAll_12 : decode cX6_oneOfAll 12 = .ok (.istore_n 1, 1) := by decide +kernel
theorem dX6_oneOfAll_13 : decode cX6_oneOfAll 13 = .ok (.iload_n 1, 1) := by decide +kernel
theorem dX6_oneOfAll_14 : decode cX6_oneOfAll 14 = .ok (.aload_n 0, 1) := by decide +kernel
theorem dX6_oneOfAll_15 : decode cX6_oneOfAll 15 = .ok (.getfield 141, 3) := by decide +kernel
theorem dX6_oneOfAll_18 : decode cX6_oneOfAll 18 = .ok (.aload_n 0, 1) := by decide +kernel
theorem dX6_oneOfAll_19 : decode cX6_oneOfAll 19 = .ok (.getfield 144, 3) := by decide +kernel
theorem dX6_oneOfAll_22 : decode cX6_oneOfAll 22 = .ok (.iadd, 1) := by decide +kernel
theorem dX6_oneOfAll_23 : decode cX6_oneOfAll 23 = .ok (.if_icmp .ge 22, 3) := by decide +kernel
theorem dX6_oneOfAll_26 : decode cX6_oneOfAll 26 = .ok (.aload_n 0, 1) := by decide +kernel
theorem dX6_oneOfAll_27 : decode cX6_oneOfAll 27 = .ok (.iload_n 1, 1) := by decide +kernel
theorem dX6_oneOfAll_28 : decode cX6_oneOfAll 28 = .ok (.invokevirtual 297, 3) := by decide +kernel
theorem dX6_oneOfAll_31 : decode cX6_oneOfAll 31 = .ok (.istore_n 2, 1) := by decide +kernel
theorem dX6_oneOfAll_32 : decode cX6_oneOfAll 32 = .ok (.iload_n 2, 1) := by decide +kernel
theorem dX6_oneOfAll_33 : decode cX6_oneOfAll 33 = .ok (.iconst (-1), 1) := by decide +kernel
theorem dX6_oneOfAll_34 : decode cX6_oneOfAll 34 = .ok (.if_icmp .eq 5, 3) := by decide +kernel
theorem dX6_oneOfAll_37 : decode cX6_oneOfAll 37 = .ok (.iload_n 2, 1) := by decide +kernel
theorem dX6_oneOfAll_38 : decode cX6_oneOfAll 38 = .ok (.ireturn, 1) := by decide +kernel
theorem dX6_oneOfAll_39 : decode cX6_oneOfAll 39 = .ok (.iinc 1 1, 3) := by decide +kernel
theorem dX6_oneOfAll_42 : decode cX6_oneOfAll 42 = .ok (.goto (-29), 3) := by decide +kernel
theorem dX6_oneOfAll_45 : decode cX6_oneOfAll 45 = .ok (.iconst (-1), 1) := by decide +kernel
theorem dX6_oneOfAll_46 : decode cX6_oneOfAll 46 = .ok (.ireturn, 1) := by decide +kernel
theorem dX6_one_0 : decode cX6_one 0 = .ok (.aload_n 0, 1) := by decide +kernel
theorem dX6_one_1 : decode cX6_one 1 = .ok (.invokevirtual 223, 3) := by decide +kernel
theorem dX6_one_4 : decode cX6_one 4 = .ok (.ifCond .ne 12, 3) := by decide +kernel
theorem dX6_one_7 : decode cX6_one 7 = .ok (.aload_n 0, 1) := by decide +kernel
theorem dX6_one_8 : decode cX6_one 8 = .ok (.getfield 300, 3) := by decide +kernel
theorem dX6_one_11 : decode cX6_one 11 = .ok (.bipush 6, 2) := by decide +kernel
theorem dX6_one_13 : decode cX6_one 13 = .ok (.if_icmp .ne 6, 3) := by decide +kernel
theorem dX6_one_16 : decode cX6_one 16 = .ok (.bipush (-103), 2) := by decide +kernel
theorem dX6_one_18 : decode cX6_one 18 = .ok (.ireturn, 1) := by decide +kernel
theorem dX6_one_19 : decode cX6_one 19 = .ok (.aload_n 0, 1) := by decide +kernel
theorem dX6_one_20 : decode cX6_one 20 = .ok (.dup, 1) := by decide +kernel
theorem dX6_one_21 : decode cX6_one 21 = .ok (.getfield 300, 3) := by decide +kernel
theorem dX6_one_24 : decode cX6_one 24 = .ok (.iconst 1, 1) := by decide +kernel
theorem dX6_one_25 : decode cX6_one 25 = .ok (.iadd, 1) := by decide +kernel
theorem dX6_one_26 : decode cX6_one 26 = .ok (.putfield 300, 3) := by decide +kernel
theorem dX6_one_29 : decode cX6_one 29 = .ok (.aload_n 0, 1) := by decide +kernel
theorem dX6_one_30 : decode cX6_one 30 = .ok (.invokevirtual 303, 3) := by decide +kernel
theorem dX6_one_33 : decode cX6_one 33 = .ok (.ireturn, 1) := by decide +kernel
theorem dX6_see_0 : decode cX6_see 0 = .ok (.aload_n 0, 1) := by decide +kernel
theorem dX6_see_1 : decode cX6_see 1 = .ok (.iload_n 1, 1) := by decide +kernel
theorem dX6_see_2 : decode cX6_see 2 = .ok (.invokevirtual 180, 3) := by decide +kernel
theorem dX6_see_5 : decode cX6_see 5 = .ok (.ifCond .ne 6, 3) := by decide +kernel
theorem dX6_see_8 : decode cX6_see 8 = .ok (.bipush (-101), 2) := by decide +kernel
theorem dX6_see_10 : decode cX6_see 10 = .ok (.ireturn, 1) := by decide +kernel
theorem dX6_see_11 : decode cX6_see 11 = .ok (.iload_n 2, 1) := by decide +kernel
theorem dX6_see_12 : decode cX6_see 12 = .ok (.i2l, 1) := by decide +kernel
theorem dX6_see_13 : decode cX6_see 13 = .ok (.lconst 0, 1) := by decide +kernel
theorem dX6_see_14 : decode cX6_see 14 = .ok (.iconst 1, 1) := by decide +kernel
theorem dX6_see_15 : decode cX6_see 15 = .ok (.aload_n 0, 1) := by decide +kernel
theorem dX6_see_16 : decode cX6_see 16 = .ok (.iload_n 1, 1) := by decide +kernel
theorem dX6_see_17 : decode cX6_see 17 = .ok (.invokevirtual 183, 3) := by decide +kernel
theorem dX6_see_20 : decode cX6_see 20 = .ok (.ishl, 1) := by decide +kernel
theorem dX6_see_21 : decode cX6_see 21 = .ok (.iconst 1, 1) := by decide +kernel
theorem dX6_see_22 : decode cX6_see 22 = .ok (.isub, 1) := by decide +kernel
theorem dX6_see_23 : decode cX6_see 23 = .ok (.i2l, 1) := by decide +kernel
theorem dX6_see_24 : decode cX6_see 24 = .ok (.invokestatic 78, 3) := by decide +kernel
theorem dX6_see_27 : decode cX6_see 27 = .ok (.ifCond .ne 6, 3) := by decide +kernel
theorem dX6_see_30 : decode cX6_see 30 = .ok (.bipush (-102), 2) := by decide +kernel
theorem dX6_see_32 : decode cX6_see 32 = .ok (.ireturn, 1) := by decide +kernel
theorem dX6_see_33 : decode cX6_see 33 = .ok (.aload_n 0, 1) := by decide +kernel
theorem dX6_see_34 : decode cX6_see 34 = .ok (.getfield 151, 3) := by decide +kernel
theorem dX6_see_37 : decode cX6_see 37 = .ok (.bipush 6, 2) := by decide +kernel
theorem dX6_see_39 : decode cX6_see 39 = .ok (.if_icmp .ne 6, 3) := by decide +kernel
theorem dX6_see_42 : decode cX6_see 42 = .ok (.bipush (-104), 2) := by decide +kernel
theorem dX6_see_44 : decode cX6_see 44 = .ok (.ireturn, 1) := by decide +kernel
theorem dX6_see_45 : decode cX6_see 45 = .ok (.aload_n 0, 1) := by decide +kernel
theorem dX6_see_46 : decode cX6_see 46 = .ok (.getfield 44, 3) := by decide +kernel
theorem dX6_see_49 : decode cX6_see 49 = .ok (.iconst 3, 1) := by decide +kernel
theorem dX6_see_50 : decode cX6_see 50 = .ok (.aload_n 0, 1) := by decide +kernel
theorem dX6_see_51 : decode cX6_see 51 = .ok (.getfield 151, 3) := by decide +kernel
theorem dX6_see_54 : decode cX6_see 54 = .ok (.imul, 1) := by decide +kernel
theorem dX6_see_55 : decode cX6_see 55 = .ok (.iload_n 1, 1) := by decide +kernel
theorem dX6_see_56 : decode cX6_see 56 = .ok (.iastore, 1) := by decide +kernel
theorem dX6_see_57 : decode cX6_see 57 = .ok (.aload_n 0, 1) := by decide +kernel
theorem dX6_see_58 : decode cX6_see 58 = .ok (.getfield 44, 3) := by decide +kernel
theorem dX6_see_61 : decode cX6_see 61 = .ok (.iconst 3, 1) := by decide +kernel
theorem dX6_see_62 : decode cX6_see 62 = .ok (.aload_n 0, 1) := by decide +kernel
theorem dX6_see_63 : decode cX6_see 63 = .ok (.getfield 151, 3) := by decide +kernel
theorem dX6_see_66 : decode cX6_see 66 = .ok (.imul, 1) := by decide +kernel
theorem dX6_see_67 : decode cX6_see 67 = .ok (.iconst 1, 1) := by decide +kernel
theorem dX6_see_68 : decode cX6_see 68 = .ok (.iadd, 1) := by decide +kernel
theorem dX6_see_69 : decode cX6_see 69 = .ok (.iload_n 2, 1) := by decide +kernel
theorem dX6_see_70 : decode cX6_see 70 = .ok (.iastore, 1) := by decide +kernel
theorem dX6_see_71 : decode cX6_see 71 = .ok (.aload_n 0, 1) := by decide +kernel
theorem dX6_see_72 : decode cX6_see 72 = .ok (.getfield 44, 3) := by decide +kernel
theorem dX6_see_75 : decode cX6_see 75 = .ok (.iconst 3, 1) := by decide +kernel
theorem dX6_see_76 : decode cX6_see 76 = .ok (.aload_n 0, 1) := by decide +kernel
theorem dX6_see_77 : decode cX6_see 77 = .ok (.getfield 151, 3) := by decide +kernel
theorem dX6_see_80 : decode cX6_see 80 = .ok (.imul, 1) := by decide +kernel
theorem dX6_see_81 : decode cX6_see 81 = .ok (.iconst 2, 1) := by decide +kernel
theorem dX6_see_82 : decode cX6_see 82 = .ok (.iadd, 1) := by decide +kernel
theorem dX6_see_83 : decode cX6_see 83 = .ok (.iload_n 3, 1) := by decide +kernel
theorem dX6_see_84 : decode cX6_see 84 = .ok (.ifCond .eq 7, 3) := by decide +kernel
theorem dX6_see_87 : decode cX6_see 87 = .ok (.iconst 1, 1) := by decide +kernel
theorem dX6_see_88 : decode cX6_see 88 = .ok (.goto 4, 3) := by decide +kernel
theorem dX6_see_91 : decode cX6_see 91 = .ok (.iconst 0, 1) := by decide +kernel
theorem dX6_see_92 : decode cX6_see 92 = .ok (.iastore, 1) := by decide +kernel
theorem dX6_see_93 : decode cX6_see 93 = .ok (.aload_n 0, 1) := by decide +kernel
theorem dX6_see_94 : decode cX6_see 94 = .ok (.dup, 1) := by decide +kernel
theorem dX6_see_95 : decode cX6_see 95 = .ok (.getfield 151, 3) := by decide +kernel
theorem dX6_see_98 : decode cX6_see 98 = .ok (.iconst 1, 1) := by decide +kernel
theorem dX6_see_99 : decode cX6_see 99 = .ok (.iadd, 1) := by decide +kernel
theorem dX6_see_100 : decode cX6_see 100 = .ok (.putfield 151, 3) := by decide +kernel
theorem dX6_see_103 : decode cX6_see 103 = .ok (.aload_n 0, 1) := by decide +kernel
theorem dX6_see_104 : decode cX6_see 104 = .ok (.getfield 151, 3) := by decide +kernel
theorem dX6_see_107 : decode cX6_see 107 = .ok (.ireturn, 1) := by decide +kernel
theorem dX6_forget_0 : decode cX6_forget 0 = .ok (.aload_n 0, 1) := by decide +kernel
theorem dX6_forget_1 : decode cX6_forget 1 = .ok (.getfield 151, 3) := by decide +kernel
theorem dX6_forget_4 : decode cX6_forget 4 = .ok (.istore_n 1, 1) := by decide +kernel
theorem dX6_forget_5 : decode cX6_forget 5 = .ok (.aload_n 0, 1) := by decide +kernel
theorem dX6_forget_6 : decode cX6_forget 6 = .ok (.iconst 0, 1) := by decide +kernel
theorem dX6_forget_7 : decode cX6_forget 7 = .ok (.putfield 151, 3) := by decide +kernel
theorem dX6_forget_10 : decode cX6_forget 10 = .ok (.iload_n 1, 1) := by decide +kernel
theorem dX6_forget_11 : decode cX6_forget 11 = .ok (.ireturn, 1) := by decide +kernel
theorem dX6_keptBy_0 : decode cX6_keptBy 0 = .ok (.iconst 0, 1) := by decide +kernel
theorem dX6_keptBy_1 : decode cX6_keptBy 1 = .ok (.istore_n 3, 1) := by decide +kernel
theorem dX6_keptBy_2 : decode cX6_keptBy 2 = .ok (.iconst 0, 1) := by decide +kernel
theorem dX6_keptBy_3 : decode cX6_keptBy 3 = .ok (.istore 4, 2) := by decide +kernel
theorem dX6_keptBy_5 : decode cX6_keptBy 5 = .ok (.iload 4, 2) := by decide +kernel
theorem dX6_keptBy_7 : decode cX6_keptBy 7 = .ok (.iconst 5, 1) := by decide +kernel
theorem dX6_keptBy_8 : decode cX6_keptBy 8 = .ok (.if_icmp .ge 42, 3) := by decide +kernel
theorem dX6_keptBy_11 : decode cX6_keptBy 11 = .ok (.iload_n 3, 1) := by decide +kernel
theorem dX6_keptBy_12 : decode cX6_keptBy 12 = .ok (.aload_n 0, 1) := by decide +kernel
theorem dX6_keptBy_13 : decode cX6_keptBy 13 = .ok (.iload 4, 2) := by decide +kernel
theorem dX6_keptBy_15 : decode cX6_keptBy 15 = .ok (.aload_n 0, 1) := by decide +kernel
theorem dX6_keptBy_16 : decode cX6_keptBy 16 = .ok (.getfield 25, 3) := by decide +kernel
theorem dX6_keptBy_19 : decode cX6_keptBy 19 = .ok (.iload_n 1, 1) := by decide +kernel
theorem dX6_keptBy_20 : decode cX6_keptBy 20 = .ok (.iaload, 1) := by decide +kernel
theorem dX6_keptBy_21 : decode cX6_keptBy 21 = .ok (.aload_n 0, 1) := by decide +kernel
theorem dX6_keptBy_22 : decode cX6_keptBy 22 = .ok (.getfield 28, 3) := by decide +kernel
theorem dX6_keptBy_25 : decode cX6_keptBy 25 = .ok (.iload_n 1, 1) := by decide +kernel
theorem dX6_keptBy_26 : decode cX6_keptBy 26 = .ok (.iaload, 1) := by decide +kernel
theorem dX6_keptBy_27 : decode cX6_keptBy 27 = .ok (.iload_n 2, 1) := by decide +kernel
theorem dX6_keptBy_28 : decode cX6_keptBy 28 = .ok (.invokevirtual 176, 3) := by decide +kernel
theorem dX6_keptBy_31 : decode cX6_keptBy 31 = .ok (.ifCond .eq 10, 3) := by decide +kernel
theorem dX6_keptBy_34 : decode cX6_keptBy 34 = .ok (.iconst 1, 1) := by decide +kernel
theorem dX6_keptBy_35 : decode cX6_keptBy 35 = .ok (.iload 4, 2) := by decide +kernel
theorem dX6_keptBy_37 : decode cX6_keptBy 37 = .ok (.ishl, 1) := by decide +kernel
theorem dX6_keptBy_38 : decode cX6_keptBy 38 = .ok (.goto 4, 3) := by decide +kernel
theorem dX6_keptBy_41 : decode cX6_keptBy 41 = .ok (.iconst 0, 1) := by decide +kernel
theorem dX6_keptBy_42 : decode cX6_keptBy 42 = .ok (.ior, 1) := by decide +kernel
theorem dX6_keptBy_43 : decode cX6_keptBy 43 = .ok (.istore_n 3, 1) := by decide +kernel
theorem dX6_keptBy_44 : decode cX6_keptBy 44 = .ok (.iinc 4 1, 3) := by decide +kernel
theorem dX6_keptBy_47 : decode cX6_keptBy 47 = .ok (.goto (-42), 3) := by decide +kernel
theorem dX6_keptBy_50 : decode cX6_keptBy 50 = .ok (.iload_n 3, 1) := by decide +kernel
theorem dX6_keptBy_51 : decode cX6_keptBy 51 = .ok (.ireturn, 1) := by decide +kernel
theorem dX6_sortsOf_0 : decode cX6_sortsOf 0 = .ok (.bipush 31, 2) := by decide +kernel
theorem dX6_sortsOf_2 : decode cX6_sortsOf 2 = .ok (.istore_n 2, 1) := by decide +kernel
theorem dX6_sortsOf_3 : decode cX6_sortsOf 3 = .ok (.iconst 0, 1) := by decide +kernel
theorem dX6_sortsOf_4 : decode cX6_sortsOf 4 = .ok (.istore_n 3, 1) := by decide +kernel
theorem dX6_sortsOf_5 : decode cX6_sortsOf 5 = .ok (.iload_n 3, 1) := by decide +kernel
theorem dX6_sortsOf_6 : decode cX6_sortsOf 6 = .ok (.iconst 3, 1) := by decide +kernel
theorem dX6_sortsOf_7 : decode cX6_sortsOf 7 = .ok (.aload_n 0, 1) := by decide +kernel
theorem dX6_sortsOf_8 : decode cX6_sortsOf 8 = .ok (.getfield 151, 3) := by decide +kernel
theorem dX6_sortsOf_11 : decode cX6_sortsOf 11 = .ok (.imul, 1) := by decide +kernel
theorem dX6_sortsOf_12 : decode cX6_sortsOf 12 = .ok (.if_icmp .ge 59, 3) := by decide +kernel
theorem dX6_sortsOf_15 : decode cX6_sortsOf 15 = .ok (.aload_n 0, 1) := by decide +kernel
theorem dX6_sortsOf_16 : decode cX6_sortsOf 16 = .ok (.getfield 44, 3) := by decide +kernel
theorem dX6_sortsOf_19 : decode cX6_sortsOf 19 = .ok (.iload_n 3, 1) := by decide +kernel
theorem dX6_sortsOf_20 : decode cX6_sortsOf 20 = .ok (.iaload, 1) := by decide +kernel
theorem dX6_sortsOf_21 : decode cX6_sortsOf 21 = .ok (.iload_n 1, 1) := by decide +kernel
theorem dX6_sortsOf_22 : decode cX6_sortsOf 22 = .ok (.if_icmp .ne 43, 3) := by decide +kernel
theorem dX6_sortsOf_25 : decode cX6_sortsOf 25 = .ok (.aload_n 0, 1) := by decide +kernel
theorem dX6_sortsOf_26 : decode cX6_sortsOf 26 = .ok (.iload_n 1, 1) := by decide +kernel
theorem dX6_sortsOf_27 : decode cX6_sortsOf 27 = .ok (.aload_n 0, 1) := by decide +kernel
theorem dX6_sortsOf_28 : decode cX6_sortsOf 28 = .ok (.getfield 44, 3) := by decide +kernel
theorem dX6_sortsOf_31 : decode cX6_sortsOf 31 = .ok (.iload_n 3, 1) := by decide +kernel
theorem dX6_sortsOf_32 : decode cX6_sortsOf 32 = .ok (.iconst 1, 1) := by decide +kernel
theorem dX6_sortsOf_33 : decode cX6_sortsOf 33 = .ok (.iadd, 1) := by decide +kernel
theorem dX6_sortsOf_34 : decode cX6_sortsOf 34 = .ok (.iaload, 1) := by decide +kernel
theorem dX6_sortsOf_35 : decode cX6_sortsOf 35 = .ok (.invokevirtual 306, 3) := by decide +kernel
theorem dX6_sortsOf_38 : decode cX6_sortsOf 38 = .ok (.istore 4, 2) := by decide +kernel
theorem dX6_sortsOf_40 : decode cX6_sortsOf 40 = .ok (.iload_n 2, 1) := by decide +kernel
theorem dX6_sortsOf_41 : decode cX6_sortsOf 41 = .ok (.aload_n 0, 1) := by decide +kernel
theorem dX6_sortsOf_42 : decode cX6_sortsOf 42 = .ok (.getfield 44, 3) := by decide +kernel
theorem dX6_sortsOf_45 : decode cX6_sortsOf 45 = .ok (.iload_n 3, 1) := by decide +kernel
theorem dX6_sortsOf_46 : decode cX6_sortsOf 46 = .ok (.iconst 2, 1) := by decide +kernel
theorem dX6_sortsOf_47 : decode cX6_sortsOf 47 = .ok (.iadd, 1) := by decide +kernel
theorem dX6_sortsOf_48 : decode cX6_sortsOf 48 = .ok (.iaload, 1) := by decide +kernel
theorem dX6_sortsOf_49 : decode cX6_sortsOf 49 = .ok (.iconst 1, 1) := by decide +kernel
theorem dX6_sortsOf_50 : decode cX6_sortsOf 50 = .ok (.if_icmp .ne 8, 3) := by decide +kernel
theorem dX6_sortsOf_53 : decode cX6_sortsOf 53 = .ok (.iload 4, 2) := by decide +kernel
theorem dX6_sortsOf_55 : decode cX6_sortsOf 55 = .ok (.goto 8, 3) := by decide +kernel
theorem dX6_sortsOf_58 : decode cX6_sortsOf 58 = .ok (.bipush 31, 2) := by decide +kernel
theorem dX6_sortsOf_60 : decode cX6_sortsOf 60 = .ok (.iload 4, 2) := by decide +kernel
theorem dX6_sortsOf_62 : decode cX6_sortsOf 62 = .ok (.isub, 1) := by decide +kernel
theorem dX6_sortsOf_63 : decode cX6_sortsOf 63 = .ok (.iand, 1) := by decide +kernel
theorem dX6_sortsOf_64 : decode cX6_sortsOf 64 = .ok (.istore_n 2, 1) := by decide +kernel
theorem dX6_sortsOf_65 : decode cX6_sortsOf 65 = .ok (.iinc 3 3, 3) := by decide +kernel
theorem dX6_sortsOf_68 : decode cX6_sortsOf 68 = .ok (.goto (-63), 3) := by decide +kernel
theorem dX6_sortsOf_71 : decode cX6_sortsOf 71 = .ok (.iload_n 2, 1) := by decide +kernel
theorem dX6_sortsOf_72 : decode cX6_sortsOf 72 = .ok (.ireturn, 1) := by decide +kernel
theorem dX6_tryOf_0 : decode cX6_tryOf 0 = .ok (.aload_n 0, 1) := by decide +kernel
theorem dX6_tryOf_1 : decode cX6_tryOf 1 = .ok (.iload_n 1, 1) := by decide +kernel
theorem dX6_tryOf_2 : decode cX6_tryOf 2 = .ok (.invokevirtual 251, 3) := by decide +kernel
theorem dX6_tryOf_5 : decode cX6_tryOf 5 = .ok (.istore_n 2, 1) := by decide +kernel
theorem dX6_tryOf_6 : decode cX6_tryOf 6 = .ok (.iconst (-1), 1) := by decide +kernel
theorem dX6_tryOf_7 : decode cX6_tryOf 7 = .ok (.istore_n 3, 1) := by decide +kernel
theorem dX6_tryOf_8 : decode cX6_tryOf 8 = .ok (.bipush 6, 2) := by decide +kernel
theorem dX6_tryOf_10 : decode cX6_tryOf 10 = .ok (.istore 4, 2) := by decide +kernel
theorem dX6_tryOf_12 : decode cX6_tryOf 12 = .ok (.iconst 0, 1) := by decide +kernel
theorem dX6_tryOf_13 : decode cX6_tryOf 13 = .ok (.istore 5, 2) := by decide +kernel
theorem dX6_tryOf_15 : decode cX6_tryOf 15 = .ok (.iload 5, 2) := by decide +kernel
theorem dX6_tryOf_17 : decode cX6_tryOf 17 = .ok (.iconst 1, 1) := by decide +kernel
theorem dX6_tryOf_18 : decode cX6_tryOf 18 = .ok (.aload_n 0, 1) := by decide +kernel
theorem dX6_tryOf_19 : decode cX6_tryOf 19 = .ok (.iload_n 1, 1) := by decide +kernel
theorem dX6_tryOf_20 : decode cX6_tryOf 20 = .ok (.invokevirtual 183, 3) := by decide +kernel
theorem dX6_tryOf_23 : decode cX6_tryOf 23 = .ok (.ishl, 1) := by decide +kernel
theorem dX6_tryOf_24 : decode cX6_tryOf 24 = .ok (.if_icmp .ge 82, 3) := by decide +kernel
theorem dX6_tryOf_27 : decode cX6_tryOf 27 = .ok (.iload_n 2, 1) := by decide +kernel
theorem dX6_tryOf_28 : decode cX6_tryOf 28 = .ok (.ifCond .eq 78, 3) := by decide +kernel
theorem dX6_tryOf_31 : decode cX6_tryOf 31 = .ok (.iload_n 2, 1) := by decide +kernel
theorem dX6_tryOf_32 : decode cX6_tryOf 32 = .ok (.aload_n 0, 1) := by decide +kernel
theorem dX6_tryOf_33 : decode cX6_tryOf 33 = .ok (.iload_n 1, 1) := by decide +kernel
theorem dX6_tryOf_34 : decode cX6_tryOf 34 = .ok (.iload 5, 2) := by decide +kernel
theorem dX6_tryOf_36 : decode cX6_tryOf 36 = .ok (.invokevirtual 306, 3) := by decide +kernel
theorem dX6_tryOf_39 : decode cX6_tryOf 39 = .ok (.iand, 1) := by decide +kernel
theorem dX6_tryOf_40 : decode cX6_tryOf 40 = .ok (.invokestatic 173, 3) := by decide +kernel
theorem dX6_tryOf_43 : decode cX6_tryOf 43 = .ok (.istore 6, 2) := by decide +kernel
theorem dX6_tryOf_45 : decode cX6_tryOf 45 = .ok (.iload_n 2, 1) := by decide +kernel
theorem dX6_tryOf_46 : decode cX6_tryOf 46 = .ok (.invokestatic 173, 3) := by decide +kernel
theorem dX6_tryOf_49 : decode cX6_tryOf 49 = .ok (.iload 6, 2) := by decide +kernel
theorem dX6_tryOf_51 : decode cX6_tryOf 51 = .ok (.isub, 1) := by decide +kernel
theorem dX6_tryOf_52 : decode cX6_tryOf 52 = .ok (.istore 7, 2) := by decide +kernel
theorem dX6_tryOf_54 : decode cX6_tryOf 54 = .ok (.iload 6, 2) := by decide +kernel
theorem dX6_tryOf_56 : decode cX6_tryOf 56 = .ok (.iload 7, 2) := by decide +kernel
theorem dX6_tryOf_58 : decode cX6_tryOf 58 = .ok (.if_icmp .le 8, 3) := by decide +kernel
theorem dX6_tryOf_61 : decode cX6_tryOf 61 = .ok (.iload 6, 2) := by decide +kernel
theorem dX6_tryOf_63 : decode cX6_tryOf 63 = .ok (.goto 5, 3) := by decide +kernel
theorem dX6_tryOf_66 : decode cX6_tryOf 66 = .ok (.iload 7, 2) := by decide +kernel
theorem dX6_tryOf_68 : decode cX6_tryOf 68 = .ok (.istore 8, 2) := by decide +kernel
theorem dX6_tryOf_70 : decode cX6_tryOf 70 = .ok (.iload 8, 2) := by decide +kernel
theorem dX6_tryOf_72 : decode cX6_tryOf 72 = .ok (.iload 4, 2) := by decide +kernel
theorem dX6_tryOf_74 : decode cX6_tryOf 74 = .ok (.if_icmp .ge 8, 3) := by decide +kernel
theorem dX6_tryOf_77 : decode cX6_tryOf 77 = .ok (.iload 5, 2) := by decide +kernel
theorem dX6_tryOf_79 : decode cX6_tryOf 79 = .ok (.goto 4, 3) := by decide +kernel
theorem dX6_tryOf_82 : decode cX6_tryOf 82 = .ok (.iload_n 3, 1) := by decide +kernel
theorem dX6_tryOf_83 : decode cX6_tryOf 83 = .ok (.istore_n 3, 1) := by decide +kernel
theorem dX6_tryOf_84 : decode cX6_tryOf 84 = .ok (.iload 8, 2) := by decide +kernel
theorem dX6_tryOf_86 : decode cX6_tryOf 86 = .ok (.iload 4, 2) := by decide +kernel
theorem dX6_tryOf_88 : decode cX6_tryOf 88 = .ok (.if_icmp .ge 8, 3) := by decide +kernel
theorem dX6_tryOf_91 : decode cX6_tryOf 91 = .ok (.iload 8, 2) := by decide +kernel
theorem dX6_tryOf_93 : decode cX6_tryOf 93 = .ok (.goto 5, 3) := by decide +kernel
theorem dX6_tryOf_96 : decode cX6_tryOf 96 = .ok (.iload 4, 2) := by decide +kernel
theorem dX6_tryOf_98 : decode cX6_tryOf 98 = .ok (.istore 4, 2) := by decide +kernel
theorem dX6_tryOf_100 : decode cX6_tryOf 100 = .ok (.iinc 5 1, 3) := by decide +kernel
theorem dX6_tryOf_103 : decode cX6_tryOf 103 = .ok (.goto (-88), 3) := by decide +kernel
theorem dX6_tryOf_106 : decode cX6_tryOf 106 = .ok (.iload_n 3, 1) := by decide +kernel
theorem dX6_tryOf_107 : decode cX6_tryOf 107 = .ok (.ireturn, 1) := by decide +kernel
theorem dX6_draw_0 : decode cX6_draw 0 = .ok (.aload_n 0, 1) := by decide +kernel
theorem dX6_draw_1 : decode cX6_draw 1 = .ok (.ldc2_w 309, 3) := by decide +kernel
theorem dX6_draw_4 : decode cX6_draw 4 = .ok (.aload_n 0, 1) := by decide +kernel
theorem dX6_draw_5 : decode cX6_draw 5 = .ok (.getfield 311, 3) := by decide +kernel
theorem dX6_draw_8 : decode cX6_draw 8 = .ok (.i2l, 1) := by decide +kernel
theorem dX6_draw_9 : decode cX6_draw 9 = .ok (.lmul, 1) := by decide +kernel
theorem dX6_draw_10 : decode cX6_draw 10 = .ok (.ldc2_w 314, 3) := by decide +kernel
theorem dX6_draw_13 : decode cX6_draw 13 = .ok (.ladd, 1) := by decide +kernel
theorem dX6_draw_14 : decode cX6_draw 14 = .ok (.ldc2_w 316, 3) := by decide +kernel
theorem dX6_draw_17 : decode cX6_draw 17 = .ok (.land, 1) := by decide +kernel
theorem dX6_draw_18 : decode cX6_draw 18 = .ok (.l2i, 1) := by decide +kernel
theorem dX6_draw_19 : decode cX6_draw 19 = .ok (.putfield 311, 3) := by decide +kernel
theorem dX6_draw_22 : decode cX6_draw 22 = .ok (.aload_n 0, 1) := by decide +kernel
theorem dX6_draw_23 : decode cX6_draw 23 = .ok (.getfield 311, 3) := by decide +kernel
theorem dX6_draw_26 : decode cX6_draw 26 = .ok (.ldc_w 318, 3) := by decide +kernel
theorem dX6_draw_29 : decode cX6_draw 29 = .ok (.idiv, 1) := by decide +kernel
theorem dX6_draw_30 : decode cX6_draw 30 = .ok (.iload_n 1, 1) := by decide +kernel
theorem dX6_draw_31 : decode cX6_draw 31 = .ok (.irem, 1) := by decide +kernel
theorem dX6_draw_32 : decode cX6_draw 32 = .ok (.ireturn, 1) := by decide +kernel
theorem dX6_laySome_0 : decode cX6_laySome 0 = .ok (.iconst 0, 1) := by decide +kernel
theorem dX6_laySome_1 : decode cX6_laySome 1 = .ok (.istore_n 1, 1) := by decide +kernel
theorem dX6_laySome_2 : decode cX6_laySome 2 = .ok (.aload_n 0, 1) := by decide +kernel
theorem dX6_laySome_3 : decode cX6_laySome 3 = .ok (.iconst (-1), 1) := by decide +kernel
theorem dX6_laySome_4 : decode cX6_laySome 4 = .ok (.invokevirtual 217, 3) := by decide +kernel
theorem dX6_laySome_7 : decode cX6_laySome 7 = .ok (.istore_n 2, 1) := by decide +kernel
theorem dX6_laySome_8 : decode cX6_laySome 8 = .ok (.iload_n 2, 1) := by decide +kernel
theorem dX6_laySome_9 : decode cX6_laySome 9 = .ok (.iconst (-1), 1) := by decide +kernel
theorem dX6_laySome_10 : decode cX6_laySome 10 = .ok (.if_icmp .eq 22, 3) := by decide +kernel
theorem dX6_laySome_13 : decode cX6_laySome 13 = .ok (.aload_n 0, 1) := by decide +kernel
theorem dX6_laySome_14 : decode cX6_laySome 14 = .ok (.getfield 47, 3) := by decide +kernel
theorem dX6_laySome_17 : decode cX6_laySome 17 = .ok (.iload_n 1, 1) := by decide +kernel
theorem dX6_laySome_18 : decode cX6_laySome 18 = .ok (.iload_n 2, 1) := by decide +kernel
theorem dX6_laySome_19 : decode cX6_laySome 19 = .ok (.iastore, 1) := by decide +kernel
theorem dX6_laySome_20 : decode cX6_laySome 20 = .ok (.iinc 1 1, 3) := by decide +kernel
theorem dX6_laySome_23 : decode cX6_laySome 23 = .ok (.aload_n 0, 1) := by decide +kernel
theorem dX6_laySome_24 : decode cX6_laySome 24 = .ok (.iload_n 2, 1) := by decide +kernel
theorem dX6_laySome_25 : decode cX6_laySome 25 = .ok (.invokevirtual 217, 3) := by decide +kernel
theorem dX6_laySome_28 : decode cX6_laySome 28 = .ok (.istore_n 2, 1) := by decide +kernel
theorem dX6_laySome_29 : decode cX6_laySome 29 = .ok (.goto (-21), 3) := by decide +kernel
theorem dX6_laySome_32 : decode cX6_laySome 32 = .ok (.iload_n 1, 1) := by decide +kernel
theorem dX6_laySome_33 : decode cX6_laySome 33 = .ok (.ireturn, 1) := by decide +kernel
theorem dX6_gameOne_0 : decode cX6_gameOne 0 = .ok (.aload_n 0, 1) := by decide +kernel
theorem dX6_gameOne_1 : decode cX6_gameOne 1 = .ok (.invokevirtual 319, 3) := by decide +kernel
theorem dX6_gameOne_4 : decode cX6_gameOne 4 = .ok (.istore_n 1, 1) := by decide +kernel
theorem dX6_gameOne_5 : decode cX6_gameOne 5 = .ok (.aload_n 0, 1) := by decide +kernel
theorem dX6_gameOne_6 : decode cX6_gameOne 6 = .ok (.getfield 47, 3) := by decide +kernel
theorem dX6_gameOne_9 : decode cX6_gameOne 9 = .ok (.aload_n 0, 1) := by decide +kernel
theorem dX6_gameOne_10 : decode cX6_gameOne 10 = .ok (.iload_n 1, 1) := by decide +kernel
theorem dX6_gameOne_11 : decode cX6_gameOne 11 = .ok (.invokevirtual 322, 3) := by decide +kernel
theorem dX6_gameOne_14 : decode cX6_gameOne 14 = .ok (.iaload, 1) := by decide +kernel
theorem dX6_gameOne_15 : decode cX6_gameOne 15 = .ok (.istore_n 2, 1) := by decide +kernel
theorem dX6_gameOne_16 : decode cX6_gameOne 16 = .ok (.aload_n 0, 1) := by decide +kernel
theorem dX6_gameOne_17 : decode cX6_gameOne 17 = .ok (.iconst 1, 1) := by decide +kernel
theorem dX6_gameOne_18 : decode cX6_gameOne 18 = .ok (.invokevirtual 204, 3) := by decide +kernel
theorem dX6_gameOne_21 : decode cX6_gameOne 21 = .ok (.aload_n 0, 1) := by decide +kernel
theorem dX6_gameOne_22 : decode cX6_gameOne 22 = .ok (.iconst 2, 1) := by decide +kernel
theorem dX6_gameOne_23 : decode cX6_gameOne 23 = .ok (.invokevirtual 204, 3) := by decide +kernel
theorem dX6_gameOne_26 : decode cX6_gameOne 26 = .ok (.ior, 1) := by decide +kernel
theorem dX6_gameOne_27 : decode cX6_gameOne 27 = .ok (.istore_n 3, 1) := by decide +kernel
theorem dX6_gameOne_28 : decode cX6_gameOne 28 = .ok (.iconst 0, 1) := by decide +kernel
theorem dX6_gameOne_29 : decode cX6_gameOne 29 = .ok (.istore 4, 2) := by decide +kernel
theorem dX6_gameOne_31 : decode cX6_gameOne 31 = .ok (.iload_n 1, 1) := by decide +kernel
theorem dX6_gameOne_32 : decode cX6_gameOne 32 = .ok (.iconst 1, 1) := by decide +kernel
theorem dX6_gameOne_33 : decode cX6_gameOne 33 = .ok (.if_icmp .le 144, 3) := by decide +kernel
theorem dX6_gameOne_36 : decode cX6_gameOne 36 = .ok (.iconst 0, 1) := by decide +kernel
theorem dX6_gameOne_37 : decode cX6_gameOne 37 = .ok (.istore 5, 2) := by decide +kernel
theorem dX6_gameOne_39 : decode cX6_gameOne 39 = .ok (.iload 5, 2) := by decide +kernel
theorem dX6_gameOne_41 : decode cX6_gameOne 41 = .ok (.bipush 16, 2) := by decide +kernel
theorem dX6_gameOne_43 : decode cX6_gameOne 43 = .ok (.if_icmp .ge 54, 3) := by decide +kernel
theorem dX6_gameOne_46 : decode cX6_gameOne 46 = .ok (.aload_n 0, 1) := by decide +kernel
theorem dX6_gameOne_47 : decode cX6_gameOne 47 = .ok (.getfield 50, 3) := by decide +kernel
theorem dX6_gameOne_50 : decode cX6_gameOne 50 = .ok (.iload 5, 2) := by decide +kernel
theorem dX6_gameOne_52 : decode cX6_gameOne 52 = .ok (.iconst 0, 1) := by decide +kernel
theorem dX6_gameOne_53 : decode cX6_gameOne 53 = .ok (.iastore, 1) := by decide +kernel
theorem dX6_gameOne_54 : decode cX6_gameOne 54 = .ok (.iconst 0, 1) := by decide +kernel
theorem dX6_gameOne_55 : decode cX6_gameOne 55 = .ok (.istore 6, 2) := by decide +kernel
theorem dX6_gameOne_57 : decode cX6_gameOne 57 = .ok (.iload 6, 2) := by decide +kernel
theorem dX6_gameOne_59 : decode cX6_gameOne 59 = .ok (.iload_n 1, 1) := by decide +kernel
theorem dX6_gameOne_60 : decode cX6_gameOne 60 = .ok (.if_icmp .ge 31, 3) := by decide +kernel
theorem dX6_gameOne_63 : decode cX6_gameOne 63 = .ok (.aload_n 0, 1) := by decide +kernel
theorem dX6_gameOne_64 : decode cX6_gameOne 64 = .ok (.getfield 50, 3) := by decide +kernel
theorem dX6_gameOne_67 : decode cX6_gameOne 67 = .ok (.iload 5, 2) := by decide +kernel
theorem dX6_gameOne_69 : decode cX6_gameOne 69 = .ok (.dup2, 1) := by decide +kernel
theorem dX6_gameOne_70 : decode cX6_gameOne 70 = .ok (.iaload, 1) := by decide +kernel
theorem dX6_gameOne_71 : decode cX6_gameOne 71 = .ok (.aload_n 0, 1) := by decide +kernel
theorem dX6_gameOne_72 : decode cX6_gameOne 72 = .ok (.getfield 47, 3) := by decide +kernel
theorem dX6_gameOne_75 : decode cX6_gameOne 75 = .ok (.iload 6, 2) := by decide +kernel
theorem dX6_gameOne_77 : decode cX6_gameOne 77 = .ok (.iaload, 1) := by decide +kernel
theorem dX6_gameOne_78 : decode cX6_gameOne 78 = .ok (.iload 5, 2) := by decide +kernel
theorem dX6_gameOne_80 : decode cX6_gameOne 80 = .ok (.ishr, 1) := by decide +kernel
theorem dX6_gameOne_81 : decode cX6_gameOne 81 = .ok (.iconst 1, 1) := by decide +kernel
theorem dX6_gameOne_82 : decode cX6_gameOne 82 = .ok (.iand, 1) := by decide +kernel
theorem dX6_gameOne_83 : decode cX6_gameOne 83 = .ok (.iadd, 1) := by decide +kernel
theorem dX6_gameOne_84 : decode cX6_gameOne 84 = .ok (.iastore, 1) := by decide +kernel
theorem dX6_gameOne_85 : decode cX6_gameOne 85 = .ok (.iinc 6 1, 3) := by decide +kernel
theorem dX6_gameOne_88 : decode cX6_gameOne 88 = .ok (.goto (-31), 3) := by decide +kernel
theorem dX6_gameOne_91 : decode cX6_gameOne 91 = .ok (.iinc 5 1, 3) := by decide +kernel
theorem dX6_gameOne_94 : decode cX6_gameOne 94 = .ok (.goto (-55), 3) := by decide +kernel
theorem dX6_gameOne_97 : decode cX6_gameOne 97 = .ok (.aload_n 0, 1) := by decide +kernel
theorem dX6_gameOne_98 : decode cX6_gameOne 98 = .ok (.aload_n 0, 1) := by decide +kernel
theorem dX6_gameOne_99 : decode cX6_gameOne 99 = .ok (.getfield 50, 3) := by decide +kernel
theorem dX6_gameOne_102 : decode cX6_gameOne 102 = .ok (.iload_n 1, 1) := by decide +kernel
theorem dX6_gameOne_103 : decode cX6_gameOne 103 = .ok (.iload_n 3, 1) := by decide +kernel
theorem dX6_gameOne_104 : decode cX6_gameOne 104 = .ok (.invokevirtual 268, 3) := by decide +kernel
theorem dX6_gameOne_107 : decode cX6_gameOne 107 = .ok (.istore 5, 2) := by decide +kernel
theorem dX6_gameOne_109 : decode cX6_gameOne 109 = .ok (.iload_n 3, 1) := by decide +kernel
theorem dX6_gameOne_110 : decode cX6_gameOne 110 = .ok (.iconst 1, 1) := by decide +kernel
theorem dX6_gameOne_111 : decode cX6_gameOne 111 = .ok (.iload 5, 2) := by decide +kernel
theorem dX6_gameOne_113 : decode cX6_gameOne 113 = .ok (.ishl, 1) := by decide +kernel
theorem dX6_gameOne_114 : decode cX6_gameOne 114 = .ok (.ior, 1) := by decide +kernel
theorem dX6_gameOne_115 : decode cX6_gameOne 115 = .ok (.istore_n 3, 1) := by decide +kernel
theorem dX6_gameOne_116 : decode cX6_gameOne 116 = .ok (.iinc 4 1, 3) := by decide +kernel
theorem dX6_gameOne_119 : decode cX6_gameOne 119 = .ok (.iconst 0, 1) := by decide +kernel
theorem dX6_gameOne_120 : decode cX6_gameOne 120 = .ok (.istore 6, 2) := by decide +kernel
theorem dX6_gameOne_122 : decode cX6_gameOne 122 = .ok (.iconst 0, 1) := by decide +kernel
theorem dX6_gameOne_123 : decode cX6_gameOne 123 = .ok (.istore 7, 2) := by decide +kernel
theorem dX6_gameOne_125 : decode cX6_gameOne 125 = .ok (.iload 7, 2) := by decide +kernel
theorem dX6_gameOne_127 : decode cX6_gameOne 127 = .ok (.iload_n 1, 1) := by decide +kernel
theorem dX6_gameOne_128 : decode cX6_gameOne 128 = .ok (.if_icmp .ge 43, 3) := by decide +kernel
theorem dX6_gameOne_131 : decode cX6_gameOne 131 = .ok (.aload_n 0, 1) := by decide +kernel
theorem dX6_gameOne_132 : decode cX6_gameOne 132 = .ok (.getfield 47, 3) := by decide +kernel
theorem dX6_gameOne_135 : decode cX6_gameOne 135 = .ok (.iload 7, 2) := by decide +kernel
theorem dX6_gameOne_137 : decode cX6_gameOne 137 = .ok (.iaload, 1) := by decide +kernel
theorem dX6_gameOne_138 : decode cX6_gameOne 138 = .ok (.iload_n 2, 1) := by decide +kernel
theorem dX6_gameOne_139 : decode cX6_gameOne 139 = .ok (.ixor, 1) := by decide +kernel
theorem dX6_gameOne_140 : decode cX6_gameOne 140 = .ok (.iload 5, 2) := by decide +kernel
theorem dX6_gameOne_142 : decode cX6_gameOne 142 = .ok (.ishr, 1) := by decide +kernel
theorem dX6_gameOne_143 : decode cX6_gameOne 143 = .ok (.iconst 1, 1) := by decide +kernel
theorem dX6_gameOne_144 : decode cX6_gameOne 144 = .ok (.iand, 1) := by decide +kernel
theorem dX6_gameOne_145 : decode cX6_gameOne 145 = .ok (.ifCond .ne 20, 3) := by decide +kernel
theorem dX6_gameOne_148 : decode cX6_gameOne 148 = .ok (.aload_n 0, 1) := by decide +kernel
theorem dX6_gameOne_149 : decode cX6_gameOne 149 = .ok (.getfield 47, 3) := by decide +kernel
theorem dX6_gameOne_152 : decode cX6_gameOne 152 = .ok (.iload 6, 2) := by decide +kernel
theorem dX6_gameOne_154 : decode cX6_gameOne 154 = .ok (.aload_n 0, 1) := by decide +kernel
theorem dX6_gameOne_155 : decode cX6_gameOne 155 = .ok (.getfield 47, 3) := by decide +kernel
theorem dX6_gameOne_158 : decode cX6_gameOne 158 = .ok (.iload 7, 2) := by decide +kernel
theorem dX6_gameOne_160 : decode cX6_gameOne 160 = .ok (.iaload, 1) := by decide +kernel
theorem dX6_gameOne_161 : decode cX6_gameOne 161 = .ok (.iastore, 1) := by decide +kernel
theorem dX6_gameOne_162 : decode cX6_gameOne 162 = .ok (.iinc 6 1, 3) := by decide +kernel
theorem dX6_gameOne_165 : decode cX6_gameOne 165 = .ok (.iinc 7 1, 3) := by decide +kernel
theorem dX6_gameOne_168 : decode cX6_gameOne 168 = .ok (.goto (-43), 3) := by decide +kernel
theorem dX6_gameOne_171 : decode cX6_gameOne 171 = .ok (.iload 6, 2) := by decide +kernel
theorem dX6_gameOne_173 : decode cX6_gameOne 173 = .ok (.istore_n 1, 1) := by decide +kernel
theorem dX6_gameOne_174 : decode cX6_gameOne 174 = .ok (.goto (-143), 3) := by decide +kernel
theorem dX6_gameOne_177 : decode cX6_gameOne 177 = .ok (.iload 4, 2) := by decide +kernel
theorem dX6_gameOne_179 : decode cX6_gameOne 179 = .ok (.ireturn, 1) := by decide +kernel
theorem dX6_games_0 : decode cX6_games 0 = .ok (.iload_n 1, 1) := by decide +kernel
theorem dX6_games_1 : decode cX6_games 1 = .ok (.i2l, 1) := by decide +kernel
theorem dX6_games_2 : decode cX6_games 2 = .ok (.lconst 1, 1) := by decide +kernel
theorem dX6_games_3 : decode cX6_games 3 = .ok (.ldc2_w 325, 3) := by decide +kernel
theorem dX6_games_6 : decode cX6_games 6 = .ok (.invokestatic 78, 3) := by decide +kernel
theorem dX6_games_9 : decode cX6_games 9 = .ok (.ifCond .eq 19, 3) := by decide +kernel
theorem dX6_games_12 : decode cX6_games 12 = .ok (.iload_n 2, 1) := by decide +kernel
theorem dX6_games_13 : decode cX6_games 13 = .ok (.ifCond .lt 15, 3) := by decide +kernel
theorem dX6_games_16 : decode cX6_games 16 = .ok (.iload_n 3, 1) := by decide +kernel
theorem dX6_games_17 : decode cX6_games 17 = .ok (.i2l, 1) := by decide +kernel
theorem dX6_games_18 : decode cX6_games 18 = .ok (.lconst 0, 1) := by decide +kernel
theorem dX6_games_19 : decode cX6_games 19 = .ok (.ldc2_w 262, 3) := by decide +kernel
theorem dX6_games_22 : decode cX6_games 22 = .ok (.invokestatic 78, 3) := by decide +kernel
theorem dX6_games_25 : decode cX6_games 25 = .ok (.ifCond .ne 6, 3) := by decide +kernel
theorem dX6_games_28 : decode cX6_games 28 = .ok (.bipush (-102), 2) := by decide +kernel
theorem dX6_games_30 : decode cX6_games 30 = .ok (.ireturn, 1) := by decide +kernel
theorem dX6_games_31 : decode cX6_games 31 = .ok (.aload_n 0, 1) := by decide +kernel
theorem dX6_games_32 : decode cX6_games 32 = .ok (.invokevirtual 223, 3) := by decide +kernel
theorem dX6_games_35 : decode cX6_games 35 = .ok (.ifCond .ne 18, 3) := by decide +kernel
theorem dX6_games_38 : decode cX6_games 38 = .ok (.aload_n 0, 1) := by decide +kernel
theorem dX6_games_39 : decode cX6_games 39 = .ok (.invokevirtual 227, 3) := by decide +kernel
theorem dX6_games_42 : decode cX6_games 42 = .ok (.i2l, 1) := by decide +kernel
theorem dX6_games_43 : decode cX6_games 43 = .ok (.lconst 1, 1) := by decide +kernel
theorem dX6_games_44 : decode cX6_games 44 = .ok (.ldc2_w 327, 3) := by decide +kernel
theorem dX6_games_47 : decode cX6_games 47 = .ok (.invokestatic 78, 3) := by decide +kernel
theorem dX6_games_50 : decode cX6_games 50 = .ok (.ifCond .ne 6, 3) := by decide +kernel
theorem dX6_games_53 : decode cX6_games 53 = .ok (.bipush (-103), 2) := by decide +kernel
theorem dX6_games_55 : decode cX6_games 55 = .ok (.ireturn, 1) := by decide +kernel
theorem dX6_games_56 : decode cX6_games 56 = .ok (.aload_n 0, 1) := by decide +kernel
theorem dX6_games_57 : decode cX6_games 57 = .ok (.iload_n 2, 1) := by decide +kernel
theorem dX6_games_58 : decode cX6_games 58 = .ok (.putfield 311, 3) := by decide +kernel
theorem dX6_games_61 : decode cX6_games 61 = .ok (.iconst 0, 1) := by decide +kernel
theorem dX6_games_62 : decode cX6_games 62 = .ok (.istore 4, 2) := by decide +kernel
theorem dX6_games_64 : decode cX6_games 64 = .ok (.iconst 0, 1) := by decide +kernel
theorem dX6_games_65 : decode cX6_games 65 = .ok (.istore 5, 2) := by decide +kernel
theorem dX6_games_67 : decode cX6_games 67 = .ok (.iconst 0, 1) := by decide +kernel
theorem dX6_games_68 : decode cX6_games 68 = .ok (.istore 6, 2) := by decide +kernel
theorem dX6_games_70 : decode cX6_games 70 = .ok (.iload 6, 2) := by decide +kernel
theorem dX6_games_72 : decode cX6_games 72 = .ok (.iload_n 1, 1) := by decide +kernel
theorem dX6_games_73 : decode cX6_games 73 = .ok (.if_icmp .ge 38, 3) := by decide +kernel
theorem dX6_games_76 : decode cX6_games 76 = .ok (.aload_n 0, 1) := by decide +kernel
theorem dX6_games_77 : decode cX6_games 77 = .ok (.invokevirtual 329, 3) := by decide +kernel
theorem dX6_games_80 : decode cX6_games 80 = .ok (.istore 7, 2) := by decide +kernel
theorem dX6_games_82 : decode cX6_games 82 = .ok (.iload 4, 2) := by decide +kernel
theorem dX6_games_84 : decode cX6_games 84 = .ok (.iload 7, 2) := by decide +kernel
theorem dX6_games_86 : decode cX6_games 86 = .ok (.iadd, 1) := by decide +kernel
theorem dX6_games_87 : decode cX6_games 87 = .ok (.istore 4, 2) := by decide +kernel
theorem dX6_games_89 : decode cX6_games 89 = .ok (.iload 5, 2) := by decide +kernel
theorem dX6_games_91 : decode cX6_games 91 = .ok (.iload 7, 2) := by decide +kernel
theorem dX6_games_93 : decode cX6_games 93 = .ok (.iconst 3, 1) := by decide +kernel
theorem dX6_games_94 : decode cX6_games 94 = .ok (.if_icmp .ge 7, 3) := by decide +kernel
theorem dX6_games_97 : decode cX6_games 97 = .ok (.iconst 1, 1) := by decide +kernel
theorem dX6_games_98 : decode cX6_games 98 = .ok (.goto 4, 3) := by decide +kernel
theorem dX6_games_101 : decode cX6_games 101 = .ok (.iconst 0, 1) := by decide +kernel
theorem dX6_games_102 : decode cX6_games 102 = .ok (.iadd, 1) := by decide +kernel
theorem dX6_games_103 : decode cX6_games 103 = .ok (.istore 5, 2) := by decide +kernel
theorem dX6_games_105 : decode cX6_games 105 = .ok (.iinc 6 1, 3) := by decide +kernel
theorem dX6_games_108 : decode cX6_games 108 = .ok (.goto (-38), 3) := by decide +kernel
theorem dX6_games_111 : decode cX6_games 111 = .ok (.iload_n 3, 1) := by decide +kernel
theorem dX6_games_112 : decode cX6_games 112 = .ok (.ifCond .ne 8, 3) := by decide +kernel
theorem dX6_games_115 : decode cX6_games 115 = .ok (.iload 4, 2) := by decide +kernel
theorem dX6_games_117 : decode cX6_games 117 = .ok (.goto 17, 3) := by decide +kernel
theorem dX6_games_120 : decode cX6_games 120 = .ok (.iload_n 3, 1) := by decide +kernel
theorem dX6_games_121 : decode cX6_games 121 = .ok (.iconst 1, 1) := by decide +kernel
theorem dX6_games_122 : decode cX6_games 122 = .ok (.if_icmp .ne 8, 3) := by decide +kernel
theorem dX6_games_125 : decode cX6_games 125 = .ok (.iload 5, 2) := by decide +kernel
theorem dX6_games_127 : decode cX6_games 127 = .ok (.goto 7, 3) := by decide +kernel
theorem dX6_games_130 : decode cX6_games 130 = .ok (.aload_n 0, 1) := by decide +kernel
theorem dX6_games_131 : decode cX6_games 131 = .ok (.getfield 311, 3) := by decide +kernel
theorem dX6_games_134 : decode cX6_games 134 = .ok (.ireturn, 1) := by decide +kernel
theorem dX6_image_0 : decode cX6_image 0 = .ok (.aload_n 0, 1) := by decide +kernel
theorem dX6_image_1 : decode cX6_image 1 = .ok (.invokevirtual 223, 3) := by decide +kernel
theorem dX6_image_4 : decode cX6_image 4 = .ok (.ifCond .eq 6, 3) := by decide +kernel
theorem dX6_image_7 : decode cX6_image 7 = .ok (.bipush (-103), 2) := by decide +kernel
theorem dX6_image_9 : decode cX6_image 9 = .ok (.ireturn, 1) := by decide +kernel
theorem dX6_image_10 : decode cX6_image 10 = .ok (.aload_n 0, 1) := by decide +kernel
theorem dX6_image_11 : decode cX6_image 11 = .ok (.getfield 22, 3) := by decide +kernel
theorem dX6_image_14 : decode cX6_image 14 = .ok (.aload_n 0, 1) := by decide +kernel
theorem dX6_image_15 : decode cX6_image 15 = .ok (.getfield 53, 3) := by decide +kernel
theorem dX6_image_18 : decode cX6_image 18 = .ok (.invokestatic 147, 3) := by decide +kernel
theorem dX6_image_21 : decode cX6_image 21 = .ok (.aload_n 0, 1) := by decide +kernel
theorem dX6_image_22 : decode cX6_image 22 = .ok (.getfield 25, 3) := by decide +kernel
theorem dX6_image_25 : decode cX6_image 25 = .ok (.aload_n 0, 1) := by decide +kernel
theorem dX6_image_26 : decode cX6_image 26 = .ok (.getfield 56, 3) := by decide +kernel
theorem dX6_image_29 : decode cX6_image 29 = .ok (.invokestatic 147, 3) := by decide +kernel
theorem dX6_image_32 : decode cX6_image 32 = .ok (.aload_n 0, 1) := by decide +kernel
theorem dX6_image_33 : decode cX6_image 33 = .ok (.getfield 28, 3) := by decide +kernel
theorem dX6_image_36 : decode cX6_image 36 = .ok (.aload_n 0, 1) := by decide +kernel
theorem dX6_image_37 : decode cX6_image 37 = .ok (.getfield 59, 3) := by decide +kernel
theorem dX6_image_40 : decode cX6_image 40 = .ok (.invokestatic 147, 3) := by decide +kernel
theorem dX6_image_43 : decode cX6_image 43 = .ok (.aload_n 0, 1) := by decide +kernel
theorem dX6_image_44 : decode cX6_image 44 = .ok (.getfield 31, 3) := by decide +kernel
theorem dX6_image_47 : decode cX6_image 47 = .ok (.aload_n 0, 1) := by decide +kernel
theorem dX6_image_48 : decode cX6_image 48 = .ok (.getfield 62, 3) := by decide +kernel
theorem dX6_image_51 : decode cX6_image 51 = .ok (.invokestatic 147, 3) := by decide +kernel
theorem dX6_image_54 : decode cX6_image 54 = .ok (.aload_n 0, 1) := by decide +kernel
theorem dX6_image_55 : decode cX6_image 55 = .ok (.getfield 44, 3) := by decide +kernel
theorem dX6_image_58 : decode cX6_image 58 = .ok (.aload_n 0, 1) := by decide +kernel
theorem dX6_image_59 : decode cX6_image 59 = .ok (.getfield 65, 3) := by decide +kernel
theorem dX6_image_62 : decode cX6_image 62 = .ok (.invokestatic 147, 3) := by decide +kernel
theorem dX6_image_65 : decode cX6_image 65 = .ok (.aload_n 0, 1) := by decide +kernel
theorem dX6_image_66 : decode cX6_image 66 = .ok (.aload_n 0, 1) := by decide +kernel
theorem dX6_image_67 : decode cX6_image 67 = .ok (.getfield 151, 3) := by decide +kernel
theorem dX6_image_70 : decode cX6_image 70 = .ok (.putfield 332, 3) := by decide +kernel
theorem dX6_image_73 : decode cX6_image 73 = .ok (.aload_n 0, 1) := by decide +kernel
theorem dX6_image_74 : decode cX6_image 74 = .ok (.aload_n 0, 1) := by decide +kernel
theorem dX6_image_75 : decode cX6_image 75 = .ok (.getfield 154, 3) := by decide +kernel
theorem dX6_image_78 : decode cX6_image 78 = .ok (.putfield 68, 3) := by decide +kernel
theorem dX6_image_81 : decode cX6_image 81 = .ok (.aload_n 0, 1) := by decide +kernel
theorem dX6_image_82 : decode cX6_image 82 = .ok (.invokevirtual 264, 3) := by decide +kernel
theorem dX6_image_85 : decode cX6_image 85 = .ok (.ireturn, 1) := by decide +kernel
theorem dX6_restore_0 : decode cX6_restore 0 = .ok (.aload_n 0, 1) := by decide +kernel
theorem dX6_restore_1 : decode cX6_restore 1 = .ok (.getfield 68, 3) := by decide +kernel
theorem dX6_restore_4 : decode cX6_restore 4 = .ok (.aload_n 0, 1) := by decide +kernel
theorem dX6_restore_5 : decode cX6_restore 5 = .ok (.getfield 154, 3) := by decide +kernel
theorem dX6_restore_8 : decode cX6_restore 8 = .ok (.if_icmp .eq 6, 3) := by decide +kernel
theorem dX6_restore_11 : decode cX6_restore 11 = .ok (.bipush (-103), 2) := by decide +kernel
theorem dX6_restore_13 : decode cX6_restore 13 = .ok (.ireturn, 1) := by decide +kernel
theorem dX6_restore_14 : decode cX6_restore 14 = .ok (.aload_n 0, 1) := by decide +kernel
theorem dX6_restore_15 : decode cX6_restore 15 = .ok (.getfield 53, 3) := by decide +kernel
theorem dX6_restore_18 : decode cX6_restore 18 = .ok (.aload_n 0, 1) := by decide +kernel
theorem dX6_restore_19 : decode cX6_restore 19 = .ok (.getfield 22, 3) := by decide +kernel
theorem dX6_restore_22 : decode cX6_restore 22 = .ok (.invokestatic 147, 3) := by decide +kernel
theorem dX6_restore_25 : decode cX6_restore 25 = .ok (.aload_n 0, 1) := by decide +kernel
theorem dX6_restore_26 : decode cX6_restore 26 = .ok (.getfield 56, 3) := by decide +kernel
theorem dX6_restore_29 : decode cX6_restore 29 = .ok (.aload_n 0, 1) := by decide +kernel
theorem dX6_restore_30 : decode cX6_restore 30 = .ok (.getfield 25, 3) := by decide +kernel
theorem dX6_restore_33 : decode cX6_restore 33 = .ok (.invokestatic 147, 3) := by decide +kernel
theorem dX6_restore_36 : decode cX6_restore 36 = .ok (.aload_n 0, 1) := by decide +kernel
theorem dX6_restore_37 : decode cX6_restore 37 = .ok (.getfield 59, 3) := by decide +kernel
theorem dX6_restore_40 : decode cX6_restore 40 = .ok (.aload_n 0, 1) := by decide +kernel
theorem dX6_restore_41 : decode cX6_restore 41 = .ok (.getfield 28, 3) := by decide +kernel
theorem dX6_restore_44 : decode cX6_restore 44 = .ok (.invokestatic 147, 3) := by decide +kernel
theorem dX6_restore_47 : decode cX6_restore 47 = .ok (.aload_n 0, 1) := by decide +kernel
theorem dX6_restore_48 : decode cX6_restore 48 = .ok (.getfield 62, 3) := by decide +kernel
theorem dX6_restore_51 : decode cX6_restore 51 = .ok (.aload_n 0, 1) := by decide +kernel
theorem dX6_restore_52 : decode cX6_restore 52 = .ok (.getfield 31, 3) := by decide +kernel
theorem dX6_restore_55 : decode cX6_restore 55 = .ok (.invokestatic 147, 3) := by decide +kernel
theorem dX6_restore_58 : decode cX6_restore 58 = .ok (.aload_n 0, 1) := by decide +kernel
theorem dX6_restore_59 : decode cX6_restore 59 = .ok (.getfield 65, 3) := by decide +kernel
theorem dX6_restore_62 : decode cX6_restore 62 = .ok (.aload_n 0, 1) := by decide +kernel
theorem dX6_restore_63 : decode cX6_restore 63 = .ok (.getfield 44, 3) := by decide +kernel
theorem dX6_restore_66 : decode cX6_restore 66 = .ok (.invokestatic 147, 3) := by decide +kernel
theorem dX6_restore_69 : decode cX6_restore 69 = .ok (.aload_n 0, 1) := by decide +kernel
theorem dX6_restore_70 : decode cX6_restore 70 = .ok (.aload_n 0, 1) := by decide +kernel
theorem dX6_restore_71 : decode cX6_restore 71 = .ok (.getfield 332, 3) := by decide +kernel
theorem dX6_restore_74 : decode cX6_restore 74 = .ok (.putfield 151, 3) := by decide +kernel
theorem dX6_restore_77 : decode cX6_restore 77 = .ok (.aload_n 0, 1) := by decide +kernel
theorem dX6_restore_78 : decode cX6_restore 78 = .ok (.iconst 1, 1) := by decide +kernel
theorem dX6_restore_79 : decode cX6_restore 79 = .ok (.putfield 72, 3) := by decide +kernel
theorem dX6_restore_82 : decode cX6_restore 82 = .ok (.aload_n 0, 1) := by decide +kernel
theorem dX6_restore_83 : decode cX6_restore 83 = .ok (.invokevirtual 264, 3) := by decide +kernel
theorem dX6_restore_86 : decode cX6_restore 86 = .ok (.ireturn, 1) := by decide +kernel
theorem dX6_sureMany_0 : decode cX6_sureMany 0 = .ok (.iconst 0, 1) := by decide +kernel
theorem dX6_sureMany_1 : decode cX6_sureMany 1 = .ok (.istore_n 1, 1) := by decide +kernel
theorem dX6_sureMany_2 : decode cX6_sureMany 2 = .ok (.iconst 0, 1) := by decide +kernel
theorem dX6_sureMany_3 : decode cX6_sureMany 3 = .ok (.istore_n 2, 1) := by decide +kernel
theorem dX6_sureMany_4 : decode cX6_sureMany 4 = .ok (.iload_n 2, 1) := by decide +kernel
theorem dX6_sureMany_5 : decode cX6_sureMany 5 = .ok (.aload_n 0, 1) := by decide +kernel
theorem dX6_sureMany_6 : decode cX6_sureMany 6 = .ok (.getfield 141, 3) := by decide +kernel
theorem dX6_sureMany_9 : decode cX6_sureMany 9 = .ok (.aload_n 0, 1) := by decide +kernel
theorem dX6_sureMany_10 : decode cX6_sureMany 10 = .ok (.getfield 144, 3) := by decide +kernel
theorem dX6_sureMany_13 : decode cX6_sureMany 13 = .ok (.imul, 1) := by decide +kernel
theorem dX6_sureMany_14 : decode cX6_sureMany 14 = .ok (.if_icmp .ge 26, 3) := by decide +kernel
theorem dX6_sureMany_17 : decode cX6_sureMany 17 = .ok (.iload_n 1, 1) := by decide +kernel
theorem dX6_sureMany_18 : decode cX6_sureMany 18 = .ok (.aload_n 0, 1) := by decide +kernel
theorem dX6_sureMany_19 : decode cX6_sureMany 19 = .ok (.iload_n 2, 1) := by decide +kernel
theorem dX6_sureMany_20 : decode cX6_sureMany 20 = .ok (.invokevirtual 239, 3) := by decide +kernel
theorem dX6_sureMany_23 : decode cX6_sureMany 23 = .ok (.iconst (-1), 1) := by decide +kernel
theorem dX6_sureMany_24 : decode cX6_sureMany 24 = .ok (.if_icmp .ne 7, 3) := by decide +kernel
theorem dX6_sureMany_27 : decode cX6_sureMany 27 = .ok (.iconst 0, 1) := by decide +kernel
theorem dX6_sureMany_28 : decode cX6_sureMany 28 = .ok (.goto 4, 3) := by decide +kernel
theorem dX6_sureMany_31 : decode cX6_sureMany 31 = .ok (.iconst 1, 1) := by decide +kernel
theorem dX6_sureMany_32 : decode cX6_sureMany 32 = .ok (.iadd, 1) := by decide +kernel
theorem dX6_sureMany_33 : decode cX6_sureMany 33 = .ok (.istore_n 1, 1) := by decide +kernel
theorem dX6_sureMany_34 : decode cX6_sureMany 34 = .ok (.iinc 2 1, 3) := by decide +kernel
theorem dX6_sureMany_37 : decode cX6_sureMany 37 = .ok (.goto (-33), 3) := by decide +kernel
theorem dX6_sureMany_40 : decode cX6_sureMany 40 = .ok (.iload_n 1, 1) := by decide +kernel
theorem dX6_sureMany_41 : decode cX6_sureMany 41 = .ok (.ireturn, 1) := by decide +kernel
theorem dX6_countOf_0 : decode cX6_countOf 0 = .ok (.iload_n 1, 1) := by decide +kernel
theorem dX6_countOf_1 : decode cX6_countOf 1 = .ok (.tableswitch 120 0 10 #[59, 64, 69, 79, 79, 90, 95, 100, 105, 110, 115], 59) := by decide +kernel
theorem dX6_countOf_60 : decode cX6_countOf 60 = .ok (.aload_n 0, 1) := by decide +kernel
theorem dX6_countOf_61 : decode cX6_countOf 61 = .ok (.getfield 141, 3) := by decide +kernel
theorem dX6_countOf_64 : decode cX6_countOf 64 = .ok (.ireturn, 1) := by decide +kernel
theorem dX6_countOf_65 : decode cX6_countOf 65 = .ok (.aload_n 0, 1) := by decide +kernel
theorem dX6_countOf_66 : decode cX6_countOf 66 = .ok (.getfield 144, 3) := by decide +kernel
theorem dX6_countOf_69 : decode cX6_countOf 69 = .ok (.ireturn, 1) := by decide +kernel
theorem dX6_countOf_70 : decode cX6_countOf 70 = .ok (.aload_n 0, 1) := by decide +kernel
theorem dX6_countOf_71 : decode cX6_countOf 71 = .ok (.getfield 141, 3) := by decide +kernel
theorem dX6_countOf_74 : decode cX6_countOf 74 = .ok (.aload_n 0, 1) := by decide +kernel
theorem dX6_countOf_75 : decode cX6_countOf 75 = .ok (.getfield 144, 3) := by decide +kernel
theorem dX6_countOf_78 : decode cX6_countOf 78 = .ok (.iadd, 1) := by decide +kernel
theorem dX6_countOf_79 : decode cX6_countOf 79 = .ok (.ireturn, 1) := by decide +kernel
theorem dX6_countOf_80 : decode cX6_countOf 80 = .ok (.aload_n 0, 1) := by decide +kernel
theorem dX6_countOf_81 : decode cX6_countOf 81 = .ok (.iload_n 1, 1) := by decide +kernel
theorem dX6_countOf_82 : decode cX6_countOf 82 = .ok (.iconst 2, 1) := by decide +kernel
theorem dX6_countOf_83 : decode cX6_countOf 83 = .ok (.isub, 1) := by decide +kernel
theorem dX6_countOf_84 : decode cX6_countOf 84 = .ok (.invokevirtual 204, 3) := by decide +kernel
theorem dX6_countOf_87 : decode cX6_countOf 87 = .ok (.invokestatic 173, 3) := by decide +kernel
theorem dX6_countOf_90 : decode cX6_countOf 90 = .ok (.ireturn, 1) := by decide +kernel
theorem dX6_countOf_91 : decode cX6_countOf 91 = .ok (.aload_n 0, 1) := by decide +kernel
theorem dX6_countOf_92 : decode cX6_countOf 92 = .ok (.invokevirtual 335, 3) := by decide +kernel
theorem dX6_countOf_95 : decode cX6_countOf 95 = .ok (.ireturn, 1) := by decide +kernel
theorem dX6_countOf_96 : decode cX6_countOf 96 = .ok (.aload_n 0, 1) := by decide +kernel
theorem dX6_countOf_97 : decode cX6_countOf 97 = .ok (.getfield 151, 3) := by decide +kernel
theorem dX6_countOf_100 : decode cX6_countOf 100 = .ok (.ireturn, 1) := by decide +kernel
theorem dX6_countOf_101 : decode cX6_countOf 101 = .ok (.aload_n 0, 1) := by decide +kernel
theorem dX6_countOf_102 : decode cX6_countOf 102 = .ok (.getfield 82, 3) := by decide +kernel
theorem dX6_countOf_105 : decode cX6_countOf 105 = .ok (.ireturn, 1) := by decide +kernel
theorem dX6_countOf_106 : decode cX6_countOf 106 = .ok (.aload_n 0, 1) := by decide +kernel
theorem dX6_countOf_107 : decode cX6_countOf 107 = .ok (.getfield 154, 3) := by decide +kernel
theorem dX6_countOf_110 : decode cX6_countOf 110 = .ok (.ireturn, 1) := by decide +kernel
theorem dX6_countOf_111 : decode cX6_countOf 111 = .ok (.aload_n 0, 1) := by decide +kernel
theorem dX6_countOf_112 : decode cX6_countOf 112 = .ok (.getfield 288, 3) := by decide +kernel
theorem dX6_countOf_115 : decode cX6_countOf 115 = .ok (.ireturn, 1) := by decide +kernel
theorem dX6_countOf_116 : decode cX6_countOf 116 = .ok (.aload_n 0, 1) := by decide +kernel
theorem dX6_countOf_117 : decode cX6_countOf 117 = .ok (.getfield 300, 3) := by decide +kernel
theorem dX6_countOf_120 : decode cX6_countOf 120 = .ok (.ireturn, 1) := by decide +kernel
theorem dX6_countOf_121 : decode cX6_countOf 121 = .ok (.bipush (-102), 2) := by decide +kernel
theorem dX6_countOf_123 : decode cX6_countOf 123 = .ok (.ireturn, 1) := by decide +kernel
theorem dX6_count_0 : decode cX6_count 0 = .ok (.aload_n 0, 1) := by decide +kernel
theorem dX6_count_1 : decode cX6_count 1 = .ok (.iload_n 1, 1) := by decide +kernel
theorem dX6_count_2 : decode cX6_count 2 = .ok (.invokevirtual 338, 3) := by decide +kernel
theorem dX6_count_5 : decode cX6_count 5 = .ok (.ireturn, 1) := by decide +kernel
theorem dX6_say_0 : decode cX6_say 0 = .ok (.aload_n 0, 1) := by decide +kernel
theorem dX6_say_1 : decode cX6_say 1 = .ok (.ldc2_w 341, 3) := by decide +kernel
theorem dX6_say_4 : decode cX6_say 4 = .ok (.aload_n 0, 1) := by decide +kernel
theorem dX6_say_5 : decode cX6_say 5 = .ok (.getfield 343, 3) := by decide +kernel
theorem dX6_say_8 : decode cX6_say 8 = .ok (.lmul, 1) := by decide +kernel
theorem dX6_say_9 : decode cX6_say 9 = .ok (.lload_n 1, 1) := by decide +kernel
theorem dX6_say_10 : decode cX6_say 10 = .ok (.ladd, 1) := by decide +kernel
theorem dX6_say_11 : decode cX6_say 11 = .ok (.putfield 343, 3) := by decide +kernel
theorem dX6_say_14 : decode cX6_say 14 = .ok (.return_, 1) := by decide +kernel
theorem dX6_sayLine_0 : decode cX6_sayLine 0 = .ok (.iconst 0, 1) := by decide +kernel
theorem dX6_sayLine_1 : decode cX6_sayLine 1 = .ok (.istore_n 2, 1) := by decide +kernel
theorem dX6_sayLine_2 : decode cX6_sayLine 2 = .ok (.iload_n 2, 1) := by decide +kernel
theorem dX6_sayLine_3 : decode cX6_sayLine 3 = .ok (.bipush 7, 2) := by decide +kernel
theorem dX6_sayLine_5 : decode cX6_sayLine 5 = .ok (.if_icmp .ge 25, 3) := by decide +kernel
theorem dX6_sayLine_8 : decode cX6_sayLine 8 = .ok (.iload_n 2, 1) := by decide +kernel
theorem dX6_sayLine_9 : decode cX6_sayLine 9 = .ok (.iconst 4, 1) := by decide +kernel
theorem dX6_sayLine_10 : decode cX6_sayLine 10 = .ok (.if_icmp .eq 14, 3) := by decide +kernel
theorem dX6_sayLine_13 : decode cX6_sayLine 13 = .ok (.aload_n 0, 1) := by decide +kernel
theorem dX6_sayLine_14 : decode cX6_sayLine 14 = .ok (.aload_n 0, 1) := by decide +kernel
theorem dX6_sayLine_15 : decode cX6_sayLine 15 = .ok (.iload_n 1, 1) := by decide +kernel
theorem dX6_sayLine_16 : decode cX6_sayLine 16 = .ok (.iload_n 2, 1) := by decide +kernel
theorem dX6_sayLine_17 : decode cX6_sayLine 17 = .ok (.invokevirtual 257, 3) := by decide +kernel
theorem dX6_sayLine_20 : decode cX6_sayLine 20 = .ok (.i2l, 1) := by decide +kernel
theorem dX6_sayLine_21 : decode cX6_sayLine 21 = .ok (.invokevirtual 347, 3) := by decide +kernel
theorem dX6_sayLine_24 : decode cX6_sayLine 24 = .ok (.iinc 2 1, 3) := by decide +kernel
theorem dX6_sayLine_27 : decode cX6_sayLine 27 = .ok (.goto (-25), 3) := by decide +kernel
theorem dX6_sayLine_30 : decode cX6_sayLine 30 = .ok (.return_, 1) := by decide +kernel
theorem dX6_digest_0 : decode cX6_digest 0 = .ok (.aload_n 0, 1) := by decide +kernel
theorem dX6_digest_1 : decode cX6_digest 1 = .ok (.ldc2_w 351, 3) := by decide +kernel
theorem dX6_digest_4 : decode cX6_digest 4 = .ok (.putfield 343, 3) := by decide +kernel
theorem dX6_digest_7 : decode cX6_digest 7 = .ok (.iconst 0, 1) := by decide +kernel
theorem dX6_digest_8 : decode cX6_digest 8 = .ok (.istore_n 1, 1) := by decide +kernel
theorem dX6_digest_9 : decode cX6_digest 9 = .ok (.iload_n 1, 1) := by decide +kernel
theorem dX6_digest_10 : decode cX6_digest 10 = .ok (.aload_n 0, 1) := by decide +kernel
theorem dX6_digest_11 : decode cX6_digest 11 = .ok (.getfield 141, 3) := by decide +kernel
theorem dX6_digest_14 : decode cX6_digest 14 = .ok (.aload_n 0, 1) := by decide +kernel
theorem dX6_digest_15 : decode cX6_digest 15 = .ok (.getfield 144, 3) := by decide +kernel
theorem dX6_digest_18 : decode cX6_digest 18 = .ok (.iadd, 1) := by decide +kernel
theorem dX6_digest_19 : decode cX6_digest 19 = .ok (.if_icmp .ge 14, 3) := by decide +kernel
theorem dX6_digest_22 : decode cX6_digest 22 = .ok (.aload_n 0, 1) := by decide +kernel
theorem dX6_digest_23 : decode cX6_digest 23 = .ok (.iload_n 1, 1) := by decide +kernel
theorem dX6_digest_24 : decode cX6_digest 24 = .ok (.invokevirtual 353, 3) := by decide +kernel
theorem dX6_digest_27 : decode cX6_digest 27 = .ok (.iinc 1 1, 3) := by decide +kernel
theorem dX6_digest_30 : decode cX6_digest 30 = .ok (.goto (-21), 3) := by decide +kernel
theorem dX6_digest_33 : decode cX6_digest 33 = .ok (.iconst 0, 1) := by decide +kernel
theorem dX6_digest_34 : decode cX6_digest 34 = .ok (.istore_n 1, 1) := by decide +kernel
theorem dX6_digest_35 : decode cX6_digest 35 = .ok (.iload_n 1, 1) := by decide +kernel
theorem dX6_digest_36 : decode cX6_digest 36 = .ok (.aload_n 0, 1) := by decide +kernel
theorem dX6_digest_37 : decode cX6_digest 37 = .ok (.getfield 141, 3) := by decide +kernel
theorem dX6_digest_40 : decode cX6_digest 40 = .ok (.aload_n 0, 1) := by decide +kernel
theorem dX6_digest_41 : decode cX6_digest 41 = .ok (.getfield 144, 3) := by decide +kernel
theorem dX6_digest_44 : decode cX6_digest 44 = .ok (.imul, 1) := by decide +kernel
theorem dX6_digest_45 : decode cX6_digest 45 = .ok (.if_icmp .ge 40, 3) := by decide +kernel
theorem dX6_digest_48 : decode cX6_digest 48 = .ok (.aload_n 0, 1) := by decide +kernel
theorem dX6_digest_49 : decode cX6_digest 49 = .ok (.aload_n 0, 1) := by decide +kernel
theorem dX6_digest_50 : decode cX6_digest 50 = .ok (.getfield 31, 3) := by decide +kernel
theorem dX6_digest_53 : decode cX6_digest 53 = .ok (.iload_n 1, 1) := by decide +kernel
theorem dX6_digest_54 : decode cX6_digest 54 = .ok (.iaload, 1) := by decide +kernel
theorem dX6_digest_55 : decode cX6_digest 55 = .ok (.i2l, 1) := by decide +kernel
theorem dX6_digest_56 : decode cX6_digest 56 = .ok (.invokevirtual 347, 3) := by decide +kernel
theorem dX6_digest_59 : decode cX6_digest 59 = .ok (.aload_n 0, 1) := by decide +kernel
theorem dX6_digest_60 : decode cX6_digest 60 = .ok (.aload_n 0, 1) := by decide +kernel
theorem dX6_digest_61 : decode cX6_digest 61 = .ok (.iload_n 1, 1) := by decide +kernel
theorem dX6_digest_62 : decode cX6_digest 62 = .ok (.invokevirtual 236, 3) := by decide +kernel
theorem dX6_digest_65 : decode cX6_digest 65 = .ok (.i2l, 1) := by decide +kernel
theorem dX6_digest_66 : decode cX6_digest 66 = .ok (.invokevirtual 347, 3) := by decide +kernel
theorem dX6_digest_69 : decode cX6_digest 69 = .ok (.aload_n 0, 1) := by decide +kernel
theorem dX6_digest_70 : decode cX6_digest 70 = .ok (.aload_n 0, 1) := by decide +kernel
theorem dX6_digest_71 : decode cX6_digest 71 = .ok (.iload_n 1, 1) := by decide +kernel
theorem dX6_digest_72 : decode cX6_digest 72 = .ok (.invokevirtual 239, 3) := by decide +kernel
theorem dX6_digest_75 : decode cX6_digest 75 = .ok (.i2l, 1) := by decide +kernel
theorem dX6_digest_76 : decode cX6_digest 76 = .ok (.invokevirtual 347, 3) := by decide +kernel
theorem dX6_digest_79 : decode cX6_digest 79 = .ok (.iinc 1 1, 3) := by decide +kernel
theorem dX6_digest_82 : decode cX6_digest 82 = .ok (.goto (-47), 3) := by decide +kernel
theorem dX6_digest_85 : decode cX6_digest 85 = .ok (.aload_n 0, 1) := by decide +kernel
theorem dX6_digest_86 : decode cX6_digest 86 = .ok (.invokevirtual 223, 3) := by decide +kernel
theorem dX6_digest_89 : decode cX6_digest 89 = .ok (.ifCond .ne 31, 3) := by decide +kernel
theorem dX6_digest_92 : decode cX6_digest 92 = .ok (.aload_n 0, 1) := by decide +kernel
theorem dX6_digest_93 : decode cX6_digest 93 = .ok (.aload_n 0, 1) := by decide +kernel
theorem dX6_digest_94 : decode cX6_digest 94 = .ok (.invokevirtual 227, 3) := by decide +kernel
theorem dX6_digest_97 : decode cX6_digest 97 = .ok (.i2l, 1) := by decide +kernel
theorem dX6_digest_98 : decode cX6_digest 98 = .ok (.invokevirtual 347, 3) := by decide +kernel
theorem dX6_digest_101 : decode cX6_digest 101 = .ok (.aload_n 0, 1) := by decide +kernel
theorem dX6_digest_102 : decode cX6_digest 102 = .ok (.aload_n 0, 1) := by decide +kernel
theorem dX6_digest_103 : decode cX6_digest 103 = .ok (.iconst 0, 1) := by decide +kernel
theorem dX6_digest_104 : decode cX6_digest 104 = .ok (.invokevirtual 233, 3) := by decide +kernel
theorem dX6_digest_107 : decode cX6_digest 107 = .ok (.i2l, 1) := by decide +kernel
theorem dX6_digest_108 : decode cX6_digest 108 = .ok (.invokevirtual 347, 3) := by decide +kernel
theorem dX6_digest_111 : decode cX6_digest 111 = .ok (.aload_n 0, 1) := by decide +kernel
theorem dX6_digest_112 : decode cX6_digest 112 = .ok (.aload_n 0, 1) := by decide +kernel
theorem dX6_digest_113 : decode cX6_digest 113 = .ok (.invokevirtual 272, 3) := by decide +kernel
theorem dX6_digest_116 : decode cX6_digest 116 = .ok (.i2l, 1) := by decide +kernel
theorem dX6_digest_117 : decode cX6_digest 117 = .ok (.invokevirtual 347, 3) := by decide +kernel
theorem dX6_digest_120 : decode cX6_digest 120 = .ok (.iconst 0, 1) := by decide +kernel
theorem dX6_digest_121 : decode cX6_digest 121 = .ok (.istore_n 1, 1) := by decide +kernel
theorem dX6_digest_122 : decode cX6_digest 122 = .ok (.iload_n 1, 1) := by decide +kernel
theorem dX6_digest_123 : decode cX6_digest 123 = .ok (.aload_n 0, 1) := by decide +kernel
theorem dX6_digest_124 : decode cX6_digest 124 = .ok (.getfield 82, 3) := by decide +kernel
theorem dX6_digest_127 : decode cX6_digest 127 = .ok (.if_icmp .ge 20, 3) := by decide +kernel
theorem dX6_digest_130 : decode cX6_digest 130 = .ok (.aload_n 0, 1) := by decide +kernel
theorem dX6_digest_131 : decode cX6_digest 131 = .ok (.aload_n 0, 1) := by decide +kernel
theorem dX6_digest_132 : decode cX6_digest 132 = .ok (.getfield 7, 3) := by decide +kernel
theorem dX6_digest_135 : decode cX6_digest 135 = .ok (.iload_n 1, 1) := by decide +kernel
theorem dX6_digest_136 : decode cX6_digest 136 = .ok (.iaload, 1) := by decide +kernel
theorem dX6_digest_137 : decode cX6_digest 137 = .ok (.i2l, 1) := by decide +kernel
theorem dX6_digest_138 : decode cX6_digest 138 = .ok (.invokevirtual 347, 3) := by decide +kernel
theorem dX6_digest_141 : decode cX6_digest 141 = .ok (.iinc 1 1, 3) := by decide +kernel
theorem dX6_digest_144 : decode cX6_digest 144 = .ok (.goto (-22), 3) := by decide +kernel
theorem dX6_digest_147 : decode cX6_digest 147 = .ok (.iconst 0, 1) := by decide +kernel
theorem dX6_digest_148 : decode cX6_digest 148 = .ok (.istore_n 1, 1) := by decide +kernel
theorem dX6_digest_149 : decode cX6_digest 149 = .ok (.iload_n 1, 1) := by decide +kernel
theorem dX6_digest_150 : decode cX6_digest 150 = .ok (.bipush 11, 2) := by decide +kernel
theorem dX6_digest_152 : decode cX6_digest 152 = .ok (.if_icmp .ge 19, 3) := by decide +kernel
theorem dX6_digest_155 : decode cX6_digest 155 = .ok (.aload_n 0, 1) := by decide +kernel
theorem dX6_digest_156 : decode cX6_digest 156 = .ok (.aload_n 0, 1) := by decide +kernel
theorem dX6_digest_157 : decode cX6_digest 157 = .ok (.iload_n 1, 1) := by decide +kernel
theorem dX6_digest_158 : decode cX6_digest 158 = .ok (.invokevirtual 338, 3) := by decide +kernel
theorem dX6_digest_161 : decode cX6_digest 161 = .ok (.i2l, 1) := by decide +kernel
theorem dX6_digest_162 : decode cX6_digest 162 = .ok (.invokevirtual 347, 3) := by decide +kernel
theorem dX6_digest_165 : decode cX6_digest 165 = .ok (.iinc 1 1, 3) := by decide +kernel
theorem dX6_digest_168 : decode cX6_digest 168 = .ok (.goto (-19), 3) := by decide +kernel
theorem dX6_digest_171 : decode cX6_digest 171 = .ok (.aload_n 0, 1) := by decide +kernel
theorem dX6_digest_172 : decode cX6_digest 172 = .ok (.getfield 343, 3) := by decide +kernel
theorem dX6_digest_175 : decode cX6_digest 175 = .ok (.lreturn, 1) := by decide +kernel
