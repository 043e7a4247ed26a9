theorem dX5_init_0 : decode cX5_init 0 = .ok (.aload_n 0, 1) := by decide +kernel
theorem dX5_init_1 : decode cX5_init 1 = .ok (.invokespecial 1, 3) := by decide +kernel
theorem dX5_init_4 : decode cX5_init 4 = .ok (.aload_n 0, 1) := by decide +kernel
theorem dX5_init_5 : decode cX5_init 5 = .ok (.sipush 700, 3) := by decide +kernel
theorem dX5_init_8 : decode cX5_init 8 = .ok (.newarray .long, 2) := by decide +kernel
theorem dX5_init_10 : decode cX5_init 10 = .ok (.putfield 7, 3) := by decide +kernel
theorem dX5_init_13 : decode cX5_init 13 = .ok (.aload_n 0, 1) := by decide +kernel
theorem dX5_init_14 : decode cX5_init 14 = .ok (.sipush 700, 3) := by decide +kernel
theorem dX5_init_17 : decode cX5_init 17 = .ok (.newarray .int, 2) := by decide +kernel
theorem dX5_init_19 : decode cX5_init 19 = .ok (.putfield 13, 3) := by decide +kernel
theorem dX5_init_22 : decode cX5_init 22 = .ok (.aload_n 0, 1) := by decide +kernel
theorem dX5_init_23 : decode cX5_init 23 = .ok (.sipush 700, 3) := by decide +kernel
theorem dX5_init_26 : decode cX5_init 26 = .ok (.newarray .int, 2) := by decide +kernel
theorem dX5_init_28 : decode cX5_init 28 = .ok (.putfield 17, 3) := by decide +kernel
theorem dX5_init_31 : decode cX5_init 31 = .ok (.aload_n 0, 1) := by decide +kernel
theorem dX5_init_32 : decode cX5_init 32 = .ok (.sipush 700, 3) := by decide +kernel
theorem dX5_init_35 : decode cX5_init 35 = .ok (.newarray .int, 2) := by decide +kernel
theorem dX5_init_37 : decode cX5_init 37 = .ok (.putfield 20, 3) := by decide +kernel
theorem dX5_init_40 : decode cX5_init 40 = .ok (.aload_n 0, 1) := by decide +kernel
theorem dX5_init_41 : decode cX5_init 41 = .ok (.sipush 700, 3) := by decide +kernel
theorem dX5_init_44 : decode cX5_init 44 = .ok (.newarray .boolean, 2) := by decide +kernel
theorem dX5_init_46 : decode cX5_init 46 = .ok (.putfield 23, 3) := by decide +kernel
theorem dX5_init_49 : decode cX5_init 49 = .ok (.aload_n 0, 1) := by decide +kernel
theorem dX5_init_50 : decode cX5_init 50 = .ok (.sipush 700, 3) := by decide +kernel
theorem dX5_init_53 : decode cX5_init 53 = .ok (.newarray .boolean, 2) := by decide +kernel
theorem dX5_init_55 : decode cX5_init 55 = .ok (.putfield 27, 3) := by decide +kernel
theorem dX5_init_58 : decode cX5_init 58 = .ok (.aload_n 0, 1) := by decide +kernel
theorem dX5_init_59 : decode cX5_init 59 = .ok (.sipush 700, 3) := by decide +kernel
theorem dX5_init_62 : decode cX5_init 62 = .ok (.newarray .int, 2) := by decide +kernel
theorem dX5_init_64 : decode cX5_init 64 = .ok (.putfield 30, 3) := by decide +kernel
theorem dX5_init_67 : decode cX5_init 67 = .ok (.aload_n 0, 1) := by decide +kernel
theorem dX5_init_68 : decode cX5_init 68 = .ok (.bipush 8, 2) := by decide +kernel
theorem dX5_init_70 : decode cX5_init 70 = .ok (.newarray .int, 2) := by decide +kernel
theorem dX5_init_72 : decode cX5_init 72 = .ok (.putfield 33, 3) := by decide +kernel
theorem dX5_init_75 : decode cX5_init 75 = .ok (.aload_n 0, 1) := by decide +kernel
theorem dX5_init_76 : decode cX5_init 76 = .ok (.sipush 512, 3) := by decide +kernel
theorem dX5_init_79 : decode cX5_init 79 = .ok (.newarray .long, 2) := by decide +kernel
theorem dX5_init_81 : decode cX5_init 81 = .ok (.putfield 36, 3) := by decide +kernel
theorem dX5_init_84 : decode cX5_init 84 = .ok (.aload_n 0, 1) := by decide +kernel
theorem dX5_init_85 : decode cX5_init 85 = .ok (.sipush 512, 3) := by decide +kernel
theorem dX5_init_88 : decode cX5_init 88 = .ok (.newarray .int, 2) := by decide +kernel
theorem dX5_init_90 : decode cX5_init 90 = .ok (.putfield 39, 3) := by decide +kernel
theorem dX5_init_93 : decode cX5_init 93 = .ok (.aload_n 0, 1) := by decide +kernel
theorem dX5_init_94 : decode cX5_init 94 = .ok (.sipush 512, 3) := by decide +kernel
theorem dX5_init_97 : decode cX5_init 97 = .ok (.newarray .int, 2) := by decide +kernel
theorem dX5_init_99 : decode cX5_init 99 = .ok (.putfield 42, 3) := by decide +kernel
theorem dX5_init_102 : decode cX5_init 102 = .ok (.aload_n 0, 1) := by decide +kernel
theorem dX5_init_103 : decode cX5_init 103 = .ok (.sipush 512, 3) := by decide +kernel
theorem dX5_init_106 : decode cX5_init 106 = .ok (.newarray .int, 2) := by decide +kernel
theorem dX5_init_108 : decode cX5_init 108 = .ok (.putfield 45, 3) := by decide +kernel
theorem dX5_init_111 : decode cX5_init 111 = .ok (.aload_n 0, 1) := by decide +kernel
theorem dX5_init_112 : decode cX5_init 112 = .ok (.sipush 512, 3) := by decide +kernel
theorem dX5_init_115 : decode cX5_init 115 = .ok (.newarray .boolean, 2) := by decide +kernel
theorem dX5_init_117 : decode cX5_init 117 = .ok (.putfield 48, 3) := by decide +kernel
theorem dX5_init_120 : decode cX5_init 120 = .ok (.aload_n 0, 1) := by decide +kernel
theorem dX5_init_121 : decode cX5_init 121 = .ok (.bipush 64, 2) := by decide +kernel
theorem dX5_init_123 : decode cX5_init 123 = .ok (.newarray .int, 2) := by decide +kernel
theorem dX5_init_125 : decode cX5_init 125 = .ok (.putfield 51, 3) := by decide +kernel
theorem dX5_init_128 : decode cX5_init 128 = .ok (.aload_n 0, 1) := by decide +kernel
theorem dX5_init_129 : decode cX5_init 129 = .ok (.sipush 700, 3) := by decide +kernel
theorem dX5_init_132 : decode cX5_init 132 = .ok (.newarray .long, 2) := by decide +kernel
theorem dX5_init_134 : decode cX5_init 134 = .ok (.putfield 54, 3) := by decide +kernel
theorem dX5_init_137 : decode cX5_init 137 = .ok (.aload_n 0, 1) := by decide +kernel
theorem dX5_init_138 : decode cX5_init 138 = .ok (.sipush 700, 3) := by decide +kernel
theorem dX5_init_141 : decode cX5_init 141 = .ok (.newarray .int, 2) := by decide +kernel
theorem dX5_init_143 : decode cX5_init 143 = .ok (.putfield 57, 3) := by decide +kernel
theorem dX5_init_146 : decode cX5_init 146 = .ok (.aload_n 0, 1) := by decide +kernel
theorem dX5_init_147 : decode cX5_init 147 = .ok (.sipush 700, 3) := by decide +kernel
theorem dX5_init_150 : decode cX5_init 150 = .ok (.newarray .int, 2) := by decide +kernel
theorem dX5_init_152 : decode cX5_init 152 = .ok (.putfield 60, 3) := by decide +kernel
theorem dX5_init_155 : decode cX5_init 155 = .ok (.aload_n 0, 1) := by decide +kernel
theorem dX5_init_156 : decode cX5_init 156 = .ok (.sipush 700, 3) := by decide +kernel
theorem dX5_init_159 : decode cX5_init 159 = .ok (.newarray .int, 2) := by decide +kernel
theorem dX5_init_161 : decode cX5_init 161 = .ok (.putfield 63, 3) := by decide +kernel
theorem dX5_init_164 : decode cX5_init 164 = .ok (.aload_n 0, 1) := by decide +kernel
theorem dX5_init_165 : decode cX5_init 165 = .ok (.sipush 700, 3) := by decide +kernel
theorem dX5_init_168 : decode cX5_init 168 = .ok (.newarray .boolean, 2) := by decide +kernel
theorem dX5_init_170 : decode cX5_init 170 = .ok (.putfield 66, 3) := by decide +kernel
theorem dX5_init_173 : decode cX5_init 173 = .ok (.aload_n 0, 1) := by decide +kernel
theorem dX5_init_174 : decode cX5_init 174 = .ok (.sipush 700, 3) := by decide +kernel
theorem dX5_init_177 : decode cX5_init 177 = .ok (.newarray .boolean, 2) := by decide +kernel
theorem dX5_init_179 : decode cX5_init 179 = .ok (.putfield 69, 3) := by decide +kernel
theorem dX5_init_182 : decode cX5_init 182 = .ok (.aload_n 0, 1) := by decide +kernel
theorem dX5_init_183 : decode cX5_init 183 = .ok (.bipush 12, 2) := by decide +kernel
theorem dX5_init_185 : decode cX5_init 185 = .ok (.newarray .int, 2) := by decide +kernel
theorem dX5_init_187 : decode cX5_init 187 = .ok (.putfield 72, 3) := by decide +kernel
theorem dX5_init_190 : decode cX5_init 190 = .ok (.return_, 1) := by decide +kernel
theorem dX5_mix_0 : decode cX5_mix 0 = .ok (.lload_n 1, 1) := by decide +kernel
theorem dX5_mix_1 : decode cX5_mix 1 = .ok (.lstore_n 3, 1) := by decide +kernel
theorem dX5_mix_2 : decode cX5_mix 2 = .ok (.lload_n 3, 1) := by decide +kernel
theorem dX5_mix_3 : decode cX5_mix 3 = .ok (.lload_n 3, 1) := by decide +kernel
theorem dX5_mix_4 : decode cX5_mix 4 = .ok (.bipush 32, 2) := by decide +kernel
theorem dX5_mix_6 : decode cX5_mix 6 = .ok (.lushr, 1) := by decide +kernel
theorem dX5_mix_7 : decode cX5_mix 7 = .ok (.lxor, 1) := by decide +kernel
theorem dX5_mix_8 : decode cX5_mix 8 = .ok (.lstore_n 3, 1) := by decide +kernel
theorem dX5_mix_9 : decode cX5_mix 9 = .ok (.lload_n 3, 1) := by decide +kernel
theorem dX5_mix_10 : decode cX5_mix 10 = .ok (.ldc2_w 75, 3) := by decide +kernel
theorem dX5_mix_13 : decode cX5_mix 13 = .ok (.lmul, 1) := by decide +kernel
theorem dX5_mix_14 : decode cX5_mix 14 = .ok (.lstore_n 3, 1) := by decide +kernel
theorem dX5_mix_15 : decode cX5_mix 15 = .ok (.lload_n 3, 1) := by decide +kernel
theorem dX5_mix_16 : decode cX5_mix 16 = .ok (.lload_n 3, 1) := by decide +kernel
theorem dX5_mix_17 : decode cX5_mix 17 = .ok (.bipush 32, 2) := by decide +kernel
theorem dX5_mix_19 : decode cX5_mix 19 = .ok (.lushr, 1) := by decide +kernel
theorem dX5_mix_20 : decode cX5_mix 20 = .ok (.lxor, 1) := by decide +kernel
theorem dX5_mix_21 : decode cX5_mix 21 = .ok (.lstore_n 3, 1) := by decide +kernel
theorem dX5_mix_22 : decode cX5_mix 22 = .ok (.lload_n 3, 1) := by decide +kernel
theorem dX5_mix_23 : decode cX5_mix 23 = .ok (.ldc2_w 75, 3) := by decide +kernel
theorem dX5_mix_26 : decode cX5_mix 26 = .ok (.lmul, 1) := by decide +kernel
theorem dX5_mix_27 : decode cX5_mix 27 = .ok (.lstore_n 3, 1) := by decide +kernel
theorem dX5_mix_28 : decode cX5_mix 28 = .ok (.lload_n 3, 1) := by decide +kernel
theorem dX5_mix_29 : decode cX5_mix 29 = .ok (.lload_n 3, 1) := by decide +kernel
theorem dX5_mix_30 : decode cX5_mix 30 = .ok (.bipush 32, 2) := by decide +kernel
theorem dX5_mix_32 : decode cX5_mix 32 = .ok (.lushr, 1) := by decide +kernel
theorem dX5_mix_33 : decode cX5_mix 33 = .ok (.lxor, 1) := by decide +kernel
theorem dX5_mix_34 : decode cX5_mix 34 = .ok (.lstore_n 3, 1) := by decide +kernel
theorem dX5_mix_35 : decode cX5_mix 35 = .ok (.lload_n 3, 1) := by decide +kernel
theorem dX5_mix_36 : decode cX5_mix 36 = .ok (.lreturn, 1) := by decide +kernel
theorem dX5_unmix_0 : decode cX5_unmix 0 = .ok (.ldc2_w 75, 3) := by decide +kernel
theorem dX5_unmix_3 : decode cX5_unmix 3 = .ok (.lstore_n 3, 1) := by decide +kernel
theorem dX5_unmix_4 : decode cX5_unmix 4 = .ok (.iconst 0, 1) := by decide +kernel
theorem dX5_unmix_5 : decode cX5_unmix 5 = .ok (.istore 5, 2) := by decide +kernel
theorem dX5_unmix_7 : decode cX5_unmix 7 = .ok (.iload 5, 2) := by decide +kernel
theorem dX5_unmix_9 : decode cX5_unmix 9 = .ok (.bipush 6, 2) := by decide +kernel
theorem dX5_unmix_11 : decode cX5_unmix 11 = .ok (.if_icmp .ge 21, 3) := by decide +kernel
theorem dX5_unmix_14 : decode cX5_unmix 14 = .ok (.lload_n 3, 1) := by decide +kernel
theorem dX5_unmix_15 : decode cX5_unmix 15 = .ok (.ldc2_w 77, 3) := by decide +kernel
theorem dX5_unmix_18 : decode cX5_unmix 18 = .ok (.ldc2_w 75, 3) := by decide +kernel
theorem dX5_unmix_21 : decode cX5_unmix 21 = .ok (.lload_n 3, 1) := by decide +kernel
theorem dX5_unmix_22 : decode cX5_unmix 22 = .ok (.lmul, 1) := by decide +kernel
theorem dX5_unmix_23 : decode cX5_unmix 23 = .ok (.lsub, 1) := by decide +kernel
theorem dX5_unmix_24 : decode cX5_unmix 24 = .ok (.lmul, 1) := by decide +kernel
theorem dX5_unmix_25 : decode cX5_unmix 25 = .ok (.lstore_n 3, 1) := by decide +kernel
theorem dX5_unmix_26 : decode cX5_unmix 26 = .ok (.iinc 5 1, 3) := by decide +kernel
theorem dX5_unmix_29 : decode cX5_unmix 29 = .ok (.goto (-22), 3) := by decide +kernel
theorem dX5_unmix_32 : decode cX5_unmix 32 = .ok (.lload_n 1, 1) := by decide +kernel
theorem dX5_unmix_33 : decode cX5_unmix 33 = .ok (.lstore 5, 2) := by decide +kernel
theorem dX5_unmix_35 : decode cX5_unmix 35 = .ok (.lload 5, 2) := by decide +kernel
theorem dX5_unmix_37 : decode cX5_unmix 37 = .ok (.lload 5, 2) := by decide +kernel
theorem dX5_unmix_39 : decode cX5_unmix 39 = .ok (.bipush 32, 2) := by decide +kernel
theorem dX5_unmix_41 : decode cX5_unmix 41 = .ok (.lushr, 1) := by decide +kernel
theorem dX5_unmix_42 : decode cX5_unmix 42 = .ok (.lxor, 1) := by decide +kernel
theorem dX5_unmix_43 : decode cX5_unmix 43 = .ok (.lstore 5, 2) := by decide +kernel
theorem dX5_unmix_45 : decode cX5_unmix 45 = .ok (.lload 5, 2) := by decide +kernel
theorem dX5_unmix_47 : decode cX5_unmix 47 = .ok (.lload_n 3, 1) := by decide +kernel
theorem dX5_unmix_48 : decode cX5_unmix 48 = .ok (.lmul, 1) := by decide +kernel
theorem dX5_unmix_49 : decode cX5_unmix 49 = .ok (.lstore 5, 2) := by decide +kernel
theorem dX5_unmix_51 : decode cX5_unmix 51 = .ok (.lload 5, 2) := by decide +kernel
theorem dX5_unmix_53 : decode cX5_unmix 53 = .ok (.lload 5, 2) := by decide +kernel
theorem dX5_unmix_55 : decode cX5_unmix 55 = .ok (.bipush 32, 2) := by decide +kernel
theorem dX5_unmix_57 : decode cX5_unmix 57 = .ok (.lushr, 1) := by decide +kernel
theorem dX5_unmix_58 : decode cX5_unmix 58 = .ok (.lxor, 1) := by decide +kernel
theorem dX5_unmix_59 : decode cX5_unmix 59 = .ok (.lstore 5, 2) := by decide +kernel
theorem dX5_unmix_61 : decode cX5_unmix 61 = .ok (.lload 5, 2) := by decide +kernel
theorem dX5_unmix_63 : decode cX5_unmix 63 = .ok (.lload_n 3, 1) := by decide +kernel
theorem dX5_unmix_64 : decode cX5_unmix 64 = .ok (.lmul, 1) := by decide +kernel
theorem dX5_unmix_65 : decode cX5_unmix 65 = .ok (.lstore 5, 2) := by decide +kernel
theorem dX5_unmix_67 : decode cX5_unmix 67 = .ok (.lload 5, 2) := by decide +kernel
theorem dX5_unmix_69 : decode cX5_unmix 69 = .ok (.lload 5, 2) := by decide +kernel
theorem dX5_unmix_71 : decode cX5_unmix 71 = .ok (.bipush 32, 2) := by decide +kernel
theorem dX5_unmix_73 : decode cX5_unmix 73 = .ok (.lushr, 1) := by decide +kernel
theorem dX5_unmix_74 : decode cX5_unmix 74 = .ok (.lxor, 1) := by decide +kernel
theorem dX5_unmix_75 : decode cX5_unmix 75 = .ok (.lstore 5, 2) := by decide +kernel
theorem dX5_unmix_77 : decode cX5_unmix 77 = .ok (.lload 5, 2) := by decide +kernel
theorem dX5_unmix_79 : decode cX5_unmix 79 = .ok (.lreturn, 1) := by decide +kernel
theorem dX5_setOf_0 : decode cX5_setOf 0 = .ok (.aload_n 0, 1) := by decide +kernel
theorem dX5_setOf_1 : decode cX5_setOf 1 = .ok (.lload_n 1, 1) := by decide +kernel
theorem dX5_setOf_2 : decode cX5_setOf 2 = .ok (.invokevirtual 79, 3) := by decide +kernel
theorem dX5_setOf_5 : decode cX5_setOf 5 = .ok (.ldc2_w 83, 3) := by decide +kernel
theorem dX5_setOf_8 : decode cX5_setOf 8 = .ok (.land, 1) := by decide +kernel
theorem dX5_setOf_9 : decode cX5_setOf 9 = .ok (.l2i, 1) := by decide +kernel
theorem dX5_setOf_10 : decode cX5_setOf 10 = .ok (.ireturn, 1) := by decide +kernel
theorem dX5_bitsOf_0 : decode cX5_bitsOf 0 = .ok (.aload_n 0, 1) := by decide +kernel
theorem dX5_bitsOf_1 : decode cX5_bitsOf 1 = .ok (.lload_n 1, 1) := by decide +kernel
theorem dX5_bitsOf_2 : decode cX5_bitsOf 2 = .ok (.invokevirtual 79, 3) := by decide +kernel
theorem dX5_bitsOf_5 : decode cX5_bitsOf 5 = .ok (.lstore_n 3, 1) := by decide +kernel
theorem dX5_bitsOf_6 : decode cX5_bitsOf 6 = .ok (.lconst 1, 1) := by decide +kernel
theorem dX5_bitsOf_7 : decode cX5_bitsOf 7 = .ok (.lload_n 3, 1) := by decide +kernel
theorem dX5_bitsOf_8 : decode cX5_bitsOf 8 = .ok (.bipush 6, 2) := by decide +kernel
theorem dX5_bitsOf_10 : decode cX5_bitsOf 10 = .ok (.lushr, 1) := by decide +kernel
theorem dX5_bitsOf_11 : decode cX5_bitsOf 11 = .ok (.ldc2_w 83, 3) := by decide +kernel
theorem dX5_bitsOf_14 : decode cX5_bitsOf 14 = .ok (.land, 1) := by decide +kernel
theorem dX5_bitsOf_15 : decode cX5_bitsOf 15 = .ok (.l2i, 1) := by decide +kernel
theorem dX5_bitsOf_16 : decode cX5_bitsOf 16 = .ok (.lshl, 1) := by decide +kernel
theorem dX5_bitsOf_17 : decode cX5_bitsOf 17 = .ok (.lconst 1, 1) := by decide +kernel
theorem dX5_bitsOf_18 : decode cX5_bitsOf 18 = .ok (.lload_n 3, 1) := by decide +kernel
theorem dX5_bitsOf_19 : decode cX5_bitsOf 19 = .ok (.bipush 12, 2) := by decide +kernel
theorem dX5_bitsOf_21 : decode cX5_bitsOf 21 = .ok (.lushr, 1) := by decide +kernel
theorem dX5_bitsOf_22 : decode cX5_bitsOf 22 = .ok (.ldc2_w 83, 3) := by decide +kernel
theorem dX5_bitsOf_25 : decode cX5_bitsOf 25 = .ok (.land, 1) := by decide +kernel
theorem dX5_bitsOf_26 : decode cX5_bitsOf 26 = .ok (.l2i, 1) := by decide +kernel
theorem dX5_bitsOf_27 : decode cX5_bitsOf 27 = .ok (.lshl, 1) := by decide +kernel
theorem dX5_bitsOf_28 : decode cX5_bitsOf 28 = .ok (.lor, 1) := by decide +kernel
theorem dX5_bitsOf_29 : decode cX5_bitsOf 29 = .ok (.lreturn, 1) := by decide +kernel
theorem dX5_filterOf_0 : decode cX5_filterOf 0 = .ok (.lconst 0, 1) := by decide +kernel
theorem dX5_filterOf_1 : decode cX5_filterOf 1 = .ok (.lstore_n 2, 1) := by decide +kernel
theorem dX5_filterOf_2 : decode cX5_filterOf 2 = .ok (.iconst 0, 1) := by decide +kernel
theorem dX5_filterOf_3 : decode cX5_filterOf 3 = .ok (.istore 4, 2) := by decide +kernel
theorem dX5_filterOf_5 : decode cX5_filterOf 5 = .ok (.iload 4, 2) := by decide +kernel
theorem dX5_filterOf_7 : decode cX5_filterOf 7 = .ok (.aload_n 0, 1) := by decide +kernel
theorem dX5_filterOf_8 : decode cX5_filterOf 8 = .ok (.getfield 51, 3) := by decide +kernel
theorem dX5_filterOf_11 : decode cX5_filterOf 11 = .ok (.iload_n 1, 1) := by decide +kernel
theorem dX5_filterOf_12 : decode cX5_filterOf 12 = .ok (.iaload, 1) := by decide +kernel
theorem dX5_filterOf_13 : decode cX5_filterOf 13 = .ok (.if_icmp .ge 28, 3) := by decide +kernel
theorem dX5_filterOf_16 : decode cX5_filterOf 16 = .ok (.lload_n 2, 1) := by decide +kernel
theorem dX5_filterOf_17 : decode cX5_filterOf 17 = .ok (.aload_n 0, 1) := by decide +kernel
theorem dX5_filterOf_18 : decode cX5_filterOf 18 = .ok (.aload_n 0, 1) := by decide +kernel
theorem dX5_filterOf_19 : decode cX5_filterOf 19 = .ok (.getfield 36, 3) := by decide +kernel
theorem dX5_filterOf_22 : decode cX5_filterOf 22 = .ok (.bipush 8, 2) := by decide +kernel
theorem dX5_filterOf_24 : decode cX5_filterOf 24 = .ok (.iload_n 1, 1) := by decide +kernel
theorem dX5_filterOf_25 : decode cX5_filterOf 25 = .ok (.imul, 1) := by decide +kernel
theorem dX5_filterOf_26 : decode cX5_filterOf 26 = .ok (.iload 4, 2) := by decide +kernel
theorem dX5_filterOf_28 : decode cX5_filterOf 28 = .ok (.iadd, 1) := by decide +kernel
theorem dX5_filterOf_29 : decode cX5_filterOf 29 = .ok (.laload, 1) := by decide +kernel
theorem dX5_filterOf_30 : decode cX5_filterOf 30 = .ok (.invokevirtual 85, 3) := by decide +kernel
theorem dX5_filterOf_33 : decode cX5_filterOf 33 = .ok (.lor, 1) := by decide +kernel
theorem dX5_filterOf_34 : decode cX5_filterOf 34 = .ok (.lstore_n 2, 1) := by decide +kernel
theorem dX5_filterOf_35 : decode cX5_filterOf 35 = .ok (.iinc 4 1, 3) := by decide +kernel
theorem dX5_filterOf_38 : decode cX5_filterOf 38 = .ok (.goto (-33), 3) := by decide +kernel
theorem dX5_filterOf_41 : decode cX5_filterOf 41 = .ok (.lload_n 2, 1) := by decide +kernel
theorem dX5_filterOf_42 : decode cX5_filterOf 42 = .ok (.lreturn, 1) := by decide +kernel
theorem dX5_mayHave_0 : decode cX5_mayHave 0 = .ok (.aload_n 0, 1) := by decide +kernel
theorem dX5_mayHave_1 : decode cX5_mayHave 1 = .ok (.lload_n 1, 1) := by decide +kernel
theorem dX5_mayHave_2 : decode cX5_mayHave 2 = .ok (.invokevirtual 85, 3) := by decide +kernel
theorem dX5_mayHave_5 : decode cX5_mayHave 5 = .ok (.lstore_n 3, 1) := by decide +kernel
theorem dX5_mayHave_6 : decode cX5_mayHave 6 = .ok (.aload_n 0, 1) := by decide +kernel
theorem dX5_mayHave_7 : decode cX5_mayHave 7 = .ok (.aload_n 0, 1) := by decide +kernel
theorem dX5_mayHave_8 : decode cX5_mayHave 8 = .ok (.lload_n 1, 1) := by decide +kernel
theorem dX5_mayHave_9 : decode cX5_mayHave 9 = .ok (.invokevirtual 88, 3) := by decide +kernel
theorem dX5_mayHave_12 : decode cX5_mayHave 12 = .ok (.invokevirtual 92, 3) := by decide +kernel
theorem dX5_mayHave_15 : decode cX5_mayHave 15 = .ok (.lload_n 3, 1) := by decide +kernel
theorem dX5_mayHave_16 : decode cX5_mayHave 16 = .ok (.land, 1) := by decide +kernel
theorem dX5_mayHave_17 : decode cX5_mayHave 17 = .ok (.lload_n 3, 1) := by decide +kernel
theorem dX5_mayHave_18 : decode cX5_mayHave 18 = .ok (.lcmp, 1) := by decide +kernel
theorem dX5_mayHave_19 : decode cX5_mayHave 19 = .ok (.ifCond .ne 7, 3) := by decide +kernel
theorem dX5_mayHave_22 : decode cX5_mayHave 22 = .ok (.iconst 1, 1) := by decide +kernel
theorem dX5_mayHave_23 : decode cX5_mayHave 23 = .ok (.goto 4, 3) := by decide +kernel
theorem dX5_mayHave_26 : decode cX5_mayHave 26 = .ok (.iconst 0, 1) := by decide +kernel
theorem dX5_mayHave_27 : decode cX5_mayHave 27 = .ok (.ireturn, 1) := by decide +kernel
theorem dX5_inLog_0 : decode cX5_inLog 0 = .ok (.iconst (-1), 1) := by decide +kernel
theorem dX5_inLog_1 : decode cX5_inLog 1 = .ok (.istore_n 3, 1) := by decide +kernel
theorem dX5_inLog_2 : decode cX5_inLog 2 = .ok (.iconst 0, 1) := by decide +kernel
theorem dX5_inLog_3 : decode cX5_inLog 3 = .ok (.istore 4, 2) := by decide +kernel
theorem dX5_inLog_5 : decode cX5_inLog 5 = .ok (.iload 4, 2) := by decide +kernel
theorem dX5_inLog_7 : decode cX5_inLog 7 = .ok (.aload_n 0, 1) := by decide +kernel
theorem dX5_inLog_8 : decode cX5_inLog 8 = .ok (.getfield 96, 3) := by decide +kernel
theorem dX5_inLog_11 : decode cX5_inLog 11 = .ok (.if_icmp .ge 38, 3) := by decide +kernel
theorem dX5_inLog_14 : decode cX5_inLog 14 = .ok (.aload_n 0, 1) := by decide +kernel
theorem dX5_inLog_15 : decode cX5_inLog 15 = .ok (.getfield 23, 3) := by decide +kernel
theorem dX5_inLog_18 : decode cX5_inLog 18 = .ok (.iload 4, 2) := by decide +kernel
theorem dX5_inLog_20 : decode cX5_inLog 20 = .ok (.baload, 1) := by decide +kernel
theorem dX5_inLog_21 : decode cX5_inLog 21 = .ok (.ifCond .eq 20, 3) := by decide +kernel
theorem dX5_inLog_24 : decode cX5_inLog 24 = .ok (.aload_n 0, 1) := by decide +kernel
theorem dX5_inLog_25 : decode cX5_inLog 25 = .ok (.getfield 7, 3) := by decide +kernel
theorem dX5_inLog_28 : decode cX5_inLog 28 = .ok (.iload 4, 2) := by decide +kernel
theorem dX5_inLog_30 : decode cX5_inLog 30 = .ok (.laload, 1) := by decide +kernel
theorem dX5_inLog_31 : decode cX5_inLog 31 = .ok (.lload_n 1, 1) := by decide +kernel
theorem dX5_inLog_32 : decode cX5_inLog 32 = .ok (.lcmp, 1) := by decide +kernel
theorem dX5_inLog_33 : decode cX5_inLog 33 = .ok (.ifCond .ne 8, 3) := by decide +kernel
theorem dX5_inLog_36 : decode cX5_inLog 36 = .ok (.iload 4, 2) := by decide +kernel
theorem dX5_inLog_38 : decode cX5_inLog 38 = .ok (.goto 4, 3) := by decide +kernel
theorem dX5_inLog_41 : decode cX5_inLog 41 = .ok (.iload_n 3, 1) := by decide +kernel
theorem dX5_inLog_42 : decode cX5_inLog 42 = .ok (.istore_n 3, 1) := by decide +kernel
theorem dX5_inLog_43 : decode cX5_inLog 43 = .ok (.iinc 4 1, 3) := by decide +kernel
theorem dX5_inLog_46 : decode cX5_inLog 46 = .ok (.goto (-41), 3) := by decide +kernel
theorem dX5_inLog_49 : decode cX5_inLog 49 = .ok (.iload_n 3, 1) := by decide +kernel
theorem dX5_inLog_50 : decode cX5_inLog 50 = .ok (.ireturn, 1) := by decide +kernel
theorem dX5_inPage_0 : decode cX5_inPage 0 = .ok (.aload_n 0, 1) := by decide +kernel
theorem dX5_inPage_1 : decode cX5_inPage 1 = .ok (.lload_n 1, 1) := by decide +kernel
theorem dX5_inPage_2 : decode cX5_inPage 2 = .ok (.invokevirtual 88, 3) := by decide +kernel
theorem dX5_inPage_5 : decode cX5_inPage 5 = .ok (.istore_n 3, 1) := by decide +kernel
theorem dX5_inPage_6 : decode cX5_inPage 6 = .ok (.iconst 0, 1) := by decide +kernel
theorem dX5_inPage_7 : decode cX5_inPage 7 = .ok (.istore 4, 2) := by decide +kernel
theorem dX5_inPage_9 : decode cX5_inPage 9 = .ok (.iload 4, 2) := by decide +kernel
theorem dX5_inPage_11 : decode cX5_inPage 11 = .ok (.aload_n 0, 1) := by decide +kernel
theorem dX5_inPage_12 : decode cX5_inPage 12 = .ok (.getfield 51, 3) := by decide +kernel
theorem dX5_inPage_15 : decode cX5_inPage 15 = .ok (.iload_n 3, 1) := by decide +kernel
theorem dX5_inPage_16 : decode cX5_inPage 16 = .ok (.iaload, 1) := by decide +kernel
theorem dX5_inPage_17 : decode cX5_inPage 17 = .ok (.if_icmp .ge 34, 3) := by decide +kernel
theorem dX5_inPage_20 : decode cX5_inPage 20 = .ok (.aload_n 0, 1) := by decide +kernel
theorem dX5_inPage_21 : decode cX5_inPage 21 = .ok (.getfield 36, 3) := by decide +kernel
theorem dX5_inPage_24 : decode cX5_inPage 24 = .ok (.bipush 8, 2) := by decide +kernel
theorem dX5_inPage_26 : decode cX5_inPage 26 = .ok (.iload_n 3, 1) := by decide +kernel
theorem dX5_inPage_27 : decode cX5_inPage 27 = .ok (.imul, 1) := by decide +kernel
theorem dX5_inPage_28 : decode cX5_inPage 28 = .ok (.iload 4, 2) := by decide +kernel
theorem dX5_inPage_30 : decode cX5_inPage 30 = .ok (.iadd, 1) := by decide +kernel
theorem dX5_inPage_31 : decode cX5_inPage 31 = .ok (.laload, 1) := by decide +kernel
theorem dX5_inPage_32 : decode cX5_inPage 32 = .ok (.lload_n 1, 1) := by decide +kernel
theorem dX5_inPage_33 : decode cX5_inPage 33 = .ok (.lcmp, 1) := by decide +kernel
theorem dX5_inPage_34 : decode cX5_inPage 34 = .ok (.ifCond .ne 11, 3) := by decide +kernel
theorem dX5_inPage_37 : decode cX5_inPage 37 = .ok (.bipush 8, 2) := by decide +kernel
theorem dX5_inPage_39 : decode cX5_inPage 39 = .ok (.iload_n 3, 1) := by decide +kernel
theorem dX5_inPage_40 : decode cX5_inPage 40 = .ok (.imul, 1) := by decide +kernel
theorem dX5_inPage_41 : decode cX5_inPage 41 = .ok (.iload 4, 2) := by decide +kernel
theorem dX5_inPage_43 : decode cX5_inPage 43 = .ok (.iadd, 1) := by decide +kernel
theorem dX5_inPage_44 : decode cX5_inPage 44 = .ok (.ireturn, 1) := by decide +kernel
theorem dX5_inPage_45 : decode cX5_inPage 45 = .ok (.iinc 4 1, 3) := by decide +kernel
theorem dX5_inPage_48 : decode cX5_inPage 48 = .ok (.goto (-39), 3) := by decide +kernel
theorem dX5_inPage_51 : decode cX5_inPage 51 = .ok (.iconst (-1), 1) := by decide +kernel
theorem dX5_inPage_52 : decode cX5_inPage 52 = .ok (.ireturn, 1) := by decide +kernel
theorem dX5_append_0 : decode cX5_append 0 = .ok (.aload_n 0, 1) := by decide +kernel
theorem dX5_append_1 : decode cX5_append 1 = .ok (.getfield 100, 3) := by decide +kernel
theorem dX5_append_4 : decode cX5_append 4 = .ok (.iconst 3, 1) := by decide +kernel
theorem dX5_append_5 : decode cX5_append 5 = .ok (.iadd, 1) := by decide +kernel
theorem dX5_append_6 : decode cX5_append 6 = .ok (.iload_n 3, 1) := by decide +kernel
theorem dX5_append_7 : decode cX5_append 7 = .ok (.iadd, 1) := by decide +kernel
theorem dX5_append_8 : decode cX5_append 8 = .ok (.bipush 32, 2) := by decide +kernel
theorem dX5_append_10 : decode cX5_append 10 = .ok (.if_icmp .le 10, 3) := by decide +kernel
theorem dX5_append_13 : decode cX5_append 13 = .ok (.aload_n 0, 1) := by decide +kernel
theorem dX5_append_14 : decode cX5_append 14 = .ok (.invokevirtual 103, 3) := by decide +kernel
theorem dX5_append_17 : decode cX5_append 17 = .ok (.goto (-17), 3) := by decide +kernel
theorem dX5_append_20 : decode cX5_append 20 = .ok (.aload_n 0, 1) := by decide +kernel
theorem dX5_append_21 : decode cX5_append 21 = .ok (.getfield 7, 3) := by decide +kernel
theorem dX5_append_24 : decode cX5_append 24 = .ok (.aload_n 0, 1) := by decide +kernel
theorem dX5_append_25 : decode cX5_append 25 = .ok (.getfield 96, 3) := by decide +kernel
theorem dX5_append_28 : decode cX5_append 28 = .ok (.lload_n 1, 1) := by decide +kernel
theorem dX5_append_29 : decode cX5_append 29 = .ok (.lastore, 1) := by decide +kernel
theorem dX5_append_30 : decode cX5_append 30 = .ok (.aload_n 0, 1) := by decide +kernel
theorem dX5_append_31 : decode cX5_append 31 = .ok (.getfield 13, 3) := by decide +kernel
theorem dX5_append_34 : decode cX5_append 34 = .ok (.aload_n 0, 1) := by decide +kernel
theorem dX5_append_35 : decode cX5_append 35 = .ok (.getfield 96, 3) := by decide +kernel
theorem dX5_append_38 : decode cX5_append 38 = .ok (.iload_n 3, 1) := by decide +kernel
theorem dX5_append_39 : decode cX5_append 39 = .ok (.iastore, 1) := by decide +kernel
theorem dX5_append_40 : decode cX5_append 40 = .ok (.aload_n 0, 1) := by decide +kernel
theorem dX5_append_41 : decode cX5_append 41 = .ok (.getfield 17, 3) := by decide +kernel
theorem dX5_append_44 : decode cX5_append 44 = .ok (.aload_n 0, 1) := by decide +kernel
theorem dX5_append_45 : decode cX5_append 45 = .ok (.getfield 96, 3) := by decide +kernel
theorem dX5_append_48 : decode cX5_append 48 = .ok (.iload 4, 2) := by decide +kernel
theorem dX5_append_50 : decode cX5_append 50 = .ok (.iastore, 1) := by decide +kernel
theorem dX5_append_51 : decode cX5_append 51 = .ok (.aload_n 0, 1) := by decide +kernel
theorem dX5_append_52 : decode cX5_append 52 = .ok (.getfield 20, 3) := by decide +kernel
theorem dX5_append_55 : decode cX5_append 55 = .ok (.aload_n 0, 1) := by decide +kernel
theorem dX5_append_56 : decode cX5_append 56 = .ok (.getfield 96, 3) := by decide +kernel
theorem dX5_append_59 : decode cX5_append 59 = .ok (.iload 5, 2) := by decide +kernel
theorem dX5_append_61 : decode cX5_append 61 = .ok (.iastore, 1) := by decide +kernel
theorem dX5_append_62 : decode cX5_append 62 = .ok (.aload_n 0, 1) := by decide +kernel
theorem dX5_append_63 : decode cX5_append 63 = .ok (.getfield 23, 3) := by decide +kernel
theorem dX5_append_66 : decode cX5_append 66 = .ok (.aload_n 0, 1) := by decide +kernel
theorem dX5_append_67 : decode cX5_append 67 = .ok (.getfield 96, 3) := by decide +kernel
theorem dX5_append_70 : decode cX5_append 70 = .ok (.iconst 1, 1) := by decide +kernel
theorem dX5_append_71 : decode cX5_append 71 = .ok (.bastore, 1) := by decide +kernel
theorem dX5_append_72 : decode cX5_append 72 = .ok (.aload_n 0, 1) := by decide +kernel
theorem dX5_append_73 : decode cX5_append 73 = .ok (.getfield 27, 3) := by decide +kernel
theorem dX5_append_76 : decode cX5_append 76 = .ok (.aload_n 0, 1) := by decide +kernel
theorem dX5_append_77 : decode cX5_append 77 = .ok (.getfield 96, 3) := by decide +kernel
theorem dX5_append_80 : decode cX5_append 80 = .ok (.iconst 0, 1) := by decide +kernel
theorem dX5_append_81 : decode cX5_append 81 = .ok (.bastore, 1) := by decide +kernel
theorem dX5_append_82 : decode cX5_append 82 = .ok (.aload_n 0, 1) := by decide +kernel
theorem dX5_append_83 : decode cX5_append 83 = .ok (.getfield 30, 3) := by decide +kernel
theorem dX5_append_86 : decode cX5_append 86 = .ok (.aload_n 0, 1) := by decide +kernel
theorem dX5_append_87 : decode cX5_append 87 = .ok (.getfield 96, 3) := by decide +kernel
theorem dX5_append_90 : decode cX5_append 90 = .ok (.bipush 8, 2) := by decide +kernel
theorem dX5_append_92 : decode cX5_append 92 = .ok (.iastore, 1) := by decide +kernel
theorem dX5_append_93 : decode cX5_append 93 = .ok (.aload_n 0, 1) := by decide +kernel
theorem dX5_append_94 : decode cX5_append 94 = .ok (.dup, 1) := by decide +kernel
theorem dX5_append_95 : decode cX5_append 95 = .ok (.getfield 96, 3) := by decide +kernel
theorem dX5_append_98 : decode cX5_append 98 = .ok (.iconst 1, 1) := by decide +kernel
theorem dX5_append_99 : decode cX5_append 99 = .ok (.iadd, 1) := by decide +kernel
theorem dX5_append_100 : decode cX5_append 100 = .ok (.putfield 96, 3) := by decide +kernel
theorem dX5_append_103 : decode cX5_append 103 = .ok (.aload_n 0, 1) := by decide +kernel
theorem dX5_append_104 : decode cX5_append 104 = .ok (.dup, 1) := by decide +kernel
theorem dX5_append_105 : decode cX5_append 105 = .ok (.getfield 100, 3) := by decide +kernel
theorem dX5_append_108 : decode cX5_append 108 = .ok (.iconst 3, 1) := by decide +kernel
theorem dX5_append_109 : decode cX5_append 109 = .ok (.iload_n 3, 1) := by decide +kernel
theorem dX5_append_110 : decode cX5_append 110 = .ok (.iadd, 1) := by decide +kernel
theorem dX5_append_111 : decode cX5_append 111 = .ok (.iadd, 1) := by decide +kernel
theorem dX5_append_112 : decode cX5_append 112 = .ok (.putfield 100, 3) := by decide +kernel
theorem dX5_append_115 : decode cX5_append 115 = .ok (.return_, 1) := by decide +kernel
theorem dX5_writeOpenPage_0 : decode cX5_writeOpenPage 0 = .ok (.iconst 0, 1) := by decide +kernel
theorem dX5_writeOpenPage_1 : decode cX5_writeOpenPage 1 = .ok (.istore_n 1, 1) := by decide +kernel
theorem dX5_writeOpenPage_2 : decode cX5_writeOpenPage 2 = .ok (.iload_n 1, 1) := by decide +kernel
theorem dX5_writeOpenPage_3 : decode cX5_writeOpenPage 3 = .ok (.aload_n 0, 1) := by decide +kernel
theorem dX5_writeOpenPage_4 : decode cX5_writeOpenPage 4 = .ok (.getfield 96, 3) := by decide +kernel
theorem dX5_writeOpenPage_7 : decode cX5_writeOpenPage 7 = .ok (.if_icmp .ge 30, 3) := by decide +kernel
theorem dX5_writeOpenPage_10 : decode cX5_writeOpenPage 10 = .ok (.aload_n 0, 1) := by decide +kernel
theorem dX5_writeOpenPage_11 : decode cX5_writeOpenPage 11 = .ok (.getfield 30, 3) := by decide +kernel
theorem dX5_writeOpenPage_14 : decode cX5_writeOpenPage 14 = .ok (.iload_n 1, 1) := by decide +kernel
theorem dX5_writeOpenPage_15 : decode cX5_writeOpenPage 15 = .ok (.iaload, 1) := by decide +kernel
theorem dX5_writeOpenPage_16 : decode cX5_writeOpenPage 16 = .ok (.bipush 8, 2) := by decide +kernel
theorem dX5_writeOpenPage_18 : decode cX5_writeOpenPage 18 = .ok (.if_icmp .ne 13, 3) := by decide +kernel
theorem dX5_writeOpenPage_21 : decode cX5_writeOpenPage 21 = .ok (.aload_n 0, 1) := by decide +kernel
theorem dX5_writeOpenPage_22 : decode cX5_writeOpenPage 22 = .ok (.getfield 30, 3) := by decide +kernel
theorem dX5_writeOpenPage_25 : decode cX5_writeOpenPage 25 = .ok (.iload_n 1, 1) := by decide +kernel
theorem dX5_writeOpenPage_26 : decode cX5_writeOpenPage 26 = .ok (.aload_n 0, 1) := by decide +kernel
theorem dX5_writeOpenPage_27 : decode cX5_writeOpenPage 27 = .ok (.getfield 106, 3) := by decide +kernel
theorem dX5_writeOpenPage_30 : decode cX5_writeOpenPage 30 = .ok (.iastore, 1) := by decide +kernel
theorem dX5_writeOpenPage_31 : decode cX5_writeOpenPage 31 = .ok (.iinc 1 1, 3) := by decide +kernel
theorem dX5_writeOpenPage_34 : decode cX5_writeOpenPage 34 = .ok (.goto (-32), 3) := by decide +kernel
theorem dX5_writeOpenPage_37 : decode cX5_writeOpenPage 37 = .ok (.aload_n 0, 1) := by decide +kernel
theorem dX5_writeOpenPage_38 : decode cX5_writeOpenPage 38 = .ok (.iconst 0, 1) := by decide +kernel
theorem dX5_writeOpenPage_39 : decode cX5_writeOpenPage 39 = .ok (.putfield 100, 3) := by decide +kernel
theorem dX5_writeOpenPage_42 : decode cX5_writeOpenPage 42 = .ok (.aload_n 0, 1) := by decide +kernel
theorem dX5_writeOpenPage_43 : decode cX5_writeOpenPage 43 = .ok (.getfield 33, 3) := by decide +kernel
theorem dX5_writeOpenPage_46 : decode cX5_writeOpenPage 46 = .ok (.aload_n 0, 1) := by decide +kernel
theorem dX5_writeOpenPage_47 : decode cX5_writeOpenPage 47 = .ok (.getfield 106, 3) := by decide +kernel
theorem dX5_writeOpenPage_50 : decode cX5_writeOpenPage 50 = .ok (.dup2, 1) := by decide +kernel
theorem dX5_writeOpenPage_51 : decode cX5_writeOpenPage 51 = .ok (.iaload, 1) := by decide +kernel
theorem dX5_writeOpenPage_52 : decode cX5_writeOpenPage 52 = .ok (.iconst 1, 1) := by decide +kernel
theorem dX5_writeOpenPage_53 : decode cX5_writeOpenPage 53 = .ok (.iadd, 1) := by decide +kernel
theorem dX5_writeOpenPage_54 : decode cX5_writeOpenPage 54 = .ok (.iastore, 1) := by decide +kernel
theorem dX5_writeOpenPage_55 : decode cX5_writeOpenPage 55 = .ok (.aload_n 0, 1) := by decide +kernel
theorem dX5_writeOpenPage_56 : decode cX5_writeOpenPage 56 = .ok (.getfield 72, 3) := by decide +kernel
theorem dX5_writeOpenPage_59 : decode cX5_writeOpenPage 59 = .ok (.iconst 1, 1) := by decide +kernel
theorem dX5_writeOpenPage_60 : decode cX5_writeOpenPage 60 = .ok (.dup2, 1) := by decide +kernel
theorem dX5_writeOpenPage_61 : decode cX5_writeOpenPage 61 = .ok (.iaload, 1) := by decide +kernel
theorem dX5_writeOpenPage_62 : decode cX5_writeOpenPage 62 = .ok (.iconst 1, 1) := by decide +kernel
theorem dX5_writeOpenPage_63 : decode cX5_writeOpenPage 63 = .ok (.iadd, 1) := by decide +kernel
theorem dX5_writeOpenPage_64 : decode cX5_writeOpenPage 64 = .ok (.iastore, 1) := by decide +kernel
theorem dX5_writeOpenPage_65 : decode cX5_writeOpenPage 65 = .ok (.aload_n 0, 1) := by decide +kernel
theorem dX5_writeOpenPage_66 : decode cX5_writeOpenPage 66 = .ok (.getfield 33, 3) := by decide +kernel
theorem dX5_writeOpenPage_69 : decode cX5_writeOpenPage 69 = .ok (.aload_n 0, 1) := by decide +kernel
theorem dX5_writeOpenPage_70 : decode cX5_writeOpenPage 70 = .ok (.getfield 106, 3) := by decide +kernel
theorem dX5_writeOpenPage_73 : decode cX5_writeOpenPage 73 = .ok (.iaload, 1) := by decide +kernel
theorem dX5_writeOpenPage_74 : decode cX5_writeOpenPage 74 = .ok (.iconst 4, 1) := by decide +kernel
theorem dX5_writeOpenPage_75 : decode cX5_writeOpenPage 75 = .ok (.if_icmp .ne 46, 3) := by decide +kernel
theorem dX5_writeOpenPage_78 : decode cX5_writeOpenPage 78 = .ok (.aload_n 0, 1) := by decide +kernel
theorem dX5_writeOpenPage_79 : decode cX5_writeOpenPage 79 = .ok (.getfield 72, 3) := by decide +kernel
theorem dX5_writeOpenPage_82 : decode cX5_writeOpenPage 82 = .ok (.iconst 0, 1) := by decide +kernel
theorem dX5_writeOpenPage_83 : decode cX5_writeOpenPage 83 = .ok (.dup2, 1) := by decide +kernel
theorem dX5_writeOpenPage_84 : decode cX5_writeOpenPage 84 = .ok (.iaload, 1) := by decide +kernel
theorem dX5_writeOpenPage_85 : decode cX5_writeOpenPage 85 = .ok (.iconst 1, 1) := by decide +kernel
theorem dX5_writeOpenPage_86 : decode cX5_writeOpenPage 86 = .ok (.iadd, 1) := by decide +kernel
theorem dX5_writeOpenPage_87 : decode cX5_writeOpenPage 87 = .ok (.iastore, 1) := by decide +kernel
theorem dX5_writeOpenPage_88 : decode cX5_writeOpenPage 88 = .ok (.aload_n 0, 1) := by decide +kernel
theorem dX5_writeOpenPage_89 : decode cX5_writeOpenPage 89 = .ok (.aload_n 0, 1) := by decide +kernel
theorem dX5_writeOpenPage_90 : decode cX5_writeOpenPage 90 = .ok (.getfield 106, 3) := by decide +kernel
theorem dX5_writeOpenPage_93 : decode cX5_writeOpenPage 93 = .ok (.iconst 1, 1) := by decide +kernel
theorem dX5_writeOpenPage_94 : decode cX5_writeOpenPage 94 = .ok (.iadd, 1) := by decide +kernel
theorem dX5_writeOpenPage_95 : decode cX5_writeOpenPage 95 = .ok (.bipush 8, 2) := by decide +kernel
theorem dX5_writeOpenPage_97 : decode cX5_writeOpenPage 97 = .ok (.irem, 1) := by decide +kernel
theorem dX5_writeOpenPage_98 : decode cX5_writeOpenPage 98 = .ok (.putfield 106, 3) := by decide +kernel
theorem dX5_writeOpenPage_101 : decode cX5_writeOpenPage 101 = .ok (.aload_n 0, 1) := by decide +kernel
theorem dX5_writeOpenPage_102 : decode cX5_writeOpenPage 102 = .ok (.getfield 33, 3) := by decide +kernel
theorem dX5_writeOpenPage_105 : decode cX5_writeOpenPage 105 = .ok (.aload_n 0, 1) := by decide +kernel
theorem dX5_writeOpenPage_106 : decode cX5_writeOpenPage 106 = .ok (.getfield 106, 3) := by decide +kernel
theorem dX5_writeOpenPage_109 : decode cX5_writeOpenPage 109 = .ok (.iaload, 1) := by decide +kernel
theorem dX5_writeOpenPage_110 : decode cX5_writeOpenPage 110 = .ok (.ifCond .le 11, 3) := by decide +kernel
theorem dX5_writeOpenPage_113 : decode cX5_writeOpenPage 113 = .ok (.aload_n 0, 1) := by decide +kernel
theorem dX5_writeOpenPage_114 : decode cX5_writeOpenPage 114 = .ok (.aload_n 0, 1) := by decide +kernel
theorem dX5_writeOpenPage_115 : decode cX5_writeOpenPage 115 = .ok (.getfield 106, 3) := by decide +kernel
theorem dX5_writeOpenPage_118 : decode cX5_writeOpenPage 118 = .ok (.invokevirtual 109, 3) := by decide +kernel
theorem dX5_writeOpenPage_121 : decode cX5_writeOpenPage 121 = .ok (.return_, 1) := by decide +kernel
theorem dX5_empty_0 : decode cX5_empty 0 = .ok (.iconst 0, 1) := by decide +kernel
theorem dX5_empty_1 : decode cX5_empty 1 = .ok (.istore_n 2, 1) := by decide +kernel
theorem dX5_empty_2 : decode cX5_empty 2 = .ok (.iload_n 2, 1) := by decide +kernel
theorem dX5_empty_3 : decode cX5_empty 3 = .ok (.aload_n 0, 1) := by decide +kernel
theorem dX5_empty_4 : decode cX5_empty 4 = .ok (.getfield 96, 3) := by decide +kernel
theorem dX5_empty_7 : decode cX5_empty 7 = .ok (.if_icmp .ge 27, 3) := by decide +kernel
theorem dX5_empty_10 : decode cX5_empty 10 = .ok (.aload_n 0, 1) := by decide +kernel
theorem dX5_empty_11 : decode cX5_empty 11 = .ok (.getfield 30, 3) := by decide +kernel
theorem dX5_empty_14 : decode cX5_empty 14 = .ok (.iload_n 2, 1) := by decide +kernel
theorem dX5_empty_15 : decode cX5_empty 15 = .ok (.iaload, 1) := by decide +kernel
theorem dX5_empty_16 : decode cX5_empty 16 = .ok (.iload_n 1, 1) := by decide +kernel
theorem dX5_empty_17 : decode cX5_empty 17 = .ok (.if_icmp .ne 11, 3) := by decide +kernel
theorem dX5_empty_20 : decode cX5_empty 20 = .ok (.aload_n 0, 1) := by decide +kernel
theorem dX5_empty_21 : decode cX5_empty 21 = .ok (.getfield 30, 3) := by decide +kernel
theorem dX5_empty_24 : decode cX5_empty 24 = .ok (.iload_n 2, 1) := by decide +kernel
theorem dX5_empty_25 : decode cX5_empty 25 = .ok (.bipush 9, 2) := by decide +kernel
theorem dX5_empty_27 : decode cX5_empty 27 = .ok (.iastore, 1) := by decide +kernel
theorem dX5_empty_28 : decode cX5_empty 28 = .ok (.iinc 2 1, 3) := by decide +kernel
theorem dX5_empty_31 : decode cX5_empty 31 = .ok (.goto (-29), 3) := by decide +kernel
theorem dX5_empty_34 : decode cX5_empty 34 = .ok (.aload_n 0, 1) := by decide +kernel
theorem dX5_empty_35 : decode cX5_empty 35 = .ok (.getfield 33, 3) := by decide +kernel
theorem dX5_empty_38 : decode cX5_empty 38 = .ok (.iload_n 1, 1) := by decide +kernel
theorem dX5_empty_39 : decode cX5_empty 39 = .ok (.iconst 0, 1) := by decide +kernel
theorem dX5_empty_40 : decode cX5_empty 40 = .ok (.iastore, 1) := by decide +kernel
theorem dX5_empty_41 : decode cX5_empty 41 = .ok (.aload_n 0, 1) := by decide +kernel
theorem dX5_empty_42 : decode cX5_empty 42 = .ok (.invokevirtual 113, 3) := by decide +kernel
theorem dX5_empty_45 : decode cX5_empty 45 = .ok (.aload_n 0, 1) := by decide +kernel
theorem dX5_empty_46 : decode cX5_empty 46 = .ok (.getfield 96, 3) := by decide +kernel
theorem dX5_empty_49 : decode cX5_empty 49 = .ok (.istore_n 2, 1) := by decide +kernel
theorem dX5_empty_50 : decode cX5_empty 50 = .ok (.iconst 0, 1) := by decide +kernel
theorem dX5_empty_51 : decode cX5_empty 51 = .ok (.istore_n 3, 1) := by decide +kernel
theorem dX5_empty_52 : decode cX5_empty 52 = .ok (.iload_n 3, 1) := by decide +kernel
theorem dX5_empty_53 : decode cX5_empty 53 = .ok (.iload_n 2, 1) := by decide +kernel
theorem dX5_empty_54 : decode cX5_empty 54 = .ok (.if_icmp .ge 34, 3) := by decide +kernel
theorem dX5_empty_57 : decode cX5_empty 57 = .ok (.aload_n 0, 1) := by decide +kernel
theorem dX5_empty_58 : decode cX5_empty 58 = .ok (.getfield 30, 3) := by decide +kernel
theorem dX5_empty_61 : decode cX5_empty 61 = .ok (.iload_n 3, 1) := by decide +kernel
theorem dX5_empty_62 : decode cX5_empty 62 = .ok (.iaload, 1) := by decide +kernel
theorem dX5_empty_63 : decode cX5_empty 63 = .ok (.bipush 9, 2) := by decide +kernel
theorem dX5_empty_65 : decode cX5_empty 65 = .ok (.if_icmp .ne 17, 3) := by decide +kernel
theorem dX5_empty_68 : decode cX5_empty 68 = .ok (.aload_n 0, 1) := by decide +kernel
theorem dX5_empty_69 : decode cX5_empty 69 = .ok (.getfield 23, 3) := by decide +kernel
theorem dX5_empty_72 : decode cX5_empty 72 = .ok (.iload_n 3, 1) := by decide +kernel
theorem dX5_empty_73 : decode cX5_empty 73 = .ok (.baload, 1) := by decide +kernel
theorem dX5_empty_74 : decode cX5_empty 74 = .ok (.ifCond .eq 8, 3) := by decide +kernel
theorem dX5_empty_77 : decode cX5_empty 77 = .ok (.aload_n 0, 1) := by decide +kernel
theorem dX5_empty_78 : decode cX5_empty 78 = .ok (.iload_n 3, 1) := by decide +kernel
theorem dX5_empty_79 : decode cX5_empty 79 = .ok (.invokevirtual 116, 3) := by decide +kernel
theorem dX5_empty_82 : decode cX5_empty 82 = .ok (.iinc 3 1, 3) := by decide +kernel
theorem dX5_empty_85 : decode cX5_empty 85 = .ok (.goto (-33), 3) := by decide +kernel
theorem dX5_empty_88 : decode cX5_empty 88 = .ok (.aload_n 0, 1) := by decide +kernel
theorem dX5_empty_89 : decode cX5_empty 89 = .ok (.invokevirtual 113, 3) := by decide +kernel
theorem dX5_empty_92 : decode cX5_empty 92 = .ok (.return_, 1) := by decide +kernel
theorem dX5_forgetDead_0 : decode cX5_forgetDead 0 = .ok (.iconst 0, 1) := by decide +kernel
theorem dX5_forgetDead_1 : decode cX5_forgetDead 1 = .ok (.istore_n 1, 1) := by decide +kernel
theorem dX5_forgetDead_2 : decode cX5_forgetDead 2 = .ok (.iconst 0, 1) := by decide +kernel
theorem dX5_forgetDead_3 : decode cX5_forgetDead 3 = .ok (.istore_n 2, 1) := by decide +kernel
theorem dX5_forgetDead_4 : decode cX5_forgetDead 4 = .ok (.iload_n 2, 1) := by decide +kernel
theorem dX5_forgetDead_5 : decode cX5_forgetDead 5 = .ok (.aload_n 0, 1) := by decide +kernel
theorem dX5_forgetDead_6 : decode cX5_forgetDead 6 = .ok (.getfield 96, 3) := by decide +kernel
theorem dX5_forgetDead_9 : decode cX5_forgetDead 9 = .ok (.if_icmp .ge 119, 3) := by decide +kernel
theorem dX5_forgetDead_12 : decode cX5_forgetDead 12 = .ok (.aload_n 0, 1) := by decide +kernel
theorem dX5_forgetDead_13 : decode cX5_forgetDead 13 = .ok (.getfield 30, 3) := by decide +kernel
theorem dX5_forgetDead_16 : decode cX5_forgetDead 16 = .ok (.iload_n 2, 1) := by decide +kernel
theorem dX5_forgetDead_17 : decode cX5_forgetDead 17 = .ok (.iaload, 1) := by decide +kernel
theorem dX5_forgetDead_18 : decode cX5_forgetDead 18 = .ok (.bipush 9, 2) := by decide +kernel
theorem dX5_forgetDead_20 : decode cX5_forgetDead 20 = .ok (.if_icmp .ne 15, 3) := by decide +kernel
theorem dX5_forgetDead_23 : decode cX5_forgetDead 23 = .ok (.aload_n 0, 1) := by decide +kernel
theorem dX5_forgetDead_24 : decode cX5_forgetDead 24 = .ok (.getfield 23, 3) := by decide +kernel
theorem dX5_forgetDead_27 : decode cX5_forgetDead 27 = .ok (.iload_n 2, 1) := by decide +kernel
theorem dX5_forgetDead_28 : decode cX5_forgetDead 28 = .ok (.baload, 1) := by decide +kernel
theorem dX5_forgetDead_29 : decode cX5_forgetDead 29 = .ok (.ifCond .ne 6, 3) := by decide +kernel
theorem dX5_forgetDead_32 : decode cX5_forgetDead 32 = .ok (.goto 90, 3) := by decide +kernel
theorem dX5_forgetDead_35 : decode cX5_forgetDead 35 = .ok (.aload_n 0, 1) := by decide +kernel
theorem dX5_forgetDead_36 : decode cX5_forgetDead 36 = .ok (.getfield 7, 3) := by decide +kernel
theorem dX5_forgetDead_39 : decode cX5_forgetDead 39 = .ok (.iload_n 1, 1) := by decide +kernel
theorem dX5_forgetDead_40 : decode cX5_forgetDead 40 = .ok (.aload_n 0, 1) := by decide +kernel
theorem dX5_forgetDead_41 : decode cX5_forgetDead 41 = .ok (.getfield 7, 3) := by decide +kernel
theorem dX5_forgetDead_44 : decode cX5_forgetDead 44 = .ok (.iload_n 2, 1) := by decide +kernel
theorem dX5_forgetDead_45 : decode cX5_forgetDead 45 = .ok (.laload, 1) := by decide +kernel
theorem dX5_forgetDead_46 : decode cX5_forgetDead 46 = .ok (.lastore, 1) := by decide +kernel
theorem dX5_forgetDead_47 : decode cX5_forgetDead 47 = .ok (.aload_n 0, 1) := by decide +kernel
theorem dX5_forgetDead_48 : decode cX5_forgetDead 48 = .ok (.getfield 13, 3) := by decide +kernel
theorem dX5_forgetDead_51 : decode cX5_forgetDead 51 = .ok (.iload_n 1, 1) := by decide +kernel
theorem dX5_forgetDead_52 : decode cX5_forgetDead 52 = .ok (.aload_n 0, 1) := by decide +kernel
theorem dX5_forgetDead_53 : decode cX5_forgetDead 53 = .ok (.getfield 13, 3) := by decide +kernel
theorem dX5_forgetDead_56 : decode cX5_forgetDead 56 = .ok (.iload_n 2, 1) := by decide +kernel
theorem dX5_forgetDead_57 : decode cX5_forgetDead 57 = .ok (.iaload, 1) := by decide +kernel
theorem dX5_forgetDead_58 : decode cX5_forgetDead 58 = .ok (.iastore, 1) := by decide +kernel
theorem dX5_forgetDead_59 : decode cX5_forgetDead 59 = .ok (.aload_n 0, 1) := by decide +kernel
theorem dX5_forgetDead_60 : decode cX5_forgetDead 60 = .ok (.getfield 17, 3) := by decide +kernel
theorem dX5_forgetDead_63 : decode cX5_forgetDead 63 = .ok (.iload_n 1, 1) := by decide +kernel
theorem dX5_forgetDead_64 : decode cX5_forgetDead 64 = .ok (.aload_n 0, 1) := by decide +kernel
theorem dX5_forgetDead_65 : decode cX5_forgetDead 65 = .ok (.getfield 17, 3) := by decide +kernel
theorem dX5_forgetDead_68 : decode cX5_forgetDead 68 = .ok (.iload_n 2, 1) := by decide +kernel
theorem dX5_forgetDead_69 : decode cX5_forgetDead 69 = .ok (.iaload, 1) := by decide +kernel
theorem dX5_forgetDead_70 : decode cX5_forgetDead 70 = .ok (.iastore, 1) := by decide +kernel
theorem dX5_forgetDead_71 : decode cX5_forgetDead 71 = .ok (.aload_n 0, 1) := by decide +kernel
theorem dX5_forgetDead_72 : decode cX5_forgetDead 72 = .ok (.getfield 20, 3) := by decide +kernel
theorem dX5_forgetDead_75 : decode cX5_forgetDead 75 = .ok (.iload_n 1, 1) := by decide +kernel
theorem dX5_forgetDead_76 : decode cX5_forgetDead 76 = .ok (.aload_n 0, 1) := by decide +kernel
theorem dX5_forgetDead_77 : decode cX5_forgetDead 77 = .ok (.getfield 20, 3) := by decide +kernel
theorem dX5_forgetDead_80 : decode cX5_forgetDead 80 = .ok (.iload_n 2, 1) := by decide +kernel
theorem dX5_forgetDead_81 : decode cX5_forgetDead 81 = .ok (.iaload, 1) := by decide +kernel
theorem dX5_forgetDead_82 : decode cX5_forgetDead 82 = .ok (.iastore, 1) := by decide +kernel
theorem dX5_forgetDead_83 : decode cX5_forgetDead 83 = .ok (.aload_n 0, 1) := by decide +kernel
theorem dX5_forgetDead_84 : decode cX5_forgetDead 84 = .ok (.getfield 23, 3) := by decide +kernel
theorem dX5_forgetDead_87 : decode cX5_forgetDead 87 = .ok (.iload_n 1, 1) := by decide +kernel
theorem dX5_forgetDead_88 : decode cX5_forgetDead 88 = .ok (.aload_n 0, 1) := by decide +kernel
theorem dX5_forgetDead_89 : decode cX5_forgetDead 89 = .ok (.getfield 23, 3) := by decide +kernel
theorem dX5_forgetDead_92 : decode cX5_forgetDead 92 = .ok (.iload_n 2, 1) := by decide +kernel
theorem dX5_forgetDead_93 : decode cX5_forgetDead 93 = .ok (.baload, 1) := by decide +kernel
theorem dX5_forgetDead_94 : decode cX5_forgetDead 94 = .ok (.bastore, 1) := by decide +kernel
theorem dX5_forgetDead_95 : decode cX5_forgetDead 95 = .ok (.aload_n 0, 1) := by decide +kernel
theorem dX5_forgetDead_96 : decode cX5_forgetDead 96 = .ok (.getfield 27, 3) := by decide +kernel
theorem dX5_forgetDead_99 : decode cX5_forgetDead 99 = .ok (.iload_n 1, 1) := by decide +kernel
theorem dX5_forgetDead_100 : decode cX5_forgetDead 100 = .ok (.aload_n 0, 1) := by decide +kernel
theorem dX5_forgetDead_101 : decode cX5_forgetDead 101 = .ok (.getfield 27, 3) := by decide +kernel
theorem dX5_forgetDead_104 : decode cX5_forgetDead 104 = .ok (.iload_n 2, 1) := by decide +kernel
theorem dX5_forgetDead_105 : decode cX5_forgetDead 105 = .ok (.baload, 1) := by decide +kernel
theorem dX5_forgetDead_106 : decode cX5_forgetDead 106 = .ok (.bastore, 1) := by decide +kernel
theorem dX5_forgetDead_107 : decode cX5_forgetDead 107 = .ok (.aload_n 0, 1) := by decide +kernel
theorem dX5_forgetDead_108 : decode cX5_forgetDead 108 = .ok (.getfield 30, 3) := by decide +kernel
theorem dX5_forgetDead_111 : decode cX5_forgetDead 111 = .ok (.iload_n 1, 1) := by decide +kernel
theorem dX5_forgetDead_112 : decode cX5_forgetDead 112 = .ok (.aload_n 0, 1) := by decide +kernel
theorem dX5_forgetDead_113 : decode cX5_forgetDead 113 = .ok (.getfield 30, 3) := by decide +kernel
theorem dX5_forgetDead_116 : decode cX5_forgetDead 116 = .ok (.iload_n 2, 1) := by decide +kernel
theorem dX5_forgetDead_117 : decode cX5_forgetDead 117 = .ok (.iaload, 1) := by decide +kernel
theorem dX5_forgetDead_118 : decode cX5_forgetDead 118 = .ok (.iastore, 1) := by decide +kernel
theorem dX5_forgetDead_119 : decode cX5_forgetDead 119 = .ok (.iinc 1 1, 3) := by decide +kernel
theorem dX5_forgetDead_122 : decode cX5_forgetDead 122 = .ok (.iinc 2 1, 3) := by decide +kernel
theorem dX5_forgetDead_125 : decode cX5_forgetDead 125 = .ok (.goto (-121), 3) := by decide +kernel
theorem dX5_forgetDead_128 : decode cX5_forgetDead 128 = .ok (.aload_n 0, 1) := by decide +kernel
theorem dX5_forgetDead_129 : decode cX5_forgetDead 129 = .ok (.iload_n 1, 1) := by decide +kernel
theorem dX5_forgetDead_130 : decode cX5_forgetDead 130 = .ok (.putfield 96, 3) := by decide +kernel
theorem dX5_forgetDead_133 : decode cX5_forgetDead 133 = .ok (.return_, 1) := by decide +kernel
theorem dX5_handle_0 : decode cX5_handle 0 = .ok (.aload_n 0, 1) := by decide +kernel
theorem dX5_handle_1 : decode cX5_handle 1 = .ok (.aload_n 0, 1) := by decide +kernel
theorem dX5_handle_2 : decode cX5_handle 2 = .ok (.getfield 7, 3) := by decide +kernel
theorem dX5_handle_5 : decode cX5_handle 5 = .ok (.iload_n 1, 1) := by decide +kernel
theorem dX5_handle_6 : decode cX5_handle 6 = .ok (.laload, 1) := by decide +kernel
theorem dX5_handle_7 : decode cX5_handle 7 = .ok (.invokevirtual 88, 3) := by decide +kernel
theorem dX5_handle_10 : decode cX5_handle 10 = .ok (.istore_n 2, 1) := by decide +kernel
theorem dX5_handle_11 : decode cX5_handle 11 = .ok (.iconst 0, 1) := by decide +kernel
theorem dX5_handle_12 : decode cX5_handle 12 = .ok (.istore_n 3, 1) := by decide +kernel
theorem dX5_handle_13 : decode cX5_handle 13 = .ok (.iconst 0, 1) := by decide +kernel
theorem dX5_handle_14 : decode cX5_handle 14 = .ok (.istore 4, 2) := by decide +kernel
theorem dX5_handle_16 : decode cX5_handle 16 = .ok (.iload 4, 2) := by decide +kernel
theorem dX5_handle_18 : decode cX5_handle 18 = .ok (.aload_n 0, 1) := by decide +kernel
theorem dX5_handle_19 : decode cX5_handle 19 = .ok (.getfield 96, 3) := by decide +kernel
theorem dX5_handle_22 : decode cX5_handle 22 = .ok (.if_icmp .ge 42, 3) := by decide +kernel
theorem dX5_handle_25 : decode cX5_handle 25 = .ok (.iload_n 3, 1) := by decide +kernel
theorem dX5_handle_26 : decode cX5_handle 26 = .ok (.aload_n 0, 1) := by decide +kernel
theorem dX5_handle_27 : decode cX5_handle 27 = .ok (.getfield 23, 3) := by decide +kernel
theorem dX5_handle_30 : decode cX5_handle 30 = .ok (.iload 4, 2) := by decide +kernel
theorem dX5_handle_32 : decode cX5_handle 32 = .ok (.baload, 1) := by decide +kernel
theorem dX5_handle_33 : decode cX5_handle 33 = .ok (.ifCond .eq 22, 3) := by decide +kernel
theorem dX5_handle_36 : decode cX5_handle 36 = .ok (.aload_n 0, 1) := by decide +kernel
theorem dX5_handle_37 : decode cX5_handle 37 = .ok (.aload_n 0, 1) := by decide +kernel
theorem dX5_handle_38 : decode cX5_handle 38 = .ok (.getfield 7, 3) := by decide +kernel
theorem dX5_handle_41 : decode cX5_handle 41 = .ok (.iload 4, 2) := by decide +kernel
theorem dX5_handle_43 : decode cX5_handle 43 = .ok (.laload, 1) := by decide +kernel
theorem dX5_handle_44 : decode cX5_handle 44 = .ok (.invokevirtual 88, 3) := by decide +kernel
theorem dX5_handle_47 : decode cX5_handle 47 = .ok (.iload_n 2, 1) := by decide +kernel
theorem dX5_handle_48 : decode cX5_handle 48 = .ok (.if_icmp .ne 7, 3) := by decide +kernel
theorem dX5_handle_51 : decode cX5_handle 51 = .ok (.iconst 1, 1) := by decide +kernel
theorem dX5_handle_52 : decode cX5_handle 52 = .ok (.goto 4, 3) := by decide +kernel
theorem dX5_handle_55 : decode cX5_handle 55 = .ok (.iconst 0, 1) := by decide +kernel
theorem dX5_handle_56 : decode cX5_handle 56 = .ok (.iadd, 1) := by decide +kernel
theorem dX5_handle_57 : decode cX5_handle 57 = .ok (.istore_n 3, 1) := by decide +kernel
theorem dX5_handle_58 : decode cX5_handle 58 = .ok (.iinc 4 1, 3) := by decide +kernel
theorem dX5_handle_61 : decode cX5_handle 61 = .ok (.goto (-45), 3) := by decide +kernel
theorem dX5_handle_64 : decode cX5_handle 64 = .ok (.iload_n 3, 1) := by decide +kernel
theorem dX5_handle_65 : decode cX5_handle 65 = .ok (.iconst 1, 1) := by decide +kernel
theorem dX5_handle_66 : decode cX5_handle 66 = .ok (.if_icmp .le 9, 3) := by decide +kernel
theorem dX5_handle_69 : decode cX5_handle 69 = .ok (.aload_n 0, 1) := by decide +kernel
theorem dX5_handle_70 : decode cX5_handle 70 = .ok (.iload_n 2, 1) := by decide +kernel
theorem dX5_handle_71 : decode cX5_handle 71 = .ok (.invokevirtual 119, 3) := by decide +kernel
theorem dX5_handle_74 : decode cX5_handle 74 = .ok (.return_, 1) := by decide +kernel
theorem dX5_handle_75 : decode cX5_handle 75 = .ok (.aload_n 0, 1) := by decide +kernel
theorem dX5_handle_76 : decode cX5_handle 76 = .ok (.getfield 23, 3) := by decide +kernel
theorem dX5_handle_79 : decode cX5_handle 79 = .ok (.iload_n 1, 1) := by decide +kernel
theorem dX5_handle_80 : decode cX5_handle 80 = .ok (.iconst 0, 1) := by decide +kernel
theorem dX5_handle_81 : decode cX5_handle 81 = .ok (.bastore, 1) := by decide +kernel
theorem dX5_handle_82 : decode cX5_handle 82 = .ok (.aload_n 0, 1) := by decide +kernel
theorem dX5_handle_83 : decode cX5_handle 83 = .ok (.getfield 27, 3) := by decide +kernel
theorem dX5_handle_86 : decode cX5_handle 86 = .ok (.iload_n 1, 1) := by decide +kernel
theorem dX5_handle_87 : decode cX5_handle 87 = .ok (.baload, 1) := by decide +kernel
theorem dX5_handle_88 : decode cX5_handle 88 = .ok (.ifCond .eq 45, 3) := by decide +kernel
theorem dX5_handle_91 : decode cX5_handle 91 = .ok (.aload_n 0, 1) := by decide +kernel
theorem dX5_handle_92 : decode cX5_handle 92 = .ok (.getfield 72, 3) := by decide +kernel
theorem dX5_handle_95 : decode cX5_handle 95 = .ok (.bipush 10, 2) := by decide +kernel
theorem dX5_handle_97 : decode cX5_handle 97 = .ok (.dup2, 1) := by decide +kernel
theorem dX5_handle_98 : decode cX5_handle 98 = .ok (.iaload, 1) := by decide +kernel
theorem dX5_handle_99 : decode cX5_handle 99 = .ok (.iconst 1, 1) := by decide +kernel
theorem dX5_handle_100 : decode cX5_handle 100 = .ok (.iadd, 1) := by decide +kernel
theorem dX5_handle_101 : decode cX5_handle 101 = .ok (.iastore, 1) := by decide +kernel
theorem dX5_handle_102 : decode cX5_handle 102 = .ok (.aload_n 0, 1) := by decide +kernel
theorem dX5_handle_103 : decode cX5_handle 103 = .ok (.aload_n 0, 1) := by decide +kernel
theorem dX5_handle_104 : decode cX5_handle 104 = .ok (.getfield 7, 3) := by decide +kernel
theorem dX5_handle_107 : decode cX5_handle 107 = .ok (.iload_n 1, 1) := by decide +kernel
theorem dX5_handle_108 : decode cX5_handle 108 = .ok (.laload, 1) := by decide +kernel
theorem dX5_handle_109 : decode cX5_handle 109 = .ok (.aload_n 0, 1) := by decide +kernel
theorem dX5_handle_110 : decode cX5_handle 110 = .ok (.getfield 13, 3) := by decide +kernel
theorem dX5_handle_113 : decode cX5_handle 113 = .ok (.iload_n 1, 1) := by decide +kernel
theorem dX5_handle_114 : decode cX5_handle 114 = .ok (.iaload, 1) := by decide +kernel
theorem dX5_handle_115 : decode cX5_handle 115 = .ok (.aload_n 0, 1) := by decide +kernel
theorem dX5_handle_116 : decode cX5_handle 116 = .ok (.getfield 17, 3) := by decide +kernel
theorem dX5_handle_119 : decode cX5_handle 119 = .ok (.iload_n 1, 1) := by decide +kernel
theorem dX5_handle_120 : decode cX5_handle 120 = .ok (.iaload, 1) := by decide +kernel
theorem dX5_handle_121 : decode cX5_handle 121 = .ok (.aload_n 0, 1) := by decide +kernel
theorem dX5_handle_122 : decode cX5_handle 122 = .ok (.getfield 20, 3) := by decide +kernel
theorem dX5_handle_125 : decode cX5_handle 125 = .ok (.iload_n 1, 1) := by decide +kernel
theorem dX5_handle_126 : decode cX5_handle 126 = .ok (.iaload, 1) := by decide +kernel
theorem dX5_handle_127 : decode cX5_handle 127 = .ok (.invokevirtual 122, 3) := by decide +kernel
theorem dX5_handle_130 : decode cX5_handle 130 = .ok (.goto 27, 3) := by decide +kernel
theorem dX5_handle_133 : decode cX5_handle 133 = .ok (.aload_n 0, 1) := by decide +kernel
theorem dX5_handle_134 : decode cX5_handle 134 = .ok (.getfield 72, 3) := by decide +kernel
theorem dX5_handle_137 : decode cX5_handle 137 = .ok (.bipush 9, 2) := by decide +kernel
theorem dX5_handle_139 : decode cX5_handle 139 = .ok (.dup2, 1) := by decide +kernel
theorem dX5_handle_140 : decode cX5_handle 140 = .ok (.iaload, 1) := by decide +kernel
theorem dX5_handle_141 : decode cX5_handle 141 = .ok (.iconst 1, 1) := by decide +kernel
theorem dX5_handle_142 : decode cX5_handle 142 = .ok (.iadd, 1) := by decide +kernel
theorem dX5_handle_143 : decode cX5_handle 143 = .ok (.iastore, 1) := by decide +kernel
theorem dX5_handle_144 : decode cX5_handle 144 = .ok (.aload_n 0, 1) := by decide +kernel
theorem dX5_handle_145 : decode cX5_handle 145 = .ok (.aload_n 0, 1) := by decide +kernel
theorem dX5_handle_146 : decode cX5_handle 146 = .ok (.getfield 7, 3) := by decide +kernel
theorem dX5_handle_149 : decode cX5_handle 149 = .ok (.iload_n 1, 1) := by decide +kernel
theorem dX5_handle_150 : decode cX5_handle 150 = .ok (.laload, 1) := by decide +kernel
theorem dX5_handle_151 : decode cX5_handle 151 = .ok (.iconst 3, 1) := by decide +kernel
theorem dX5_handle_152 : decode cX5_handle 152 = .ok (.invokevirtual 126, 3) := by decide +kernel
theorem dX5_handle_155 : decode cX5_handle 155 = .ok (.istore 4, 2) := by decide +kernel
theorem dX5_handle_157 : decode cX5_handle 157 = .ok (.return_, 1) := by decide +kernel
theorem dX5_addNew_0 : decode cX5_addNew 0 = .ok (.aload_n 0, 1) := by decide +kernel
theorem dX5_addNew_1 : decode cX5_addNew 1 = .ok (.getfield 54, 3) := by decide +kernel
theorem dX5_addNew_4 : decode cX5_addNew 4 = .ok (.aload_n 0, 1) := by decide +kernel
theorem dX5_addNew_5 : decode cX5_addNew 5 = .ok (.getfield 130, 3) := by decide +kernel
theorem dX5_addNew_8 : decode cX5_addNew 8 = .ok (.lload_n 1, 1) := by decide +kernel
theorem dX5_addNew_9 : decode cX5_addNew 9 = .ok (.lastore, 1) := by decide +kernel
theorem dX5_addNew_10 : decode cX5_addNew 10 = .ok (.aload_n 0, 1) := by decide +kernel
theorem dX5_addNew_11 : decode cX5_addNew 11 = .ok (.getfield 57, 3) := by decide +kernel
theorem dX5_addNew_14 : decode cX5_addNew 14 = .ok (.aload_n 0, 1) := by decide +kernel
theorem dX5_addNew_15 : decode cX5_addNew 15 = .ok (.getfield 130, 3) := by decide +kernel
theorem dX5_addNew_18 : decode cX5_addNew 18 = .ok (.iload_n 3, 1) := by decide +kernel
theorem dX5_addNew_19 : decode cX5_addNew 19 = .ok (.iastore, 1) := by decide +kernel
theorem dX5_addNew_20 : decode cX5_addNew 20 = .ok (.aload_n 0, 1) := by decide +kernel
theorem dX5_addNew_21 : decode cX5_addNew 21 = .ok (.getfield 60, 3) := by decide +kernel
theorem dX5_addNew_24 : decode cX5_addNew 24 = .ok (.aload_n 0, 1) := by decide +kernel
theorem dX5_addNew_25 : decode cX5_addNew 25 = .ok (.getfield 130, 3) := by decide +kernel
theorem dX5_addNew_28 : decode cX5_addNew 28 = .ok (.iload 4, 2) := by decide +kernel
theorem dX5_addNew_30 : decode cX5_addNew 30 = .ok (.iastore, 1) := by decide +kernel
theorem dX5_addNew_31 : decode cX5_addNew 31 = .ok (.aload_n 0, 1) := by decide +kernel
theorem dX5_addNew_32 : decode cX5_addNew 32 = .ok (.getfield 63, 3) := by decide +kernel
theorem dX5_addNew_35 : decode cX5_addNew 35 = .ok (.aload_n 0, 1) := by decide +kernel
theorem dX5_addNew_36 : decode cX5_addNew 36 = .ok (.getfield 130, 3) := by decide +kernel
theorem dX5_addNew_39 : decode cX5_addNew 39 = .ok (.iload 5, 2) := by decide +kernel
theorem dX5_addNew_41 : decode cX5_addNew 41 = .ok (.iastore, 1) := by decide +kernel
theorem dX5_addNew_42 : decode cX5_addNew 42 = .ok (.aload_n 0, 1) := by decide +kernel
theorem dX5_addNew_43 : decode cX5_addNew 43 = .ok (.getfield 66, 3) := by decide +kernel
theorem dX5_addNew_46 : decode cX5_addNew 46 = .ok (.aload_n 0, 1) := by decide +kernel
theorem dX5_addNew_47 : decode cX5_addNew 47 = .ok (.getfield 130, 3) := by decide +kernel
theorem dX5_addNew_50 : decode cX5_addNew 50 = .ok (.iload 6, 2) := by decide +kernel
theorem dX5_addNew_52 : decode cX5_addNew 52 = .ok (.bastore, 1) := by decide +kernel
theorem dX5_addNew_53 : decode cX5_addNew 53 = .ok (.aload_n 0, 1) := by decide +kernel
theorem dX5_addNew_54 : decode cX5_addNew 54 = .ok (.getfield 69, 3) := by decide +kernel
theorem dX5_addNew_57 : decode cX5_addNew 57 = .ok (.aload_n 0, 1) := by decide +kernel
theorem dX5_addNew_58 : decode cX5_addNew 58 = .ok (.getfield 130, 3) := by decide +kernel
theorem dX5_addNew_61 : decode cX5_addNew 61 = .ok (.iload 7, 2) := by decide +kernel
theorem dX5_addNew_63 : decode cX5_addNew 63 = .ok (.bastore, 1) := by decide +kernel
theorem dX5_addNew_64 : decode cX5_addNew 64 = .ok (.aload_n 0, 1) := by decide +kernel
theorem dX5_addNew_65 : decode cX5_addNew 65 = .ok (.dup, 1) := by decide +kernel
theorem dX5_addNew_66 : decode cX5_addNew 66 = .ok (.getfield 130, 3) := by decide +kernel
theorem dX5_addNew_69 : decode cX5_addNew 69 = .ok (.iconst 1, 1) := by decide +kernel
theorem dX5_addNew_70 : decode cX5_addNew 70 = .ok (.iadd, 1) := by decide +kernel
theorem dX5_addNew_71 : decode cX5_addNew 71 = .ok (.putfield 130, 3) := by decide +kernel
theorem dX5_addNew_74 : decode cX5_addNew 74 = .ok (.return_, 1) := by decide +kernel
theorem dX5_move_0 : decode cX5_move 0 = .ok (.aload_n 0, 1) := by decide +kernel
theorem dX5_move_1 : decode cX5_move 1 = .ok (.iconst 0, 1) := by decide +kernel
theorem dX5_move_2 : decode cX5_move 2 = .ok (.putfield 130, 3) := by decide +kernel
theorem dX5_move_5 : decode cX5_move 5 = .ok (.aload_n 0, 1) := by decide +kernel
theorem dX5_move_6 : decode cX5_move 6 = .ok (.getfield 72, 3) := by decide +kernel
theorem dX5_move_9 : decode cX5_move 9 = .ok (.bipush 11, 2) := by decide +kernel
theorem dX5_move_11 : decode cX5_move 11 = .ok (.dup2, 1) := by decide +kernel
theorem dX5_move_12 : decode cX5_move 12 = .ok (.iaload, 1) := by decide +kernel
theorem dX5_move_13 : decode cX5_move 13 = .ok (.iconst 1, 1) := by decide +kernel
theorem dX5_move_14 : decode cX5_move 14 = .ok (.iadd, 1) := by decide +kernel
theorem dX5_move_15 : decode cX5_move 15 = .ok (.iastore, 1) := by decide +kernel
theorem dX5_move_16 : decode cX5_move 16 = .ok (.iconst 0, 1) := by decide +kernel
theorem dX5_move_17 : decode cX5_move 17 = .ok (.istore_n 2, 1) := by decide +kernel
theorem dX5_move_18 : decode cX5_move 18 = .ok (.iload_n 2, 1) := by decide +kernel
theorem dX5_move_19 : decode cX5_move 19 = .ok (.aload_n 0, 1) := by decide +kernel
theorem dX5_move_20 : decode cX5_move 20 = .ok (.getfield 51, 3) := by decide +kernel
theorem dX5_move_23 : decode cX5_move 23 = .ok (.iload_n 1, 1) := by decide +kernel
theorem dX5_move_24 : decode cX5_move 24 = .ok (.iaload, 1) := by decide +kernel
theorem dX5_move_25 : decode cX5_move 25 = .ok (.if_icmp .ge 64, 3) := by decide +kernel
theorem dX5_move_28 : decode cX5_move 28 = .ok (.bipush 8, 2) := by decide +kernel
theorem dX5_move_30 : decode cX5_move 30 = .ok (.iload_n 1, 1) := by decide +kernel
theorem dX5_move_31 : decode cX5_move 31 = .ok (.imul, 1) := by decide +kernel
theorem dX5_move_32 : decode cX5_move 32 = .ok (.iload_n 2, 1) := by decide +kernel
theorem dX5_move_33 : decode cX5_move 33 = .ok (.iadd, 1) := by decide +kernel
theorem dX5_move_34 : decode cX5_move 34 = .ok (.istore_n 3, 1) := by decide +kernel
theorem dX5_move_35 : decode cX5_move 35 = .ok (.aload_n 0, 1) := by decide +kernel
theorem dX5_move_36 : decode cX5_move 36 = .ok (.aload_n 0, 1) := by decide +kernel
theorem dX5_move_37 : decode cX5_move 37 = .ok (.getfield 36, 3) := by decide +kernel
theorem dX5_move_40 : decode cX5_move 40 = .ok (.iload_n 3, 1) := by decide +kernel
theorem dX5_move_41 : decode cX5_move 41 = .ok (.laload, 1) := by decide +kernel
theorem dX5_move_42 : decode cX5_move 42 = .ok (.invokevirtual 133, 3) := by decide +kernel
theorem dX5_move_45 : decode cX5_move 45 = .ok (.ifCond .ge 38, 3) := by decide +kernel
theorem dX5_move_48 : decode cX5_move 48 = .ok (.aload_n 0, 1) := by decide +kernel
theorem dX5_move_49 : decode cX5_move 49 = .ok (.aload_n 0, 1) := by decide +kernel
theorem dX5_move_50 : decode cX5_move 50 = .ok (.getfield 36, 3) := by decide +kernel
theorem dX5_move_53 : decode cX5_move 53 = .ok (.iload_n 3, 1) := by decide +kernel
theorem dX5_move_54 : decode cX5_move 54 = .ok (.laload, 1) := by decide +kernel
theorem dX5_move_55 : decode cX5_move 55 = .ok (.aload_n 0, 1) := by decide +kernel
theorem dX5_move_56 : decode cX5_move 56 = .ok (.getfield 39, 3) := by decide +kernel
theorem dX5_move_59 : decode cX5_move 59 = .ok (.iload_n 3, 1) := by decide +kernel
theorem dX5_move_60 : decode cX5_move 60 = .ok (.iaload, 1) := by decide +kernel
theorem dX5_move_61 : decode cX5_move 61 = .ok (.aload_n 0, 1) := by decide +kernel
theorem dX5_move_62 : decode cX5_move 62 = .ok (.getfield 42, 3) := by decide +kernel
theorem dX5_move_65 : decode cX5_move 65 = .ok (.iload_n 3, 1) := by decide +kernel
theorem dX5_move_66 : decode cX5_move 66 = .ok (.iaload, 1) := by decide +kernel
theorem dX5_move_67 : decode cX5_move 67 = .ok (.aload_n 0, 1) := by decide +kernel
theorem dX5_move_68 : decode cX5_move 68 = .ok (.getfield 45, 3) := by decide +kernel
theorem dX5_move_71 : decode cX5_move 71 = .ok (.iload_n 3, 1) := by decide +kernel
theorem dX5_move_72 : decode cX5_move 72 = .ok (.iaload, 1) := by decide +kernel
theorem dX5_move_73 : decode cX5_move 73 = .ok (.aload_n 0, 1) := by decide +kernel
theorem dX5_move_74 : decode cX5_move 74 = .ok (.getfield 48, 3) := by decide +kernel
theorem dX5_move_77 : decode cX5_move 77 = .ok (.iload_n 3, 1) := by decide +kernel
theorem dX5_move_78 : decode cX5_move 78 = .ok (.baload, 1) := by decide +kernel
theorem dX5_move_79 : decode cX5_move 79 = .ok (.iconst 1, 1) := by decide +kernel
theorem dX5_move_80 : decode cX5_move 80 = .ok (.invokevirtual 136, 3) := by decide +kernel
theorem dX5_move_83 : decode cX5_move 83 = .ok (.iinc 2 1, 3) := by decide +kernel
theorem dX5_move_86 : decode cX5_move 86 = .ok (.goto (-68), 3) := by decide +kernel
theorem dX5_move_89 : decode cX5_move 89 = .ok (.iconst 0, 1) := by decide +kernel
theorem dX5_move_90 : decode cX5_move 90 = .ok (.istore_n 2, 1) := by decide +kernel
theorem dX5_move_91 : decode cX5_move 91 = .ok (.iload_n 2, 1) := by decide +kernel
theorem dX5_move_92 : decode cX5_move 92 = .ok (.aload_n 0, 1) := by decide +kernel
theorem dX5_move_93 : decode cX5_move 93 = .ok (.getfield 96, 3) := by decide +kernel
theorem dX5_move_96 : decode cX5_move 96 = .ok (.if_icmp .ge 84, 3) := by decide +kernel
theorem dX5_move_99 : decode cX5_move 99 = .ok (.aload_n 0, 1) := by decide +kernel
theorem dX5_move_100 : decode cX5_move 100 = .ok (.getfield 23, 3) := by decide +kernel
theorem dX5_move_103 : decode cX5_move 103 = .ok (.iload_n 2, 1) := by decide +kernel
theorem dX5_move_104 : decode cX5_move 104 = .ok (.baload, 1) := by decide +kernel
theorem dX5_move_105 : decode cX5_move 105 = .ok (.ifCond .eq 69, 3) := by decide +kernel
theorem dX5_move_108 : decode cX5_move 108 = .ok (.aload_n 0, 1) := by decide +kernel
theorem dX5_move_109 : decode cX5_move 109 = .ok (.aload_n 0, 1) := by decide +kernel
theorem dX5_move_110 : decode cX5_move 110 = .ok (.getfield 7, 3) := by decide +kernel
theorem dX5_move_113 : decode cX5_move 113 = .ok (.iload_n 2, 1) := by decide +kernel
theorem dX5_move_114 : decode cX5_move 114 = .ok (.laload, 1) := by decide +kernel
theorem dX5_move_115 : decode cX5_move 115 = .ok (.invokevirtual 88, 3) := by decide +kernel
theorem dX5_move_118 : decode cX5_move 118 = .ok (.iload_n 1, 1) := by decide +kernel
theorem dX5_move_119 : decode cX5_move 119 = .ok (.if_icmp .ne 55, 3) := by decide +kernel
theorem dX5_move_122 : decode cX5_move 122 = .ok (.aload_n 0, 1) := by decide +kernel
theorem dX5_move_123 : decode cX5_move 123 = .ok (.aload_n 0, 1) := by decide +kernel
theorem dX5_move_124 : decode cX5_move 124 = .ok (.getfield 7, 3) := by decide +kernel
theorem dX5_move_127 : decode cX5_move 127 = .ok (.iload_n 2, 1) := by decide +kernel
theorem dX5_move_128 : decode cX5_move 128 = .ok (.laload, 1) := by decide +kernel
theorem dX5_move_129 : decode cX5_move 129 = .ok (.aload_n 0, 1) := by decide +kernel
theorem dX5_move_130 : decode cX5_move 130 = .ok (.getfield 13, 3) := by decide +kernel
theorem dX5_move_133 : decode cX5_move 133 = .ok (.iload_n 2, 1) := by decide +kernel
theorem dX5_move_134 : decode cX5_move 134 = .ok (.iaload, 1) := by decide +kernel
theorem dX5_move_135 : decode cX5_move 135 = .ok (.aload_n 0, 1) := by decide +kernel
theorem dX5_move_136 : decode cX5_move 136 = .ok (.getfield 17, 3) := by decide +kernel
theorem dX5_move_139 : decode cX5_move 139 = .ok (.iload_n 2, 1) := by decide +kernel
theorem dX5_move_140 : decode cX5_move 140 = .ok (.iaload, 1) := by decide +kernel
theorem dX5_move_141 : decode cX5_move 141 = .ok (.aload_n 0, 1) := by decide +kernel
theorem dX5_move_142 : decode cX5_move 142 = .ok (.getfield 20, 3) := by decide +kernel
theorem dX5_move_145 : decode cX5_move 145 = .ok (.iload_n 2, 1) := by decide +kernel
theorem dX5_move_146 : decode cX5_move 146 = .ok (.iaload, 1) := by decide +kernel
theorem dX5_move_147 : decode cX5_move 147 = .ok (.aload_n 0, 1) := by decide +kernel
theorem dX5_move_148 : decode cX5_move 148 = .ok (.getfield 27, 3) := by decide +kernel
theorem dX5_move_151 : decode cX5_move 151 = .ok (.iload_n 2, 1) := by decide +kernel
theorem dX5_move_152 : decode cX5_move 152 = .ok (.baload, 1) := by decide +kernel
theorem dX5_move_153 : decode cX5_move 153 = .ok (.iconst 0, 1) := by decide +kernel
theorem dX5_move_154 : decode cX5_move 154 = .ok (.invokevirtual 136, 3) := by decide +kernel
theorem dX5_move_157 : decode cX5_move 157 = .ok (.aload_n 0, 1) := by decide +kernel
theorem dX5_move_158 : decode cX5_move 158 = .ok (.getfield 23, 3) := by decide +kernel
theorem dX5_move_161 : decode cX5_move 161 = .ok (.iload_n 2, 1) := by decide +kernel
theorem dX5_move_162 : decode cX5_move 162 = .ok (.iconst 0, 1) := by decide +kernel
theorem dX5_move_163 : decode cX5_move 163 = .ok (.bastore, 1) := by decide +kernel
theorem dX5_move_164 : decode cX5_move 164 = .ok (.aload_n 0, 1) := by decide +kernel
theorem dX5_move_165 : decode cX5_move 165 = .ok (.getfield 72, 3) := by decide +kernel
theorem dX5_move_168 : decode cX5_move 168 = .ok (.iconst 5, 1) := by decide +kernel
theorem dX5_move_169 : decode cX5_move 169 = .ok (.dup2, 1) := by decide +kernel
theorem dX5_move_170 : decode cX5_move 170 = .ok (.iaload, 1) := by decide +kernel
theorem dX5_move_171 : decode cX5_move 171 = .ok (.iconst 1, 1) := by decide +kernel
theorem dX5_move_172 : decode cX5_move 172 = .ok (.iadd, 1) := by decide +kernel
theorem dX5_move_173 : decode cX5_move 173 = .ok (.iastore, 1) := by decide +kernel
theorem dX5_move_174 : decode cX5_move 174 = .ok (.iinc 2 1, 3) := by decide +kernel
theorem dX5_move_177 : decode cX5_move 177 = .ok (.goto (-86), 3) := by decide +kernel
theorem dX5_move_180 : decode cX5_move 180 = .ok (.aload_n 0, 1) := by decide +kernel
theorem dX5_move_181 : decode cX5_move 181 = .ok (.invokevirtual 140, 3) := by decide +kernel
theorem dX5_move_184 : decode cX5_move 184 = .ok (.bipush 32, 2) := by decide +kernel
theorem dX5_move_186 : decode cX5_move 186 = .ok (.if_icmp .le 10, 3) := by decide +kernel
theorem dX5_move_189 : decode cX5_move 189 = .ok (.aload_n 0, 1) := by decide +kernel
theorem dX5_move_190 : decode cX5_move 190 = .ok (.invokevirtual 144, 3) := by decide +kernel
theorem dX5_move_193 : decode cX5_move 193 = .ok (.goto (-13), 3) := by decide +kernel
theorem dX5_move_196 : decode cX5_move 196 = .ok (.aload_n 0, 1) := by decide +kernel
theorem dX5_move_197 : decode cX5_move 197 = .ok (.iload_n 1, 1) := by decide +kernel
theorem dX5_move_198 : decode cX5_move 198 = .ok (.invokevirtual 147, 3) := by decide +kernel
theorem dX5_move_201 : decode cX5_move 201 = .ok (.aload_n 0, 1) := by decide +kernel
theorem dX5_move_202 : decode cX5_move 202 = .ok (.getfield 72, 3) := by decide +kernel
theorem dX5_move_205 : decode cX5_move 205 = .ok (.iconst 2, 1) := by decide +kernel
theorem dX5_move_206 : decode cX5_move 206 = .ok (.dup2, 1) := by decide +kernel
theorem dX5_move_207 : decode cX5_move 207 = .ok (.iaload, 1) := by decide +kernel
theorem dX5_move_208 : decode cX5_move 208 = .ok (.iconst 1, 1) := by decide +kernel
theorem dX5_move_209 : decode cX5_move 209 = .ok (.iadd, 1) := by decide +kernel
theorem dX5_move_210 : decode cX5_move 210 = .ok (.iastore, 1) := by decide +kernel
theorem dX5_move_211 : decode cX5_move 211 = .ok (.return_, 1) := by decide +kernel
theorem dX5_placesOfNew_0 : decode cX5_placesOfNew 0 = .ok (.iconst 0, 1) := by decide +kernel
theorem dX5_placesOfNew_1 : decode cX5_placesOfNew 1 = .ok (.istore_n 1, 1) := by decide +kernel
theorem dX5_placesOfNew_2 : decode cX5_placesOfNew 2 = .ok (.iconst 0, 1) := by decide +kernel
theorem dX5_placesOfNew_3 : decode cX5_placesOfNew 3 = .ok (.istore_n 2, 1) := by decide +kernel
theorem dX5_placesOfNew_4 : decode cX5_placesOfNew 4 = .ok (.iload_n 2, 1) := by decide +kernel
theorem dX5_placesOfNew_5 : decode cX5_placesOfNew 5 = .ok (.aload_n 0, 1) := by decide +kernel
theorem dX5_placesOfNew_6 : decode cX5_placesOfNew 6 = .ok (.getfield 130, 3) := by decide +kernel
theorem dX5_placesOfNew_9 : decode cX5_placesOfNew 9 = .ok (.if_icmp .ge 20, 3) := by decide +kernel
theorem dX5_placesOfNew_12 : decode cX5_placesOfNew 12 = .ok (.iload_n 1, 1) := by decide +kernel
theorem dX5_placesOfNew_13 : decode cX5_placesOfNew 13 = .ok (.iconst 3, 1) := by decide +kernel
theorem dX5_placesOfNew_14 : decode cX5_placesOfNew 14 = .ok (.aload_n 0, 1) := by decide +kernel
theorem dX5_placesOfNew_15 : decode cX5_placesOfNew 15 = .ok (.getfield 57, 3) := by decide +kernel
theorem dX5_placesOfNew_18 : decode cX5_placesOfNew 18 = .ok (.iload_n 2, 1) := by decide +kernel
theorem dX5_placesOfNew_19 : decode cX5_placesOfNew 19 = .ok (.iaload, 1) := by decide +kernel
theorem dX5_placesOfNew_20 : decode cX5_placesOfNew 20 = .ok (.iadd, 1) := by decide +kernel
theorem dX5_placesOfNew_21 : decode cX5_placesOfNew 21 = .ok (.iadd, 1) := by decide +kernel
theorem dX5_placesOfNew_22 : decode cX5_placesOfNew 22 = .ok (.istore_n 1, 1) := by decide +kernel
theorem dX5_placesOfNew_23 : decode cX5_placesOfNew 23 = .ok (.iinc 2 1, 3) := by decide +kernel
theorem dX5_placesOfNew_26 : decode cX5_placesOfNew 26 = .ok (.goto (-22), 3) := by decide +kernel
theorem dX5_placesOfNew_29 : decode cX5_placesOfNew 29 = .ok (.iload_n 1, 1) := by decide +kernel
theorem dX5_placesOfNew_30 : decode cX5_placesOfNew 30 = .ok (.ireturn, 1) := by decide +kernel
theorem dX5_dropOne_0 : decode cX5_dropOne 0 = .ok (.iconst (-1), 1) := by decide +kernel
theorem dX5_dropOne_1 : decode cX5_dropOne 1 = .ok (.istore_n 1, 1) := by decide +kernel
theorem dX5_dropOne_2 : decode cX5_dropOne 2 = .ok (.iconst (-1), 1) := by decide +kernel
theorem dX5_dropOne_3 : decode cX5_dropOne 3 = .ok (.istore_n 2, 1) := by decide +kernel
theorem dX5_dropOne_4 : decode cX5_dropOne 4 = .ok (.aload_n 0, 1) := by decide +kernel
theorem dX5_dropOne_5 : decode cX5_dropOne 5 = .ok (.getfield 130, 3) := by decide +kernel
theorem dX5_dropOne_8 : decode cX5_dropOne 8 = .ok (.iconst 1, 1) := by decide +kernel
theorem dX5_dropOne_9 : decode cX5_dropOne 9 = .ok (.isub, 1) := by decide +kernel
theorem dX5_dropOne_10 : decode cX5_dropOne 10 = .ok (.istore_n 3, 1) := by decide +kernel
theorem dX5_dropOne_11 : decode cX5_dropOne 11 = .ok (.iload_n 3, 1) := by decide +kernel
theorem dX5_dropOne_12 : decode cX5_dropOne 12 = .ok (.ifCond .lt 48, 3) := by decide +kernel
theorem dX5_dropOne_15 : decode cX5_dropOne 15 = .ok (.aload_n 0, 1) := by decide +kernel
theorem dX5_dropOne_16 : decode cX5_dropOne 16 = .ok (.getfield 69, 3) := by decide +kernel
theorem dX5_dropOne_19 : decode cX5_dropOne 19 = .ok (.iload_n 3, 1) := by decide +kernel
theorem dX5_dropOne_20 : decode cX5_dropOne 20 = .ok (.baload, 1) := by decide +kernel
theorem dX5_dropOne_21 : decode cX5_dropOne 21 = .ok (.ifCond .eq 16, 3) := by decide +kernel
theorem dX5_dropOne_24 : decode cX5_dropOne 24 = .ok (.aload_n 0, 1) := by decide +kernel
theorem dX5_dropOne_25 : decode cX5_dropOne 25 = .ok (.getfield 66, 3) := by decide +kernel
theorem dX5_dropOne_28 : decode cX5_dropOne 28 = .ok (.iload_n 3, 1) := by decide +kernel
theorem dX5_dropOne_29 : decode cX5_dropOne 29 = .ok (.baload, 1) := by decide +kernel
theorem dX5_dropOne_30 : decode cX5_dropOne 30 = .ok (.ifCond .ne 7, 3) := by decide +kernel
theorem dX5_dropOne_33 : decode cX5_dropOne 33 = .ok (.iload_n 3, 1) := by decide +kernel
theorem dX5_dropOne_34 : decode cX5_dropOne 34 = .ok (.goto 4, 3) := by decide +kernel
theorem dX5_dropOne_37 : decode cX5_dropOne 37 = .ok (.iload_n 1, 1) := by decide +kernel
theorem dX5_dropOne_38 : decode cX5_dropOne 38 = .ok (.istore_n 1, 1) := by decide +kernel
theorem dX5_dropOne_39 : decode cX5_dropOne 39 = .ok (.aload_n 0, 1) := by decide +kernel
theorem dX5_dropOne_40 : decode cX5_dropOne 40 = .ok (.getfield 69, 3) := by decide +kernel
theorem dX5_dropOne_43 : decode cX5_dropOne 43 = .ok (.iload_n 3, 1) := by decide +kernel
theorem dX5_dropOne_44 : decode cX5_dropOne 44 = .ok (.baload, 1) := by decide +kernel
