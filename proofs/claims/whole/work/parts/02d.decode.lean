theorem dX5_dropOne_45 : decode cX5_dropOne 45 = .ok (.ifCond .eq 7, 3) := by decide +kernel
theorem dX5_dropOne_48 : decode cX5_dropOne 48 = .ok (.iload_n 3, 1) := by decide +kernel
theorem dX5_dropOne_49 : decode cX5_dropOne 49 = .ok (.goto 4, 3) := by decide +kernel
theorem dX5_dropOne_52 : decode cX5_dropOne 52 = .ok (.iload_n 2, 1) := by decide +kernel
theorem dX5_dropOne_53 : decode cX5_dropOne 53 = .ok (.istore_n 2, 1) := by decide +kernel
theorem dX5_dropOne_54 : decode cX5_dropOne 54 = .ok (.iinc 3 (-1), 3) := by decide +kernel
theorem dX5_dropOne_57 : decode cX5_dropOne 57 = .ok (.goto (-46), 3) := by decide +kernel
theorem dX5_dropOne_60 : decode cX5_dropOne 60 = .ok (.iload_n 1, 1) := by decide +kernel
theorem dX5_dropOne_61 : decode cX5_dropOne 61 = .ok (.ifCond .lt 7, 3) := by decide +kernel
theorem dX5_dropOne_64 : decode cX5_dropOne 64 = .ok (.iload_n 1, 1) := by decide +kernel
theorem dX5_dropOne_65 : decode cX5_dropOne 65 = .ok (.goto 12, 3) := by decide +kernel
theorem dX5_dropOne_68 : decode cX5_dropOne 68 = .ok (.iload_n 2, 1) := by decide +kernel
theorem dX5_dropOne_69 : decode cX5_dropOne 69 = .ok (.ifCond .lt 7, 3) := by decide +kernel
theorem dX5_dropOne_72 : decode cX5_dropOne 72 = .ok (.iload_n 2, 1) := by decide +kernel
theorem dX5_dropOne_73 : decode cX5_dropOne 73 = .ok (.goto 4, 3) := by decide +kernel
theorem dX5_dropOne_76 : decode cX5_dropOne 76 = .ok (.iconst 0, 1) := by decide +kernel
theorem dX5_dropOne_77 : decode cX5_dropOne 77 = .ok (.istore_n 3, 1) := by decide +kernel
theorem dX5_dropOne_78 : decode cX5_dropOne 78 = .ok (.aload_n 0, 1) := by decide +kernel
theorem dX5_dropOne_79 : decode cX5_dropOne 79 = .ok (.getfield 72, 3) := by decide +kernel
theorem dX5_dropOne_82 : decode cX5_dropOne 82 = .ok (.iload_n 1, 1) := by decide +kernel
theorem dX5_dropOne_83 : decode cX5_dropOne 83 = .ok (.ifCond .lt 8, 3) := by decide +kernel
theorem dX5_dropOne_86 : decode cX5_dropOne 86 = .ok (.bipush 6, 2) := by decide +kernel
theorem dX5_dropOne_88 : decode cX5_dropOne 88 = .ok (.goto 14, 3) := by decide +kernel
theorem dX5_dropOne_91 : decode cX5_dropOne 91 = .ok (.iload_n 2, 1) := by decide +kernel
theorem dX5_dropOne_92 : decode cX5_dropOne 92 = .ok (.ifCond .lt 8, 3) := by decide +kernel
theorem dX5_dropOne_95 : decode cX5_dropOne 95 = .ok (.bipush 7, 2) := by decide +kernel
theorem dX5_dropOne_97 : decode cX5_dropOne 97 = .ok (.goto 5, 3) := by decide +kernel
theorem dX5_dropOne_100 : decode cX5_dropOne 100 = .ok (.bipush 8, 2) := by decide +kernel
theorem dX5_dropOne_102 : decode cX5_dropOne 102 = .ok (.dup2, 1) := by decide +kernel
theorem dX5_dropOne_103 : decode cX5_dropOne 103 = .ok (.iaload, 1) := by decide +kernel
theorem dX5_dropOne_104 : decode cX5_dropOne 104 = .ok (.iconst 1, 1) := by decide +kernel
theorem dX5_dropOne_105 : decode cX5_dropOne 105 = .ok (.iadd, 1) := by decide +kernel
theorem dX5_dropOne_106 : decode cX5_dropOne 106 = .ok (.iastore, 1) := by decide +kernel
theorem dX5_dropOne_107 : decode cX5_dropOne 107 = .ok (.aload_n 0, 1) := by decide +kernel
theorem dX5_dropOne_108 : decode cX5_dropOne 108 = .ok (.dup, 1) := by decide +kernel
theorem dX5_dropOne_109 : decode cX5_dropOne 109 = .ok (.getfield 130, 3) := by decide +kernel
theorem dX5_dropOne_112 : decode cX5_dropOne 112 = .ok (.iconst 1, 1) := by decide +kernel
theorem dX5_dropOne_113 : decode cX5_dropOne 113 = .ok (.isub, 1) := by decide +kernel
theorem dX5_dropOne_114 : decode cX5_dropOne 114 = .ok (.putfield 130, 3) := by decide +kernel
theorem dX5_dropOne_117 : decode cX5_dropOne 117 = .ok (.iload_n 3, 1) := by decide +kernel
theorem dX5_dropOne_118 : decode cX5_dropOne 118 = .ok (.istore 4, 2) := by decide +kernel
theorem dX5_dropOne_120 : decode cX5_dropOne 120 = .ok (.iload 4, 2) := by decide +kernel
theorem dX5_dropOne_122 : decode cX5_dropOne 122 = .ok (.aload_n 0, 1) := by decide +kernel
theorem dX5_dropOne_123 : decode cX5_dropOne 123 = .ok (.getfield 130, 3) := by decide +kernel
theorem dX5_dropOne_126 : decode cX5_dropOne 126 = .ok (.if_icmp .ge 105, 3) := by decide +kernel
theorem dX5_dropOne_129 : decode cX5_dropOne 129 = .ok (.aload_n 0, 1) := by decide +kernel
theorem dX5_dropOne_130 : decode cX5_dropOne 130 = .ok (.getfield 54, 3) := by decide +kernel
theorem dX5_dropOne_133 : decode cX5_dropOne 133 = .ok (.iload 4, 2) := by decide +kernel
theorem dX5_dropOne_135 : decode cX5_dropOne 135 = .ok (.aload_n 0, 1) := by decide +kernel
theorem dX5_dropOne_136 : decode cX5_dropOne 136 = .ok (.getfield 54, 3) := by decide +kernel
theorem dX5_dropOne_139 : decode cX5_dropOne 139 = .ok (.iload 4, 2) := by decide +kernel
theorem dX5_dropOne_141 : decode cX5_dropOne 141 = .ok (.iconst 1, 1) := by decide +kernel
theorem dX5_dropOne_142 : decode cX5_dropOne 142 = .ok (.iadd, 1) := by decide +kernel
theorem dX5_dropOne_143 : decode cX5_dropOne 143 = .ok (.laload, 1) := by decide +kernel
theorem dX5_dropOne_144 : decode cX5_dropOne 144 = .ok (.lastore, 1) := by decide +kernel
theorem dX5_dropOne_145 : decode cX5_dropOne 145 = .ok (.aload_n 0, 1) := by decide +kernel
theorem dX5_dropOne_146 : decode cX5_dropOne 146 = .ok (.getfield 57, 3) := by decide +kernel
theorem dX5_dropOne_149 : decode cX5_dropOne 149 = .ok (.iload 4, 2) := by decide +kernel
theorem dX5_dropOne_151 : decode cX5_dropOne 151 = .ok (.aload_n 0, 1) := by decide +kernel
theorem dX5_dropOne_152 : decode cX5_dropOne 152 = .ok (.getfield 57, 3) := by decide +kernel
theorem dX5_dropOne_155 : decode cX5_dropOne 155 = .ok (.iload 4, 2) := by decide +kernel
theorem dX5_dropOne_157 : decode cX5_dropOne 157 = .ok (.iconst 1, 1) := by decide +kernel
theorem dX5_dropOne_158 : decode cX5_dropOne 158 = .ok (.iadd, 1) := by decide +kernel
theorem dX5_dropOne_159 : decode cX5_dropOne 159 = .ok (.iaload, 1) := by decide +kernel
theorem dX5_dropOne_160 : decode cX5_dropOne 160 = .ok (.iastore, 1) := by decide +kernel
theorem dX5_dropOne_161 : decode cX5_dropOne 161 = .ok (.aload_n 0, 1) := by decide +kernel
theorem dX5_dropOne_162 : decode cX5_dropOne 162 = .ok (.getfield 60, 3) := by decide +kernel
theorem dX5_dropOne_165 : decode cX5_dropOne 165 = .ok (.iload 4, 2) := by decide +kernel
theorem dX5_dropOne_167 : decode cX5_dropOne 167 = .ok (.aload_n 0, 1) := by decide +kernel
theorem dX5_dropOne_168 : decode cX5_dropOne 168 = .ok (.getfield 60, 3) := by decide +kernel
theorem dX5_dropOne_171 : decode cX5_dropOne 171 = .ok (.iload 4, 2) := by decide +kernel
theorem dX5_dropOne_173 : decode cX5_dropOne 173 = .ok (.iconst 1, 1) := by decide +kernel
theorem dX5_dropOne_174 : decode cX5_dropOne 174 = .ok (.iadd, 1) := by decide +kernel
theorem dX5_dropOne_175 : decode cX5_dropOne 175 = .ok (.iaload, 1) := by decide +kernel
theorem dX5_dropOne_176 : decode cX5_dropOne 176 = .ok (.iastore, 1) := by decide +kernel
theorem dX5_dropOne_177 : decode cX5_dropOne 177 = .ok (.aload_n 0, 1) := by decide +kernel
theorem dX5_dropOne_178 : decode cX5_dropOne 178 = .ok (.getfield 63, 3) := by decide +kernel
theorem dX5_dropOne_181 : decode cX5_dropOne 181 = .ok (.iload 4, 2) := by decide +kernel
theorem dX5_dropOne_183 : decode cX5_dropOne 183 = .ok (.aload_n 0, 1) := by decide +kernel
theorem dX5_dropOne_184 : decode cX5_dropOne 184 = .ok (.getfield 63, 3) := by decide +kernel
theorem dX5_dropOne_187 : decode cX5_dropOne 187 = .ok (.iload 4, 2) := by decide +kernel
theorem dX5_dropOne_189 : decode cX5_dropOne 189 = .ok (.iconst 1, 1) := by decide +kernel
theorem dX5_dropOne_190 : decode cX5_dropOne 190 = .ok (.iadd, 1) := by decide +kernel
theorem dX5_dropOne_191 : decode cX5_dropOne 191 = .ok (.iaload, 1) := by decide +kernel
theorem dX5_dropOne_192 : decode cX5_dropOne 192 = .ok (.iastore, 1) := by decide +kernel
theorem dX5_dropOne_193 : decode cX5_dropOne 193 = .ok (.aload_n 0, 1) := by decide +kernel
theorem dX5_dropOne_194 : decode cX5_dropOne 194 = .ok (.getfield 66, 3) := by decide +kernel
theorem dX5_dropOne_197 : decode cX5_dropOne 197 = .ok (.iload 4, 2) := by decide +kernel
theorem dX5_dropOne_199 : decode cX5_dropOne 199 = .ok (.aload_n 0, 1) := by decide +kernel
theorem dX5_dropOne_200 : decode cX5_dropOne 200 = .ok (.getfield 66, 3) := by decide +kernel
theorem dX5_dropOne_203 : decode cX5_dropOne 203 = .ok (.iload 4, 2) := by decide +kernel
theorem dX5_dropOne_205 : decode cX5_dropOne 205 = .ok (.iconst 1, 1) := by decide +kernel
theorem dX5_dropOne_206 : decode cX5_dropOne 206 = .ok (.iadd, 1) := by decide +kernel
theorem dX5_dropOne_207 : decode cX5_dropOne 207 = .ok (.baload, 1) := by decide +kernel
theorem dX5_dropOne_208 : decode cX5_dropOne 208 = .ok (.bastore, 1) := by decide +kernel
theorem dX5_dropOne_209 : decode cX5_dropOne 209 = .ok (.aload_n 0, 1) := by decide +kernel
theorem dX5_dropOne_210 : decode cX5_dropOne 210 = .ok (.getfield 69, 3) := by decide +kernel
theorem dX5_dropOne_213 : decode cX5_dropOne 213 = .ok (.iload 4, 2) := by decide +kernel
theorem dX5_dropOne_215 : decode cX5_dropOne 215 = .ok (.aload_n 0, 1) := by decide +kernel
theorem dX5_dropOne_216 : decode cX5_dropOne 216 = .ok (.getfield 69, 3) := by decide +kernel
theorem dX5_dropOne_219 : decode cX5_dropOne 219 = .ok (.iload 4, 2) := by decide +kernel
theorem dX5_dropOne_221 : decode cX5_dropOne 221 = .ok (.iconst 1, 1) := by decide +kernel
theorem dX5_dropOne_222 : decode cX5_dropOne 222 = .ok (.iadd, 1) := by decide +kernel
theorem dX5_dropOne_223 : decode cX5_dropOne 223 = .ok (.baload, 1) := by decide +kernel
theorem dX5_dropOne_224 : decode cX5_dropOne 224 = .ok (.bastore, 1) := by decide +kernel
theorem dX5_dropOne_225 : decode cX5_dropOne 225 = .ok (.iinc 4 1, 3) := by decide +kernel
theorem dX5_dropOne_228 : decode cX5_dropOne 228 = .ok (.goto (-108), 3) := by decide +kernel
theorem dX5_dropOne_231 : decode cX5_dropOne 231 = .ok (.return_, 1) := by decide +kernel
theorem dX5_writePage_0 : decode cX5_writePage 0 = .ok (.iconst 0, 1) := by decide +kernel
theorem dX5_writePage_1 : decode cX5_writePage 1 = .ok (.istore_n 2, 1) := by decide +kernel
theorem dX5_writePage_2 : decode cX5_writePage 2 = .ok (.iload_n 2, 1) := by decide +kernel
theorem dX5_writePage_3 : decode cX5_writePage 3 = .ok (.aload_n 0, 1) := by decide +kernel
theorem dX5_writePage_4 : decode cX5_writePage 4 = .ok (.getfield 130, 3) := by decide +kernel
theorem dX5_writePage_7 : decode cX5_writePage 7 = .ok (.if_icmp .ge 71, 3) := by decide +kernel
theorem dX5_writePage_10 : decode cX5_writePage 10 = .ok (.bipush 8, 2) := by decide +kernel
theorem dX5_writePage_12 : decode cX5_writePage 12 = .ok (.iload_n 1, 1) := by decide +kernel
theorem dX5_writePage_13 : decode cX5_writePage 13 = .ok (.imul, 1) := by decide +kernel
theorem dX5_writePage_14 : decode cX5_writePage 14 = .ok (.iload_n 2, 1) := by decide +kernel
theorem dX5_writePage_15 : decode cX5_writePage 15 = .ok (.iadd, 1) := by decide +kernel
theorem dX5_writePage_16 : decode cX5_writePage 16 = .ok (.istore_n 3, 1) := by decide +kernel
theorem dX5_writePage_17 : decode cX5_writePage 17 = .ok (.aload_n 0, 1) := by decide +kernel
theorem dX5_writePage_18 : decode cX5_writePage 18 = .ok (.getfield 36, 3) := by decide +kernel
theorem dX5_writePage_21 : decode cX5_writePage 21 = .ok (.iload_n 3, 1) := by decide +kernel
theorem dX5_writePage_22 : decode cX5_writePage 22 = .ok (.aload_n 0, 1) := by decide +kernel
theorem dX5_writePage_23 : decode cX5_writePage 23 = .ok (.getfield 54, 3) := by decide +kernel
theorem dX5_writePage_26 : decode cX5_writePage 26 = .ok (.iload_n 2, 1) := by decide +kernel
theorem dX5_writePage_27 : decode cX5_writePage 27 = .ok (.laload, 1) := by decide +kernel
theorem dX5_writePage_28 : decode cX5_writePage 28 = .ok (.lastore, 1) := by decide +kernel
theorem dX5_writePage_29 : decode cX5_writePage 29 = .ok (.aload_n 0, 1) := by decide +kernel
theorem dX5_writePage_30 : decode cX5_writePage 30 = .ok (.getfield 39, 3) := by decide +kernel
theorem dX5_writePage_33 : decode cX5_writePage 33 = .ok (.iload_n 3, 1) := by decide +kernel
theorem dX5_writePage_34 : decode cX5_writePage 34 = .ok (.aload_n 0, 1) := by decide +kernel
theorem dX5_writePage_35 : decode cX5_writePage 35 = .ok (.getfield 57, 3) := by decide +kernel
theorem dX5_writePage_38 : decode cX5_writePage 38 = .ok (.iload_n 2, 1) := by decide +kernel
theorem dX5_writePage_39 : decode cX5_writePage 39 = .ok (.iaload, 1) := by decide +kernel
theorem dX5_writePage_40 : decode cX5_writePage 40 = .ok (.iastore, 1) := by decide +kernel
theorem dX5_writePage_41 : decode cX5_writePage 41 = .ok (.aload_n 0, 1) := by decide +kernel
theorem dX5_writePage_42 : decode cX5_writePage 42 = .ok (.getfield 42, 3) := by decide +kernel
theorem dX5_writePage_45 : decode cX5_writePage 45 = .ok (.iload_n 3, 1) := by decide +kernel
theorem dX5_writePage_46 : decode cX5_writePage 46 = .ok (.aload_n 0, 1) := by decide +kernel
theorem dX5_writePage_47 : decode cX5_writePage 47 = .ok (.getfield 60, 3) := by decide +kernel
theorem dX5_writePage_50 : decode cX5_writePage 50 = .ok (.iload_n 2, 1) := by decide +kernel
theorem dX5_writePage_51 : decode cX5_writePage 51 = .ok (.iaload, 1) := by decide +kernel
theorem dX5_writePage_52 : decode cX5_writePage 52 = .ok (.iastore, 1) := by decide +kernel
theorem dX5_writePage_53 : decode cX5_writePage 53 = .ok (.aload_n 0, 1) := by decide +kernel
theorem dX5_writePage_54 : decode cX5_writePage 54 = .ok (.getfield 45, 3) := by decide +kernel
theorem dX5_writePage_57 : decode cX5_writePage 57 = .ok (.iload_n 3, 1) := by decide +kernel
theorem dX5_writePage_58 : decode cX5_writePage 58 = .ok (.aload_n 0, 1) := by decide +kernel
theorem dX5_writePage_59 : decode cX5_writePage 59 = .ok (.getfield 63, 3) := by decide +kernel
theorem dX5_writePage_62 : decode cX5_writePage 62 = .ok (.iload_n 2, 1) := by decide +kernel
theorem dX5_writePage_63 : decode cX5_writePage 63 = .ok (.iaload, 1) := by decide +kernel
theorem dX5_writePage_64 : decode cX5_writePage 64 = .ok (.iastore, 1) := by decide +kernel
theorem dX5_writePage_65 : decode cX5_writePage 65 = .ok (.aload_n 0, 1) := by decide +kernel
theorem dX5_writePage_66 : decode cX5_writePage 66 = .ok (.getfield 48, 3) := by decide +kernel
theorem dX5_writePage_69 : decode cX5_writePage 69 = .ok (.iload_n 3, 1) := by decide +kernel
theorem dX5_writePage_70 : decode cX5_writePage 70 = .ok (.iconst 0, 1) := by decide +kernel
theorem dX5_writePage_71 : decode cX5_writePage 71 = .ok (.bastore, 1) := by decide +kernel
theorem dX5_writePage_72 : decode cX5_writePage 72 = .ok (.iinc 2 1, 3) := by decide +kernel
theorem dX5_writePage_75 : decode cX5_writePage 75 = .ok (.goto (-73), 3) := by decide +kernel
theorem dX5_writePage_78 : decode cX5_writePage 78 = .ok (.aload_n 0, 1) := by decide +kernel
theorem dX5_writePage_79 : decode cX5_writePage 79 = .ok (.getfield 51, 3) := by decide +kernel
theorem dX5_writePage_82 : decode cX5_writePage 82 = .ok (.iload_n 1, 1) := by decide +kernel
theorem dX5_writePage_83 : decode cX5_writePage 83 = .ok (.aload_n 0, 1) := by decide +kernel
theorem dX5_writePage_84 : decode cX5_writePage 84 = .ok (.getfield 130, 3) := by decide +kernel
theorem dX5_writePage_87 : decode cX5_writePage 87 = .ok (.iastore, 1) := by decide +kernel
theorem dX5_writePage_88 : decode cX5_writePage 88 = .ok (.return_, 1) := by decide +kernel
theorem dX5_takeOut_0 : decode cX5_takeOut 0 = .ok (.aload_n 0, 1) := by decide +kernel
theorem dX5_takeOut_1 : decode cX5_takeOut 1 = .ok (.lload_n 1, 1) := by decide +kernel
theorem dX5_takeOut_2 : decode cX5_takeOut 2 = .ok (.invokevirtual 150, 3) := by decide +kernel
theorem dX5_takeOut_5 : decode cX5_takeOut 5 = .ok (.ifCond .ne 5, 3) := by decide +kernel
theorem dX5_takeOut_8 : decode cX5_takeOut 8 = .ok (.iconst 0, 1) := by decide +kernel
theorem dX5_takeOut_9 : decode cX5_takeOut 9 = .ok (.ireturn, 1) := by decide +kernel
theorem dX5_takeOut_10 : decode cX5_takeOut 10 = .ok (.aload_n 0, 1) := by decide +kernel
theorem dX5_takeOut_11 : decode cX5_takeOut 11 = .ok (.getfield 72, 3) := by decide +kernel
theorem dX5_takeOut_14 : decode cX5_takeOut 14 = .ok (.bipush 11, 2) := by decide +kernel
theorem dX5_takeOut_16 : decode cX5_takeOut 16 = .ok (.dup2, 1) := by decide +kernel
theorem dX5_takeOut_17 : decode cX5_takeOut 17 = .ok (.iaload, 1) := by decide +kernel
theorem dX5_takeOut_18 : decode cX5_takeOut 18 = .ok (.iconst 1, 1) := by decide +kernel
theorem dX5_takeOut_19 : decode cX5_takeOut 19 = .ok (.iadd, 1) := by decide +kernel
theorem dX5_takeOut_20 : decode cX5_takeOut 20 = .ok (.iastore, 1) := by decide +kernel
theorem dX5_takeOut_21 : decode cX5_takeOut 21 = .ok (.aload_n 0, 1) := by decide +kernel
theorem dX5_takeOut_22 : decode cX5_takeOut 22 = .ok (.lload_n 1, 1) := by decide +kernel
theorem dX5_takeOut_23 : decode cX5_takeOut 23 = .ok (.invokevirtual 154, 3) := by decide +kernel
theorem dX5_takeOut_26 : decode cX5_takeOut 26 = .ok (.istore 4, 2) := by decide +kernel
theorem dX5_takeOut_28 : decode cX5_takeOut 28 = .ok (.iload 4, 2) := by decide +kernel
theorem dX5_takeOut_30 : decode cX5_takeOut 30 = .ok (.ifCond .ge 5, 3) := by decide +kernel
theorem dX5_takeOut_33 : decode cX5_takeOut 33 = .ok (.iconst 0, 1) := by decide +kernel
theorem dX5_takeOut_34 : decode cX5_takeOut 34 = .ok (.ireturn, 1) := by decide +kernel
theorem dX5_takeOut_35 : decode cX5_takeOut 35 = .ok (.iload 4, 2) := by decide +kernel
theorem dX5_takeOut_37 : decode cX5_takeOut 37 = .ok (.bipush 8, 2) := by decide +kernel
theorem dX5_takeOut_39 : decode cX5_takeOut 39 = .ok (.idiv, 1) := by decide +kernel
theorem dX5_takeOut_40 : decode cX5_takeOut 40 = .ok (.istore 5, 2) := by decide +kernel
theorem dX5_takeOut_42 : decode cX5_takeOut 42 = .ok (.aload_n 0, 1) := by decide +kernel
theorem dX5_takeOut_43 : decode cX5_takeOut 43 = .ok (.getfield 51, 3) := by decide +kernel
theorem dX5_takeOut_46 : decode cX5_takeOut 46 = .ok (.iload 5, 2) := by decide +kernel
theorem dX5_takeOut_48 : decode cX5_takeOut 48 = .ok (.dup2, 1) := by decide +kernel
theorem dX5_takeOut_49 : decode cX5_takeOut 49 = .ok (.iaload, 1) := by decide +kernel
theorem dX5_takeOut_50 : decode cX5_takeOut 50 = .ok (.iconst 1, 1) := by decide +kernel
theorem dX5_takeOut_51 : decode cX5_takeOut 51 = .ok (.isub, 1) := by decide +kernel
theorem dX5_takeOut_52 : decode cX5_takeOut 52 = .ok (.iastore, 1) := by decide +kernel
theorem dX5_takeOut_53 : decode cX5_takeOut 53 = .ok (.iload 4, 2) := by decide +kernel
theorem dX5_takeOut_55 : decode cX5_takeOut 55 = .ok (.istore 6, 2) := by decide +kernel
theorem dX5_takeOut_57 : decode cX5_takeOut 57 = .ok (.iload 6, 2) := by decide +kernel
theorem dX5_takeOut_59 : decode cX5_takeOut 59 = .ok (.bipush 8, 2) := by decide +kernel
theorem dX5_takeOut_61 : decode cX5_takeOut 61 = .ok (.iload 5, 2) := by decide +kernel
theorem dX5_takeOut_63 : decode cX5_takeOut 63 = .ok (.imul, 1) := by decide +kernel
theorem dX5_takeOut_64 : decode cX5_takeOut 64 = .ok (.aload_n 0, 1) := by decide +kernel
theorem dX5_takeOut_65 : decode cX5_takeOut 65 = .ok (.getfield 51, 3) := by decide +kernel
theorem dX5_takeOut_68 : decode cX5_takeOut 68 = .ok (.iload 5, 2) := by decide +kernel
theorem dX5_takeOut_70 : decode cX5_takeOut 70 = .ok (.iaload, 1) := by decide +kernel
theorem dX5_takeOut_71 : decode cX5_takeOut 71 = .ok (.iadd, 1) := by decide +kernel
theorem dX5_takeOut_72 : decode cX5_takeOut 72 = .ok (.if_icmp .ge 89, 3) := by decide +kernel
theorem dX5_takeOut_75 : decode cX5_takeOut 75 = .ok (.aload_n 0, 1) := by decide +kernel
theorem dX5_takeOut_76 : decode cX5_takeOut 76 = .ok (.getfield 36, 3) := by decide +kernel
theorem dX5_takeOut_79 : decode cX5_takeOut 79 = .ok (.iload 6, 2) := by decide +kernel
theorem dX5_takeOut_81 : decode cX5_takeOut 81 = .ok (.aload_n 0, 1) := by decide +kernel
theorem dX5_takeOut_82 : decode cX5_takeOut 82 = .ok (.getfield 36, 3) := by decide +kernel
theorem dX5_takeOut_85 : decode cX5_takeOut 85 = .ok (.iload 6, 2) := by decide +kernel
theorem dX5_takeOut_87 : decode cX5_takeOut 87 = .ok (.iconst 1, 1) := by decide +kernel
theorem dX5_takeOut_88 : decode cX5_takeOut 88 = .ok (.iadd, 1) := by decide +kernel
theorem dX5_takeOut_89 : decode cX5_takeOut 89 = .ok (.laload, 1) := by decide +kernel
theorem dX5_takeOut_90 : decode cX5_takeOut 90 = .ok (.lastore, 1) := by decide +kernel
theorem dX5_takeOut_91 : decode cX5_takeOut 91 = .ok (.aload_n 0, 1) := by decide +kernel
theorem dX5_takeOut_92 : decode cX5_takeOut 92 = .ok (.getfield 39, 3) := by decide +kernel
theorem dX5_takeOut_95 : decode cX5_takeOut 95 = .ok (.iload 6, 2) := by decide +kernel
theorem dX5_takeOut_97 : decode cX5_takeOut 97 = .ok (.aload_n 0, 1) := by decide +kernel
theorem dX5_takeOut_98 : decode cX5_takeOut 98 = .ok (.getfield 39, 3) := by decide +kernel
theorem dX5_takeOut_101 : decode cX5_takeOut 101 = .ok (.iload 6, 2) := by decide +kernel
theorem dX5_takeOut_103 : decode cX5_takeOut 103 = .ok (.iconst 1, 1) := by decide +kernel
theorem dX5_takeOut_104 : decode cX5_takeOut 104 = .ok (.iadd, 1) := by decide +kernel
theorem dX5_takeOut_105 : decode cX5_takeOut 105 = .ok (.iaload, 1) := by decide +kernel
theorem dX5_takeOut_106 : decode cX5_takeOut 106 = .ok (.iastore, 1) := by decide +kernel
theorem dX5_takeOut_107 : decode cX5_takeOut 107 = .ok (.aload_n 0, 1) := by decide +kernel
theorem dX5_takeOut_108 : decode cX5_takeOut 108 = .ok (.getfield 42, 3) := by decide +kernel
theorem dX5_takeOut_111 : decode cX5_takeOut 111 = .ok (.iload 6, 2) := by decide +kernel
theorem dX5_takeOut_113 : decode cX5_takeOut 113 = .ok (.aload_n 0, 1) := by decide +kernel
theorem dX5_takeOut_114 : decode cX5_takeOut 114 = .ok (.getfield 42, 3) := by decide +kernel
theorem dX5_takeOut_117 : decode cX5_takeOut 117 = .ok (.iload 6, 2) := by decide +kernel
theorem dX5_takeOut_119 : decode cX5_takeOut 119 = .ok (.iconst 1, 1) := by decide +kernel
theorem dX5_takeOut_120 : decode cX5_takeOut 120 = .ok (.iadd, 1) := by decide +kernel
theorem dX5_takeOut_121 : decode cX5_takeOut 121 = .ok (.iaload, 1) := by decide +kernel
theorem dX5_takeOut_122 : decode cX5_takeOut 122 = .ok (.iastore, 1) := by decide +kernel
theorem dX5_takeOut_123 : decode cX5_takeOut 123 = .ok (.aload_n 0, 1) := by decide +kernel
theorem dX5_takeOut_124 : decode cX5_takeOut 124 = .ok (.getfield 45, 3) := by decide +kernel
theorem dX5_takeOut_127 : decode cX5_takeOut 127 = .ok (.iload 6, 2) := by decide +kernel
theorem dX5_takeOut_129 : decode cX5_takeOut 129 = .ok (.aload_n 0, 1) := by decide +kernel
theorem dX5_takeOut_130 : decode cX5_takeOut 130 = .ok (.getfield 45, 3) := by decide +kernel
theorem dX5_takeOut_133 : decode cX5_takeOut 133 = .ok (.iload 6, 2) := by decide +kernel
theorem dX5_takeOut_135 : decode cX5_takeOut 135 = .ok (.iconst 1, 1) := by decide +kernel
theorem dX5_takeOut_136 : decode cX5_takeOut 136 = .ok (.iadd, 1) := by decide +kernel
theorem dX5_takeOut_137 : decode cX5_takeOut 137 = .ok (.iaload, 1) := by decide +kernel
theorem dX5_takeOut_138 : decode cX5_takeOut 138 = .ok (.iastore, 1) := by decide +kernel
theorem dX5_takeOut_139 : decode cX5_takeOut 139 = .ok (.aload_n 0, 1) := by decide +kernel
theorem dX5_takeOut_140 : decode cX5_takeOut 140 = .ok (.getfield 48, 3) := by decide +kernel
theorem dX5_takeOut_143 : decode cX5_takeOut 143 = .ok (.iload 6, 2) := by decide +kernel
theorem dX5_takeOut_145 : decode cX5_takeOut 145 = .ok (.aload_n 0, 1) := by decide +kernel
theorem dX5_takeOut_146 : decode cX5_takeOut 146 = .ok (.getfield 48, 3) := by decide +kernel
theorem dX5_takeOut_149 : decode cX5_takeOut 149 = .ok (.iload 6, 2) := by decide +kernel
theorem dX5_takeOut_151 : decode cX5_takeOut 151 = .ok (.iconst 1, 1) := by decide +kernel
theorem dX5_takeOut_152 : decode cX5_takeOut 152 = .ok (.iadd, 1) := by decide +kernel
theorem dX5_takeOut_153 : decode cX5_takeOut 153 = .ok (.baload, 1) := by decide +kernel
theorem dX5_takeOut_154 : decode cX5_takeOut 154 = .ok (.bastore, 1) := by decide +kernel
theorem dX5_takeOut_155 : decode cX5_takeOut 155 = .ok (.iinc 6 1, 3) := by decide +kernel
theorem dX5_takeOut_158 : decode cX5_takeOut 158 = .ok (.goto (-101), 3) := by decide +kernel
theorem dX5_takeOut_161 : decode cX5_takeOut 161 = .ok (.aload_n 0, 1) := by decide +kernel
theorem dX5_takeOut_162 : decode cX5_takeOut 162 = .ok (.getfield 72, 3) := by decide +kernel
theorem dX5_takeOut_165 : decode cX5_takeOut 165 = .ok (.iload_n 3, 1) := by decide +kernel
theorem dX5_takeOut_166 : decode cX5_takeOut 166 = .ok (.dup2, 1) := by decide +kernel
theorem dX5_takeOut_167 : decode cX5_takeOut 167 = .ok (.iaload, 1) := by decide +kernel
theorem dX5_takeOut_168 : decode cX5_takeOut 168 = .ok (.iconst 1, 1) := by decide +kernel
theorem dX5_takeOut_169 : decode cX5_takeOut 169 = .ok (.iadd, 1) := by decide +kernel
theorem dX5_takeOut_170 : decode cX5_takeOut 170 = .ok (.iastore, 1) := by decide +kernel
theorem dX5_takeOut_171 : decode cX5_takeOut 171 = .ok (.iconst 1, 1) := by decide +kernel
theorem dX5_takeOut_172 : decode cX5_takeOut 172 = .ok (.ireturn, 1) := by decide +kernel
theorem dX5_put_0 : decode cX5_put 0 = .ok (.aload_n 0, 1) := by decide +kernel
theorem dX5_put_1 : decode cX5_put 1 = .ok (.getfield 157, 3) := by decide +kernel
theorem dX5_put_4 : decode cX5_put 4 = .ok (.ifCond .eq 6, 3) := by decide +kernel
theorem dX5_put_7 : decode cX5_put 7 = .ok (.bipush (-2), 2) := by decide +kernel
theorem dX5_put_9 : decode cX5_put 9 = .ok (.ireturn, 1) := by decide +kernel
theorem dX5_put_10 : decode cX5_put 10 = .ok (.iload_n 3, 1) := by decide +kernel
theorem dX5_put_11 : decode cX5_put 11 = .ok (.iconst 1, 1) := by decide +kernel
theorem dX5_put_12 : decode cX5_put 12 = .ok (.if_icmp .lt 9, 3) := by decide +kernel
theorem dX5_put_15 : decode cX5_put 15 = .ok (.iload_n 3, 1) := by decide +kernel
theorem dX5_put_16 : decode cX5_put 16 = .ok (.bipush 12, 2) := by decide +kernel
theorem dX5_put_18 : decode cX5_put 18 = .ok (.if_icmp .le 5, 3) := by decide +kernel
theorem dX5_put_21 : decode cX5_put 21 = .ok (.iconst (-1), 1) := by decide +kernel
theorem dX5_put_22 : decode cX5_put 22 = .ok (.ireturn, 1) := by decide +kernel
theorem dX5_put_23 : decode cX5_put 23 = .ok (.aload_n 0, 1) := by decide +kernel
theorem dX5_put_24 : decode cX5_put 24 = .ok (.lload_n 1, 1) := by decide +kernel
theorem dX5_put_25 : decode cX5_put 25 = .ok (.invokevirtual 133, 3) := by decide +kernel
theorem dX5_put_28 : decode cX5_put 28 = .ok (.istore 6, 2) := by decide +kernel
theorem dX5_put_30 : decode cX5_put 30 = .ok (.iload 6, 2) := by decide +kernel
theorem dX5_put_32 : decode cX5_put 32 = .ok (.ifCond .lt 11, 3) := by decide +kernel
theorem dX5_put_35 : decode cX5_put 35 = .ok (.aload_n 0, 1) := by decide +kernel
theorem dX5_put_36 : decode cX5_put 36 = .ok (.getfield 23, 3) := by decide +kernel
theorem dX5_put_39 : decode cX5_put 39 = .ok (.iload 6, 2) := by decide +kernel
theorem dX5_put_41 : decode cX5_put 41 = .ok (.iconst 0, 1) := by decide +kernel
theorem dX5_put_42 : decode cX5_put 42 = .ok (.bastore, 1) := by decide +kernel
theorem dX5_put_43 : decode cX5_put 43 = .ok (.aload_n 0, 1) := by decide +kernel
theorem dX5_put_44 : decode cX5_put 44 = .ok (.lload_n 1, 1) := by decide +kernel
theorem dX5_put_45 : decode cX5_put 45 = .ok (.iload_n 3, 1) := by decide +kernel
theorem dX5_put_46 : decode cX5_put 46 = .ok (.iload 4, 2) := by decide +kernel
theorem dX5_put_48 : decode cX5_put 48 = .ok (.iload 5, 2) := by decide +kernel
theorem dX5_put_50 : decode cX5_put 50 = .ok (.invokevirtual 122, 3) := by decide +kernel
theorem dX5_put_53 : decode cX5_put 53 = .ok (.iconst 1, 1) := by decide +kernel
theorem dX5_put_54 : decode cX5_put 54 = .ok (.ireturn, 1) := by decide +kernel
theorem dX5_get_0 : decode cX5_get 0 = .ok (.aload_n 0, 1) := by decide +kernel
theorem dX5_get_1 : decode cX5_get 1 = .ok (.getfield 157, 3) := by decide +kernel
theorem dX5_get_4 : decode cX5_get 4 = .ok (.ifCond .eq 6, 3) := by decide +kernel
theorem dX5_get_7 : decode cX5_get 7 = .ok (.bipush (-2), 2) := by decide +kernel
theorem dX5_get_9 : decode cX5_get 9 = .ok (.ireturn, 1) := by decide +kernel
theorem dX5_get_10 : decode cX5_get 10 = .ok (.aload_n 0, 1) := by decide +kernel
theorem dX5_get_11 : decode cX5_get 11 = .ok (.lload_n 1, 1) := by decide +kernel
theorem dX5_get_12 : decode cX5_get 12 = .ok (.invokevirtual 133, 3) := by decide +kernel
theorem dX5_get_15 : decode cX5_get 15 = .ok (.istore_n 3, 1) := by decide +kernel
theorem dX5_get_16 : decode cX5_get 16 = .ok (.iload_n 3, 1) := by decide +kernel
theorem dX5_get_17 : decode cX5_get 17 = .ok (.ifCond .lt 45, 3) := by decide +kernel
theorem dX5_get_20 : decode cX5_get 20 = .ok (.aload_n 0, 1) := by decide +kernel
theorem dX5_get_21 : decode cX5_get 21 = .ok (.getfield 27, 3) := by decide +kernel
theorem dX5_get_24 : decode cX5_get 24 = .ok (.iload_n 3, 1) := by decide +kernel
theorem dX5_get_25 : decode cX5_get 25 = .ok (.iconst 1, 1) := by decide +kernel
theorem dX5_get_26 : decode cX5_get 26 = .ok (.bastore, 1) := by decide +kernel
theorem dX5_get_27 : decode cX5_get 27 = .ok (.aload_n 0, 1) := by decide +kernel
theorem dX5_get_28 : decode cX5_get 28 = .ok (.aload_n 0, 1) := by decide +kernel
theorem dX5_get_29 : decode cX5_get 29 = .ok (.getfield 13, 3) := by decide +kernel
theorem dX5_get_32 : decode cX5_get 32 = .ok (.iload_n 3, 1) := by decide +kernel
theorem dX5_get_33 : decode cX5_get 33 = .ok (.iaload, 1) := by decide +kernel
theorem dX5_get_34 : decode cX5_get 34 = .ok (.putfield 161, 3) := by decide +kernel
theorem dX5_get_37 : decode cX5_get 37 = .ok (.aload_n 0, 1) := by decide +kernel
theorem dX5_get_38 : decode cX5_get 38 = .ok (.aload_n 0, 1) := by decide +kernel
theorem dX5_get_39 : decode cX5_get 39 = .ok (.getfield 17, 3) := by decide +kernel
theorem dX5_get_42 : decode cX5_get 42 = .ok (.iload_n 3, 1) := by decide +kernel
theorem dX5_get_43 : decode cX5_get 43 = .ok (.iaload, 1) := by decide +kernel
theorem dX5_get_44 : decode cX5_get 44 = .ok (.putfield 164, 3) := by decide +kernel
theorem dX5_get_47 : decode cX5_get 47 = .ok (.aload_n 0, 1) := by decide +kernel
theorem dX5_get_48 : decode cX5_get 48 = .ok (.aload_n 0, 1) := by decide +kernel
theorem dX5_get_49 : decode cX5_get 49 = .ok (.getfield 20, 3) := by decide +kernel
theorem dX5_get_52 : decode cX5_get 52 = .ok (.iload_n 3, 1) := by decide +kernel
theorem dX5_get_53 : decode cX5_get 53 = .ok (.iaload, 1) := by decide +kernel
theorem dX5_get_54 : decode cX5_get 54 = .ok (.putfield 167, 3) := by decide +kernel
theorem dX5_get_57 : decode cX5_get 57 = .ok (.aload_n 0, 1) := by decide +kernel
theorem dX5_get_58 : decode cX5_get 58 = .ok (.getfield 161, 3) := by decide +kernel
theorem dX5_get_61 : decode cX5_get 61 = .ok (.ireturn, 1) := by decide +kernel
theorem dX5_get_62 : decode cX5_get 62 = .ok (.aload_n 0, 1) := by decide +kernel
theorem dX5_get_63 : decode cX5_get 63 = .ok (.lload_n 1, 1) := by decide +kernel
theorem dX5_get_64 : decode cX5_get 64 = .ok (.invokevirtual 150, 3) := by decide +kernel
theorem dX5_get_67 : decode cX5_get 67 = .ok (.ifCond .ne 5, 3) := by decide +kernel
theorem dX5_get_70 : decode cX5_get 70 = .ok (.iconst 0, 1) := by decide +kernel
theorem dX5_get_71 : decode cX5_get 71 = .ok (.ireturn, 1) := by decide +kernel
theorem dX5_get_72 : decode cX5_get 72 = .ok (.aload_n 0, 1) := by decide +kernel
theorem dX5_get_73 : decode cX5_get 73 = .ok (.getfield 72, 3) := by decide +kernel
theorem dX5_get_76 : decode cX5_get 76 = .ok (.bipush 11, 2) := by decide +kernel
theorem dX5_get_78 : decode cX5_get 78 = .ok (.dup2, 1) := by decide +kernel
theorem dX5_get_79 : decode cX5_get 79 = .ok (.iaload, 1) := by decide +kernel
theorem dX5_get_80 : decode cX5_get 80 = .ok (.iconst 1, 1) := by decide +kernel
theorem dX5_get_81 : decode cX5_get 81 = .ok (.iadd, 1) := by decide +kernel
theorem dX5_get_82 : decode cX5_get 82 = .ok (.iastore, 1) := by decide +kernel
theorem dX5_get_83 : decode cX5_get 83 = .ok (.aload_n 0, 1) := by decide +kernel
theorem dX5_get_84 : decode cX5_get 84 = .ok (.lload_n 1, 1) := by decide +kernel
theorem dX5_get_85 : decode cX5_get 85 = .ok (.invokevirtual 154, 3) := by decide +kernel
theorem dX5_get_88 : decode cX5_get 88 = .ok (.istore 4, 2) := by decide +kernel
theorem dX5_get_90 : decode cX5_get 90 = .ok (.iload 4, 2) := by decide +kernel
theorem dX5_get_92 : decode cX5_get 92 = .ok (.ifCond .ge 5, 3) := by decide +kernel
theorem dX5_get_95 : decode cX5_get 95 = .ok (.iconst 0, 1) := by decide +kernel
theorem dX5_get_96 : decode cX5_get 96 = .ok (.ireturn, 1) := by decide +kernel
theorem dX5_get_97 : decode cX5_get 97 = .ok (.aload_n 0, 1) := by decide +kernel
theorem dX5_get_98 : decode cX5_get 98 = .ok (.getfield 48, 3) := by decide +kernel
theorem dX5_get_101 : decode cX5_get 101 = .ok (.iload 4, 2) := by decide +kernel
theorem dX5_get_103 : decode cX5_get 103 = .ok (.iconst 1, 1) := by decide +kernel
theorem dX5_get_104 : decode cX5_get 104 = .ok (.bastore, 1) := by decide +kernel
theorem dX5_get_105 : decode cX5_get 105 = .ok (.aload_n 0, 1) := by decide +kernel
theorem dX5_get_106 : decode cX5_get 106 = .ok (.aload_n 0, 1) := by decide +kernel
theorem dX5_get_107 : decode cX5_get 107 = .ok (.getfield 39, 3) := by decide +kernel
theorem dX5_get_110 : decode cX5_get 110 = .ok (.iload 4, 2) := by decide +kernel
theorem dX5_get_112 : decode cX5_get 112 = .ok (.iaload, 1) := by decide +kernel
theorem dX5_get_113 : decode cX5_get 113 = .ok (.putfield 161, 3) := by decide +kernel
theorem dX5_get_116 : decode cX5_get 116 = .ok (.aload_n 0, 1) := by decide +kernel
theorem dX5_get_117 : decode cX5_get 117 = .ok (.aload_n 0, 1) := by decide +kernel
theorem dX5_get_118 : decode cX5_get 118 = .ok (.getfield 42, 3) := by decide +kernel
theorem dX5_get_121 : decode cX5_get 121 = .ok (.iload 4, 2) := by decide +kernel
theorem dX5_get_123 : decode cX5_get 123 = .ok (.iaload, 1) := by decide +kernel
theorem dX5_get_124 : decode cX5_get 124 = .ok (.putfield 164, 3) := by decide +kernel
theorem dX5_get_127 : decode cX5_get 127 = .ok (.aload_n 0, 1) := by decide +kernel
theorem dX5_get_128 : decode cX5_get 128 = .ok (.aload_n 0, 1) := by decide +kernel
theorem dX5_get_129 : decode cX5_get 129 = .ok (.getfield 45, 3) := by decide +kernel
theorem dX5_get_132 : decode cX5_get 132 = .ok (.iload 4, 2) := by decide +kernel
theorem dX5_get_134 : decode cX5_get 134 = .ok (.iaload, 1) := by decide +kernel
theorem dX5_get_135 : decode cX5_get 135 = .ok (.putfield 167, 3) := by decide +kernel
theorem dX5_get_138 : decode cX5_get 138 = .ok (.aload_n 0, 1) := by decide +kernel
theorem dX5_get_139 : decode cX5_get 139 = .ok (.getfield 161, 3) := by decide +kernel
theorem dX5_get_142 : decode cX5_get 142 = .ok (.ireturn, 1) := by decide +kernel
theorem dX5_got_0 : decode cX5_got 0 = .ok (.iload_n 1, 1) := by decide +kernel
theorem dX5_got_1 : decode cX5_got 1 = .ok (.ifCond .lt 25, 3) := by decide +kernel
theorem dX5_got_4 : decode cX5_got 4 = .ok (.iload_n 1, 1) := by decide +kernel
theorem dX5_got_5 : decode cX5_got 5 = .ok (.aload_n 0, 1) := by decide +kernel
theorem dX5_got_6 : decode cX5_got 6 = .ok (.getfield 161, 3) := by decide +kernel
theorem dX5_got_9 : decode cX5_got 9 = .ok (.if_icmp .ge 17, 3) := by decide +kernel
theorem dX5_got_12 : decode cX5_got 12 = .ok (.aload_n 0, 1) := by decide +kernel
theorem dX5_got_13 : decode cX5_got 13 = .ok (.getfield 164, 3) := by decide +kernel
theorem dX5_got_16 : decode cX5_got 16 = .ok (.iload_n 1, 1) := by decide +kernel
theorem dX5_got_17 : decode cX5_got 17 = .ok (.aload_n 0, 1) := by decide +kernel
theorem dX5_got_18 : decode cX5_got 18 = .ok (.getfield 167, 3) := by decide +kernel
theorem dX5_got_21 : decode cX5_got 21 = .ok (.imul, 1) := by decide +kernel
theorem dX5_got_22 : decode cX5_got 22 = .ok (.iadd, 1) := by decide +kernel
theorem dX5_got_23 : decode cX5_got 23 = .ok (.goto 4, 3) := by decide +kernel
theorem dX5_got_26 : decode cX5_got 26 = .ok (.iconst 0, 1) := by decide +kernel
theorem dX5_got_27 : decode cX5_got 27 = .ok (.ireturn, 1) := by decide +kernel
theorem dX5_remove_0 : decode cX5_remove 0 = .ok (.aload_n 0, 1) := by decide +kernel
theorem dX5_remove_1 : decode cX5_remove 1 = .ok (.getfield 157, 3) := by decide +kernel
theorem dX5_remove_4 : decode cX5_remove 4 = .ok (.ifCond .eq 6, 3) := by decide +kernel
theorem dX5_remove_7 : decode cX5_remove 7 = .ok (.bipush (-2), 2) := by decide +kernel
theorem dX5_remove_9 : decode cX5_remove 9 = .ok (.ireturn, 1) := by decide +kernel
theorem dX5_remove_10 : decode cX5_remove 10 = .ok (.aload_n 0, 1) := by decide +kernel
theorem dX5_remove_11 : decode cX5_remove 11 = .ok (.lload_n 1, 1) := by decide +kernel
theorem dX5_remove_12 : decode cX5_remove 12 = .ok (.invokevirtual 133, 3) := by decide +kernel
theorem dX5_remove_15 : decode cX5_remove 15 = .ok (.istore_n 3, 1) := by decide +kernel
theorem dX5_remove_16 : decode cX5_remove 16 = .ok (.iload_n 3, 1) := by decide +kernel
theorem dX5_remove_17 : decode cX5_remove 17 = .ok (.ifCond .lt 10, 3) := by decide +kernel
theorem dX5_remove_20 : decode cX5_remove 20 = .ok (.aload_n 0, 1) := by decide +kernel
theorem dX5_remove_21 : decode cX5_remove 21 = .ok (.getfield 23, 3) := by decide +kernel
theorem dX5_remove_24 : decode cX5_remove 24 = .ok (.iload_n 3, 1) := by decide +kernel
theorem dX5_remove_25 : decode cX5_remove 25 = .ok (.iconst 0, 1) := by decide +kernel
theorem dX5_remove_26 : decode cX5_remove 26 = .ok (.bastore, 1) := by decide +kernel
theorem dX5_remove_27 : decode cX5_remove 27 = .ok (.aload_n 0, 1) := by decide +kernel
theorem dX5_remove_28 : decode cX5_remove 28 = .ok (.lload_n 1, 1) := by decide +kernel
theorem dX5_remove_29 : decode cX5_remove 29 = .ok (.iconst 4, 1) := by decide +kernel
theorem dX5_remove_30 : decode cX5_remove 30 = .ok (.invokevirtual 126, 3) := by decide +kernel
theorem dX5_remove_33 : decode cX5_remove 33 = .ok (.istore 4, 2) := by decide +kernel
theorem dX5_remove_35 : decode cX5_remove 35 = .ok (.iload_n 3, 1) := by decide +kernel
theorem dX5_remove_36 : decode cX5_remove 36 = .ok (.ifCond .ge 8, 3) := by decide +kernel
theorem dX5_remove_39 : decode cX5_remove 39 = .ok (.iload 4, 2) := by decide +kernel
theorem dX5_remove_41 : decode cX5_remove 41 = .ok (.ifCond .eq 7, 3) := by decide +kernel
theorem dX5_remove_44 : decode cX5_remove 44 = .ok (.iconst 1, 1) := by decide +kernel
theorem dX5_remove_45 : decode cX5_remove 45 = .ok (.goto 4, 3) := by decide +kernel
theorem dX5_remove_48 : decode cX5_remove 48 = .ok (.iconst 0, 1) := by decide +kernel
theorem dX5_remove_49 : decode cX5_remove 49 = .ok (.ireturn, 1) := by decide +kernel
theorem dX5_where_0 : decode cX5_where 0 = .ok (.aload_n 0, 1) := by decide +kernel
theorem dX5_where_1 : decode cX5_where 1 = .ok (.getfield 157, 3) := by decide +kernel
theorem dX5_where_4 : decode cX5_where 4 = .ok (.ifCond .eq 8, 3) := by decide +kernel
theorem dX5_where_7 : decode cX5_where 7 = .ok (.bipush (-2), 2) := by decide +kernel
theorem dX5_where_9 : decode cX5_where 9 = .ok (.goto 28, 3) := by decide +kernel
theorem dX5_where_12 : decode cX5_where 12 = .ok (.aload_n 0, 1) := by decide +kernel
theorem dX5_where_13 : decode cX5_where 13 = .ok (.lload_n 1, 1) := by decide +kernel
theorem dX5_where_14 : decode cX5_where 14 = .ok (.invokevirtual 133, 3) := by decide +kernel
theorem dX5_where_17 : decode cX5_where 17 = .ok (.ifCond .lt 7, 3) := by decide +kernel
theorem dX5_where_20 : decode cX5_where 20 = .ok (.iconst 1, 1) := by decide +kernel
theorem dX5_where_21 : decode cX5_where 21 = .ok (.goto 16, 3) := by decide +kernel
theorem dX5_where_24 : decode cX5_where 24 = .ok (.aload_n 0, 1) := by decide +kernel
theorem dX5_where_25 : decode cX5_where 25 = .ok (.lload_n 1, 1) := by decide +kernel
theorem dX5_where_26 : decode cX5_where 26 = .ok (.invokevirtual 154, 3) := by decide +kernel
theorem dX5_where_29 : decode cX5_where 29 = .ok (.ifCond .lt 7, 3) := by decide +kernel
theorem dX5_where_32 : decode cX5_where 32 = .ok (.iconst 2, 1) := by decide +kernel
theorem dX5_where_33 : decode cX5_where 33 = .ok (.goto 4, 3) := by decide +kernel
theorem dX5_where_36 : decode cX5_where 36 = .ok (.iconst 0, 1) := by decide +kernel
theorem dX5_where_37 : decode cX5_where 37 = .ok (.ireturn, 1) := by decide +kernel
theorem dX5_mark_0 : decode cX5_mark 0 = .ok (.aload_n 0, 1) := by decide +kernel
theorem dX5_mark_1 : decode cX5_mark 1 = .ok (.getfield 157, 3) := by decide +kernel
theorem dX5_mark_4 : decode cX5_mark 4 = .ok (.ifCond .eq 6, 3) := by decide +kernel
theorem dX5_mark_7 : decode cX5_mark 7 = .ok (.bipush (-2), 2) := by decide +kernel
theorem dX5_mark_9 : decode cX5_mark 9 = .ok (.ireturn, 1) := by decide +kernel
theorem dX5_mark_10 : decode cX5_mark 10 = .ok (.aload_n 0, 1) := by decide +kernel
theorem dX5_mark_11 : decode cX5_mark 11 = .ok (.lload_n 1, 1) := by decide +kernel
theorem dX5_mark_12 : decode cX5_mark 12 = .ok (.invokevirtual 133, 3) := by decide +kernel
theorem dX5_mark_15 : decode cX5_mark 15 = .ok (.istore_n 3, 1) := by decide +kernel
theorem dX5_mark_16 : decode cX5_mark 16 = .ok (.iload_n 3, 1) := by decide +kernel
theorem dX5_mark_17 : decode cX5_mark 17 = .ok (.ifCond .lt 18, 3) := by decide +kernel
theorem dX5_mark_20 : decode cX5_mark 20 = .ok (.aload_n 0, 1) := by decide +kernel
theorem dX5_mark_21 : decode cX5_mark 21 = .ok (.getfield 27, 3) := by decide +kernel
theorem dX5_mark_24 : decode cX5_mark 24 = .ok (.iload_n 3, 1) := by decide +kernel
theorem dX5_mark_25 : decode cX5_mark 25 = .ok (.baload, 1) := by decide +kernel
theorem dX5_mark_26 : decode cX5_mark 26 = .ok (.ifCond .eq 7, 3) := by decide +kernel
theorem dX5_mark_29 : decode cX5_mark 29 = .ok (.iconst 1, 1) := by decide +kernel
theorem dX5_mark_30 : decode cX5_mark 30 = .ok (.goto 4, 3) := by decide +kernel
theorem dX5_mark_33 : decode cX5_mark 33 = .ok (.iconst 0, 1) := by decide +kernel
theorem dX5_mark_34 : decode cX5_mark 34 = .ok (.ireturn, 1) := by decide +kernel
theorem dX5_mark_35 : decode cX5_mark 35 = .ok (.aload_n 0, 1) := by decide +kernel
theorem dX5_mark_36 : decode cX5_mark 36 = .ok (.lload_n 1, 1) := by decide +kernel
theorem dX5_mark_37 : decode cX5_mark 37 = .ok (.invokevirtual 154, 3) := by decide +kernel
theorem dX5_mark_40 : decode cX5_mark 40 = .ok (.istore 4, 2) := by decide +kernel
theorem dX5_mark_42 : decode cX5_mark 42 = .ok (.iload 4, 2) := by decide +kernel
theorem dX5_mark_44 : decode cX5_mark 44 = .ok (.ifCond .lt 17, 3) := by decide +kernel
theorem dX5_mark_47 : decode cX5_mark 47 = .ok (.aload_n 0, 1) := by decide +kernel
theorem dX5_mark_48 : decode cX5_mark 48 = .ok (.getfield 48, 3) := by decide +kernel
theorem dX5_mark_51 : decode cX5_mark 51 = .ok (.iload 4, 2) := by decide +kernel
theorem dX5_mark_53 : decode cX5_mark 53 = .ok (.baload, 1) := by decide +kernel
theorem dX5_mark_54 : decode cX5_mark 54 = .ok (.ifCond .eq 7, 3) := by decide +kernel
theorem dX5_mark_57 : decode cX5_mark 57 = .ok (.iconst 1, 1) := by decide +kernel
theorem dX5_mark_58 : decode cX5_mark 58 = .ok (.goto 4, 3) := by decide +kernel
theorem dX5_mark_61 : decode cX5_mark 61 = .ok (.iconst 0, 1) := by decide +kernel
theorem dX5_mark_62 : decode cX5_mark 62 = .ok (.ireturn, 1) := by decide +kernel
theorem dX5_isSet_0 : decode cX5_isSet 0 = .ok (.iload_n 0, 1) := by decide +kernel
theorem dX5_isSet_1 : decode cX5_isSet 1 = .ok (.ifCond .lt 13, 3) := by decide +kernel
theorem dX5_isSet_4 : decode cX5_isSet 4 = .ok (.iload_n 0, 1) := by decide +kernel
theorem dX5_isSet_5 : decode cX5_isSet 5 = .ok (.bipush 64, 2) := by decide +kernel
theorem dX5_isSet_7 : decode cX5_isSet 7 = .ok (.if_icmp .ge 7, 3) := by decide +kernel
theorem dX5_isSet_10 : decode cX5_isSet 10 = .ok (.iconst 1, 1) := by decide +kernel
theorem dX5_isSet_11 : decode cX5_isSet 11 = .ok (.goto 4, 3) := by decide +kernel
theorem dX5_isSet_14 : decode cX5_isSet 14 = .ok (.iconst 0, 1) := by decide +kernel
theorem dX5_isSet_15 : decode cX5_isSet 15 = .ok (.ireturn, 1) := by decide +kernel
theorem dX5_stands_0 : decode cX5_stands 0 = .ok (.aload_n 0, 1) := by decide +kernel
theorem dX5_stands_1 : decode cX5_stands 1 = .ok (.getfield 157, 3) := by decide +kernel
theorem dX5_stands_4 : decode cX5_stands 4 = .ok (.ifCond .eq 8, 3) := by decide +kernel
theorem dX5_stands_7 : decode cX5_stands 7 = .ok (.bipush (-2), 2) := by decide +kernel
theorem dX5_stands_9 : decode cX5_stands 9 = .ok (.goto 20, 3) := by decide +kernel
theorem dX5_stands_12 : decode cX5_stands 12 = .ok (.iload_n 1, 1) := by decide +kernel
theorem dX5_stands_13 : decode cX5_stands 13 = .ok (.invokestatic 170, 3) := by decide +kernel
theorem dX5_stands_16 : decode cX5_stands 16 = .ok (.ifCond .eq 12, 3) := by decide +kernel
theorem dX5_stands_19 : decode cX5_stands 19 = .ok (.aload_n 0, 1) := by decide +kernel
theorem dX5_stands_20 : decode cX5_stands 20 = .ok (.getfield 51, 3) := by decide +kernel
theorem dX5_stands_23 : decode cX5_stands 23 = .ok (.iload_n 1, 1) := by decide +kernel
theorem dX5_stands_24 : decode cX5_stands 24 = .ok (.iaload, 1) := by decide +kernel
theorem dX5_stands_25 : decode cX5_stands 25 = .ok (.goto 4, 3) := by decide +kernel
theorem dX5_stands_28 : decode cX5_stands 28 = .ok (.iconst (-1), 1) := by decide +kernel
theorem dX5_stands_29 : decode cX5_stands 29 = .ok (.ireturn, 1) := by decide +kernel
theorem dX5_key_0 : decode cX5_key 0 = .ok (.aload_n 0, 1) := by decide +kernel
theorem dX5_key_1 : decode cX5_key 1 = .ok (.getfield 157, 3) := by decide +kernel
theorem dX5_key_4 : decode cX5_key 4 = .ok (.ifCond .ne 38, 3) := by decide +kernel
theorem dX5_key_7 : decode cX5_key 7 = .ok (.iload_n 1, 1) := by decide +kernel
theorem dX5_key_8 : decode cX5_key 8 = .ok (.invokestatic 170, 3) := by decide +kernel
theorem dX5_key_11 : decode cX5_key 11 = .ok (.ifCond .eq 31, 3) := by decide +kernel
theorem dX5_key_14 : decode cX5_key 14 = .ok (.iload_n 2, 1) := by decide +kernel
theorem dX5_key_15 : decode cX5_key 15 = .ok (.ifCond .lt 27, 3) := by decide +kernel
theorem dX5_key_18 : decode cX5_key 18 = .ok (.iload_n 2, 1) := by decide +kernel
theorem dX5_key_19 : decode cX5_key 19 = .ok (.aload_n 0, 1) := by decide +kernel
theorem dX5_key_20 : decode cX5_key 20 = .ok (.getfield 51, 3) := by decide +kernel
theorem dX5_key_23 : decode cX5_key 23 = .ok (.iload_n 1, 1) := by decide +kernel
theorem dX5_key_24 : decode cX5_key 24 = .ok (.iaload, 1) := by decide +kernel
theorem dX5_key_25 : decode cX5_key 25 = .ok (.if_icmp .ge 17, 3) := by decide +kernel
theorem dX5_key_28 : decode cX5_key 28 = .ok (.aload_n 0, 1) := by decide +kernel
theorem dX5_key_29 : decode cX5_key 29 = .ok (.getfield 36, 3) := by decide +kernel
theorem dX5_key_32 : decode cX5_key 32 = .ok (.bipush 8, 2) := by decide +kernel
theorem dX5_key_34 : decode cX5_key 34 = .ok (.iload_n 1, 1) := by decide +kernel
theorem dX5_key_35 : decode cX5_key 35 = .ok (.imul, 1) := by decide +kernel
theorem dX5_key_36 : decode cX5_key 36 = .ok (.iload_n 2, 1) := by decide +kernel
theorem dX5_key_37 : decode cX5_key 37 = .ok (.iadd, 1) := by decide +kernel
theorem dX5_key_38 : decode cX5_key 38 = .ok (.laload, 1) := by decide +kernel
theorem dX5_key_39 : decode cX5_key 39 = .ok (.goto 4, 3) := by decide +kernel
theorem dX5_key_42 : decode cX5_key 42 = .ok (.lconst 0, 1) := by decide +kernel
theorem dX5_key_43 : decode cX5_key 43 = .ok (.lreturn, 1) := by decide +kernel
theorem dX5_filter_0 : decode cX5_filter 0 = .ok (.aload_n 0, 1) := by decide +kernel
theorem dX5_filter_1 : decode cX5_filter 1 = .ok (.getfield 157, 3) := by decide +kernel
theorem dX5_filter_4 : decode cX5_filter 4 = .ok (.ifCond .ne 18, 3) := by decide +kernel
theorem dX5_filter_7 : decode cX5_filter 7 = .ok (.iload_n 1, 1) := by decide +kernel
theorem dX5_filter_8 : decode cX5_filter 8 = .ok (.invokestatic 170, 3) := by decide +kernel
theorem dX5_filter_11 : decode cX5_filter 11 = .ok (.ifCond .eq 11, 3) := by decide +kernel
theorem dX5_filter_14 : decode cX5_filter 14 = .ok (.aload_n 0, 1) := by decide +kernel
theorem dX5_filter_15 : decode cX5_filter 15 = .ok (.iload_n 1, 1) := by decide +kernel
theorem dX5_filter_16 : decode cX5_filter 16 = .ok (.invokevirtual 92, 3) := by decide +kernel
theorem dX5_filter_19 : decode cX5_filter 19 = .ok (.goto 4, 3) := by decide +kernel
theorem dX5_filter_22 : decode cX5_filter 22 = .ok (.lconst 0, 1) := by decide +kernel
theorem dX5_filter_23 : decode cX5_filter 23 = .ok (.lreturn, 1) := by decide +kernel
theorem dX5_alive_0 : decode cX5_alive 0 = .ok (.aload_n 0, 1) := by decide +kernel
theorem dX5_alive_1 : decode cX5_alive 1 = .ok (.getfield 157, 3) := by decide +kernel
theorem dX5_alive_4 : decode cX5_alive 4 = .ok (.ifCond .eq 6, 3) := by decide +kernel
theorem dX5_alive_7 : decode cX5_alive 7 = .ok (.bipush (-2), 2) := by decide +kernel
theorem dX5_alive_9 : decode cX5_alive 9 = .ok (.ireturn, 1) := by decide +kernel
theorem dX5_alive_10 : decode cX5_alive 10 = .ok (.iload_n 1, 1) := by decide +kernel
theorem dX5_alive_11 : decode cX5_alive 11 = .ok (.ifCond .lt 9, 3) := by decide +kernel
theorem dX5_alive_14 : decode cX5_alive 14 = .ok (.iload_n 1, 1) := by decide +kernel
theorem dX5_alive_15 : decode cX5_alive 15 = .ok (.bipush 8, 2) := by decide +kernel
theorem dX5_alive_17 : decode cX5_alive 17 = .ok (.if_icmp .le 5, 3) := by decide +kernel
theorem dX5_alive_20 : decode cX5_alive 20 = .ok (.iconst (-1), 1) := by decide +kernel
theorem dX5_alive_21 : decode cX5_alive 21 = .ok (.ireturn, 1) := by decide +kernel
theorem dX5_alive_22 : decode cX5_alive 22 = .ok (.iconst 0, 1) := by decide +kernel
theorem dX5_alive_23 : decode cX5_alive 23 = .ok (.istore_n 2, 1) := by decide +kernel
theorem dX5_alive_24 : decode cX5_alive 24 = .ok (.iconst 0, 1) := by decide +kernel
theorem dX5_alive_25 : decode cX5_alive 25 = .ok (.istore_n 3, 1) := by decide +kernel
theorem dX5_alive_26 : decode cX5_alive 26 = .ok (.iload_n 3, 1) := by decide +kernel
theorem dX5_alive_27 : decode cX5_alive 27 = .ok (.aload_n 0, 1) := by decide +kernel
theorem dX5_alive_28 : decode cX5_alive 28 = .ok (.getfield 96, 3) := by decide +kernel
theorem dX5_alive_31 : decode cX5_alive 31 = .ok (.if_icmp .ge 36, 3) := by decide +kernel
theorem dX5_alive_34 : decode cX5_alive 34 = .ok (.iload_n 2, 1) := by decide +kernel
theorem dX5_alive_35 : decode cX5_alive 35 = .ok (.aload_n 0, 1) := by decide +kernel
theorem dX5_alive_36 : decode cX5_alive 36 = .ok (.getfield 23, 3) := by decide +kernel
theorem dX5_alive_39 : decode cX5_alive 39 = .ok (.iload_n 3, 1) := by decide +kernel
theorem dX5_alive_40 : decode cX5_alive 40 = .ok (.baload, 1) := by decide +kernel
theorem dX5_alive_41 : decode cX5_alive 41 = .ok (.ifCond .eq 17, 3) := by decide +kernel
theorem dX5_alive_44 : decode cX5_alive 44 = .ok (.aload_n 0, 1) := by decide +kernel
theorem dX5_alive_45 : decode cX5_alive 45 = .ok (.getfield 30, 3) := by decide +kernel
theorem dX5_alive_48 : decode cX5_alive 48 = .ok (.iload_n 3, 1) := by decide +kernel
theorem dX5_alive_49 : decode cX5_alive 49 = .ok (.iaload, 1) := by decide +kernel
theorem dX5_alive_50 : decode cX5_alive 50 = .ok (.iload_n 1, 1) := by decide +kernel
theorem dX5_alive_51 : decode cX5_alive 51 = .ok (.if_icmp .ne 7, 3) := by decide +kernel
theorem dX5_alive_54 : decode cX5_alive 54 = .ok (.iconst 1, 1) := by decide +kernel
theorem dX5_alive_55 : decode cX5_alive 55 = .ok (.goto 4, 3) := by decide +kernel
theorem dX5_alive_58 : decode cX5_alive 58 = .ok (.iconst 0, 1) := by decide +kernel
theorem dX5_alive_59 : decode cX5_alive 59 = .ok (.iadd, 1) := by decide +kernel
theorem dX5_alive_60 : decode cX5_alive 60 = .ok (.istore_n 2, 1) := by decide +kernel
theorem dX5_alive_61 : decode cX5_alive 61 = .ok (.iinc 3 1, 3) := by decide +kernel
theorem dX5_alive_64 : decode cX5_alive 64 = .ok (.goto (-38), 3) := by decide +kernel
theorem dX5_alive_67 : decode cX5_alive 67 = .ok (.iload_n 2, 1) := by decide +kernel
theorem dX5_alive_68 : decode cX5_alive 68 = .ok (.ireturn, 1) := by decide +kernel
theorem dX5_aliveInLog_0 : decode cX5_aliveInLog 0 = .ok (.iconst 0, 1) := by decide +kernel
theorem dX5_aliveInLog_1 : decode cX5_aliveInLog 1 = .ok (.istore_n 1, 1) := by decide +kernel
theorem dX5_aliveInLog_2 : decode cX5_aliveInLog 2 = .ok (.iconst 0, 1) := by decide +kernel
theorem dX5_aliveInLog_3 : decode cX5_aliveInLog 3 = .ok (.istore_n 2, 1) := by decide +kernel
theorem dX5_aliveInLog_4 : decode cX5_aliveInLog 4 = .ok (.iload_n 2, 1) := by decide +kernel
theorem dX5_aliveInLog_5 : decode cX5_aliveInLog 5 = .ok (.aload_n 0, 1) := by decide +kernel
theorem dX5_aliveInLog_6 : decode cX5_aliveInLog 6 = .ok (.getfield 96, 3) := by decide +kernel
theorem dX5_aliveInLog_9 : decode cX5_aliveInLog 9 = .ok (.if_icmp .ge 26, 3) := by decide +kernel
theorem dX5_aliveInLog_12 : decode cX5_aliveInLog 12 = .ok (.iload_n 1, 1) := by decide +kernel
theorem dX5_aliveInLog_13 : decode cX5_aliveInLog 13 = .ok (.aload_n 0, 1) := by decide +kernel
theorem dX5_aliveInLog_14 : decode cX5_aliveInLog 14 = .ok (.getfield 23, 3) := by decide +kernel
theorem dX5_aliveInLog_17 : decode cX5_aliveInLog 17 = .ok (.iload_n 2, 1) := by decide +kernel
theorem dX5_aliveInLog_18 : decode cX5_aliveInLog 18 = .ok (.baload, 1) := by decide +kernel
theorem dX5_aliveInLog_19 : decode cX5_aliveInLog 19 = .ok (.ifCond .eq 7, 3) := by decide +kernel
theorem dX5_aliveInLog_22 : decode cX5_aliveInLog 22 = .ok (.iconst 1, 1) := by decide +kernel
theorem dX5_aliveInLog_23 : decode cX5_aliveInLog 23 = .ok (.goto 4, 3) := by decide +kernel
theorem dX5_aliveInLog_26 : decode cX5_aliveInLog 26 = .ok (.iconst 0, 1) := by decide +kernel
theorem dX5_aliveInLog_27 : decode cX5_aliveInLog 27 = .ok (.iadd, 1) := by decide +kernel
theorem dX5_aliveInLog_28 : decode cX5_aliveInLog 28 = .ok (.istore_n 1, 1) := by decide +kernel
theorem dX5_aliveInLog_29 : decode cX5_aliveInLog 29 = .ok (.iinc 2 1, 3) := by decide +kernel
theorem dX5_aliveInLog_32 : decode cX5_aliveInLog 32 = .ok (.goto (-28), 3) := by decide +kernel
theorem dX5_aliveInLog_35 : decode cX5_aliveInLog 35 = .ok (.iload_n 1, 1) := by decide +kernel
theorem dX5_aliveInLog_36 : decode cX5_aliveInLog 36 = .ok (.ireturn, 1) := by decide +kernel
theorem dX5_inPages_0 : decode cX5_inPages 0 = .ok (.iconst 0, 1) := by decide +kernel
theorem dX5_inPages_1 : decode cX5_inPages 1 = .ok (.istore_n 1, 1) := by decide +kernel
theorem dX5_inPages_2 : decode cX5_inPages 2 = .ok (.iconst 0, 1) := by decide +kernel
theorem dX5_inPages_3 : decode cX5_inPages 3 = .ok (.istore_n 2, 1) := by decide +kernel
theorem dX5_inPages_4 : decode cX5_inPages 4 = .ok (.iload_n 2, 1) := by decide +kernel
theorem dX5_inPages_5 : decode cX5_inPages 5 = .ok (.bipush 64, 2) := by decide +kernel
theorem dX5_inPages_7 : decode cX5_inPages 7 = .ok (.if_icmp .ge 18, 3) := by decide +kernel
theorem dX5_inPages_10 : decode cX5_inPages 10 = .ok (.iload_n 1, 1) := by decide +kernel
theorem dX5_inPages_11 : decode cX5_inPages 11 = .ok (.aload_n 0, 1) := by decide +kernel
theorem dX5_inPages_12 : decode cX5_inPages 12 = .ok (.getfield 51, 3) := by decide +kernel
theorem dX5_inPages_15 : decode cX5_inPages 15 = .ok (.iload_n 2, 1) := by decide +kernel
theorem dX5_inPages_16 : decode cX5_inPages 16 = .ok (.iaload, 1) := by decide +kernel
theorem dX5_inPages_17 : decode cX5_inPages 17 = .ok (.iadd, 1) := by decide +kernel
theorem dX5_inPages_18 : decode cX5_inPages 18 = .ok (.istore_n 1, 1) := by decide +kernel
theorem dX5_inPages_19 : decode cX5_inPages 19 = .ok (.iinc 2 1, 3) := by decide +kernel
theorem dX5_inPages_22 : decode cX5_inPages 22 = .ok (.goto (-18), 3) := by decide +kernel
theorem dX5_inPages_25 : decode cX5_inPages 25 = .ok (.iload_n 1, 1) := by decide +kernel
theorem dX5_inPages_26 : decode cX5_inPages 26 = .ok (.ireturn, 1) := by decide +kernel
theorem dX5_count_0 : decode cX5_count 0 = .ok (.iload_n 1, 1) := by decide +kernel
theorem dX5_count_1 : decode cX5_count 1 = .ok (.ifCond .lt 16, 3) := by decide +kernel
theorem dX5_count_4 : decode cX5_count 4 = .ok (.iload_n 1, 1) := by decide +kernel
theorem dX5_count_5 : decode cX5_count 5 = .ok (.bipush 12, 2) := by decide +kernel
theorem dX5_count_7 : decode cX5_count 7 = .ok (.if_icmp .ge 10, 3) := by decide +kernel
theorem dX5_count_10 : decode cX5_count 10 = .ok (.aload_n 0, 1) := by decide +kernel
theorem dX5_count_11 : decode cX5_count 11 = .ok (.getfield 72, 3) := by decide +kernel
theorem dX5_count_14 : decode cX5_count 14 = .ok (.iload_n 1, 1) := by decide +kernel
theorem dX5_count_15 : decode cX5_count 15 = .ok (.iaload, 1) := by decide +kernel
theorem dX5_count_16 : decode cX5_count 16 = .ok (.ireturn, 1) := by decide +kernel
theorem dX5_count_17 : decode cX5_count 17 = .ok (.iload_n 1, 1) := by decide +kernel
theorem dX5_count_18 : decode cX5_count 18 = .ok (.tableswitch 81 12 17 #[38, 43, 48, 53, 58, 68], 38) := by decide +kernel
theorem dX5_count_56 : decode cX5_count 56 = .ok (.aload_n 0, 1) := by decide +kernel
theorem dX5_count_57 : decode cX5_count 57 = .ok (.invokevirtual 174, 3) := by decide +kernel
theorem dX5_count_60 : decode cX5_count 60 = .ok (.ireturn, 1) := by decide +kernel
theorem dX5_count_61 : decode cX5_count 61 = .ok (.aload_n 0, 1) := by decide +kernel
theorem dX5_count_62 : decode cX5_count 62 = .ok (.invokevirtual 177, 3) := by decide +kernel
theorem dX5_count_65 : decode cX5_count 65 = .ok (.ireturn, 1) := by decide +kernel
theorem dX5_count_66 : decode cX5_count 66 = .ok (.aload_n 0, 1) := by decide +kernel
theorem dX5_count_67 : decode cX5_count 67 = .ok (.getfield 100, 3) := by decide +kernel
theorem dX5_count_70 : decode cX5_count 70 = .ok (.ireturn, 1) := by decide +kernel
theorem dX5_count_71 : decode cX5_count 71 = .ok (.aload_n 0, 1) := by decide +kernel
theorem dX5_count_72 : decode cX5_count 72 = .ok (.getfield 106, 3) := by decide +kernel
theorem dX5_count_75 : decode cX5_count 75 = .ok (.ireturn, 1) := by decide +kernel
theorem dX5_count_76 : decode cX5_count 76 = .ok (.aload_n 0, 1) := by decide +kernel
theorem dX5_count_77 : decode cX5_count 77 = .ok (.getfield 33, 3) := by decide +kernel
theorem dX5_count_80 : decode cX5_count 80 = .ok (.aload_n 0, 1) := by decide +kernel
theorem dX5_count_81 : decode cX5_count 81 = .ok (.getfield 106, 3) := by decide +kernel
theorem dX5_count_84 : decode cX5_count 84 = .ok (.iaload, 1) := by decide +kernel
theorem dX5_count_85 : decode cX5_count 85 = .ok (.ireturn, 1) := by decide +kernel
theorem dX5_count_86 : decode cX5_count 86 = .ok (.aload_n 0, 1) := by decide +kernel
theorem dX5_count_87 : decode cX5_count 87 = .ok (.getfield 157, 3) := by decide +kernel
theorem dX5_count_90 : decode cX5_count 90 = .ok (.ifCond .eq 7, 3) := by decide +kernel
theorem dX5_count_93 : decode cX5_count 93 = .ok (.iconst 1, 1) := by decide +kernel
theorem dX5_count_94 : decode cX5_count 94 = .ok (.goto 4, 3) := by decide +kernel
theorem dX5_count_97 : decode cX5_count 97 = .ok (.iconst 0, 1) := by decide +kernel
theorem dX5_count_98 : decode cX5_count 98 = .ok (.ireturn, 1) := by decide +kernel
theorem dX5_count_99 : decode cX5_count 99 = .ok (.iconst (-1), 1) := by decide +kernel
theorem dX5_count_100 : decode cX5_count 100 = .ok (.ireturn, 1) := by decide +kernel
theorem dX5_close_0 : decode cX5_close 0 = .ok (.aload_n 0, 1) := by decide +kernel
theorem dX5_close_1 : decode cX5_close 1 = .ok (.getfield 157, 3) := by decide +kernel
theorem dX5_close_4 : decode cX5_close 4 = .ok (.ifCond .eq 6, 3) := by decide +kernel
theorem dX5_close_7 : decode cX5_close 7 = .ok (.bipush (-2), 2) := by decide +kernel
theorem dX5_close_9 : decode cX5_close 9 = .ok (.ireturn, 1) := by decide +kernel
theorem dX5_close_10 : decode cX5_close 10 = .ok (.aload_n 0, 1) := by decide +kernel
theorem dX5_close_11 : decode cX5_close 11 = .ok (.iconst 1, 1) := by decide +kernel
theorem dX5_close_12 : decode cX5_close 12 = .ok (.putfield 157, 3) := by decide +kernel
theorem dX5_close_15 : decode cX5_close 15 = .ok (.iconst 1, 1) := by decide +kernel
theorem dX5_close_16 : decode cX5_close 16 = .ok (.ireturn, 1) := by decide +kernel
theorem dX5_crash_0 : decode cX5_crash 0 = .ok (.aload_n 0, 1) := by decide +kernel
theorem dX5_crash_1 : decode cX5_crash 1 = .ok (.invokevirtual 174, 3) := by decide +kernel
theorem dX5_crash_4 : decode cX5_crash 4 = .ok (.istore_n 1, 1) := by decide +kernel
theorem dX5_crash_5 : decode cX5_crash 5 = .ok (.aload_n 0, 1) := by decide +kernel
theorem dX5_crash_6 : decode cX5_crash 6 = .ok (.iconst 0, 1) := by decide +kernel
theorem dX5_crash_7 : decode cX5_crash 7 = .ok (.putfield 96, 3) := by decide +kernel
theorem dX5_crash_10 : decode cX5_crash 10 = .ok (.aload_n 0, 1) := by decide +kernel
theorem dX5_crash_11 : decode cX5_crash 11 = .ok (.iconst 0, 1) := by decide +kernel
theorem dX5_crash_12 : decode cX5_crash 12 = .ok (.putfield 106, 3) := by decide +kernel
theorem dX5_crash_15 : decode cX5_crash 15 = .ok (.aload_n 0, 1) := by decide +kernel
theorem dX5_crash_16 : decode cX5_crash 16 = .ok (.iconst 0, 1) := by decide +kernel
theorem dX5_crash_17 : decode cX5_crash 17 = .ok (.putfield 100, 3) := by decide +kernel
theorem dX5_crash_20 : decode cX5_crash 20 = .ok (.iconst 0, 1) := by decide +kernel
theorem dX5_crash_21 : decode cX5_crash 21 = .ok (.istore_n 2, 1) := by decide +kernel
theorem dX5_crash_22 : decode cX5_crash 22 = .ok (.iload_n 2, 1) := by decide +kernel
theorem dX5_crash_23 : decode cX5_crash 23 = .ok (.bipush 64, 2) := by decide +kernel
theorem dX5_crash_25 : decode cX5_crash 25 = .ok (.if_icmp .ge 26, 3) := by decide +kernel
theorem dX5_crash_28 : decode cX5_crash 28 = .ok (.aload_n 0, 1) := by decide +kernel
theorem dX5_crash_29 : decode cX5_crash 29 = .ok (.getfield 51, 3) := by decide +kernel
theorem dX5_crash_32 : decode cX5_crash 32 = .ok (.iload_n 2, 1) := by decide +kernel
theorem dX5_crash_33 : decode cX5_crash 33 = .ok (.iconst 0, 1) := by decide +kernel
theorem dX5_crash_34 : decode cX5_crash 34 = .ok (.iastore, 1) := by decide +kernel
theorem dX5_crash_35 : decode cX5_crash 35 = .ok (.aload_n 0, 1) := by decide +kernel
theorem dX5_crash_36 : decode cX5_crash 36 = .ok (.getfield 33, 3) := by decide +kernel
theorem dX5_crash_39 : decode cX5_crash 39 = .ok (.iload_n 2, 1) := by decide +kernel
theorem dX5_crash_40 : decode cX5_crash 40 = .ok (.bipush 8, 2) := by decide +kernel
theorem dX5_crash_42 : decode cX5_crash 42 = .ok (.irem, 1) := by decide +kernel
theorem dX5_crash_43 : decode cX5_crash 43 = .ok (.iconst 0, 1) := by decide +kernel
theorem dX5_crash_44 : decode cX5_crash 44 = .ok (.iastore, 1) := by decide +kernel
theorem dX5_crash_45 : decode cX5_crash 45 = .ok (.iinc 2 1, 3) := by decide +kernel
theorem dX5_crash_48 : decode cX5_crash 48 = .ok (.goto (-26), 3) := by decide +kernel
theorem dX5_crash_51 : decode cX5_crash 51 = .ok (.aload_n 0, 1) := by decide +kernel
theorem dX5_crash_52 : decode cX5_crash 52 = .ok (.iconst 1, 1) := by decide +kernel
theorem dX5_crash_53 : decode cX5_crash 53 = .ok (.putfield 157, 3) := by decide +kernel
theorem dX5_crash_56 : decode cX5_crash 56 = .ok (.iload_n 1, 1) := by decide +kernel
theorem dX5_crash_57 : decode cX5_crash 57 = .ok (.ireturn, 1) := by decide +kernel
theorem dX5_open_0 : decode cX5_open 0 = .ok (.aload_n 0, 1) := by decide +kernel
theorem dX5_open_1 : decode cX5_open 1 = .ok (.getfield 157, 3) := by decide +kernel
theorem dX5_open_4 : decode cX5_open 4 = .ok (.ifCond .ne 5, 3) := by decide +kernel
theorem dX5_open_7 : decode cX5_open 7 = .ok (.iconst (-1), 1) := by decide +kernel
theorem dX5_open_8 : decode cX5_open 8 = .ok (.ireturn, 1) := by decide +kernel
theorem dX5_open_9 : decode cX5_open 9 = .ok (.aload_n 0, 1) := by decide +kernel
theorem dX5_open_10 : decode cX5_open 10 = .ok (.iconst 0, 1) := by decide +kernel
theorem dX5_open_11 : decode cX5_open 11 = .ok (.putfield 157, 3) := by decide +kernel
theorem dX5_open_14 : decode cX5_open 14 = .ok (.aload_n 0, 1) := by decide +kernel
theorem dX5_open_15 : decode cX5_open 15 = .ok (.invokevirtual 174, 3) := by decide +kernel
theorem dX5_open_18 : decode cX5_open 18 = .ok (.ireturn, 1) := by decide +kernel
theorem dX5_check_0 : decode cX5_check 0 = .ok (.aload_n 0, 1) := by decide +kernel
theorem dX5_check_1 : decode cX5_check 1 = .ok (.getfield 157, 3) := by decide +kernel
theorem dX5_check_4 : decode cX5_check 4 = .ok (.ifCond .eq 6, 3) := by decide +kernel
theorem dX5_check_7 : decode cX5_check 7 = .ok (.bipush (-2), 2) := by decide +kernel
theorem dX5_check_9 : decode cX5_check 9 = .ok (.ireturn, 1) := by decide +kernel
theorem dX5_check_10 : decode cX5_check 10 = .ok (.iconst 0, 1) := by decide +kernel
theorem dX5_check_11 : decode cX5_check 11 = .ok (.istore_n 1, 1) := by decide +kernel
theorem dX5_check_12 : decode cX5_check 12 = .ok (.iconst 0, 1) := by decide +kernel
theorem dX5_check_13 : decode cX5_check 13 = .ok (.istore_n 2, 1) := by decide +kernel
theorem dX5_check_14 : decode cX5_check 14 = .ok (.iconst 0, 1) := by decide +kernel
theorem dX5_check_15 : decode cX5_check 15 = .ok (.istore_n 3, 1) := by decide +kernel
theorem dX5_check_16 : decode cX5_check 16 = .ok (.iconst 0, 1) := by decide +kernel
theorem dX5_check_17 : decode cX5_check 17 = .ok (.istore 4, 2) := by decide +kernel
theorem dX5_check_19 : decode cX5_check 19 = .ok (.iload 4, 2) := by decide +kernel
theorem dX5_check_21 : decode cX5_check 21 = .ok (.aload_n 0, 1) := by decide +kernel
theorem dX5_check_22 : decode cX5_check 22 = .ok (.getfield 96, 3) := by decide +kernel
theorem dX5_check_25 : decode cX5_check 25 = .ok (.if_icmp .ge 43, 3) := by decide +kernel
theorem dX5_check_28 : decode cX5_check 28 = .ok (.iload_n 1, 1) := by decide +kernel
theorem dX5_check_29 : decode cX5_check 29 = .ok (.aload_n 0, 1) := by decide +kernel
theorem dX5_check_30 : decode cX5_check 30 = .ok (.getfield 23, 3) := by decide +kernel
theorem dX5_check_33 : decode cX5_check 33 = .ok (.iload 4, 2) := by decide +kernel
theorem dX5_check_35 : decode cX5_check 35 = .ok (.baload, 1) := by decide +kernel
theorem dX5_check_36 : decode cX5_check 36 = .ok (.ifCond .eq 23, 3) := by decide +kernel
theorem dX5_check_39 : decode cX5_check 39 = .ok (.aload_n 0, 1) := by decide +kernel
theorem dX5_check_40 : decode cX5_check 40 = .ok (.aload_n 0, 1) := by decide +kernel
theorem dX5_check_41 : decode cX5_check 41 = .ok (.getfield 7, 3) := by decide +kernel
theorem dX5_check_44 : decode cX5_check 44 = .ok (.iload 4, 2) := by decide +kernel
theorem dX5_check_46 : decode cX5_check 46 = .ok (.laload, 1) := by decide +kernel
theorem dX5_check_47 : decode cX5_check 47 = .ok (.invokevirtual 133, 3) := by decide +kernel
theorem dX5_check_50 : decode cX5_check 50 = .ok (.iload 4, 2) := by decide +kernel
theorem dX5_check_52 : decode cX5_check 52 = .ok (.if_icmp .eq 7, 3) := by decide +kernel
theorem dX5_check_55 : decode cX5_check 55 = .ok (.iconst 1, 1) := by decide +kernel
theorem dX5_check_56 : decode cX5_check 56 = .ok (.goto 4, 3) := by decide +kernel
theorem dX5_check_59 : decode cX5_check 59 = .ok (.iconst 0, 1) := by decide +kernel
theorem dX5_check_60 : decode cX5_check 60 = .ok (.ior, 1) := by decide +kernel
theorem dX5_check_61 : decode cX5_check 61 = .ok (.istore_n 1, 1) := by decide +kernel
theorem dX5_check_62 : decode cX5_check 62 = .ok (.iinc 4 1, 3) := by decide +kernel
theorem dX5_check_65 : decode cX5_check 65 = .ok (.goto (-46), 3) := by decide +kernel
theorem dX5_check_68 : decode cX5_check 68 = .ok (.iconst 0, 1) := by decide +kernel
theorem dX5_check_69 : decode cX5_check 69 = .ok (.istore 4, 2) := by decide +kernel
theorem dX5_check_71 : decode cX5_check 71 = .ok (.iload 4, 2) := by decide +kernel
theorem dX5_check_73 : decode cX5_check 73 = .ok (.bipush 64, 2) := by decide +kernel
theorem dX5_check_75 : decode cX5_check 75 = .ok (.if_icmp .ge 104, 3) := by decide +kernel
theorem dX5_check_78 : decode cX5_check 78 = .ok (.iconst 0, 1) := by decide +kernel
theorem dX5_check_79 : decode cX5_check 79 = .ok (.istore 5, 2) := by decide +kernel
theorem dX5_check_81 : decode cX5_check 81 = .ok (.iconst 0, 1) := by decide +kernel
theorem dX5_check_82 : decode cX5_check 82 = .ok (.istore 6, 2) := by decide +kernel
theorem dX5_check_84 : decode cX5_check 84 = .ok (.iload 6, 2) := by decide +kernel
theorem dX5_check_86 : decode cX5_check 86 = .ok (.aload_n 0, 1) := by decide +kernel
theorem dX5_check_87 : decode cX5_check 87 = .ok (.getfield 51, 3) := by decide +kernel
theorem dX5_check_90 : decode cX5_check 90 = .ok (.iload 4, 2) := by decide +kernel
theorem dX5_check_92 : decode cX5_check 92 = .ok (.iaload, 1) := by decide +kernel
theorem dX5_check_93 : decode cX5_check 93 = .ok (.if_icmp .ge 65, 3) := by decide +kernel
theorem dX5_check_96 : decode cX5_check 96 = .ok (.iload 5, 2) := by decide +kernel
theorem dX5_check_98 : decode cX5_check 98 = .ok (.iconst 3, 1) := by decide +kernel
theorem dX5_check_99 : decode cX5_check 99 = .ok (.aload_n 0, 1) := by decide +kernel
theorem dX5_check_100 : decode cX5_check 100 = .ok (.getfield 39, 3) := by decide +kernel
theorem dX5_check_103 : decode cX5_check 103 = .ok (.bipush 8, 2) := by decide +kernel
theorem dX5_check_105 : decode cX5_check 105 = .ok (.iload 4, 2) := by decide +kernel
theorem dX5_check_107 : decode cX5_check 107 = .ok (.imul, 1) := by decide +kernel
theorem dX5_check_108 : decode cX5_check 108 = .ok (.iload 6, 2) := by decide +kernel
theorem dX5_check_110 : decode cX5_check 110 = .ok (.iadd, 1) := by decide +kernel
theorem dX5_check_111 : decode cX5_check 111 = .ok (.iaload, 1) := by decide +kernel
theorem dX5_check_112 : decode cX5_check 112 = .ok (.iadd, 1) := by decide +kernel
theorem dX5_check_113 : decode cX5_check 113 = .ok (.iadd, 1) := by decide +kernel
theorem dX5_check_114 : decode cX5_check 114 = .ok (.istore 5, 2) := by decide +kernel
theorem dX5_check_116 : decode cX5_check 116 = .ok (.iload_n 3, 1) := by decide +kernel
theorem dX5_check_117 : decode cX5_check 117 = .ok (.aload_n 0, 1) := by decide +kernel
theorem dX5_check_118 : decode cX5_check 118 = .ok (.aload_n 0, 1) := by decide +kernel
theorem dX5_check_119 : decode cX5_check 119 = .ok (.getfield 36, 3) := by decide +kernel
theorem dX5_check_122 : decode cX5_check 122 = .ok (.bipush 8, 2) := by decide +kernel
theorem dX5_check_124 : decode cX5_check 124 = .ok (.iload 4, 2) := by decide +kernel
theorem dX5_check_126 : decode cX5_check 126 = .ok (.imul, 1) := by decide +kernel
theorem dX5_check_127 : decode cX5_check 127 = .ok (.iload 6, 2) := by decide +kernel
theorem dX5_check_129 : decode cX5_check 129 = .ok (.iadd, 1) := by decide +kernel
theorem dX5_check_130 : decode cX5_check 130 = .ok (.laload, 1) := by decide +kernel
theorem dX5_check_131 : decode cX5_check 131 = .ok (.invokevirtual 154, 3) := by decide +kernel
theorem dX5_check_134 : decode cX5_check 134 = .ok (.bipush 8, 2) := by decide +kernel
theorem dX5_check_136 : decode cX5_check 136 = .ok (.iload 4, 2) := by decide +kernel
theorem dX5_check_138 : decode cX5_check 138 = .ok (.imul, 1) := by decide +kernel
theorem dX5_check_139 : decode cX5_check 139 = .ok (.iload 6, 2) := by decide +kernel
theorem dX5_check_141 : decode cX5_check 141 = .ok (.iadd, 1) := by decide +kernel
theorem dX5_check_142 : decode cX5_check 142 = .ok (.if_icmp .eq 7, 3) := by decide +kernel
theorem dX5_check_145 : decode cX5_check 145 = .ok (.iconst 1, 1) := by decide +kernel
theorem dX5_check_146 : decode cX5_check 146 = .ok (.goto 4, 3) := by decide +kernel
theorem dX5_check_149 : decode cX5_check 149 = .ok (.iconst 0, 1) := by decide +kernel
theorem dX5_check_150 : decode cX5_check 150 = .ok (.ior, 1) := by decide +kernel
theorem dX5_check_151 : decode cX5_check 151 = .ok (.istore_n 3, 1) := by decide +kernel
theorem dX5_check_152 : decode cX5_check 152 = .ok (.iinc 6 1, 3) := by decide +kernel
theorem dX5_check_155 : decode cX5_check 155 = .ok (.goto (-71), 3) := by decide +kernel
theorem dX5_check_158 : decode cX5_check 158 = .ok (.iload_n 2, 1) := by decide +kernel
theorem dX5_check_159 : decode cX5_check 159 = .ok (.iload 5, 2) := by decide +kernel
theorem dX5_check_161 : decode cX5_check 161 = .ok (.bipush 32, 2) := by decide +kernel
theorem dX5_check_163 : decode cX5_check 163 = .ok (.if_icmp .le 7, 3) := by decide +kernel
theorem dX5_check_166 : decode cX5_check 166 = .ok (.iconst 1, 1) := by decide +kernel
theorem dX5_check_167 : decode cX5_check 167 = .ok (.goto 4, 3) := by decide +kernel
theorem dX5_check_170 : decode cX5_check 170 = .ok (.iconst 0, 1) := by decide +kernel
theorem dX5_check_171 : decode cX5_check 171 = .ok (.ior, 1) := by decide +kernel
theorem dX5_check_172 : decode cX5_check 172 = .ok (.istore_n 2, 1) := by decide +kernel
theorem dX5_check_173 : decode cX5_check 173 = .ok (.iinc 4 1, 3) := by decide +kernel
theorem dX5_check_176 : decode cX5_check 176 = .ok (.goto (-105), 3) := by decide +kernel
theorem dX5_check_179 : decode cX5_check 179 = .ok (.iload_n 1, 1) := by decide +kernel
theorem dX5_check_180 : decode cX5_check 180 = .ok (.iload_n 2, 1) := by decide +kernel
theorem dX5_check_181 : decode cX5_check 181 = .ok (.iadd, 1) := by decide +kernel
theorem dX5_check_182 : decode cX5_check 182 = .ok (.iload_n 3, 1) := by decide +kernel
theorem dX5_check_183 : decode cX5_check 183 = .ok (.iadd, 1) := by decide +kernel
theorem dX5_check_184 : decode cX5_check 184 = .ok (.ireturn, 1) := by decide +kernel
