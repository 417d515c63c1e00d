theorem d_M_readBody_0 : decode b_M_readBody 0 = .ok (.aload_n 0, 1) := by decide +kernel
theorem d_M_readBody_1 : decode b_M_readBody 1 = .ok (.getfield 75, 3) := by decide +kernel
theorem d_M_readBody_4 : decode b_M_readBody 4 = .ok (.iload_n 1, 1) := by decide +kernel
theorem d_M_readBody_5 : decode b_M_readBody 5 = .ok (.aload_n 0, 1) := by decide +kernel
theorem d_M_readBody_6 : decode b_M_readBody 6 = .ok (.getfield 263, 3) := by decide +kernel
theorem d_M_readBody_9 : decode b_M_readBody 9 = .ok (.iastore, 1) := by decide +kernel
theorem d_M_readBody_10 : decode b_M_readBody 10 = .ok (.iconst (-1), 1) := by decide +kernel
theorem d_M_readBody_11 : decode b_M_readBody 11 = .ok (.istore_n 2, 1) := by decide +kernel
theorem d_M_readBody_12 : decode b_M_readBody 12 = .ok (.iconst 0, 1) := by decide +kernel
theorem d_M_readBody_13 : decode b_M_readBody 13 = .ok (.istore_n 3, 1) := by decide +kernel
theorem d_M_readBody_14 : decode b_M_readBody 14 = .ok (.iconst 1, 1) := by decide +kernel
theorem d_M_readBody_15 : decode b_M_readBody 15 = .ok (.istore 4, 2) := by decide +kernel
theorem d_M_readBody_17 : decode b_M_readBody 17 = .ok (.iload 4, 2) := by decide +kernel
theorem d_M_readBody_19 : decode b_M_readBody 19 = .ok (.ifCond .eq 247, 3) := by decide +kernel
theorem d_M_readBody_22 : decode b_M_readBody 22 = .ok (.aload_n 0, 1) := by decide +kernel
theorem d_M_readBody_23 : decode b_M_readBody 23 = .ok (.getfield 149, 3) := by decide +kernel
theorem d_M_readBody_26 : decode b_M_readBody 26 = .ok (.ifCond .ne 240, 3) := by decide +kernel
theorem d_M_readBody_29 : decode b_M_readBody 29 = .ok (.aload_n 0, 1) := by decide +kernel
theorem d_M_readBody_30 : decode b_M_readBody 30 = .ok (.invokevirtual 162, 3) := by decide +kernel
theorem d_M_readBody_33 : decode b_M_readBody 33 = .ok (.istore 5, 2) := by decide +kernel
theorem d_M_readBody_35 : decode b_M_readBody 35 = .ok (.aload_n 0, 1) := by decide +kernel
theorem d_M_readBody_36 : decode b_M_readBody 36 = .ok (.iload 5, 2) := by decide +kernel
theorem d_M_readBody_38 : decode b_M_readBody 38 = .ok (.invokestatic 266, 3) := by decide +kernel
theorem d_M_readBody_41 : decode b_M_readBody 41 = .ok (.iconst 2, 1) := by decide +kernel
theorem d_M_readBody_42 : decode b_M_readBody 42 = .ok (.invokevirtual 158, 3) := by decide +kernel
theorem d_M_readBody_45 : decode b_M_readBody 45 = .ok (.aload_n 0, 1) := by decide +kernel
theorem d_M_readBody_46 : decode b_M_readBody 46 = .ok (.getfield 149, 3) := by decide +kernel
theorem d_M_readBody_49 : decode b_M_readBody 49 = .ok (.ifCond .le 4, 3) := by decide +kernel
theorem d_M_readBody_52 : decode b_M_readBody 52 = .ok (.return_, 1) := by decide +kernel
theorem d_M_readBody_53 : decode b_M_readBody 53 = .ok (.aload_n 0, 1) := by decide +kernel
theorem d_M_readBody_54 : decode b_M_readBody 54 = .ok (.getfield 263, 3) := by decide +kernel
theorem d_M_readBody_57 : decode b_M_readBody 57 = .ok (.istore 6, 2) := by decide +kernel
theorem d_M_readBody_59 : decode b_M_readBody 59 = .ok (.aload_n 0, 1) := by decide +kernel
theorem d_M_readBody_60 : decode b_M_readBody 60 = .ok (.getfield 51, 3) := by decide +kernel
theorem d_M_readBody_63 : decode b_M_readBody 63 = .ok (.iload 6, 2) := by decide +kernel
theorem d_M_readBody_65 : decode b_M_readBody 65 = .ok (.iload 5, 2) := by decide +kernel
theorem d_M_readBody_67 : decode b_M_readBody 67 = .ok (.iastore, 1) := by decide +kernel
theorem d_M_readBody_68 : decode b_M_readBody 68 = .ok (.aload_n 0, 1) := by decide +kernel
theorem d_M_readBody_69 : decode b_M_readBody 69 = .ok (.getfield 54, 3) := by decide +kernel
theorem d_M_readBody_72 : decode b_M_readBody 72 = .ok (.iload 6, 2) := by decide +kernel
theorem d_M_readBody_74 : decode b_M_readBody 74 = .ok (.lconst 0, 1) := by decide +kernel
theorem d_M_readBody_75 : decode b_M_readBody 75 = .ok (.lastore, 1) := by decide +kernel
theorem d_M_readBody_76 : decode b_M_readBody 76 = .ok (.aload_n 0, 1) := by decide +kernel
theorem d_M_readBody_77 : decode b_M_readBody 77 = .ok (.getfield 57, 3) := by decide +kernel
theorem d_M_readBody_80 : decode b_M_readBody 80 = .ok (.iload 6, 2) := by decide +kernel
theorem d_M_readBody_82 : decode b_M_readBody 82 = .ok (.lconst 0, 1) := by decide +kernel
theorem d_M_readBody_83 : decode b_M_readBody 83 = .ok (.lastore, 1) := by decide +kernel
theorem d_M_readBody_84 : decode b_M_readBody 84 = .ok (.aload_n 0, 1) := by decide +kernel
theorem d_M_readBody_85 : decode b_M_readBody 85 = .ok (.getfield 60, 3) := by decide +kernel
theorem d_M_readBody_88 : decode b_M_readBody 88 = .ok (.iload 6, 2) := by decide +kernel
theorem d_M_readBody_90 : decode b_M_readBody 90 = .ok (.iload_n 2, 1) := by decide +kernel
theorem d_M_readBody_91 : decode b_M_readBody 91 = .ok (.iastore, 1) := by decide +kernel
theorem d_M_readBody_92 : decode b_M_readBody 92 = .ok (.aload_n 0, 1) := by decide +kernel
theorem d_M_readBody_93 : decode b_M_readBody 93 = .ok (.getfield 63, 3) := by decide +kernel
theorem d_M_readBody_96 : decode b_M_readBody 96 = .ok (.iload 6, 2) := by decide +kernel
theorem d_M_readBody_98 : decode b_M_readBody 98 = .ok (.iconst (-1), 1) := by decide +kernel
theorem d_M_readBody_99 : decode b_M_readBody 99 = .ok (.iastore, 1) := by decide +kernel
theorem d_M_readBody_100 : decode b_M_readBody 100 = .ok (.aload_n 0, 1) := by decide +kernel
theorem d_M_readBody_101 : decode b_M_readBody 101 = .ok (.getfield 66, 3) := by decide +kernel
theorem d_M_readBody_104 : decode b_M_readBody 104 = .ok (.iload 6, 2) := by decide +kernel
theorem d_M_readBody_106 : decode b_M_readBody 106 = .ok (.iconst (-1), 1) := by decide +kernel
theorem d_M_readBody_107 : decode b_M_readBody 107 = .ok (.iastore, 1) := by decide +kernel
theorem d_M_readBody_108 : decode b_M_readBody 108 = .ok (.iload 5, 2) := by decide +kernel
theorem d_M_readBody_110 : decode b_M_readBody 110 = .ok (.iconst 5, 1) := by decide +kernel
theorem d_M_readBody_111 : decode b_M_readBody 111 = .ok (.if_icmp .ne 57, 3) := by decide +kernel
theorem d_M_readBody_114 : decode b_M_readBody 114 = .ok (.aload_n 0, 1) := by decide +kernel
theorem d_M_readBody_115 : decode b_M_readBody 115 = .ok (.iload_n 2, 1) := by decide +kernel
theorem d_M_readBody_116 : decode b_M_readBody 116 = .ok (.iconst (-1), 1) := by decide +kernel
theorem d_M_readBody_117 : decode b_M_readBody 117 = .ok (.if_icmp .eq 27, 3) := by decide +kernel
theorem d_M_readBody_120 : decode b_M_readBody 120 = .ok (.aload_n 0, 1) := by decide +kernel
theorem d_M_readBody_121 : decode b_M_readBody 121 = .ok (.getfield 51, 3) := by decide +kernel
theorem d_M_readBody_124 : decode b_M_readBody 124 = .ok (.iload_n 2, 1) := by decide +kernel
theorem d_M_readBody_125 : decode b_M_readBody 125 = .ok (.iaload, 1) := by decide +kernel
theorem d_M_readBody_126 : decode b_M_readBody 126 = .ok (.iconst 4, 1) := by decide +kernel
theorem d_M_readBody_127 : decode b_M_readBody 127 = .ok (.if_icmp .ne 17, 3) := by decide +kernel
theorem d_M_readBody_130 : decode b_M_readBody 130 = .ok (.aload_n 0, 1) := by decide +kernel
theorem d_M_readBody_131 : decode b_M_readBody 131 = .ok (.getfield 66, 3) := by decide +kernel
theorem d_M_readBody_134 : decode b_M_readBody 134 = .ok (.iload_n 2, 1) := by decide +kernel
theorem d_M_readBody_135 : decode b_M_readBody 135 = .ok (.iaload, 1) := by decide +kernel
theorem d_M_readBody_136 : decode b_M_readBody 136 = .ok (.iconst (-1), 1) := by decide +kernel
theorem d_M_readBody_137 : decode b_M_readBody 137 = .ok (.if_icmp .ne 7, 3) := by decide +kernel
theorem d_M_readBody_140 : decode b_M_readBody 140 = .ok (.iconst 1, 1) := by decide +kernel
theorem d_M_readBody_141 : decode b_M_readBody 141 = .ok (.goto 4, 3) := by decide +kernel
theorem d_M_readBody_144 : decode b_M_readBody 144 = .ok (.iconst 0, 1) := by decide +kernel
theorem d_M_readBody_145 : decode b_M_readBody 145 = .ok (.iconst 1, 1) := by decide +kernel
theorem d_M_readBody_146 : decode b_M_readBody 146 = .ok (.invokevirtual 158, 3) := by decide +kernel
theorem d_M_readBody_149 : decode b_M_readBody 149 = .ok (.aload_n 0, 1) := by decide +kernel
theorem d_M_readBody_150 : decode b_M_readBody 150 = .ok (.getfield 149, 3) := by decide +kernel
theorem d_M_readBody_153 : decode b_M_readBody 153 = .ok (.ifCond .le 4, 3) := by decide +kernel
theorem d_M_readBody_156 : decode b_M_readBody 156 = .ok (.return_, 1) := by decide +kernel
theorem d_M_readBody_157 : decode b_M_readBody 157 = .ok (.aload_n 0, 1) := by decide +kernel
theorem d_M_readBody_158 : decode b_M_readBody 158 = .ok (.getfield 66, 3) := by decide +kernel
theorem d_M_readBody_161 : decode b_M_readBody 161 = .ok (.iload_n 2, 1) := by decide +kernel
theorem d_M_readBody_162 : decode b_M_readBody 162 = .ok (.iload 6, 2) := by decide +kernel
theorem d_M_readBody_164 : decode b_M_readBody 164 = .ok (.iastore, 1) := by decide +kernel
theorem d_M_readBody_165 : decode b_M_readBody 165 = .ok (.goto 54, 3) := by decide +kernel
theorem d_M_readBody_168 : decode b_M_readBody 168 = .ok (.iload 5, 2) := by decide +kernel
theorem d_M_readBody_170 : decode b_M_readBody 170 = .ok (.bipush 11, 2) := by decide +kernel
theorem d_M_readBody_172 : decode b_M_readBody 172 = .ok (.if_icmp .ne 41, 3) := by decide +kernel
theorem d_M_readBody_175 : decode b_M_readBody 175 = .ok (.iload_n 2, 1) := by decide +kernel
theorem d_M_readBody_176 : decode b_M_readBody 176 = .ok (.iconst (-1), 1) := by decide +kernel
theorem d_M_readBody_177 : decode b_M_readBody 177 = .ok (.if_icmp .eq 7, 3) := by decide +kernel
theorem d_M_readBody_180 : decode b_M_readBody 180 = .ok (.iconst 1, 1) := by decide +kernel
theorem d_M_readBody_181 : decode b_M_readBody 181 = .ok (.goto 4, 3) := by decide +kernel
theorem d_M_readBody_184 : decode b_M_readBody 184 = .ok (.iconst 0, 1) := by decide +kernel
theorem d_M_readBody_185 : decode b_M_readBody 185 = .ok (.istore 4, 2) := by decide +kernel
theorem d_M_readBody_187 : decode b_M_readBody 187 = .ok (.iload 4, 2) := by decide +kernel
theorem d_M_readBody_189 : decode b_M_readBody 189 = .ok (.ifCond .eq 30, 3) := by decide +kernel
theorem d_M_readBody_192 : decode b_M_readBody 192 = .ok (.aload_n 0, 1) := by decide +kernel
theorem d_M_readBody_193 : decode b_M_readBody 193 = .ok (.getfield 63, 3) := by decide +kernel
theorem d_M_readBody_196 : decode b_M_readBody 196 = .ok (.iload_n 2, 1) := by decide +kernel
theorem d_M_readBody_197 : decode b_M_readBody 197 = .ok (.iload 6, 2) := by decide +kernel
theorem d_M_readBody_199 : decode b_M_readBody 199 = .ok (.iastore, 1) := by decide +kernel
theorem d_M_readBody_200 : decode b_M_readBody 200 = .ok (.aload_n 0, 1) := by decide +kernel
theorem d_M_readBody_201 : decode b_M_readBody 201 = .ok (.getfield 60, 3) := by decide +kernel
theorem d_M_readBody_204 : decode b_M_readBody 204 = .ok (.iload_n 2, 1) := by decide +kernel
theorem d_M_readBody_205 : decode b_M_readBody 205 = .ok (.iaload, 1) := by decide +kernel
theorem d_M_readBody_206 : decode b_M_readBody 206 = .ok (.istore_n 2, 1) := by decide +kernel
theorem d_M_readBody_207 : decode b_M_readBody 207 = .ok (.iinc 3 (-1), 3) := by decide +kernel
theorem d_M_readBody_210 : decode b_M_readBody 210 = .ok (.goto 9, 3) := by decide +kernel
theorem d_M_readBody_213 : decode b_M_readBody 213 = .ok (.aload_n 0, 1) := by decide +kernel
theorem d_M_readBody_214 : decode b_M_readBody 214 = .ok (.iload 6, 2) := by decide +kernel
theorem d_M_readBody_216 : decode b_M_readBody 216 = .ok (.invokevirtual 270, 3) := by decide +kernel
theorem d_M_readBody_219 : decode b_M_readBody 219 = .ok (.iload 5, 2) := by decide +kernel
theorem d_M_readBody_221 : decode b_M_readBody 221 = .ok (.iconst 2, 1) := by decide +kernel
theorem d_M_readBody_222 : decode b_M_readBody 222 = .ok (.if_icmp .lt 31, 3) := by decide +kernel
theorem d_M_readBody_225 : decode b_M_readBody 225 = .ok (.iload 5, 2) := by decide +kernel
theorem d_M_readBody_227 : decode b_M_readBody 227 = .ok (.iconst 4, 1) := by decide +kernel
theorem d_M_readBody_228 : decode b_M_readBody 228 = .ok (.if_icmp .gt 25, 3) := by decide +kernel
theorem d_M_readBody_231 : decode b_M_readBody 231 = .ok (.iinc 3 1, 3) := by decide +kernel
theorem d_M_readBody_234 : decode b_M_readBody 234 = .ok (.aload_n 0, 1) := by decide +kernel
theorem d_M_readBody_235 : decode b_M_readBody 235 = .ok (.iload_n 3, 1) := by decide +kernel
theorem d_M_readBody_236 : decode b_M_readBody 236 = .ok (.bipush 10, 2) := by decide +kernel
theorem d_M_readBody_238 : decode b_M_readBody 238 = .ok (.if_icmp .gt 7, 3) := by decide +kernel
theorem d_M_readBody_241 : decode b_M_readBody 241 = .ok (.iconst 1, 1) := by decide +kernel
theorem d_M_readBody_242 : decode b_M_readBody 242 = .ok (.goto 4, 3) := by decide +kernel
theorem d_M_readBody_245 : decode b_M_readBody 245 = .ok (.iconst 0, 1) := by decide +kernel
theorem d_M_readBody_246 : decode b_M_readBody 246 = .ok (.iconst 2, 1) := by decide +kernel
theorem d_M_readBody_247 : decode b_M_readBody 247 = .ok (.invokevirtual 158, 3) := by decide +kernel
theorem d_M_readBody_250 : decode b_M_readBody 250 = .ok (.iload 6, 2) := by decide +kernel
theorem d_M_readBody_252 : decode b_M_readBody 252 = .ok (.istore_n 2, 1) := by decide +kernel
theorem d_M_readBody_253 : decode b_M_readBody 253 = .ok (.aload_n 0, 1) := by decide +kernel
theorem d_M_readBody_254 : decode b_M_readBody 254 = .ok (.dup, 1) := by decide +kernel
theorem d_M_readBody_255 : decode b_M_readBody 255 = .ok (.getfield 263, 3) := by decide +kernel
theorem d_M_readBody_258 : decode b_M_readBody 258 = .ok (.iconst 1, 1) := by decide +kernel
theorem d_M_readBody_259 : decode b_M_readBody 259 = .ok (.iadd, 1) := by decide +kernel
theorem d_M_readBody_260 : decode b_M_readBody 260 = .ok (.putfield 263, 3) := by decide +kernel
theorem d_M_readBody_263 : decode b_M_readBody 263 = .ok (.goto (-246), 3) := by decide +kernel
theorem d_M_readBody_266 : decode b_M_readBody 266 = .ok (.aload_n 0, 1) := by decide +kernel
theorem d_M_readBody_267 : decode b_M_readBody 267 = .ok (.getfield 78, 3) := by decide +kernel
theorem d_M_readBody_270 : decode b_M_readBody 270 = .ok (.iload_n 1, 1) := by decide +kernel
theorem d_M_readBody_271 : decode b_M_readBody 271 = .ok (.aload_n 0, 1) := by decide +kernel
theorem d_M_readBody_272 : decode b_M_readBody 272 = .ok (.getfield 263, 3) := by decide +kernel
theorem d_M_readBody_275 : decode b_M_readBody 275 = .ok (.iconst 1, 1) := by decide +kernel
theorem d_M_readBody_276 : decode b_M_readBody 276 = .ok (.isub, 1) := by decide +kernel
theorem d_M_readBody_277 : decode b_M_readBody 277 = .ok (.iastore, 1) := by decide +kernel
theorem d_M_readBody_278 : decode b_M_readBody 278 = .ok (.return_, 1) := by decide +kernel
theorem d_M_readCode_0 : decode b_M_readCode 0 = .ok (.aload_n 0, 1) := by decide +kernel
theorem d_M_readCode_1 : decode b_M_readCode 1 = .ok (.invokevirtual 168, 3) := by decide +kernel
theorem d_M_readCode_4 : decode b_M_readCode 4 = .ok (.lstore_n 1, 1) := by decide +kernel
theorem d_M_readCode_5 : decode b_M_readCode 5 = .ok (.aload_n 0, 1) := by decide +kernel
theorem d_M_readCode_6 : decode b_M_readCode 6 = .ok (.lload_n 1, 1) := by decide +kernel
theorem d_M_readCode_7 : decode b_M_readCode 7 = .ok (.aload_n 0, 1) := by decide +kernel
theorem d_M_readCode_8 : decode b_M_readCode 8 = .ok (.getfield 188, 3) := by decide +kernel
theorem d_M_readCode_11 : decode b_M_readCode 11 = .ok (.i2l, 1) := by decide +kernel
theorem d_M_readCode_12 : decode b_M_readCode 12 = .ok (.lcmp, 1) := by decide +kernel
theorem d_M_readCode_13 : decode b_M_readCode 13 = .ok (.ifCond .ne 7, 3) := by decide +kernel
theorem d_M_readCode_16 : decode b_M_readCode 16 = .ok (.iconst 1, 1) := by decide +kernel
theorem d_M_readCode_17 : decode b_M_readCode 17 = .ok (.goto 4, 3) := by decide +kernel
theorem d_M_readCode_20 : decode b_M_readCode 20 = .ok (.iconst 0, 1) := by decide +kernel
theorem d_M_readCode_21 : decode b_M_readCode 21 = .ok (.iconst 1, 1) := by decide +kernel
theorem d_M_readCode_22 : decode b_M_readCode 22 = .ok (.invokevirtual 158, 3) := by decide +kernel
theorem d_M_readCode_25 : decode b_M_readCode 25 = .ok (.aload_n 0, 1) := by decide +kernel
theorem d_M_readCode_26 : decode b_M_readCode 26 = .ok (.getfield 155, 3) := by decide +kernel
theorem d_M_readCode_29 : decode b_M_readCode 29 = .ok (.istore_n 3, 1) := by decide +kernel
theorem d_M_readCode_30 : decode b_M_readCode 30 = .ok (.iconst 0, 1) := by decide +kernel
theorem d_M_readCode_31 : decode b_M_readCode 31 = .ok (.istore 4, 2) := by decide +kernel
theorem d_M_readCode_33 : decode b_M_readCode 33 = .ok (.iload 4, 2) := by decide +kernel
theorem d_M_readCode_35 : decode b_M_readCode 35 = .ok (.i2l, 1) := by decide +kernel
theorem d_M_readCode_36 : decode b_M_readCode 36 = .ok (.lload_n 1, 1) := by decide +kernel
theorem d_M_readCode_37 : decode b_M_readCode 37 = .ok (.lcmp, 1) := by decide +kernel
theorem d_M_readCode_38 : decode b_M_readCode 38 = .ok (.ifCond .ge 80, 3) := by decide +kernel
theorem d_M_readCode_41 : decode b_M_readCode 41 = .ok (.aload_n 0, 1) := by decide +kernel
theorem d_M_readCode_42 : decode b_M_readCode 42 = .ok (.getfield 149, 3) := by decide +kernel
theorem d_M_readCode_45 : decode b_M_readCode 45 = .ok (.ifCond .ne 73, 3) := by decide +kernel
theorem d_M_readCode_48 : decode b_M_readCode 48 = .ok (.aload_n 0, 1) := by decide +kernel
theorem d_M_readCode_49 : decode b_M_readCode 49 = .ok (.iload_n 3, 1) := by decide +kernel
theorem d_M_readCode_50 : decode b_M_readCode 50 = .ok (.putfield 155, 3) := by decide +kernel
theorem d_M_readCode_53 : decode b_M_readCode 53 = .ok (.aload_n 0, 1) := by decide +kernel
theorem d_M_readCode_54 : decode b_M_readCode 54 = .ok (.invokevirtual 179, 3) := by decide +kernel
theorem d_M_readCode_57 : decode b_M_readCode 57 = .ok (.istore 5, 2) := by decide +kernel
theorem d_M_readCode_59 : decode b_M_readCode 59 = .ok (.aload_n 0, 1) := by decide +kernel
theorem d_M_readCode_60 : decode b_M_readCode 60 = .ok (.getfield 149, 3) := by decide +kernel
theorem d_M_readCode_63 : decode b_M_readCode 63 = .ok (.ifCond .le 4, 3) := by decide +kernel
theorem d_M_readCode_66 : decode b_M_readCode 66 = .ok (.return_, 1) := by decide +kernel
theorem d_M_readCode_67 : decode b_M_readCode 67 = .ok (.aload_n 0, 1) := by decide +kernel
theorem d_M_readCode_68 : decode b_M_readCode 68 = .ok (.iload 5, 2) := by decide +kernel
theorem d_M_readCode_70 : decode b_M_readCode 70 = .ok (.putfield 155, 3) := by decide +kernel
theorem d_M_readCode_73 : decode b_M_readCode 73 = .ok (.aload_n 0, 1) := by decide +kernel
theorem d_M_readCode_74 : decode b_M_readCode 74 = .ok (.iload 4, 2) := by decide +kernel
theorem d_M_readCode_76 : decode b_M_readCode 76 = .ok (.invokevirtual 252, 3) := by decide +kernel
theorem d_M_readCode_79 : decode b_M_readCode 79 = .ok (.aload_n 0, 1) := by decide +kernel
theorem d_M_readCode_80 : decode b_M_readCode 80 = .ok (.iload 4, 2) := by decide +kernel
theorem d_M_readCode_82 : decode b_M_readCode 82 = .ok (.invokevirtual 255, 3) := by decide +kernel
theorem d_M_readCode_85 : decode b_M_readCode 85 = .ok (.aload_n 0, 1) := by decide +kernel
theorem d_M_readCode_86 : decode b_M_readCode 86 = .ok (.aload_n 0, 1) := by decide +kernel
theorem d_M_readCode_87 : decode b_M_readCode 87 = .ok (.getfield 152, 3) := by decide +kernel
theorem d_M_readCode_90 : decode b_M_readCode 90 = .ok (.iload 5, 2) := by decide +kernel
theorem d_M_readCode_92 : decode b_M_readCode 92 = .ok (.if_icmp .ne 7, 3) := by decide +kernel
theorem d_M_readCode_95 : decode b_M_readCode 95 = .ok (.iconst 1, 1) := by decide +kernel
theorem d_M_readCode_96 : decode b_M_readCode 96 = .ok (.goto 4, 3) := by decide +kernel
theorem d_M_readCode_99 : decode b_M_readCode 99 = .ok (.iconst 0, 1) := by decide +kernel
theorem d_M_readCode_100 : decode b_M_readCode 100 = .ok (.iconst 1, 1) := by decide +kernel
theorem d_M_readCode_101 : decode b_M_readCode 101 = .ok (.invokevirtual 158, 3) := by decide +kernel
theorem d_M_readCode_104 : decode b_M_readCode 104 = .ok (.aload_n 0, 1) := by decide +kernel
theorem d_M_readCode_105 : decode b_M_readCode 105 = .ok (.iload 4, 2) := by decide +kernel
theorem d_M_readCode_107 : decode b_M_readCode 107 = .ok (.iconst 1, 1) := by decide +kernel
theorem d_M_readCode_108 : decode b_M_readCode 108 = .ok (.iadd, 1) := by decide +kernel
theorem d_M_readCode_109 : decode b_M_readCode 109 = .ok (.putfield 185, 3) := by decide +kernel
theorem d_M_readCode_112 : decode b_M_readCode 112 = .ok (.iinc 4 1, 3) := by decide +kernel
theorem d_M_readCode_115 : decode b_M_readCode 115 = .ok (.goto (-82), 3) := by decide +kernel
theorem d_M_readCode_118 : decode b_M_readCode 118 = .ok (.aload_n 0, 1) := by decide +kernel
theorem d_M_readCode_119 : decode b_M_readCode 119 = .ok (.iload_n 3, 1) := by decide +kernel
theorem d_M_readCode_120 : decode b_M_readCode 120 = .ok (.putfield 155, 3) := by decide +kernel
theorem d_M_readCode_123 : decode b_M_readCode 123 = .ok (.return_, 1) := by decide +kernel
theorem d_M_readData_0 : decode b_M_readData 0 = .ok (.aload_n 0, 1) := by decide +kernel
theorem d_M_readData_1 : decode b_M_readData 1 = .ok (.iconst 4, 1) := by decide +kernel
theorem d_M_readData_2 : decode b_M_readData 2 = .ok (.invokevirtual 212, 3) := by decide +kernel
theorem d_M_readData_5 : decode b_M_readData 5 = .ok (.istore_n 1, 1) := by decide +kernel
theorem d_M_readData_6 : decode b_M_readData 6 = .ok (.iconst 0, 1) := by decide +kernel
theorem d_M_readData_7 : decode b_M_readData 7 = .ok (.istore_n 2, 1) := by decide +kernel
theorem d_M_readData_8 : decode b_M_readData 8 = .ok (.iload_n 2, 1) := by decide +kernel
theorem d_M_readData_9 : decode b_M_readData 9 = .ok (.iload_n 1, 1) := by decide +kernel
theorem d_M_readData_10 : decode b_M_readData 10 = .ok (.if_icmp .ge 76, 3) := by decide +kernel
theorem d_M_readData_13 : decode b_M_readData 13 = .ok (.aload_n 0, 1) := by decide +kernel
theorem d_M_readData_14 : decode b_M_readData 14 = .ok (.getfield 149, 3) := by decide +kernel
theorem d_M_readData_17 : decode b_M_readData 17 = .ok (.ifCond .ne 69, 3) := by decide +kernel
theorem d_M_readData_20 : decode b_M_readData 20 = .ok (.aload_n 0, 1) := by decide +kernel
theorem d_M_readData_21 : decode b_M_readData 21 = .ok (.getfield 39, 3) := by decide +kernel
theorem d_M_readData_24 : decode b_M_readData 24 = .ok (.iload_n 2, 1) := by decide +kernel
theorem d_M_readData_25 : decode b_M_readData 25 = .ok (.aload_n 0, 1) := by decide +kernel
theorem d_M_readData_26 : decode b_M_readData 26 = .ok (.invokevirtual 168, 3) := by decide +kernel
theorem d_M_readData_29 : decode b_M_readData 29 = .ok (.lastore, 1) := by decide +kernel
theorem d_M_readData_30 : decode b_M_readData 30 = .ok (.aload_n 0, 1) := by decide +kernel
theorem d_M_readData_31 : decode b_M_readData 31 = .ok (.getfield 42, 3) := by decide +kernel
theorem d_M_readData_34 : decode b_M_readData 34 = .ok (.iload_n 2, 1) := by decide +kernel
theorem d_M_readData_35 : decode b_M_readData 35 = .ok (.aload_n 0, 1) := by decide +kernel
theorem d_M_readData_36 : decode b_M_readData 36 = .ok (.invokevirtual 240, 3) := by decide +kernel
theorem d_M_readData_39 : decode b_M_readData 39 = .ok (.iastore, 1) := by decide +kernel
theorem d_M_readData_40 : decode b_M_readData 40 = .ok (.aload_n 0, 1) := by decide +kernel
theorem d_M_readData_41 : decode b_M_readData 41 = .ok (.invokevirtual 179, 3) := by decide +kernel
theorem d_M_readData_44 : decode b_M_readData 44 = .ok (.istore_n 3, 1) := by decide +kernel
theorem d_M_readData_45 : decode b_M_readData 45 = .ok (.aload_n 0, 1) := by decide +kernel
theorem d_M_readData_46 : decode b_M_readData 46 = .ok (.getfield 149, 3) := by decide +kernel
theorem d_M_readData_49 : decode b_M_readData 49 = .ok (.ifCond .le 4, 3) := by decide +kernel
theorem d_M_readData_52 : decode b_M_readData 52 = .ok (.return_, 1) := by decide +kernel
theorem d_M_readData_53 : decode b_M_readData 53 = .ok (.aload_n 0, 1) := by decide +kernel
theorem d_M_readData_54 : decode b_M_readData 54 = .ok (.getfield 45, 3) := by decide +kernel
theorem d_M_readData_57 : decode b_M_readData 57 = .ok (.iload_n 2, 1) := by decide +kernel
theorem d_M_readData_58 : decode b_M_readData 58 = .ok (.aload_n 0, 1) := by decide +kernel
theorem d_M_readData_59 : decode b_M_readData 59 = .ok (.getfield 152, 3) := by decide +kernel
theorem d_M_readData_62 : decode b_M_readData 62 = .ok (.iastore, 1) := by decide +kernel
theorem d_M_readData_63 : decode b_M_readData 63 = .ok (.aload_n 0, 1) := by decide +kernel
theorem d_M_readData_64 : decode b_M_readData 64 = .ok (.getfield 48, 3) := by decide +kernel
theorem d_M_readData_67 : decode b_M_readData 67 = .ok (.iload_n 2, 1) := by decide +kernel
theorem d_M_readData_68 : decode b_M_readData 68 = .ok (.iload_n 3, 1) := by decide +kernel
theorem d_M_readData_69 : decode b_M_readData 69 = .ok (.aload_n 0, 1) := by decide +kernel
theorem d_M_readData_70 : decode b_M_readData 70 = .ok (.getfield 152, 3) := by decide +kernel
theorem d_M_readData_73 : decode b_M_readData 73 = .ok (.isub, 1) := by decide +kernel
theorem d_M_readData_74 : decode b_M_readData 74 = .ok (.iastore, 1) := by decide +kernel
theorem d_M_readData_75 : decode b_M_readData 75 = .ok (.aload_n 0, 1) := by decide +kernel
theorem d_M_readData_76 : decode b_M_readData 76 = .ok (.iload_n 3, 1) := by decide +kernel
theorem d_M_readData_77 : decode b_M_readData 77 = .ok (.putfield 152, 3) := by decide +kernel
theorem d_M_readData_80 : decode b_M_readData 80 = .ok (.iinc 2 1, 3) := by decide +kernel
theorem d_M_readData_83 : decode b_M_readData 83 = .ok (.goto (-75), 3) := by decide +kernel
theorem d_M_readData_86 : decode b_M_readData 86 = .ok (.aload_n 0, 1) := by decide +kernel
theorem d_M_readData_87 : decode b_M_readData 87 = .ok (.iload_n 1, 1) := by decide +kernel
theorem d_M_readData_88 : decode b_M_readData 88 = .ok (.putfield 249, 3) := by decide +kernel
theorem d_M_readData_91 : decode b_M_readData 91 = .ok (.return_, 1) := by decide +kernel
theorem d_M_readSection_0 : decode b_M_readSection 0 = .ok (.iload_n 1, 1) := by decide +kernel
theorem d_M_readSection_1 : decode b_M_readSection 1 = .ok (.iconst 1, 1) := by decide +kernel
theorem d_M_readSection_2 : decode b_M_readSection 2 = .ok (.if_icmp .ne 10, 3) := by decide +kernel
theorem d_M_readSection_5 : decode b_M_readSection 5 = .ok (.aload_n 0, 1) := by decide +kernel
theorem d_M_readSection_6 : decode b_M_readSection 6 = .ok (.invokevirtual 191, 3) := by decide +kernel
theorem d_M_readSection_9 : decode b_M_readSection 9 = .ok (.goto 70, 3) := by decide +kernel
theorem d_M_readSection_12 : decode b_M_readSection 12 = .ok (.iload_n 1, 1) := by decide +kernel
theorem d_M_readSection_13 : decode b_M_readSection 13 = .ok (.iconst 3, 1) := by decide +kernel
theorem d_M_readSection_14 : decode b_M_readSection 14 = .ok (.if_icmp .ne 10, 3) := by decide +kernel
theorem d_M_readSection_17 : decode b_M_readSection 17 = .ok (.aload_n 0, 1) := by decide +kernel
theorem d_M_readSection_18 : decode b_M_readSection 18 = .ok (.invokevirtual 194, 3) := by decide +kernel
theorem d_M_readSection_21 : decode b_M_readSection 21 = .ok (.goto 58, 3) := by decide +kernel
theorem d_M_readSection_24 : decode b_M_readSection 24 = .ok (.iload_n 1, 1) := by decide +kernel
theorem d_M_readSection_25 : decode b_M_readSection 25 = .ok (.iconst 5, 1) := by decide +kernel
theorem d_M_readSection_26 : decode b_M_readSection 26 = .ok (.if_icmp .ne 10, 3) := by decide +kernel
theorem d_M_readSection_29 : decode b_M_readSection 29 = .ok (.aload_n 0, 1) := by decide +kernel
theorem d_M_readSection_30 : decode b_M_readSection 30 = .ok (.invokevirtual 197, 3) := by decide +kernel
theorem d_M_readSection_33 : decode b_M_readSection 33 = .ok (.goto 46, 3) := by decide +kernel
theorem d_M_readSection_36 : decode b_M_readSection 36 = .ok (.iload_n 1, 1) := by decide +kernel
theorem d_M_readSection_37 : decode b_M_readSection 37 = .ok (.bipush 6, 2) := by decide +kernel
theorem d_M_readSection_39 : decode b_M_readSection 39 = .ok (.if_icmp .ne 10, 3) := by decide +kernel
theorem d_M_readSection_42 : decode b_M_readSection 42 = .ok (.aload_n 0, 1) := by decide +kernel
theorem d_M_readSection_43 : decode b_M_readSection 43 = .ok (.invokevirtual 200, 3) := by decide +kernel
theorem d_M_readSection_46 : decode b_M_readSection 46 = .ok (.goto 33, 3) := by decide +kernel
theorem d_M_readSection_49 : decode b_M_readSection 49 = .ok (.iload_n 1, 1) := by decide +kernel
theorem d_M_readSection_50 : decode b_M_readSection 50 = .ok (.bipush 7, 2) := by decide +kernel
theorem d_M_readSection_52 : decode b_M_readSection 52 = .ok (.if_icmp .ne 10, 3) := by decide +kernel
theorem d_M_readSection_55 : decode b_M_readSection 55 = .ok (.aload_n 0, 1) := by decide +kernel
theorem d_M_readSection_56 : decode b_M_readSection 56 = .ok (.invokevirtual 203, 3) := by decide +kernel
theorem d_M_readSection_59 : decode b_M_readSection 59 = .ok (.goto 20, 3) := by decide +kernel
theorem d_M_readSection_62 : decode b_M_readSection 62 = .ok (.iload_n 1, 1) := by decide +kernel
theorem d_M_readSection_63 : decode b_M_readSection 63 = .ok (.bipush 10, 2) := by decide +kernel
theorem d_M_readSection_65 : decode b_M_readSection 65 = .ok (.if_icmp .ne 10, 3) := by decide +kernel
theorem d_M_readSection_68 : decode b_M_readSection 68 = .ok (.aload_n 0, 1) := by decide +kernel
theorem d_M_readSection_69 : decode b_M_readSection 69 = .ok (.invokevirtual 206, 3) := by decide +kernel
theorem d_M_readSection_72 : decode b_M_readSection 72 = .ok (.goto 7, 3) := by decide +kernel
theorem d_M_readSection_75 : decode b_M_readSection 75 = .ok (.aload_n 0, 1) := by decide +kernel
theorem d_M_readSection_76 : decode b_M_readSection 76 = .ok (.invokevirtual 209, 3) := by decide +kernel
theorem d_M_readSection_79 : decode b_M_readSection 79 = .ok (.return_, 1) := by decide +kernel
theorem d_M_readModule_0 : decode b_M_readModule 0 = .ok (.aload_n 0, 1) := by decide +kernel
theorem d_M_readModule_1 : decode b_M_readModule 1 = .ok (.aload_n 0, 1) := by decide +kernel
theorem d_M_readModule_2 : decode b_M_readModule 2 = .ok (.getfield 124, 3) := by decide +kernel
theorem d_M_readModule_5 : decode b_M_readModule 5 = .ok (.putfield 155, 3) := by decide +kernel
theorem d_M_readModule_8 : decode b_M_readModule 8 = .ok (.aload_n 0, 1) := by decide +kernel
theorem d_M_readModule_9 : decode b_M_readModule 9 = .ok (.iconst 0, 1) := by decide +kernel
theorem d_M_readModule_10 : decode b_M_readModule 10 = .ok (.putfield 152, 3) := by decide +kernel
theorem d_M_readModule_13 : decode b_M_readModule 13 = .ok (.iconst 0, 1) := by decide +kernel
theorem d_M_readModule_14 : decode b_M_readModule 14 = .ok (.istore_n 1, 1) := by decide +kernel
theorem d_M_readModule_15 : decode b_M_readModule 15 = .ok (.iload_n 1, 1) := by decide +kernel
theorem d_M_readModule_16 : decode b_M_readModule 16 = .ok (.bipush 8, 2) := by decide +kernel
theorem d_M_readModule_18 : decode b_M_readModule 18 = .ok (.if_icmp .ge 53, 3) := by decide +kernel
theorem d_M_readModule_21 : decode b_M_readModule 21 = .ok (.aload_n 0, 1) := by decide +kernel
theorem d_M_readModule_22 : decode b_M_readModule 22 = .ok (.iload_n 1, 1) := by decide +kernel
theorem d_M_readModule_23 : decode b_M_readModule 23 = .ok (.iconst 1, 1) := by decide +kernel
theorem d_M_readModule_24 : decode b_M_readModule 24 = .ok (.if_icmp .ne 8, 3) := by decide +kernel
theorem d_M_readModule_27 : decode b_M_readModule 27 = .ok (.bipush 97, 2) := by decide +kernel
theorem d_M_readModule_29 : decode b_M_readModule 29 = .ok (.goto 33, 3) := by decide +kernel
theorem d_M_readModule_32 : decode b_M_readModule 32 = .ok (.iload_n 1, 1) := by decide +kernel
theorem d_M_readModule_33 : decode b_M_readModule 33 = .ok (.iconst 2, 1) := by decide +kernel
theorem d_M_readModule_34 : decode b_M_readModule 34 = .ok (.if_icmp .ne 8, 3) := by decide +kernel
theorem d_M_readModule_37 : decode b_M_readModule 37 = .ok (.bipush 115, 2) := by decide +kernel
theorem d_M_readModule_39 : decode b_M_readModule 39 = .ok (.goto 23, 3) := by decide +kernel
theorem d_M_readModule_42 : decode b_M_readModule 42 = .ok (.iload_n 1, 1) := by decide +kernel
theorem d_M_readModule_43 : decode b_M_readModule 43 = .ok (.iconst 3, 1) := by decide +kernel
theorem d_M_readModule_44 : decode b_M_readModule 44 = .ok (.if_icmp .ne 8, 3) := by decide +kernel
theorem d_M_readModule_47 : decode b_M_readModule 47 = .ok (.bipush 109, 2) := by decide +kernel
theorem d_M_readModule_49 : decode b_M_readModule 49 = .ok (.goto 13, 3) := by decide +kernel
theorem d_M_readModule_52 : decode b_M_readModule 52 = .ok (.iload_n 1, 1) := by decide +kernel
theorem d_M_readModule_53 : decode b_M_readModule 53 = .ok (.iconst 4, 1) := by decide +kernel
theorem d_M_readModule_54 : decode b_M_readModule 54 = .ok (.if_icmp .ne 7, 3) := by decide +kernel
theorem d_M_readModule_57 : decode b_M_readModule 57 = .ok (.iconst 1, 1) := by decide +kernel
theorem d_M_readModule_58 : decode b_M_readModule 58 = .ok (.goto 4, 3) := by decide +kernel
theorem d_M_readModule_61 : decode b_M_readModule 61 = .ok (.iconst 0, 1) := by decide +kernel
theorem d_M_readModule_62 : decode b_M_readModule 62 = .ok (.invokevirtual 172, 3) := by decide +kernel
theorem d_M_readModule_65 : decode b_M_readModule 65 = .ok (.iinc 1 1, 3) := by decide +kernel
theorem d_M_readModule_68 : decode b_M_readModule 68 = .ok (.goto (-53), 3) := by decide +kernel
theorem d_M_readModule_71 : decode b_M_readModule 71 = .ok (.iconst (-1), 1) := by decide +kernel
theorem d_M_readModule_72 : decode b_M_readModule 72 = .ok (.istore_n 1, 1) := by decide +kernel
theorem d_M_readModule_73 : decode b_M_readModule 73 = .ok (.aload_n 0, 1) := by decide +kernel
theorem d_M_readModule_74 : decode b_M_readModule 74 = .ok (.getfield 152, 3) := by decide +kernel
theorem d_M_readModule_77 : decode b_M_readModule 77 = .ok (.aload_n 0, 1) := by decide +kernel
theorem d_M_readModule_78 : decode b_M_readModule 78 = .ok (.getfield 124, 3) := by decide +kernel
theorem d_M_readModule_81 : decode b_M_readModule 81 = .ok (.if_icmp .ge 127, 3) := by decide +kernel
theorem d_M_readModule_84 : decode b_M_readModule 84 = .ok (.aload_n 0, 1) := by decide +kernel
theorem d_M_readModule_85 : decode b_M_readModule 85 = .ok (.getfield 149, 3) := by decide +kernel
theorem d_M_readModule_88 : decode b_M_readModule 88 = .ok (.ifCond .ne 120, 3) := by decide +kernel
theorem d_M_readModule_91 : decode b_M_readModule 91 = .ok (.aload_n 0, 1) := by decide +kernel
theorem d_M_readModule_92 : decode b_M_readModule 92 = .ok (.aload_n 0, 1) := by decide +kernel
theorem d_M_readModule_93 : decode b_M_readModule 93 = .ok (.getfield 124, 3) := by decide +kernel
theorem d_M_readModule_96 : decode b_M_readModule 96 = .ok (.putfield 155, 3) := by decide +kernel
theorem d_M_readModule_99 : decode b_M_readModule 99 = .ok (.aload_n 0, 1) := by decide +kernel
theorem d_M_readModule_100 : decode b_M_readModule 100 = .ok (.invokevirtual 162, 3) := by decide +kernel
theorem d_M_readModule_103 : decode b_M_readModule 103 = .ok (.istore_n 2, 1) := by decide +kernel
theorem d_M_readModule_104 : decode b_M_readModule 104 = .ok (.aload_n 0, 1) := by decide +kernel
theorem d_M_readModule_105 : decode b_M_readModule 105 = .ok (.iload_n 2, 1) := by decide +kernel
theorem d_M_readModule_106 : decode b_M_readModule 106 = .ok (.bipush 12, 2) := by decide +kernel
theorem d_M_readModule_108 : decode b_M_readModule 108 = .ok (.if_icmp .ge 12, 3) := by decide +kernel
theorem d_M_readModule_111 : decode b_M_readModule 111 = .ok (.iload_n 2, 1) := by decide +kernel
theorem d_M_readModule_112 : decode b_M_readModule 112 = .ok (.iload_n 1, 1) := by decide +kernel
theorem d_M_readModule_113 : decode b_M_readModule 113 = .ok (.if_icmp .le 7, 3) := by decide +kernel
theorem d_M_readModule_116 : decode b_M_readModule 116 = .ok (.iconst 1, 1) := by decide +kernel
theorem d_M_readModule_117 : decode b_M_readModule 117 = .ok (.goto 4, 3) := by decide +kernel
theorem d_M_readModule_120 : decode b_M_readModule 120 = .ok (.iconst 0, 1) := by decide +kernel
theorem d_M_readModule_121 : decode b_M_readModule 121 = .ok (.iconst 1, 1) := by decide +kernel
theorem d_M_readModule_122 : decode b_M_readModule 122 = .ok (.invokevirtual 158, 3) := by decide +kernel
theorem d_M_readModule_125 : decode b_M_readModule 125 = .ok (.aload_n 0, 1) := by decide +kernel
theorem d_M_readModule_126 : decode b_M_readModule 126 = .ok (.iload_n 2, 1) := by decide +kernel
theorem d_M_readModule_127 : decode b_M_readModule 127 = .ok (.iconst 1, 1) := by decide +kernel
theorem d_M_readModule_128 : decode b_M_readModule 128 = .ok (.if_icmp .eq 25, 3) := by decide +kernel
theorem d_M_readModule_131 : decode b_M_readModule 131 = .ok (.iload_n 2, 1) := by decide +kernel
theorem d_M_readModule_132 : decode b_M_readModule 132 = .ok (.iconst 3, 1) := by decide +kernel
theorem d_M_readModule_133 : decode b_M_readModule 133 = .ok (.if_icmp .eq 20, 3) := by decide +kernel
theorem d_M_readModule_136 : decode b_M_readModule 136 = .ok (.iload_n 2, 1) := by decide +kernel
theorem d_M_readModule_137 : decode b_M_readModule 137 = .ok (.iconst 4, 1) := by decide +kernel
theorem d_M_readModule_138 : decode b_M_readModule 138 = .ok (.if_icmp .le 9, 3) := by decide +kernel
theorem d_M_readModule_141 : decode b_M_readModule 141 = .ok (.iload_n 2, 1) := by decide +kernel
theorem d_M_readModule_142 : decode b_M_readModule 142 = .ok (.bipush 8, 2) := by decide +kernel
theorem d_M_readModule_144 : decode b_M_readModule 144 = .ok (.if_icmp .lt 9, 3) := by decide +kernel
theorem d_M_readModule_147 : decode b_M_readModule 147 = .ok (.iload_n 2, 1) := by decide +kernel
theorem d_M_readModule_148 : decode b_M_readModule 148 = .ok (.bipush 9, 2) := by decide +kernel
theorem d_M_readModule_150 : decode b_M_readModule 150 = .ok (.if_icmp .le 7, 3) := by decide +kernel
theorem d_M_readModule_153 : decode b_M_readModule 153 = .ok (.iconst 1, 1) := by decide +kernel
theorem d_M_readModule_154 : decode b_M_readModule 154 = .ok (.goto 4, 3) := by decide +kernel
theorem d_M_readModule_157 : decode b_M_readModule 157 = .ok (.iconst 0, 1) := by decide +kernel
theorem d_M_readModule_158 : decode b_M_readModule 158 = .ok (.iconst 2, 1) := by decide +kernel
theorem d_M_readModule_159 : decode b_M_readModule 159 = .ok (.invokevirtual 158, 3) := by decide +kernel
theorem d_M_readModule_162 : decode b_M_readModule 162 = .ok (.iload_n 2, 1) := by decide +kernel
theorem d_M_readModule_163 : decode b_M_readModule 163 = .ok (.istore_n 1, 1) := by decide +kernel
theorem d_M_readModule_164 : decode b_M_readModule 164 = .ok (.aload_n 0, 1) := by decide +kernel
theorem d_M_readModule_165 : decode b_M_readModule 165 = .ok (.invokevirtual 179, 3) := by decide +kernel
theorem d_M_readModule_168 : decode b_M_readModule 168 = .ok (.istore_n 3, 1) := by decide +kernel
theorem d_M_readModule_169 : decode b_M_readModule 169 = .ok (.aload_n 0, 1) := by decide +kernel
theorem d_M_readModule_170 : decode b_M_readModule 170 = .ok (.getfield 149, 3) := by decide +kernel
theorem d_M_readModule_173 : decode b_M_readModule 173 = .ok (.ifCond .le 4, 3) := by decide +kernel
theorem d_M_readModule_176 : decode b_M_readModule 176 = .ok (.return_, 1) := by decide +kernel
theorem d_M_readModule_177 : decode b_M_readModule 177 = .ok (.aload_n 0, 1) := by decide +kernel
theorem d_M_readModule_178 : decode b_M_readModule 178 = .ok (.iload_n 3, 1) := by decide +kernel
theorem d_M_readModule_179 : decode b_M_readModule 179 = .ok (.putfield 155, 3) := by decide +kernel
theorem d_M_readModule_182 : decode b_M_readModule 182 = .ok (.aload_n 0, 1) := by decide +kernel
theorem d_M_readModule_183 : decode b_M_readModule 183 = .ok (.iload_n 2, 1) := by decide +kernel
theorem d_M_readModule_184 : decode b_M_readModule 184 = .ok (.invokevirtual 182, 3) := by decide +kernel
theorem d_M_readModule_187 : decode b_M_readModule 187 = .ok (.aload_n 0, 1) := by decide +kernel
theorem d_M_readModule_188 : decode b_M_readModule 188 = .ok (.aload_n 0, 1) := by decide +kernel
theorem d_M_readModule_189 : decode b_M_readModule 189 = .ok (.getfield 152, 3) := by decide +kernel
theorem d_M_readModule_192 : decode b_M_readModule 192 = .ok (.iload_n 3, 1) := by decide +kernel
theorem d_M_readModule_193 : decode b_M_readModule 193 = .ok (.if_icmp .ne 7, 3) := by decide +kernel
theorem d_M_readModule_196 : decode b_M_readModule 196 = .ok (.iconst 1, 1) := by decide +kernel
theorem d_M_readModule_197 : decode b_M_readModule 197 = .ok (.goto 4, 3) := by decide +kernel
theorem d_M_readModule_200 : decode b_M_readModule 200 = .ok (.iconst 0, 1) := by decide +kernel
theorem d_M_readModule_201 : decode b_M_readModule 201 = .ok (.iconst 1, 1) := by decide +kernel
theorem d_M_readModule_202 : decode b_M_readModule 202 = .ok (.invokevirtual 158, 3) := by decide +kernel
theorem d_M_readModule_205 : decode b_M_readModule 205 = .ok (.goto (-132), 3) := by decide +kernel
theorem d_M_readModule_208 : decode b_M_readModule 208 = .ok (.aload_n 0, 1) := by decide +kernel
theorem d_M_readModule_209 : decode b_M_readModule 209 = .ok (.aload_n 0, 1) := by decide +kernel
theorem d_M_readModule_210 : decode b_M_readModule 210 = .ok (.getfield 185, 3) := by decide +kernel
theorem d_M_readModule_213 : decode b_M_readModule 213 = .ok (.aload_n 0, 1) := by decide +kernel
theorem d_M_readModule_214 : decode b_M_readModule 214 = .ok (.getfield 188, 3) := by decide +kernel
theorem d_M_readModule_217 : decode b_M_readModule 217 = .ok (.if_icmp .ne 7, 3) := by decide +kernel
theorem d_M_readModule_220 : decode b_M_readModule 220 = .ok (.iconst 1, 1) := by decide +kernel
theorem d_M_readModule_221 : decode b_M_readModule 221 = .ok (.goto 4, 3) := by decide +kernel
theorem d_M_readModule_224 : decode b_M_readModule 224 = .ok (.iconst 0, 1) := by decide +kernel
theorem d_M_readModule_225 : decode b_M_readModule 225 = .ok (.iconst 1, 1) := by decide +kernel
theorem d_M_readModule_226 : decode b_M_readModule 226 = .ok (.invokevirtual 158, 3) := by decide +kernel
theorem d_M_readModule_229 : decode b_M_readModule 229 = .ok (.return_, 1) := by decide +kernel
theorem d_M_isExport_0 : decode b_M_isExport 0 = .ok (.aload_n 0, 1) := by decide +kernel
theorem d_M_isExport_1 : decode b_M_isExport 1 = .ok (.getfield 33, 3) := by decide +kernel
theorem d_M_isExport_4 : decode b_M_isExport 4 = .ok (.iload_n 1, 1) := by decide +kernel
theorem d_M_isExport_5 : decode b_M_isExport 5 = .ok (.iaload, 1) := by decide +kernel
theorem d_M_isExport_6 : decode b_M_isExport 6 = .ok (.ifCond .ne 10, 3) := by decide +kernel
theorem d_M_isExport_9 : decode b_M_isExport 9 = .ok (.aload_n 0, 1) := by decide +kernel
theorem d_M_isExport_10 : decode b_M_isExport 10 = .ok (.getfield 188, 3) := by decide +kernel
theorem d_M_isExport_13 : decode b_M_isExport 13 = .ok (.goto 38, 3) := by decide +kernel
theorem d_M_isExport_16 : decode b_M_isExport 16 = .ok (.aload_n 0, 1) := by decide +kernel
theorem d_M_isExport_17 : decode b_M_isExport 17 = .ok (.getfield 33, 3) := by decide +kernel
theorem d_M_isExport_20 : decode b_M_isExport 20 = .ok (.iload_n 1, 1) := by decide +kernel
theorem d_M_isExport_21 : decode b_M_isExport 21 = .ok (.iaload, 1) := by decide +kernel
theorem d_M_isExport_22 : decode b_M_isExport 22 = .ok (.iconst 1, 1) := by decide +kernel
theorem d_M_isExport_23 : decode b_M_isExport 23 = .ok (.if_icmp .ne 7, 3) := by decide +kernel
theorem d_M_isExport_26 : decode b_M_isExport 26 = .ok (.iconst 0, 1) := by decide +kernel
theorem d_M_isExport_27 : decode b_M_isExport 27 = .ok (.goto 24, 3) := by decide +kernel
theorem d_M_isExport_30 : decode b_M_isExport 30 = .ok (.aload_n 0, 1) := by decide +kernel
theorem d_M_isExport_31 : decode b_M_isExport 31 = .ok (.getfield 33, 3) := by decide +kernel
theorem d_M_isExport_34 : decode b_M_isExport 34 = .ok (.iload_n 1, 1) := by decide +kernel
theorem d_M_isExport_35 : decode b_M_isExport 35 = .ok (.iaload, 1) := by decide +kernel
theorem d_M_isExport_36 : decode b_M_isExport 36 = .ok (.iconst 2, 1) := by decide +kernel
theorem d_M_isExport_37 : decode b_M_isExport 37 = .ok (.if_icmp .ne 10, 3) := by decide +kernel
theorem d_M_isExport_40 : decode b_M_isExport 40 = .ok (.aload_n 0, 1) := by decide +kernel
theorem d_M_isExport_41 : decode b_M_isExport 41 = .ok (.getfield 222, 3) := by decide +kernel
theorem d_M_isExport_44 : decode b_M_isExport 44 = .ok (.goto 7, 3) := by decide +kernel
theorem d_M_isExport_47 : decode b_M_isExport 47 = .ok (.aload_n 0, 1) := by decide +kernel
theorem d_M_isExport_48 : decode b_M_isExport 48 = .ok (.getfield 243, 3) := by decide +kernel
theorem d_M_isExport_51 : decode b_M_isExport 51 = .ok (.istore_n 2, 1) := by decide +kernel
theorem d_M_isExport_52 : decode b_M_isExport 52 = .ok (.aload_n 0, 1) := by decide +kernel
theorem d_M_isExport_53 : decode b_M_isExport 53 = .ok (.getfield 36, 3) := by decide +kernel
theorem d_M_isExport_56 : decode b_M_isExport 56 = .ok (.iload_n 1, 1) := by decide +kernel
theorem d_M_isExport_57 : decode b_M_isExport 57 = .ok (.laload, 1) := by decide +kernel
theorem d_M_isExport_58 : decode b_M_isExport 58 = .ok (.iload_n 2, 1) := by decide +kernel
theorem d_M_isExport_59 : decode b_M_isExport 59 = .ok (.i2l, 1) := by decide +kernel
theorem d_M_isExport_60 : decode b_M_isExport 60 = .ok (.lcmp, 1) := by decide +kernel
theorem d_M_isExport_61 : decode b_M_isExport 61 = .ok (.ifCond .ge 7, 3) := by decide +kernel
theorem d_M_isExport_64 : decode b_M_isExport 64 = .ok (.iconst 1, 1) := by decide +kernel
theorem d_M_isExport_65 : decode b_M_isExport 65 = .ok (.goto 4, 3) := by decide +kernel
theorem d_M_isExport_68 : decode b_M_isExport 68 = .ok (.iconst 0, 1) := by decide +kernel
theorem d_M_isExport_69 : decode b_M_isExport 69 = .ok (.istore_n 3, 1) := by decide +kernel
theorem d_M_isExport_70 : decode b_M_isExport 70 = .ok (.iconst 0, 1) := by decide +kernel
theorem d_M_isExport_71 : decode b_M_isExport 71 = .ok (.istore 4, 2) := by decide +kernel
theorem d_M_isExport_73 : decode b_M_isExport 73 = .ok (.iload 4, 2) := by decide +kernel
theorem d_M_isExport_75 : decode b_M_isExport 75 = .ok (.iload_n 1, 1) := by decide +kernel
theorem d_M_isExport_76 : decode b_M_isExport 76 = .ok (.if_icmp .ge 36, 3) := by decide +kernel
theorem d_M_isExport_79 : decode b_M_isExport 79 = .ok (.iload_n 3, 1) := by decide +kernel
theorem d_M_isExport_80 : decode b_M_isExport 80 = .ok (.ifCond .eq 24, 3) := by decide +kernel
theorem d_M_isExport_83 : decode b_M_isExport 83 = .ok (.aload_n 0, 1) := by decide +kernel
theorem d_M_isExport_84 : decode b_M_isExport 84 = .ok (.getfield 30, 3) := by decide +kernel
theorem d_M_isExport_87 : decode b_M_isExport 87 = .ok (.iload 4, 2) := by decide +kernel
theorem d_M_isExport_89 : decode b_M_isExport 89 = .ok (.laload, 1) := by decide +kernel
theorem d_M_isExport_90 : decode b_M_isExport 90 = .ok (.aload_n 0, 1) := by decide +kernel
theorem d_M_isExport_91 : decode b_M_isExport 91 = .ok (.getfield 30, 3) := by decide +kernel
theorem d_M_isExport_94 : decode b_M_isExport 94 = .ok (.iload_n 1, 1) := by decide +kernel
theorem d_M_isExport_95 : decode b_M_isExport 95 = .ok (.laload, 1) := by decide +kernel
theorem d_M_isExport_96 : decode b_M_isExport 96 = .ok (.lcmp, 1) := by decide +kernel
theorem d_M_isExport_97 : decode b_M_isExport 97 = .ok (.ifCond .eq 7, 3) := by decide +kernel
theorem d_M_isExport_100 : decode b_M_isExport 100 = .ok (.iconst 1, 1) := by decide +kernel
theorem d_M_isExport_101 : decode b_M_isExport 101 = .ok (.goto 4, 3) := by decide +kernel
theorem d_M_isExport_104 : decode b_M_isExport 104 = .ok (.iconst 0, 1) := by decide +kernel
theorem d_M_isExport_105 : decode b_M_isExport 105 = .ok (.istore_n 3, 1) := by decide +kernel
theorem d_M_isExport_106 : decode b_M_isExport 106 = .ok (.iinc 4 1, 3) := by decide +kernel
theorem d_M_isExport_109 : decode b_M_isExport 109 = .ok (.goto (-36), 3) := by decide +kernel
theorem d_M_isExport_112 : decode b_M_isExport 112 = .ok (.iload_n 3, 1) := by decide +kernel
theorem d_M_isExport_113 : decode b_M_isExport 113 = .ok (.ireturn, 1) := by decide +kernel
theorem d_M_resultsOf_0 : decode b_M_resultsOf 0 = .ok (.aload_n 0, 1) := by decide +kernel
theorem d_M_resultsOf_1 : decode b_M_resultsOf 1 = .ok (.getfield 16, 3) := by decide +kernel
theorem d_M_resultsOf_4 : decode b_M_resultsOf 4 = .ok (.aload_n 0, 1) := by decide +kernel
theorem d_M_resultsOf_5 : decode b_M_resultsOf 5 = .ok (.getfield 19, 3) := by decide +kernel
theorem d_M_resultsOf_8 : decode b_M_resultsOf 8 = .ok (.iload_n 1, 1) := by decide +kernel
theorem d_M_resultsOf_9 : decode b_M_resultsOf 9 = .ok (.laload, 1) := by decide +kernel
theorem d_M_resultsOf_10 : decode b_M_resultsOf 10 = .ok (.l2i, 1) := by decide +kernel
theorem d_M_resultsOf_11 : decode b_M_resultsOf 11 = .ok (.iaload, 1) := by decide +kernel
theorem d_M_resultsOf_12 : decode b_M_resultsOf 12 = .ok (.ireturn, 1) := by decide +kernel
theorem d_M_arity_0 : decode b_M_arity 0 = .ok (.iload_n 2, 1) := by decide +kernel
theorem d_M_arity_1 : decode b_M_arity 1 = .ok (.iconst (-1), 1) := by decide +kernel
theorem d_M_arity_2 : decode b_M_arity 2 = .ok (.if_icmp .ne 11, 3) := by decide +kernel
theorem d_M_arity_5 : decode b_M_arity 5 = .ok (.aload_n 0, 1) := by decide +kernel
theorem d_M_arity_6 : decode b_M_arity 6 = .ok (.iload_n 1, 1) := by decide +kernel
theorem d_M_arity_7 : decode b_M_arity 7 = .ok (.invokevirtual 292, 3) := by decide +kernel
theorem d_M_arity_10 : decode b_M_arity 10 = .ok (.goto 10, 3) := by decide +kernel
theorem d_M_arity_13 : decode b_M_arity 13 = .ok (.aload_n 0, 1) := by decide +kernel
theorem d_M_arity_14 : decode b_M_arity 14 = .ok (.getfield 54, 3) := by decide +kernel
theorem d_M_arity_17 : decode b_M_arity 17 = .ok (.iload_n 2, 1) := by decide +kernel
theorem d_M_arity_18 : decode b_M_arity 18 = .ok (.laload, 1) := by decide +kernel
theorem d_M_arity_19 : decode b_M_arity 19 = .ok (.l2i, 1) := by decide +kernel
theorem d_M_arity_20 : decode b_M_arity 20 = .ok (.ireturn, 1) := by decide +kernel
theorem d_M_carried_0 : decode b_M_carried 0 = .ok (.aload_n 0, 1) := by decide +kernel
theorem d_M_carried_1 : decode b_M_carried 1 = .ok (.lload_n 2, 1) := by decide +kernel
theorem d_M_carried_2 : decode b_M_carried 2 = .ok (.aload_n 0, 1) := by decide +kernel
theorem d_M_carried_3 : decode b_M_carried 3 = .ok (.getfield 289, 3) := by decide +kernel
theorem d_M_carried_6 : decode b_M_carried 6 = .ok (.i2l, 1) := by decide +kernel
theorem d_M_carried_7 : decode b_M_carried 7 = .ok (.lcmp, 1) := by decide +kernel
theorem d_M_carried_8 : decode b_M_carried 8 = .ok (.ifCond .gt 7, 3) := by decide +kernel
theorem d_M_carried_11 : decode b_M_carried 11 = .ok (.iconst 1, 1) := by decide +kernel
theorem d_M_carried_12 : decode b_M_carried 12 = .ok (.goto 4, 3) := by decide +kernel
theorem d_M_carried_15 : decode b_M_carried 15 = .ok (.iconst 0, 1) := by decide +kernel
theorem d_M_carried_16 : decode b_M_carried 16 = .ok (.iconst 3, 1) := by decide +kernel
theorem d_M_carried_17 : decode b_M_carried 17 = .ok (.invokevirtual 158, 3) := by decide +kernel
theorem d_M_carried_20 : decode b_M_carried 20 = .ok (.aload_n 0, 1) := by decide +kernel
theorem d_M_carried_21 : decode b_M_carried 21 = .ok (.getfield 149, 3) := by decide +kernel
theorem d_M_carried_24 : decode b_M_carried 24 = .ok (.ifCond .le 5, 3) := by decide +kernel
theorem d_M_carried_27 : decode b_M_carried 27 = .ok (.iconst 0, 1) := by decide +kernel
theorem d_M_carried_28 : decode b_M_carried 28 = .ok (.ireturn, 1) := by decide +kernel
theorem d_M_carried_29 : decode b_M_carried 29 = .ok (.aload_n 0, 1) := by decide +kernel
theorem d_M_carried_30 : decode b_M_carried 30 = .ok (.getfield 87, 3) := by decide +kernel
theorem d_M_carried_33 : decode b_M_carried 33 = .ok (.aload_n 0, 1) := by decide +kernel
theorem d_M_carried_34 : decode b_M_carried 34 = .ok (.getfield 289, 3) := by decide +kernel
theorem d_M_carried_37 : decode b_M_carried 37 = .ok (.lload_n 2, 1) := by decide +kernel
theorem d_M_carried_38 : decode b_M_carried 38 = .ok (.l2i, 1) := by decide +kernel
theorem d_M_carried_39 : decode b_M_carried 39 = .ok (.isub, 1) := by decide +kernel
theorem d_M_carried_40 : decode b_M_carried 40 = .ok (.iaload, 1) := by decide +kernel
theorem d_M_carried_41 : decode b_M_carried 41 = .ok (.istore 4, 2) := by decide +kernel
theorem d_M_carried_43 : decode b_M_carried 43 = .ok (.iload 4, 2) := by decide +kernel
theorem d_M_carried_45 : decode b_M_carried 45 = .ok (.iconst (-1), 1) := by decide +kernel
theorem d_M_carried_46 : decode b_M_carried 46 = .ok (.if_icmp .eq 18, 3) := by decide +kernel
theorem d_M_carried_49 : decode b_M_carried 49 = .ok (.aload_n 0, 1) := by decide +kernel
theorem d_M_carried_50 : decode b_M_carried 50 = .ok (.getfield 51, 3) := by decide +kernel
theorem d_M_carried_53 : decode b_M_carried 53 = .ok (.iload 4, 2) := by decide +kernel
theorem d_M_carried_55 : decode b_M_carried 55 = .ok (.iaload, 1) := by decide +kernel
theorem d_M_carried_56 : decode b_M_carried 56 = .ok (.iconst 3, 1) := by decide +kernel
theorem d_M_carried_57 : decode b_M_carried 57 = .ok (.if_icmp .ne 7, 3) := by decide +kernel
theorem d_M_carried_60 : decode b_M_carried 60 = .ok (.iconst 0, 1) := by decide +kernel
theorem d_M_carried_61 : decode b_M_carried 61 = .ok (.goto 10, 3) := by decide +kernel
theorem d_M_carried_64 : decode b_M_carried 64 = .ok (.aload_n 0, 1) := by decide +kernel
theorem d_M_carried_65 : decode b_M_carried 65 = .ok (.iload_n 1, 1) := by decide +kernel
theorem d_M_carried_66 : decode b_M_carried 66 = .ok (.iload 4, 2) := by decide +kernel
theorem d_M_carried_68 : decode b_M_carried 68 = .ok (.invokevirtual 295, 3) := by decide +kernel
theorem d_M_carried_71 : decode b_M_carried 71 = .ok (.ireturn, 1) := by decide +kernel
theorem d_M_pop_0 : decode b_M_pop 0 = .ok (.iconst 0, 1) := by decide +kernel
theorem d_M_pop_1 : decode b_M_pop 1 = .ok (.istore_n 2, 1) := by decide +kernel
theorem d_M_pop_2 : decode b_M_pop 2 = .ok (.iload_n 2, 1) := by decide +kernel
theorem d_M_pop_3 : decode b_M_pop 3 = .ok (.iload_n 1, 1) := by decide +kernel
theorem d_M_pop_4 : decode b_M_pop 4 = .ok (.if_icmp .ge 52, 3) := by decide +kernel
theorem d_M_pop_7 : decode b_M_pop 7 = .ok (.aload_n 0, 1) := by decide +kernel
theorem d_M_pop_8 : decode b_M_pop 8 = .ok (.getfield 286, 3) := by decide +kernel
theorem d_M_pop_11 : decode b_M_pop 11 = .ok (.aload_n 0, 1) := by decide +kernel
theorem d_M_pop_12 : decode b_M_pop 12 = .ok (.getfield 90, 3) := by decide +kernel
theorem d_M_pop_15 : decode b_M_pop 15 = .ok (.aload_n 0, 1) := by decide +kernel
theorem d_M_pop_16 : decode b_M_pop 16 = .ok (.getfield 289, 3) := by decide +kernel
theorem d_M_pop_19 : decode b_M_pop 19 = .ok (.iaload, 1) := by decide +kernel
theorem d_M_pop_20 : decode b_M_pop 20 = .ok (.if_icmp .le 16, 3) := by decide +kernel
theorem d_M_pop_23 : decode b_M_pop 23 = .ok (.aload_n 0, 1) := by decide +kernel
theorem d_M_pop_24 : decode b_M_pop 24 = .ok (.dup, 1) := by decide +kernel
theorem d_M_pop_25 : decode b_M_pop 25 = .ok (.getfield 286, 3) := by decide +kernel
theorem d_M_pop_28 : decode b_M_pop 28 = .ok (.iconst 1, 1) := by decide +kernel
theorem d_M_pop_29 : decode b_M_pop 29 = .ok (.isub, 1) := by decide +kernel
theorem d_M_pop_30 : decode b_M_pop 30 = .ok (.putfield 286, 3) := by decide +kernel
theorem d_M_pop_33 : decode b_M_pop 33 = .ok (.goto 17, 3) := by decide +kernel
theorem d_M_pop_36 : decode b_M_pop 36 = .ok (.aload_n 0, 1) := by decide +kernel
theorem d_M_pop_37 : decode b_M_pop 37 = .ok (.aload_n 0, 1) := by decide +kernel
theorem d_M_pop_38 : decode b_M_pop 38 = .ok (.getfield 93, 3) := by decide +kernel
theorem d_M_pop_41 : decode b_M_pop 41 = .ok (.aload_n 0, 1) := by decide +kernel
theorem d_M_pop_42 : decode b_M_pop 42 = .ok (.getfield 289, 3) := by decide +kernel
theorem d_M_pop_45 : decode b_M_pop 45 = .ok (.baload, 1) := by decide +kernel
theorem d_M_pop_46 : decode b_M_pop 46 = .ok (.iconst 3, 1) := by decide +kernel
theorem d_M_pop_47 : decode b_M_pop 47 = .ok (.invokevirtual 158, 3) := by decide +kernel
theorem d_M_pop_50 : decode b_M_pop 50 = .ok (.iinc 2 1, 3) := by decide +kernel
theorem d_M_pop_53 : decode b_M_pop 53 = .ok (.goto (-51), 3) := by decide +kernel
theorem d_M_pop_56 : decode b_M_pop 56 = .ok (.return_, 1) := by decide +kernel
theorem d_M_kill_0 : decode b_M_kill 0 = .ok (.aload_n 0, 1) := by decide +kernel
theorem d_M_kill_1 : decode b_M_kill 1 = .ok (.aload_n 0, 1) := by decide +kernel
theorem d_M_kill_2 : decode b_M_kill 2 = .ok (.getfield 90, 3) := by decide +kernel
theorem d_M_kill_5 : decode b_M_kill 5 = .ok (.aload_n 0, 1) := by decide +kernel
theorem d_M_kill_6 : decode b_M_kill 6 = .ok (.getfield 289, 3) := by decide +kernel
theorem d_M_kill_9 : decode b_M_kill 9 = .ok (.iaload, 1) := by decide +kernel
theorem d_M_kill_10 : decode b_M_kill 10 = .ok (.putfield 286, 3) := by decide +kernel
theorem d_M_kill_13 : decode b_M_kill 13 = .ok (.aload_n 0, 1) := by decide +kernel
theorem d_M_kill_14 : decode b_M_kill 14 = .ok (.getfield 93, 3) := by decide +kernel
theorem d_M_kill_17 : decode b_M_kill 17 = .ok (.aload_n 0, 1) := by decide +kernel
theorem d_M_kill_18 : decode b_M_kill 18 = .ok (.getfield 289, 3) := by decide +kernel
theorem d_M_kill_21 : decode b_M_kill 21 = .ok (.iconst 1, 1) := by decide +kernel
theorem d_M_kill_22 : decode b_M_kill 22 = .ok (.bastore, 1) := by decide +kernel
theorem d_M_kill_23 : decode b_M_kill 23 = .ok (.return_, 1) := by decide +kernel
theorem d_M_push_0 : decode b_M_push 0 = .ok (.aload_n 0, 1) := by decide +kernel
theorem d_M_push_1 : decode b_M_push 1 = .ok (.dup, 1) := by decide +kernel
theorem d_M_push_2 : decode b_M_push 2 = .ok (.getfield 286, 3) := by decide +kernel
theorem d_M_push_5 : decode b_M_push 5 = .ok (.iload_n 1, 1) := by decide +kernel
theorem d_M_push_6 : decode b_M_push 6 = .ok (.iadd, 1) := by decide +kernel
theorem d_M_push_7 : decode b_M_push 7 = .ok (.putfield 286, 3) := by decide +kernel
theorem d_M_push_10 : decode b_M_push 10 = .ok (.aload_n 0, 1) := by decide +kernel
theorem d_M_push_11 : decode b_M_push 11 = .ok (.aload_n 0, 1) := by decide +kernel
theorem d_M_push_12 : decode b_M_push 12 = .ok (.getfield 286, 3) := by decide +kernel
theorem d_M_push_15 : decode b_M_push 15 = .ok (.bipush 16, 2) := by decide +kernel
theorem d_M_push_17 : decode b_M_push 17 = .ok (.if_icmp .gt 7, 3) := by decide +kernel
theorem d_M_push_20 : decode b_M_push 20 = .ok (.iconst 1, 1) := by decide +kernel
theorem d_M_push_21 : decode b_M_push 21 = .ok (.goto 4, 3) := by decide +kernel
theorem d_M_push_24 : decode b_M_push 24 = .ok (.iconst 0, 1) := by decide +kernel
theorem d_M_push_25 : decode b_M_push 25 = .ok (.iconst 2, 1) := by decide +kernel
theorem d_M_push_26 : decode b_M_push 26 = .ok (.invokevirtual 158, 3) := by decide +kernel
theorem d_M_push_29 : decode b_M_push 29 = .ok (.return_, 1) := by decide +kernel
theorem d_M_validateJump_0 : decode b_M_validateJump 0 = .ok (.aload_n 0, 1) := by decide +kernel
theorem d_M_validateJump_1 : decode b_M_validateJump 1 = .ok (.getfield 51, 3) := by decide +kernel
theorem d_M_validateJump_4 : decode b_M_validateJump 4 = .ok (.iload_n 2, 1) := by decide +kernel
theorem d_M_validateJump_5 : decode b_M_validateJump 5 = .ok (.iaload, 1) := by decide +kernel
theorem d_M_validateJump_6 : decode b_M_validateJump 6 = .ok (.istore_n 3, 1) := by decide +kernel
theorem d_M_validateJump_7 : decode b_M_validateJump 7 = .ok (.iload_n 3, 1) := by decide +kernel
theorem d_M_validateJump_8 : decode b_M_validateJump 8 = .ok (.bipush 12, 2) := by decide +kernel
theorem d_M_validateJump_10 : decode b_M_validateJump 10 = .ok (.if_icmp .ne 25, 3) := by decide +kernel
theorem d_M_validateJump_13 : decode b_M_validateJump 13 = .ok (.aload_n 0, 1) := by decide +kernel
theorem d_M_validateJump_14 : decode b_M_validateJump 14 = .ok (.aload_n 0, 1) := by decide +kernel
theorem d_M_validateJump_15 : decode b_M_validateJump 15 = .ok (.iload_n 1, 1) := by decide +kernel
theorem d_M_validateJump_16 : decode b_M_validateJump 16 = .ok (.aload_n 0, 1) := by decide +kernel
theorem d_M_validateJump_17 : decode b_M_validateJump 17 = .ok (.getfield 54, 3) := by decide +kernel
theorem d_M_validateJump_20 : decode b_M_validateJump 20 = .ok (.iload_n 2, 1) := by decide +kernel
theorem d_M_validateJump_21 : decode b_M_validateJump 21 = .ok (.laload, 1) := by decide +kernel
theorem d_M_validateJump_22 : decode b_M_validateJump 22 = .ok (.invokevirtual 318, 3) := by decide +kernel
theorem d_M_validateJump_25 : decode b_M_validateJump 25 = .ok (.invokevirtual 312, 3) := by decide +kernel
theorem d_M_validateJump_28 : decode b_M_validateJump 28 = .ok (.aload_n 0, 1) := by decide +kernel
theorem d_M_validateJump_29 : decode b_M_validateJump 29 = .ok (.invokevirtual 309, 3) := by decide +kernel
theorem d_M_validateJump_32 : decode b_M_validateJump 32 = .ok (.goto 239, 3) := by decide +kernel
theorem d_M_validateJump_35 : decode b_M_validateJump 35 = .ok (.iload_n 3, 1) := by decide +kernel
theorem d_M_validateJump_36 : decode b_M_validateJump 36 = .ok (.bipush 13, 2) := by decide +kernel
theorem d_M_validateJump_38 : decode b_M_validateJump 38 = .ok (.if_icmp .ne 36, 3) := by decide +kernel
theorem d_M_validateJump_41 : decode b_M_validateJump 41 = .ok (.aload_n 0, 1) := by decide +kernel
theorem d_M_validateJump_42 : decode b_M_validateJump 42 = .ok (.iconst 1, 1) := by decide +kernel
theorem d_M_validateJump_43 : decode b_M_validateJump 43 = .ok (.invokevirtual 312, 3) := by decide +kernel
theorem d_M_validateJump_46 : decode b_M_validateJump 46 = .ok (.aload_n 0, 1) := by decide +kernel
theorem d_M_validateJump_47 : decode b_M_validateJump 47 = .ok (.iload_n 1, 1) := by decide +kernel
theorem d_M_validateJump_48 : decode b_M_validateJump 48 = .ok (.aload_n 0, 1) := by decide +kernel
theorem d_M_validateJump_49 : decode b_M_validateJump 49 = .ok (.getfield 54, 3) := by decide +kernel
theorem d_M_validateJump_52 : decode b_M_validateJump 52 = .ok (.iload_n 2, 1) := by decide +kernel
theorem d_M_validateJump_53 : decode b_M_validateJump 53 = .ok (.laload, 1) := by decide +kernel
theorem d_M_validateJump_54 : decode b_M_validateJump 54 = .ok (.invokevirtual 318, 3) := by decide +kernel
theorem d_M_validateJump_57 : decode b_M_validateJump 57 = .ok (.istore 4, 2) := by decide +kernel
theorem d_M_validateJump_59 : decode b_M_validateJump 59 = .ok (.aload_n 0, 1) := by decide +kernel
theorem d_M_validateJump_60 : decode b_M_validateJump 60 = .ok (.iload 4, 2) := by decide +kernel
theorem d_M_validateJump_62 : decode b_M_validateJump 62 = .ok (.invokevirtual 312, 3) := by decide +kernel
theorem d_M_validateJump_65 : decode b_M_validateJump 65 = .ok (.aload_n 0, 1) := by decide +kernel
theorem d_M_validateJump_66 : decode b_M_validateJump 66 = .ok (.iload 4, 2) := by decide +kernel
theorem d_M_validateJump_68 : decode b_M_validateJump 68 = .ok (.invokevirtual 315, 3) := by decide +kernel
theorem d_M_validateJump_71 : decode b_M_validateJump 71 = .ok (.goto 200, 3) := by decide +kernel
theorem d_M_validateJump_74 : decode b_M_validateJump 74 = .ok (.iload_n 3, 1) := by decide +kernel
theorem d_M_validateJump_75 : decode b_M_validateJump 75 = .ok (.bipush 14, 2) := by decide +kernel
theorem d_M_validateJump_77 : decode b_M_validateJump 77 = .ok (.if_icmp .ne 102, 3) := by decide +kernel
theorem d_M_validateJump_80 : decode b_M_validateJump 80 = .ok (.aload_n 0, 1) := by decide +kernel
theorem d_M_validateJump_81 : decode b_M_validateJump 81 = .ok (.getfield 57, 3) := by decide +kernel
theorem d_M_validateJump_84 : decode b_M_validateJump 84 = .ok (.iload_n 2, 1) := by decide +kernel
theorem d_M_validateJump_85 : decode b_M_validateJump 85 = .ok (.laload, 1) := by decide +kernel
theorem d_M_validateJump_86 : decode b_M_validateJump 86 = .ok (.l2i, 1) := by decide +kernel
theorem d_M_validateJump_87 : decode b_M_validateJump 87 = .ok (.istore 4, 2) := by decide +kernel
theorem d_M_validateJump_89 : decode b_M_validateJump 89 = .ok (.aload_n 0, 1) := by decide +kernel
theorem d_M_validateJump_90 : decode b_M_validateJump 90 = .ok (.getfield 54, 3) := by decide +kernel
theorem d_M_validateJump_93 : decode b_M_validateJump 93 = .ok (.iload_n 2, 1) := by decide +kernel
theorem d_M_validateJump_94 : decode b_M_validateJump 94 = .ok (.laload, 1) := by decide +kernel
theorem d_M_validateJump_95 : decode b_M_validateJump 95 = .ok (.l2i, 1) := by decide +kernel
theorem d_M_validateJump_96 : decode b_M_validateJump 96 = .ok (.istore 5, 2) := by decide +kernel
theorem d_M_validateJump_98 : decode b_M_validateJump 98 = .ok (.aload_n 0, 1) := by decide +kernel
theorem d_M_validateJump_99 : decode b_M_validateJump 99 = .ok (.iload_n 1, 1) := by decide +kernel
theorem d_M_validateJump_100 : decode b_M_validateJump 100 = .ok (.aload_n 0, 1) := by decide +kernel
theorem d_M_validateJump_101 : decode b_M_validateJump 101 = .ok (.getfield 84, 3) := by decide +kernel
theorem d_M_validateJump_104 : decode b_M_validateJump 104 = .ok (.iload 4, 2) := by decide +kernel
theorem d_M_validateJump_106 : decode b_M_validateJump 106 = .ok (.iload 5, 2) := by decide +kernel
theorem d_M_validateJump_108 : decode b_M_validateJump 108 = .ok (.iadd, 1) := by decide +kernel
theorem d_M_validateJump_109 : decode b_M_validateJump 109 = .ok (.laload, 1) := by decide +kernel
theorem d_M_validateJump_110 : decode b_M_validateJump 110 = .ok (.invokevirtual 318, 3) := by decide +kernel
theorem d_M_validateJump_113 : decode b_M_validateJump 113 = .ok (.istore 6, 2) := by decide +kernel
theorem d_M_validateJump_115 : decode b_M_validateJump 115 = .ok (.iconst 0, 1) := by decide +kernel
theorem d_M_validateJump_116 : decode b_M_validateJump 116 = .ok (.istore 7, 2) := by decide +kernel
theorem d_M_validateJump_118 : decode b_M_validateJump 118 = .ok (.iload 7, 2) := by decide +kernel
theorem d_M_validateJump_120 : decode b_M_validateJump 120 = .ok (.iload 5, 2) := by decide +kernel
theorem d_M_validateJump_122 : decode b_M_validateJump 122 = .ok (.if_icmp .ge 39, 3) := by decide +kernel
theorem d_M_validateJump_125 : decode b_M_validateJump 125 = .ok (.aload_n 0, 1) := by decide +kernel
theorem d_M_validateJump_126 : decode b_M_validateJump 126 = .ok (.aload_n 0, 1) := by decide +kernel
theorem d_M_validateJump_127 : decode b_M_validateJump 127 = .ok (.iload_n 1, 1) := by decide +kernel
theorem d_M_validateJump_128 : decode b_M_validateJump 128 = .ok (.aload_n 0, 1) := by decide +kernel
theorem d_M_validateJump_129 : decode b_M_validateJump 129 = .ok (.getfield 84, 3) := by decide +kernel
theorem d_M_validateJump_132 : decode b_M_validateJump 132 = .ok (.iload 4, 2) := by decide +kernel
theorem d_M_validateJump_134 : decode b_M_validateJump 134 = .ok (.iload 7, 2) := by decide +kernel
theorem d_M_validateJump_136 : decode b_M_validateJump 136 = .ok (.iadd, 1) := by decide +kernel
theorem d_M_validateJump_137 : decode b_M_validateJump 137 = .ok (.laload, 1) := by decide +kernel
theorem d_M_validateJump_138 : decode b_M_validateJump 138 = .ok (.invokevirtual 318, 3) := by decide +kernel
theorem d_M_validateJump_141 : decode b_M_validateJump 141 = .ok (.iload 6, 2) := by decide +kernel
theorem d_M_validateJump_143 : decode b_M_validateJump 143 = .ok (.if_icmp .ne 7, 3) := by decide +kernel
theorem d_M_validateJump_146 : decode b_M_validateJump 146 = .ok (.iconst 1, 1) := by decide +kernel
theorem d_M_validateJump_147 : decode b_M_validateJump 147 = .ok (.goto 4, 3) := by decide +kernel
theorem d_M_validateJump_150 : decode b_M_validateJump 150 = .ok (.iconst 0, 1) := by decide +kernel
theorem d_M_validateJump_151 : decode b_M_validateJump 151 = .ok (.iconst 3, 1) := by decide +kernel
theorem d_M_validateJump_152 : decode b_M_validateJump 152 = .ok (.invokevirtual 158, 3) := by decide +kernel
theorem d_M_validateJump_155 : decode b_M_validateJump 155 = .ok (.iinc 7 1, 3) := by decide +kernel
theorem d_M_validateJump_158 : decode b_M_validateJump 158 = .ok (.goto (-40), 3) := by decide +kernel
theorem d_M_validateJump_161 : decode b_M_validateJump 161 = .ok (.aload_n 0, 1) := by decide +kernel
theorem d_M_validateJump_162 : decode b_M_validateJump 162 = .ok (.iconst 1, 1) := by decide +kernel
theorem d_M_validateJump_163 : decode b_M_validateJump 163 = .ok (.invokevirtual 312, 3) := by decide +kernel
theorem d_M_validateJump_166 : decode b_M_validateJump 166 = .ok (.aload_n 0, 1) := by decide +kernel
theorem d_M_validateJump_167 : decode b_M_validateJump 167 = .ok (.iload 6, 2) := by decide +kernel
theorem d_M_validateJump_169 : decode b_M_validateJump 169 = .ok (.invokevirtual 312, 3) := by decide +kernel
theorem d_M_validateJump_172 : decode b_M_validateJump 172 = .ok (.aload_n 0, 1) := by decide +kernel
theorem d_M_validateJump_173 : decode b_M_validateJump 173 = .ok (.invokevirtual 309, 3) := by decide +kernel
theorem d_M_validateJump_176 : decode b_M_validateJump 176 = .ok (.goto 95, 3) := by decide +kernel
theorem d_M_validateJump_179 : decode b_M_validateJump 179 = .ok (.iload_n 3, 1) := by decide +kernel
theorem d_M_validateJump_180 : decode b_M_validateJump 180 = .ok (.bipush 15, 2) := by decide +kernel
theorem d_M_validateJump_182 : decode b_M_validateJump 182 = .ok (.if_icmp .ne 19, 3) := by decide +kernel
theorem d_M_validateJump_185 : decode b_M_validateJump 185 = .ok (.aload_n 0, 1) := by decide +kernel
theorem d_M_validateJump_186 : decode b_M_validateJump 186 = .ok (.aload_n 0, 1) := by decide +kernel
theorem d_M_validateJump_187 : decode b_M_validateJump 187 = .ok (.iload_n 1, 1) := by decide +kernel
theorem d_M_validateJump_188 : decode b_M_validateJump 188 = .ok (.invokevirtual 292, 3) := by decide +kernel
theorem d_M_validateJump_191 : decode b_M_validateJump 191 = .ok (.invokevirtual 312, 3) := by decide +kernel
theorem d_M_validateJump_194 : decode b_M_validateJump 194 = .ok (.aload_n 0, 1) := by decide +kernel
theorem d_M_validateJump_195 : decode b_M_validateJump 195 = .ok (.invokevirtual 309, 3) := by decide +kernel
theorem d_M_validateJump_198 : decode b_M_validateJump 198 = .ok (.goto 73, 3) := by decide +kernel
theorem d_M_validateJump_201 : decode b_M_validateJump 201 = .ok (.aload_n 0, 1) := by decide +kernel
theorem d_M_validateJump_202 : decode b_M_validateJump 202 = .ok (.aload_n 0, 1) := by decide +kernel
theorem d_M_validateJump_203 : decode b_M_validateJump 203 = .ok (.getfield 54, 3) := by decide +kernel
theorem d_M_validateJump_206 : decode b_M_validateJump 206 = .ok (.iload_n 2, 1) := by decide +kernel
theorem d_M_validateJump_207 : decode b_M_validateJump 207 = .ok (.laload, 1) := by decide +kernel
theorem d_M_validateJump_208 : decode b_M_validateJump 208 = .ok (.aload_n 0, 1) := by decide +kernel
theorem d_M_validateJump_209 : decode b_M_validateJump 209 = .ok (.getfield 188, 3) := by decide +kernel
theorem d_M_validateJump_212 : decode b_M_validateJump 212 = .ok (.i2l, 1) := by decide +kernel
theorem d_M_validateJump_213 : decode b_M_validateJump 213 = .ok (.lcmp, 1) := by decide +kernel
theorem d_M_validateJump_214 : decode b_M_validateJump 214 = .ok (.ifCond .ge 7, 3) := by decide +kernel
theorem d_M_validateJump_217 : decode b_M_validateJump 217 = .ok (.iconst 1, 1) := by decide +kernel
theorem d_M_validateJump_218 : decode b_M_validateJump 218 = .ok (.goto 4, 3) := by decide +kernel
theorem d_M_validateJump_221 : decode b_M_validateJump 221 = .ok (.iconst 0, 1) := by decide +kernel
theorem d_M_validateJump_222 : decode b_M_validateJump 222 = .ok (.iconst 3, 1) := by decide +kernel
theorem d_M_validateJump_223 : decode b_M_validateJump 223 = .ok (.invokevirtual 158, 3) := by decide +kernel
theorem d_M_validateJump_226 : decode b_M_validateJump 226 = .ok (.aload_n 0, 1) := by decide +kernel
theorem d_M_validateJump_227 : decode b_M_validateJump 227 = .ok (.getfield 149, 3) := by decide +kernel
theorem d_M_validateJump_230 : decode b_M_validateJump 230 = .ok (.ifCond .le 4, 3) := by decide +kernel
theorem d_M_validateJump_233 : decode b_M_validateJump 233 = .ok (.return_, 1) := by decide +kernel
theorem d_M_validateJump_234 : decode b_M_validateJump 234 = .ok (.aload_n 0, 1) := by decide +kernel
theorem d_M_validateJump_235 : decode b_M_validateJump 235 = .ok (.aload_n 0, 1) := by decide +kernel
theorem d_M_validateJump_236 : decode b_M_validateJump 236 = .ok (.getfield 13, 3) := by decide +kernel
theorem d_M_validateJump_239 : decode b_M_validateJump 239 = .ok (.aload_n 0, 1) := by decide +kernel
theorem d_M_validateJump_240 : decode b_M_validateJump 240 = .ok (.getfield 19, 3) := by decide +kernel
theorem d_M_validateJump_243 : decode b_M_validateJump 243 = .ok (.aload_n 0, 1) := by decide +kernel
theorem d_M_validateJump_244 : decode b_M_validateJump 244 = .ok (.getfield 54, 3) := by decide +kernel
theorem d_M_validateJump_247 : decode b_M_validateJump 247 = .ok (.iload_n 2, 1) := by decide +kernel
theorem d_M_validateJump_248 : decode b_M_validateJump 248 = .ok (.laload, 1) := by decide +kernel
theorem d_M_validateJump_249 : decode b_M_validateJump 249 = .ok (.l2i, 1) := by decide +kernel
theorem d_M_validateJump_250 : decode b_M_validateJump 250 = .ok (.laload, 1) := by decide +kernel
theorem d_M_validateJump_251 : decode b_M_validateJump 251 = .ok (.l2i, 1) := by decide +kernel
theorem d_M_validateJump_252 : decode b_M_validateJump 252 = .ok (.iaload, 1) := by decide +kernel
theorem d_M_validateJump_253 : decode b_M_validateJump 253 = .ok (.invokevirtual 312, 3) := by decide +kernel
theorem d_M_validateJump_256 : decode b_M_validateJump 256 = .ok (.aload_n 0, 1) := by decide +kernel
theorem d_M_validateJump_257 : decode b_M_validateJump 257 = .ok (.aload_n 0, 1) := by decide +kernel
theorem d_M_validateJump_258 : decode b_M_validateJump 258 = .ok (.aload_n 0, 1) := by decide +kernel
theorem d_M_validateJump_259 : decode b_M_validateJump 259 = .ok (.getfield 54, 3) := by decide +kernel
theorem d_M_validateJump_262 : decode b_M_validateJump 262 = .ok (.iload_n 2, 1) := by decide +kernel
theorem d_M_validateJump_263 : decode b_M_validateJump 263 = .ok (.laload, 1) := by decide +kernel
theorem d_M_validateJump_264 : decode b_M_validateJump 264 = .ok (.l2i, 1) := by decide +kernel
theorem d_M_validateJump_265 : decode b_M_validateJump 265 = .ok (.invokevirtual 292, 3) := by decide +kernel
theorem d_M_validateJump_268 : decode b_M_validateJump 268 = .ok (.invokevirtual 315, 3) := by decide +kernel
theorem d_M_validateJump_271 : decode b_M_validateJump 271 = .ok (.return_, 1) := by decide +kernel
