/-! what each instruction is, by program -/
theorem dM_init_0 : decode cM_init 0 = .ok (.aload_n 0, 1) := by decide +kernel
theorem dM_init_1 : decode cM_init 1 = .ok (.invokespecial 1, 3) := by decide +kernel
theorem dM_init_4 : decode cM_init 4 = .ok (.aload_n 0, 1) := by decide +kernel
theorem dM_init_5 : decode cM_init 5 = .ok (.bipush 6, 2) := by decide +kernel
theorem dM_init_7 : decode cM_init 7 = .ok (.newarray .int, 2) := by decide +kernel
theorem dM_init_9 : decode cM_init 9 = .ok (.putfield 7, 3) := by decide +kernel
theorem dM_init_12 : decode cM_init 12 = .ok (.aload_n 0, 1) := by decide +kernel
theorem dM_init_13 : decode cM_init 13 = .ok (.bipush 6, 2) := by decide +kernel
theorem dM_init_15 : decode cM_init 15 = .ok (.newarray .int, 2) := by decide +kernel
theorem dM_init_17 : decode cM_init 17 = .ok (.putfield 13, 3) := by decide +kernel
theorem dM_init_20 : decode cM_init 20 = .ok (.aload_n 0, 1) := by decide +kernel
theorem dM_init_21 : decode cM_init 21 = .ok (.bipush 6, 2) := by decide +kernel
theorem dM_init_23 : decode cM_init 23 = .ok (.newarray .boolean, 2) := by decide +kernel
theorem dM_init_25 : decode cM_init 25 = .ok (.putfield 16, 3) := by decide +kernel
theorem dM_init_28 : decode cM_init 28 = .ok (.aload_n 0, 1) := by decide +kernel
theorem dM_init_29 : decode cM_init 29 = .ok (.bipush 6, 2) := by decide +kernel
theorem dM_init_31 : decode cM_init 31 = .ok (.newarray .boolean, 2) := by decide +kernel
theorem dM_init_33 : decode cM_init 33 = .ok (.putfield 20, 3) := by decide +kernel
theorem dM_init_36 : decode cM_init 36 = .ok (.aload_n 0, 1) := by decide +kernel
theorem dM_init_37 : decode cM_init 37 = .ok (.bipush 24, 2) := by decide +kernel
theorem dM_init_39 : decode cM_init 39 = .ok (.newarray .int, 2) := by decide +kernel
theorem dM_init_41 : decode cM_init 41 = .ok (.putfield 23, 3) := by decide +kernel
theorem dM_init_44 : decode cM_init 44 = .ok (.aload_n 0, 1) := by decide +kernel
theorem dM_init_45 : decode cM_init 45 = .ok (.bipush 24, 2) := by decide +kernel
theorem dM_init_47 : decode cM_init 47 = .ok (.newarray .int, 2) := by decide +kernel
theorem dM_init_49 : decode cM_init 49 = .ok (.putfield 26, 3) := by decide +kernel
theorem dM_init_52 : decode cM_init 52 = .ok (.aload_n 0, 1) := by decide +kernel
theorem dM_init_53 : decode cM_init 53 = .ok (.bipush 24, 2) := by decide +kernel
theorem dM_init_55 : decode cM_init 55 = .ok (.newarray .boolean, 2) := by decide +kernel
theorem dM_init_57 : decode cM_init 57 = .ok (.putfield 29, 3) := by decide +kernel
theorem dM_init_60 : decode cM_init 60 = .ok (.aload_n 0, 1) := by decide +kernel
theorem dM_init_61 : decode cM_init 61 = .ok (.bipush 24, 2) := by decide +kernel
theorem dM_init_63 : decode cM_init 63 = .ok (.newarray .int, 2) := by decide +kernel
theorem dM_init_65 : decode cM_init 65 = .ok (.putfield 32, 3) := by decide +kernel
theorem dM_init_68 : decode cM_init 68 = .ok (.aload_n 0, 1) := by decide +kernel
theorem dM_init_69 : decode cM_init 69 = .ok (.bipush 24, 2) := by decide +kernel
theorem dM_init_71 : decode cM_init 71 = .ok (.newarray .int, 2) := by decide +kernel
theorem dM_init_73 : decode cM_init 73 = .ok (.putfield 35, 3) := by decide +kernel
theorem dM_init_76 : decode cM_init 76 = .ok (.aload_n 0, 1) := by decide +kernel
theorem dM_init_77 : decode cM_init 77 = .ok (.bipush 10, 2) := by decide +kernel
theorem dM_init_79 : decode cM_init 79 = .ok (.newarray .int, 2) := by decide +kernel
theorem dM_init_81 : decode cM_init 81 = .ok (.putfield 38, 3) := by decide +kernel
theorem dM_init_84 : decode cM_init 84 = .ok (.aload_n 0, 1) := by decide +kernel
theorem dM_init_85 : decode cM_init 85 = .ok (.bipush 10, 2) := by decide +kernel
theorem dM_init_87 : decode cM_init 87 = .ok (.newarray .int, 2) := by decide +kernel
theorem dM_init_89 : decode cM_init 89 = .ok (.putfield 41, 3) := by decide +kernel
theorem dM_init_92 : decode cM_init 92 = .ok (.aload_n 0, 1) := by decide +kernel
theorem dM_init_93 : decode cM_init 93 = .ok (.bipush 10, 2) := by decide +kernel
theorem dM_init_95 : decode cM_init 95 = .ok (.newarray .int, 2) := by decide +kernel
theorem dM_init_97 : decode cM_init 97 = .ok (.putfield 44, 3) := by decide +kernel
theorem dM_init_100 : decode cM_init 100 = .ok (.aload_n 0, 1) := by decide +kernel
theorem dM_init_101 : decode cM_init 101 = .ok (.bipush 10, 2) := by decide +kernel
theorem dM_init_103 : decode cM_init 103 = .ok (.newarray .boolean, 2) := by decide +kernel
theorem dM_init_105 : decode cM_init 105 = .ok (.putfield 47, 3) := by decide +kernel
theorem dM_init_108 : decode cM_init 108 = .ok (.aload_n 0, 1) := by decide +kernel
theorem dM_init_109 : decode cM_init 109 = .ok (.bipush 6, 2) := by decide +kernel
theorem dM_init_111 : decode cM_init 111 = .ok (.newarray .int, 2) := by decide +kernel
theorem dM_init_113 : decode cM_init 113 = .ok (.putfield 50, 3) := by decide +kernel
theorem dM_init_116 : decode cM_init 116 = .ok (.aload_n 0, 1) := by decide +kernel
theorem dM_init_117 : decode cM_init 117 = .ok (.bipush 6, 2) := by decide +kernel
theorem dM_init_119 : decode cM_init 119 = .ok (.newarray .int, 2) := by decide +kernel
theorem dM_init_121 : decode cM_init 121 = .ok (.putfield 53, 3) := by decide +kernel
theorem dM_init_124 : decode cM_init 124 = .ok (.aload_n 0, 1) := by decide +kernel
theorem dM_init_125 : decode cM_init 125 = .ok (.iconst (-1), 1) := by decide +kernel
theorem dM_init_126 : decode cM_init 126 = .ok (.putfield 56, 3) := by decide +kernel
theorem dM_init_129 : decode cM_init 129 = .ok (.aload_n 0, 1) := by decide +kernel
theorem dM_init_130 : decode cM_init 130 = .ok (.bipush 48, 2) := by decide +kernel
theorem dM_init_132 : decode cM_init 132 = .ok (.newarray .boolean, 2) := by decide +kernel
theorem dM_init_134 : decode cM_init 134 = .ok (.putfield 60, 3) := by decide +kernel
theorem dM_init_137 : decode cM_init 137 = .ok (.aload_n 0, 1) := by decide +kernel
theorem dM_init_138 : decode cM_init 138 = .ok (.bipush 48, 2) := by decide +kernel
theorem dM_init_140 : decode cM_init 140 = .ok (.newarray .int, 2) := by decide +kernel
theorem dM_init_142 : decode cM_init 142 = .ok (.putfield 63, 3) := by decide +kernel
theorem dM_init_145 : decode cM_init 145 = .ok (.aload_n 0, 1) := by decide +kernel
theorem dM_init_146 : decode cM_init 146 = .ok (.bipush 48, 2) := by decide +kernel
theorem dM_init_148 : decode cM_init 148 = .ok (.newarray .int, 2) := by decide +kernel
theorem dM_init_150 : decode cM_init 150 = .ok (.putfield 66, 3) := by decide +kernel
theorem dM_init_153 : decode cM_init 153 = .ok (.aload_n 0, 1) := by decide +kernel
theorem dM_init_154 : decode cM_init 154 = .ok (.bipush 48, 2) := by decide +kernel
theorem dM_init_156 : decode cM_init 156 = .ok (.newarray .int, 2) := by decide +kernel
theorem dM_init_158 : decode cM_init 158 = .ok (.putfield 69, 3) := by decide +kernel
theorem dM_init_161 : decode cM_init 161 = .ok (.aload_n 0, 1) := by decide +kernel
theorem dM_init_162 : decode cM_init 162 = .ok (.bipush 48, 2) := by decide +kernel
theorem dM_init_164 : decode cM_init 164 = .ok (.newarray .int, 2) := by decide +kernel
theorem dM_init_166 : decode cM_init 166 = .ok (.putfield 72, 3) := by decide +kernel
theorem dM_init_169 : decode cM_init 169 = .ok (.aload_n 0, 1) := by decide +kernel
theorem dM_init_170 : decode cM_init 170 = .ok (.bipush 48, 2) := by decide +kernel
theorem dM_init_172 : decode cM_init 172 = .ok (.newarray .int, 2) := by decide +kernel
theorem dM_init_174 : decode cM_init 174 = .ok (.putfield 75, 3) := by decide +kernel
theorem dM_init_177 : decode cM_init 177 = .ok (.aload_n 0, 1) := by decide +kernel
theorem dM_init_178 : decode cM_init 178 = .ok (.bipush 48, 2) := by decide +kernel
theorem dM_init_180 : decode cM_init 180 = .ok (.newarray .boolean, 2) := by decide +kernel
theorem dM_init_182 : decode cM_init 182 = .ok (.putfield 78, 3) := by decide +kernel
theorem dM_init_185 : decode cM_init 185 = .ok (.aload_n 0, 1) := by decide +kernel
theorem dM_init_186 : decode cM_init 186 = .ok (.bipush 24, 2) := by decide +kernel
theorem dM_init_188 : decode cM_init 188 = .ok (.newarray .boolean, 2) := by decide +kernel
theorem dM_init_190 : decode cM_init 190 = .ok (.putfield 81, 3) := by decide +kernel
theorem dM_init_193 : decode cM_init 193 = .ok (.aload_n 0, 1) := by decide +kernel
theorem dM_init_194 : decode cM_init 194 = .ok (.bipush 24, 2) := by decide +kernel
theorem dM_init_196 : decode cM_init 196 = .ok (.newarray .int, 2) := by decide +kernel
theorem dM_init_198 : decode cM_init 198 = .ok (.putfield 84, 3) := by decide +kernel
theorem dM_init_201 : decode cM_init 201 = .ok (.aload_n 0, 1) := by decide +kernel
theorem dM_init_202 : decode cM_init 202 = .ok (.bipush 24, 2) := by decide +kernel
theorem dM_init_204 : decode cM_init 204 = .ok (.newarray .int, 2) := by decide +kernel
theorem dM_init_206 : decode cM_init 206 = .ok (.putfield 87, 3) := by decide +kernel
theorem dM_init_209 : decode cM_init 209 = .ok (.aload_n 0, 1) := by decide +kernel
theorem dM_init_210 : decode cM_init 210 = .ok (.sipush 168, 3) := by decide +kernel
theorem dM_init_213 : decode cM_init 213 = .ok (.newarray .int, 2) := by decide +kernel
theorem dM_init_215 : decode cM_init 215 = .ok (.putfield 90, 3) := by decide +kernel
theorem dM_init_218 : decode cM_init 218 = .ok (.aload_n 0, 1) := by decide +kernel
theorem dM_init_219 : decode cM_init 219 = .ok (.sipush 168, 3) := by decide +kernel
theorem dM_init_222 : decode cM_init 222 = .ok (.newarray .int, 2) := by decide +kernel
theorem dM_init_224 : decode cM_init 224 = .ok (.putfield 93, 3) := by decide +kernel
theorem dM_init_227 : decode cM_init 227 = .ok (.aload_n 0, 1) := by decide +kernel
theorem dM_init_228 : decode cM_init 228 = .ok (.bipush 64, 2) := by decide +kernel
theorem dM_init_230 : decode cM_init 230 = .ok (.newarray .int, 2) := by decide +kernel
theorem dM_init_232 : decode cM_init 232 = .ok (.putfield 96, 3) := by decide +kernel
theorem dM_init_235 : decode cM_init 235 = .ok (.aload_n 0, 1) := by decide +kernel
theorem dM_init_236 : decode cM_init 236 = .ok (.bipush 64, 2) := by decide +kernel
theorem dM_init_238 : decode cM_init 238 = .ok (.newarray .int, 2) := by decide +kernel
theorem dM_init_240 : decode cM_init 240 = .ok (.putfield 99, 3) := by decide +kernel
theorem dM_init_243 : decode cM_init 243 = .ok (.aload_n 0, 1) := by decide +kernel
theorem dM_init_244 : decode cM_init 244 = .ok (.iload_n 1, 1) := by decide +kernel
theorem dM_init_245 : decode cM_init 245 = .ok (.bipush 6, 2) := by decide +kernel
theorem dM_init_247 : decode cM_init 247 = .ok (.bipush 12, 2) := by decide +kernel
theorem dM_init_249 : decode cM_init 249 = .ok (.invokestatic 102, 3) := by decide +kernel
theorem dM_init_252 : decode cM_init 252 = .ok (.putfield 106, 3) := by decide +kernel
theorem dM_init_255 : decode cM_init 255 = .ok (.aload_n 0, 1) := by decide +kernel
theorem dM_init_256 : decode cM_init 256 = .ok (.iload_n 2, 1) := by decide +kernel
theorem dM_init_257 : decode cM_init 257 = .ok (.iconst 1, 1) := by decide +kernel
theorem dM_init_258 : decode cM_init 258 = .ok (.iconst 4, 1) := by decide +kernel
theorem dM_init_259 : decode cM_init 259 = .ok (.invokestatic 102, 3) := by decide +kernel
theorem dM_init_262 : decode cM_init 262 = .ok (.putfield 109, 3) := by decide +kernel
theorem dM_init_265 : decode cM_init 265 = .ok (.aload_n 0, 1) := by decide +kernel
theorem dM_init_266 : decode cM_init 266 = .ok (.iload_n 3, 1) := by decide +kernel
theorem dM_init_267 : decode cM_init 267 = .ok (.iconst 5, 1) := by decide +kernel
theorem dM_init_268 : decode cM_init 268 = .ok (.bipush 40, 2) := by decide +kernel
theorem dM_init_270 : decode cM_init 270 = .ok (.invokestatic 102, 3) := by decide +kernel
theorem dM_init_273 : decode cM_init 273 = .ok (.putfield 112, 3) := by decide +kernel
theorem dM_init_276 : decode cM_init 276 = .ok (.iconst 0, 1) := by decide +kernel
theorem dM_init_277 : decode cM_init 277 = .ok (.istore 4, 2) := by decide +kernel
theorem dM_init_279 : decode cM_init 279 = .ok (.iload 4, 2) := by decide +kernel
theorem dM_init_281 : decode cM_init 281 = .ok (.bipush 24, 2) := by decide +kernel
theorem dM_init_283 : decode cM_init 283 = .ok (.if_icmp .ge 17, 3) := by decide +kernel
theorem dM_init_286 : decode cM_init 286 = .ok (.aload_n 0, 1) := by decide +kernel
theorem dM_init_287 : decode cM_init 287 = .ok (.getfield 35, 3) := by decide +kernel
theorem dM_init_290 : decode cM_init 290 = .ok (.iload 4, 2) := by decide +kernel
theorem dM_init_292 : decode cM_init 292 = .ok (.iconst 1, 1) := by decide +kernel
theorem dM_init_293 : decode cM_init 293 = .ok (.iastore, 1) := by decide +kernel
theorem dM_init_294 : decode cM_init 294 = .ok (.iinc 4 1, 3) := by decide +kernel
theorem dM_init_297 : decode cM_init 297 = .ok (.goto (-18), 3) := by decide +kernel
theorem dM_init_300 : decode cM_init 300 = .ok (.return_, 1) := by decide +kernel
theorem dM_near_0 : decode cM_near 0 = .ok (.iload_n 0, 1) := by decide +kernel
theorem dM_near_1 : decode cM_near 1 = .ok (.iload_n 1, 1) := by decide +kernel
theorem dM_near_2 : decode cM_near 2 = .ok (.if_icmp .ge 7, 3) := by decide +kernel
theorem dM_near_5 : decode cM_near 5 = .ok (.iload_n 1, 1) := by decide +kernel
theorem dM_near_6 : decode cM_near 6 = .ok (.goto 13, 3) := by decide +kernel
theorem dM_near_9 : decode cM_near 9 = .ok (.iload_n 0, 1) := by decide +kernel
theorem dM_near_10 : decode cM_near 10 = .ok (.iload_n 2, 1) := by decide +kernel
theorem dM_near_11 : decode cM_near 11 = .ok (.if_icmp .le 7, 3) := by decide +kernel
theorem dM_near_14 : decode cM_near 14 = .ok (.iload_n 2, 1) := by decide +kernel
theorem dM_near_15 : decode cM_near 15 = .ok (.goto 4, 3) := by decide +kernel
theorem dM_near_18 : decode cM_near 18 = .ok (.iload_n 0, 1) := by decide +kernel
theorem dM_near_19 : decode cM_near 19 = .ok (.ireturn, 1) := by decide +kernel
theorem dM_isPlace_0 : decode cM_isPlace 0 = .ok (.iload_n 1, 1) := by decide +kernel
theorem dM_isPlace_1 : decode cM_isPlace 1 = .ok (.ifCond .lt 17, 3) := by decide +kernel
theorem dM_isPlace_4 : decode cM_isPlace 4 = .ok (.iload_n 1, 1) := by decide +kernel
theorem dM_isPlace_5 : decode cM_isPlace 5 = .ok (.iconst 4, 1) := by decide +kernel
theorem dM_isPlace_6 : decode cM_isPlace 6 = .ok (.aload_n 0, 1) := by decide +kernel
theorem dM_isPlace_7 : decode cM_isPlace 7 = .ok (.getfield 115, 3) := by decide +kernel
theorem dM_isPlace_10 : decode cM_isPlace 10 = .ok (.imul, 1) := by decide +kernel
theorem dM_isPlace_11 : decode cM_isPlace 11 = .ok (.if_icmp .ge 7, 3) := by decide +kernel
theorem dM_isPlace_14 : decode cM_isPlace 14 = .ok (.iconst 1, 1) := by decide +kernel
theorem dM_isPlace_15 : decode cM_isPlace 15 = .ok (.goto 4, 3) := by decide +kernel
theorem dM_isPlace_18 : decode cM_isPlace 18 = .ok (.iconst 0, 1) := by decide +kernel
theorem dM_isPlace_19 : decode cM_isPlace 19 = .ok (.ireturn, 1) := by decide +kernel
theorem dM_isFree_0 : decode cM_isFree 0 = .ok (.aload_n 0, 1) := by decide +kernel
theorem dM_isFree_1 : decode cM_isFree 1 = .ok (.iload_n 1, 1) := by decide +kernel
theorem dM_isFree_2 : decode cM_isFree 2 = .ok (.invokevirtual 118, 3) := by decide +kernel
theorem dM_isFree_5 : decode cM_isFree 5 = .ok (.ifCond .eq 16, 3) := by decide +kernel
theorem dM_isFree_8 : decode cM_isFree 8 = .ok (.aload_n 0, 1) := by decide +kernel
theorem dM_isFree_9 : decode cM_isFree 9 = .ok (.getfield 23, 3) := by decide +kernel
theorem dM_isFree_12 : decode cM_isFree 12 = .ok (.iload_n 1, 1) := by decide +kernel
theorem dM_isFree_13 : decode cM_isFree 13 = .ok (.iaload, 1) := by decide +kernel
theorem dM_isFree_14 : decode cM_isFree 14 = .ok (.ifCond .ne 7, 3) := by decide +kernel
theorem dM_isFree_17 : decode cM_isFree 17 = .ok (.iconst 1, 1) := by decide +kernel
theorem dM_isFree_18 : decode cM_isFree 18 = .ok (.goto 4, 3) := by decide +kernel
theorem dM_isFree_21 : decode cM_isFree 21 = .ok (.iconst 0, 1) := by decide +kernel
theorem dM_isFree_22 : decode cM_isFree 22 = .ok (.ireturn, 1) := by decide +kernel
theorem dM_bridge_0 : decode cM_bridge 0 = .ok (.aload_n 0, 1) := by decide +kernel
theorem dM_bridge_1 : decode cM_bridge 1 = .ok (.getfield 115, 3) := by decide +kernel
theorem dM_bridge_4 : decode cM_bridge 4 = .ok (.bipush 6, 2) := by decide +kernel
theorem dM_bridge_6 : decode cM_bridge 6 = .ok (.if_icmp .eq 13, 3) := by decide +kernel
theorem dM_bridge_9 : decode cM_bridge 9 = .ok (.iload_n 1, 1) := by decide +kernel
theorem dM_bridge_10 : decode cM_bridge 10 = .ok (.ifCond .lt 9, 3) := by decide +kernel
theorem dM_bridge_13 : decode cM_bridge 13 = .ok (.iload_n 1, 1) := by decide +kernel
theorem dM_bridge_14 : decode cM_bridge 14 = .ok (.bipush 7, 2) := by decide +kernel
theorem dM_bridge_16 : decode cM_bridge 16 = .ok (.if_icmp .le 5, 3) := by decide +kernel
theorem dM_bridge_19 : decode cM_bridge 19 = .ok (.iconst (-1), 1) := by decide +kernel
theorem dM_bridge_20 : decode cM_bridge 20 = .ok (.ireturn, 1) := by decide +kernel
theorem dM_bridge_21 : decode cM_bridge 21 = .ok (.aload_n 0, 1) := by decide +kernel
theorem dM_bridge_22 : decode cM_bridge 22 = .ok (.getfield 7, 3) := by decide +kernel
theorem dM_bridge_25 : decode cM_bridge 25 = .ok (.aload_n 0, 1) := by decide +kernel
theorem dM_bridge_26 : decode cM_bridge 26 = .ok (.getfield 115, 3) := by decide +kernel
theorem dM_bridge_29 : decode cM_bridge 29 = .ok (.iload_n 1, 1) := by decide +kernel
theorem dM_bridge_30 : decode cM_bridge 30 = .ok (.iastore, 1) := by decide +kernel
theorem dM_bridge_31 : decode cM_bridge 31 = .ok (.aload_n 0, 1) := by decide +kernel
theorem dM_bridge_32 : decode cM_bridge 32 = .ok (.dup, 1) := by decide +kernel
theorem dM_bridge_33 : decode cM_bridge 33 = .ok (.getfield 115, 3) := by decide +kernel
theorem dM_bridge_36 : decode cM_bridge 36 = .ok (.iconst 1, 1) := by decide +kernel
theorem dM_bridge_37 : decode cM_bridge 37 = .ok (.iadd, 1) := by decide +kernel
theorem dM_bridge_38 : decode cM_bridge 38 = .ok (.putfield 115, 3) := by decide +kernel
theorem dM_bridge_41 : decode cM_bridge 41 = .ok (.aload_n 0, 1) := by decide +kernel
theorem dM_bridge_42 : decode cM_bridge 42 = .ok (.iconst 0, 1) := by decide +kernel
theorem dM_bridge_43 : decode cM_bridge 43 = .ok (.invokevirtual 122, 3) := by decide +kernel
theorem dM_bridge_46 : decode cM_bridge 46 = .ok (.aload_n 0, 1) := by decide +kernel
theorem dM_bridge_47 : decode cM_bridge 47 = .ok (.getfield 115, 3) := by decide +kernel
theorem dM_bridge_50 : decode cM_bridge 50 = .ok (.iconst 1, 1) := by decide +kernel
theorem dM_bridge_51 : decode cM_bridge 51 = .ok (.isub, 1) := by decide +kernel
theorem dM_bridge_52 : decode cM_bridge 52 = .ok (.ireturn, 1) := by decide +kernel
theorem dM_put_0 : decode cM_put 0 = .ok (.aload_n 0, 1) := by decide +kernel
theorem dM_put_1 : decode cM_put 1 = .ok (.getfield 23, 3) := by decide +kernel
theorem dM_put_4 : decode cM_put 4 = .ok (.iload_n 1, 1) := by decide +kernel
theorem dM_put_5 : decode cM_put 5 = .ok (.iload_n 2, 1) := by decide +kernel
theorem dM_put_6 : decode cM_put 6 = .ok (.iastore, 1) := by decide +kernel
theorem dM_put_7 : decode cM_put 7 = .ok (.aload_n 0, 1) := by decide +kernel
theorem dM_put_8 : decode cM_put 8 = .ok (.getfield 26, 3) := by decide +kernel
theorem dM_put_11 : decode cM_put 11 = .ok (.iload_n 1, 1) := by decide +kernel
theorem dM_put_12 : decode cM_put 12 = .ok (.iload_n 3, 1) := by decide +kernel
theorem dM_put_13 : decode cM_put 13 = .ok (.iastore, 1) := by decide +kernel
theorem dM_put_14 : decode cM_put 14 = .ok (.return_, 1) := by decide +kernel
theorem dM_wire_0 : decode cM_wire 0 = .ok (.aload_n 0, 1) := by decide +kernel
theorem dM_wire_1 : decode cM_wire 1 = .ok (.getfield 126, 3) := by decide +kernel
theorem dM_wire_4 : decode cM_wire 4 = .ok (.bipush 10, 2) := by decide +kernel
theorem dM_wire_6 : decode cM_wire 6 = .ok (.if_icmp .eq 35, 3) := by decide +kernel
theorem dM_wire_9 : decode cM_wire 9 = .ok (.aload_n 0, 1) := by decide +kernel
theorem dM_wire_10 : decode cM_wire 10 = .ok (.iload_n 1, 1) := by decide +kernel
theorem dM_wire_11 : decode cM_wire 11 = .ok (.invokevirtual 129, 3) := by decide +kernel
theorem dM_wire_14 : decode cM_wire 14 = .ok (.ifCond .eq 27, 3) := by decide +kernel
theorem dM_wire_17 : decode cM_wire 17 = .ok (.aload_n 0, 1) := by decide +kernel
theorem dM_wire_18 : decode cM_wire 18 = .ok (.iload_n 2, 1) := by decide +kernel
theorem dM_wire_19 : decode cM_wire 19 = .ok (.invokevirtual 129, 3) := by decide +kernel
theorem dM_wire_22 : decode cM_wire 22 = .ok (.ifCond .eq 19, 3) := by decide +kernel
theorem dM_wire_25 : decode cM_wire 25 = .ok (.iload_n 1, 1) := by decide +kernel
theorem dM_wire_26 : decode cM_wire 26 = .ok (.iload_n 2, 1) := by decide +kernel
theorem dM_wire_27 : decode cM_wire 27 = .ok (.if_icmp .eq 14, 3) := by decide +kernel
theorem dM_wire_30 : decode cM_wire 30 = .ok (.iload_n 3, 1) := by decide +kernel
theorem dM_wire_31 : decode cM_wire 31 = .ok (.iconst 1, 1) := by decide +kernel
theorem dM_wire_32 : decode cM_wire 32 = .ok (.if_icmp .lt 9, 3) := by decide +kernel
theorem dM_wire_35 : decode cM_wire 35 = .ok (.iload_n 3, 1) := by decide +kernel
theorem dM_wire_36 : decode cM_wire 36 = .ok (.bipush 9, 2) := by decide +kernel
theorem dM_wire_38 : decode cM_wire 38 = .ok (.if_icmp .le 5, 3) := by decide +kernel
theorem dM_wire_41 : decode cM_wire 41 = .ok (.iconst (-1), 1) := by decide +kernel
theorem dM_wire_42 : decode cM_wire 42 = .ok (.ireturn, 1) := by decide +kernel
theorem dM_wire_43 : decode cM_wire 43 = .ok (.aload_n 0, 1) := by decide +kernel
theorem dM_wire_44 : decode cM_wire 44 = .ok (.getfield 38, 3) := by decide +kernel
theorem dM_wire_47 : decode cM_wire 47 = .ok (.aload_n 0, 1) := by decide +kernel
theorem dM_wire_48 : decode cM_wire 48 = .ok (.getfield 126, 3) := by decide +kernel
theorem dM_wire_51 : decode cM_wire 51 = .ok (.iload_n 1, 1) := by decide +kernel
theorem dM_wire_52 : decode cM_wire 52 = .ok (.iastore, 1) := by decide +kernel
theorem dM_wire_53 : decode cM_wire 53 = .ok (.aload_n 0, 1) := by decide +kernel
theorem dM_wire_54 : decode cM_wire 54 = .ok (.getfield 41, 3) := by decide +kernel
theorem dM_wire_57 : decode cM_wire 57 = .ok (.aload_n 0, 1) := by decide +kernel
theorem dM_wire_58 : decode cM_wire 58 = .ok (.getfield 126, 3) := by decide +kernel
theorem dM_wire_61 : decode cM_wire 61 = .ok (.iload_n 2, 1) := by decide +kernel
theorem dM_wire_62 : decode cM_wire 62 = .ok (.iastore, 1) := by decide +kernel
theorem dM_wire_63 : decode cM_wire 63 = .ok (.aload_n 0, 1) := by decide +kernel
theorem dM_wire_64 : decode cM_wire 64 = .ok (.getfield 44, 3) := by decide +kernel
theorem dM_wire_67 : decode cM_wire 67 = .ok (.aload_n 0, 1) := by decide +kernel
theorem dM_wire_68 : decode cM_wire 68 = .ok (.getfield 126, 3) := by decide +kernel
theorem dM_wire_71 : decode cM_wire 71 = .ok (.iload_n 3, 1) := by decide +kernel
theorem dM_wire_72 : decode cM_wire 72 = .ok (.iastore, 1) := by decide +kernel
theorem dM_wire_73 : decode cM_wire 73 = .ok (.aload_n 0, 1) := by decide +kernel
theorem dM_wire_74 : decode cM_wire 74 = .ok (.iload_n 1, 1) := by decide +kernel
theorem dM_wire_75 : decode cM_wire 75 = .ok (.iconst 1, 1) := by decide +kernel
theorem dM_wire_76 : decode cM_wire 76 = .ok (.aload_n 0, 1) := by decide +kernel
theorem dM_wire_77 : decode cM_wire 77 = .ok (.getfield 126, 3) := by decide +kernel
theorem dM_wire_80 : decode cM_wire 80 = .ok (.invokevirtual 132, 3) := by decide +kernel
theorem dM_wire_83 : decode cM_wire 83 = .ok (.aload_n 0, 1) := by decide +kernel
theorem dM_wire_84 : decode cM_wire 84 = .ok (.iload_n 2, 1) := by decide +kernel
theorem dM_wire_85 : decode cM_wire 85 = .ok (.iconst 1, 1) := by decide +kernel
theorem dM_wire_86 : decode cM_wire 86 = .ok (.aload_n 0, 1) := by decide +kernel
theorem dM_wire_87 : decode cM_wire 87 = .ok (.getfield 126, 3) := by decide +kernel
theorem dM_wire_90 : decode cM_wire 90 = .ok (.invokevirtual 132, 3) := by decide +kernel
theorem dM_wire_93 : decode cM_wire 93 = .ok (.aload_n 0, 1) := by decide +kernel
theorem dM_wire_94 : decode cM_wire 94 = .ok (.dup, 1) := by decide +kernel
theorem dM_wire_95 : decode cM_wire 95 = .ok (.getfield 126, 3) := by decide +kernel
theorem dM_wire_98 : decode cM_wire 98 = .ok (.iconst 1, 1) := by decide +kernel
theorem dM_wire_99 : decode cM_wire 99 = .ok (.iadd, 1) := by decide +kernel
theorem dM_wire_100 : decode cM_wire 100 = .ok (.putfield 126, 3) := by decide +kernel
theorem dM_wire_103 : decode cM_wire 103 = .ok (.aload_n 0, 1) := by decide +kernel
theorem dM_wire_104 : decode cM_wire 104 = .ok (.iconst 0, 1) := by decide +kernel
theorem dM_wire_105 : decode cM_wire 105 = .ok (.invokevirtual 122, 3) := by decide +kernel
theorem dM_wire_108 : decode cM_wire 108 = .ok (.aload_n 0, 1) := by decide +kernel
theorem dM_wire_109 : decode cM_wire 109 = .ok (.getfield 126, 3) := by decide +kernel
theorem dM_wire_112 : decode cM_wire 112 = .ok (.iconst 1, 1) := by decide +kernel
theorem dM_wire_113 : decode cM_wire 113 = .ok (.isub, 1) := by decide +kernel
theorem dM_wire_114 : decode cM_wire 114 = .ok (.ireturn, 1) := by decide +kernel
theorem dM_host_0 : decode cM_host 0 = .ok (.aload_n 0, 1) := by decide +kernel
theorem dM_host_1 : decode cM_host 1 = .ok (.getfield 136, 3) := by decide +kernel
theorem dM_host_4 : decode cM_host 4 = .ok (.bipush 6, 2) := by decide +kernel
theorem dM_host_6 : decode cM_host 6 = .ok (.if_icmp .eq 20, 3) := by decide +kernel
theorem dM_host_9 : decode cM_host 9 = .ok (.aload_n 0, 1) := by decide +kernel
theorem dM_host_10 : decode cM_host 10 = .ok (.iload_n 1, 1) := by decide +kernel
theorem dM_host_11 : decode cM_host 11 = .ok (.invokevirtual 129, 3) := by decide +kernel
theorem dM_host_14 : decode cM_host 14 = .ok (.ifCond .eq 12, 3) := by decide +kernel
theorem dM_host_17 : decode cM_host 17 = .ok (.iload_n 2, 1) := by decide +kernel
theorem dM_host_18 : decode cM_host 18 = .ok (.ifCond .lt 8, 3) := by decide +kernel
theorem dM_host_21 : decode cM_host 21 = .ok (.iload_n 2, 1) := by decide +kernel
theorem dM_host_22 : decode cM_host 22 = .ok (.iconst 3, 1) := by decide +kernel
theorem dM_host_23 : decode cM_host 23 = .ok (.if_icmp .le 5, 3) := by decide +kernel
theorem dM_host_26 : decode cM_host 26 = .ok (.iconst (-1), 1) := by decide +kernel
theorem dM_host_27 : decode cM_host 27 = .ok (.ireturn, 1) := by decide +kernel
theorem dM_host_28 : decode cM_host 28 = .ok (.aload_n 0, 1) := by decide +kernel
theorem dM_host_29 : decode cM_host 29 = .ok (.getfield 50, 3) := by decide +kernel
theorem dM_host_32 : decode cM_host 32 = .ok (.aload_n 0, 1) := by decide +kernel
theorem dM_host_33 : decode cM_host 33 = .ok (.getfield 136, 3) := by decide +kernel
theorem dM_host_36 : decode cM_host 36 = .ok (.iload_n 1, 1) := by decide +kernel
theorem dM_host_37 : decode cM_host 37 = .ok (.iastore, 1) := by decide +kernel
theorem dM_host_38 : decode cM_host 38 = .ok (.aload_n 0, 1) := by decide +kernel
theorem dM_host_39 : decode cM_host 39 = .ok (.getfield 53, 3) := by decide +kernel
theorem dM_host_42 : decode cM_host 42 = .ok (.aload_n 0, 1) := by decide +kernel
theorem dM_host_43 : decode cM_host 43 = .ok (.getfield 136, 3) := by decide +kernel
theorem dM_host_46 : decode cM_host 46 = .ok (.iload_n 2, 1) := by decide +kernel
theorem dM_host_47 : decode cM_host 47 = .ok (.iastore, 1) := by decide +kernel
theorem dM_host_48 : decode cM_host 48 = .ok (.aload_n 0, 1) := by decide +kernel
theorem dM_host_49 : decode cM_host 49 = .ok (.iload_n 1, 1) := by decide +kernel
theorem dM_host_50 : decode cM_host 50 = .ok (.iconst 2, 1) := by decide +kernel
theorem dM_host_51 : decode cM_host 51 = .ok (.aload_n 0, 1) := by decide +kernel
theorem dM_host_52 : decode cM_host 52 = .ok (.getfield 136, 3) := by decide +kernel
theorem dM_host_55 : decode cM_host 55 = .ok (.invokevirtual 132, 3) := by decide +kernel
theorem dM_host_58 : decode cM_host 58 = .ok (.aload_n 0, 1) := by decide +kernel
theorem dM_host_59 : decode cM_host 59 = .ok (.dup, 1) := by decide +kernel
theorem dM_host_60 : decode cM_host 60 = .ok (.getfield 136, 3) := by decide +kernel
theorem dM_host_63 : decode cM_host 63 = .ok (.iconst 1, 1) := by decide +kernel
theorem dM_host_64 : decode cM_host 64 = .ok (.iadd, 1) := by decide +kernel
theorem dM_host_65 : decode cM_host 65 = .ok (.putfield 136, 3) := by decide +kernel
theorem dM_host_68 : decode cM_host 68 = .ok (.aload_n 0, 1) := by decide +kernel
theorem dM_host_69 : decode cM_host 69 = .ok (.iconst 0, 1) := by decide +kernel
theorem dM_host_70 : decode cM_host 70 = .ok (.invokevirtual 122, 3) := by decide +kernel
theorem dM_host_73 : decode cM_host 73 = .ok (.aload_n 0, 1) := by decide +kernel
theorem dM_host_74 : decode cM_host 74 = .ok (.getfield 136, 3) := by decide +kernel
theorem dM_host_77 : decode cM_host 77 = .ok (.iconst 1, 1) := by decide +kernel
theorem dM_host_78 : decode cM_host 78 = .ok (.isub, 1) := by decide +kernel
theorem dM_host_79 : decode cM_host 79 = .ok (.ireturn, 1) := by decide +kernel
theorem dM_router_0 : decode cM_router 0 = .ok (.aload_n 0, 1) := by decide +kernel
theorem dM_router_1 : decode cM_router 1 = .ok (.getfield 56, 3) := by decide +kernel
theorem dM_router_4 : decode cM_router 4 = .ok (.ifCond .ge 11, 3) := by decide +kernel
theorem dM_router_7 : decode cM_router 7 = .ok (.aload_n 0, 1) := by decide +kernel
theorem dM_router_8 : decode cM_router 8 = .ok (.iload_n 1, 1) := by decide +kernel
theorem dM_router_9 : decode cM_router 9 = .ok (.invokevirtual 129, 3) := by decide +kernel
theorem dM_router_12 : decode cM_router 12 = .ok (.ifCond .ne 5, 3) := by decide +kernel
theorem dM_router_15 : decode cM_router 15 = .ok (.iconst 0, 1) := by decide +kernel
theorem dM_router_16 : decode cM_router 16 = .ok (.ireturn, 1) := by decide +kernel
theorem dM_router_17 : decode cM_router 17 = .ok (.aload_n 0, 1) := by decide +kernel
theorem dM_router_18 : decode cM_router 18 = .ok (.iload_n 1, 1) := by decide +kernel
theorem dM_router_19 : decode cM_router 19 = .ok (.putfield 56, 3) := by decide +kernel
theorem dM_router_22 : decode cM_router 22 = .ok (.aload_n 0, 1) := by decide +kernel
theorem dM_router_23 : decode cM_router 23 = .ok (.iload_n 1, 1) := by decide +kernel
theorem dM_router_24 : decode cM_router 24 = .ok (.iconst 3, 1) := by decide +kernel
theorem dM_router_25 : decode cM_router 25 = .ok (.iconst 0, 1) := by decide +kernel
theorem dM_router_26 : decode cM_router 26 = .ok (.invokevirtual 132, 3) := by decide +kernel
theorem dM_router_29 : decode cM_router 29 = .ok (.aload_n 0, 1) := by decide +kernel
theorem dM_router_30 : decode cM_router 30 = .ok (.iconst 0, 1) := by decide +kernel
theorem dM_router_31 : decode cM_router 31 = .ok (.invokevirtual 122, 3) := by decide +kernel
theorem dM_router_34 : decode cM_router 34 = .ok (.iconst 1, 1) := by decide +kernel
theorem dM_router_35 : decode cM_router 35 = .ok (.ireturn, 1) := by decide +kernel
theorem dM_access_0 : decode cM_access 0 = .ok (.aload_n 0, 1) := by decide +kernel
theorem dM_access_1 : decode cM_access 1 = .ok (.iload_n 1, 1) := by decide +kernel
theorem dM_access_2 : decode cM_access 2 = .ok (.invokevirtual 118, 3) := by decide +kernel
theorem dM_access_5 : decode cM_access 5 = .ok (.ifCond .eq 12, 3) := by decide +kernel
theorem dM_access_8 : decode cM_access 8 = .ok (.iload_n 2, 1) := by decide +kernel
theorem dM_access_9 : decode cM_access 9 = .ok (.ifCond .lt 8, 3) := by decide +kernel
theorem dM_access_12 : decode cM_access 12 = .ok (.iload_n 2, 1) := by decide +kernel
theorem dM_access_13 : decode cM_access 13 = .ok (.iconst 3, 1) := by decide +kernel
theorem dM_access_14 : decode cM_access 14 = .ok (.if_icmp .le 5, 3) := by decide +kernel
theorem dM_access_17 : decode cM_access 17 = .ok (.iconst 0, 1) := by decide +kernel
theorem dM_access_18 : decode cM_access 18 = .ok (.ireturn, 1) := by decide +kernel
theorem dM_access_19 : decode cM_access 19 = .ok (.aload_n 0, 1) := by decide +kernel
theorem dM_access_20 : decode cM_access 20 = .ok (.getfield 29, 3) := by decide +kernel
theorem dM_access_23 : decode cM_access 23 = .ok (.iload_n 1, 1) := by decide +kernel
theorem dM_access_24 : decode cM_access 24 = .ok (.iconst 0, 1) := by decide +kernel
theorem dM_access_25 : decode cM_access 25 = .ok (.bastore, 1) := by decide +kernel
theorem dM_access_26 : decode cM_access 26 = .ok (.aload_n 0, 1) := by decide +kernel
theorem dM_access_27 : decode cM_access 27 = .ok (.getfield 32, 3) := by decide +kernel
theorem dM_access_30 : decode cM_access 30 = .ok (.iload_n 1, 1) := by decide +kernel
theorem dM_access_31 : decode cM_access 31 = .ok (.iload_n 2, 1) := by decide +kernel
theorem dM_access_32 : decode cM_access 32 = .ok (.iastore, 1) := by decide +kernel
theorem dM_access_33 : decode cM_access 33 = .ok (.aload_n 0, 1) := by decide +kernel
theorem dM_access_34 : decode cM_access 34 = .ok (.getfield 35, 3) := by decide +kernel
theorem dM_access_37 : decode cM_access 37 = .ok (.iload_n 1, 1) := by decide +kernel
theorem dM_access_38 : decode cM_access 38 = .ok (.iconst 1, 1) := by decide +kernel
theorem dM_access_39 : decode cM_access 39 = .ok (.iload_n 2, 1) := by decide +kernel
theorem dM_access_40 : decode cM_access 40 = .ok (.ishl, 1) := by decide +kernel
theorem dM_access_41 : decode cM_access 41 = .ok (.iastore, 1) := by decide +kernel
theorem dM_access_42 : decode cM_access 42 = .ok (.iconst 1, 1) := by decide +kernel
theorem dM_access_43 : decode cM_access 43 = .ok (.ireturn, 1) := by decide +kernel
theorem dM_trunk_0 : decode cM_trunk 0 = .ok (.aload_n 0, 1) := by decide +kernel
theorem dM_trunk_1 : decode cM_trunk 1 = .ok (.iload_n 1, 1) := by decide +kernel
theorem dM_trunk_2 : decode cM_trunk 2 = .ok (.invokevirtual 118, 3) := by decide +kernel
theorem dM_trunk_5 : decode cM_trunk 5 = .ok (.ifCond .eq 22, 3) := by decide +kernel
theorem dM_trunk_8 : decode cM_trunk 8 = .ok (.iload_n 2, 1) := by decide +kernel
theorem dM_trunk_9 : decode cM_trunk 9 = .ok (.ifCond .lt 18, 3) := by decide +kernel
theorem dM_trunk_12 : decode cM_trunk 12 = .ok (.iload_n 2, 1) := by decide +kernel
theorem dM_trunk_13 : decode cM_trunk 13 = .ok (.iconst 3, 1) := by decide +kernel
theorem dM_trunk_14 : decode cM_trunk 14 = .ok (.if_icmp .gt 13, 3) := by decide +kernel
theorem dM_trunk_17 : decode cM_trunk 17 = .ok (.iload_n 3, 1) := by decide +kernel
theorem dM_trunk_18 : decode cM_trunk 18 = .ok (.ifCond .lt 9, 3) := by decide +kernel
theorem dM_trunk_21 : decode cM_trunk 21 = .ok (.iload_n 3, 1) := by decide +kernel
theorem dM_trunk_22 : decode cM_trunk 22 = .ok (.bipush 15, 2) := by decide +kernel
theorem dM_trunk_24 : decode cM_trunk 24 = .ok (.if_icmp .le 5, 3) := by decide +kernel
theorem dM_trunk_27 : decode cM_trunk 27 = .ok (.iconst 0, 1) := by decide +kernel
theorem dM_trunk_28 : decode cM_trunk 28 = .ok (.ireturn, 1) := by decide +kernel
theorem dM_trunk_29 : decode cM_trunk 29 = .ok (.aload_n 0, 1) := by decide +kernel
theorem dM_trunk_30 : decode cM_trunk 30 = .ok (.getfield 29, 3) := by decide +kernel
theorem dM_trunk_33 : decode cM_trunk 33 = .ok (.iload_n 1, 1) := by decide +kernel
theorem dM_trunk_34 : decode cM_trunk 34 = .ok (.iconst 1, 1) := by decide +kernel
theorem dM_trunk_35 : decode cM_trunk 35 = .ok (.bastore, 1) := by decide +kernel
theorem dM_trunk_36 : decode cM_trunk 36 = .ok (.aload_n 0, 1) := by decide +kernel
theorem dM_trunk_37 : decode cM_trunk 37 = .ok (.getfield 32, 3) := by decide +kernel
theorem dM_trunk_40 : decode cM_trunk 40 = .ok (.iload_n 1, 1) := by decide +kernel
theorem dM_trunk_41 : decode cM_trunk 41 = .ok (.iload_n 2, 1) := by decide +kernel
theorem dM_trunk_42 : decode cM_trunk 42 = .ok (.iastore, 1) := by decide +kernel
theorem dM_trunk_43 : decode cM_trunk 43 = .ok (.aload_n 0, 1) := by decide +kernel
theorem dM_trunk_44 : decode cM_trunk 44 = .ok (.getfield 35, 3) := by decide +kernel
theorem dM_trunk_47 : decode cM_trunk 47 = .ok (.iload_n 1, 1) := by decide +kernel
theorem dM_trunk_48 : decode cM_trunk 48 = .ok (.iload_n 3, 1) := by decide +kernel
theorem dM_trunk_49 : decode cM_trunk 49 = .ok (.iastore, 1) := by decide +kernel
theorem dM_trunk_50 : decode cM_trunk 50 = .ok (.iconst 1, 1) := by decide +kernel
theorem dM_trunk_51 : decode cM_trunk 51 = .ok (.ireturn, 1) := by decide +kernel
theorem dM_cut_0 : decode cM_cut 0 = .ok (.iload_n 1, 1) := by decide +kernel
theorem dM_cut_1 : decode cM_cut 1 = .ok (.ifCond .lt 11, 3) := by decide +kernel
theorem dM_cut_4 : decode cM_cut 4 = .ok (.iload_n 1, 1) := by decide +kernel
theorem dM_cut_5 : decode cM_cut 5 = .ok (.aload_n 0, 1) := by decide +kernel
theorem dM_cut_6 : decode cM_cut 6 = .ok (.getfield 126, 3) := by decide +kernel
theorem dM_cut_9 : decode cM_cut 9 = .ok (.if_icmp .lt 5, 3) := by decide +kernel
theorem dM_cut_12 : decode cM_cut 12 = .ok (.iconst 0, 1) := by decide +kernel
theorem dM_cut_13 : decode cM_cut 13 = .ok (.ireturn, 1) := by decide +kernel
theorem dM_cut_14 : decode cM_cut 14 = .ok (.aload_n 0, 1) := by decide +kernel
theorem dM_cut_15 : decode cM_cut 15 = .ok (.getfield 47, 3) := by decide +kernel
theorem dM_cut_18 : decode cM_cut 18 = .ok (.iload_n 1, 1) := by decide +kernel
theorem dM_cut_19 : decode cM_cut 19 = .ok (.baload, 1) := by decide +kernel
theorem dM_cut_20 : decode cM_cut 20 = .ok (.iload_n 2, 1) := by decide +kernel
theorem dM_cut_21 : decode cM_cut 21 = .ok (.if_icmp .ne 5, 3) := by decide +kernel
theorem dM_cut_24 : decode cM_cut 24 = .ok (.iconst 0, 1) := by decide +kernel
theorem dM_cut_25 : decode cM_cut 25 = .ok (.ireturn, 1) := by decide +kernel
theorem dM_cut_26 : decode cM_cut 26 = .ok (.aload_n 0, 1) := by decide +kernel
theorem dM_cut_27 : decode cM_cut 27 = .ok (.getfield 47, 3) := by decide +kernel
theorem dM_cut_30 : decode cM_cut 30 = .ok (.iload_n 1, 1) := by decide +kernel
theorem dM_cut_31 : decode cM_cut 31 = .ok (.iload_n 2, 1) := by decide +kernel
theorem dM_cut_32 : decode cM_cut 32 = .ok (.bastore, 1) := by decide +kernel
theorem dM_cut_33 : decode cM_cut 33 = .ok (.aload_n 0, 1) := by decide +kernel
theorem dM_cut_34 : decode cM_cut 34 = .ok (.getfield 60, 3) := by decide +kernel
theorem dM_cut_37 : decode cM_cut 37 = .ok (.aload_n 0, 1) := by decide +kernel
theorem dM_cut_38 : decode cM_cut 38 = .ok (.getfield 38, 3) := by decide +kernel
theorem dM_cut_41 : decode cM_cut 41 = .ok (.iload_n 1, 1) := by decide +kernel
theorem dM_cut_42 : decode cM_cut 42 = .ok (.iaload, 1) := by decide +kernel
theorem dM_cut_43 : decode cM_cut 43 = .ok (.iconst 0, 1) := by decide +kernel
theorem dM_cut_44 : decode cM_cut 44 = .ok (.bastore, 1) := by decide +kernel
theorem dM_cut_45 : decode cM_cut 45 = .ok (.aload_n 0, 1) := by decide +kernel
theorem dM_cut_46 : decode cM_cut 46 = .ok (.getfield 60, 3) := by decide +kernel
theorem dM_cut_49 : decode cM_cut 49 = .ok (.aload_n 0, 1) := by decide +kernel
theorem dM_cut_50 : decode cM_cut 50 = .ok (.getfield 41, 3) := by decide +kernel
theorem dM_cut_53 : decode cM_cut 53 = .ok (.iload_n 1, 1) := by decide +kernel
theorem dM_cut_54 : decode cM_cut 54 = .ok (.iaload, 1) := by decide +kernel
theorem dM_cut_55 : decode cM_cut 55 = .ok (.iconst 0, 1) := by decide +kernel
theorem dM_cut_56 : decode cM_cut 56 = .ok (.bastore, 1) := by decide +kernel
theorem dM_cut_57 : decode cM_cut 57 = .ok (.aload_n 0, 1) := by decide +kernel
theorem dM_cut_58 : decode cM_cut 58 = .ok (.iconst 1, 1) := by decide +kernel
theorem dM_cut_59 : decode cM_cut 59 = .ok (.invokevirtual 122, 3) := by decide +kernel
theorem dM_cut_62 : decode cM_cut 62 = .ok (.iconst 1, 1) := by decide +kernel
theorem dM_cut_63 : decode cM_cut 63 = .ok (.ireturn, 1) := by decide +kernel
theorem dM_id_0 : decode cM_id 0 = .ok (.bipush 8, 2) := by decide +kernel
theorem dM_id_2 : decode cM_id 2 = .ok (.aload_n 0, 1) := by decide +kernel
theorem dM_id_3 : decode cM_id 3 = .ok (.getfield 7, 3) := by decide +kernel
theorem dM_id_6 : decode cM_id 6 = .ok (.iload_n 1, 1) := by decide +kernel
theorem dM_id_7 : decode cM_id 7 = .ok (.iaload, 1) := by decide +kernel
theorem dM_id_8 : decode cM_id 8 = .ok (.imul, 1) := by decide +kernel
theorem dM_id_9 : decode cM_id 9 = .ok (.iload_n 1, 1) := by decide +kernel
theorem dM_id_10 : decode cM_id 10 = .ok (.iadd, 1) := by decide +kernel
theorem dM_id_11 : decode cM_id 11 = .ok (.ireturn, 1) := by decide +kernel
theorem dM_isUp_0 : decode cM_isUp 0 = .ok (.aload_n 0, 1) := by decide +kernel
theorem dM_isUp_1 : decode cM_isUp 1 = .ok (.getfield 23, 3) := by decide +kernel
theorem dM_isUp_4 : decode cM_isUp 4 = .ok (.iload_n 1, 1) := by decide +kernel
theorem dM_isUp_5 : decode cM_isUp 5 = .ok (.iaload, 1) := by decide +kernel
theorem dM_isUp_6 : decode cM_isUp 6 = .ok (.iconst 1, 1) := by decide +kernel
theorem dM_isUp_7 : decode cM_isUp 7 = .ok (.if_icmp .gt 27, 3) := by decide +kernel
theorem dM_isUp_10 : decode cM_isUp 10 = .ok (.aload_n 0, 1) := by decide +kernel
theorem dM_isUp_11 : decode cM_isUp 11 = .ok (.getfield 23, 3) := by decide +kernel
theorem dM_isUp_14 : decode cM_isUp 14 = .ok (.iload_n 1, 1) := by decide +kernel
theorem dM_isUp_15 : decode cM_isUp 15 = .ok (.iaload, 1) := by decide +kernel
theorem dM_isUp_16 : decode cM_isUp 16 = .ok (.iconst 1, 1) := by decide +kernel
theorem dM_isUp_17 : decode cM_isUp 17 = .ok (.if_icmp .ne 21, 3) := by decide +kernel
theorem dM_isUp_20 : decode cM_isUp 20 = .ok (.aload_n 0, 1) := by decide +kernel
theorem dM_isUp_21 : decode cM_isUp 21 = .ok (.getfield 47, 3) := by decide +kernel
theorem dM_isUp_24 : decode cM_isUp 24 = .ok (.aload_n 0, 1) := by decide +kernel
theorem dM_isUp_25 : decode cM_isUp 25 = .ok (.getfield 26, 3) := by decide +kernel
theorem dM_isUp_28 : decode cM_isUp 28 = .ok (.iload_n 1, 1) := by decide +kernel
theorem dM_isUp_29 : decode cM_isUp 29 = .ok (.iaload, 1) := by decide +kernel
theorem dM_isUp_30 : decode cM_isUp 30 = .ok (.baload, 1) := by decide +kernel
theorem dM_isUp_31 : decode cM_isUp 31 = .ok (.ifCond .ne 7, 3) := by decide +kernel
theorem dM_isUp_34 : decode cM_isUp 34 = .ok (.iconst 1, 1) := by decide +kernel
theorem dM_isUp_35 : decode cM_isUp 35 = .ok (.goto 4, 3) := by decide +kernel
theorem dM_isUp_38 : decode cM_isUp 38 = .ok (.iconst 0, 1) := by decide +kernel
theorem dM_isUp_39 : decode cM_isUp 39 = .ok (.ireturn, 1) := by decide +kernel
theorem dM_key_0 : decode cM_key 0 = .ok (.iload_n 0, 1) := by decide +kernel
theorem dM_key_1 : decode cM_key 1 = .ok (.i2l, 1) := by decide +kernel
theorem dM_key_2 : decode cM_key 2 = .ok (.ldc2_w 139, 3) := by decide +kernel
theorem dM_key_5 : decode cM_key 5 = .ok (.lmul, 1) := by decide +kernel
theorem dM_key_6 : decode cM_key 6 = .ok (.iload_n 1, 1) := by decide +kernel
theorem dM_key_7 : decode cM_key 7 = .ok (.i2l, 1) := by decide +kernel
theorem dM_key_8 : decode cM_key 8 = .ok (.ladd, 1) := by decide +kernel
theorem dM_key_9 : decode cM_key 9 = .ok (.ldc2_w 141, 3) := by decide +kernel
theorem dM_key_12 : decode cM_key 12 = .ok (.lmul, 1) := by decide +kernel
theorem dM_key_13 : decode cM_key 13 = .ok (.iload_n 2, 1) := by decide +kernel
theorem dM_key_14 : decode cM_key 14 = .ok (.i2l, 1) := by decide +kernel
theorem dM_key_15 : decode cM_key 15 = .ok (.ladd, 1) := by decide +kernel
theorem dM_key_16 : decode cM_key 16 = .ok (.ldc2_w 141, 3) := by decide +kernel
theorem dM_key_19 : decode cM_key 19 = .ok (.lmul, 1) := by decide +kernel
theorem dM_key_20 : decode cM_key 20 = .ok (.iload_n 3, 1) := by decide +kernel
theorem dM_key_21 : decode cM_key 21 = .ok (.i2l, 1) := by decide +kernel
theorem dM_key_22 : decode cM_key 22 = .ok (.ladd, 1) := by decide +kernel
theorem dM_key_23 : decode cM_key 23 = .ok (.lreturn, 1) := by decide +kernel
theorem dM_rootPort_0 : decode cM_rootPort 0 = .ok (.iconst (-1), 1) := by decide +kernel
theorem dM_rootPort_1 : decode cM_rootPort 1 = .ok (.istore_n 2, 1) := by decide +kernel
theorem dM_rootPort_2 : decode cM_rootPort 2 = .ok (.lconst 0, 1) := by decide +kernel
theorem dM_rootPort_3 : decode cM_rootPort 3 = .ok (.lstore_n 3, 1) := by decide +kernel
theorem dM_rootPort_4 : decode cM_rootPort 4 = .ok (.iconst 0, 1) := by decide +kernel
theorem dM_rootPort_5 : decode cM_rootPort 5 = .ok (.istore 5, 2) := by decide +kernel
theorem dM_rootPort_7 : decode cM_rootPort 7 = .ok (.iload 5, 2) := by decide +kernel
theorem dM_rootPort_9 : decode cM_rootPort 9 = .ok (.iconst 4, 1) := by decide +kernel
theorem dM_rootPort_10 : decode cM_rootPort 10 = .ok (.if_icmp .ge 108, 3) := by decide +kernel
theorem dM_rootPort_13 : decode cM_rootPort 13 = .ok (.iconst 4, 1) := by decide +kernel
theorem dM_rootPort_14 : decode cM_rootPort 14 = .ok (.iload_n 1, 1) := by decide +kernel
theorem dM_rootPort_15 : decode cM_rootPort 15 = .ok (.imul, 1) := by decide +kernel
theorem dM_rootPort_16 : decode cM_rootPort 16 = .ok (.iload 5, 2) := by decide +kernel
theorem dM_rootPort_18 : decode cM_rootPort 18 = .ok (.iadd, 1) := by decide +kernel
theorem dM_rootPort_19 : decode cM_rootPort 19 = .ok (.istore 6, 2) := by decide +kernel
theorem dM_rootPort_21 : decode cM_rootPort 21 = .ok (.aload_n 0, 1) := by decide +kernel
theorem dM_rootPort_22 : decode cM_rootPort 22 = .ok (.getfield 60, 3) := by decide +kernel
theorem dM_rootPort_25 : decode cM_rootPort 25 = .ok (.iload 6, 2) := by decide +kernel
theorem dM_rootPort_27 : decode cM_rootPort 27 = .ok (.baload, 1) := by decide +kernel
theorem dM_rootPort_28 : decode cM_rootPort 28 = .ok (.ifCond .eq 84, 3) := by decide +kernel
theorem dM_rootPort_31 : decode cM_rootPort 31 = .ok (.aload_n 0, 1) := by decide +kernel
theorem dM_rootPort_32 : decode cM_rootPort 32 = .ok (.getfield 63, 3) := by decide +kernel
theorem dM_rootPort_35 : decode cM_rootPort 35 = .ok (.iload 6, 2) := by decide +kernel
theorem dM_rootPort_37 : decode cM_rootPort 37 = .ok (.iaload, 1) := by decide +kernel
theorem dM_rootPort_38 : decode cM_rootPort 38 = .ok (.aload_n 0, 1) := by decide +kernel
theorem dM_rootPort_39 : decode cM_rootPort 39 = .ok (.iload_n 1, 1) := by decide +kernel
theorem dM_rootPort_40 : decode cM_rootPort 40 = .ok (.invokevirtual 143, 3) := by decide +kernel
theorem dM_rootPort_43 : decode cM_rootPort 43 = .ok (.if_icmp .lt 6, 3) := by decide +kernel
theorem dM_rootPort_46 : decode cM_rootPort 46 = .ok (.goto 66, 3) := by decide +kernel
theorem dM_rootPort_49 : decode cM_rootPort 49 = .ok (.aload_n 0, 1) := by decide +kernel
theorem dM_rootPort_50 : decode cM_rootPort 50 = .ok (.getfield 63, 3) := by decide +kernel
theorem dM_rootPort_53 : decode cM_rootPort 53 = .ok (.iload 6, 2) := by decide +kernel
theorem dM_rootPort_55 : decode cM_rootPort 55 = .ok (.iaload, 1) := by decide +kernel
theorem dM_rootPort_56 : decode cM_rootPort 56 = .ok (.aload_n 0, 1) := by decide +kernel
theorem dM_rootPort_57 : decode cM_rootPort 57 = .ok (.getfield 66, 3) := by decide +kernel
theorem dM_rootPort_60 : decode cM_rootPort 60 = .ok (.iload 6, 2) := by decide +kernel
theorem dM_rootPort_62 : decode cM_rootPort 62 = .ok (.iaload, 1) := by decide +kernel
theorem dM_rootPort_63 : decode cM_rootPort 63 = .ok (.aload_n 0, 1) := by decide +kernel
theorem dM_rootPort_64 : decode cM_rootPort 64 = .ok (.getfield 44, 3) := by decide +kernel
theorem dM_rootPort_67 : decode cM_rootPort 67 = .ok (.aload_n 0, 1) := by decide +kernel
theorem dM_rootPort_68 : decode cM_rootPort 68 = .ok (.getfield 26, 3) := by decide +kernel
theorem dM_rootPort_71 : decode cM_rootPort 71 = .ok (.iload 6, 2) := by decide +kernel
theorem dM_rootPort_73 : decode cM_rootPort 73 = .ok (.iaload, 1) := by decide +kernel
theorem dM_rootPort_74 : decode cM_rootPort 74 = .ok (.iaload, 1) := by decide +kernel
theorem dM_rootPort_75 : decode cM_rootPort 75 = .ok (.iadd, 1) := by decide +kernel
theorem dM_rootPort_76 : decode cM_rootPort 76 = .ok (.aload_n 0, 1) := by decide +kernel
theorem dM_rootPort_77 : decode cM_rootPort 77 = .ok (.getfield 69, 3) := by decide +kernel
theorem dM_rootPort_80 : decode cM_rootPort 80 = .ok (.iload 6, 2) := by decide +kernel
theorem dM_rootPort_82 : decode cM_rootPort 82 = .ok (.iaload, 1) := by decide +kernel
theorem dM_rootPort_83 : decode cM_rootPort 83 = .ok (.aload_n 0, 1) := by decide +kernel
theorem dM_rootPort_84 : decode cM_rootPort 84 = .ok (.getfield 72, 3) := by decide +kernel
theorem dM_rootPort_87 : decode cM_rootPort 87 = .ok (.iload 6, 2) := by decide +kernel
theorem dM_rootPort_89 : decode cM_rootPort 89 = .ok (.iaload, 1) := by decide +kernel
theorem dM_rootPort_90 : decode cM_rootPort 90 = .ok (.invokestatic 147, 3) := by decide +kernel
theorem dM_rootPort_93 : decode cM_rootPort 93 = .ok (.lstore 7, 2) := by decide +kernel
theorem dM_rootPort_95 : decode cM_rootPort 95 = .ok (.iload_n 2, 1) := by decide +kernel
theorem dM_rootPort_96 : decode cM_rootPort 96 = .ok (.ifCond .lt 10, 3) := by decide +kernel
theorem dM_rootPort_99 : decode cM_rootPort 99 = .ok (.lload 7, 2) := by decide +kernel
theorem dM_rootPort_101 : decode cM_rootPort 101 = .ok (.lload_n 3, 1) := by decide +kernel
theorem dM_rootPort_102 : decode cM_rootPort 102 = .ok (.lcmp, 1) := by decide +kernel
theorem dM_rootPort_103 : decode cM_rootPort 103 = .ok (.ifCond .ge 9, 3) := by decide +kernel
theorem dM_rootPort_106 : decode cM_rootPort 106 = .ok (.iload 5, 2) := by decide +kernel
theorem dM_rootPort_108 : decode cM_rootPort 108 = .ok (.istore_n 2, 1) := by decide +kernel
theorem dM_rootPort_109 : decode cM_rootPort 109 = .ok (.lload 7, 2) := by decide +kernel
theorem dM_rootPort_111 : decode cM_rootPort 111 = .ok (.lstore_n 3, 1) := by decide +kernel
theorem dM_rootPort_112 : decode cM_rootPort 112 = .ok (.iinc 5 1, 3) := by decide +kernel
theorem dM_rootPort_115 : decode cM_rootPort 115 = .ok (.goto (-108), 3) := by decide +kernel
theorem dM_rootPort_118 : decode cM_rootPort 118 = .ok (.iload_n 2, 1) := by decide +kernel
theorem dM_rootPort_119 : decode cM_rootPort 119 = .ok (.ireturn, 1) := by decide +kernel
theorem dM_rootOf_0 : decode cM_rootOf 0 = .ok (.aload_n 0, 1) := by decide +kernel
theorem dM_rootOf_1 : decode cM_rootOf 1 = .ok (.iload_n 1, 1) := by decide +kernel
theorem dM_rootOf_2 : decode cM_rootOf 2 = .ok (.invokevirtual 151, 3) := by decide +kernel
theorem dM_rootOf_5 : decode cM_rootOf 5 = .ok (.istore_n 2, 1) := by decide +kernel
theorem dM_rootOf_6 : decode cM_rootOf 6 = .ok (.iload_n 2, 1) := by decide +kernel
theorem dM_rootOf_7 : decode cM_rootOf 7 = .ok (.ifCond .ge 11, 3) := by decide +kernel
theorem dM_rootOf_10 : decode cM_rootOf 10 = .ok (.aload_n 0, 1) := by decide +kernel
theorem dM_rootOf_11 : decode cM_rootOf 11 = .ok (.iload_n 1, 1) := by decide +kernel
theorem dM_rootOf_12 : decode cM_rootOf 12 = .ok (.invokevirtual 143, 3) := by decide +kernel
theorem dM_rootOf_15 : decode cM_rootOf 15 = .ok (.goto 13, 3) := by decide +kernel
theorem dM_rootOf_18 : decode cM_rootOf 18 = .ok (.aload_n 0, 1) := by decide +kernel
theorem dM_rootOf_19 : decode cM_rootOf 19 = .ok (.getfield 63, 3) := by decide +kernel
theorem dM_rootOf_22 : decode cM_rootOf 22 = .ok (.iconst 4, 1) := by decide +kernel
theorem dM_rootOf_23 : decode cM_rootOf 23 = .ok (.iload_n 1, 1) := by decide +kernel
theorem dM_rootOf_24 : decode cM_rootOf 24 = .ok (.imul, 1) := by decide +kernel
theorem dM_rootOf_25 : decode cM_rootOf 25 = .ok (.iload_n 2, 1) := by decide +kernel
theorem dM_rootOf_26 : decode cM_rootOf 26 = .ok (.iadd, 1) := by decide +kernel
theorem dM_rootOf_27 : decode cM_rootOf 27 = .ok (.iaload, 1) := by decide +kernel
theorem dM_rootOf_28 : decode cM_rootOf 28 = .ok (.ireturn, 1) := by decide +kernel
theorem dM_distance_0 : decode cM_distance 0 = .ok (.aload_n 0, 1) := by decide +kernel
theorem dM_distance_1 : decode cM_distance 1 = .ok (.iload_n 1, 1) := by decide +kernel
theorem dM_distance_2 : decode cM_distance 2 = .ok (.invokevirtual 151, 3) := by decide +kernel
theorem dM_distance_5 : decode cM_distance 5 = .ok (.istore_n 2, 1) := by decide +kernel
theorem dM_distance_6 : decode cM_distance 6 = .ok (.iload_n 2, 1) := by decide +kernel
theorem dM_distance_7 : decode cM_distance 7 = .ok (.ifCond .ge 7, 3) := by decide +kernel
theorem dM_distance_10 : decode cM_distance 10 = .ok (.iconst 0, 1) := by decide +kernel
theorem dM_distance_11 : decode cM_distance 11 = .ok (.goto 29, 3) := by decide +kernel
theorem dM_distance_14 : decode cM_distance 14 = .ok (.aload_n 0, 1) := by decide +kernel
theorem dM_distance_15 : decode cM_distance 15 = .ok (.getfield 66, 3) := by decide +kernel
theorem dM_distance_18 : decode cM_distance 18 = .ok (.iconst 4, 1) := by decide +kernel
theorem dM_distance_19 : decode cM_distance 19 = .ok (.iload_n 1, 1) := by decide +kernel
theorem dM_distance_20 : decode cM_distance 20 = .ok (.imul, 1) := by decide +kernel
theorem dM_distance_21 : decode cM_distance 21 = .ok (.iload_n 2, 1) := by decide +kernel
theorem dM_distance_22 : decode cM_distance 22 = .ok (.iadd, 1) := by decide +kernel
theorem dM_distance_23 : decode cM_distance 23 = .ok (.iaload, 1) := by decide +kernel
theorem dM_distance_24 : decode cM_distance 24 = .ok (.aload_n 0, 1) := by decide +kernel
theorem dM_distance_25 : decode cM_distance 25 = .ok (.getfield 44, 3) := by decide +kernel
theorem dM_distance_28 : decode cM_distance 28 = .ok (.aload_n 0, 1) := by decide +kernel
theorem dM_distance_29 : decode cM_distance 29 = .ok (.getfield 26, 3) := by decide +kernel
theorem dM_distance_32 : decode cM_distance 32 = .ok (.iconst 4, 1) := by decide +kernel
theorem dM_distance_33 : decode cM_distance 33 = .ok (.iload_n 1, 1) := by decide +kernel
theorem dM_distance_34 : decode cM_distance 34 = .ok (.imul, 1) := by decide +kernel
theorem dM_distance_35 : decode cM_distance 35 = .ok (.iload_n 2, 1) := by decide +kernel
theorem dM_distance_36 : decode cM_distance 36 = .ok (.iadd, 1) := by decide +kernel
theorem dM_distance_37 : decode cM_distance 37 = .ok (.iaload, 1) := by decide +kernel
theorem dM_distance_38 : decode cM_distance 38 = .ok (.iaload, 1) := by decide +kernel
theorem dM_distance_39 : decode cM_distance 39 = .ok (.iadd, 1) := by decide +kernel
theorem dM_distance_40 : decode cM_distance 40 = .ok (.ireturn, 1) := by decide +kernel
theorem dM_marked_0 : decode cM_marked 0 = .ok (.aload_n 0, 1) := by decide +kernel
theorem dM_marked_1 : decode cM_marked 1 = .ok (.iload_n 1, 1) := by decide +kernel
theorem dM_marked_2 : decode cM_marked 2 = .ok (.invokevirtual 151, 3) := by decide +kernel
theorem dM_marked_5 : decode cM_marked 5 = .ok (.istore_n 2, 1) := by decide +kernel
theorem dM_marked_6 : decode cM_marked 6 = .ok (.iload_n 2, 1) := by decide +kernel
theorem dM_marked_7 : decode cM_marked 7 = .ok (.ifCond .ge 24, 3) := by decide +kernel
theorem dM_marked_10 : decode cM_marked 10 = .ok (.aload_n 0, 1) := by decide +kernel
theorem dM_marked_11 : decode cM_marked 11 = .ok (.getfield 154, 3) := by decide +kernel
theorem dM_marked_14 : decode cM_marked 14 = .ok (.aload_n 0, 1) := by decide +kernel
theorem dM_marked_15 : decode cM_marked 15 = .ok (.getfield 13, 3) := by decide +kernel
theorem dM_marked_18 : decode cM_marked 18 = .ok (.iload_n 1, 1) := by decide +kernel
theorem dM_marked_19 : decode cM_marked 19 = .ok (.iaload, 1) := by decide +kernel
theorem dM_marked_20 : decode cM_marked 20 = .ok (.if_icmp .ge 7, 3) := by decide +kernel
theorem dM_marked_23 : decode cM_marked 23 = .ok (.iconst 1, 1) := by decide +kernel
theorem dM_marked_24 : decode cM_marked 24 = .ok (.goto 17, 3) := by decide +kernel
theorem dM_marked_27 : decode cM_marked 27 = .ok (.iconst 0, 1) := by decide +kernel
theorem dM_marked_28 : decode cM_marked 28 = .ok (.goto 13, 3) := by decide +kernel
theorem dM_marked_31 : decode cM_marked 31 = .ok (.aload_n 0, 1) := by decide +kernel
theorem dM_marked_32 : decode cM_marked 32 = .ok (.getfield 78, 3) := by decide +kernel
theorem dM_marked_35 : decode cM_marked 35 = .ok (.iconst 4, 1) := by decide +kernel
theorem dM_marked_36 : decode cM_marked 36 = .ok (.iload_n 1, 1) := by decide +kernel
theorem dM_marked_37 : decode cM_marked 37 = .ok (.imul, 1) := by decide +kernel
theorem dM_marked_38 : decode cM_marked 38 = .ok (.iload_n 2, 1) := by decide +kernel
theorem dM_marked_39 : decode cM_marked 39 = .ok (.iadd, 1) := by decide +kernel
theorem dM_marked_40 : decode cM_marked 40 = .ok (.baload, 1) := by decide +kernel
theorem dM_marked_41 : decode cM_marked 41 = .ok (.ireturn, 1) := by decide +kernel
theorem dM_roleOf_0 : decode cM_roleOf 0 = .ok (.iload_n 1, 1) := by decide +kernel
theorem dM_roleOf_1 : decode cM_roleOf 1 = .ok (.iconst 4, 1) := by decide +kernel
theorem dM_roleOf_2 : decode cM_roleOf 2 = .ok (.idiv, 1) := by decide +kernel
theorem dM_roleOf_3 : decode cM_roleOf 3 = .ok (.istore_n 2, 1) := by decide +kernel
theorem dM_roleOf_4 : decode cM_roleOf 4 = .ok (.aload_n 0, 1) := by decide +kernel
theorem dM_roleOf_5 : decode cM_roleOf 5 = .ok (.iload_n 1, 1) := by decide +kernel
theorem dM_roleOf_6 : decode cM_roleOf 6 = .ok (.invokevirtual 157, 3) := by decide +kernel
theorem dM_roleOf_9 : decode cM_roleOf 9 = .ok (.ifCond .ne 5, 3) := by decide +kernel
theorem dM_roleOf_12 : decode cM_roleOf 12 = .ok (.iconst 0, 1) := by decide +kernel
theorem dM_roleOf_13 : decode cM_roleOf 13 = .ok (.ireturn, 1) := by decide +kernel
theorem dM_roleOf_14 : decode cM_roleOf 14 = .ok (.aload_n 0, 1) := by decide +kernel
theorem dM_roleOf_15 : decode cM_roleOf 15 = .ok (.iload_n 2, 1) := by decide +kernel
theorem dM_roleOf_16 : decode cM_roleOf 16 = .ok (.invokevirtual 151, 3) := by decide +kernel
theorem dM_roleOf_19 : decode cM_roleOf 19 = .ok (.iload_n 1, 1) := by decide +kernel
theorem dM_roleOf_20 : decode cM_roleOf 20 = .ok (.iconst 4, 1) := by decide +kernel
theorem dM_roleOf_21 : decode cM_roleOf 21 = .ok (.irem, 1) := by decide +kernel
theorem dM_roleOf_22 : decode cM_roleOf 22 = .ok (.if_icmp .ne 5, 3) := by decide +kernel
theorem dM_roleOf_25 : decode cM_roleOf 25 = .ok (.iconst 1, 1) := by decide +kernel
theorem dM_roleOf_26 : decode cM_roleOf 26 = .ok (.ireturn, 1) := by decide +kernel
theorem dM_roleOf_27 : decode cM_roleOf 27 = .ok (.aload_n 0, 1) := by decide +kernel
theorem dM_roleOf_28 : decode cM_roleOf 28 = .ok (.getfield 60, 3) := by decide +kernel
theorem dM_roleOf_31 : decode cM_roleOf 31 = .ok (.iload_n 1, 1) := by decide +kernel
theorem dM_roleOf_32 : decode cM_roleOf 32 = .ok (.baload, 1) := by decide +kernel
theorem dM_roleOf_33 : decode cM_roleOf 33 = .ok (.ifCond .ne 5, 3) := by decide +kernel
theorem dM_roleOf_36 : decode cM_roleOf 36 = .ok (.iconst 2, 1) := by decide +kernel
theorem dM_roleOf_37 : decode cM_roleOf 37 = .ok (.ireturn, 1) := by decide +kernel
theorem dM_roleOf_38 : decode cM_roleOf 38 = .ok (.aload_n 0, 1) := by decide +kernel
theorem dM_roleOf_39 : decode cM_roleOf 39 = .ok (.iload_n 2, 1) := by decide +kernel
theorem dM_roleOf_40 : decode cM_roleOf 40 = .ok (.invokevirtual 160, 3) := by decide +kernel
theorem dM_roleOf_43 : decode cM_roleOf 43 = .ok (.aload_n 0, 1) := by decide +kernel
theorem dM_roleOf_44 : decode cM_roleOf 44 = .ok (.iload_n 2, 1) := by decide +kernel
theorem dM_roleOf_45 : decode cM_roleOf 45 = .ok (.invokevirtual 163, 3) := by decide +kernel
theorem dM_roleOf_48 : decode cM_roleOf 48 = .ok (.aload_n 0, 1) := by decide +kernel
theorem dM_roleOf_49 : decode cM_roleOf 49 = .ok (.iload_n 2, 1) := by decide +kernel
theorem dM_roleOf_50 : decode cM_roleOf 50 = .ok (.invokevirtual 143, 3) := by decide +kernel
theorem dM_roleOf_53 : decode cM_roleOf 53 = .ok (.iload_n 1, 1) := by decide +kernel
theorem dM_roleOf_54 : decode cM_roleOf 54 = .ok (.iconst 4, 1) := by decide +kernel
theorem dM_roleOf_55 : decode cM_roleOf 55 = .ok (.irem, 1) := by decide +kernel
theorem dM_roleOf_56 : decode cM_roleOf 56 = .ok (.invokestatic 147, 3) := by decide +kernel
theorem dM_roleOf_59 : decode cM_roleOf 59 = .ok (.lstore_n 3, 1) := by decide +kernel
theorem dM_roleOf_60 : decode cM_roleOf 60 = .ok (.lload_n 3, 1) := by decide +kernel
theorem dM_roleOf_61 : decode cM_roleOf 61 = .ok (.aload_n 0, 1) := by decide +kernel
theorem dM_roleOf_62 : decode cM_roleOf 62 = .ok (.getfield 63, 3) := by decide +kernel
theorem dM_roleOf_65 : decode cM_roleOf 65 = .ok (.iload_n 1, 1) := by decide +kernel
theorem dM_roleOf_66 : decode cM_roleOf 66 = .ok (.iaload, 1) := by decide +kernel
theorem dM_roleOf_67 : decode cM_roleOf 67 = .ok (.aload_n 0, 1) := by decide +kernel
theorem dM_roleOf_68 : decode cM_roleOf 68 = .ok (.getfield 66, 3) := by decide +kernel
theorem dM_roleOf_71 : decode cM_roleOf 71 = .ok (.iload_n 1, 1) := by decide +kernel
theorem dM_roleOf_72 : decode cM_roleOf 72 = .ok (.iaload, 1) := by decide +kernel
theorem dM_roleOf_73 : decode cM_roleOf 73 = .ok (.aload_n 0, 1) := by decide +kernel
theorem dM_roleOf_74 : decode cM_roleOf 74 = .ok (.getfield 69, 3) := by decide +kernel
theorem dM_roleOf_77 : decode cM_roleOf 77 = .ok (.iload_n 1, 1) := by decide +kernel
theorem dM_roleOf_78 : decode cM_roleOf 78 = .ok (.iaload, 1) := by decide +kernel
theorem dM_roleOf_79 : decode cM_roleOf 79 = .ok (.aload_n 0, 1) := by decide +kernel
theorem dM_roleOf_80 : decode cM_roleOf 80 = .ok (.getfield 72, 3) := by decide +kernel
theorem dM_roleOf_83 : decode cM_roleOf 83 = .ok (.iload_n 1, 1) := by decide +kernel
theorem dM_roleOf_84 : decode cM_roleOf 84 = .ok (.iaload, 1) := by decide +kernel
theorem dM_roleOf_85 : decode cM_roleOf 85 = .ok (.invokestatic 147, 3) := by decide +kernel
theorem dM_roleOf_88 : decode cM_roleOf 88 = .ok (.lcmp, 1) := by decide +kernel
theorem dM_roleOf_89 : decode cM_roleOf 89 = .ok (.ifCond .ge 7, 3) := by decide +kernel
theorem dM_roleOf_92 : decode cM_roleOf 92 = .ok (.iconst 2, 1) := by decide +kernel
theorem dM_roleOf_93 : decode cM_roleOf 93 = .ok (.goto 4, 3) := by decide +kernel
theorem dM_roleOf_96 : decode cM_roleOf 96 = .ok (.iconst 3, 1) := by decide +kernel
theorem dM_roleOf_97 : decode cM_roleOf 97 = .ok (.ireturn, 1) := by decide +kernel
theorem dM_stateOf_0 : decode cM_stateOf 0 = .ok (.aload_n 0, 1) := by decide +kernel
theorem dM_stateOf_1 : decode cM_stateOf 1 = .ok (.iload_n 1, 1) := by decide +kernel
theorem dM_stateOf_2 : decode cM_stateOf 2 = .ok (.invokevirtual 166, 3) := by decide +kernel
theorem dM_stateOf_5 : decode cM_stateOf 5 = .ok (.istore_n 2, 1) := by decide +kernel
theorem dM_stateOf_6 : decode cM_stateOf 6 = .ok (.iload_n 2, 1) := by decide +kernel
theorem dM_stateOf_7 : decode cM_stateOf 7 = .ok (.ifCond .eq 8, 3) := by decide +kernel
theorem dM_stateOf_10 : decode cM_stateOf 10 = .ok (.iload_n 2, 1) := by decide +kernel
theorem dM_stateOf_11 : decode cM_stateOf 11 = .ok (.iconst 3, 1) := by decide +kernel
theorem dM_stateOf_12 : decode cM_stateOf 12 = .ok (.if_icmp .ne 5, 3) := by decide +kernel
theorem dM_stateOf_15 : decode cM_stateOf 15 = .ok (.iconst 0, 1) := by decide +kernel
theorem dM_stateOf_16 : decode cM_stateOf 16 = .ok (.ireturn, 1) := by decide +kernel
theorem dM_stateOf_17 : decode cM_stateOf 17 = .ok (.aload_n 0, 1) := by decide +kernel
theorem dM_stateOf_18 : decode cM_stateOf 18 = .ok (.getfield 154, 3) := by decide +kernel
theorem dM_stateOf_21 : decode cM_stateOf 21 = .ok (.aload_n 0, 1) := by decide +kernel
theorem dM_stateOf_22 : decode cM_stateOf 22 = .ok (.getfield 84, 3) := by decide +kernel
theorem dM_stateOf_25 : decode cM_stateOf 25 = .ok (.iload_n 1, 1) := by decide +kernel
theorem dM_stateOf_26 : decode cM_stateOf 26 = .ok (.iaload, 1) := by decide +kernel
theorem dM_stateOf_27 : decode cM_stateOf 27 = .ok (.isub, 1) := by decide +kernel
theorem dM_stateOf_28 : decode cM_stateOf 28 = .ok (.istore_n 3, 1) := by decide +kernel
theorem dM_stateOf_29 : decode cM_stateOf 29 = .ok (.iload_n 3, 1) := by decide +kernel
theorem dM_stateOf_30 : decode cM_stateOf 30 = .ok (.aload_n 0, 1) := by decide +kernel
theorem dM_stateOf_31 : decode cM_stateOf 31 = .ok (.getfield 109, 3) := by decide +kernel
theorem dM_stateOf_34 : decode cM_stateOf 34 = .ok (.if_icmp .ge 7, 3) := by decide +kernel
theorem dM_stateOf_37 : decode cM_stateOf 37 = .ok (.iconst 1, 1) := by decide +kernel
theorem dM_stateOf_38 : decode cM_stateOf 38 = .ok (.goto 18, 3) := by decide +kernel
theorem dM_stateOf_41 : decode cM_stateOf 41 = .ok (.iload_n 3, 1) := by decide +kernel
theorem dM_stateOf_42 : decode cM_stateOf 42 = .ok (.iconst 2, 1) := by decide +kernel
theorem dM_stateOf_43 : decode cM_stateOf 43 = .ok (.aload_n 0, 1) := by decide +kernel
theorem dM_stateOf_44 : decode cM_stateOf 44 = .ok (.getfield 109, 3) := by decide +kernel
theorem dM_stateOf_47 : decode cM_stateOf 47 = .ok (.imul, 1) := by decide +kernel
theorem dM_stateOf_48 : decode cM_stateOf 48 = .ok (.if_icmp .ge 7, 3) := by decide +kernel
theorem dM_stateOf_51 : decode cM_stateOf 51 = .ok (.iconst 2, 1) := by decide +kernel
theorem dM_stateOf_52 : decode cM_stateOf 52 = .ok (.goto 4, 3) := by decide +kernel
theorem dM_stateOf_55 : decode cM_stateOf 55 = .ok (.iconst 3, 1) := by decide +kernel
theorem dM_stateOf_56 : decode cM_stateOf 56 = .ok (.ireturn, 1) := by decide +kernel
theorem dM_look_0 : decode cM_look 0 = .ok (.iconst 0, 1) := by decide +kernel
theorem dM_look_1 : decode cM_look 1 = .ok (.istore_n 2, 1) := by decide +kernel
theorem dM_look_2 : decode cM_look 2 = .ok (.iload_n 2, 1) := by decide +kernel
theorem dM_look_3 : decode cM_look 3 = .ok (.iconst 4, 1) := by decide +kernel
theorem dM_look_4 : decode cM_look 4 = .ok (.aload_n 0, 1) := by decide +kernel
theorem dM_look_5 : decode cM_look 5 = .ok (.getfield 115, 3) := by decide +kernel
theorem dM_look_8 : decode cM_look 8 = .ok (.imul, 1) := by decide +kernel
theorem dM_look_9 : decode cM_look 9 = .ok (.if_icmp .ge 144, 3) := by decide +kernel
theorem dM_look_12 : decode cM_look 12 = .ok (.aload_n 0, 1) := by decide +kernel
theorem dM_look_13 : decode cM_look 13 = .ok (.iload_n 2, 1) := by decide +kernel
theorem dM_look_14 : decode cM_look 14 = .ok (.invokevirtual 166, 3) := by decide +kernel
theorem dM_look_17 : decode cM_look 17 = .ok (.istore_n 3, 1) := by decide +kernel
theorem dM_look_18 : decode cM_look 18 = .ok (.iload_n 3, 1) := by decide +kernel
theorem dM_look_19 : decode cM_look 19 = .ok (.iconst 1, 1) := by decide +kernel
theorem dM_look_20 : decode cM_look 20 = .ok (.if_icmp .eq 8, 3) := by decide +kernel
theorem dM_look_23 : decode cM_look 23 = .ok (.iload_n 3, 1) := by decide +kernel
theorem dM_look_24 : decode cM_look 24 = .ok (.iconst 2, 1) := by decide +kernel
theorem dM_look_25 : decode cM_look 25 = .ok (.if_icmp .ne 7, 3) := by decide +kernel
theorem dM_look_28 : decode cM_look 28 = .ok (.iconst 1, 1) := by decide +kernel
theorem dM_look_29 : decode cM_look 29 = .ok (.goto 4, 3) := by decide +kernel
theorem dM_look_32 : decode cM_look 32 = .ok (.iconst 0, 1) := by decide +kernel
theorem dM_look_33 : decode cM_look 33 = .ok (.istore 4, 2) := by decide +kernel
theorem dM_look_35 : decode cM_look 35 = .ok (.iload 4, 2) := by decide +kernel
theorem dM_look_37 : decode cM_look 37 = .ok (.ifCond .eq 22, 3) := by decide +kernel
theorem dM_look_40 : decode cM_look 40 = .ok (.aload_n 0, 1) := by decide +kernel
theorem dM_look_41 : decode cM_look 41 = .ok (.getfield 81, 3) := by decide +kernel
theorem dM_look_44 : decode cM_look 44 = .ok (.iload_n 2, 1) := by decide +kernel
theorem dM_look_45 : decode cM_look 45 = .ok (.baload, 1) := by decide +kernel
theorem dM_look_46 : decode cM_look 46 = .ok (.ifCond .ne 13, 3) := by decide +kernel
theorem dM_look_49 : decode cM_look 49 = .ok (.aload_n 0, 1) := by decide +kernel
theorem dM_look_50 : decode cM_look 50 = .ok (.getfield 84, 3) := by decide +kernel
theorem dM_look_53 : decode cM_look 53 = .ok (.iload_n 2, 1) := by decide +kernel
theorem dM_look_54 : decode cM_look 54 = .ok (.aload_n 0, 1) := by decide +kernel
theorem dM_look_55 : decode cM_look 55 = .ok (.getfield 154, 3) := by decide +kernel
theorem dM_look_58 : decode cM_look 58 = .ok (.iastore, 1) := by decide +kernel
theorem dM_look_59 : decode cM_look 59 = .ok (.aload_n 0, 1) := by decide +kernel
theorem dM_look_60 : decode cM_look 60 = .ok (.getfield 81, 3) := by decide +kernel
theorem dM_look_63 : decode cM_look 63 = .ok (.iload_n 2, 1) := by decide +kernel
theorem dM_look_64 : decode cM_look 64 = .ok (.iload 4, 2) := by decide +kernel
theorem dM_look_66 : decode cM_look 66 = .ok (.bastore, 1) := by decide +kernel
theorem dM_look_67 : decode cM_look 67 = .ok (.aload_n 0, 1) := by decide +kernel
theorem dM_look_68 : decode cM_look 68 = .ok (.iload_n 2, 1) := by decide +kernel
theorem dM_look_69 : decode cM_look 69 = .ok (.invokevirtual 169, 3) := by decide +kernel
theorem dM_look_72 : decode cM_look 72 = .ok (.istore 5, 2) := by decide +kernel
theorem dM_look_74 : decode cM_look 74 = .ok (.iload 5, 2) := by decide +kernel
theorem dM_look_76 : decode cM_look 76 = .ok (.iconst 3, 1) := by decide +kernel
theorem dM_look_77 : decode cM_look 77 = .ok (.if_icmp .ne 21, 3) := by decide +kernel
theorem dM_look_80 : decode cM_look 80 = .ok (.aload_n 0, 1) := by decide +kernel
theorem dM_look_81 : decode cM_look 81 = .ok (.getfield 87, 3) := by decide +kernel
theorem dM_look_84 : decode cM_look 84 = .ok (.iload_n 2, 1) := by decide +kernel
theorem dM_look_85 : decode cM_look 85 = .ok (.iaload, 1) := by decide +kernel
theorem dM_look_86 : decode cM_look 86 = .ok (.iconst 3, 1) := by decide +kernel
theorem dM_look_87 : decode cM_look 87 = .ok (.if_icmp .eq 7, 3) := by decide +kernel
theorem dM_look_90 : decode cM_look 90 = .ok (.iconst 1, 1) := by decide +kernel
theorem dM_look_91 : decode cM_look 91 = .ok (.goto 28, 3) := by decide +kernel
theorem dM_look_94 : decode cM_look 94 = .ok (.iconst 0, 1) := by decide +kernel
theorem dM_look_95 : decode cM_look 95 = .ok (.goto 24, 3) := by decide +kernel
theorem dM_look_98 : decode cM_look 98 = .ok (.aload_n 0, 1) := by decide +kernel
theorem dM_look_99 : decode cM_look 99 = .ok (.getfield 87, 3) := by decide +kernel
theorem dM_look_102 : decode cM_look 102 = .ok (.iload_n 2, 1) := by decide +kernel
theorem dM_look_103 : decode cM_look 103 = .ok (.iaload, 1) := by decide +kernel
theorem dM_look_104 : decode cM_look 104 = .ok (.iconst 2, 1) := by decide +kernel
theorem dM_look_105 : decode cM_look 105 = .ok (.if_icmp .lt 13, 3) := by decide +kernel
theorem dM_look_108 : decode cM_look 108 = .ok (.iload 5, 2) := by decide +kernel
theorem dM_look_110 : decode cM_look 110 = .ok (.iconst 2, 1) := by decide +kernel
theorem dM_look_111 : decode cM_look 111 = .ok (.if_icmp .eq 7, 3) := by decide +kernel
theorem dM_look_114 : decode cM_look 114 = .ok (.iconst 1, 1) := by decide +kernel
theorem dM_look_115 : decode cM_look 115 = .ok (.goto 4, 3) := by decide +kernel
theorem dM_look_118 : decode cM_look 118 = .ok (.iconst 0, 1) := by decide +kernel
theorem dM_look_119 : decode cM_look 119 = .ok (.istore 6, 2) := by decide +kernel
theorem dM_look_121 : decode cM_look 121 = .ok (.iload_n 1, 1) := by decide +kernel
theorem dM_look_122 : decode cM_look 122 = .ok (.ifCond .eq 17, 3) := by decide +kernel
theorem dM_look_125 : decode cM_look 125 = .ok (.iload 6, 2) := by decide +kernel
theorem dM_look_127 : decode cM_look 127 = .ok (.ifCond .eq 12, 3) := by decide +kernel
theorem dM_look_130 : decode cM_look 130 = .ok (.aload_n 0, 1) := by decide +kernel
theorem dM_look_131 : decode cM_look 131 = .ok (.getfield 16, 3) := by decide +kernel
theorem dM_look_134 : decode cM_look 134 = .ok (.iload_n 2, 1) := by decide +kernel
theorem dM_look_135 : decode cM_look 135 = .ok (.iconst 4, 1) := by decide +kernel
theorem dM_look_136 : decode cM_look 136 = .ok (.idiv, 1) := by decide +kernel
theorem dM_look_137 : decode cM_look 137 = .ok (.iconst 1, 1) := by decide +kernel
theorem dM_look_138 : decode cM_look 138 = .ok (.bastore, 1) := by decide +kernel
theorem dM_look_139 : decode cM_look 139 = .ok (.aload_n 0, 1) := by decide +kernel
theorem dM_look_140 : decode cM_look 140 = .ok (.getfield 87, 3) := by decide +kernel
theorem dM_look_143 : decode cM_look 143 = .ok (.iload_n 2, 1) := by decide +kernel
theorem dM_look_144 : decode cM_look 144 = .ok (.iload 5, 2) := by decide +kernel
theorem dM_look_146 : decode cM_look 146 = .ok (.iastore, 1) := by decide +kernel
theorem dM_look_147 : decode cM_look 147 = .ok (.iinc 2 1, 3) := by decide +kernel
theorem dM_look_150 : decode cM_look 150 = .ok (.goto (-148), 3) := by decide +kernel
theorem dM_look_153 : decode cM_look 153 = .ok (.return_, 1) := by decide +kernel
theorem dM_other_0 : decode cM_other 0 = .ok (.aload_n 0, 1) := by decide +kernel
theorem dM_other_1 : decode cM_other 1 = .ok (.getfield 26, 3) := by decide +kernel
theorem dM_other_4 : decode cM_other 4 = .ok (.iload_n 1, 1) := by decide +kernel
theorem dM_other_5 : decode cM_other 5 = .ok (.iaload, 1) := by decide +kernel
theorem dM_other_6 : decode cM_other 6 = .ok (.istore_n 2, 1) := by decide +kernel
theorem dM_other_7 : decode cM_other 7 = .ok (.aload_n 0, 1) := by decide +kernel
theorem dM_other_8 : decode cM_other 8 = .ok (.getfield 38, 3) := by decide +kernel
theorem dM_other_11 : decode cM_other 11 = .ok (.iload_n 2, 1) := by decide +kernel
theorem dM_other_12 : decode cM_other 12 = .ok (.iaload, 1) := by decide +kernel
theorem dM_other_13 : decode cM_other 13 = .ok (.iload_n 1, 1) := by decide +kernel
theorem dM_other_14 : decode cM_other 14 = .ok (.if_icmp .ne 12, 3) := by decide +kernel
theorem dM_other_17 : decode cM_other 17 = .ok (.aload_n 0, 1) := by decide +kernel
theorem dM_other_18 : decode cM_other 18 = .ok (.getfield 41, 3) := by decide +kernel
theorem dM_other_21 : decode cM_other 21 = .ok (.iload_n 2, 1) := by decide +kernel
theorem dM_other_22 : decode cM_other 22 = .ok (.iaload, 1) := by decide +kernel
theorem dM_other_23 : decode cM_other 23 = .ok (.goto 9, 3) := by decide +kernel
theorem dM_other_26 : decode cM_other 26 = .ok (.aload_n 0, 1) := by decide +kernel
theorem dM_other_27 : decode cM_other 27 = .ok (.getfield 38, 3) := by decide +kernel
theorem dM_other_30 : decode cM_other 30 = .ok (.iload_n 2, 1) := by decide +kernel
theorem dM_other_31 : decode cM_other 31 = .ok (.iaload, 1) := by decide +kernel
theorem dM_other_32 : decode cM_other 32 = .ok (.ireturn, 1) := by decide +kernel
theorem dM_age_0 : decode cM_age 0 = .ok (.iconst 0, 1) := by decide +kernel
theorem dM_age_1 : decode cM_age 1 = .ok (.istore_n 1, 1) := by decide +kernel
theorem dM_age_2 : decode cM_age 2 = .ok (.iload_n 1, 1) := by decide +kernel
theorem dM_age_3 : decode cM_age 3 = .ok (.bipush 24, 2) := by decide +kernel
theorem dM_age_5 : decode cM_age 5 = .ok (.if_icmp .ge 52, 3) := by decide +kernel
theorem dM_age_8 : decode cM_age 8 = .ok (.aload_n 0, 1) := by decide +kernel
theorem dM_age_9 : decode cM_age 9 = .ok (.getfield 60, 3) := by decide +kernel
theorem dM_age_12 : decode cM_age 12 = .ok (.iload_n 1, 1) := by decide +kernel
theorem dM_age_13 : decode cM_age 13 = .ok (.baload, 1) := by decide +kernel
theorem dM_age_14 : decode cM_age 14 = .ok (.ifCond .eq 37, 3) := by decide +kernel
theorem dM_age_17 : decode cM_age 17 = .ok (.aload_n 0, 1) := by decide +kernel
theorem dM_age_18 : decode cM_age 18 = .ok (.getfield 75, 3) := by decide +kernel
theorem dM_age_21 : decode cM_age 21 = .ok (.iload_n 1, 1) := by decide +kernel
theorem dM_age_22 : decode cM_age 22 = .ok (.dup2, 1) := by decide +kernel
theorem dM_age_23 : decode cM_age 23 = .ok (.iaload, 1) := by decide +kernel
theorem dM_age_24 : decode cM_age 24 = .ok (.iconst 1, 1) := by decide +kernel
theorem dM_age_25 : decode cM_age 25 = .ok (.iadd, 1) := by decide +kernel
theorem dM_age_26 : decode cM_age 26 = .ok (.iastore, 1) := by decide +kernel
theorem dM_age_27 : decode cM_age 27 = .ok (.aload_n 0, 1) := by decide +kernel
theorem dM_age_28 : decode cM_age 28 = .ok (.getfield 60, 3) := by decide +kernel
theorem dM_age_31 : decode cM_age 31 = .ok (.iload_n 1, 1) := by decide +kernel
theorem dM_age_32 : decode cM_age 32 = .ok (.aload_n 0, 1) := by decide +kernel
theorem dM_age_33 : decode cM_age 33 = .ok (.getfield 75, 3) := by decide +kernel
theorem dM_age_36 : decode cM_age 36 = .ok (.iload_n 1, 1) := by decide +kernel
theorem dM_age_37 : decode cM_age 37 = .ok (.iaload, 1) := by decide +kernel
theorem dM_age_38 : decode cM_age 38 = .ok (.aload_n 0, 1) := by decide +kernel
theorem dM_age_39 : decode cM_age 39 = .ok (.getfield 106, 3) := by decide +kernel
theorem dM_age_42 : decode cM_age 42 = .ok (.if_icmp .ge 7, 3) := by decide +kernel
theorem dM_age_45 : decode cM_age 45 = .ok (.iconst 1, 1) := by decide +kernel
theorem dM_age_46 : decode cM_age 46 = .ok (.goto 4, 3) := by decide +kernel
theorem dM_age_49 : decode cM_age 49 = .ok (.iconst 0, 1) := by decide +kernel
theorem dM_age_50 : decode cM_age 50 = .ok (.bastore, 1) := by decide +kernel
theorem dM_age_51 : decode cM_age 51 = .ok (.iinc 1 1, 3) := by decide +kernel
theorem dM_age_54 : decode cM_age 54 = .ok (.goto (-52), 3) := by decide +kernel
theorem dM_age_57 : decode cM_age 57 = .ok (.return_, 1) := by decide +kernel
theorem dM_passNotices_0 : decode cM_passNotices 0 = .ok (.iconst 0, 1) := by decide +kernel
theorem dM_passNotices_1 : decode cM_passNotices 1 = .ok (.istore_n 1, 1) := by decide +kernel
theorem dM_passNotices_2 : decode cM_passNotices 2 = .ok (.iload_n 1, 1) := by decide +kernel
theorem dM_passNotices_3 : decode cM_passNotices 3 = .ok (.bipush 6, 2) := by decide +kernel
theorem dM_passNotices_5 : decode cM_passNotices 5 = .ok (.if_icmp .ge 16, 3) := by decide +kernel
theorem dM_passNotices_8 : decode cM_passNotices 8 = .ok (.aload_n 0, 1) := by decide +kernel
theorem dM_passNotices_9 : decode cM_passNotices 9 = .ok (.getfield 20, 3) := by decide +kernel
theorem dM_passNotices_12 : decode cM_passNotices 12 = .ok (.iload_n 1, 1) := by decide +kernel
theorem dM_passNotices_13 : decode cM_passNotices 13 = .ok (.iconst 0, 1) := by decide +kernel
theorem dM_passNotices_14 : decode cM_passNotices 14 = .ok (.bastore, 1) := by decide +kernel
theorem dM_passNotices_15 : decode cM_passNotices 15 = .ok (.iinc 1 1, 3) := by decide +kernel
theorem dM_passNotices_18 : decode cM_passNotices 18 = .ok (.goto (-16), 3) := by decide +kernel
theorem dM_passNotices_21 : decode cM_passNotices 21 = .ok (.iconst 0, 1) := by decide +kernel
theorem dM_passNotices_22 : decode cM_passNotices 22 = .ok (.istore_n 1, 1) := by decide +kernel
theorem dM_passNotices_23 : decode cM_passNotices 23 = .ok (.iload_n 1, 1) := by decide +kernel
theorem dM_passNotices_24 : decode cM_passNotices 24 = .ok (.aload_n 0, 1) := by decide +kernel
theorem dM_passNotices_25 : decode cM_passNotices 25 = .ok (.getfield 115, 3) := by decide +kernel
theorem dM_passNotices_28 : decode cM_passNotices 28 = .ok (.if_icmp .ge 71, 3) := by decide +kernel
theorem dM_passNotices_31 : decode cM_passNotices 31 = .ok (.aload_n 0, 1) := by decide +kernel
theorem dM_passNotices_32 : decode cM_passNotices 32 = .ok (.getfield 16, 3) := by decide +kernel
theorem dM_passNotices_35 : decode cM_passNotices 35 = .ok (.iload_n 1, 1) := by decide +kernel
theorem dM_passNotices_36 : decode cM_passNotices 36 = .ok (.baload, 1) := by decide +kernel
theorem dM_passNotices_37 : decode cM_passNotices 37 = .ok (.ifCond .ne 6, 3) := by decide +kernel
theorem dM_passNotices_40 : decode cM_passNotices 40 = .ok (.goto 53, 3) := by decide +kernel
theorem dM_passNotices_43 : decode cM_passNotices 43 = .ok (.aload_n 0, 1) := by decide +kernel
theorem dM_passNotices_44 : decode cM_passNotices 44 = .ok (.iload_n 1, 1) := by decide +kernel
theorem dM_passNotices_45 : decode cM_passNotices 45 = .ok (.invokevirtual 151, 3) := by decide +kernel
theorem dM_passNotices_48 : decode cM_passNotices 48 = .ok (.istore_n 2, 1) := by decide +kernel
theorem dM_passNotices_49 : decode cM_passNotices 49 = .ok (.iload_n 2, 1) := by decide +kernel
theorem dM_passNotices_50 : decode cM_passNotices 50 = .ok (.ifCond .ge 26, 3) := by decide +kernel
theorem dM_passNotices_53 : decode cM_passNotices 53 = .ok (.aload_n 0, 1) := by decide +kernel
theorem dM_passNotices_54 : decode cM_passNotices 54 = .ok (.getfield 13, 3) := by decide +kernel
theorem dM_passNotices_57 : decode cM_passNotices 57 = .ok (.iload_n 1, 1) := by decide +kernel
theorem dM_passNotices_58 : decode cM_passNotices 58 = .ok (.aload_n 0, 1) := by decide +kernel
theorem dM_passNotices_59 : decode cM_passNotices 59 = .ok (.getfield 154, 3) := by decide +kernel
theorem dM_passNotices_62 : decode cM_passNotices 62 = .ok (.aload_n 0, 1) := by decide +kernel
theorem dM_passNotices_63 : decode cM_passNotices 63 = .ok (.getfield 106, 3) := by decide +kernel
theorem dM_passNotices_66 : decode cM_passNotices 66 = .ok (.iadd, 1) := by decide +kernel
theorem dM_passNotices_67 : decode cM_passNotices 67 = .ok (.aload_n 0, 1) := by decide +kernel
theorem dM_passNotices_68 : decode cM_passNotices 68 = .ok (.getfield 109, 3) := by decide +kernel
theorem dM_passNotices_71 : decode cM_passNotices 71 = .ok (.iadd, 1) := by decide +kernel
theorem dM_passNotices_72 : decode cM_passNotices 72 = .ok (.iastore, 1) := by decide +kernel
theorem dM_passNotices_73 : decode cM_passNotices 73 = .ok (.goto 20, 3) := by decide +kernel
theorem dM_passNotices_76 : decode cM_passNotices 76 = .ok (.aload_n 0, 1) := by decide +kernel
theorem dM_passNotices_77 : decode cM_passNotices 77 = .ok (.getfield 20, 3) := by decide +kernel
theorem dM_passNotices_80 : decode cM_passNotices 80 = .ok (.aload_n 0, 1) := by decide +kernel
theorem dM_passNotices_81 : decode cM_passNotices 81 = .ok (.iconst 4, 1) := by decide +kernel
theorem dM_passNotices_82 : decode cM_passNotices 82 = .ok (.iload_n 1, 1) := by decide +kernel
theorem dM_passNotices_83 : decode cM_passNotices 83 = .ok (.imul, 1) := by decide +kernel
theorem dM_passNotices_84 : decode cM_passNotices 84 = .ok (.iload_n 2, 1) := by decide +kernel
theorem dM_passNotices_85 : decode cM_passNotices 85 = .ok (.iadd, 1) := by decide +kernel
theorem dM_passNotices_86 : decode cM_passNotices 86 = .ok (.invokevirtual 172, 3) := by decide +kernel
theorem dM_passNotices_89 : decode cM_passNotices 89 = .ok (.iconst 4, 1) := by decide +kernel
theorem dM_passNotices_90 : decode cM_passNotices 90 = .ok (.idiv, 1) := by decide +kernel
theorem dM_passNotices_91 : decode cM_passNotices 91 = .ok (.iconst 1, 1) := by decide +kernel
theorem dM_passNotices_92 : decode cM_passNotices 92 = .ok (.bastore, 1) := by decide +kernel
theorem dM_passNotices_93 : decode cM_passNotices 93 = .ok (.iinc 1 1, 3) := by decide +kernel
theorem dM_passNotices_96 : decode cM_passNotices 96 = .ok (.goto (-73), 3) := by decide +kernel
theorem dM_passNotices_99 : decode cM_passNotices 99 = .ok (.iconst 0, 1) := by decide +kernel
theorem dM_passNotices_100 : decode cM_passNotices 100 = .ok (.istore_n 1, 1) := by decide +kernel
theorem dM_passNotices_101 : decode cM_passNotices 101 = .ok (.iload_n 1, 1) := by decide +kernel
theorem dM_passNotices_102 : decode cM_passNotices 102 = .ok (.bipush 6, 2) := by decide +kernel
theorem dM_passNotices_104 : decode cM_passNotices 104 = .ok (.if_icmp .ge 21, 3) := by decide +kernel
theorem dM_passNotices_107 : decode cM_passNotices 107 = .ok (.aload_n 0, 1) := by decide +kernel
theorem dM_passNotices_108 : decode cM_passNotices 108 = .ok (.getfield 16, 3) := by decide +kernel
theorem dM_passNotices_111 : decode cM_passNotices 111 = .ok (.iload_n 1, 1) := by decide +kernel
theorem dM_passNotices_112 : decode cM_passNotices 112 = .ok (.aload_n 0, 1) := by decide +kernel
theorem dM_passNotices_113 : decode cM_passNotices 113 = .ok (.getfield 20, 3) := by decide +kernel
theorem dM_passNotices_116 : decode cM_passNotices 116 = .ok (.iload_n 1, 1) := by decide +kernel
theorem dM_passNotices_117 : decode cM_passNotices 117 = .ok (.baload, 1) := by decide +kernel
theorem dM_passNotices_118 : decode cM_passNotices 118 = .ok (.bastore, 1) := by decide +kernel
theorem dM_passNotices_119 : decode cM_passNotices 119 = .ok (.iinc 1 1, 3) := by decide +kernel
theorem dM_passNotices_122 : decode cM_passNotices 122 = .ok (.goto (-21), 3) := by decide +kernel
theorem dM_passNotices_125 : decode cM_passNotices 125 = .ok (.return_, 1) := by decide +kernel
theorem dM_sendMessages_0 : decode cM_sendMessages 0 = .ok (.bipush 24, 2) := by decide +kernel
theorem dM_sendMessages_2 : decode cM_sendMessages 2 = .ok (.istore_n 1, 1) := by decide +kernel
theorem dM_sendMessages_3 : decode cM_sendMessages 3 = .ok (.iload_n 1, 1) := by decide +kernel
theorem dM_sendMessages_4 : decode cM_sendMessages 4 = .ok (.bipush 48, 2) := by decide +kernel
theorem dM_sendMessages_6 : decode cM_sendMessages 6 = .ok (.if_icmp .ge 16, 3) := by decide +kernel
theorem dM_sendMessages_9 : decode cM_sendMessages 9 = .ok (.aload_n 0, 1) := by decide +kernel
theorem dM_sendMessages_10 : decode cM_sendMessages 10 = .ok (.getfield 60, 3) := by decide +kernel
theorem dM_sendMessages_13 : decode cM_sendMessages 13 = .ok (.iload_n 1, 1) := by decide +kernel
theorem dM_sendMessages_14 : decode cM_sendMessages 14 = .ok (.iconst 0, 1) := by decide +kernel
theorem dM_sendMessages_15 : decode cM_sendMessages 15 = .ok (.bastore, 1) := by decide +kernel
theorem dM_sendMessages_16 : decode cM_sendMessages 16 = .ok (.iinc 1 1, 3) := by decide +kernel
theorem dM_sendMessages_19 : decode cM_sendMessages 19 = .ok (.goto (-16), 3) := by decide +kernel
theorem dM_sendMessages_22 : decode cM_sendMessages 22 = .ok (.iconst 0, 1) := by decide +kernel
theorem dM_sendMessages_23 : decode cM_sendMessages 23 = .ok (.istore_n 1, 1) := by decide +kernel
theorem dM_sendMessages_24 : decode cM_sendMessages 24 = .ok (.iload_n 1, 1) := by decide +kernel
theorem dM_sendMessages_25 : decode cM_sendMessages 25 = .ok (.iconst 4, 1) := by decide +kernel
theorem dM_sendMessages_26 : decode cM_sendMessages 26 = .ok (.aload_n 0, 1) := by decide +kernel
theorem dM_sendMessages_27 : decode cM_sendMessages 27 = .ok (.getfield 115, 3) := by decide +kernel
theorem dM_sendMessages_30 : decode cM_sendMessages 30 = .ok (.imul, 1) := by decide +kernel
theorem dM_sendMessages_31 : decode cM_sendMessages 31 = .ok (.if_icmp .ge 142, 3) := by decide +kernel
theorem dM_sendMessages_34 : decode cM_sendMessages 34 = .ok (.aload_n 0, 1) := by decide +kernel
theorem dM_sendMessages_35 : decode cM_sendMessages 35 = .ok (.getfield 23, 3) := by decide +kernel
theorem dM_sendMessages_38 : decode cM_sendMessages 38 = .ok (.iload_n 1, 1) := by decide +kernel
theorem dM_sendMessages_39 : decode cM_sendMessages 39 = .ok (.iaload, 1) := by decide +kernel
theorem dM_sendMessages_40 : decode cM_sendMessages 40 = .ok (.iconst 1, 1) := by decide +kernel
theorem dM_sendMessages_41 : decode cM_sendMessages 41 = .ok (.if_icmp .ne 126, 3) := by decide +kernel
theorem dM_sendMessages_44 : decode cM_sendMessages 44 = .ok (.aload_n 0, 1) := by decide +kernel
theorem dM_sendMessages_45 : decode cM_sendMessages 45 = .ok (.iload_n 1, 1) := by decide +kernel
theorem dM_sendMessages_46 : decode cM_sendMessages 46 = .ok (.invokevirtual 166, 3) := by decide +kernel
theorem dM_sendMessages_49 : decode cM_sendMessages 49 = .ok (.iconst 2, 1) := by decide +kernel
theorem dM_sendMessages_50 : decode cM_sendMessages 50 = .ok (.if_icmp .eq 6, 3) := by decide +kernel
theorem dM_sendMessages_53 : decode cM_sendMessages 53 = .ok (.goto 114, 3) := by decide +kernel
theorem dM_sendMessages_56 : decode cM_sendMessages 56 = .ok (.iload_n 1, 1) := by decide +kernel
theorem dM_sendMessages_57 : decode cM_sendMessages 57 = .ok (.iconst 4, 1) := by decide +kernel
theorem dM_sendMessages_58 : decode cM_sendMessages 58 = .ok (.idiv, 1) := by decide +kernel
theorem dM_sendMessages_59 : decode cM_sendMessages 59 = .ok (.istore_n 2, 1) := by decide +kernel
theorem dM_sendMessages_60 : decode cM_sendMessages 60 = .ok (.aload_n 0, 1) := by decide +kernel
theorem dM_sendMessages_61 : decode cM_sendMessages 61 = .ok (.iload_n 2, 1) := by decide +kernel
theorem dM_sendMessages_62 : decode cM_sendMessages 62 = .ok (.invokevirtual 151, 3) := by decide +kernel
theorem dM_sendMessages_65 : decode cM_sendMessages 65 = .ok (.istore_n 3, 1) := by decide +kernel
theorem dM_sendMessages_66 : decode cM_sendMessages 66 = .ok (.bipush 24, 2) := by decide +kernel
theorem dM_sendMessages_68 : decode cM_sendMessages 68 = .ok (.aload_n 0, 1) := by decide +kernel
theorem dM_sendMessages_69 : decode cM_sendMessages 69 = .ok (.iload_n 1, 1) := by decide +kernel
theorem dM_sendMessages_70 : decode cM_sendMessages 70 = .ok (.invokevirtual 172, 3) := by decide +kernel
theorem dM_sendMessages_73 : decode cM_sendMessages 73 = .ok (.iadd, 1) := by decide +kernel
theorem dM_sendMessages_74 : decode cM_sendMessages 74 = .ok (.istore 4, 2) := by decide +kernel
theorem dM_sendMessages_76 : decode cM_sendMessages 76 = .ok (.aload_n 0, 1) := by decide +kernel
theorem dM_sendMessages_77 : decode cM_sendMessages 77 = .ok (.getfield 60, 3) := by decide +kernel
theorem dM_sendMessages_80 : decode cM_sendMessages 80 = .ok (.iload 4, 2) := by decide +kernel
theorem dM_sendMessages_82 : decode cM_sendMessages 82 = .ok (.iconst 1, 1) := by decide +kernel
theorem dM_sendMessages_83 : decode cM_sendMessages 83 = .ok (.bastore, 1) := by decide +kernel
theorem dM_sendMessages_84 : decode cM_sendMessages 84 = .ok (.aload_n 0, 1) := by decide +kernel
theorem dM_sendMessages_85 : decode cM_sendMessages 85 = .ok (.getfield 63, 3) := by decide +kernel
theorem dM_sendMessages_88 : decode cM_sendMessages 88 = .ok (.iload 4, 2) := by decide +kernel
theorem dM_sendMessages_90 : decode cM_sendMessages 90 = .ok (.aload_n 0, 1) := by decide +kernel
theorem dM_sendMessages_91 : decode cM_sendMessages 91 = .ok (.iload_n 2, 1) := by decide +kernel
theorem dM_sendMessages_92 : decode cM_sendMessages 92 = .ok (.invokevirtual 160, 3) := by decide +kernel
theorem dM_sendMessages_95 : decode cM_sendMessages 95 = .ok (.iastore, 1) := by decide +kernel
theorem dM_sendMessages_96 : decode cM_sendMessages 96 = .ok (.aload_n 0, 1) := by decide +kernel
theorem dM_sendMessages_97 : decode cM_sendMessages 97 = .ok (.getfield 66, 3) := by decide +kernel
theorem dM_sendMessages_100 : decode cM_sendMessages 100 = .ok (.iload 4, 2) := by decide +kernel
theorem dM_sendMessages_102 : decode cM_sendMessages 102 = .ok (.aload_n 0, 1) := by decide +kernel
theorem dM_sendMessages_103 : decode cM_sendMessages 103 = .ok (.iload_n 2, 1) := by decide +kernel
theorem dM_sendMessages_104 : decode cM_sendMessages 104 = .ok (.invokevirtual 163, 3) := by decide +kernel
theorem dM_sendMessages_107 : decode cM_sendMessages 107 = .ok (.iastore, 1) := by decide +kernel
theorem dM_sendMessages_108 : decode cM_sendMessages 108 = .ok (.aload_n 0, 1) := by decide +kernel
theorem dM_sendMessages_109 : decode cM_sendMessages 109 = .ok (.getfield 69, 3) := by decide +kernel
theorem dM_sendMessages_112 : decode cM_sendMessages 112 = .ok (.iload 4, 2) := by decide +kernel
theorem dM_sendMessages_114 : decode cM_sendMessages 114 = .ok (.aload_n 0, 1) := by decide +kernel
theorem dM_sendMessages_115 : decode cM_sendMessages 115 = .ok (.iload_n 2, 1) := by decide +kernel
theorem dM_sendMessages_116 : decode cM_sendMessages 116 = .ok (.invokevirtual 143, 3) := by decide +kernel
theorem dM_sendMessages_119 : decode cM_sendMessages 119 = .ok (.iastore, 1) := by decide +kernel
theorem dM_sendMessages_120 : decode cM_sendMessages 120 = .ok (.aload_n 0, 1) := by decide +kernel
theorem dM_sendMessages_121 : decode cM_sendMessages 121 = .ok (.getfield 72, 3) := by decide +kernel
theorem dM_sendMessages_124 : decode cM_sendMessages 124 = .ok (.iload 4, 2) := by decide +kernel
theorem dM_sendMessages_126 : decode cM_sendMessages 126 = .ok (.iload_n 1, 1) := by decide +kernel
theorem dM_sendMessages_127 : decode cM_sendMessages 127 = .ok (.iconst 4, 1) := by decide +kernel
theorem dM_sendMessages_128 : decode cM_sendMessages 128 = .ok (.irem, 1) := by decide +kernel
theorem dM_sendMessages_129 : decode cM_sendMessages 129 = .ok (.iastore, 1) := by decide +kernel
theorem dM_sendMessages_130 : decode cM_sendMessages 130 = .ok (.aload_n 0, 1) := by decide +kernel
theorem dM_sendMessages_131 : decode cM_sendMessages 131 = .ok (.getfield 75, 3) := by decide +kernel
theorem dM_sendMessages_134 : decode cM_sendMessages 134 = .ok (.iload 4, 2) := by decide +kernel
theorem dM_sendMessages_136 : decode cM_sendMessages 136 = .ok (.iload_n 3, 1) := by decide +kernel
theorem dM_sendMessages_137 : decode cM_sendMessages 137 = .ok (.ifCond .ge 7, 3) := by decide +kernel
theorem dM_sendMessages_140 : decode cM_sendMessages 140 = .ok (.iconst 0, 1) := by decide +kernel
theorem dM_sendMessages_141 : decode cM_sendMessages 141 = .ok (.goto 13, 3) := by decide +kernel
theorem dM_sendMessages_144 : decode cM_sendMessages 144 = .ok (.aload_n 0, 1) := by decide +kernel
theorem dM_sendMessages_145 : decode cM_sendMessages 145 = .ok (.getfield 75, 3) := by decide +kernel
theorem dM_sendMessages_148 : decode cM_sendMessages 148 = .ok (.iconst 4, 1) := by decide +kernel
theorem dM_sendMessages_149 : decode cM_sendMessages 149 = .ok (.iload_n 2, 1) := by decide +kernel
theorem dM_sendMessages_150 : decode cM_sendMessages 150 = .ok (.imul, 1) := by decide +kernel
theorem dM_sendMessages_151 : decode cM_sendMessages 151 = .ok (.iload_n 3, 1) := by decide +kernel
theorem dM_sendMessages_152 : decode cM_sendMessages 152 = .ok (.iadd, 1) := by decide +kernel
theorem dM_sendMessages_153 : decode cM_sendMessages 153 = .ok (.iaload, 1) := by decide +kernel
theorem dM_sendMessages_154 : decode cM_sendMessages 154 = .ok (.iastore, 1) := by decide +kernel
theorem dM_sendMessages_155 : decode cM_sendMessages 155 = .ok (.aload_n 0, 1) := by decide +kernel
theorem dM_sendMessages_156 : decode cM_sendMessages 156 = .ok (.getfield 78, 3) := by decide +kernel
theorem dM_sendMessages_159 : decode cM_sendMessages 159 = .ok (.iload 4, 2) := by decide +kernel
theorem dM_sendMessages_161 : decode cM_sendMessages 161 = .ok (.aload_n 0, 1) := by decide +kernel
theorem dM_sendMessages_162 : decode cM_sendMessages 162 = .ok (.iload_n 2, 1) := by decide +kernel
theorem dM_sendMessages_163 : decode cM_sendMessages 163 = .ok (.invokevirtual 175, 3) := by decide +kernel
theorem dM_sendMessages_166 : decode cM_sendMessages 166 = .ok (.bastore, 1) := by decide +kernel
theorem dM_sendMessages_167 : decode cM_sendMessages 167 = .ok (.iinc 1 1, 3) := by decide +kernel
theorem dM_sendMessages_170 : decode cM_sendMessages 170 = .ok (.goto (-146), 3) := by decide +kernel
theorem dM_sendMessages_173 : decode cM_sendMessages 173 = .ok (.iconst 0, 1) := by decide +kernel
theorem dM_sendMessages_174 : decode cM_sendMessages 174 = .ok (.istore_n 1, 1) := by decide +kernel
theorem dM_sendMessages_175 : decode cM_sendMessages 175 = .ok (.iload_n 1, 1) := by decide +kernel
theorem dM_sendMessages_176 : decode cM_sendMessages 176 = .ok (.bipush 24, 2) := by decide +kernel
theorem dM_sendMessages_178 : decode cM_sendMessages 178 = .ok (.if_icmp .ge 30, 3) := by decide +kernel
theorem dM_sendMessages_181 : decode cM_sendMessages 181 = .ok (.aload_n 0, 1) := by decide +kernel
theorem dM_sendMessages_182 : decode cM_sendMessages 182 = .ok (.getfield 60, 3) := by decide +kernel
theorem dM_sendMessages_185 : decode cM_sendMessages 185 = .ok (.bipush 24, 2) := by decide +kernel
theorem dM_sendMessages_187 : decode cM_sendMessages 187 = .ok (.iload_n 1, 1) := by decide +kernel
theorem dM_sendMessages_188 : decode cM_sendMessages 188 = .ok (.iadd, 1) := by decide +kernel
theorem dM_sendMessages_189 : decode cM_sendMessages 189 = .ok (.baload, 1) := by decide +kernel
theorem dM_sendMessages_190 : decode cM_sendMessages 190 = .ok (.ifCond .eq 12, 3) := by decide +kernel
theorem dM_sendMessages_193 : decode cM_sendMessages 193 = .ok (.aload_n 0, 1) := by decide +kernel
theorem dM_sendMessages_194 : decode cM_sendMessages 194 = .ok (.iload_n 1, 1) := by decide +kernel
theorem dM_sendMessages_195 : decode cM_sendMessages 195 = .ok (.bipush 24, 2) := by decide +kernel
theorem dM_sendMessages_197 : decode cM_sendMessages 197 = .ok (.iload_n 1, 1) := by decide +kernel
theorem dM_sendMessages_198 : decode cM_sendMessages 198 = .ok (.iadd, 1) := by decide +kernel
theorem dM_sendMessages_199 : decode cM_sendMessages 199 = .ok (.invokevirtual 178, 3) := by decide +kernel
theorem dM_sendMessages_202 : decode cM_sendMessages 202 = .ok (.iinc 1 1, 3) := by decide +kernel
theorem dM_sendMessages_205 : decode cM_sendMessages 205 = .ok (.goto (-30), 3) := by decide +kernel
theorem dM_sendMessages_208 : decode cM_sendMessages 208 = .ok (.return_, 1) := by decide +kernel
theorem dM_hold_0 : decode cM_hold 0 = .ok (.aload_n 0, 1) := by decide +kernel
theorem dM_hold_1 : decode cM_hold 1 = .ok (.getfield 60, 3) := by decide +kernel
theorem dM_hold_4 : decode cM_hold 4 = .ok (.iload_n 1, 1) := by decide +kernel
theorem dM_hold_5 : decode cM_hold 5 = .ok (.iconst 1, 1) := by decide +kernel
theorem dM_hold_6 : decode cM_hold 6 = .ok (.bastore, 1) := by decide +kernel
theorem dM_hold_7 : decode cM_hold 7 = .ok (.aload_n 0, 1) := by decide +kernel
theorem dM_hold_8 : decode cM_hold 8 = .ok (.getfield 63, 3) := by decide +kernel
theorem dM_hold_11 : decode cM_hold 11 = .ok (.iload_n 1, 1) := by decide +kernel
theorem dM_hold_12 : decode cM_hold 12 = .ok (.aload_n 0, 1) := by decide +kernel
theorem dM_hold_13 : decode cM_hold 13 = .ok (.getfield 63, 3) := by decide +kernel
theorem dM_hold_16 : decode cM_hold 16 = .ok (.iload_n 2, 1) := by decide +kernel
theorem dM_hold_17 : decode cM_hold 17 = .ok (.iaload, 1) := by decide +kernel
theorem dM_hold_18 : decode cM_hold 18 = .ok (.iastore, 1) := by decide +kernel
theorem dM_hold_19 : decode cM_hold 19 = .ok (.aload_n 0, 1) := by decide +kernel
theorem dM_hold_20 : decode cM_hold 20 = .ok (.getfield 66, 3) := by decide +kernel
theorem dM_hold_23 : decode cM_hold 23 = .ok (.iload_n 1, 1) := by decide +kernel
theorem dM_hold_24 : decode cM_hold 24 = .ok (.aload_n 0, 1) := by decide +kernel
theorem dM_hold_25 : decode cM_hold 25 = .ok (.getfield 66, 3) := by decide +kernel
theorem dM_hold_28 : decode cM_hold 28 = .ok (.iload_n 2, 1) := by decide +kernel
theorem dM_hold_29 : decode cM_hold 29 = .ok (.iaload, 1) := by decide +kernel
theorem dM_hold_30 : decode cM_hold 30 = .ok (.iastore, 1) := by decide +kernel
theorem dM_hold_31 : decode cM_hold 31 = .ok (.aload_n 0, 1) := by decide +kernel
theorem dM_hold_32 : decode cM_hold 32 = .ok (.getfield 69, 3) := by decide +kernel
theorem dM_hold_35 : decode cM_hold 35 = .ok (.iload_n 1, 1) := by decide +kernel
theorem dM_hold_36 : decode cM_hold 36 = .ok (.aload_n 0, 1) := by decide +kernel
theorem dM_hold_37 : decode cM_hold 37 = .ok (.getfield 69, 3) := by decide +kernel
theorem dM_hold_40 : decode cM_hold 40 = .ok (.iload_n 2, 1) := by decide +kernel
theorem dM_hold_41 : decode cM_hold 41 = .ok (.iaload, 1) := by decide +kernel
theorem dM_hold_42 : decode cM_hold 42 = .ok (.iastore, 1) := by decide +kernel
theorem dM_hold_43 : decode cM_hold 43 = .ok (.aload_n 0, 1) := by decide +kernel
theorem dM_hold_44 : decode cM_hold 44 = .ok (.getfield 72, 3) := by decide +kernel
theorem dM_hold_47 : decode cM_hold 47 = .ok (.iload_n 1, 1) := by decide +kernel
theorem dM_hold_48 : decode cM_hold 48 = .ok (.aload_n 0, 1) := by decide +kernel
theorem dM_hold_49 : decode cM_hold 49 = .ok (.getfield 72, 3) := by decide +kernel
theorem dM_hold_52 : decode cM_hold 52 = .ok (.iload_n 2, 1) := by decide +kernel
theorem dM_hold_53 : decode cM_hold 53 = .ok (.iaload, 1) := by decide +kernel
theorem dM_hold_54 : decode cM_hold 54 = .ok (.iastore, 1) := by decide +kernel
theorem dM_hold_55 : decode cM_hold 55 = .ok (.aload_n 0, 1) := by decide +kernel
theorem dM_hold_56 : decode cM_hold 56 = .ok (.getfield 75, 3) := by decide +kernel
theorem dM_hold_59 : decode cM_hold 59 = .ok (.iload_n 1, 1) := by decide +kernel
theorem dM_hold_60 : decode cM_hold 60 = .ok (.aload_n 0, 1) := by decide +kernel
theorem dM_hold_61 : decode cM_hold 61 = .ok (.getfield 75, 3) := by decide +kernel
theorem dM_hold_64 : decode cM_hold 64 = .ok (.iload_n 2, 1) := by decide +kernel
theorem dM_hold_65 : decode cM_hold 65 = .ok (.iaload, 1) := by decide +kernel
theorem dM_hold_66 : decode cM_hold 66 = .ok (.iastore, 1) := by decide +kernel
theorem dM_hold_67 : decode cM_hold 67 = .ok (.aload_n 0, 1) := by decide +kernel
theorem dM_hold_68 : decode cM_hold 68 = .ok (.getfield 78, 3) := by decide +kernel
theorem dM_hold_71 : decode cM_hold 71 = .ok (.iload_n 1, 1) := by decide +kernel
theorem dM_hold_72 : decode cM_hold 72 = .ok (.aload_n 0, 1) := by decide +kernel
theorem dM_hold_73 : decode cM_hold 73 = .ok (.getfield 78, 3) := by decide +kernel
theorem dM_hold_76 : decode cM_hold 76 = .ok (.iload_n 2, 1) := by decide +kernel
theorem dM_hold_77 : decode cM_hold 77 = .ok (.baload, 1) := by decide +kernel
theorem dM_hold_78 : decode cM_hold 78 = .ok (.bastore, 1) := by decide +kernel
theorem dM_hold_79 : decode cM_hold 79 = .ok (.return_, 1) := by decide +kernel
theorem dM_forget_0 : decode cM_forget 0 = .ok (.iconst 0, 1) := by decide +kernel
theorem dM_forget_1 : decode cM_forget 1 = .ok (.istore_n 1, 1) := by decide +kernel
theorem dM_forget_2 : decode cM_forget 2 = .ok (.iload_n 1, 1) := by decide +kernel
theorem dM_forget_3 : decode cM_forget 3 = .ok (.aload_n 0, 1) := by decide +kernel
theorem dM_forget_4 : decode cM_forget 4 = .ok (.getfield 115, 3) := by decide +kernel
theorem dM_forget_7 : decode cM_forget 7 = .ok (.if_icmp .ge 84, 3) := by decide +kernel
theorem dM_forget_10 : decode cM_forget 10 = .ok (.aload_n 0, 1) := by decide +kernel
theorem dM_forget_11 : decode cM_forget 11 = .ok (.iload_n 1, 1) := by decide +kernel
theorem dM_forget_12 : decode cM_forget 12 = .ok (.invokevirtual 175, 3) := by decide +kernel
theorem dM_forget_15 : decode cM_forget 15 = .ok (.ifCond .eq 21, 3) := by decide +kernel
theorem dM_forget_18 : decode cM_forget 18 = .ok (.aload_n 0, 1) := by decide +kernel
theorem dM_forget_19 : decode cM_forget 19 = .ok (.getfield 109, 3) := by decide +kernel
theorem dM_forget_22 : decode cM_forget 22 = .ok (.aload_n 0, 1) := by decide +kernel
theorem dM_forget_23 : decode cM_forget 23 = .ok (.getfield 112, 3) := by decide +kernel
theorem dM_forget_26 : decode cM_forget 26 = .ok (.if_icmp .ge 10, 3) := by decide +kernel
theorem dM_forget_29 : decode cM_forget 29 = .ok (.aload_n 0, 1) := by decide +kernel
theorem dM_forget_30 : decode cM_forget 30 = .ok (.getfield 109, 3) := by decide +kernel
theorem dM_forget_33 : decode cM_forget 33 = .ok (.goto 7, 3) := by decide +kernel
theorem dM_forget_36 : decode cM_forget 36 = .ok (.aload_n 0, 1) := by decide +kernel
theorem dM_forget_37 : decode cM_forget 37 = .ok (.getfield 112, 3) := by decide +kernel
theorem dM_forget_40 : decode cM_forget 40 = .ok (.istore_n 2, 1) := by decide +kernel
theorem dM_forget_41 : decode cM_forget 41 = .ok (.bipush 28, 2) := by decide +kernel
theorem dM_forget_43 : decode cM_forget 43 = .ok (.iload_n 1, 1) := by decide +kernel
theorem dM_forget_44 : decode cM_forget 44 = .ok (.imul, 1) := by decide +kernel
theorem dM_forget_45 : decode cM_forget 45 = .ok (.istore_n 3, 1) := by decide +kernel
theorem dM_forget_46 : decode cM_forget 46 = .ok (.iload_n 3, 1) := by decide +kernel
theorem dM_forget_47 : decode cM_forget 47 = .ok (.bipush 28, 2) := by decide +kernel
theorem dM_forget_49 : decode cM_forget 49 = .ok (.iload_n 1, 1) := by decide +kernel
theorem dM_forget_50 : decode cM_forget 50 = .ok (.imul, 1) := by decide +kernel
theorem dM_forget_51 : decode cM_forget 51 = .ok (.bipush 28, 2) := by decide +kernel
theorem dM_forget_53 : decode cM_forget 53 = .ok (.iadd, 1) := by decide +kernel
theorem dM_forget_54 : decode cM_forget 54 = .ok (.if_icmp .ge 31, 3) := by decide +kernel
theorem dM_forget_57 : decode cM_forget 57 = .ok (.aload_n 0, 1) := by decide +kernel
theorem dM_forget_58 : decode cM_forget 58 = .ok (.getfield 154, 3) := by decide +kernel
theorem dM_forget_61 : decode cM_forget 61 = .ok (.aload_n 0, 1) := by decide +kernel
theorem dM_forget_62 : decode cM_forget 62 = .ok (.getfield 93, 3) := by decide +kernel
theorem dM_forget_65 : decode cM_forget 65 = .ok (.iload_n 3, 1) := by decide +kernel
theorem dM_forget_66 : decode cM_forget 66 = .ok (.iaload, 1) := by decide +kernel
theorem dM_forget_67 : decode cM_forget 67 = .ok (.isub, 1) := by decide +kernel
theorem dM_forget_68 : decode cM_forget 68 = .ok (.iload_n 2, 1) := by decide +kernel
theorem dM_forget_69 : decode cM_forget 69 = .ok (.if_icmp .lt 10, 3) := by decide +kernel
theorem dM_forget_72 : decode cM_forget 72 = .ok (.aload_n 0, 1) := by decide +kernel
theorem dM_forget_73 : decode cM_forget 73 = .ok (.getfield 90, 3) := by decide +kernel
theorem dM_forget_76 : decode cM_forget 76 = .ok (.iload_n 3, 1) := by decide +kernel
theorem dM_forget_77 : decode cM_forget 77 = .ok (.iconst 0, 1) := by decide +kernel
theorem dM_forget_78 : decode cM_forget 78 = .ok (.iastore, 1) := by decide +kernel
theorem dM_forget_79 : decode cM_forget 79 = .ok (.iinc 3 1, 3) := by decide +kernel
theorem dM_forget_82 : decode cM_forget 82 = .ok (.goto (-36), 3) := by decide +kernel
theorem dM_forget_85 : decode cM_forget 85 = .ok (.iinc 1 1, 3) := by decide +kernel
theorem dM_forget_88 : decode cM_forget 88 = .ok (.goto (-86), 3) := by decide +kernel
theorem dM_forget_91 : decode cM_forget 91 = .ok (.return_, 1) := by decide +kernel
theorem dM_tick_0 : decode cM_tick 0 = .ok (.iload_n 1, 1) := by decide +kernel
theorem dM_tick_1 : decode cM_tick 1 = .ok (.ifCond .lt 9, 3) := by decide +kernel
theorem dM_tick_4 : decode cM_tick 4 = .ok (.iload_n 1, 1) := by decide +kernel
theorem dM_tick_5 : decode cM_tick 5 = .ok (.bipush 60, 2) := by decide +kernel
theorem dM_tick_7 : decode cM_tick 7 = .ok (.if_icmp .le 5, 3) := by decide +kernel
theorem dM_tick_10 : decode cM_tick 10 = .ok (.iconst (-1), 1) := by decide +kernel
theorem dM_tick_11 : decode cM_tick 11 = .ok (.ireturn, 1) := by decide +kernel
theorem dM_tick_12 : decode cM_tick 12 = .ok (.iconst 0, 1) := by decide +kernel
theorem dM_tick_13 : decode cM_tick 13 = .ok (.istore_n 2, 1) := by decide +kernel
theorem dM_tick_14 : decode cM_tick 14 = .ok (.iload_n 2, 1) := by decide +kernel
theorem dM_tick_15 : decode cM_tick 15 = .ok (.iload_n 1, 1) := by decide +kernel
theorem dM_tick_16 : decode cM_tick 16 = .ok (.if_icmp .ge 40, 3) := by decide +kernel
theorem dM_tick_19 : decode cM_tick 19 = .ok (.aload_n 0, 1) := by decide +kernel
theorem dM_tick_20 : decode cM_tick 20 = .ok (.dup, 1) := by decide +kernel
theorem dM_tick_21 : decode cM_tick 21 = .ok (.getfield 154, 3) := by decide +kernel
theorem dM_tick_24 : decode cM_tick 24 = .ok (.iconst 1, 1) := by decide +kernel
theorem dM_tick_25 : decode cM_tick 25 = .ok (.iadd, 1) := by decide +kernel
theorem dM_tick_26 : decode cM_tick 26 = .ok (.putfield 154, 3) := by decide +kernel
theorem dM_tick_29 : decode cM_tick 29 = .ok (.aload_n 0, 1) := by decide +kernel
theorem dM_tick_30 : decode cM_tick 30 = .ok (.invokevirtual 182, 3) := by decide +kernel
theorem dM_tick_33 : decode cM_tick 33 = .ok (.aload_n 0, 1) := by decide +kernel
theorem dM_tick_34 : decode cM_tick 34 = .ok (.invokevirtual 185, 3) := by decide +kernel
theorem dM_tick_37 : decode cM_tick 37 = .ok (.aload_n 0, 1) := by decide +kernel
theorem dM_tick_38 : decode cM_tick 38 = .ok (.invokevirtual 188, 3) := by decide +kernel
theorem dM_tick_41 : decode cM_tick 41 = .ok (.aload_n 0, 1) := by decide +kernel
theorem dM_tick_42 : decode cM_tick 42 = .ok (.iconst 1, 1) := by decide +kernel
theorem dM_tick_43 : decode cM_tick 43 = .ok (.invokevirtual 122, 3) := by decide +kernel
theorem dM_tick_46 : decode cM_tick 46 = .ok (.aload_n 0, 1) := by decide +kernel
theorem dM_tick_47 : decode cM_tick 47 = .ok (.invokevirtual 191, 3) := by decide +kernel
theorem dM_tick_50 : decode cM_tick 50 = .ok (.iinc 2 1, 3) := by decide +kernel
theorem dM_tick_53 : decode cM_tick 53 = .ok (.goto (-39), 3) := by decide +kernel
theorem dM_tick_56 : decode cM_tick 56 = .ok (.aload_n 0, 1) := by decide +kernel
theorem dM_tick_57 : decode cM_tick 57 = .ok (.getfield 154, 3) := by decide +kernel
theorem dM_tick_60 : decode cM_tick 60 = .ok (.ireturn, 1) := by decide +kernel
theorem dM_role_0 : decode cM_role 0 = .ok (.aload_n 0, 1) := by decide +kernel
theorem dM_role_1 : decode cM_role 1 = .ok (.iload_n 1, 1) := by decide +kernel
theorem dM_role_2 : decode cM_role 2 = .ok (.invokevirtual 118, 3) := by decide +kernel
theorem dM_role_5 : decode cM_role 5 = .ok (.ifCond .eq 11, 3) := by decide +kernel
theorem dM_role_8 : decode cM_role 8 = .ok (.aload_n 0, 1) := by decide +kernel
theorem dM_role_9 : decode cM_role 9 = .ok (.iload_n 1, 1) := by decide +kernel
theorem dM_role_10 : decode cM_role 10 = .ok (.invokevirtual 166, 3) := by decide +kernel
theorem dM_role_13 : decode cM_role 13 = .ok (.goto 4, 3) := by decide +kernel
theorem dM_role_16 : decode cM_role 16 = .ok (.iconst (-1), 1) := by decide +kernel
theorem dM_role_17 : decode cM_role 17 = .ok (.ireturn, 1) := by decide +kernel
theorem dM_state_0 : decode cM_state 0 = .ok (.aload_n 0, 1) := by decide +kernel
theorem dM_state_1 : decode cM_state 1 = .ok (.iload_n 1, 1) := by decide +kernel
theorem dM_state_2 : decode cM_state 2 = .ok (.invokevirtual 118, 3) := by decide +kernel
theorem dM_state_5 : decode cM_state 5 = .ok (.ifCond .eq 11, 3) := by decide +kernel
theorem dM_state_8 : decode cM_state 8 = .ok (.aload_n 0, 1) := by decide +kernel
theorem dM_state_9 : decode cM_state 9 = .ok (.iload_n 1, 1) := by decide +kernel
theorem dM_state_10 : decode cM_state 10 = .ok (.invokevirtual 169, 3) := by decide +kernel
theorem dM_state_13 : decode cM_state 13 = .ok (.goto 4, 3) := by decide +kernel
theorem dM_state_16 : decode cM_state 16 = .ok (.iconst (-1), 1) := by decide +kernel
theorem dM_state_17 : decode cM_state 17 = .ok (.ireturn, 1) := by decide +kernel
theorem dM_root_0 : decode cM_root 0 = .ok (.iload_n 1, 1) := by decide +kernel
theorem dM_root_1 : decode cM_root 1 = .ok (.ifCond .lt 11, 3) := by decide +kernel
theorem dM_root_4 : decode cM_root 4 = .ok (.iload_n 1, 1) := by decide +kernel
theorem dM_root_5 : decode cM_root 5 = .ok (.aload_n 0, 1) := by decide +kernel
theorem dM_root_6 : decode cM_root 6 = .ok (.getfield 115, 3) := by decide +kernel
theorem dM_root_9 : decode cM_root 9 = .ok (.if_icmp .lt 5, 3) := by decide +kernel
theorem dM_root_12 : decode cM_root 12 = .ok (.iconst (-1), 1) := by decide +kernel
theorem dM_root_13 : decode cM_root 13 = .ok (.ireturn, 1) := by decide +kernel
theorem dM_root_14 : decode cM_root 14 = .ok (.aload_n 0, 1) := by decide +kernel
theorem dM_root_15 : decode cM_root 15 = .ok (.iload_n 1, 1) := by decide +kernel
theorem dM_root_16 : decode cM_root 16 = .ok (.invokevirtual 160, 3) := by decide +kernel
theorem dM_root_19 : decode cM_root 19 = .ok (.sipush 2048, 3) := by decide +kernel
theorem dM_root_22 : decode cM_root 22 = .ok (.imul, 1) := by decide +kernel
theorem dM_root_23 : decode cM_root 23 = .ok (.aload_n 0, 1) := by decide +kernel
theorem dM_root_24 : decode cM_root 24 = .ok (.iload_n 1, 1) := by decide +kernel
theorem dM_root_25 : decode cM_root 25 = .ok (.invokevirtual 163, 3) := by decide +kernel
theorem dM_root_28 : decode cM_root 28 = .ok (.iconst 2, 1) := by decide +kernel
theorem dM_root_29 : decode cM_root 29 = .ok (.imul, 1) := by decide +kernel
theorem dM_root_30 : decode cM_root 30 = .ok (.iadd, 1) := by decide +kernel
theorem dM_root_31 : decode cM_root 31 = .ok (.aload_n 0, 1) := by decide +kernel
theorem dM_root_32 : decode cM_root 32 = .ok (.iload_n 1, 1) := by decide +kernel
theorem dM_root_33 : decode cM_root 33 = .ok (.invokevirtual 175, 3) := by decide +kernel
theorem dM_root_36 : decode cM_root 36 = .ok (.ifCond .eq 7, 3) := by decide +kernel
theorem dM_root_39 : decode cM_root 39 = .ok (.iconst 1, 1) := by decide +kernel
theorem dM_root_40 : decode cM_root 40 = .ok (.goto 4, 3) := by decide +kernel
theorem dM_root_43 : decode cM_root 43 = .ok (.iconst 0, 1) := by decide +kernel
theorem dM_root_44 : decode cM_root 44 = .ok (.iadd, 1) := by decide +kernel
theorem dM_root_45 : decode cM_root 45 = .ok (.ireturn, 1) := by decide +kernel
theorem dM_held_0 : decode cM_held 0 = .ok (.aload_n 0, 1) := by decide +kernel
theorem dM_held_1 : decode cM_held 1 = .ok (.iload_n 1, 1) := by decide +kernel
theorem dM_held_2 : decode cM_held 2 = .ok (.invokevirtual 118, 3) := by decide +kernel
theorem dM_held_5 : decode cM_held 5 = .ok (.ifCond .eq 12, 3) := by decide +kernel
theorem dM_held_8 : decode cM_held 8 = .ok (.aload_n 0, 1) := by decide +kernel
theorem dM_held_9 : decode cM_held 9 = .ok (.getfield 60, 3) := by decide +kernel
theorem dM_held_12 : decode cM_held 12 = .ok (.iload_n 1, 1) := by decide +kernel
theorem dM_held_13 : decode cM_held 13 = .ok (.baload, 1) := by decide +kernel
theorem dM_held_14 : decode cM_held 14 = .ok (.ifCond .ne 5, 3) := by decide +kernel
theorem dM_held_17 : decode cM_held 17 = .ok (.iconst (-1), 1) := by decide +kernel
theorem dM_held_18 : decode cM_held 18 = .ok (.ireturn, 1) := by decide +kernel
theorem dM_held_19 : decode cM_held 19 = .ok (.iload_n 2, 1) := by decide +kernel
theorem dM_held_20 : decode cM_held 20 = .ok (.tableswitch 90 0 5 #[40, 47, 54, 61, 68, 75], 40) := by decide +kernel
theorem dM_held_60 : decode cM_held 60 = .ok (.aload_n 0, 1) := by decide +kernel
theorem dM_held_61 : decode cM_held 61 = .ok (.getfield 63, 3) := by decide +kernel
theorem dM_held_64 : decode cM_held 64 = .ok (.iload_n 1, 1) := by decide +kernel
theorem dM_held_65 : decode cM_held 65 = .ok (.iaload, 1) := by decide +kernel
theorem dM_held_66 : decode cM_held 66 = .ok (.ireturn, 1) := by decide +kernel
theorem dM_held_67 : decode cM_held 67 = .ok (.aload_n 0, 1) := by decide +kernel
theorem dM_held_68 : decode cM_held 68 = .ok (.getfield 66, 3) := by decide +kernel
theorem dM_held_71 : decode cM_held 71 = .ok (.iload_n 1, 1) := by decide +kernel
theorem dM_held_72 : decode cM_held 72 = .ok (.iaload, 1) := by decide +kernel
theorem dM_held_73 : decode cM_held 73 = .ok (.ireturn, 1) := by decide +kernel
theorem dM_held_74 : decode cM_held 74 = .ok (.aload_n 0, 1) := by decide +kernel
theorem dM_held_75 : decode cM_held 75 = .ok (.getfield 69, 3) := by decide +kernel
theorem dM_held_78 : decode cM_held 78 = .ok (.iload_n 1, 1) := by decide +kernel
theorem dM_held_79 : decode cM_held 79 = .ok (.iaload, 1) := by decide +kernel
theorem dM_held_80 : decode cM_held 80 = .ok (.ireturn, 1) := by decide +kernel
theorem dM_held_81 : decode cM_held 81 = .ok (.aload_n 0, 1) := by decide +kernel
theorem dM_held_82 : decode cM_held 82 = .ok (.getfield 72, 3) := by decide +kernel
theorem dM_held_85 : decode cM_held 85 = .ok (.iload_n 1, 1) := by decide +kernel
theorem dM_held_86 : decode cM_held 86 = .ok (.iaload, 1) := by decide +kernel
theorem dM_held_87 : decode cM_held 87 = .ok (.ireturn, 1) := by decide +kernel
theorem dM_held_88 : decode cM_held 88 = .ok (.aload_n 0, 1) := by decide +kernel
theorem dM_held_89 : decode cM_held 89 = .ok (.getfield 75, 3) := by decide +kernel
theorem dM_held_92 : decode cM_held 92 = .ok (.iload_n 1, 1) := by decide +kernel
theorem dM_held_93 : decode cM_held 93 = .ok (.iaload, 1) := by decide +kernel
theorem dM_held_94 : decode cM_held 94 = .ok (.ireturn, 1) := by decide +kernel
theorem dM_held_95 : decode cM_held 95 = .ok (.aload_n 0, 1) := by decide +kernel
theorem dM_held_96 : decode cM_held 96 = .ok (.getfield 78, 3) := by decide +kernel
theorem dM_held_99 : decode cM_held 99 = .ok (.iload_n 1, 1) := by decide +kernel
theorem dM_held_100 : decode cM_held 100 = .ok (.baload, 1) := by decide +kernel
theorem dM_held_101 : decode cM_held 101 = .ok (.ifCond .eq 7, 3) := by decide +kernel
theorem dM_held_104 : decode cM_held 104 = .ok (.iconst 1, 1) := by decide +kernel
theorem dM_held_105 : decode cM_held 105 = .ok (.goto 4, 3) := by decide +kernel
theorem dM_held_108 : decode cM_held 108 = .ok (.iconst 0, 1) := by decide +kernel
theorem dM_held_109 : decode cM_held 109 = .ok (.ireturn, 1) := by decide +kernel
theorem dM_held_110 : decode cM_held 110 = .ok (.iconst (-1), 1) := by decide +kernel
theorem dM_held_111 : decode cM_held 111 = .ok (.ireturn, 1) := by decide +kernel
theorem dM_learned_0 : decode cM_learned 0 = .ok (.iload_n 1, 1) := by decide +kernel
theorem dM_learned_1 : decode cM_learned 1 = .ok (.ifCond .lt 30, 3) := by decide +kernel
theorem dM_learned_4 : decode cM_learned 4 = .ok (.iload_n 1, 1) := by decide +kernel
theorem dM_learned_5 : decode cM_learned 5 = .ok (.aload_n 0, 1) := by decide +kernel
theorem dM_learned_6 : decode cM_learned 6 = .ok (.getfield 115, 3) := by decide +kernel
theorem dM_learned_9 : decode cM_learned 9 = .ok (.if_icmp .ge 22, 3) := by decide +kernel
theorem dM_learned_12 : decode cM_learned 12 = .ok (.iload_n 2, 1) := by decide +kernel
theorem dM_learned_13 : decode cM_learned 13 = .ok (.ifCond .lt 18, 3) := by decide +kernel
theorem dM_learned_16 : decode cM_learned 16 = .ok (.iload_n 2, 1) := by decide +kernel
theorem dM_learned_17 : decode cM_learned 17 = .ok (.iconst 3, 1) := by decide +kernel
theorem dM_learned_18 : decode cM_learned 18 = .ok (.if_icmp .gt 13, 3) := by decide +kernel
theorem dM_learned_21 : decode cM_learned 21 = .ok (.iload_n 3, 1) := by decide +kernel
theorem dM_learned_22 : decode cM_learned 22 = .ok (.ifCond .lt 9, 3) := by decide +kernel
theorem dM_learned_25 : decode cM_learned 25 = .ok (.iload_n 3, 1) := by decide +kernel
theorem dM_learned_26 : decode cM_learned 26 = .ok (.bipush 6, 2) := by decide +kernel
theorem dM_learned_28 : decode cM_learned 28 = .ok (.if_icmp .le 5, 3) := by decide +kernel
theorem dM_learned_31 : decode cM_learned 31 = .ok (.iconst (-1), 1) := by decide +kernel
theorem dM_learned_32 : decode cM_learned 32 = .ok (.ireturn, 1) := by decide +kernel
theorem dM_learned_33 : decode cM_learned 33 = .ok (.aload_n 0, 1) := by decide +kernel
theorem dM_learned_34 : decode cM_learned 34 = .ok (.getfield 90, 3) := by decide +kernel
theorem dM_learned_37 : decode cM_learned 37 = .ok (.iconst 4, 1) := by decide +kernel
theorem dM_learned_38 : decode cM_learned 38 = .ok (.iload_n 1, 1) := by decide +kernel
theorem dM_learned_39 : decode cM_learned 39 = .ok (.imul, 1) := by decide +kernel
theorem dM_learned_40 : decode cM_learned 40 = .ok (.iload_n 2, 1) := by decide +kernel
theorem dM_learned_41 : decode cM_learned 41 = .ok (.iadd, 1) := by decide +kernel
theorem dM_learned_42 : decode cM_learned 42 = .ok (.bipush 7, 2) := by decide +kernel
theorem dM_learned_44 : decode cM_learned 44 = .ok (.imul, 1) := by decide +kernel
theorem dM_learned_45 : decode cM_learned 45 = .ok (.iload_n 3, 1) := by decide +kernel
theorem dM_learned_46 : decode cM_learned 46 = .ok (.iadd, 1) := by decide +kernel
theorem dM_learned_47 : decode cM_learned 47 = .ok (.iaload, 1) := by decide +kernel
theorem dM_learned_48 : decode cM_learned 48 = .ok (.iconst 1, 1) := by decide +kernel
theorem dM_learned_49 : decode cM_learned 49 = .ok (.isub, 1) := by decide +kernel
theorem dM_learned_50 : decode cM_learned 50 = .ok (.ireturn, 1) := by decide +kernel
theorem dM_entries_0 : decode cM_entries 0 = .ok (.iload_n 1, 1) := by decide +kernel
theorem dM_entries_1 : decode cM_entries 1 = .ok (.ifCond .lt 11, 3) := by decide +kernel
theorem dM_entries_4 : decode cM_entries 4 = .ok (.iload_n 1, 1) := by decide +kernel
theorem dM_entries_5 : decode cM_entries 5 = .ok (.aload_n 0, 1) := by decide +kernel
theorem dM_entries_6 : decode cM_entries 6 = .ok (.getfield 115, 3) := by decide +kernel
theorem dM_entries_9 : decode cM_entries 9 = .ok (.if_icmp .lt 5, 3) := by decide +kernel
theorem dM_entries_12 : decode cM_entries 12 = .ok (.iconst (-1), 1) := by decide +kernel
theorem dM_entries_13 : decode cM_entries 13 = .ok (.ireturn, 1) := by decide +kernel
theorem dM_entries_14 : decode cM_entries 14 = .ok (.iconst 0, 1) := by decide +kernel
theorem dM_entries_15 : decode cM_entries 15 = .ok (.istore_n 2, 1) := by decide +kernel
theorem dM_entries_16 : decode cM_entries 16 = .ok (.bipush 28, 2) := by decide +kernel
theorem dM_entries_18 : decode cM_entries 18 = .ok (.iload_n 1, 1) := by decide +kernel
theorem dM_entries_19 : decode cM_entries 19 = .ok (.imul, 1) := by decide +kernel
theorem dM_entries_20 : decode cM_entries 20 = .ok (.istore_n 3, 1) := by decide +kernel
theorem dM_entries_21 : decode cM_entries 21 = .ok (.iload_n 3, 1) := by decide +kernel
theorem dM_entries_22 : decode cM_entries 22 = .ok (.bipush 28, 2) := by decide +kernel
theorem dM_entries_24 : decode cM_entries 24 = .ok (.iload_n 1, 1) := by decide +kernel
theorem dM_entries_25 : decode cM_entries 25 = .ok (.imul, 1) := by decide +kernel
theorem dM_entries_26 : decode cM_entries 26 = .ok (.bipush 28, 2) := by decide +kernel
theorem dM_entries_28 : decode cM_entries 28 = .ok (.iadd, 1) := by decide +kernel
theorem dM_entries_29 : decode cM_entries 29 = .ok (.if_icmp .ge 21, 3) := by decide +kernel
theorem dM_entries_32 : decode cM_entries 32 = .ok (.aload_n 0, 1) := by decide +kernel
theorem dM_entries_33 : decode cM_entries 33 = .ok (.getfield 90, 3) := by decide +kernel
theorem dM_entries_36 : decode cM_entries 36 = .ok (.iload_n 3, 1) := by decide +kernel
theorem dM_entries_37 : decode cM_entries 37 = .ok (.iaload, 1) := by decide +kernel
theorem dM_entries_38 : decode cM_entries 38 = .ok (.ifCond .le 6, 3) := by decide +kernel
theorem dM_entries_41 : decode cM_entries 41 = .ok (.iinc 2 1, 3) := by decide +kernel
theorem dM_entries_44 : decode cM_entries 44 = .ok (.iinc 3 1, 3) := by decide +kernel
theorem dM_entries_47 : decode cM_entries 47 = .ok (.goto (-26), 3) := by decide +kernel
theorem dM_entries_50 : decode cM_entries 50 = .ok (.iload_n 2, 1) := by decide +kernel
theorem dM_entries_51 : decode cM_entries 51 = .ok (.ireturn, 1) := by decide +kernel
theorem dM_arrive_0 : decode cM_arrive 0 = .ok (.aload_n 0, 1) := by decide +kernel
theorem dM_arrive_1 : decode cM_arrive 1 = .ok (.getfield 96, 3) := by decide +kernel
theorem dM_arrive_4 : decode cM_arrive 4 = .ok (.aload_n 0, 1) := by decide +kernel
theorem dM_arrive_5 : decode cM_arrive 5 = .ok (.getfield 194, 3) := by decide +kernel
theorem dM_arrive_8 : decode cM_arrive 8 = .ok (.iload_n 1, 1) := by decide +kernel
theorem dM_arrive_9 : decode cM_arrive 9 = .ok (.iastore, 1) := by decide +kernel
theorem dM_arrive_10 : decode cM_arrive 10 = .ok (.aload_n 0, 1) := by decide +kernel
theorem dM_arrive_11 : decode cM_arrive 11 = .ok (.getfield 99, 3) := by decide +kernel
theorem dM_arrive_14 : decode cM_arrive 14 = .ok (.aload_n 0, 1) := by decide +kernel
theorem dM_arrive_15 : decode cM_arrive 15 = .ok (.getfield 194, 3) := by decide +kernel
theorem dM_arrive_18 : decode cM_arrive 18 = .ok (.iload_n 2, 1) := by decide +kernel
theorem dM_arrive_19 : decode cM_arrive 19 = .ok (.iastore, 1) := by decide +kernel
theorem dM_arrive_20 : decode cM_arrive 20 = .ok (.aload_n 0, 1) := by decide +kernel
theorem dM_arrive_21 : decode cM_arrive 21 = .ok (.dup, 1) := by decide +kernel
theorem dM_arrive_22 : decode cM_arrive 22 = .ok (.getfield 194, 3) := by decide +kernel
theorem dM_arrive_25 : decode cM_arrive 25 = .ok (.iconst 1, 1) := by decide +kernel
theorem dM_arrive_26 : decode cM_arrive 26 = .ok (.iadd, 1) := by decide +kernel
theorem dM_arrive_27 : decode cM_arrive 27 = .ok (.putfield 194, 3) := by decide +kernel
theorem dM_arrive_30 : decode cM_arrive 30 = .ok (.return_, 1) := by decide +kernel
theorem dM_goOut_0 : decode cM_goOut 0 = .ok (.aload_n 0, 1) := by decide +kernel
theorem dM_goOut_1 : decode cM_goOut 1 = .ok (.getfield 29, 3) := by decide +kernel
theorem dM_goOut_4 : decode cM_goOut 4 = .ok (.iload_n 1, 1) := by decide +kernel
theorem dM_goOut_5 : decode cM_goOut 5 = .ok (.baload, 1) := by decide +kernel
theorem dM_goOut_6 : decode cM_goOut 6 = .ok (.ifCond .eq 13, 3) := by decide +kernel
theorem dM_goOut_9 : decode cM_goOut 9 = .ok (.iload_n 2, 1) := by decide +kernel
theorem dM_goOut_10 : decode cM_goOut 10 = .ok (.aload_n 0, 1) := by decide +kernel
theorem dM_goOut_11 : decode cM_goOut 11 = .ok (.getfield 32, 3) := by decide +kernel
theorem dM_goOut_14 : decode cM_goOut 14 = .ok (.iload_n 1, 1) := by decide +kernel
theorem dM_goOut_15 : decode cM_goOut 15 = .ok (.iaload, 1) := by decide +kernel
theorem dM_goOut_16 : decode cM_goOut 16 = .ok (.if_icmp .ne 7, 3) := by decide +kernel
theorem dM_goOut_19 : decode cM_goOut 19 = .ok (.iconst (-1), 1) := by decide +kernel
theorem dM_goOut_20 : decode cM_goOut 20 = .ok (.goto 4, 3) := by decide +kernel
theorem dM_goOut_23 : decode cM_goOut 23 = .ok (.iload_n 2, 1) := by decide +kernel
theorem dM_goOut_24 : decode cM_goOut 24 = .ok (.istore_n 3, 1) := by decide +kernel
theorem dM_goOut_25 : decode cM_goOut 25 = .ok (.aload_n 0, 1) := by decide +kernel
theorem dM_goOut_26 : decode cM_goOut 26 = .ok (.dup, 1) := by decide +kernel
theorem dM_goOut_27 : decode cM_goOut 27 = .ok (.getfield 197, 3) := by decide +kernel
theorem dM_goOut_30 : decode cM_goOut 30 = .ok (.iconst 1, 1) := by decide +kernel
theorem dM_goOut_31 : decode cM_goOut 31 = .ok (.iadd, 1) := by decide +kernel
theorem dM_goOut_32 : decode cM_goOut 32 = .ok (.putfield 197, 3) := by decide +kernel
theorem dM_goOut_35 : decode cM_goOut 35 = .ok (.aload_n 0, 1) := by decide +kernel
theorem dM_goOut_36 : decode cM_goOut 36 = .ok (.getfield 23, 3) := by decide +kernel
theorem dM_goOut_39 : decode cM_goOut 39 = .ok (.iload_n 1, 1) := by decide +kernel
theorem dM_goOut_40 : decode cM_goOut 40 = .ok (.iaload, 1) := by decide +kernel
theorem dM_goOut_41 : decode cM_goOut 41 = .ok (.iconst 1, 1) := by decide +kernel
theorem dM_goOut_42 : decode cM_goOut 42 = .ok (.if_icmp .ne 16, 3) := by decide +kernel
theorem dM_goOut_45 : decode cM_goOut 45 = .ok (.aload_n 0, 1) := by decide +kernel
theorem dM_goOut_46 : decode cM_goOut 46 = .ok (.aload_n 0, 1) := by decide +kernel
theorem dM_goOut_47 : decode cM_goOut 47 = .ok (.iload_n 1, 1) := by decide +kernel
theorem dM_goOut_48 : decode cM_goOut 48 = .ok (.invokevirtual 172, 3) := by decide +kernel
theorem dM_goOut_51 : decode cM_goOut 51 = .ok (.iload_n 3, 1) := by decide +kernel
theorem dM_goOut_52 : decode cM_goOut 52 = .ok (.invokevirtual 200, 3) := by decide +kernel
theorem dM_goOut_55 : decode cM_goOut 55 = .ok (.goto 48, 3) := by decide +kernel
theorem dM_goOut_58 : decode cM_goOut 58 = .ok (.aload_n 0, 1) := by decide +kernel
theorem dM_goOut_59 : decode cM_goOut 59 = .ok (.getfield 23, 3) := by decide +kernel
theorem dM_goOut_62 : decode cM_goOut 62 = .ok (.iload_n 1, 1) := by decide +kernel
theorem dM_goOut_63 : decode cM_goOut 63 = .ok (.iaload, 1) := by decide +kernel
theorem dM_goOut_64 : decode cM_goOut 64 = .ok (.iconst 3, 1) := by decide +kernel
theorem dM_goOut_65 : decode cM_goOut 65 = .ok (.if_icmp .ne 17, 3) := by decide +kernel
theorem dM_goOut_68 : decode cM_goOut 68 = .ok (.aload_n 0, 1) := by decide +kernel
theorem dM_goOut_69 : decode cM_goOut 69 = .ok (.aload_n 0, 1) := by decide +kernel
theorem dM_goOut_70 : decode cM_goOut 70 = .ok (.getfield 203, 3) := by decide +kernel
theorem dM_goOut_73 : decode cM_goOut 73 = .ok (.bipush 64, 2) := by decide +kernel
theorem dM_goOut_75 : decode cM_goOut 75 = .ok (.ior, 1) := by decide +kernel
theorem dM_goOut_76 : decode cM_goOut 76 = .ok (.putfield 203, 3) := by decide +kernel
theorem dM_goOut_79 : decode cM_goOut 79 = .ok (.goto 24, 3) := by decide +kernel
theorem dM_goOut_82 : decode cM_goOut 82 = .ok (.iload_n 3, 1) := by decide +kernel
theorem dM_goOut_83 : decode cM_goOut 83 = .ok (.ifCond .ge 20, 3) := by decide +kernel
theorem dM_goOut_86 : decode cM_goOut 86 = .ok (.aload_n 0, 1) := by decide +kernel
theorem dM_goOut_87 : decode cM_goOut 87 = .ok (.aload_n 0, 1) := by decide +kernel
theorem dM_goOut_88 : decode cM_goOut 88 = .ok (.getfield 203, 3) := by decide +kernel
theorem dM_goOut_91 : decode cM_goOut 91 = .ok (.iconst 1, 1) := by decide +kernel
theorem dM_goOut_92 : decode cM_goOut 92 = .ok (.aload_n 0, 1) := by decide +kernel
theorem dM_goOut_93 : decode cM_goOut 93 = .ok (.getfield 26, 3) := by decide +kernel
theorem dM_goOut_96 : decode cM_goOut 96 = .ok (.iload_n 1, 1) := by decide +kernel
theorem dM_goOut_97 : decode cM_goOut 97 = .ok (.iaload, 1) := by decide +kernel
theorem dM_goOut_98 : decode cM_goOut 98 = .ok (.ishl, 1) := by decide +kernel
theorem dM_goOut_99 : decode cM_goOut 99 = .ok (.ior, 1) := by decide +kernel
theorem dM_goOut_100 : decode cM_goOut 100 = .ok (.putfield 203, 3) := by decide +kernel
theorem dM_goOut_103 : decode cM_goOut 103 = .ok (.return_, 1) := by decide +kernel
theorem dM_isMember_0 : decode cM_isMember 0 = .ok (.aload_n 0, 1) := by decide +kernel
theorem dM_isMember_1 : decode cM_isMember 1 = .ok (.getfield 35, 3) := by decide +kernel
theorem dM_isMember_4 : decode cM_isMember 4 = .ok (.iload_n 1, 1) := by decide +kernel
theorem dM_isMember_5 : decode cM_isMember 5 = .ok (.iaload, 1) := by decide +kernel
theorem dM_isMember_6 : decode cM_isMember 6 = .ok (.iload_n 2, 1) := by decide +kernel
theorem dM_isMember_7 : decode cM_isMember 7 = .ok (.ishr, 1) := by decide +kernel
theorem dM_isMember_8 : decode cM_isMember 8 = .ok (.iconst 1, 1) := by decide +kernel
theorem dM_isMember_9 : decode cM_isMember 9 = .ok (.iand, 1) := by decide +kernel
theorem dM_isMember_10 : decode cM_isMember 10 = .ok (.iconst 1, 1) := by decide +kernel
theorem dM_isMember_11 : decode cM_isMember 11 = .ok (.if_icmp .ne 7, 3) := by decide +kernel
theorem dM_isMember_14 : decode cM_isMember 14 = .ok (.iconst 1, 1) := by decide +kernel
theorem dM_isMember_15 : decode cM_isMember 15 = .ok (.goto 4, 3) := by decide +kernel
theorem dM_isMember_18 : decode cM_isMember 18 = .ok (.iconst 0, 1) := by decide +kernel
theorem dM_isMember_19 : decode cM_isMember 19 = .ok (.ireturn, 1) := by decide +kernel
theorem dM_handle_0 : decode cM_handle 0 = .ok (.aload_n 0, 1) := by decide +kernel
theorem dM_handle_1 : decode cM_handle 1 = .ok (.iload_n 1, 1) := by decide +kernel
theorem dM_handle_2 : decode cM_handle 2 = .ok (.invokevirtual 169, 3) := by decide +kernel
theorem dM_handle_5 : decode cM_handle 5 = .ok (.istore 5, 2) := by decide +kernel
theorem dM_handle_7 : decode cM_handle 7 = .ok (.iload_n 2, 1) := by decide +kernel
theorem dM_handle_8 : decode cM_handle 8 = .ok (.ifCond .ge 12, 3) := by decide +kernel
theorem dM_handle_11 : decode cM_handle 11 = .ok (.aload_n 0, 1) := by decide +kernel
theorem dM_handle_12 : decode cM_handle 12 = .ok (.getfield 32, 3) := by decide +kernel
theorem dM_handle_15 : decode cM_handle 15 = .ok (.iload_n 1, 1) := by decide +kernel
theorem dM_handle_16 : decode cM_handle 16 = .ok (.iaload, 1) := by decide +kernel
theorem dM_handle_17 : decode cM_handle 17 = .ok (.goto 4, 3) := by decide +kernel
theorem dM_handle_20 : decode cM_handle 20 = .ok (.iload_n 2, 1) := by decide +kernel
theorem dM_handle_21 : decode cM_handle 21 = .ok (.istore 6, 2) := by decide +kernel
theorem dM_handle_23 : decode cM_handle 23 = .ok (.iload 5, 2) := by decide +kernel
theorem dM_handle_25 : decode cM_handle 25 = .ok (.iconst 2, 1) := by decide +kernel
theorem dM_handle_26 : decode cM_handle 26 = .ok (.if_icmp .lt 26, 3) := by decide +kernel
theorem dM_handle_29 : decode cM_handle 29 = .ok (.iload_n 2, 1) := by decide +kernel
theorem dM_handle_30 : decode cM_handle 30 = .ok (.ifCond .lt 12, 3) := by decide +kernel
theorem dM_handle_33 : decode cM_handle 33 = .ok (.aload_n 0, 1) := by decide +kernel
theorem dM_handle_34 : decode cM_handle 34 = .ok (.getfield 29, 3) := by decide +kernel
theorem dM_handle_37 : decode cM_handle 37 = .ok (.iload_n 1, 1) := by decide +kernel
theorem dM_handle_38 : decode cM_handle 38 = .ok (.baload, 1) := by decide +kernel
theorem dM_handle_39 : decode cM_handle 39 = .ok (.ifCond .eq 13, 3) := by decide +kernel
theorem dM_handle_42 : decode cM_handle 42 = .ok (.aload_n 0, 1) := by decide +kernel
theorem dM_handle_43 : decode cM_handle 43 = .ok (.iload_n 1, 1) := by decide +kernel
theorem dM_handle_44 : decode cM_handle 44 = .ok (.iload 6, 2) := by decide +kernel
theorem dM_handle_46 : decode cM_handle 46 = .ok (.invokevirtual 206, 3) := by decide +kernel
theorem dM_handle_49 : decode cM_handle 49 = .ok (.ifCond .ne 4, 3) := by decide +kernel
theorem dM_handle_52 : decode cM_handle 52 = .ok (.return_, 1) := by decide +kernel
theorem dM_handle_53 : decode cM_handle 53 = .ok (.iconst 4, 1) := by decide +kernel
theorem dM_handle_54 : decode cM_handle 54 = .ok (.iload_n 1, 1) := by decide +kernel
theorem dM_handle_55 : decode cM_handle 55 = .ok (.iconst 4, 1) := by decide +kernel
theorem dM_handle_56 : decode cM_handle 56 = .ok (.idiv, 1) := by decide +kernel
theorem dM_handle_57 : decode cM_handle 57 = .ok (.imul, 1) := by decide +kernel
theorem dM_handle_58 : decode cM_handle 58 = .ok (.iload 6, 2) := by decide +kernel
theorem dM_handle_60 : decode cM_handle 60 = .ok (.iadd, 1) := by decide +kernel
theorem dM_handle_61 : decode cM_handle 61 = .ok (.bipush 7, 2) := by decide +kernel
theorem dM_handle_63 : decode cM_handle 63 = .ok (.imul, 1) := by decide +kernel
theorem dM_handle_64 : decode cM_handle 64 = .ok (.istore 7, 2) := by decide +kernel
theorem dM_handle_66 : decode cM_handle 66 = .ok (.aload_n 0, 1) := by decide +kernel
theorem dM_handle_67 : decode cM_handle 67 = .ok (.getfield 90, 3) := by decide +kernel
theorem dM_handle_70 : decode cM_handle 70 = .ok (.iload 7, 2) := by decide +kernel
theorem dM_handle_72 : decode cM_handle 72 = .ok (.iload_n 3, 1) := by decide +kernel
theorem dM_handle_73 : decode cM_handle 73 = .ok (.iadd, 1) := by decide +kernel
theorem dM_handle_74 : decode cM_handle 74 = .ok (.iload_n 1, 1) := by decide +kernel
theorem dM_handle_75 : decode cM_handle 75 = .ok (.iconst 4, 1) := by decide +kernel
theorem dM_handle_76 : decode cM_handle 76 = .ok (.irem, 1) := by decide +kernel
theorem dM_handle_77 : decode cM_handle 77 = .ok (.iconst 1, 1) := by decide +kernel
theorem dM_handle_78 : decode cM_handle 78 = .ok (.iadd, 1) := by decide +kernel
theorem dM_handle_79 : decode cM_handle 79 = .ok (.iastore, 1) := by decide +kernel
theorem dM_handle_80 : decode cM_handle 80 = .ok (.aload_n 0, 1) := by decide +kernel
theorem dM_handle_81 : decode cM_handle 81 = .ok (.getfield 93, 3) := by decide +kernel
theorem dM_handle_84 : decode cM_handle 84 = .ok (.iload 7, 2) := by decide +kernel
theorem dM_handle_86 : decode cM_handle 86 = .ok (.iload_n 3, 1) := by decide +kernel
theorem dM_handle_87 : decode cM_handle 87 = .ok (.iadd, 1) := by decide +kernel
theorem dM_handle_88 : decode cM_handle 88 = .ok (.aload_n 0, 1) := by decide +kernel
theorem dM_handle_89 : decode cM_handle 89 = .ok (.getfield 154, 3) := by decide +kernel
theorem dM_handle_92 : decode cM_handle 92 = .ok (.iastore, 1) := by decide +kernel
theorem dM_handle_93 : decode cM_handle 93 = .ok (.iload 5, 2) := by decide +kernel
theorem dM_handle_95 : decode cM_handle 95 = .ok (.iconst 2, 1) := by decide +kernel
theorem dM_handle_96 : decode cM_handle 96 = .ok (.if_icmp .ne 4, 3) := by decide +kernel
theorem dM_handle_99 : decode cM_handle 99 = .ok (.return_, 1) := by decide +kernel
theorem dM_handle_100 : decode cM_handle 100 = .ok (.iload 4, 2) := by decide +kernel
theorem dM_handle_102 : decode cM_handle 102 = .ok (.ifCond .ge 7, 3) := by decide +kernel
theorem dM_handle_105 : decode cM_handle 105 = .ok (.iconst 0, 1) := by decide +kernel
theorem dM_handle_106 : decode cM_handle 106 = .ok (.goto 13, 3) := by decide +kernel
theorem dM_handle_109 : decode cM_handle 109 = .ok (.aload_n 0, 1) := by decide +kernel
theorem dM_handle_110 : decode cM_handle 110 = .ok (.getfield 90, 3) := by decide +kernel
theorem dM_handle_113 : decode cM_handle 113 = .ok (.iload 7, 2) := by decide +kernel
theorem dM_handle_115 : decode cM_handle 115 = .ok (.iload 4, 2) := by decide +kernel
theorem dM_handle_117 : decode cM_handle 117 = .ok (.iadd, 1) := by decide +kernel
theorem dM_handle_118 : decode cM_handle 118 = .ok (.iaload, 1) := by decide +kernel
theorem dM_handle_119 : decode cM_handle 119 = .ok (.istore 8, 2) := by decide +kernel
theorem dM_handle_121 : decode cM_handle 121 = .ok (.iconst 0, 1) := by decide +kernel
theorem dM_handle_122 : decode cM_handle 122 = .ok (.istore 9, 2) := by decide +kernel
theorem dM_handle_124 : decode cM_handle 124 = .ok (.iload 9, 2) := by decide +kernel
theorem dM_handle_126 : decode cM_handle 126 = .ok (.iconst 4, 1) := by decide +kernel
theorem dM_handle_127 : decode cM_handle 127 = .ok (.if_icmp .ge 89, 3) := by decide +kernel
theorem dM_handle_130 : decode cM_handle 130 = .ok (.iconst 4, 1) := by decide +kernel
theorem dM_handle_131 : decode cM_handle 131 = .ok (.iload_n 1, 1) := by decide +kernel
theorem dM_handle_132 : decode cM_handle 132 = .ok (.iconst 4, 1) := by decide +kernel
theorem dM_handle_133 : decode cM_handle 133 = .ok (.idiv, 1) := by decide +kernel
theorem dM_handle_134 : decode cM_handle 134 = .ok (.imul, 1) := by decide +kernel
theorem dM_handle_135 : decode cM_handle 135 = .ok (.iload 9, 2) := by decide +kernel
theorem dM_handle_137 : decode cM_handle 137 = .ok (.iadd, 1) := by decide +kernel
theorem dM_handle_138 : decode cM_handle 138 = .ok (.istore 10, 2) := by decide +kernel
theorem dM_handle_140 : decode cM_handle 140 = .ok (.iload 10, 2) := by decide +kernel
theorem dM_handle_142 : decode cM_handle 142 = .ok (.iload_n 1, 1) := by decide +kernel
theorem dM_handle_143 : decode cM_handle 143 = .ok (.if_icmp .eq 32, 3) := by decide +kernel
theorem dM_handle_146 : decode cM_handle 146 = .ok (.iload 8, 2) := by decide +kernel
theorem dM_handle_148 : decode cM_handle 148 = .ok (.ifCond .eq 12, 3) := by decide +kernel
theorem dM_handle_151 : decode cM_handle 151 = .ok (.iload 8, 2) := by decide +kernel
theorem dM_handle_153 : decode cM_handle 153 = .ok (.iload 9, 2) := by decide +kernel
theorem dM_handle_155 : decode cM_handle 155 = .ok (.iconst 1, 1) := by decide +kernel
theorem dM_handle_156 : decode cM_handle 156 = .ok (.iadd, 1) := by decide +kernel
theorem dM_handle_157 : decode cM_handle 157 = .ok (.if_icmp .ne 18, 3) := by decide +kernel
theorem dM_handle_160 : decode cM_handle 160 = .ok (.aload_n 0, 1) := by decide +kernel
theorem dM_handle_161 : decode cM_handle 161 = .ok (.iload 10, 2) := by decide +kernel
theorem dM_handle_163 : decode cM_handle 163 = .ok (.iload 6, 2) := by decide +kernel
theorem dM_handle_165 : decode cM_handle 165 = .ok (.invokevirtual 206, 3) := by decide +kernel
theorem dM_handle_168 : decode cM_handle 168 = .ok (.ifCond .eq 7, 3) := by decide +kernel
theorem dM_handle_171 : decode cM_handle 171 = .ok (.iconst 1, 1) := by decide +kernel
theorem dM_handle_172 : decode cM_handle 172 = .ok (.goto 4, 3) := by decide +kernel
theorem dM_handle_175 : decode cM_handle 175 = .ok (.iconst 0, 1) := by decide +kernel
theorem dM_handle_176 : decode cM_handle 176 = .ok (.istore 11, 2) := by decide +kernel
theorem dM_handle_178 : decode cM_handle 178 = .ok (.iload 11, 2) := by decide +kernel
theorem dM_handle_180 : decode cM_handle 180 = .ok (.ifCond .eq 30, 3) := by decide +kernel
theorem dM_handle_183 : decode cM_handle 183 = .ok (.aload_n 0, 1) := by decide +kernel
theorem dM_handle_184 : decode cM_handle 184 = .ok (.getfield 197, 3) := by decide +kernel
theorem dM_handle_187 : decode cM_handle 187 = .ok (.bipush 60, 2) := by decide +kernel
theorem dM_handle_189 : decode cM_handle 189 = .ok (.if_icmp .ge 21, 3) := by decide +kernel
theorem dM_handle_192 : decode cM_handle 192 = .ok (.aload_n 0, 1) := by decide +kernel
theorem dM_handle_193 : decode cM_handle 193 = .ok (.iload 10, 2) := by decide +kernel
theorem dM_handle_195 : decode cM_handle 195 = .ok (.invokevirtual 169, 3) := by decide +kernel
theorem dM_handle_198 : decode cM_handle 198 = .ok (.iconst 3, 1) := by decide +kernel
theorem dM_handle_199 : decode cM_handle 199 = .ok (.if_icmp .ne 11, 3) := by decide +kernel
theorem dM_handle_202 : decode cM_handle 202 = .ok (.aload_n 0, 1) := by decide +kernel
theorem dM_handle_203 : decode cM_handle 203 = .ok (.iload 10, 2) := by decide +kernel
theorem dM_handle_205 : decode cM_handle 205 = .ok (.iload 6, 2) := by decide +kernel
theorem dM_handle_207 : decode cM_handle 207 = .ok (.invokevirtual 210, 3) := by decide +kernel
theorem dM_handle_210 : decode cM_handle 210 = .ok (.iinc 9 1, 3) := by decide +kernel
theorem dM_handle_213 : decode cM_handle 213 = .ok (.goto (-89), 3) := by decide +kernel
theorem dM_handle_216 : decode cM_handle 216 = .ok (.return_, 1) := by decide +kernel
theorem dM_frame_0 : decode cM_frame 0 = .ok (.aload_n 0, 1) := by decide +kernel
theorem dM_frame_1 : decode cM_frame 1 = .ok (.iconst 0, 1) := by decide +kernel
theorem dM_frame_2 : decode cM_frame 2 = .ok (.putfield 194, 3) := by decide +kernel
theorem dM_frame_5 : decode cM_frame 5 = .ok (.aload_n 0, 1) := by decide +kernel
theorem dM_frame_6 : decode cM_frame 6 = .ok (.iconst 0, 1) := by decide +kernel
theorem dM_frame_7 : decode cM_frame 7 = .ok (.putfield 197, 3) := by decide +kernel
theorem dM_frame_10 : decode cM_frame 10 = .ok (.aload_n 0, 1) := by decide +kernel
theorem dM_frame_11 : decode cM_frame 11 = .ok (.iconst 0, 1) := by decide +kernel
theorem dM_frame_12 : decode cM_frame 12 = .ok (.putfield 203, 3) := by decide +kernel
theorem dM_frame_15 : decode cM_frame 15 = .ok (.aload_n 0, 1) := by decide +kernel
theorem dM_frame_16 : decode cM_frame 16 = .ok (.iload_n 1, 1) := by decide +kernel
theorem dM_frame_17 : decode cM_frame 17 = .ok (.iload_n 2, 1) := by decide +kernel
theorem dM_frame_18 : decode cM_frame 18 = .ok (.invokevirtual 200, 3) := by decide +kernel
theorem dM_frame_21 : decode cM_frame 21 = .ok (.iconst 0, 1) := by decide +kernel
theorem dM_frame_22 : decode cM_frame 22 = .ok (.istore 5, 2) := by decide +kernel
theorem dM_frame_24 : decode cM_frame 24 = .ok (.iload 5, 2) := by decide +kernel
theorem dM_frame_26 : decode cM_frame 26 = .ok (.bipush 64, 2) := by decide +kernel
theorem dM_frame_28 : decode cM_frame 28 = .ok (.if_icmp .ge 39, 3) := by decide +kernel
theorem dM_frame_31 : decode cM_frame 31 = .ok (.iload 5, 2) := by decide +kernel
theorem dM_frame_33 : decode cM_frame 33 = .ok (.aload_n 0, 1) := by decide +kernel
theorem dM_frame_34 : decode cM_frame 34 = .ok (.getfield 194, 3) := by decide +kernel
theorem dM_frame_37 : decode cM_frame 37 = .ok (.if_icmp .ge 30, 3) := by decide +kernel
theorem dM_frame_40 : decode cM_frame 40 = .ok (.aload_n 0, 1) := by decide +kernel
theorem dM_frame_41 : decode cM_frame 41 = .ok (.aload_n 0, 1) := by decide +kernel
theorem dM_frame_42 : decode cM_frame 42 = .ok (.getfield 96, 3) := by decide +kernel
theorem dM_frame_45 : decode cM_frame 45 = .ok (.iload 5, 2) := by decide +kernel
theorem dM_frame_47 : decode cM_frame 47 = .ok (.iaload, 1) := by decide +kernel
theorem dM_frame_48 : decode cM_frame 48 = .ok (.aload_n 0, 1) := by decide +kernel
theorem dM_frame_49 : decode cM_frame 49 = .ok (.getfield 99, 3) := by decide +kernel
theorem dM_frame_52 : decode cM_frame 52 = .ok (.iload 5, 2) := by decide +kernel
theorem dM_frame_54 : decode cM_frame 54 = .ok (.iaload, 1) := by decide +kernel
theorem dM_frame_55 : decode cM_frame 55 = .ok (.iload_n 3, 1) := by decide +kernel
theorem dM_frame_56 : decode cM_frame 56 = .ok (.iload 4, 2) := by decide +kernel
theorem dM_frame_58 : decode cM_frame 58 = .ok (.invokevirtual 213, 3) := by decide +kernel
theorem dM_frame_61 : decode cM_frame 61 = .ok (.iinc 5 1, 3) := by decide +kernel
theorem dM_frame_64 : decode cM_frame 64 = .ok (.goto (-40), 3) := by decide +kernel
theorem dM_frame_67 : decode cM_frame 67 = .ok (.aload_n 0, 1) := by decide +kernel
theorem dM_frame_68 : decode cM_frame 68 = .ok (.aload_n 0, 1) := by decide +kernel
theorem dM_frame_69 : decode cM_frame 69 = .ok (.getfield 217, 3) := by decide +kernel
theorem dM_frame_72 : decode cM_frame 72 = .ok (.aload_n 0, 1) := by decide +kernel
theorem dM_frame_73 : decode cM_frame 73 = .ok (.getfield 197, 3) := by decide +kernel
theorem dM_frame_76 : decode cM_frame 76 = .ok (.iadd, 1) := by decide +kernel
theorem dM_frame_77 : decode cM_frame 77 = .ok (.putfield 217, 3) := by decide +kernel
theorem dM_frame_80 : decode cM_frame 80 = .ok (.aload_n 0, 1) := by decide +kernel
theorem dM_frame_81 : decode cM_frame 81 = .ok (.getfield 203, 3) := by decide +kernel
theorem dM_frame_84 : decode cM_frame 84 = .ok (.ireturn, 1) := by decide +kernel
theorem dM_isHost_0 : decode cM_isHost 0 = .ok (.iload_n 1, 1) := by decide +kernel
theorem dM_isHost_1 : decode cM_isHost 1 = .ok (.ifCond .lt 15, 3) := by decide +kernel
theorem dM_isHost_4 : decode cM_isHost 4 = .ok (.iload_n 1, 1) := by decide +kernel
theorem dM_isHost_5 : decode cM_isHost 5 = .ok (.aload_n 0, 1) := by decide +kernel
theorem dM_isHost_6 : decode cM_isHost 6 = .ok (.getfield 136, 3) := by decide +kernel
theorem dM_isHost_9 : decode cM_isHost 9 = .ok (.if_icmp .ge 7, 3) := by decide +kernel
theorem dM_isHost_12 : decode cM_isHost 12 = .ok (.iconst 1, 1) := by decide +kernel
theorem dM_isHost_13 : decode cM_isHost 13 = .ok (.goto 4, 3) := by decide +kernel
theorem dM_isHost_16 : decode cM_isHost 16 = .ok (.iconst 0, 1) := by decide +kernel
theorem dM_isHost_17 : decode cM_isHost 17 = .ok (.ireturn, 1) := by decide +kernel
theorem dM_send_0 : decode cM_send 0 = .ok (.aload_n 0, 1) := by decide +kernel
theorem dM_send_1 : decode cM_send 1 = .ok (.iload_n 1, 1) := by decide +kernel
theorem dM_send_2 : decode cM_send 2 = .ok (.invokevirtual 220, 3) := by decide +kernel
theorem dM_send_5 : decode cM_send 5 = .ok (.ifCond .eq 29, 3) := by decide +kernel
theorem dM_send_8 : decode cM_send 8 = .ok (.aload_n 0, 1) := by decide +kernel
theorem dM_send_9 : decode cM_send 9 = .ok (.iload_n 2, 1) := by decide +kernel
theorem dM_send_10 : decode cM_send 10 = .ok (.invokevirtual 220, 3) := by decide +kernel
theorem dM_send_13 : decode cM_send 13 = .ok (.ifCond .ne 23, 3) := by decide +kernel
theorem dM_send_16 : decode cM_send 16 = .ok (.iload_n 2, 1) := by decide +kernel
theorem dM_send_17 : decode cM_send 17 = .ok (.iconst (-1), 1) := by decide +kernel
theorem dM_send_18 : decode cM_send 18 = .ok (.if_icmp .eq 18, 3) := by decide +kernel
theorem dM_send_21 : decode cM_send 21 = .ok (.iload_n 2, 1) := by decide +kernel
theorem dM_send_22 : decode cM_send 22 = .ok (.bipush 6, 2) := by decide +kernel
theorem dM_send_24 : decode cM_send 24 = .ok (.if_icmp .ne 10, 3) := by decide +kernel
theorem dM_send_27 : decode cM_send 27 = .ok (.aload_n 0, 1) := by decide +kernel
theorem dM_send_28 : decode cM_send 28 = .ok (.getfield 56, 3) := by decide +kernel
theorem dM_send_31 : decode cM_send 31 = .ok (.ifCond .ge 5, 3) := by decide +kernel
theorem dM_send_34 : decode cM_send 34 = .ok (.iconst (-1), 1) := by decide +kernel
theorem dM_send_35 : decode cM_send 35 = .ok (.ireturn, 1) := by decide +kernel
theorem dM_send_36 : decode cM_send 36 = .ok (.aload_n 0, 1) := by decide +kernel
theorem dM_send_37 : decode cM_send 37 = .ok (.iconst 0, 1) := by decide +kernel
theorem dM_send_38 : decode cM_send 38 = .ok (.putfield 217, 3) := by decide +kernel
theorem dM_send_41 : decode cM_send 41 = .ok (.aload_n 0, 1) := by decide +kernel
theorem dM_send_42 : decode cM_send 42 = .ok (.aload_n 0, 1) := by decide +kernel
theorem dM_send_43 : decode cM_send 43 = .ok (.getfield 50, 3) := by decide +kernel
theorem dM_send_46 : decode cM_send 46 = .ok (.iload_n 1, 1) := by decide +kernel
theorem dM_send_47 : decode cM_send 47 = .ok (.iaload, 1) := by decide +kernel
theorem dM_send_48 : decode cM_send 48 = .ok (.iconst (-1), 1) := by decide +kernel
theorem dM_send_49 : decode cM_send 49 = .ok (.iload_n 1, 1) := by decide +kernel
theorem dM_send_50 : decode cM_send 50 = .ok (.iload_n 2, 1) := by decide +kernel
theorem dM_send_51 : decode cM_send 51 = .ok (.invokevirtual 223, 3) := by decide +kernel
theorem dM_send_54 : decode cM_send 54 = .ok (.ireturn, 1) := by decide +kernel
theorem dM_reaches_0 : decode cM_reaches 0 = .ok (.iconst 0, 1) := by decide +kernel
theorem dM_reaches_1 : decode cM_reaches 1 = .ok (.istore 5, 2) := by decide +kernel
theorem dM_reaches_3 : decode cM_reaches 3 = .ok (.iload_n 1, 1) := by decide +kernel
theorem dM_reaches_4 : decode cM_reaches 4 = .ok (.bipush 6, 2) := by decide +kernel
theorem dM_reaches_6 : decode cM_reaches 6 = .ok (.if_icmp .ge 21, 3) := by decide +kernel
theorem dM_reaches_9 : decode cM_reaches 9 = .ok (.aload_n 0, 1) := by decide +kernel
theorem dM_reaches_10 : decode cM_reaches 10 = .ok (.aload_n 0, 1) := by decide +kernel
theorem dM_reaches_11 : decode cM_reaches 11 = .ok (.getfield 50, 3) := by decide +kernel
theorem dM_reaches_14 : decode cM_reaches 14 = .ok (.iload_n 1, 1) := by decide +kernel
theorem dM_reaches_15 : decode cM_reaches 15 = .ok (.iaload, 1) := by decide +kernel
theorem dM_reaches_16 : decode cM_reaches 16 = .ok (.iconst (-1), 1) := by decide +kernel
theorem dM_reaches_17 : decode cM_reaches 17 = .ok (.iload_n 1, 1) := by decide +kernel
theorem dM_reaches_18 : decode cM_reaches 18 = .ok (.iload_n 2, 1) := by decide +kernel
theorem dM_reaches_19 : decode cM_reaches 19 = .ok (.invokevirtual 223, 3) := by decide +kernel
theorem dM_reaches_22 : decode cM_reaches 22 = .ok (.istore 5, 2) := by decide +kernel
theorem dM_reaches_24 : decode cM_reaches 24 = .ok (.goto 34, 3) := by decide +kernel
theorem dM_reaches_27 : decode cM_reaches 27 = .ok (.aload_n 0, 1) := by decide +kernel
theorem dM_reaches_28 : decode cM_reaches 28 = .ok (.aload_n 0, 1) := by decide +kernel
theorem dM_reaches_29 : decode cM_reaches 29 = .ok (.getfield 56, 3) := by decide +kernel
theorem dM_reaches_32 : decode cM_reaches 32 = .ok (.iload_n 3, 1) := by decide +kernel
theorem dM_reaches_33 : decode cM_reaches 33 = .ok (.aload_n 0, 1) := by decide +kernel
theorem dM_reaches_34 : decode cM_reaches 34 = .ok (.getfield 32, 3) := by decide +kernel
theorem dM_reaches_37 : decode cM_reaches 37 = .ok (.aload_n 0, 1) := by decide +kernel
theorem dM_reaches_38 : decode cM_reaches 38 = .ok (.getfield 56, 3) := by decide +kernel
theorem dM_reaches_41 : decode cM_reaches 41 = .ok (.iaload, 1) := by decide +kernel
theorem dM_reaches_42 : decode cM_reaches 42 = .ok (.if_icmp .ne 7, 3) := by decide +kernel
theorem dM_reaches_45 : decode cM_reaches 45 = .ok (.iconst (-1), 1) := by decide +kernel
theorem dM_reaches_46 : decode cM_reaches 46 = .ok (.goto 4, 3) := by decide +kernel
theorem dM_reaches_49 : decode cM_reaches 49 = .ok (.iload_n 3, 1) := by decide +kernel
theorem dM_reaches_50 : decode cM_reaches 50 = .ok (.bipush 6, 2) := by decide +kernel
theorem dM_reaches_52 : decode cM_reaches 52 = .ok (.iload_n 2, 1) := by decide +kernel
theorem dM_reaches_53 : decode cM_reaches 53 = .ok (.invokevirtual 223, 3) := by decide +kernel
theorem dM_reaches_56 : decode cM_reaches 56 = .ok (.istore 5, 2) := by decide +kernel
theorem dM_reaches_58 : decode cM_reaches 58 = .ok (.iload 5, 2) := by decide +kernel
theorem dM_reaches_60 : decode cM_reaches 60 = .ok (.iload 4, 2) := by decide +kernel
theorem dM_reaches_62 : decode cM_reaches 62 = .ok (.ishr, 1) := by decide +kernel
theorem dM_reaches_63 : decode cM_reaches 63 = .ok (.iconst 1, 1) := by decide +kernel
theorem dM_reaches_64 : decode cM_reaches 64 = .ok (.iand, 1) := by decide +kernel
theorem dM_reaches_65 : decode cM_reaches 65 = .ok (.iconst 1, 1) := by decide +kernel
theorem dM_reaches_66 : decode cM_reaches 66 = .ok (.if_icmp .ne 7, 3) := by decide +kernel
theorem dM_reaches_69 : decode cM_reaches 69 = .ok (.iconst 1, 1) := by decide +kernel
theorem dM_reaches_70 : decode cM_reaches 70 = .ok (.goto 4, 3) := by decide +kernel
theorem dM_reaches_73 : decode cM_reaches 73 = .ok (.iconst 0, 1) := by decide +kernel
theorem dM_reaches_74 : decode cM_reaches 74 = .ok (.ireturn, 1) := by decide +kernel
theorem dM_ask_0 : decode cM_ask 0 = .ok (.aload_n 0, 1) := by decide +kernel
theorem dM_ask_1 : decode cM_ask 1 = .ok (.iload_n 1, 1) := by decide +kernel
theorem dM_ask_2 : decode cM_ask 2 = .ok (.invokevirtual 220, 3) := by decide +kernel
theorem dM_ask_5 : decode cM_ask 5 = .ok (.ifCond .eq 11, 3) := by decide +kernel
theorem dM_ask_8 : decode cM_ask 8 = .ok (.aload_n 0, 1) := by decide +kernel
theorem dM_ask_9 : decode cM_ask 9 = .ok (.iload_n 2, 1) := by decide +kernel
theorem dM_ask_10 : decode cM_ask 10 = .ok (.invokevirtual 220, 3) := by decide +kernel
theorem dM_ask_13 : decode cM_ask 13 = .ok (.ifCond .ne 5, 3) := by decide +kernel
theorem dM_ask_16 : decode cM_ask 16 = .ok (.iconst (-1), 1) := by decide +kernel
theorem dM_ask_17 : decode cM_ask 17 = .ok (.ireturn, 1) := by decide +kernel
theorem dM_ask_18 : decode cM_ask 18 = .ok (.aload_n 0, 1) := by decide +kernel
theorem dM_ask_19 : decode cM_ask 19 = .ok (.getfield 53, 3) := by decide +kernel
theorem dM_ask_22 : decode cM_ask 22 = .ok (.iload_n 1, 1) := by decide +kernel
theorem dM_ask_23 : decode cM_ask 23 = .ok (.iaload, 1) := by decide +kernel
theorem dM_ask_24 : decode cM_ask 24 = .ok (.aload_n 0, 1) := by decide +kernel
theorem dM_ask_25 : decode cM_ask 25 = .ok (.getfield 53, 3) := by decide +kernel
theorem dM_ask_28 : decode cM_ask 28 = .ok (.iload_n 2, 1) := by decide +kernel
theorem dM_ask_29 : decode cM_ask 29 = .ok (.iaload, 1) := by decide +kernel
theorem dM_ask_30 : decode cM_ask 30 = .ok (.if_icmp .ne 7, 3) := by decide +kernel
theorem dM_ask_33 : decode cM_ask 33 = .ok (.iconst 1, 1) := by decide +kernel
theorem dM_ask_34 : decode cM_ask 34 = .ok (.goto 4, 3) := by decide +kernel
theorem dM_ask_37 : decode cM_ask 37 = .ok (.iconst 0, 1) := by decide +kernel
theorem dM_ask_38 : decode cM_ask 38 = .ok (.istore 4, 2) := by decide +kernel
theorem dM_ask_40 : decode cM_ask 40 = .ok (.iload 4, 2) := by decide +kernel
theorem dM_ask_42 : decode cM_ask 42 = .ok (.ifCond .ne 12, 3) := by decide +kernel
theorem dM_ask_45 : decode cM_ask 45 = .ok (.aload_n 0, 1) := by decide +kernel
theorem dM_ask_46 : decode cM_ask 46 = .ok (.getfield 56, 3) := by decide +kernel
theorem dM_ask_49 : decode cM_ask 49 = .ok (.ifCond .ge 5, 3) := by decide +kernel
theorem dM_ask_52 : decode cM_ask 52 = .ok (.iconst (-1), 1) := by decide +kernel
theorem dM_ask_53 : decode cM_ask 53 = .ok (.ireturn, 1) := by decide +kernel
theorem dM_ask_54 : decode cM_ask 54 = .ok (.aload_n 0, 1) := by decide +kernel
theorem dM_ask_55 : decode cM_ask 55 = .ok (.iconst 0, 1) := by decide +kernel
theorem dM_ask_56 : decode cM_ask 56 = .ok (.putfield 217, 3) := by decide +kernel
theorem dM_ask_59 : decode cM_ask 59 = .ok (.iload 4, 2) := by decide +kernel
theorem dM_ask_61 : decode cM_ask 61 = .ok (.ifCond .eq 12, 3) := by decide +kernel
theorem dM_ask_64 : decode cM_ask 64 = .ok (.aload_n 0, 1) := by decide +kernel
theorem dM_ask_65 : decode cM_ask 65 = .ok (.iload_n 1, 1) := by decide +kernel
theorem dM_ask_66 : decode cM_ask 66 = .ok (.iload_n 2, 1) := by decide +kernel
theorem dM_ask_67 : decode cM_ask 67 = .ok (.invokevirtual 227, 3) := by decide +kernel
theorem dM_ask_70 : decode cM_ask 70 = .ok (.goto 21, 3) := by decide +kernel
theorem dM_ask_73 : decode cM_ask 73 = .ok (.aload_n 0, 1) := by decide +kernel
theorem dM_ask_74 : decode cM_ask 74 = .ok (.iload_n 1, 1) := by decide +kernel
theorem dM_ask_75 : decode cM_ask 75 = .ok (.iload_n 2, 1) := by decide +kernel
theorem dM_ask_76 : decode cM_ask 76 = .ok (.aload_n 0, 1) := by decide +kernel
theorem dM_ask_77 : decode cM_ask 77 = .ok (.getfield 53, 3) := by decide +kernel
theorem dM_ask_80 : decode cM_ask 80 = .ok (.iload_n 1, 1) := by decide +kernel
theorem dM_ask_81 : decode cM_ask 81 = .ok (.iaload, 1) := by decide +kernel
theorem dM_ask_82 : decode cM_ask 82 = .ok (.aload_n 0, 1) := by decide +kernel
theorem dM_ask_83 : decode cM_ask 83 = .ok (.getfield 53, 3) := by decide +kernel
theorem dM_ask_86 : decode cM_ask 86 = .ok (.iload_n 2, 1) := by decide +kernel
theorem dM_ask_87 : decode cM_ask 87 = .ok (.iaload, 1) := by decide +kernel
theorem dM_ask_88 : decode cM_ask 88 = .ok (.invokevirtual 231, 3) := by decide +kernel
theorem dM_ask_91 : decode cM_ask 91 = .ok (.istore 5, 2) := by decide +kernel
theorem dM_ask_93 : decode cM_ask 93 = .ok (.iload 5, 2) := by decide +kernel
theorem dM_ask_95 : decode cM_ask 95 = .ok (.iload 4, 2) := by decide +kernel
theorem dM_ask_97 : decode cM_ask 97 = .ok (.ifCond .eq 7, 3) := by decide +kernel
theorem dM_ask_100 : decode cM_ask 100 = .ok (.iconst 4, 1) := by decide +kernel
theorem dM_ask_101 : decode cM_ask 101 = .ok (.goto 5, 3) := by decide +kernel
theorem dM_ask_104 : decode cM_ask 104 = .ok (.bipush 8, 2) := by decide +kernel
theorem dM_ask_106 : decode cM_ask 106 = .ok (.if_icmp .ne 13, 3) := by decide +kernel
theorem dM_ask_109 : decode cM_ask 109 = .ok (.aload_n 0, 1) := by decide +kernel
theorem dM_ask_110 : decode cM_ask 110 = .ok (.bipush 31, 2) := by decide +kernel
theorem dM_ask_112 : decode cM_ask 112 = .ok (.iload_n 3, 1) := by decide +kernel
theorem dM_ask_113 : decode cM_ask 113 = .ok (.imul, 1) := by decide +kernel
theorem dM_ask_114 : decode cM_ask 114 = .ok (.iload_n 2, 1) := by decide +kernel
theorem dM_ask_115 : decode cM_ask 115 = .ok (.iadd, 1) := by decide +kernel
theorem dM_ask_116 : decode cM_ask 116 = .ok (.putfield 234, 3) := by decide +kernel
theorem dM_ask_119 : decode cM_ask 119 = .ok (.iload 5, 2) := by decide +kernel
theorem dM_ask_121 : decode cM_ask 121 = .ok (.ireturn, 1) := by decide +kernel
theorem dM_askNear_0 : decode cM_askNear 0 = .ok (.aload_n 0, 1) := by decide +kernel
theorem dM_askNear_1 : decode cM_askNear 1 = .ok (.iload_n 1, 1) := by decide +kernel
theorem dM_askNear_2 : decode cM_askNear 2 = .ok (.iconst (-1), 1) := by decide +kernel
theorem dM_askNear_3 : decode cM_askNear 3 = .ok (.iconst 0, 1) := by decide +kernel
theorem dM_askNear_4 : decode cM_askNear 4 = .ok (.iload_n 2, 1) := by decide +kernel
theorem dM_askNear_5 : decode cM_askNear 5 = .ok (.invokevirtual 237, 3) := by decide +kernel
theorem dM_askNear_8 : decode cM_askNear 8 = .ok (.ifCond .ne 5, 3) := by decide +kernel
theorem dM_askNear_11 : decode cM_askNear 11 = .ok (.iconst 0, 1) := by decide +kernel
theorem dM_askNear_12 : decode cM_askNear 12 = .ok (.ireturn, 1) := by decide +kernel
theorem dM_askNear_13 : decode cM_askNear 13 = .ok (.aload_n 0, 1) := by decide +kernel
theorem dM_askNear_14 : decode cM_askNear 14 = .ok (.iload_n 2, 1) := by decide +kernel
theorem dM_askNear_15 : decode cM_askNear 15 = .ok (.iload_n 1, 1) := by decide +kernel
theorem dM_askNear_16 : decode cM_askNear 16 = .ok (.iconst 0, 1) := by decide +kernel
theorem dM_askNear_17 : decode cM_askNear 17 = .ok (.iload_n 1, 1) := by decide +kernel
theorem dM_askNear_18 : decode cM_askNear 18 = .ok (.invokevirtual 237, 3) := by decide +kernel
theorem dM_askNear_21 : decode cM_askNear 21 = .ok (.ifCond .ne 5, 3) := by decide +kernel
theorem dM_askNear_24 : decode cM_askNear 24 = .ok (.iconst 1, 1) := by decide +kernel
theorem dM_askNear_25 : decode cM_askNear 25 = .ok (.ireturn, 1) := by decide +kernel
theorem dM_askNear_26 : decode cM_askNear 26 = .ok (.aload_n 0, 1) := by decide +kernel
theorem dM_askNear_27 : decode cM_askNear 27 = .ok (.iload_n 1, 1) := by decide +kernel
theorem dM_askNear_28 : decode cM_askNear 28 = .ok (.iload_n 2, 1) := by decide +kernel
theorem dM_askNear_29 : decode cM_askNear 29 = .ok (.iconst 0, 1) := by decide +kernel
theorem dM_askNear_30 : decode cM_askNear 30 = .ok (.iload_n 2, 1) := by decide +kernel
theorem dM_askNear_31 : decode cM_askNear 31 = .ok (.invokevirtual 237, 3) := by decide +kernel
theorem dM_askNear_34 : decode cM_askNear 34 = .ok (.ifCond .ne 5, 3) := by decide +kernel
theorem dM_askNear_37 : decode cM_askNear 37 = .ok (.iconst 2, 1) := by decide +kernel
theorem dM_askNear_38 : decode cM_askNear 38 = .ok (.ireturn, 1) := by decide +kernel
theorem dM_askNear_39 : decode cM_askNear 39 = .ok (.aload_n 0, 1) := by decide +kernel
theorem dM_askNear_40 : decode cM_askNear 40 = .ok (.iload_n 2, 1) := by decide +kernel
theorem dM_askNear_41 : decode cM_askNear 41 = .ok (.iload_n 1, 1) := by decide +kernel
theorem dM_askNear_42 : decode cM_askNear 42 = .ok (.iconst 0, 1) := by decide +kernel
theorem dM_askNear_43 : decode cM_askNear 43 = .ok (.iload_n 1, 1) := by decide +kernel
theorem dM_askNear_44 : decode cM_askNear 44 = .ok (.invokevirtual 237, 3) := by decide +kernel
theorem dM_askNear_47 : decode cM_askNear 47 = .ok (.ifCond .eq 7, 3) := by decide +kernel
theorem dM_askNear_50 : decode cM_askNear 50 = .ok (.iconst 4, 1) := by decide +kernel
theorem dM_askNear_51 : decode cM_askNear 51 = .ok (.goto 4, 3) := by decide +kernel
theorem dM_askNear_54 : decode cM_askNear 54 = .ok (.iconst 3, 1) := by decide +kernel
theorem dM_askNear_55 : decode cM_askNear 55 = .ok (.ireturn, 1) := by decide +kernel
theorem dM_askFar_0 : decode cM_askFar 0 = .ok (.aload_n 0, 1) := by decide +kernel
theorem dM_askFar_1 : decode cM_askFar 1 = .ok (.iload_n 1, 1) := by decide +kernel
theorem dM_askFar_2 : decode cM_askFar 2 = .ok (.iconst (-1), 1) := by decide +kernel
theorem dM_askFar_3 : decode cM_askFar 3 = .ok (.iconst 0, 1) := by decide +kernel
theorem dM_askFar_4 : decode cM_askFar 4 = .ok (.bipush 6, 2) := by decide +kernel
theorem dM_askFar_6 : decode cM_askFar 6 = .ok (.invokevirtual 237, 3) := by decide +kernel
theorem dM_askFar_9 : decode cM_askFar 9 = .ok (.ifCond .ne 5, 3) := by decide +kernel
theorem dM_askFar_12 : decode cM_askFar 12 = .ok (.iconst 0, 1) := by decide +kernel
theorem dM_askFar_13 : decode cM_askFar 13 = .ok (.ireturn, 1) := by decide +kernel
theorem dM_askFar_14 : decode cM_askFar 14 = .ok (.aload_n 0, 1) := by decide +kernel
theorem dM_askFar_15 : decode cM_askFar 15 = .ok (.bipush 6, 2) := by decide +kernel
theorem dM_askFar_17 : decode cM_askFar 17 = .ok (.iload_n 1, 1) := by decide +kernel
theorem dM_askFar_18 : decode cM_askFar 18 = .ok (.iload_n 3, 1) := by decide +kernel
theorem dM_askFar_19 : decode cM_askFar 19 = .ok (.iload_n 1, 1) := by decide +kernel
theorem dM_askFar_20 : decode cM_askFar 20 = .ok (.invokevirtual 237, 3) := by decide +kernel
theorem dM_askFar_23 : decode cM_askFar 23 = .ok (.ifCond .ne 5, 3) := by decide +kernel
theorem dM_askFar_26 : decode cM_askFar 26 = .ok (.iconst 1, 1) := by decide +kernel
theorem dM_askFar_27 : decode cM_askFar 27 = .ok (.ireturn, 1) := by decide +kernel
theorem dM_askFar_28 : decode cM_askFar 28 = .ok (.aload_n 0, 1) := by decide +kernel
theorem dM_askFar_29 : decode cM_askFar 29 = .ok (.iload_n 1, 1) := by decide +kernel
theorem dM_askFar_30 : decode cM_askFar 30 = .ok (.bipush 6, 2) := by decide +kernel
theorem dM_askFar_32 : decode cM_askFar 32 = .ok (.iconst 0, 1) := by decide +kernel
theorem dM_askFar_33 : decode cM_askFar 33 = .ok (.bipush 6, 2) := by decide +kernel
theorem dM_askFar_35 : decode cM_askFar 35 = .ok (.invokevirtual 237, 3) := by decide +kernel
theorem dM_askFar_38 : decode cM_askFar 38 = .ok (.ifCond .ne 5, 3) := by decide +kernel
theorem dM_askFar_41 : decode cM_askFar 41 = .ok (.iconst 2, 1) := by decide +kernel
theorem dM_askFar_42 : decode cM_askFar 42 = .ok (.ireturn, 1) := by decide +kernel
theorem dM_askFar_43 : decode cM_askFar 43 = .ok (.aload_n 0, 1) := by decide +kernel
theorem dM_askFar_44 : decode cM_askFar 44 = .ok (.bipush 6, 2) := by decide +kernel
theorem dM_askFar_46 : decode cM_askFar 46 = .ok (.iconst (-1), 1) := by decide +kernel
theorem dM_askFar_47 : decode cM_askFar 47 = .ok (.iload 4, 2) := by decide +kernel
theorem dM_askFar_49 : decode cM_askFar 49 = .ok (.iload_n 2, 1) := by decide +kernel
theorem dM_askFar_50 : decode cM_askFar 50 = .ok (.invokevirtual 237, 3) := by decide +kernel
theorem dM_askFar_53 : decode cM_askFar 53 = .ok (.ifCond .ne 5, 3) := by decide +kernel
theorem dM_askFar_56 : decode cM_askFar 56 = .ok (.iconst 3, 1) := by decide +kernel
theorem dM_askFar_57 : decode cM_askFar 57 = .ok (.ireturn, 1) := by decide +kernel
theorem dM_askFar_58 : decode cM_askFar 58 = .ok (.aload_n 0, 1) := by decide +kernel
theorem dM_askFar_59 : decode cM_askFar 59 = .ok (.iload_n 2, 1) := by decide +kernel
theorem dM_askFar_60 : decode cM_askFar 60 = .ok (.bipush 6, 2) := by decide +kernel
theorem dM_askFar_62 : decode cM_askFar 62 = .ok (.iconst 0, 1) := by decide +kernel
theorem dM_askFar_63 : decode cM_askFar 63 = .ok (.bipush 6, 2) := by decide +kernel
theorem dM_askFar_65 : decode cM_askFar 65 = .ok (.invokevirtual 237, 3) := by decide +kernel
theorem dM_askFar_68 : decode cM_askFar 68 = .ok (.ifCond .ne 5, 3) := by decide +kernel
theorem dM_askFar_71 : decode cM_askFar 71 = .ok (.iconst 4, 1) := by decide +kernel
theorem dM_askFar_72 : decode cM_askFar 72 = .ok (.ireturn, 1) := by decide +kernel
theorem dM_askFar_73 : decode cM_askFar 73 = .ok (.aload_n 0, 1) := by decide +kernel
theorem dM_askFar_74 : decode cM_askFar 74 = .ok (.bipush 6, 2) := by decide +kernel
theorem dM_askFar_76 : decode cM_askFar 76 = .ok (.iload_n 2, 1) := by decide +kernel
theorem dM_askFar_77 : decode cM_askFar 77 = .ok (.iload 4, 2) := by decide +kernel
theorem dM_askFar_79 : decode cM_askFar 79 = .ok (.iload_n 2, 1) := by decide +kernel
theorem dM_askFar_80 : decode cM_askFar 80 = .ok (.invokevirtual 237, 3) := by decide +kernel
theorem dM_askFar_83 : decode cM_askFar 83 = .ok (.ifCond .ne 5, 3) := by decide +kernel
theorem dM_askFar_86 : decode cM_askFar 86 = .ok (.iconst 5, 1) := by decide +kernel
theorem dM_askFar_87 : decode cM_askFar 87 = .ok (.ireturn, 1) := by decide +kernel
theorem dM_askFar_88 : decode cM_askFar 88 = .ok (.aload_n 0, 1) := by decide +kernel
theorem dM_askFar_89 : decode cM_askFar 89 = .ok (.iload_n 2, 1) := by decide +kernel
theorem dM_askFar_90 : decode cM_askFar 90 = .ok (.bipush 6, 2) := by decide +kernel
theorem dM_askFar_92 : decode cM_askFar 92 = .ok (.iconst 0, 1) := by decide +kernel
theorem dM_askFar_93 : decode cM_askFar 93 = .ok (.bipush 6, 2) := by decide +kernel
theorem dM_askFar_95 : decode cM_askFar 95 = .ok (.invokevirtual 237, 3) := by decide +kernel
theorem dM_askFar_98 : decode cM_askFar 98 = .ok (.ifCond .ne 6, 3) := by decide +kernel
theorem dM_askFar_101 : decode cM_askFar 101 = .ok (.bipush 6, 2) := by decide +kernel
theorem dM_askFar_103 : decode cM_askFar 103 = .ok (.ireturn, 1) := by decide +kernel
theorem dM_askFar_104 : decode cM_askFar 104 = .ok (.aload_n 0, 1) := by decide +kernel
theorem dM_askFar_105 : decode cM_askFar 105 = .ok (.bipush 6, 2) := by decide +kernel
theorem dM_askFar_107 : decode cM_askFar 107 = .ok (.iload_n 1, 1) := by decide +kernel
theorem dM_askFar_108 : decode cM_askFar 108 = .ok (.iload_n 3, 1) := by decide +kernel
theorem dM_askFar_109 : decode cM_askFar 109 = .ok (.iload_n 1, 1) := by decide +kernel
theorem dM_askFar_110 : decode cM_askFar 110 = .ok (.invokevirtual 237, 3) := by decide +kernel
theorem dM_askFar_113 : decode cM_askFar 113 = .ok (.ifCond .eq 8, 3) := by decide +kernel
theorem dM_askFar_116 : decode cM_askFar 116 = .ok (.bipush 8, 2) := by decide +kernel
theorem dM_askFar_118 : decode cM_askFar 118 = .ok (.goto 5, 3) := by decide +kernel
theorem dM_askFar_121 : decode cM_askFar 121 = .ok (.bipush 7, 2) := by decide +kernel
theorem dM_askFar_123 : decode cM_askFar 123 = .ok (.ireturn, 1) := by decide +kernel
theorem dM_answer_0 : decode cM_answer 0 = .ok (.aload_n 0, 1) := by decide +kernel
theorem dM_answer_1 : decode cM_answer 1 = .ok (.getfield 234, 3) := by decide +kernel
theorem dM_answer_4 : decode cM_answer 4 = .ok (.ireturn, 1) := by decide +kernel
theorem dM_crossings_0 : decode cM_crossings 0 = .ok (.aload_n 0, 1) := by decide +kernel
theorem dM_crossings_1 : decode cM_crossings 1 = .ok (.getfield 217, 3) := by decide +kernel
theorem dM_crossings_4 : decode cM_crossings 4 = .ok (.ireturn, 1) := by decide +kernel
