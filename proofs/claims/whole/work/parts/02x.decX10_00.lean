theorem dX10_init_0 : decode cX10_init 0 = .ok (.aload_n 0, 1) := by decide +kernel
theorem dX10_init_1 : decode cX10_init 1 = .ok (.invokespecial 1, 3) := by decide +kernel
theorem dX10_init_4 : decode cX10_init 4 = .ok (.aload_n 0, 1) := by decide +kernel
theorem dX10_init_5 : decode cX10_init 5 = .ok (.bipush 32, 2) := by decide +kernel
theorem dX10_init_7 : decode cX10_init 7 = .ok (.newarray .int, 2) := by decide +kernel
theorem dX10_init_9 : decode cX10_init 9 = .ok (.putfield 7, 3) := by decide +kernel
theorem dX10_init_12 : decode cX10_init 12 = .ok (.aload_n 0, 1) := by decide +kernel
theorem dX10_init_13 : decode cX10_init 13 = .ok (.sipush 4096, 3) := by decide +kernel
theorem dX10_init_16 : decode cX10_init 16 = .ok (.newarray .int, 2) := by decide +kernel
theorem dX10_init_18 : decode cX10_init 18 = .ok (.putfield 13, 3) := by decide +kernel
theorem dX10_init_21 : decode cX10_init 21 = .ok (.aload_n 0, 1) := by decide +kernel
theorem dX10_init_22 : decode cX10_init 22 = .ok (.sipush 4096, 3) := by decide +kernel
theorem dX10_init_25 : decode cX10_init 25 = .ok (.newarray .int, 2) := by decide +kernel
theorem dX10_init_27 : decode cX10_init 27 = .ok (.putfield 16, 3) := by decide +kernel
theorem dX10_init_30 : decode cX10_init 30 = .ok (.aload_n 0, 1) := by decide +kernel
theorem dX10_init_31 : decode cX10_init 31 = .ok (.sipush 4096, 3) := by decide +kernel
theorem dX10_init_34 : decode cX10_init 34 = .ok (.newarray .int, 2) := by decide +kernel
theorem dX10_init_36 : decode cX10_init 36 = .ok (.putfield 19, 3) := by decide +kernel
theorem dX10_init_39 : decode cX10_init 39 = .ok (.aload_n 0, 1) := by decide +kernel
theorem dX10_init_40 : decode cX10_init 40 = .ok (.iconst 4, 1) := by decide +kernel
theorem dX10_init_41 : decode cX10_init 41 = .ok (.newarray .int, 2) := by decide +kernel
theorem dX10_init_43 : decode cX10_init 43 = .ok (.putfield 22, 3) := by decide +kernel
theorem dX10_init_46 : decode cX10_init 46 = .ok (.aload_n 0, 1) := by decide +kernel
theorem dX10_init_47 : decode cX10_init 47 = .ok (.ldc 25, 2) := by decide +kernel
theorem dX10_init_49 : decode cX10_init 49 = .ok (.newarray .long, 2) := by decide +kernel
theorem dX10_init_51 : decode cX10_init 51 = .ok (.putfield 26, 3) := by decide +kernel
theorem dX10_init_54 : decode cX10_init 54 = .ok (.aload_n 0, 1) := by decide +kernel
theorem dX10_init_55 : decode cX10_init 55 = .ok (.sipush 10000, 3) := by decide +kernel
theorem dX10_init_58 : decode cX10_init 58 = .ok (.newarray .boolean, 2) := by decide +kernel
theorem dX10_init_60 : decode cX10_init 60 = .ok (.putfield 30, 3) := by decide +kernel
theorem dX10_init_63 : decode cX10_init 63 = .ok (.aload_n 0, 1) := by decide +kernel
theorem dX10_init_64 : decode cX10_init 64 = .ok (.sipush 10000, 3) := by decide +kernel
theorem dX10_init_67 : decode cX10_init 67 = .ok (.newarray .long, 2) := by decide +kernel
theorem dX10_init_69 : decode cX10_init 69 = .ok (.putfield 34, 3) := by decide +kernel
theorem dX10_init_72 : decode cX10_init 72 = .ok (.aload_n 0, 1) := by decide +kernel
theorem dX10_init_73 : decode cX10_init 73 = .ok (.sipush 10000, 3) := by decide +kernel
theorem dX10_init_76 : decode cX10_init 76 = .ok (.newarray .long, 2) := by decide +kernel
theorem dX10_init_78 : decode cX10_init 78 = .ok (.putfield 37, 3) := by decide +kernel
theorem dX10_init_81 : decode cX10_init 81 = .ok (.aload_n 0, 1) := by decide +kernel
theorem dX10_init_82 : decode cX10_init 82 = .ok (.bipush 6, 2) := by decide +kernel
theorem dX10_init_84 : decode cX10_init 84 = .ok (.newarray .int, 2) := by decide +kernel
theorem dX10_init_86 : decode cX10_init 86 = .ok (.putfield 40, 3) := by decide +kernel
theorem dX10_init_89 : decode cX10_init 89 = .ok (.aload_n 0, 1) := by decide +kernel
theorem dX10_init_90 : decode cX10_init 90 = .ok (.sipush 1200, 3) := by decide +kernel
theorem dX10_init_93 : decode cX10_init 93 = .ok (.newarray .int, 2) := by decide +kernel
theorem dX10_init_95 : decode cX10_init 95 = .ok (.putfield 43, 3) := by decide +kernel
theorem dX10_init_98 : decode cX10_init 98 = .ok (.aload_n 0, 1) := by decide +kernel
theorem dX10_init_99 : decode cX10_init 99 = .ok (.bipush 7, 2) := by decide +kernel
theorem dX10_init_101 : decode cX10_init 101 = .ok (.newarray .int, 2) := by decide +kernel
theorem dX10_init_103 : decode cX10_init 103 = .ok (.putfield 46, 3) := by decide +kernel
theorem dX10_init_106 : decode cX10_init 106 = .ok (.aload_n 0, 1) := by decide +kernel
theorem dX10_init_107 : decode cX10_init 107 = .ok (.sipush 1200, 3) := by decide +kernel
theorem dX10_init_110 : decode cX10_init 110 = .ok (.newarray .int, 2) := by decide +kernel
theorem dX10_init_112 : decode cX10_init 112 = .ok (.putfield 49, 3) := by decide +kernel
theorem dX10_init_115 : decode cX10_init 115 = .ok (.aload_n 0, 1) := by decide +kernel
theorem dX10_init_116 : decode cX10_init 116 = .ok (.sipush 1200, 3) := by decide +kernel
theorem dX10_init_119 : decode cX10_init 119 = .ok (.newarray .int, 2) := by decide +kernel
theorem dX10_init_121 : decode cX10_init 121 = .ok (.putfield 52, 3) := by decide +kernel
theorem dX10_init_124 : decode cX10_init 124 = .ok (.aload_n 0, 1) := by decide +kernel
theorem dX10_init_125 : decode cX10_init 125 = .ok (.bipush 22, 2) := by decide +kernel
theorem dX10_init_127 : decode cX10_init 127 = .ok (.newarray .int, 2) := by decide +kernel
theorem dX10_init_129 : decode cX10_init 129 = .ok (.putfield 55, 3) := by decide +kernel
theorem dX10_init_132 : decode cX10_init 132 = .ok (.aload_n 0, 1) := by decide +kernel
theorem dX10_init_133 : decode cX10_init 133 = .ok (.ldc 58, 2) := by decide +kernel
theorem dX10_init_135 : decode cX10_init 135 = .ok (.newarray .long, 2) := by decide +kernel
theorem dX10_init_137 : decode cX10_init 137 = .ok (.putfield 59, 3) := by decide +kernel
theorem dX10_init_140 : decode cX10_init 140 = .ok (.aload_n 0, 1) := by decide +kernel
theorem dX10_init_141 : decode cX10_init 141 = .ok (.ldc 58, 2) := by decide +kernel
theorem dX10_init_143 : decode cX10_init 143 = .ok (.newarray .byte, 2) := by decide +kernel
theorem dX10_init_145 : decode cX10_init 145 = .ok (.putfield 62, 3) := by decide +kernel
theorem dX10_init_148 : decode cX10_init 148 = .ok (.aload_n 0, 1) := by decide +kernel
theorem dX10_init_149 : decode cX10_init 149 = .ok (.ldc 58, 2) := by decide +kernel
theorem dX10_init_151 : decode cX10_init 151 = .ok (.newarray .boolean, 2) := by decide +kernel
theorem dX10_init_153 : decode cX10_init 153 = .ok (.putfield 66, 3) := by decide +kernel
theorem dX10_init_156 : decode cX10_init 156 = .ok (.aload_n 0, 1) := by decide +kernel
theorem dX10_init_157 : decode cX10_init 157 = .ok (.bipush 8, 2) := by decide +kernel
theorem dX10_init_159 : decode cX10_init 159 = .ok (.newarray .int, 2) := by decide +kernel
theorem dX10_init_161 : decode cX10_init 161 = .ok (.putfield 69, 3) := by decide +kernel
theorem dX10_init_164 : decode cX10_init 164 = .ok (.aload_n 0, 1) := by decide +kernel
theorem dX10_init_165 : decode cX10_init 165 = .ok (.bipush 8, 2) := by decide +kernel
theorem dX10_init_167 : decode cX10_init 167 = .ok (.newarray .int, 2) := by decide +kernel
theorem dX10_init_169 : decode cX10_init 169 = .ok (.putfield 72, 3) := by decide +kernel
theorem dX10_init_172 : decode cX10_init 172 = .ok (.aload_n 0, 1) := by decide +kernel
theorem dX10_init_173 : decode cX10_init 173 = .ok (.bipush 8, 2) := by decide +kernel
theorem dX10_init_175 : decode cX10_init 175 = .ok (.newarray .int, 2) := by decide +kernel
theorem dX10_init_177 : decode cX10_init 177 = .ok (.putfield 75, 3) := by decide +kernel
theorem dX10_init_180 : decode cX10_init 180 = .ok (.aload_n 0, 1) := by decide +kernel
theorem dX10_init_181 : decode cX10_init 181 = .ok (.bipush 54, 2) := by decide +kernel
theorem dX10_init_183 : decode cX10_init 183 = .ok (.newarray .int, 2) := by decide +kernel
theorem dX10_init_185 : decode cX10_init 185 = .ok (.putfield 78, 3) := by decide +kernel
theorem dX10_init_188 : decode cX10_init 188 = .ok (.aload_n 0, 1) := by decide +kernel
theorem dX10_init_189 : decode cX10_init 189 = .ok (.bipush 6, 2) := by decide +kernel
theorem dX10_init_191 : decode cX10_init 191 = .ok (.newarray .long, 2) := by decide +kernel
theorem dX10_init_193 : decode cX10_init 193 = .ok (.putfield 81, 3) := by decide +kernel
theorem dX10_init_196 : decode cX10_init 196 = .ok (.aload_n 0, 1) := by decide +kernel
theorem dX10_init_197 : decode cX10_init 197 = .ok (.bipush 6, 2) := by decide +kernel
theorem dX10_init_199 : decode cX10_init 199 = .ok (.newarray .long, 2) := by decide +kernel
theorem dX10_init_201 : decode cX10_init 201 = .ok (.putfield 84, 3) := by decide +kernel
theorem dX10_init_204 : decode cX10_init 204 = .ok (.aload_n 0, 1) := by decide +kernel
theorem dX10_init_205 : decode cX10_init 205 = .ok (.bipush 78, 2) := by decide +kernel
theorem dX10_init_207 : decode cX10_init 207 = .ok (.newarray .int, 2) := by decide +kernel
theorem dX10_init_209 : decode cX10_init 209 = .ok (.putfield 87, 3) := by decide +kernel
theorem dX10_init_212 : decode cX10_init 212 = .ok (.aload_n 0, 1) := by decide +kernel
theorem dX10_init_213 : decode cX10_init 213 = .ok (.bipush 6, 2) := by decide +kernel
theorem dX10_init_215 : decode cX10_init 215 = .ok (.newarray .int, 2) := by decide +kernel
theorem dX10_init_217 : decode cX10_init 217 = .ok (.putfield 90, 3) := by decide +kernel
theorem dX10_init_220 : decode cX10_init 220 = .ok (.aload_n 0, 1) := by decide +kernel
theorem dX10_init_221 : decode cX10_init 221 = .ok (.bipush 6, 2) := by decide +kernel
theorem dX10_init_223 : decode cX10_init 223 = .ok (.newarray .int, 2) := by decide +kernel
theorem dX10_init_225 : decode cX10_init 225 = .ok (.putfield 93, 3) := by decide +kernel
theorem dX10_init_228 : decode cX10_init 228 = .ok (.aload_n 0, 1) := by decide +kernel
theorem dX10_init_229 : decode cX10_init 229 = .ok (.sipush 1296, 3) := by decide +kernel
theorem dX10_init_232 : decode cX10_init 232 = .ok (.newarray .boolean, 2) := by decide +kernel
theorem dX10_init_234 : decode cX10_init 234 = .ok (.putfield 96, 3) := by decide +kernel
theorem dX10_init_237 : decode cX10_init 237 = .ok (.aload_n 0, 1) := by decide +kernel
theorem dX10_init_238 : decode cX10_init 238 = .ok (.bipush 6, 2) := by decide +kernel
theorem dX10_init_240 : decode cX10_init 240 = .ok (.newarray .int, 2) := by decide +kernel
theorem dX10_init_242 : decode cX10_init 242 = .ok (.putfield 99, 3) := by decide +kernel
theorem dX10_init_245 : decode cX10_init 245 = .ok (.aload_n 0, 1) := by decide +kernel
theorem dX10_init_246 : decode cX10_init 246 = .ok (.bipush 20, 2) := by decide +kernel
theorem dX10_init_248 : decode cX10_init 248 = .ok (.newarray .int, 2) := by decide +kernel
theorem dX10_init_250 : decode cX10_init 250 = .ok (.putfield 102, 3) := by decide +kernel
theorem dX10_init_253 : decode cX10_init 253 = .ok (.aload_n 0, 1) := by decide +kernel
theorem dX10_init_254 : decode cX10_init 254 = .ok (.iconst 1, 1) := by decide +kernel
theorem dX10_init_255 : decode cX10_init 255 = .ok (.putfield 105, 3) := by decide +kernel
theorem dX10_init_258 : decode cX10_init 258 = .ok (.aload_n 0, 1) := by decide +kernel
theorem dX10_init_259 : decode cX10_init 259 = .ok (.iconst 1, 1) := by decide +kernel
theorem dX10_init_260 : decode cX10_init 260 = .ok (.putfield 109, 3) := by decide +kernel
theorem dX10_init_263 : decode cX10_init 263 = .ok (.aload_n 0, 1) := by decide +kernel
theorem dX10_init_264 : decode cX10_init 264 = .ok (.iconst 1, 1) := by decide +kernel
theorem dX10_init_265 : decode cX10_init 265 = .ok (.putfield 112, 3) := by decide +kernel
theorem dX10_init_268 : decode cX10_init 268 = .ok (.aload_n 0, 1) := by decide +kernel
theorem dX10_init_269 : decode cX10_init 269 = .ok (.iconst 1, 1) := by decide +kernel
theorem dX10_init_270 : decode cX10_init 270 = .ok (.putfield 116, 3) := by decide +kernel
theorem dX10_init_273 : decode cX10_init 273 = .ok (.aload_n 0, 1) := by decide +kernel
theorem dX10_init_274 : decode cX10_init 274 = .ok (.iconst 1, 1) := by decide +kernel
theorem dX10_init_275 : decode cX10_init 275 = .ok (.putfield 119, 3) := by decide +kernel
theorem dX10_init_278 : decode cX10_init 278 = .ok (.aload_n 0, 1) := by decide +kernel
theorem dX10_init_279 : decode cX10_init 279 = .ok (.iconst 2, 1) := by decide +kernel
theorem dX10_init_280 : decode cX10_init 280 = .ok (.putfield 122, 3) := by decide +kernel
theorem dX10_init_283 : decode cX10_init 283 = .ok (.aload_n 0, 1) := by decide +kernel
theorem dX10_init_284 : decode cX10_init 284 = .ok (.iconst 1, 1) := by decide +kernel
theorem dX10_init_285 : decode cX10_init 285 = .ok (.putfield 125, 3) := by decide +kernel
theorem dX10_init_288 : decode cX10_init 288 = .ok (.return_, 1) := by decide +kernel
theorem dX10_isIn_0 : decode cX10_isIn 0 = .ok (.iload_n 0, 1) := by decide +kernel
theorem dX10_isIn_1 : decode cX10_isIn 1 = .ok (.iload_n 1, 1) := by decide +kernel
theorem dX10_isIn_2 : decode cX10_isIn 2 = .ok (.if_icmp .lt 12, 3) := by decide +kernel
theorem dX10_isIn_5 : decode cX10_isIn 5 = .ok (.iload_n 0, 1) := by decide +kernel
theorem dX10_isIn_6 : decode cX10_isIn 6 = .ok (.iload_n 2, 1) := by decide +kernel
theorem dX10_isIn_7 : decode cX10_isIn 7 = .ok (.if_icmp .gt 7, 3) := by decide +kernel
theorem dX10_isIn_10 : decode cX10_isIn 10 = .ok (.iconst 1, 1) := by decide +kernel
theorem dX10_isIn_11 : decode cX10_isIn 11 = .ok (.goto 4, 3) := by decide +kernel
theorem dX10_isIn_14 : decode cX10_isIn 14 = .ok (.iconst 0, 1) := by decide +kernel
theorem dX10_isIn_15 : decode cX10_isIn 15 = .ok (.ireturn, 1) := by decide +kernel
theorem dX10_tile_0 : decode cX10_tile 0 = .ok (.iload_n 1, 1) := by decide +kernel
theorem dX10_tile_1 : decode cX10_tile 1 = .ok (.iconst 0, 1) := by decide +kernel
theorem dX10_tile_2 : decode cX10_tile 2 = .ok (.bipush 9, 2) := by decide +kernel
theorem dX10_tile_4 : decode cX10_tile 4 = .ok (.invokestatic 128, 3) := by decide +kernel
theorem dX10_tile_7 : decode cX10_tile 7 = .ok (.ifCond .eq 34, 3) := by decide +kernel
theorem dX10_tile_10 : decode cX10_tile 10 = .ok (.iload_n 2, 1) := by decide +kernel
theorem dX10_tile_11 : decode cX10_tile 11 = .ok (.iconst 0, 1) := by decide +kernel
theorem dX10_tile_12 : decode cX10_tile 12 = .ok (.bipush 9, 2) := by decide +kernel
theorem dX10_tile_14 : decode cX10_tile 14 = .ok (.invokestatic 128, 3) := by decide +kernel
theorem dX10_tile_17 : decode cX10_tile 17 = .ok (.ifCond .eq 24, 3) := by decide +kernel
theorem dX10_tile_20 : decode cX10_tile 20 = .ok (.iload_n 3, 1) := by decide +kernel
theorem dX10_tile_21 : decode cX10_tile 21 = .ok (.iconst 0, 1) := by decide +kernel
theorem dX10_tile_22 : decode cX10_tile 22 = .ok (.bipush 9, 2) := by decide +kernel
theorem dX10_tile_24 : decode cX10_tile 24 = .ok (.invokestatic 128, 3) := by decide +kernel
theorem dX10_tile_27 : decode cX10_tile 27 = .ok (.ifCond .eq 14, 3) := by decide +kernel
theorem dX10_tile_30 : decode cX10_tile 30 = .ok (.iload 4, 2) := by decide +kernel
theorem dX10_tile_32 : decode cX10_tile 32 = .ok (.iconst 0, 1) := by decide +kernel
theorem dX10_tile_33 : decode cX10_tile 33 = .ok (.bipush 9, 2) := by decide +kernel
theorem dX10_tile_35 : decode cX10_tile 35 = .ok (.invokestatic 128, 3) := by decide +kernel
theorem dX10_tile_38 : decode cX10_tile 38 = .ok (.ifCond .ne 6, 3) := by decide +kernel
theorem dX10_tile_41 : decode cX10_tile 41 = .ok (.bipush (-2), 2) := by decide +kernel
theorem dX10_tile_43 : decode cX10_tile 43 = .ok (.ireturn, 1) := by decide +kernel
theorem dX10_tile_44 : decode cX10_tile 44 = .ok (.aload_n 0, 1) := by decide +kernel
theorem dX10_tile_45 : decode cX10_tile 45 = .ok (.getfield 132, 3) := by decide +kernel
theorem dX10_tile_48 : decode cX10_tile 48 = .ok (.bipush 8, 2) := by decide +kernel
theorem dX10_tile_50 : decode cX10_tile 50 = .ok (.if_icmp .ne 6, 3) := by decide +kernel
theorem dX10_tile_53 : decode cX10_tile 53 = .ok (.bipush (-3), 2) := by decide +kernel
theorem dX10_tile_55 : decode cX10_tile 55 = .ok (.ireturn, 1) := by decide +kernel
theorem dX10_tile_56 : decode cX10_tile 56 = .ok (.aload_n 0, 1) := by decide +kernel
theorem dX10_tile_57 : decode cX10_tile 57 = .ok (.getfield 7, 3) := by decide +kernel
theorem dX10_tile_60 : decode cX10_tile 60 = .ok (.iconst 4, 1) := by decide +kernel
theorem dX10_tile_61 : decode cX10_tile 61 = .ok (.aload_n 0, 1) := by decide +kernel
theorem dX10_tile_62 : decode cX10_tile 62 = .ok (.getfield 132, 3) := by decide +kernel
theorem dX10_tile_65 : decode cX10_tile 65 = .ok (.imul, 1) := by decide +kernel
theorem dX10_tile_66 : decode cX10_tile 66 = .ok (.iload_n 1, 1) := by decide +kernel
theorem dX10_tile_67 : decode cX10_tile 67 = .ok (.iastore, 1) := by decide +kernel
theorem dX10_tile_68 : decode cX10_tile 68 = .ok (.aload_n 0, 1) := by decide +kernel
theorem dX10_tile_69 : decode cX10_tile 69 = .ok (.getfield 7, 3) := by decide +kernel
theorem dX10_tile_72 : decode cX10_tile 72 = .ok (.iconst 4, 1) := by decide +kernel
theorem dX10_tile_73 : decode cX10_tile 73 = .ok (.aload_n 0, 1) := by decide +kernel
theorem dX10_tile_74 : decode cX10_tile 74 = .ok (.getfield 132, 3) := by decide +kernel
theorem dX10_tile_77 : decode cX10_tile 77 = .ok (.imul, 1) := by decide +kernel
theorem dX10_tile_78 : decode cX10_tile 78 = .ok (.iconst 1, 1) := by decide +kernel
theorem dX10_tile_79 : decode cX10_tile 79 = .ok (.iadd, 1) := by decide +kernel
theorem dX10_tile_80 : decode cX10_tile 80 = .ok (.iload_n 2, 1) := by decide +kernel
theorem dX10_tile_81 : decode cX10_tile 81 = .ok (.iastore, 1) := by decide +kernel
theorem dX10_tile_82 : decode cX10_tile 82 = .ok (.aload_n 0, 1) := by decide +kernel
theorem dX10_tile_83 : decode cX10_tile 83 = .ok (.getfield 7, 3) := by decide +kernel
theorem dX10_tile_86 : decode cX10_tile 86 = .ok (.iconst 4, 1) := by decide +kernel
theorem dX10_tile_87 : decode cX10_tile 87 = .ok (.aload_n 0, 1) := by decide +kernel
theorem dX10_tile_88 : decode cX10_tile 88 = .ok (.getfield 132, 3) := by decide +kernel
theorem dX10_tile_91 : decode cX10_tile 91 = .ok (.imul, 1) := by decide +kernel
theorem dX10_tile_92 : decode cX10_tile 92 = .ok (.iconst 2, 1) := by decide +kernel
theorem dX10_tile_93 : decode cX10_tile 93 = .ok (.iadd, 1) := by decide +kernel
theorem dX10_tile_94 : decode cX10_tile 94 = .ok (.iload_n 3, 1) := by decide +kernel
theorem dX10_tile_95 : decode cX10_tile 95 = .ok (.iastore, 1) := by decide +kernel
theorem dX10_tile_96 : decode cX10_tile 96 = .ok (.aload_n 0, 1) := by decide +kernel
theorem dX10_tile_97 : decode cX10_tile 97 = .ok (.getfield 7, 3) := by decide +kernel
theorem dX10_tile_100 : decode cX10_tile 100 = .ok (.iconst 4, 1) := by decide +kernel
theorem dX10_tile_101 : decode cX10_tile 101 = .ok (.aload_n 0, 1) := by decide +kernel
theorem dX10_tile_102 : decode cX10_tile 102 = .ok (.getfield 132, 3) := by decide +kernel
theorem dX10_tile_105 : decode cX10_tile 105 = .ok (.imul, 1) := by decide +kernel
theorem dX10_tile_106 : decode cX10_tile 106 = .ok (.iconst 3, 1) := by decide +kernel
theorem dX10_tile_107 : decode cX10_tile 107 = .ok (.iadd, 1) := by decide +kernel
theorem dX10_tile_108 : decode cX10_tile 108 = .ok (.iload 4, 2) := by decide +kernel
theorem dX10_tile_110 : decode cX10_tile 110 = .ok (.iastore, 1) := by decide +kernel
theorem dX10_tile_111 : decode cX10_tile 111 = .ok (.aload_n 0, 1) := by decide +kernel
theorem dX10_tile_112 : decode cX10_tile 112 = .ok (.dup, 1) := by decide +kernel
theorem dX10_tile_113 : decode cX10_tile 113 = .ok (.getfield 132, 3) := by decide +kernel
theorem dX10_tile_116 : decode cX10_tile 116 = .ok (.iconst 1, 1) := by decide +kernel
theorem dX10_tile_117 : decode cX10_tile 117 = .ok (.iadd, 1) := by decide +kernel
theorem dX10_tile_118 : decode cX10_tile 118 = .ok (.putfield 132, 3) := by decide +kernel
theorem dX10_tile_121 : decode cX10_tile 121 = .ok (.aload_n 0, 1) := by decide +kernel
theorem dX10_tile_122 : decode cX10_tile 122 = .ok (.getfield 132, 3) := by decide +kernel
theorem dX10_tile_125 : decode cX10_tile 125 = .ok (.iconst 1, 1) := by decide +kernel
theorem dX10_tile_126 : decode cX10_tile 126 = .ok (.isub, 1) := by decide +kernel
theorem dX10_tile_127 : decode cX10_tile 127 = .ok (.ireturn, 1) := by decide +kernel
theorem dX10_untile_0 : decode cX10_untile 0 = .ok (.aload_n 0, 1) := by decide +kernel
theorem dX10_untile_1 : decode cX10_untile 1 = .ok (.getfield 132, 3) := by decide +kernel
theorem dX10_untile_4 : decode cX10_untile 4 = .ok (.ifCond .ne 5, 3) := by decide +kernel
theorem dX10_untile_7 : decode cX10_untile 7 = .ok (.iconst (-1), 1) := by decide +kernel
theorem dX10_untile_8 : decode cX10_untile 8 = .ok (.ireturn, 1) := by decide +kernel
theorem dX10_untile_9 : decode cX10_untile 9 = .ok (.aload_n 0, 1) := by decide +kernel
theorem dX10_untile_10 : decode cX10_untile 10 = .ok (.dup, 1) := by decide +kernel
theorem dX10_untile_11 : decode cX10_untile 11 = .ok (.getfield 132, 3) := by decide +kernel
theorem dX10_untile_14 : decode cX10_untile 14 = .ok (.iconst 1, 1) := by decide +kernel
theorem dX10_untile_15 : decode cX10_untile 15 = .ok (.isub, 1) := by decide +kernel
theorem dX10_untile_16 : decode cX10_untile 16 = .ok (.putfield 132, 3) := by decide +kernel
theorem dX10_untile_19 : decode cX10_untile 19 = .ok (.aload_n 0, 1) := by decide +kernel
theorem dX10_untile_20 : decode cX10_untile 20 = .ok (.getfield 132, 3) := by decide +kernel
theorem dX10_untile_23 : decode cX10_untile 23 = .ok (.ireturn, 1) := by decide +kernel
theorem dX10_layRows_0 : decode cX10_layRows 0 = .ok (.aload_n 0, 1) := by decide +kernel
theorem dX10_layRows_1 : decode cX10_layRows 1 = .ok (.iconst 0, 1) := by decide +kernel
theorem dX10_layRows_2 : decode cX10_layRows 2 = .ok (.putfield 135, 3) := by decide +kernel
theorem dX10_layRows_5 : decode cX10_layRows 5 = .ok (.iconst 1, 1) := by decide +kernel
theorem dX10_layRows_6 : decode cX10_layRows 6 = .ok (.istore_n 3, 1) := by decide +kernel
theorem dX10_layRows_7 : decode cX10_layRows 7 = .ok (.iconst 0, 1) := by decide +kernel
theorem dX10_layRows_8 : decode cX10_layRows 8 = .ok (.istore 4, 2) := by decide +kernel
theorem dX10_layRows_10 : decode cX10_layRows 10 = .ok (.iload 4, 2) := by decide +kernel
theorem dX10_layRows_12 : decode cX10_layRows 12 = .ok (.iload_n 1, 1) := by decide +kernel
theorem dX10_layRows_13 : decode cX10_layRows 13 = .ok (.if_icmp .ge 16, 3) := by decide +kernel
theorem dX10_layRows_16 : decode cX10_layRows 16 = .ok (.iload_n 3, 1) := by decide +kernel
theorem dX10_layRows_17 : decode cX10_layRows 17 = .ok (.aload_n 0, 1) := by decide +kernel
theorem dX10_layRows_18 : decode cX10_layRows 18 = .ok (.getfield 132, 3) := by decide +kernel
theorem dX10_layRows_21 : decode cX10_layRows 21 = .ok (.imul, 1) := by decide +kernel
theorem dX10_layRows_22 : decode cX10_layRows 22 = .ok (.istore_n 3, 1) := by decide +kernel
theorem dX10_layRows_23 : decode cX10_layRows 23 = .ok (.iinc 4 1, 3) := by decide +kernel
theorem dX10_layRows_26 : decode cX10_layRows 26 = .ok (.goto (-16), 3) := by decide +kernel
theorem dX10_layRows_29 : decode cX10_layRows 29 = .ok (.iconst 0, 1) := by decide +kernel
theorem dX10_layRows_30 : decode cX10_layRows 30 = .ok (.istore 4, 2) := by decide +kernel
theorem dX10_layRows_32 : decode cX10_layRows 32 = .ok (.iload 4, 2) := by decide +kernel
theorem dX10_layRows_34 : decode cX10_layRows 34 = .ok (.iload_n 3, 1) := by decide +kernel
theorem dX10_layRows_35 : decode cX10_layRows 35 = .ok (.if_icmp .ge 267, 3) := by decide +kernel
theorem dX10_layRows_38 : decode cX10_layRows 38 = .ok (.iload 4, 2) := by decide +kernel
theorem dX10_layRows_40 : decode cX10_layRows 40 = .ok (.istore 5, 2) := by decide +kernel
theorem dX10_layRows_42 : decode cX10_layRows 42 = .ok (.iload_n 1, 1) := by decide +kernel
theorem dX10_layRows_43 : decode cX10_layRows 43 = .ok (.iconst 1, 1) := by decide +kernel
theorem dX10_layRows_44 : decode cX10_layRows 44 = .ok (.isub, 1) := by decide +kernel
theorem dX10_layRows_45 : decode cX10_layRows 45 = .ok (.istore 6, 2) := by decide +kernel
theorem dX10_layRows_47 : decode cX10_layRows 47 = .ok (.iload 6, 2) := by decide +kernel
theorem dX10_layRows_49 : decode cX10_layRows 49 = .ok (.ifCond .lt 32, 3) := by decide +kernel
theorem dX10_layRows_52 : decode cX10_layRows 52 = .ok (.aload_n 0, 1) := by decide +kernel
theorem dX10_layRows_53 : decode cX10_layRows 53 = .ok (.getfield 22, 3) := by decide +kernel
theorem dX10_layRows_56 : decode cX10_layRows 56 = .ok (.iload 6, 2) := by decide +kernel
theorem dX10_layRows_58 : decode cX10_layRows 58 = .ok (.iload 5, 2) := by decide +kernel
theorem dX10_layRows_60 : decode cX10_layRows 60 = .ok (.aload_n 0, 1) := by decide +kernel
theorem dX10_layRows_61 : decode cX10_layRows 61 = .ok (.getfield 132, 3) := by decide +kernel
theorem dX10_layRows_64 : decode cX10_layRows 64 = .ok (.irem, 1) := by decide +kernel
theorem dX10_layRows_65 : decode cX10_layRows 65 = .ok (.iastore, 1) := by decide +kernel
theorem dX10_layRows_66 : decode cX10_layRows 66 = .ok (.iload 5, 2) := by decide +kernel
theorem dX10_layRows_68 : decode cX10_layRows 68 = .ok (.aload_n 0, 1) := by decide +kernel
theorem dX10_layRows_69 : decode cX10_layRows 69 = .ok (.getfield 132, 3) := by decide +kernel
theorem dX10_layRows_72 : decode cX10_layRows 72 = .ok (.idiv, 1) := by decide +kernel
theorem dX10_layRows_73 : decode cX10_layRows 73 = .ok (.istore 5, 2) := by decide +kernel
theorem dX10_layRows_75 : decode cX10_layRows 75 = .ok (.iinc 6 (-1), 3) := by decide +kernel
theorem dX10_layRows_78 : decode cX10_layRows 78 = .ok (.goto (-31), 3) := by decide +kernel
theorem dX10_layRows_81 : decode cX10_layRows 81 = .ok (.iload_n 2, 1) := by decide +kernel
theorem dX10_layRows_82 : decode cX10_layRows 82 = .ok (.ifCond .eq 38, 3) := by decide +kernel
theorem dX10_layRows_85 : decode cX10_layRows 85 = .ok (.aload_n 0, 1) := by decide +kernel
theorem dX10_layRows_86 : decode cX10_layRows 86 = .ok (.getfield 7, 3) := by decide +kernel
theorem dX10_layRows_89 : decode cX10_layRows 89 = .ok (.iconst 4, 1) := by decide +kernel
theorem dX10_layRows_90 : decode cX10_layRows 90 = .ok (.aload_n 0, 1) := by decide +kernel
theorem dX10_layRows_91 : decode cX10_layRows 91 = .ok (.getfield 22, 3) := by decide +kernel
theorem dX10_layRows_94 : decode cX10_layRows 94 = .ok (.iload_n 1, 1) := by decide +kernel
theorem dX10_layRows_95 : decode cX10_layRows 95 = .ok (.iconst 1, 1) := by decide +kernel
theorem dX10_layRows_96 : decode cX10_layRows 96 = .ok (.isub, 1) := by decide +kernel
theorem dX10_layRows_97 : decode cX10_layRows 97 = .ok (.iaload, 1) := by decide +kernel
theorem dX10_layRows_98 : decode cX10_layRows 98 = .ok (.imul, 1) := by decide +kernel
theorem dX10_layRows_99 : decode cX10_layRows 99 = .ok (.iconst 1, 1) := by decide +kernel
theorem dX10_layRows_100 : decode cX10_layRows 100 = .ok (.iadd, 1) := by decide +kernel
theorem dX10_layRows_101 : decode cX10_layRows 101 = .ok (.iaload, 1) := by decide +kernel
theorem dX10_layRows_102 : decode cX10_layRows 102 = .ok (.aload_n 0, 1) := by decide +kernel
theorem dX10_layRows_103 : decode cX10_layRows 103 = .ok (.getfield 7, 3) := by decide +kernel
theorem dX10_layRows_106 : decode cX10_layRows 106 = .ok (.iconst 4, 1) := by decide +kernel
theorem dX10_layRows_107 : decode cX10_layRows 107 = .ok (.aload_n 0, 1) := by decide +kernel
theorem dX10_layRows_108 : decode cX10_layRows 108 = .ok (.getfield 22, 3) := by decide +kernel
theorem dX10_layRows_111 : decode cX10_layRows 111 = .ok (.iconst 0, 1) := by decide +kernel
theorem dX10_layRows_112 : decode cX10_layRows 112 = .ok (.iaload, 1) := by decide +kernel
theorem dX10_layRows_113 : decode cX10_layRows 113 = .ok (.imul, 1) := by decide +kernel
theorem dX10_layRows_114 : decode cX10_layRows 114 = .ok (.iconst 3, 1) := by decide +kernel
theorem dX10_layRows_115 : decode cX10_layRows 115 = .ok (.iadd, 1) := by decide +kernel
theorem dX10_layRows_116 : decode cX10_layRows 116 = .ok (.iaload, 1) := by decide +kernel
theorem dX10_layRows_117 : decode cX10_layRows 117 = .ok (.if_icmp .ne 7, 3) := by decide +kernel
theorem dX10_layRows_120 : decode cX10_layRows 120 = .ok (.iconst 1, 1) := by decide +kernel
theorem dX10_layRows_121 : decode cX10_layRows 121 = .ok (.goto 4, 3) := by decide +kernel
theorem dX10_layRows_124 : decode cX10_layRows 124 = .ok (.iconst 0, 1) := by decide +kernel
theorem dX10_layRows_125 : decode cX10_layRows 125 = .ok (.istore 6, 2) := by decide +kernel
theorem dX10_layRows_127 : decode cX10_layRows 127 = .ok (.iconst 0, 1) := by decide +kernel
theorem dX10_layRows_128 : decode cX10_layRows 128 = .ok (.istore 7, 2) := by decide +kernel
theorem dX10_layRows_130 : decode cX10_layRows 130 = .ok (.iconst 0, 1) := by decide +kernel
theorem dX10_layRows_131 : decode cX10_layRows 131 = .ok (.istore 8, 2) := by decide +kernel
theorem dX10_layRows_133 : decode cX10_layRows 133 = .ok (.iconst 0, 1) := by decide +kernel
theorem dX10_layRows_134 : decode cX10_layRows 134 = .ok (.istore 9, 2) := by decide +kernel
theorem dX10_layRows_136 : decode cX10_layRows 136 = .ok (.iload 9, 2) := by decide +kernel
theorem dX10_layRows_138 : decode cX10_layRows 138 = .ok (.iload_n 1, 1) := by decide +kernel
theorem dX10_layRows_139 : decode cX10_layRows 139 = .ok (.if_icmp .ge 109, 3) := by decide +kernel
theorem dX10_layRows_142 : decode cX10_layRows 142 = .ok (.iload 6, 2) := by decide +kernel
theorem dX10_layRows_144 : decode cX10_layRows 144 = .ok (.ifCond .eq 49, 3) := by decide +kernel
theorem dX10_layRows_147 : decode cX10_layRows 147 = .ok (.iload 9, 2) := by decide +kernel
theorem dX10_layRows_149 : decode cX10_layRows 149 = .ok (.ifCond .eq 40, 3) := by decide +kernel
theorem dX10_layRows_152 : decode cX10_layRows 152 = .ok (.aload_n 0, 1) := by decide +kernel
theorem dX10_layRows_153 : decode cX10_layRows 153 = .ok (.getfield 7, 3) := by decide +kernel
theorem dX10_layRows_156 : decode cX10_layRows 156 = .ok (.iconst 4, 1) := by decide +kernel
theorem dX10_layRows_157 : decode cX10_layRows 157 = .ok (.aload_n 0, 1) := by decide +kernel
theorem dX10_layRows_158 : decode cX10_layRows 158 = .ok (.getfield 22, 3) := by decide +kernel
theorem dX10_layRows_161 : decode cX10_layRows 161 = .ok (.iload 9, 2) := by decide +kernel
theorem dX10_layRows_163 : decode cX10_layRows 163 = .ok (.iconst 1, 1) := by decide +kernel
theorem dX10_layRows_164 : decode cX10_layRows 164 = .ok (.isub, 1) := by decide +kernel
theorem dX10_layRows_165 : decode cX10_layRows 165 = .ok (.iaload, 1) := by decide +kernel
theorem dX10_layRows_166 : decode cX10_layRows 166 = .ok (.imul, 1) := by decide +kernel
theorem dX10_layRows_167 : decode cX10_layRows 167 = .ok (.iconst 1, 1) := by decide +kernel
theorem dX10_layRows_168 : decode cX10_layRows 168 = .ok (.iadd, 1) := by decide +kernel
theorem dX10_layRows_169 : decode cX10_layRows 169 = .ok (.iaload, 1) := by decide +kernel
theorem dX10_layRows_170 : decode cX10_layRows 170 = .ok (.aload_n 0, 1) := by decide +kernel
theorem dX10_layRows_171 : decode cX10_layRows 171 = .ok (.getfield 7, 3) := by decide +kernel
theorem dX10_layRows_174 : decode cX10_layRows 174 = .ok (.iconst 4, 1) := by decide +kernel
theorem dX10_layRows_175 : decode cX10_layRows 175 = .ok (.aload_n 0, 1) := by decide +kernel
theorem dX10_layRows_176 : decode cX10_layRows 176 = .ok (.getfield 22, 3) := by decide +kernel
theorem dX10_layRows_179 : decode cX10_layRows 179 = .ok (.iload 9, 2) := by decide +kernel
theorem dX10_layRows_181 : decode cX10_layRows 181 = .ok (.iaload, 1) := by decide +kernel
theorem dX10_layRows_182 : decode cX10_layRows 182 = .ok (.imul, 1) := by decide +kernel
theorem dX10_layRows_183 : decode cX10_layRows 183 = .ok (.iconst 3, 1) := by decide +kernel
theorem dX10_layRows_184 : decode cX10_layRows 184 = .ok (.iadd, 1) := by decide +kernel
theorem dX10_layRows_185 : decode cX10_layRows 185 = .ok (.iaload, 1) := by decide +kernel
theorem dX10_layRows_186 : decode cX10_layRows 186 = .ok (.if_icmp .ne 7, 3) := by decide +kernel
theorem dX10_layRows_189 : decode cX10_layRows 189 = .ok (.iconst 1, 1) := by decide +kernel
theorem dX10_layRows_190 : decode cX10_layRows 190 = .ok (.goto 4, 3) := by decide +kernel
theorem dX10_layRows_193 : decode cX10_layRows 193 = .ok (.iconst 0, 1) := by decide +kernel
theorem dX10_layRows_194 : decode cX10_layRows 194 = .ok (.istore 6, 2) := by decide +kernel
theorem dX10_layRows_196 : decode cX10_layRows 196 = .ok (.bipush 10, 2) := by decide +kernel
theorem dX10_layRows_198 : decode cX10_layRows 198 = .ok (.iload 7, 2) := by decide +kernel
theorem dX10_layRows_200 : decode cX10_layRows 200 = .ok (.imul, 1) := by decide +kernel
theorem dX10_layRows_201 : decode cX10_layRows 201 = .ok (.aload_n 0, 1) := by decide +kernel
theorem dX10_layRows_202 : decode cX10_layRows 202 = .ok (.getfield 7, 3) := by decide +kernel
theorem dX10_layRows_205 : decode cX10_layRows 205 = .ok (.iconst 4, 1) := by decide +kernel
theorem dX10_layRows_206 : decode cX10_layRows 206 = .ok (.aload_n 0, 1) := by decide +kernel
theorem dX10_layRows_207 : decode cX10_layRows 207 = .ok (.getfield 22, 3) := by decide +kernel
theorem dX10_layRows_210 : decode cX10_layRows 210 = .ok (.iload 9, 2) := by decide +kernel
theorem dX10_layRows_212 : decode cX10_layRows 212 = .ok (.iaload, 1) := by decide +kernel
theorem dX10_layRows_213 : decode cX10_layRows 213 = .ok (.imul, 1) := by decide +kernel
theorem dX10_layRows_214 : decode cX10_layRows 214 = .ok (.iaload, 1) := by decide +kernel
theorem dX10_layRows_215 : decode cX10_layRows 215 = .ok (.iadd, 1) := by decide +kernel
theorem dX10_layRows_216 : decode cX10_layRows 216 = .ok (.istore 7, 2) := by decide +kernel
theorem dX10_layRows_218 : decode cX10_layRows 218 = .ok (.bipush 10, 2) := by decide +kernel
theorem dX10_layRows_220 : decode cX10_layRows 220 = .ok (.iload 8, 2) := by decide +kernel
theorem dX10_layRows_222 : decode cX10_layRows 222 = .ok (.imul, 1) := by decide +kernel
theorem dX10_layRows_223 : decode cX10_layRows 223 = .ok (.aload_n 0, 1) := by decide +kernel
theorem dX10_layRows_224 : decode cX10_layRows 224 = .ok (.getfield 7, 3) := by decide +kernel
theorem dX10_layRows_227 : decode cX10_layRows 227 = .ok (.iconst 4, 1) := by decide +kernel
theorem dX10_layRows_228 : decode cX10_layRows 228 = .ok (.aload_n 0, 1) := by decide +kernel
theorem dX10_layRows_229 : decode cX10_layRows 229 = .ok (.getfield 22, 3) := by decide +kernel
theorem dX10_layRows_232 : decode cX10_layRows 232 = .ok (.iload 9, 2) := by decide +kernel
theorem dX10_layRows_234 : decode cX10_layRows 234 = .ok (.iaload, 1) := by decide +kernel
theorem dX10_layRows_235 : decode cX10_layRows 235 = .ok (.imul, 1) := by decide +kernel
theorem dX10_layRows_236 : decode cX10_layRows 236 = .ok (.iconst 2, 1) := by decide +kernel
theorem dX10_layRows_237 : decode cX10_layRows 237 = .ok (.iadd, 1) := by decide +kernel
theorem dX10_layRows_238 : decode cX10_layRows 238 = .ok (.iaload, 1) := by decide +kernel
theorem dX10_layRows_239 : decode cX10_layRows 239 = .ok (.iadd, 1) := by decide +kernel
theorem dX10_layRows_240 : decode cX10_layRows 240 = .ok (.istore 8, 2) := by decide +kernel
theorem dX10_layRows_242 : decode cX10_layRows 242 = .ok (.iinc 9 1, 3) := by decide +kernel
theorem dX10_layRows_245 : decode cX10_layRows 245 = .ok (.goto (-109), 3) := by decide +kernel
theorem dX10_layRows_248 : decode cX10_layRows 248 = .ok (.iload 6, 2) := by decide +kernel
theorem dX10_layRows_250 : decode cX10_layRows 250 = .ok (.ifCond .eq 46, 3) := by decide +kernel
theorem dX10_layRows_253 : decode cX10_layRows 253 = .ok (.aload_n 0, 1) := by decide +kernel
theorem dX10_layRows_254 : decode cX10_layRows 254 = .ok (.getfield 13, 3) := by decide +kernel
theorem dX10_layRows_257 : decode cX10_layRows 257 = .ok (.aload_n 0, 1) := by decide +kernel
theorem dX10_layRows_258 : decode cX10_layRows 258 = .ok (.getfield 135, 3) := by decide +kernel
theorem dX10_layRows_261 : decode cX10_layRows 261 = .ok (.iload 4, 2) := by decide +kernel
theorem dX10_layRows_263 : decode cX10_layRows 263 = .ok (.iastore, 1) := by decide +kernel
theorem dX10_layRows_264 : decode cX10_layRows 264 = .ok (.aload_n 0, 1) := by decide +kernel
theorem dX10_layRows_265 : decode cX10_layRows 265 = .ok (.getfield 16, 3) := by decide +kernel
theorem dX10_layRows_268 : decode cX10_layRows 268 = .ok (.aload_n 0, 1) := by decide +kernel
theorem dX10_layRows_269 : decode cX10_layRows 269 = .ok (.getfield 135, 3) := by decide +kernel
theorem dX10_layRows_272 : decode cX10_layRows 272 = .ok (.iload 7, 2) := by decide +kernel
theorem dX10_layRows_274 : decode cX10_layRows 274 = .ok (.iastore, 1) := by decide +kernel
theorem dX10_layRows_275 : decode cX10_layRows 275 = .ok (.aload_n 0, 1) := by decide +kernel
theorem dX10_layRows_276 : decode cX10_layRows 276 = .ok (.getfield 19, 3) := by decide +kernel
theorem dX10_layRows_279 : decode cX10_layRows 279 = .ok (.aload_n 0, 1) := by decide +kernel
theorem dX10_layRows_280 : decode cX10_layRows 280 = .ok (.getfield 135, 3) := by decide +kernel
theorem dX10_layRows_283 : decode cX10_layRows 283 = .ok (.iload 8, 2) := by decide +kernel
theorem dX10_layRows_285 : decode cX10_layRows 285 = .ok (.iastore, 1) := by decide +kernel
theorem dX10_layRows_286 : decode cX10_layRows 286 = .ok (.aload_n 0, 1) := by decide +kernel
theorem dX10_layRows_287 : decode cX10_layRows 287 = .ok (.dup, 1) := by decide +kernel
theorem dX10_layRows_288 : decode cX10_layRows 288 = .ok (.getfield 135, 3) := by decide +kernel
theorem dX10_layRows_291 : decode cX10_layRows 291 = .ok (.iconst 1, 1) := by decide +kernel
theorem dX10_layRows_292 : decode cX10_layRows 292 = .ok (.iadd, 1) := by decide +kernel
theorem dX10_layRows_293 : decode cX10_layRows 293 = .ok (.putfield 135, 3) := by decide +kernel
theorem dX10_layRows_296 : decode cX10_layRows 296 = .ok (.iinc 4 1, 3) := by decide +kernel
theorem dX10_layRows_299 : decode cX10_layRows 299 = .ok (.goto (-267), 3) := by decide +kernel
theorem dX10_layRows_302 : decode cX10_layRows 302 = .ok (.return_, 1) := by decide +kernel
theorem dX10_tellWays_0 : decode cX10_tellWays 0 = .ok (.iconst 0, 1) := by decide +kernel
theorem dX10_tellWays_1 : decode cX10_tellWays 1 = .ok (.istore_n 3, 1) := by decide +kernel
theorem dX10_tellWays_2 : decode cX10_tellWays 2 = .ok (.iload_n 3, 1) := by decide +kernel
theorem dX10_tellWays_3 : decode cX10_tellWays 3 = .ok (.sipush 10000, 3) := by decide +kernel
theorem dX10_tellWays_6 : decode cX10_tellWays 6 = .ok (.if_icmp .ge 30, 3) := by decide +kernel
theorem dX10_tellWays_9 : decode cX10_tellWays 9 = .ok (.aload_n 0, 1) := by decide +kernel
theorem dX10_tellWays_10 : decode cX10_tellWays 10 = .ok (.getfield 26, 3) := by decide +kernel
theorem dX10_tellWays_13 : decode cX10_tellWays 13 = .ok (.iload_n 3, 1) := by decide +kernel
theorem dX10_tellWays_14 : decode cX10_tellWays 14 = .ok (.iload_n 2, 1) := by decide +kernel
theorem dX10_tellWays_15 : decode cX10_tellWays 15 = .ok (.iconst (-1), 1) := by decide +kernel
theorem dX10_tellWays_16 : decode cX10_tellWays 16 = .ok (.if_icmp .eq 8, 3) := by decide +kernel
theorem dX10_tellWays_19 : decode cX10_tellWays 19 = .ok (.iload_n 3, 1) := by decide +kernel
theorem dX10_tellWays_20 : decode cX10_tellWays 20 = .ok (.iload_n 2, 1) := by decide +kernel
theorem dX10_tellWays_21 : decode cX10_tellWays 21 = .ok (.if_icmp .ne 7, 3) := by decide +kernel
theorem dX10_tellWays_24 : decode cX10_tellWays 24 = .ok (.lconst 1, 1) := by decide +kernel
theorem dX10_tellWays_25 : decode cX10_tellWays 25 = .ok (.goto 4, 3) := by decide +kernel
theorem dX10_tellWays_28 : decode cX10_tellWays 28 = .ok (.lconst 0, 1) := by decide +kernel
theorem dX10_tellWays_29 : decode cX10_tellWays 29 = .ok (.lastore, 1) := by decide +kernel
theorem dX10_tellWays_30 : decode cX10_tellWays 30 = .ok (.iinc 3 1, 3) := by decide +kernel
theorem dX10_tellWays_33 : decode cX10_tellWays 33 = .ok (.goto (-31), 3) := by decide +kernel
theorem dX10_tellWays_36 : decode cX10_tellWays 36 = .ok (.iconst 1, 1) := by decide +kernel
theorem dX10_tellWays_37 : decode cX10_tellWays 37 = .ok (.istore_n 3, 1) := by decide +kernel
theorem dX10_tellWays_38 : decode cX10_tellWays 38 = .ok (.iload_n 3, 1) := by decide +kernel
theorem dX10_tellWays_39 : decode cX10_tellWays 39 = .ok (.iload_n 1, 1) := by decide +kernel
theorem dX10_tellWays_40 : decode cX10_tellWays 40 = .ok (.if_icmp .gt 99, 3) := by decide +kernel
theorem dX10_tellWays_43 : decode cX10_tellWays 43 = .ok (.iconst 0, 1) := by decide +kernel
theorem dX10_tellWays_44 : decode cX10_tellWays 44 = .ok (.istore 4, 2) := by decide +kernel
theorem dX10_tellWays_46 : decode cX10_tellWays 46 = .ok (.iload 4, 2) := by decide +kernel
theorem dX10_tellWays_48 : decode cX10_tellWays 48 = .ok (.sipush 10000, 3) := by decide +kernel
theorem dX10_tellWays_51 : decode cX10_tellWays 51 = .ok (.if_icmp .ge 23, 3) := by decide +kernel
theorem dX10_tellWays_54 : decode cX10_tellWays 54 = .ok (.aload_n 0, 1) := by decide +kernel
theorem dX10_tellWays_55 : decode cX10_tellWays 55 = .ok (.getfield 26, 3) := by decide +kernel
theorem dX10_tellWays_58 : decode cX10_tellWays 58 = .ok (.sipush 10000, 3) := by decide +kernel
theorem dX10_tellWays_61 : decode cX10_tellWays 61 = .ok (.iload_n 3, 1) := by decide +kernel
theorem dX10_tellWays_62 : decode cX10_tellWays 62 = .ok (.imul, 1) := by decide +kernel
theorem dX10_tellWays_63 : decode cX10_tellWays 63 = .ok (.iload 4, 2) := by decide +kernel
theorem dX10_tellWays_65 : decode cX10_tellWays 65 = .ok (.iadd, 1) := by decide +kernel
theorem dX10_tellWays_66 : decode cX10_tellWays 66 = .ok (.lconst 0, 1) := by decide +kernel
theorem dX10_tellWays_67 : decode cX10_tellWays 67 = .ok (.lastore, 1) := by decide +kernel
theorem dX10_tellWays_68 : decode cX10_tellWays 68 = .ok (.iinc 4 1, 3) := by decide +kernel
theorem dX10_tellWays_71 : decode cX10_tellWays 71 = .ok (.goto (-25), 3) := by decide +kernel
theorem dX10_tellWays_74 : decode cX10_tellWays 74 = .ok (.iconst 0, 1) := by decide +kernel
theorem dX10_tellWays_75 : decode cX10_tellWays 75 = .ok (.istore 4, 2) := by decide +kernel
theorem dX10_tellWays_77 : decode cX10_tellWays 77 = .ok (.iload 4, 2) := by decide +kernel
theorem dX10_tellWays_79 : decode cX10_tellWays 79 = .ok (.aload_n 0, 1) := by decide +kernel
theorem dX10_tellWays_80 : decode cX10_tellWays 80 = .ok (.getfield 135, 3) := by decide +kernel
theorem dX10_tellWays_83 : decode cX10_tellWays 83 = .ok (.if_icmp .ge 50, 3) := by decide +kernel
theorem dX10_tellWays_86 : decode cX10_tellWays 86 = .ok (.aload_n 0, 1) := by decide +kernel
theorem dX10_tellWays_87 : decode cX10_tellWays 87 = .ok (.getfield 26, 3) := by decide +kernel
theorem dX10_tellWays_90 : decode cX10_tellWays 90 = .ok (.sipush 10000, 3) := by decide +kernel
theorem dX10_tellWays_93 : decode cX10_tellWays 93 = .ok (.iload_n 3, 1) := by decide +kernel
theorem dX10_tellWays_94 : decode cX10_tellWays 94 = .ok (.imul, 1) := by decide +kernel
theorem dX10_tellWays_95 : decode cX10_tellWays 95 = .ok (.aload_n 0, 1) := by decide +kernel
theorem dX10_tellWays_96 : decode cX10_tellWays 96 = .ok (.getfield 16, 3) := by decide +kernel
theorem dX10_tellWays_99 : decode cX10_tellWays 99 = .ok (.iload 4, 2) := by decide +kernel
theorem dX10_tellWays_101 : decode cX10_tellWays 101 = .ok (.iaload, 1) := by decide +kernel
theorem dX10_tellWays_102 : decode cX10_tellWays 102 = .ok (.iadd, 1) := by decide +kernel
theorem dX10_tellWays_103 : decode cX10_tellWays 103 = .ok (.dup2, 1) := by decide +kernel
theorem dX10_tellWays_104 : decode cX10_tellWays 104 = .ok (.laload, 1) := by decide +kernel
theorem dX10_tellWays_105 : decode cX10_tellWays 105 = .ok (.aload_n 0, 1) := by decide +kernel
theorem dX10_tellWays_106 : decode cX10_tellWays 106 = .ok (.getfield 26, 3) := by decide +kernel
theorem dX10_tellWays_109 : decode cX10_tellWays 109 = .ok (.sipush 10000, 3) := by decide +kernel
theorem dX10_tellWays_112 : decode cX10_tellWays 112 = .ok (.iload_n 3, 1) := by decide +kernel
theorem dX10_tellWays_113 : decode cX10_tellWays 113 = .ok (.iconst 1, 1) := by decide +kernel
theorem dX10_tellWays_114 : decode cX10_tellWays 114 = .ok (.isub, 1) := by decide +kernel
theorem dX10_tellWays_115 : decode cX10_tellWays 115 = .ok (.imul, 1) := by decide +kernel
theorem dX10_tellWays_116 : decode cX10_tellWays 116 = .ok (.aload_n 0, 1) := by decide +kernel
theorem dX10_tellWays_117 : decode cX10_tellWays 117 = .ok (.getfield 19, 3) := by decide +kernel
theorem dX10_tellWays_120 : decode cX10_tellWays 120 = .ok (.iload 4, 2) := by decide +kernel
theorem dX10_tellWays_122 : decode cX10_tellWays 122 = .ok (.iaload, 1) := by decide +kernel
theorem dX10_tellWays_123 : decode cX10_tellWays 123 = .ok (.iadd, 1) := by decide +kernel
theorem dX10_tellWays_124 : decode cX10_tellWays 124 = .ok (.laload, 1) := by decide +kernel
theorem dX10_tellWays_125 : decode cX10_tellWays 125 = .ok (.ladd, 1) := by decide +kernel
theorem dX10_tellWays_126 : decode cX10_tellWays 126 = .ok (.lastore, 1) := by decide +kernel
theorem dX10_tellWays_127 : decode cX10_tellWays 127 = .ok (.iinc 4 1, 3) := by decide +kernel
theorem dX10_tellWays_130 : decode cX10_tellWays 130 = .ok (.goto (-53), 3) := by decide +kernel
theorem dX10_tellWays_133 : decode cX10_tellWays 133 = .ok (.iinc 3 1, 3) := by decide +kernel
theorem dX10_tellWays_136 : decode cX10_tellWays 136 = .ok (.goto (-98), 3) := by decide +kernel
theorem dX10_tellWays_139 : decode cX10_tellWays 139 = .ok (.return_, 1) := by decide +kernel
theorem dX10_isSize_0 : decode cX10_isSize 0 = .ok (.iload_n 0, 1) := by decide +kernel
theorem dX10_isSize_1 : decode cX10_isSize 1 = .ok (.iconst 1, 1) := by decide +kernel
theorem dX10_isSize_2 : decode cX10_isSize 2 = .ok (.iconst 4, 1) := by decide +kernel
theorem dX10_isSize_3 : decode cX10_isSize 3 = .ok (.invokestatic 128, 3) := by decide +kernel
theorem dX10_isSize_6 : decode cX10_isSize 6 = .ok (.ifCond .eq 16, 3) := by decide +kernel
theorem dX10_isSize_9 : decode cX10_isSize 9 = .ok (.iload_n 1, 1) := by decide +kernel
theorem dX10_isSize_10 : decode cX10_isSize 10 = .ok (.iconst 1, 1) := by decide +kernel
theorem dX10_isSize_11 : decode cX10_isSize 11 = .ok (.iconst 4, 1) := by decide +kernel
theorem dX10_isSize_12 : decode cX10_isSize 12 = .ok (.invokestatic 128, 3) := by decide +kernel
theorem dX10_isSize_15 : decode cX10_isSize 15 = .ok (.ifCond .eq 7, 3) := by decide +kernel
theorem dX10_isSize_18 : decode cX10_isSize 18 = .ok (.iconst 1, 1) := by decide +kernel
theorem dX10_isSize_19 : decode cX10_isSize 19 = .ok (.goto 4, 3) := by decide +kernel
theorem dX10_isSize_22 : decode cX10_isSize 22 = .ok (.iconst 0, 1) := by decide +kernel
theorem dX10_isSize_23 : decode cX10_isSize 23 = .ok (.ireturn, 1) := by decide +kernel
theorem dX10_fill_0 : decode cX10_fill 0 = .ok (.aload_n 0, 1) := by decide +kernel
theorem dX10_fill_1 : decode cX10_fill 1 = .ok (.iload_n 1, 1) := by decide +kernel
theorem dX10_fill_2 : decode cX10_fill 2 = .ok (.iload_n 3, 1) := by decide +kernel
theorem dX10_fill_3 : decode cX10_fill 3 = .ok (.invokevirtual 138, 3) := by decide +kernel
theorem dX10_fill_6 : decode cX10_fill 6 = .ok (.lconst 0, 1) := by decide +kernel
theorem dX10_fill_7 : decode cX10_fill 7 = .ok (.lstore 4, 2) := by decide +kernel
theorem dX10_fill_9 : decode cX10_fill 9 = .ok (.iload_n 3, 1) := by decide +kernel
theorem dX10_fill_10 : decode cX10_fill 10 = .ok (.ifCond .ne 47, 3) := by decide +kernel
theorem dX10_fill_13 : decode cX10_fill 13 = .ok (.aload_n 0, 1) := by decide +kernel
theorem dX10_fill_14 : decode cX10_fill 14 = .ok (.iload_n 2, 1) := by decide +kernel
theorem dX10_fill_15 : decode cX10_fill 15 = .ok (.iconst (-1), 1) := by decide +kernel
theorem dX10_fill_16 : decode cX10_fill 16 = .ok (.invokevirtual 142, 3) := by decide +kernel
theorem dX10_fill_19 : decode cX10_fill 19 = .ok (.iconst 0, 1) := by decide +kernel
theorem dX10_fill_20 : decode cX10_fill 20 = .ok (.istore 6, 2) := by decide +kernel
theorem dX10_fill_22 : decode cX10_fill 22 = .ok (.iload 6, 2) := by decide +kernel
theorem dX10_fill_24 : decode cX10_fill 24 = .ok (.sipush 10000, 3) := by decide +kernel
theorem dX10_fill_27 : decode cX10_fill 27 = .ok (.if_icmp .ge 27, 3) := by decide +kernel
theorem dX10_fill_30 : decode cX10_fill 30 = .ok (.lload 4, 2) := by decide +kernel
theorem dX10_fill_32 : decode cX10_fill 32 = .ok (.aload_n 0, 1) := by decide +kernel
theorem dX10_fill_33 : decode cX10_fill 33 = .ok (.getfield 26, 3) := by decide +kernel
theorem dX10_fill_36 : decode cX10_fill 36 = .ok (.sipush 10000, 3) := by decide +kernel
theorem dX10_fill_39 : decode cX10_fill 39 = .ok (.iload_n 2, 1) := by decide +kernel
theorem dX10_fill_40 : decode cX10_fill 40 = .ok (.imul, 1) := by decide +kernel
theorem dX10_fill_41 : decode cX10_fill 41 = .ok (.iload 6, 2) := by decide +kernel
theorem dX10_fill_43 : decode cX10_fill 43 = .ok (.iadd, 1) := by decide +kernel
theorem dX10_fill_44 : decode cX10_fill 44 = .ok (.laload, 1) := by decide +kernel
theorem dX10_fill_45 : decode cX10_fill 45 = .ok (.ladd, 1) := by decide +kernel
theorem dX10_fill_46 : decode cX10_fill 46 = .ok (.lstore 4, 2) := by decide +kernel
theorem dX10_fill_48 : decode cX10_fill 48 = .ok (.iinc 6 1, 3) := by decide +kernel
theorem dX10_fill_51 : decode cX10_fill 51 = .ok (.goto (-29), 3) := by decide +kernel
theorem dX10_fill_54 : decode cX10_fill 54 = .ok (.lload 4, 2) := by decide +kernel
theorem dX10_fill_56 : decode cX10_fill 56 = .ok (.lreturn, 1) := by decide +kernel
theorem dX10_fill_57 : decode cX10_fill 57 = .ok (.iconst 0, 1) := by decide +kernel
theorem dX10_fill_58 : decode cX10_fill 58 = .ok (.istore 6, 2) := by decide +kernel
theorem dX10_fill_60 : decode cX10_fill 60 = .ok (.iload 6, 2) := by decide +kernel
theorem dX10_fill_62 : decode cX10_fill 62 = .ok (.sipush 10000, 3) := by decide +kernel
theorem dX10_fill_65 : decode cX10_fill 65 = .ok (.if_icmp .ge 17, 3) := by decide +kernel
theorem dX10_fill_68 : decode cX10_fill 68 = .ok (.aload_n 0, 1) := by decide +kernel
theorem dX10_fill_69 : decode cX10_fill 69 = .ok (.getfield 30, 3) := by decide +kernel
theorem dX10_fill_72 : decode cX10_fill 72 = .ok (.iload 6, 2) := by decide +kernel
theorem dX10_fill_74 : decode cX10_fill 74 = .ok (.iconst 0, 1) := by decide +kernel
theorem dX10_fill_75 : decode cX10_fill 75 = .ok (.bastore, 1) := by decide +kernel
theorem dX10_fill_76 : decode cX10_fill 76 = .ok (.iinc 6 1, 3) := by decide +kernel
theorem dX10_fill_79 : decode cX10_fill 79 = .ok (.goto (-19), 3) := by decide +kernel
theorem dX10_fill_82 : decode cX10_fill 82 = .ok (.iconst 0, 1) := by decide +kernel
theorem dX10_fill_83 : decode cX10_fill 83 = .ok (.istore 6, 2) := by decide +kernel
theorem dX10_fill_85 : decode cX10_fill 85 = .ok (.iload 6, 2) := by decide +kernel
theorem dX10_fill_87 : decode cX10_fill 87 = .ok (.aload_n 0, 1) := by decide +kernel
theorem dX10_fill_88 : decode cX10_fill 88 = .ok (.getfield 135, 3) := by decide +kernel
theorem dX10_fill_91 : decode cX10_fill 91 = .ok (.if_icmp .ge 48, 3) := by decide +kernel
theorem dX10_fill_94 : decode cX10_fill 94 = .ok (.aload_n 0, 1) := by decide +kernel
theorem dX10_fill_95 : decode cX10_fill 95 = .ok (.getfield 16, 3) := by decide +kernel
theorem dX10_fill_98 : decode cX10_fill 98 = .ok (.iload 6, 2) := by decide +kernel
theorem dX10_fill_100 : decode cX10_fill 100 = .ok (.iaload, 1) := by decide +kernel
theorem dX10_fill_101 : decode cX10_fill 101 = .ok (.istore 7, 2) := by decide +kernel
theorem dX10_fill_103 : decode cX10_fill 103 = .ok (.aload_n 0, 1) := by decide +kernel
theorem dX10_fill_104 : decode cX10_fill 104 = .ok (.getfield 30, 3) := by decide +kernel
theorem dX10_fill_107 : decode cX10_fill 107 = .ok (.iload 7, 2) := by decide +kernel
theorem dX10_fill_109 : decode cX10_fill 109 = .ok (.baload, 1) := by decide +kernel
theorem dX10_fill_110 : decode cX10_fill 110 = .ok (.ifCond .ne 23, 3) := by decide +kernel
theorem dX10_fill_113 : decode cX10_fill 113 = .ok (.aload_n 0, 1) := by decide +kernel
theorem dX10_fill_114 : decode cX10_fill 114 = .ok (.getfield 30, 3) := by decide +kernel
theorem dX10_fill_117 : decode cX10_fill 117 = .ok (.iload 7, 2) := by decide +kernel
theorem dX10_fill_119 : decode cX10_fill 119 = .ok (.iconst 1, 1) := by decide +kernel
theorem dX10_fill_120 : decode cX10_fill 120 = .ok (.bastore, 1) := by decide +kernel
theorem dX10_fill_121 : decode cX10_fill 121 = .ok (.lload 4, 2) := by decide +kernel
theorem dX10_fill_123 : decode cX10_fill 123 = .ok (.aload_n 0, 1) := by decide +kernel
theorem dX10_fill_124 : decode cX10_fill 124 = .ok (.iload 7, 2) := by decide +kernel
theorem dX10_fill_126 : decode cX10_fill 126 = .ok (.iload_n 2, 1) := by decide +kernel
theorem dX10_fill_127 : decode cX10_fill 127 = .ok (.invokevirtual 146, 3) := by decide +kernel
theorem dX10_fill_130 : decode cX10_fill 130 = .ok (.ladd, 1) := by decide +kernel
theorem dX10_fill_131 : decode cX10_fill 131 = .ok (.lstore 4, 2) := by decide +kernel
theorem dX10_fill_133 : decode cX10_fill 133 = .ok (.iinc 6 1, 3) := by decide +kernel
theorem dX10_fill_136 : decode cX10_fill 136 = .ok (.goto (-51), 3) := by decide +kernel
theorem dX10_fill_139 : decode cX10_fill 139 = .ok (.lload 4, 2) := by decide +kernel
theorem dX10_fill_141 : decode cX10_fill 141 = .ok (.lreturn, 1) := by decide +kernel
theorem dX10_around_0 : decode cX10_around 0 = .ok (.iconst 0, 1) := by decide +kernel
theorem dX10_around_1 : decode cX10_around 1 = .ok (.istore_n 3, 1) := by decide +kernel
theorem dX10_around_2 : decode cX10_around 2 = .ok (.iload_n 3, 1) := by decide +kernel
theorem dX10_around_3 : decode cX10_around 3 = .ok (.sipush 10000, 3) := by decide +kernel
theorem dX10_around_6 : decode cX10_around 6 = .ok (.if_icmp .ge 16, 3) := by decide +kernel
theorem dX10_around_9 : decode cX10_around 9 = .ok (.aload_n 0, 1) := by decide +kernel
theorem dX10_around_10 : decode cX10_around 10 = .ok (.getfield 34, 3) := by decide +kernel
theorem dX10_around_13 : decode cX10_around 13 = .ok (.iload_n 3, 1) := by decide +kernel
theorem dX10_around_14 : decode cX10_around 14 = .ok (.lconst 0, 1) := by decide +kernel
theorem dX10_around_15 : decode cX10_around 15 = .ok (.lastore, 1) := by decide +kernel
theorem dX10_around_16 : decode cX10_around 16 = .ok (.iinc 3 1, 3) := by decide +kernel
theorem dX10_around_19 : decode cX10_around 19 = .ok (.goto (-17), 3) := by decide +kernel
theorem dX10_around_22 : decode cX10_around 22 = .ok (.aload_n 0, 1) := by decide +kernel
theorem dX10_around_23 : decode cX10_around 23 = .ok (.getfield 34, 3) := by decide +kernel
theorem dX10_around_26 : decode cX10_around 26 = .ok (.iload_n 1, 1) := by decide +kernel
theorem dX10_around_27 : decode cX10_around 27 = .ok (.lconst 1, 1) := by decide +kernel
theorem dX10_around_28 : decode cX10_around 28 = .ok (.lastore, 1) := by decide +kernel
theorem dX10_around_29 : decode cX10_around 29 = .ok (.iconst 0, 1) := by decide +kernel
theorem dX10_around_30 : decode cX10_around 30 = .ok (.istore_n 3, 1) := by decide +kernel
theorem dX10_around_31 : decode cX10_around 31 = .ok (.iload_n 3, 1) := by decide +kernel
theorem dX10_around_32 : decode cX10_around 32 = .ok (.iload_n 2, 1) := by decide +kernel
theorem dX10_around_33 : decode cX10_around 33 = .ok (.if_icmp .ge 158, 3) := by decide +kernel
theorem dX10_around_36 : decode cX10_around 36 = .ok (.iconst 0, 1) := by decide +kernel
theorem dX10_around_37 : decode cX10_around 37 = .ok (.istore 4, 2) := by decide +kernel
theorem dX10_around_39 : decode cX10_around 39 = .ok (.iload 4, 2) := by decide +kernel
theorem dX10_around_41 : decode cX10_around 41 = .ok (.aload_n 0, 1) := by decide +kernel
theorem dX10_around_42 : decode cX10_around 42 = .ok (.getfield 135, 3) := by decide +kernel
theorem dX10_around_45 : decode cX10_around 45 = .ok (.if_icmp .ge 22, 3) := by decide +kernel
theorem dX10_around_48 : decode cX10_around 48 = .ok (.aload_n 0, 1) := by decide +kernel
theorem dX10_around_49 : decode cX10_around 49 = .ok (.getfield 37, 3) := by decide +kernel
theorem dX10_around_52 : decode cX10_around 52 = .ok (.aload_n 0, 1) := by decide +kernel
theorem dX10_around_53 : decode cX10_around 53 = .ok (.getfield 19, 3) := by decide +kernel
theorem dX10_around_56 : decode cX10_around 56 = .ok (.iload 4, 2) := by decide +kernel
theorem dX10_around_58 : decode cX10_around 58 = .ok (.iaload, 1) := by decide +kernel
theorem dX10_around_59 : decode cX10_around 59 = .ok (.lconst 0, 1) := by decide +kernel
theorem dX10_around_60 : decode cX10_around 60 = .ok (.lastore, 1) := by decide +kernel
theorem dX10_around_61 : decode cX10_around 61 = .ok (.iinc 4 1, 3) := by decide +kernel
theorem dX10_around_64 : decode cX10_around 64 = .ok (.goto (-25), 3) := by decide +kernel
theorem dX10_around_67 : decode cX10_around 67 = .ok (.iconst 0, 1) := by decide +kernel
theorem dX10_around_68 : decode cX10_around 68 = .ok (.istore 4, 2) := by decide +kernel
theorem dX10_around_70 : decode cX10_around 70 = .ok (.iload 4, 2) := by decide +kernel
theorem dX10_around_72 : decode cX10_around 72 = .ok (.aload_n 0, 1) := by decide +kernel
theorem dX10_around_73 : decode cX10_around 73 = .ok (.getfield 135, 3) := by decide +kernel
theorem dX10_around_76 : decode cX10_around 76 = .ok (.if_icmp .ge 36, 3) := by decide +kernel
theorem dX10_around_79 : decode cX10_around 79 = .ok (.aload_n 0, 1) := by decide +kernel
theorem dX10_around_80 : decode cX10_around 80 = .ok (.getfield 37, 3) := by decide +kernel
theorem dX10_around_83 : decode cX10_around 83 = .ok (.aload_n 0, 1) := by decide +kernel
theorem dX10_around_84 : decode cX10_around 84 = .ok (.getfield 19, 3) := by decide +kernel
theorem dX10_around_87 : decode cX10_around 87 = .ok (.iload 4, 2) := by decide +kernel
theorem dX10_around_89 : decode cX10_around 89 = .ok (.iaload, 1) := by decide +kernel
theorem dX10_around_90 : decode cX10_around 90 = .ok (.dup2, 1) := by decide +kernel
theorem dX10_around_91 : decode cX10_around 91 = .ok (.laload, 1) := by decide +kernel
theorem dX10_around_92 : decode cX10_around 92 = .ok (.aload_n 0, 1) := by decide +kernel
theorem dX10_around_93 : decode cX10_around 93 = .ok (.getfield 34, 3) := by decide +kernel
theorem dX10_around_96 : decode cX10_around 96 = .ok (.aload_n 0, 1) := by decide +kernel
theorem dX10_around_97 : decode cX10_around 97 = .ok (.getfield 16, 3) := by decide +kernel
theorem dX10_around_100 : decode cX10_around 100 = .ok (.iload 4, 2) := by decide +kernel
theorem dX10_around_102 : decode cX10_around 102 = .ok (.iaload, 1) := by decide +kernel
theorem dX10_around_103 : decode cX10_around 103 = .ok (.laload, 1) := by decide +kernel
theorem dX10_around_104 : decode cX10_around 104 = .ok (.ladd, 1) := by decide +kernel
theorem dX10_around_105 : decode cX10_around 105 = .ok (.lastore, 1) := by decide +kernel
theorem dX10_around_106 : decode cX10_around 106 = .ok (.iinc 4 1, 3) := by decide +kernel
theorem dX10_around_109 : decode cX10_around 109 = .ok (.goto (-39), 3) := by decide +kernel
theorem dX10_around_112 : decode cX10_around 112 = .ok (.iconst 0, 1) := by decide +kernel
theorem dX10_around_113 : decode cX10_around 113 = .ok (.istore 4, 2) := by decide +kernel
theorem dX10_around_115 : decode cX10_around 115 = .ok (.iload 4, 2) := by decide +kernel
theorem dX10_around_117 : decode cX10_around 117 = .ok (.aload_n 0, 1) := by decide +kernel
theorem dX10_around_118 : decode cX10_around 118 = .ok (.getfield 135, 3) := by decide +kernel
theorem dX10_around_121 : decode cX10_around 121 = .ok (.if_icmp .ge 22, 3) := by decide +kernel
theorem dX10_around_124 : decode cX10_around 124 = .ok (.aload_n 0, 1) := by decide +kernel
theorem dX10_around_125 : decode cX10_around 125 = .ok (.getfield 34, 3) := by decide +kernel
theorem dX10_around_128 : decode cX10_around 128 = .ok (.aload_n 0, 1) := by decide +kernel
theorem dX10_around_129 : decode cX10_around 129 = .ok (.getfield 16, 3) := by decide +kernel
theorem dX10_around_132 : decode cX10_around 132 = .ok (.iload 4, 2) := by decide +kernel
theorem dX10_around_134 : decode cX10_around 134 = .ok (.iaload, 1) := by decide +kernel
theorem dX10_around_135 : decode cX10_around 135 = .ok (.lconst 0, 1) := by decide +kernel
theorem dX10_around_136 : decode cX10_around 136 = .ok (.lastore, 1) := by decide +kernel
theorem dX10_around_137 : decode cX10_around 137 = .ok (.iinc 4 1, 3) := by decide +kernel
theorem dX10_around_140 : decode cX10_around 140 = .ok (.goto (-25), 3) := by decide +kernel
theorem dX10_around_143 : decode cX10_around 143 = .ok (.iconst 0, 1) := by decide +kernel
theorem dX10_around_144 : decode cX10_around 144 = .ok (.istore 4, 2) := by decide +kernel
theorem dX10_around_146 : decode cX10_around 146 = .ok (.iload 4, 2) := by decide +kernel
theorem dX10_around_148 : decode cX10_around 148 = .ok (.aload_n 0, 1) := by decide +kernel
theorem dX10_around_149 : decode cX10_around 149 = .ok (.getfield 135, 3) := by decide +kernel
theorem dX10_around_152 : decode cX10_around 152 = .ok (.if_icmp .ge 33, 3) := by decide +kernel
theorem dX10_around_155 : decode cX10_around 155 = .ok (.aload_n 0, 1) := by decide +kernel
theorem dX10_around_156 : decode cX10_around 156 = .ok (.getfield 34, 3) := by decide +kernel
theorem dX10_around_159 : decode cX10_around 159 = .ok (.aload_n 0, 1) := by decide +kernel
theorem dX10_around_160 : decode cX10_around 160 = .ok (.getfield 19, 3) := by decide +kernel
theorem dX10_around_163 : decode cX10_around 163 = .ok (.iload 4, 2) := by decide +kernel
theorem dX10_around_165 : decode cX10_around 165 = .ok (.iaload, 1) := by decide +kernel
theorem dX10_around_166 : decode cX10_around 166 = .ok (.aload_n 0, 1) := by decide +kernel
theorem dX10_around_167 : decode cX10_around 167 = .ok (.getfield 37, 3) := by decide +kernel
theorem dX10_around_170 : decode cX10_around 170 = .ok (.aload_n 0, 1) := by decide +kernel
theorem dX10_around_171 : decode cX10_around 171 = .ok (.getfield 19, 3) := by decide +kernel
theorem dX10_around_174 : decode cX10_around 174 = .ok (.iload 4, 2) := by decide +kernel
theorem dX10_around_176 : decode cX10_around 176 = .ok (.iaload, 1) := by decide +kernel
theorem dX10_around_177 : decode cX10_around 177 = .ok (.laload, 1) := by decide +kernel
theorem dX10_around_178 : decode cX10_around 178 = .ok (.lastore, 1) := by decide +kernel
theorem dX10_around_179 : decode cX10_around 179 = .ok (.iinc 4 1, 3) := by decide +kernel
theorem dX10_around_182 : decode cX10_around 182 = .ok (.goto (-36), 3) := by decide +kernel
theorem dX10_around_185 : decode cX10_around 185 = .ok (.iinc 3 1, 3) := by decide +kernel
theorem dX10_around_188 : decode cX10_around 188 = .ok (.goto (-157), 3) := by decide +kernel
theorem dX10_around_191 : decode cX10_around 191 = .ok (.aload_n 0, 1) := by decide +kernel
theorem dX10_around_192 : decode cX10_around 192 = .ok (.getfield 34, 3) := by decide +kernel
theorem dX10_around_195 : decode cX10_around 195 = .ok (.iload_n 1, 1) := by decide +kernel
theorem dX10_around_196 : decode cX10_around 196 = .ok (.laload, 1) := by decide +kernel
theorem dX10_around_197 : decode cX10_around 197 = .ok (.lreturn, 1) := by decide +kernel
theorem dX10_fillings_0 : decode cX10_fillings 0 = .ok (.iload_n 1, 1) := by decide +kernel
theorem dX10_fillings_1 : decode cX10_fillings 1 = .ok (.iload_n 2, 1) := by decide +kernel
theorem dX10_fillings_2 : decode cX10_fillings 2 = .ok (.invokestatic 150, 3) := by decide +kernel
theorem dX10_fillings_5 : decode cX10_fillings 5 = .ok (.ifCond .eq 13, 3) := by decide +kernel
theorem dX10_fillings_8 : decode cX10_fillings 8 = .ok (.aload_n 0, 1) := by decide +kernel
theorem dX10_fillings_9 : decode cX10_fillings 9 = .ok (.iload_n 1, 1) := by decide +kernel
theorem dX10_fillings_10 : decode cX10_fillings 10 = .ok (.iload_n 2, 1) := by decide +kernel
theorem dX10_fillings_11 : decode cX10_fillings 11 = .ok (.iload_n 3, 1) := by decide +kernel
theorem dX10_fillings_12 : decode cX10_fillings 12 = .ok (.invokevirtual 154, 3) := by decide +kernel
theorem dX10_fillings_15 : decode cX10_fillings 15 = .ok (.goto 6, 3) := by decide +kernel
theorem dX10_fillings_18 : decode cX10_fillings 18 = .ok (.ldc2_w 158, 3) := by decide +kernel
theorem dX10_fillings_21 : decode cX10_fillings 21 = .ok (.lreturn, 1) := by decide +kernel
theorem dX10_digit_0 : decode cX10_digit 0 = .ok (.iload_n 1, 1) := by decide +kernel
theorem dX10_digit_1 : decode cX10_digit 1 = .ok (.istore 4, 2) := by decide +kernel
theorem dX10_digit_3 : decode cX10_digit 3 = .ok (.iload_n 2, 1) := by decide +kernel
theorem dX10_digit_4 : decode cX10_digit 4 = .ok (.iconst 1, 1) := by decide +kernel
theorem dX10_digit_5 : decode cX10_digit 5 = .ok (.isub, 1) := by decide +kernel
theorem dX10_digit_6 : decode cX10_digit 6 = .ok (.istore 5, 2) := by decide +kernel
theorem dX10_digit_8 : decode cX10_digit 8 = .ok (.iload 5, 2) := by decide +kernel
theorem dX10_digit_10 : decode cX10_digit 10 = .ok (.iload_n 3, 1) := by decide +kernel
theorem dX10_digit_11 : decode cX10_digit 11 = .ok (.if_icmp .le 18, 3) := by decide +kernel
theorem dX10_digit_14 : decode cX10_digit 14 = .ok (.iload 4, 2) := by decide +kernel
theorem dX10_digit_16 : decode cX10_digit 16 = .ok (.aload_n 0, 1) := by decide +kernel
theorem dX10_digit_17 : decode cX10_digit 17 = .ok (.getfield 132, 3) := by decide +kernel
theorem dX10_digit_20 : decode cX10_digit 20 = .ok (.idiv, 1) := by decide +kernel
theorem dX10_digit_21 : decode cX10_digit 21 = .ok (.istore 4, 2) := by decide +kernel
theorem dX10_digit_23 : decode cX10_digit 23 = .ok (.iinc 5 (-1), 3) := by decide +kernel
theorem dX10_digit_26 : decode cX10_digit 26 = .ok (.goto (-18), 3) := by decide +kernel
theorem dX10_digit_29 : decode cX10_digit 29 = .ok (.iload 4, 2) := by decide +kernel
theorem dX10_digit_31 : decode cX10_digit 31 = .ok (.aload_n 0, 1) := by decide +kernel
theorem dX10_digit_32 : decode cX10_digit 32 = .ok (.getfield 132, 3) := by decide +kernel
theorem dX10_digit_35 : decode cX10_digit 35 = .ok (.irem, 1) := by decide +kernel
theorem dX10_digit_36 : decode cX10_digit 36 = .ok (.ireturn, 1) := by decide +kernel
theorem dX10_laid_0 : decode cX10_laid 0 = .ok (.iload_n 1, 1) := by decide +kernel
theorem dX10_laid_1 : decode cX10_laid 1 = .ok (.iload_n 2, 1) := by decide +kernel
theorem dX10_laid_2 : decode cX10_laid 2 = .ok (.invokestatic 150, 3) := by decide +kernel
theorem dX10_laid_5 : decode cX10_laid 5 = .ok (.ifCond .eq 27, 3) := by decide +kernel
theorem dX10_laid_8 : decode cX10_laid 8 = .ok (.iload 4, 2) := by decide +kernel
theorem dX10_laid_10 : decode cX10_laid 10 = .ok (.iconst 0, 1) := by decide +kernel
theorem dX10_laid_11 : decode cX10_laid 11 = .ok (.iload_n 1, 1) := by decide +kernel
theorem dX10_laid_12 : decode cX10_laid 12 = .ok (.iconst 1, 1) := by decide +kernel
theorem dX10_laid_13 : decode cX10_laid 13 = .ok (.isub, 1) := by decide +kernel
theorem dX10_laid_14 : decode cX10_laid 14 = .ok (.invokestatic 128, 3) := by decide +kernel
theorem dX10_laid_17 : decode cX10_laid 17 = .ok (.ifCond .eq 15, 3) := by decide +kernel
theorem dX10_laid_20 : decode cX10_laid 20 = .ok (.iload 5, 2) := by decide +kernel
theorem dX10_laid_22 : decode cX10_laid 22 = .ok (.iconst 0, 1) := by decide +kernel
theorem dX10_laid_23 : decode cX10_laid 23 = .ok (.iload_n 2, 1) := by decide +kernel
theorem dX10_laid_24 : decode cX10_laid 24 = .ok (.iconst 1, 1) := by decide +kernel
theorem dX10_laid_25 : decode cX10_laid 25 = .ok (.isub, 1) := by decide +kernel
theorem dX10_laid_26 : decode cX10_laid 26 = .ok (.invokestatic 128, 3) := by decide +kernel
theorem dX10_laid_29 : decode cX10_laid 29 = .ok (.ifCond .ne 6, 3) := by decide +kernel
theorem dX10_laid_32 : decode cX10_laid 32 = .ok (.bipush (-2), 2) := by decide +kernel
theorem dX10_laid_34 : decode cX10_laid 34 = .ok (.ireturn, 1) := by decide +kernel
theorem dX10_laid_35 : decode cX10_laid 35 = .ok (.aload_n 0, 1) := by decide +kernel
theorem dX10_laid_36 : decode cX10_laid 36 = .ok (.iload_n 1, 1) := by decide +kernel
theorem dX10_laid_37 : decode cX10_laid 37 = .ok (.iload_n 3, 1) := by decide +kernel
theorem dX10_laid_38 : decode cX10_laid 38 = .ok (.invokevirtual 138, 3) := by decide +kernel
theorem dX10_laid_41 : decode cX10_laid 41 = .ok (.iconst (-1), 1) := by decide +kernel
theorem dX10_laid_42 : decode cX10_laid 42 = .ok (.istore 6, 2) := by decide +kernel
theorem dX10_laid_44 : decode cX10_laid 44 = .ok (.iconst (-1), 1) := by decide +kernel
theorem dX10_laid_45 : decode cX10_laid 45 = .ok (.istore 7, 2) := by decide +kernel
theorem dX10_laid_47 : decode cX10_laid 47 = .ok (.iconst 0, 1) := by decide +kernel
theorem dX10_laid_48 : decode cX10_laid 48 = .ok (.istore 8, 2) := by decide +kernel
theorem dX10_laid_50 : decode cX10_laid 50 = .ok (.iload 8, 2) := by decide +kernel
theorem dX10_laid_52 : decode cX10_laid 52 = .ok (.aload_n 0, 1) := by decide +kernel
theorem dX10_laid_53 : decode cX10_laid 53 = .ok (.getfield 135, 3) := by decide +kernel
theorem dX10_laid_56 : decode cX10_laid 56 = .ok (.if_icmp .ge 95, 3) := by decide +kernel
theorem dX10_laid_59 : decode cX10_laid 59 = .ok (.iload 7, 2) := by decide +kernel
theorem dX10_laid_61 : decode cX10_laid 61 = .ok (.iconst (-1), 1) := by decide +kernel
theorem dX10_laid_62 : decode cX10_laid 62 = .ok (.if_icmp .ne 89, 3) := by decide +kernel
theorem dX10_laid_65 : decode cX10_laid 65 = .ok (.iload 8, 2) := by decide +kernel
theorem dX10_laid_67 : decode cX10_laid 67 = .ok (.ifCond .eq 19, 3) := by decide +kernel
theorem dX10_laid_70 : decode cX10_laid 70 = .ok (.iload_n 3, 1) := by decide +kernel
theorem dX10_laid_71 : decode cX10_laid 71 = .ok (.ifCond .eq 41, 3) := by decide +kernel
theorem dX10_laid_74 : decode cX10_laid 74 = .ok (.aload_n 0, 1) := by decide +kernel
theorem dX10_laid_75 : decode cX10_laid 75 = .ok (.getfield 16, 3) := by decide +kernel
theorem dX10_laid_78 : decode cX10_laid 78 = .ok (.iload 8, 2) := by decide +kernel
theorem dX10_laid_80 : decode cX10_laid 80 = .ok (.iaload, 1) := by decide +kernel
theorem dX10_laid_81 : decode cX10_laid 81 = .ok (.iload 6, 2) := by decide +kernel
theorem dX10_laid_83 : decode cX10_laid 83 = .ok (.if_icmp .eq 29, 3) := by decide +kernel
theorem dX10_laid_86 : decode cX10_laid 86 = .ok (.iload_n 3, 1) := by decide +kernel
theorem dX10_laid_87 : decode cX10_laid 87 = .ok (.ifCond .eq 13, 3) := by decide +kernel
theorem dX10_laid_90 : decode cX10_laid 90 = .ok (.aload_n 0, 1) := by decide +kernel
theorem dX10_laid_91 : decode cX10_laid 91 = .ok (.getfield 16, 3) := by decide +kernel
theorem dX10_laid_94 : decode cX10_laid 94 = .ok (.iload 8, 2) := by decide +kernel
theorem dX10_laid_96 : decode cX10_laid 96 = .ok (.iaload, 1) := by decide +kernel
theorem dX10_laid_97 : decode cX10_laid 97 = .ok (.goto 4, 3) := by decide +kernel
theorem dX10_laid_100 : decode cX10_laid 100 = .ok (.iconst (-1), 1) := by decide +kernel
theorem dX10_laid_101 : decode cX10_laid 101 = .ok (.istore 6, 2) := by decide +kernel
theorem dX10_laid_103 : decode cX10_laid 103 = .ok (.aload_n 0, 1) := by decide +kernel
theorem dX10_laid_104 : decode cX10_laid 104 = .ok (.iload_n 2, 1) := by decide +kernel
theorem dX10_laid_105 : decode cX10_laid 105 = .ok (.iconst 1, 1) := by decide +kernel
theorem dX10_laid_106 : decode cX10_laid 106 = .ok (.isub, 1) := by decide +kernel
theorem dX10_laid_107 : decode cX10_laid 107 = .ok (.iload 6, 2) := by decide +kernel
theorem dX10_laid_109 : decode cX10_laid 109 = .ok (.invokevirtual 142, 3) := by decide +kernel
theorem dX10_laid_112 : decode cX10_laid 112 = .ok (.aload_n 0, 1) := by decide +kernel
theorem dX10_laid_113 : decode cX10_laid 113 = .ok (.getfield 26, 3) := by decide +kernel
theorem dX10_laid_116 : decode cX10_laid 116 = .ok (.sipush 10000, 3) := by decide +kernel
theorem dX10_laid_119 : decode cX10_laid 119 = .ok (.iload_n 2, 1) := by decide +kernel
theorem dX10_laid_120 : decode cX10_laid 120 = .ok (.iconst 1, 1) := by decide +kernel
theorem dX10_laid_121 : decode cX10_laid 121 = .ok (.isub, 1) := by decide +kernel
theorem dX10_laid_122 : decode cX10_laid 122 = .ok (.imul, 1) := by decide +kernel
theorem dX10_laid_123 : decode cX10_laid 123 = .ok (.aload_n 0, 1) := by decide +kernel
theorem dX10_laid_124 : decode cX10_laid 124 = .ok (.getfield 19, 3) := by decide +kernel
theorem dX10_laid_127 : decode cX10_laid 127 = .ok (.iload 8, 2) := by decide +kernel
theorem dX10_laid_129 : decode cX10_laid 129 = .ok (.iaload, 1) := by decide +kernel
theorem dX10_laid_130 : decode cX10_laid 130 = .ok (.iadd, 1) := by decide +kernel
theorem dX10_laid_131 : decode cX10_laid 131 = .ok (.laload, 1) := by decide +kernel
theorem dX10_laid_132 : decode cX10_laid 132 = .ok (.lconst 0, 1) := by decide +kernel
theorem dX10_laid_133 : decode cX10_laid 133 = .ok (.lcmp, 1) := by decide +kernel
theorem dX10_laid_134 : decode cX10_laid 134 = .ok (.ifCond .le 8, 3) := by decide +kernel
theorem dX10_laid_137 : decode cX10_laid 137 = .ok (.iload 8, 2) := by decide +kernel
theorem dX10_laid_139 : decode cX10_laid 139 = .ok (.goto 4, 3) := by decide +kernel
theorem dX10_laid_142 : decode cX10_laid 142 = .ok (.iconst (-1), 1) := by decide +kernel
theorem dX10_laid_143 : decode cX10_laid 143 = .ok (.istore 7, 2) := by decide +kernel
theorem dX10_laid_145 : decode cX10_laid 145 = .ok (.iinc 8 1, 3) := by decide +kernel
theorem dX10_laid_148 : decode cX10_laid 148 = .ok (.goto (-98), 3) := by decide +kernel
theorem dX10_laid_151 : decode cX10_laid 151 = .ok (.iload 7, 2) := by decide +kernel
theorem dX10_laid_153 : decode cX10_laid 153 = .ok (.iconst (-1), 1) := by decide +kernel
theorem dX10_laid_154 : decode cX10_laid 154 = .ok (.if_icmp .ne 5, 3) := by decide +kernel
theorem dX10_laid_157 : decode cX10_laid 157 = .ok (.iconst (-1), 1) := by decide +kernel
theorem dX10_laid_158 : decode cX10_laid 158 = .ok (.ireturn, 1) := by decide +kernel
theorem dX10_laid_159 : decode cX10_laid 159 = .ok (.aload_n 0, 1) := by decide +kernel
theorem dX10_laid_160 : decode cX10_laid 160 = .ok (.iload_n 2, 1) := by decide +kernel
theorem dX10_laid_161 : decode cX10_laid 161 = .ok (.iconst 1, 1) := by decide +kernel
theorem dX10_laid_162 : decode cX10_laid 162 = .ok (.isub, 1) := by decide +kernel
theorem dX10_laid_163 : decode cX10_laid 163 = .ok (.iload_n 3, 1) := by decide +kernel
theorem dX10_laid_164 : decode cX10_laid 164 = .ok (.ifCond .eq 13, 3) := by decide +kernel
theorem dX10_laid_167 : decode cX10_laid 167 = .ok (.aload_n 0, 1) := by decide +kernel
theorem dX10_laid_168 : decode cX10_laid 168 = .ok (.getfield 16, 3) := by decide +kernel
theorem dX10_laid_171 : decode cX10_laid 171 = .ok (.iload 7, 2) := by decide +kernel
theorem dX10_laid_173 : decode cX10_laid 173 = .ok (.iaload, 1) := by decide +kernel
theorem dX10_laid_174 : decode cX10_laid 174 = .ok (.goto 4, 3) := by decide +kernel
theorem dX10_laid_177 : decode cX10_laid 177 = .ok (.iconst (-1), 1) := by decide +kernel
theorem dX10_laid_178 : decode cX10_laid 178 = .ok (.invokevirtual 142, 3) := by decide +kernel
theorem dX10_laid_181 : decode cX10_laid 181 = .ok (.iload 7, 2) := by decide +kernel
theorem dX10_laid_183 : decode cX10_laid 183 = .ok (.istore 8, 2) := by decide +kernel
theorem dX10_laid_185 : decode cX10_laid 185 = .ok (.iconst 1, 1) := by decide +kernel
theorem dX10_laid_186 : decode cX10_laid 186 = .ok (.istore 9, 2) := by decide +kernel
theorem dX10_laid_188 : decode cX10_laid 188 = .ok (.iload 9, 2) := by decide +kernel
theorem dX10_laid_190 : decode cX10_laid 190 = .ok (.iload 5, 2) := by decide +kernel
theorem dX10_laid_192 : decode cX10_laid 192 = .ok (.if_icmp .gt 67, 3) := by decide +kernel
theorem dX10_laid_195 : decode cX10_laid 195 = .ok (.iconst 0, 1) := by decide +kernel
theorem dX10_laid_196 : decode cX10_laid 196 = .ok (.istore 10, 2) := by decide +kernel
theorem dX10_laid_198 : decode cX10_laid 198 = .ok (.aload_n 0, 1) := by decide +kernel
theorem dX10_laid_199 : decode cX10_laid 199 = .ok (.getfield 16, 3) := by decide +kernel
theorem dX10_laid_202 : decode cX10_laid 202 = .ok (.iload 10, 2) := by decide +kernel
theorem dX10_laid_204 : decode cX10_laid 204 = .ok (.iaload, 1) := by decide +kernel
theorem dX10_laid_205 : decode cX10_laid 205 = .ok (.aload_n 0, 1) := by decide +kernel
theorem dX10_laid_206 : decode cX10_laid 206 = .ok (.getfield 19, 3) := by decide +kernel
theorem dX10_laid_209 : decode cX10_laid 209 = .ok (.iload 8, 2) := by decide +kernel
theorem dX10_laid_211 : decode cX10_laid 211 = .ok (.iaload, 1) := by decide +kernel
theorem dX10_laid_212 : decode cX10_laid 212 = .ok (.if_icmp .ne 31, 3) := by decide +kernel
theorem dX10_laid_215 : decode cX10_laid 215 = .ok (.aload_n 0, 1) := by decide +kernel
theorem dX10_laid_216 : decode cX10_laid 216 = .ok (.getfield 26, 3) := by decide +kernel
theorem dX10_laid_219 : decode cX10_laid 219 = .ok (.sipush 10000, 3) := by decide +kernel
theorem dX10_laid_222 : decode cX10_laid 222 = .ok (.iload_n 2, 1) := by decide +kernel
theorem dX10_laid_223 : decode cX10_laid 223 = .ok (.iconst 1, 1) := by decide +kernel
theorem dX10_laid_224 : decode cX10_laid 224 = .ok (.isub, 1) := by decide +kernel
theorem dX10_laid_225 : decode cX10_laid 225 = .ok (.iload 9, 2) := by decide +kernel
theorem dX10_laid_227 : decode cX10_laid 227 = .ok (.isub, 1) := by decide +kernel
theorem dX10_laid_228 : decode cX10_laid 228 = .ok (.imul, 1) := by decide +kernel
theorem dX10_laid_229 : decode cX10_laid 229 = .ok (.aload_n 0, 1) := by decide +kernel
theorem dX10_laid_230 : decode cX10_laid 230 = .ok (.getfield 19, 3) := by decide +kernel
theorem dX10_laid_233 : decode cX10_laid 233 = .ok (.iload 10, 2) := by decide +kernel
theorem dX10_laid_235 : decode cX10_laid 235 = .ok (.iaload, 1) := by decide +kernel
theorem dX10_laid_236 : decode cX10_laid 236 = .ok (.iadd, 1) := by decide +kernel
theorem dX10_laid_237 : decode cX10_laid 237 = .ok (.laload, 1) := by decide +kernel
theorem dX10_laid_238 : decode cX10_laid 238 = .ok (.lconst 0, 1) := by decide +kernel
theorem dX10_laid_239 : decode cX10_laid 239 = .ok (.lcmp, 1) := by decide +kernel
theorem dX10_laid_240 : decode cX10_laid 240 = .ok (.ifCond .ne 9, 3) := by decide +kernel
theorem dX10_laid_243 : decode cX10_laid 243 = .ok (.iinc 10 1, 3) := by decide +kernel
theorem dX10_laid_246 : decode cX10_laid 246 = .ok (.goto (-48), 3) := by decide +kernel
theorem dX10_laid_249 : decode cX10_laid 249 = .ok (.iload 10, 2) := by decide +kernel
theorem dX10_laid_251 : decode cX10_laid 251 = .ok (.istore 8, 2) := by decide +kernel
theorem dX10_laid_253 : decode cX10_laid 253 = .ok (.iinc 9 1, 3) := by decide +kernel
theorem dX10_laid_256 : decode cX10_laid 256 = .ok (.goto (-68), 3) := by decide +kernel
theorem dX10_laid_259 : decode cX10_laid 259 = .ok (.aload_n 0, 1) := by decide +kernel
theorem dX10_laid_260 : decode cX10_laid 260 = .ok (.aload_n 0, 1) := by decide +kernel
theorem dX10_laid_261 : decode cX10_laid 261 = .ok (.getfield 13, 3) := by decide +kernel
theorem dX10_laid_264 : decode cX10_laid 264 = .ok (.iload 8, 2) := by decide +kernel
theorem dX10_laid_266 : decode cX10_laid 266 = .ok (.iaload, 1) := by decide +kernel
theorem dX10_laid_267 : decode cX10_laid 267 = .ok (.iload_n 1, 1) := by decide +kernel
theorem dX10_laid_268 : decode cX10_laid 268 = .ok (.iload 4, 2) := by decide +kernel
theorem dX10_laid_270 : decode cX10_laid 270 = .ok (.invokevirtual 160, 3) := by decide +kernel
theorem dX10_laid_273 : decode cX10_laid 273 = .ok (.ireturn, 1) := by decide +kernel
theorem dX10_repeats_0 : decode cX10_repeats 0 = .ok (.iconst 1, 1) := by decide +kernel
theorem dX10_repeats_1 : decode cX10_repeats 1 = .ok (.istore_n 1, 1) := by decide +kernel
theorem dX10_repeats_2 : decode cX10_repeats 2 = .ok (.iload_n 1, 1) := by decide +kernel
theorem dX10_repeats_3 : decode cX10_repeats 3 = .ok (.bipush 16, 2) := by decide +kernel
theorem dX10_repeats_5 : decode cX10_repeats 5 = .ok (.if_icmp .gt 58, 3) := by decide +kernel
theorem dX10_repeats_8 : decode cX10_repeats 8 = .ok (.iconst 1, 1) := by decide +kernel
theorem dX10_repeats_9 : decode cX10_repeats 9 = .ok (.istore_n 2, 1) := by decide +kernel
theorem dX10_repeats_10 : decode cX10_repeats 10 = .ok (.iload_n 2, 1) := by decide +kernel
theorem dX10_repeats_11 : decode cX10_repeats 11 = .ok (.iconst 4, 1) := by decide +kernel
theorem dX10_repeats_12 : decode cX10_repeats 12 = .ok (.if_icmp .gt 45, 3) := by decide +kernel
theorem dX10_repeats_15 : decode cX10_repeats 15 = .ok (.iload_n 1, 1) := by decide +kernel
theorem dX10_repeats_16 : decode cX10_repeats 16 = .ok (.iload_n 2, 1) := by decide +kernel
theorem dX10_repeats_17 : decode cX10_repeats 17 = .ok (.irem, 1) := by decide +kernel
