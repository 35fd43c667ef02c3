theorem dX10_tellLeft_260 : decode cX10_tellLeft 260 = .ok (.iload 5, 2) := by decide +kernel
theorem dX10_tellLeft_262 : decode cX10_tellLeft 262 = .ok (.baload, 1) := by decide +kernel
theorem dX10_tellLeft_263 : decode cX10_tellLeft 263 = .ok (.iconst 1, 1) := by decide +kernel
theorem dX10_tellLeft_264 : decode cX10_tellLeft 264 = .ok (.iadd, 1) := by decide +kernel
theorem dX10_tellLeft_265 : decode cX10_tellLeft 265 = .ok (.aload_n 0, 1) := by decide +kernel
theorem dX10_tellLeft_266 : decode cX10_tellLeft 266 = .ok (.getfield 62, 3) := by decide +kernel
theorem dX10_tellLeft_269 : decode cX10_tellLeft 269 = .ok (.iload_n 2, 1) := by decide +kernel
theorem dX10_tellLeft_270 : decode cX10_tellLeft 270 = .ok (.baload, 1) := by decide +kernel
theorem dX10_tellLeft_271 : decode cX10_tellLeft 271 = .ok (.if_icmp .ge 16, 3) := by decide +kernel
theorem dX10_tellLeft_274 : decode cX10_tellLeft 274 = .ok (.aload_n 0, 1) := by decide +kernel
theorem dX10_tellLeft_275 : decode cX10_tellLeft 275 = .ok (.getfield 62, 3) := by decide +kernel
theorem dX10_tellLeft_278 : decode cX10_tellLeft 278 = .ok (.iload 5, 2) := by decide +kernel
theorem dX10_tellLeft_280 : decode cX10_tellLeft 280 = .ok (.baload, 1) := by decide +kernel
theorem dX10_tellLeft_281 : decode cX10_tellLeft 281 = .ok (.iconst 1, 1) := by decide +kernel
theorem dX10_tellLeft_282 : decode cX10_tellLeft 282 = .ok (.iadd, 1) := by decide +kernel
theorem dX10_tellLeft_283 : decode cX10_tellLeft 283 = .ok (.i2b, 1) := by decide +kernel
theorem dX10_tellLeft_284 : decode cX10_tellLeft 284 = .ok (.goto 9, 3) := by decide +kernel
theorem dX10_tellLeft_287 : decode cX10_tellLeft 287 = .ok (.aload_n 0, 1) := by decide +kernel
theorem dX10_tellLeft_288 : decode cX10_tellLeft 288 = .ok (.getfield 62, 3) := by decide +kernel
theorem dX10_tellLeft_291 : decode cX10_tellLeft 291 = .ok (.iload_n 2, 1) := by decide +kernel
theorem dX10_tellLeft_292 : decode cX10_tellLeft 292 = .ok (.baload, 1) := by decide +kernel
theorem dX10_tellLeft_293 : decode cX10_tellLeft 293 = .ok (.bastore, 1) := by decide +kernel
theorem dX10_tellLeft_294 : decode cX10_tellLeft 294 = .ok (.iinc 4 1, 3) := by decide +kernel
theorem dX10_tellLeft_297 : decode cX10_tellLeft 297 = .ok (.goto (-98), 3) := by decide +kernel
theorem dX10_tellLeft_300 : decode cX10_tellLeft 300 = .ok (.iinc 2 (-1), 3) := by decide +kernel
theorem dX10_tellLeft_303 : decode cX10_tellLeft 303 = .ok (.goto (-173), 3) := by decide +kernel
theorem dX10_tellLeft_306 : decode cX10_tellLeft 306 = .ok (.return_, 1) := by decide +kernel
theorem dX10_seek_0 : decode cX10_seek 0 = .ok (.aload_n 0, 1) := by decide +kernel
theorem dX10_seek_1 : decode cX10_seek 1 = .ok (.invokevirtual 192, 3) := by decide +kernel
theorem dX10_seek_4 : decode cX10_seek 4 = .ok (.istore 4, 2) := by decide +kernel
theorem dX10_seek_6 : decode cX10_seek 6 = .ok (.aload_n 0, 1) := by decide +kernel
theorem dX10_seek_7 : decode cX10_seek 7 = .ok (.lconst 0, 1) := by decide +kernel
theorem dX10_seek_8 : decode cX10_seek 8 = .ok (.putfield 199, 3) := by decide +kernel
theorem dX10_seek_11 : decode cX10_seek 11 = .ok (.aload_n 0, 1) := by decide +kernel
theorem dX10_seek_12 : decode cX10_seek 12 = .ok (.bipush 100, 2) := by decide +kernel
theorem dX10_seek_14 : decode cX10_seek 14 = .ok (.putfield 203, 3) := by decide +kernel
theorem dX10_seek_17 : decode cX10_seek 17 = .ok (.iconst 0, 1) := by decide +kernel
theorem dX10_seek_18 : decode cX10_seek 18 = .ok (.istore 5, 2) := by decide +kernel
theorem dX10_seek_20 : decode cX10_seek 20 = .ok (.aload_n 0, 1) := by decide +kernel
theorem dX10_seek_21 : decode cX10_seek 21 = .ok (.getfield 72, 3) := by decide +kernel
theorem dX10_seek_24 : decode cX10_seek 24 = .ok (.iconst 0, 1) := by decide +kernel
theorem dX10_seek_25 : decode cX10_seek 25 = .ok (.iload_n 1, 1) := by decide +kernel
theorem dX10_seek_26 : decode cX10_seek 26 = .ok (.iastore, 1) := by decide +kernel
theorem dX10_seek_27 : decode cX10_seek 27 = .ok (.aload_n 0, 1) := by decide +kernel
theorem dX10_seek_28 : decode cX10_seek 28 = .ok (.getfield 75, 3) := by decide +kernel
theorem dX10_seek_31 : decode cX10_seek 31 = .ok (.iconst 0, 1) := by decide +kernel
theorem dX10_seek_32 : decode cX10_seek 32 = .ok (.iload_n 2, 1) := by decide +kernel
theorem dX10_seek_33 : decode cX10_seek 33 = .ok (.iastore, 1) := by decide +kernel
theorem dX10_seek_34 : decode cX10_seek 34 = .ok (.aload_n 0, 1) := by decide +kernel
theorem dX10_seek_35 : decode cX10_seek 35 = .ok (.getfield 69, 3) := by decide +kernel
theorem dX10_seek_38 : decode cX10_seek 38 = .ok (.iconst 0, 1) := by decide +kernel
theorem dX10_seek_39 : decode cX10_seek 39 = .ok (.iconst (-1), 1) := by decide +kernel
theorem dX10_seek_40 : decode cX10_seek 40 = .ok (.iastore, 1) := by decide +kernel
theorem dX10_seek_41 : decode cX10_seek 41 = .ok (.iload 5, 2) := by decide +kernel
theorem dX10_seek_43 : decode cX10_seek 43 = .ok (.ifCond .lt 232, 3) := by decide +kernel
theorem dX10_seek_46 : decode cX10_seek 46 = .ok (.aload_n 0, 1) := by decide +kernel
theorem dX10_seek_47 : decode cX10_seek 47 = .ok (.getfield 72, 3) := by decide +kernel
theorem dX10_seek_50 : decode cX10_seek 50 = .ok (.iload 5, 2) := by decide +kernel
theorem dX10_seek_52 : decode cX10_seek 52 = .ok (.iaload, 1) := by decide +kernel
theorem dX10_seek_53 : decode cX10_seek 53 = .ok (.iload 4, 2) := by decide +kernel
theorem dX10_seek_55 : decode cX10_seek 55 = .ok (.if_icmp .ne 63, 3) := by decide +kernel
theorem dX10_seek_58 : decode cX10_seek 58 = .ok (.iload_n 3, 1) := by decide +kernel
theorem dX10_seek_59 : decode cX10_seek 59 = .ok (.ifCond .eq 21, 3) := by decide +kernel
theorem dX10_seek_62 : decode cX10_seek 62 = .ok (.aload_n 0, 1) := by decide +kernel
theorem dX10_seek_63 : decode cX10_seek 63 = .ok (.getfield 75, 3) := by decide +kernel
theorem dX10_seek_66 : decode cX10_seek 66 = .ok (.iload 5, 2) := by decide +kernel
theorem dX10_seek_68 : decode cX10_seek 68 = .ok (.iaload, 1) := by decide +kernel
theorem dX10_seek_69 : decode cX10_seek 69 = .ok (.iconst 1, 1) := by decide +kernel
theorem dX10_seek_70 : decode cX10_seek 70 = .ok (.aload_n 0, 1) := by decide +kernel
theorem dX10_seek_71 : decode cX10_seek 71 = .ok (.getfield 173, 3) := by decide +kernel
theorem dX10_seek_74 : decode cX10_seek 74 = .ok (.ishl, 1) := by decide +kernel
theorem dX10_seek_75 : decode cX10_seek 75 = .ok (.iconst 1, 1) := by decide +kernel
theorem dX10_seek_76 : decode cX10_seek 76 = .ok (.isub, 1) := by decide +kernel
theorem dX10_seek_77 : decode cX10_seek 77 = .ok (.if_icmp .ne 35, 3) := by decide +kernel
theorem dX10_seek_80 : decode cX10_seek 80 = .ok (.aload_n 0, 1) := by decide +kernel
theorem dX10_seek_81 : decode cX10_seek 81 = .ok (.dup, 1) := by decide +kernel
theorem dX10_seek_82 : decode cX10_seek 82 = .ok (.getfield 199, 3) := by decide +kernel
theorem dX10_seek_85 : decode cX10_seek 85 = .ok (.lconst 1, 1) := by decide +kernel
theorem dX10_seek_86 : decode cX10_seek 86 = .ok (.ladd, 1) := by decide +kernel
theorem dX10_seek_87 : decode cX10_seek 87 = .ok (.putfield 199, 3) := by decide +kernel
theorem dX10_seek_90 : decode cX10_seek 90 = .ok (.aload_n 0, 1) := by decide +kernel
theorem dX10_seek_91 : decode cX10_seek 91 = .ok (.iload 5, 2) := by decide +kernel
theorem dX10_seek_93 : decode cX10_seek 93 = .ok (.aload_n 0, 1) := by decide +kernel
theorem dX10_seek_94 : decode cX10_seek 94 = .ok (.getfield 203, 3) := by decide +kernel
theorem dX10_seek_97 : decode cX10_seek 97 = .ok (.if_icmp .ge 8, 3) := by decide +kernel
theorem dX10_seek_100 : decode cX10_seek 100 = .ok (.iload 5, 2) := by decide +kernel
theorem dX10_seek_102 : decode cX10_seek 102 = .ok (.goto 7, 3) := by decide +kernel
theorem dX10_seek_105 : decode cX10_seek 105 = .ok (.aload_n 0, 1) := by decide +kernel
theorem dX10_seek_106 : decode cX10_seek 106 = .ok (.getfield 203, 3) := by decide +kernel
theorem dX10_seek_109 : decode cX10_seek 109 = .ok (.putfield 203, 3) := by decide +kernel
theorem dX10_seek_112 : decode cX10_seek 112 = .ok (.iinc 5 (-1), 3) := by decide +kernel
theorem dX10_seek_115 : decode cX10_seek 115 = .ok (.goto (-74), 3) := by decide +kernel
theorem dX10_seek_118 : decode cX10_seek 118 = .ok (.aload_n 0, 1) := by decide +kernel
theorem dX10_seek_119 : decode cX10_seek 119 = .ok (.getfield 72, 3) := by decide +kernel
theorem dX10_seek_122 : decode cX10_seek 122 = .ok (.iload 5, 2) := by decide +kernel
theorem dX10_seek_124 : decode cX10_seek 124 = .ok (.iaload, 1) := by decide +kernel
theorem dX10_seek_125 : decode cX10_seek 125 = .ok (.invokestatic 196, 3) := by decide +kernel
theorem dX10_seek_128 : decode cX10_seek 128 = .ok (.istore 6, 2) := by decide +kernel
theorem dX10_seek_130 : decode cX10_seek 130 = .ok (.aload_n 0, 1) := by decide +kernel
theorem dX10_seek_131 : decode cX10_seek 131 = .ok (.aload_n 0, 1) := by decide +kernel
theorem dX10_seek_132 : decode cX10_seek 132 = .ok (.getfield 69, 3) := by decide +kernel
theorem dX10_seek_135 : decode cX10_seek 135 = .ok (.iload 5, 2) := by decide +kernel
theorem dX10_seek_137 : decode cX10_seek 137 = .ok (.iaload, 1) := by decide +kernel
theorem dX10_seek_138 : decode cX10_seek 138 = .ok (.iconst (-1), 1) := by decide +kernel
theorem dX10_seek_139 : decode cX10_seek 139 = .ok (.if_icmp .ne 13, 3) := by decide +kernel
theorem dX10_seek_142 : decode cX10_seek 142 = .ok (.aload_n 0, 1) := by decide +kernel
theorem dX10_seek_143 : decode cX10_seek 143 = .ok (.getfield 55, 3) := by decide +kernel
theorem dX10_seek_146 : decode cX10_seek 146 = .ok (.iload 6, 2) := by decide +kernel
theorem dX10_seek_148 : decode cX10_seek 148 = .ok (.iaload, 1) := by decide +kernel
theorem dX10_seek_149 : decode cX10_seek 149 = .ok (.goto 12, 3) := by decide +kernel
theorem dX10_seek_152 : decode cX10_seek 152 = .ok (.aload_n 0, 1) := by decide +kernel
theorem dX10_seek_153 : decode cX10_seek 153 = .ok (.getfield 69, 3) := by decide +kernel
theorem dX10_seek_156 : decode cX10_seek 156 = .ok (.iload 5, 2) := by decide +kernel
theorem dX10_seek_158 : decode cX10_seek 158 = .ok (.iaload, 1) := by decide +kernel
theorem dX10_seek_159 : decode cX10_seek 159 = .ok (.iconst 1, 1) := by decide +kernel
theorem dX10_seek_160 : decode cX10_seek 160 = .ok (.iadd, 1) := by decide +kernel
theorem dX10_seek_161 : decode cX10_seek 161 = .ok (.aload_n 0, 1) := by decide +kernel
theorem dX10_seek_162 : decode cX10_seek 162 = .ok (.getfield 72, 3) := by decide +kernel
theorem dX10_seek_165 : decode cX10_seek 165 = .ok (.iload 5, 2) := by decide +kernel
theorem dX10_seek_167 : decode cX10_seek 167 = .ok (.iaload, 1) := by decide +kernel
theorem dX10_seek_168 : decode cX10_seek 168 = .ok (.aload_n 0, 1) := by decide +kernel
theorem dX10_seek_169 : decode cX10_seek 169 = .ok (.getfield 75, 3) := by decide +kernel
theorem dX10_seek_172 : decode cX10_seek 172 = .ok (.iload 5, 2) := by decide +kernel
theorem dX10_seek_174 : decode cX10_seek 174 = .ok (.iaload, 1) := by decide +kernel
theorem dX10_seek_175 : decode cX10_seek 175 = .ok (.invokevirtual 206, 3) := by decide +kernel
theorem dX10_seek_178 : decode cX10_seek 178 = .ok (.istore 7, 2) := by decide +kernel
theorem dX10_seek_180 : decode cX10_seek 180 = .ok (.aload_n 0, 1) := by decide +kernel
theorem dX10_seek_181 : decode cX10_seek 181 = .ok (.getfield 69, 3) := by decide +kernel
theorem dX10_seek_184 : decode cX10_seek 184 = .ok (.iload 5, 2) := by decide +kernel
theorem dX10_seek_186 : decode cX10_seek 186 = .ok (.iload 7, 2) := by decide +kernel
theorem dX10_seek_188 : decode cX10_seek 188 = .ok (.iastore, 1) := by decide +kernel
theorem dX10_seek_189 : decode cX10_seek 189 = .ok (.iload 7, 2) := by decide +kernel
theorem dX10_seek_191 : decode cX10_seek 191 = .ok (.aload_n 0, 1) := by decide +kernel
theorem dX10_seek_192 : decode cX10_seek 192 = .ok (.getfield 55, 3) := by decide +kernel
theorem dX10_seek_195 : decode cX10_seek 195 = .ok (.iload 6, 2) := by decide +kernel
theorem dX10_seek_197 : decode cX10_seek 197 = .ok (.iconst 1, 1) := by decide +kernel
theorem dX10_seek_198 : decode cX10_seek 198 = .ok (.iadd, 1) := by decide +kernel
theorem dX10_seek_199 : decode cX10_seek 199 = .ok (.iaload, 1) := by decide +kernel
theorem dX10_seek_200 : decode cX10_seek 200 = .ok (.if_icmp .ne 9, 3) := by decide +kernel
theorem dX10_seek_203 : decode cX10_seek 203 = .ok (.iinc 5 (-1), 3) := by decide +kernel
theorem dX10_seek_206 : decode cX10_seek 206 = .ok (.goto 66, 3) := by decide +kernel
theorem dX10_seek_209 : decode cX10_seek 209 = .ok (.aload_n 0, 1) := by decide +kernel
theorem dX10_seek_210 : decode cX10_seek 210 = .ok (.getfield 72, 3) := by decide +kernel
theorem dX10_seek_213 : decode cX10_seek 213 = .ok (.iload 5, 2) := by decide +kernel
theorem dX10_seek_215 : decode cX10_seek 215 = .ok (.iconst 1, 1) := by decide +kernel
theorem dX10_seek_216 : decode cX10_seek 216 = .ok (.iadd, 1) := by decide +kernel
theorem dX10_seek_217 : decode cX10_seek 217 = .ok (.aload_n 0, 1) := by decide +kernel
theorem dX10_seek_218 : decode cX10_seek 218 = .ok (.getfield 72, 3) := by decide +kernel
theorem dX10_seek_221 : decode cX10_seek 221 = .ok (.iload 5, 2) := by decide +kernel
theorem dX10_seek_223 : decode cX10_seek 223 = .ok (.iaload, 1) := by decide +kernel
theorem dX10_seek_224 : decode cX10_seek 224 = .ok (.aload_n 0, 1) := by decide +kernel
theorem dX10_seek_225 : decode cX10_seek 225 = .ok (.getfield 49, 3) := by decide +kernel
theorem dX10_seek_228 : decode cX10_seek 228 = .ok (.iload 7, 2) := by decide +kernel
theorem dX10_seek_230 : decode cX10_seek 230 = .ok (.iaload, 1) := by decide +kernel
theorem dX10_seek_231 : decode cX10_seek 231 = .ok (.ior, 1) := by decide +kernel
theorem dX10_seek_232 : decode cX10_seek 232 = .ok (.iastore, 1) := by decide +kernel
theorem dX10_seek_233 : decode cX10_seek 233 = .ok (.aload_n 0, 1) := by decide +kernel
theorem dX10_seek_234 : decode cX10_seek 234 = .ok (.getfield 75, 3) := by decide +kernel
theorem dX10_seek_237 : decode cX10_seek 237 = .ok (.iload 5, 2) := by decide +kernel
theorem dX10_seek_239 : decode cX10_seek 239 = .ok (.iconst 1, 1) := by decide +kernel
theorem dX10_seek_240 : decode cX10_seek 240 = .ok (.iadd, 1) := by decide +kernel
theorem dX10_seek_241 : decode cX10_seek 241 = .ok (.aload_n 0, 1) := by decide +kernel
theorem dX10_seek_242 : decode cX10_seek 242 = .ok (.getfield 75, 3) := by decide +kernel
theorem dX10_seek_245 : decode cX10_seek 245 = .ok (.iload 5, 2) := by decide +kernel
theorem dX10_seek_247 : decode cX10_seek 247 = .ok (.iaload, 1) := by decide +kernel
theorem dX10_seek_248 : decode cX10_seek 248 = .ok (.iconst 1, 1) := by decide +kernel
theorem dX10_seek_249 : decode cX10_seek 249 = .ok (.aload_n 0, 1) := by decide +kernel
theorem dX10_seek_250 : decode cX10_seek 250 = .ok (.getfield 52, 3) := by decide +kernel
theorem dX10_seek_253 : decode cX10_seek 253 = .ok (.iload 7, 2) := by decide +kernel
theorem dX10_seek_255 : decode cX10_seek 255 = .ok (.iaload, 1) := by decide +kernel
theorem dX10_seek_256 : decode cX10_seek 256 = .ok (.ishl, 1) := by decide +kernel
theorem dX10_seek_257 : decode cX10_seek 257 = .ok (.ior, 1) := by decide +kernel
theorem dX10_seek_258 : decode cX10_seek 258 = .ok (.iastore, 1) := by decide +kernel
theorem dX10_seek_259 : decode cX10_seek 259 = .ok (.aload_n 0, 1) := by decide +kernel
theorem dX10_seek_260 : decode cX10_seek 260 = .ok (.getfield 69, 3) := by decide +kernel
theorem dX10_seek_263 : decode cX10_seek 263 = .ok (.iload 5, 2) := by decide +kernel
theorem dX10_seek_265 : decode cX10_seek 265 = .ok (.iconst 1, 1) := by decide +kernel
theorem dX10_seek_266 : decode cX10_seek 266 = .ok (.iadd, 1) := by decide +kernel
theorem dX10_seek_267 : decode cX10_seek 267 = .ok (.iconst (-1), 1) := by decide +kernel
theorem dX10_seek_268 : decode cX10_seek 268 = .ok (.iastore, 1) := by decide +kernel
theorem dX10_seek_269 : decode cX10_seek 269 = .ok (.iinc 5 1, 3) := by decide +kernel
theorem dX10_seek_272 : decode cX10_seek 272 = .ok (.goto (-231), 3) := by decide +kernel
theorem dX10_seek_275 : decode cX10_seek 275 = .ok (.return_, 1) := by decide +kernel
theorem dX10_nextFit_0 : decode cX10_nextFit 0 = .ok (.aload_n 0, 1) := by decide +kernel
theorem dX10_nextFit_1 : decode cX10_nextFit 1 = .ok (.getfield 55, 3) := by decide +kernel
theorem dX10_nextFit_4 : decode cX10_nextFit 4 = .ok (.iload_n 2, 1) := by decide +kernel
theorem dX10_nextFit_5 : decode cX10_nextFit 5 = .ok (.invokestatic 196, 3) := by decide +kernel
theorem dX10_nextFit_8 : decode cX10_nextFit 8 = .ok (.iconst 1, 1) := by decide +kernel
theorem dX10_nextFit_9 : decode cX10_nextFit 9 = .ok (.iadd, 1) := by decide +kernel
theorem dX10_nextFit_10 : decode cX10_nextFit 10 = .ok (.iaload, 1) := by decide +kernel
theorem dX10_nextFit_11 : decode cX10_nextFit 11 = .ok (.istore 4, 2) := by decide +kernel
theorem dX10_nextFit_13 : decode cX10_nextFit 13 = .ok (.iload_n 1, 1) := by decide +kernel
theorem dX10_nextFit_14 : decode cX10_nextFit 14 = .ok (.istore 5, 2) := by decide +kernel
theorem dX10_nextFit_16 : decode cX10_nextFit 16 = .ok (.iload 5, 2) := by decide +kernel
theorem dX10_nextFit_18 : decode cX10_nextFit 18 = .ok (.iload 4, 2) := by decide +kernel
theorem dX10_nextFit_20 : decode cX10_nextFit 20 = .ok (.if_icmp .ge 36, 3) := by decide +kernel
theorem dX10_nextFit_23 : decode cX10_nextFit 23 = .ok (.aload_n 0, 1) := by decide +kernel
theorem dX10_nextFit_24 : decode cX10_nextFit 24 = .ok (.getfield 49, 3) := by decide +kernel
theorem dX10_nextFit_27 : decode cX10_nextFit 27 = .ok (.iload 5, 2) := by decide +kernel
theorem dX10_nextFit_29 : decode cX10_nextFit 29 = .ok (.iaload, 1) := by decide +kernel
theorem dX10_nextFit_30 : decode cX10_nextFit 30 = .ok (.iload_n 2, 1) := by decide +kernel
theorem dX10_nextFit_31 : decode cX10_nextFit 31 = .ok (.iand, 1) := by decide +kernel
theorem dX10_nextFit_32 : decode cX10_nextFit 32 = .ok (.ifCond .ne 18, 3) := by decide +kernel
theorem dX10_nextFit_35 : decode cX10_nextFit 35 = .ok (.iload_n 3, 1) := by decide +kernel
theorem dX10_nextFit_36 : decode cX10_nextFit 36 = .ok (.aload_n 0, 1) := by decide +kernel
theorem dX10_nextFit_37 : decode cX10_nextFit 37 = .ok (.getfield 52, 3) := by decide +kernel
theorem dX10_nextFit_40 : decode cX10_nextFit 40 = .ok (.iload 5, 2) := by decide +kernel
theorem dX10_nextFit_42 : decode cX10_nextFit 42 = .ok (.iaload, 1) := by decide +kernel
theorem dX10_nextFit_43 : decode cX10_nextFit 43 = .ok (.ishr, 1) := by decide +kernel
theorem dX10_nextFit_44 : decode cX10_nextFit 44 = .ok (.iconst 1, 1) := by decide +kernel
theorem dX10_nextFit_45 : decode cX10_nextFit 45 = .ok (.iand, 1) := by decide +kernel
theorem dX10_nextFit_46 : decode cX10_nextFit 46 = .ok (.iconst 1, 1) := by decide +kernel
theorem dX10_nextFit_47 : decode cX10_nextFit 47 = .ok (.if_icmp .ne 9, 3) := by decide +kernel
theorem dX10_nextFit_50 : decode cX10_nextFit 50 = .ok (.iinc 5 1, 3) := by decide +kernel
theorem dX10_nextFit_53 : decode cX10_nextFit 53 = .ok (.goto (-37), 3) := by decide +kernel
theorem dX10_nextFit_56 : decode cX10_nextFit 56 = .ok (.iload 5, 2) := by decide +kernel
theorem dX10_nextFit_58 : decode cX10_nextFit 58 = .ok (.ireturn, 1) := by decide +kernel
theorem dX10_covers_0 : decode cX10_covers 0 = .ok (.iload_n 1, 1) := by decide +kernel
theorem dX10_covers_1 : decode cX10_covers 1 = .ok (.iconst 0, 1) := by decide +kernel
theorem dX10_covers_2 : decode cX10_covers 2 = .ok (.iconst 2, 1) := by decide +kernel
theorem dX10_covers_3 : decode cX10_covers 3 = .ok (.invokestatic 128, 3) := by decide +kernel
theorem dX10_covers_6 : decode cX10_covers 6 = .ok (.ifCond .ne 7, 3) := by decide +kernel
theorem dX10_covers_9 : decode cX10_covers 9 = .ok (.ldc2_w 158, 3) := by decide +kernel
theorem dX10_covers_12 : decode cX10_covers 12 = .ok (.lreturn, 1) := by decide +kernel
theorem dX10_covers_13 : decode cX10_covers 13 = .ok (.iload_n 1, 1) := by decide +kernel
theorem dX10_covers_14 : decode cX10_covers 14 = .ok (.iconst 1, 1) := by decide +kernel
theorem dX10_covers_15 : decode cX10_covers 15 = .ok (.if_icmp .ne 17, 3) := by decide +kernel
theorem dX10_covers_18 : decode cX10_covers 18 = .ok (.aload_n 0, 1) := by decide +kernel
theorem dX10_covers_19 : decode cX10_covers 19 = .ok (.invokevirtual 209, 3) := by decide +kernel
theorem dX10_covers_22 : decode cX10_covers 22 = .ok (.aload_n 0, 1) := by decide +kernel
theorem dX10_covers_23 : decode cX10_covers 23 = .ok (.getfield 59, 3) := by decide +kernel
theorem dX10_covers_26 : decode cX10_covers 26 = .ok (.aload_n 0, 1) := by decide +kernel
theorem dX10_covers_27 : decode cX10_covers 27 = .ok (.getfield 176, 3) := by decide +kernel
theorem dX10_covers_30 : decode cX10_covers 30 = .ok (.laload, 1) := by decide +kernel
theorem dX10_covers_31 : decode cX10_covers 31 = .ok (.lreturn, 1) := by decide +kernel
theorem dX10_covers_32 : decode cX10_covers 32 = .ok (.aload_n 0, 1) := by decide +kernel
theorem dX10_covers_33 : decode cX10_covers 33 = .ok (.invokevirtual 189, 3) := by decide +kernel
theorem dX10_covers_36 : decode cX10_covers 36 = .ok (.aload_n 0, 1) := by decide +kernel
theorem dX10_covers_37 : decode cX10_covers 37 = .ok (.aload_n 0, 1) := by decide +kernel
theorem dX10_covers_38 : decode cX10_covers 38 = .ok (.getfield 176, 3) := by decide +kernel
theorem dX10_covers_41 : decode cX10_covers 41 = .ok (.iconst 0, 1) := by decide +kernel
theorem dX10_covers_42 : decode cX10_covers 42 = .ok (.iload_n 1, 1) := by decide +kernel
theorem dX10_covers_43 : decode cX10_covers 43 = .ok (.ifCond .ne 7, 3) := by decide +kernel
theorem dX10_covers_46 : decode cX10_covers 46 = .ok (.iconst 1, 1) := by decide +kernel
theorem dX10_covers_47 : decode cX10_covers 47 = .ok (.goto 4, 3) := by decide +kernel
theorem dX10_covers_50 : decode cX10_covers 50 = .ok (.iconst 0, 1) := by decide +kernel
theorem dX10_covers_51 : decode cX10_covers 51 = .ok (.invokevirtual 212, 3) := by decide +kernel
theorem dX10_covers_54 : decode cX10_covers 54 = .ok (.aload_n 0, 1) := by decide +kernel
theorem dX10_covers_55 : decode cX10_covers 55 = .ok (.getfield 199, 3) := by decide +kernel
theorem dX10_covers_58 : decode cX10_covers 58 = .ok (.lreturn, 1) := by decide +kernel
theorem dX10_cover_0 : decode cX10_cover 0 = .ok (.iload_n 1, 1) := by decide +kernel
theorem dX10_cover_1 : decode cX10_cover 1 = .ok (.iconst 0, 1) := by decide +kernel
theorem dX10_cover_2 : decode cX10_cover 2 = .ok (.iconst 2, 1) := by decide +kernel
theorem dX10_cover_3 : decode cX10_cover 3 = .ok (.invokestatic 128, 3) := by decide +kernel
theorem dX10_cover_6 : decode cX10_cover 6 = .ok (.ifCond .eq 41, 3) := by decide +kernel
theorem dX10_cover_9 : decode cX10_cover 9 = .ok (.iload_n 2, 1) := by decide +kernel
theorem dX10_cover_10 : decode cX10_cover 10 = .ok (.iconst 0, 1) := by decide +kernel
theorem dX10_cover_11 : decode cX10_cover 11 = .ok (.aload_n 0, 1) := by decide +kernel
theorem dX10_cover_12 : decode cX10_cover 12 = .ok (.getfield 105, 3) := by decide +kernel
theorem dX10_cover_15 : decode cX10_cover 15 = .ok (.iconst 1, 1) := by decide +kernel
theorem dX10_cover_16 : decode cX10_cover 16 = .ok (.isub, 1) := by decide +kernel
theorem dX10_cover_17 : decode cX10_cover 17 = .ok (.invokestatic 128, 3) := by decide +kernel
theorem dX10_cover_20 : decode cX10_cover 20 = .ok (.ifCond .eq 27, 3) := by decide +kernel
theorem dX10_cover_23 : decode cX10_cover 23 = .ok (.iload_n 3, 1) := by decide +kernel
theorem dX10_cover_24 : decode cX10_cover 24 = .ok (.iconst 0, 1) := by decide +kernel
theorem dX10_cover_25 : decode cX10_cover 25 = .ok (.aload_n 0, 1) := by decide +kernel
theorem dX10_cover_26 : decode cX10_cover 26 = .ok (.getfield 109, 3) := by decide +kernel
theorem dX10_cover_29 : decode cX10_cover 29 = .ok (.iconst 1, 1) := by decide +kernel
theorem dX10_cover_30 : decode cX10_cover 30 = .ok (.isub, 1) := by decide +kernel
theorem dX10_cover_31 : decode cX10_cover 31 = .ok (.invokestatic 128, 3) := by decide +kernel
theorem dX10_cover_34 : decode cX10_cover 34 = .ok (.ifCond .eq 13, 3) := by decide +kernel
theorem dX10_cover_37 : decode cX10_cover 37 = .ok (.iload 4, 2) := by decide +kernel
theorem dX10_cover_39 : decode cX10_cover 39 = .ok (.iconst 0, 1) := by decide +kernel
theorem dX10_cover_40 : decode cX10_cover 40 = .ok (.iconst 1, 1) := by decide +kernel
theorem dX10_cover_41 : decode cX10_cover 41 = .ok (.invokestatic 128, 3) := by decide +kernel
theorem dX10_cover_44 : decode cX10_cover 44 = .ok (.ifCond .ne 6, 3) := by decide +kernel
theorem dX10_cover_47 : decode cX10_cover 47 = .ok (.bipush (-2), 2) := by decide +kernel
theorem dX10_cover_49 : decode cX10_cover 49 = .ok (.ireturn, 1) := by decide +kernel
theorem dX10_cover_50 : decode cX10_cover 50 = .ok (.aload_n 0, 1) := by decide +kernel
theorem dX10_cover_51 : decode cX10_cover 51 = .ok (.getfield 176, 3) := by decide +kernel
theorem dX10_cover_54 : decode cX10_cover 54 = .ok (.iload_n 3, 1) := by decide +kernel
theorem dX10_cover_55 : decode cX10_cover 55 = .ok (.aload_n 0, 1) := by decide +kernel
theorem dX10_cover_56 : decode cX10_cover 56 = .ok (.getfield 105, 3) := by decide +kernel
theorem dX10_cover_59 : decode cX10_cover 59 = .ok (.imul, 1) := by decide +kernel
theorem dX10_cover_60 : decode cX10_cover 60 = .ok (.iload_n 2, 1) := by decide +kernel
theorem dX10_cover_61 : decode cX10_cover 61 = .ok (.iadd, 1) := by decide +kernel
theorem dX10_cover_62 : decode cX10_cover 62 = .ok (.ishr, 1) := by decide +kernel
theorem dX10_cover_63 : decode cX10_cover 63 = .ok (.iconst 1, 1) := by decide +kernel
theorem dX10_cover_64 : decode cX10_cover 64 = .ok (.iand, 1) := by decide +kernel
theorem dX10_cover_65 : decode cX10_cover 65 = .ok (.iconst 1, 1) := by decide +kernel
theorem dX10_cover_66 : decode cX10_cover 66 = .ok (.if_icmp .ne 5, 3) := by decide +kernel
theorem dX10_cover_69 : decode cX10_cover 69 = .ok (.iconst (-1), 1) := by decide +kernel
theorem dX10_cover_70 : decode cX10_cover 70 = .ok (.ireturn, 1) := by decide +kernel
theorem dX10_cover_71 : decode cX10_cover 71 = .ok (.iload_n 1, 1) := by decide +kernel
theorem dX10_cover_72 : decode cX10_cover 72 = .ok (.iconst 1, 1) := by decide +kernel
theorem dX10_cover_73 : decode cX10_cover 73 = .ok (.if_icmp .ne 10, 3) := by decide +kernel
theorem dX10_cover_76 : decode cX10_cover 76 = .ok (.aload_n 0, 1) := by decide +kernel
theorem dX10_cover_77 : decode cX10_cover 77 = .ok (.invokevirtual 209, 3) := by decide +kernel
theorem dX10_cover_80 : decode cX10_cover 80 = .ok (.goto 7, 3) := by decide +kernel
theorem dX10_cover_83 : decode cX10_cover 83 = .ok (.aload_n 0, 1) := by decide +kernel
theorem dX10_cover_84 : decode cX10_cover 84 = .ok (.invokevirtual 189, 3) := by decide +kernel
theorem dX10_cover_87 : decode cX10_cover 87 = .ok (.aload_n 0, 1) := by decide +kernel
theorem dX10_cover_88 : decode cX10_cover 88 = .ok (.getfield 176, 3) := by decide +kernel
theorem dX10_cover_91 : decode cX10_cover 91 = .ok (.istore 5, 2) := by decide +kernel
theorem dX10_cover_93 : decode cX10_cover 93 = .ok (.iconst 0, 1) := by decide +kernel
theorem dX10_cover_94 : decode cX10_cover 94 = .ok (.istore 6, 2) := by decide +kernel
theorem dX10_cover_96 : decode cX10_cover 96 = .ok (.aload_n 0, 1) := by decide +kernel
theorem dX10_cover_97 : decode cX10_cover 97 = .ok (.iload_n 1, 1) := by decide +kernel
theorem dX10_cover_98 : decode cX10_cover 98 = .ok (.iload 5, 2) := by decide +kernel
theorem dX10_cover_100 : decode cX10_cover 100 = .ok (.iload 6, 2) := by decide +kernel
theorem dX10_cover_102 : decode cX10_cover 102 = .ok (.invokevirtual 216, 3) := by decide +kernel
theorem dX10_cover_105 : decode cX10_cover 105 = .ok (.ifCond .ne 5, 3) := by decide +kernel
theorem dX10_cover_108 : decode cX10_cover 108 = .ok (.iconst (-1), 1) := by decide +kernel
theorem dX10_cover_109 : decode cX10_cover 109 = .ok (.ireturn, 1) := by decide +kernel
theorem dX10_cover_110 : decode cX10_cover 110 = .ok (.aload_n 0, 1) := by decide +kernel
theorem dX10_cover_111 : decode cX10_cover 111 = .ok (.aload_n 0, 1) := by decide +kernel
theorem dX10_cover_112 : decode cX10_cover 112 = .ok (.getfield 55, 3) := by decide +kernel
theorem dX10_cover_115 : decode cX10_cover 115 = .ok (.iload 5, 2) := by decide +kernel
theorem dX10_cover_117 : decode cX10_cover 117 = .ok (.invokestatic 196, 3) := by decide +kernel
theorem dX10_cover_120 : decode cX10_cover 120 = .ok (.iaload, 1) := by decide +kernel
theorem dX10_cover_121 : decode cX10_cover 121 = .ok (.iload 5, 2) := by decide +kernel
theorem dX10_cover_123 : decode cX10_cover 123 = .ok (.iload_n 1, 1) := by decide +kernel
theorem dX10_cover_124 : decode cX10_cover 124 = .ok (.iconst 1, 1) := by decide +kernel
theorem dX10_cover_125 : decode cX10_cover 125 = .ok (.if_icmp .ne 7, 3) := by decide +kernel
theorem dX10_cover_128 : decode cX10_cover 128 = .ok (.iconst 0, 1) := by decide +kernel
theorem dX10_cover_129 : decode cX10_cover 129 = .ok (.goto 5, 3) := by decide +kernel
theorem dX10_cover_132 : decode cX10_cover 132 = .ok (.iload 6, 2) := by decide +kernel
theorem dX10_cover_134 : decode cX10_cover 134 = .ok (.invokevirtual 206, 3) := by decide +kernel
theorem dX10_cover_137 : decode cX10_cover 137 = .ok (.istore 7, 2) := by decide +kernel
theorem dX10_cover_139 : decode cX10_cover 139 = .ok (.aload_n 0, 1) := by decide +kernel
theorem dX10_cover_140 : decode cX10_cover 140 = .ok (.iload_n 1, 1) := by decide +kernel
theorem dX10_cover_141 : decode cX10_cover 141 = .ok (.iload 5, 2) := by decide +kernel
theorem dX10_cover_143 : decode cX10_cover 143 = .ok (.aload_n 0, 1) := by decide +kernel
theorem dX10_cover_144 : decode cX10_cover 144 = .ok (.getfield 49, 3) := by decide +kernel
theorem dX10_cover_147 : decode cX10_cover 147 = .ok (.iload 7, 2) := by decide +kernel
theorem dX10_cover_149 : decode cX10_cover 149 = .ok (.iaload, 1) := by decide +kernel
theorem dX10_cover_150 : decode cX10_cover 150 = .ok (.ior, 1) := by decide +kernel
theorem dX10_cover_151 : decode cX10_cover 151 = .ok (.iload 6, 2) := by decide +kernel
theorem dX10_cover_153 : decode cX10_cover 153 = .ok (.iconst 1, 1) := by decide +kernel
theorem dX10_cover_154 : decode cX10_cover 154 = .ok (.aload_n 0, 1) := by decide +kernel
theorem dX10_cover_155 : decode cX10_cover 155 = .ok (.getfield 52, 3) := by decide +kernel
theorem dX10_cover_158 : decode cX10_cover 158 = .ok (.iload 7, 2) := by decide +kernel
theorem dX10_cover_160 : decode cX10_cover 160 = .ok (.iaload, 1) := by decide +kernel
theorem dX10_cover_161 : decode cX10_cover 161 = .ok (.ishl, 1) := by decide +kernel
theorem dX10_cover_162 : decode cX10_cover 162 = .ok (.ior, 1) := by decide +kernel
theorem dX10_cover_163 : decode cX10_cover 163 = .ok (.invokevirtual 216, 3) := by decide +kernel
theorem dX10_cover_166 : decode cX10_cover 166 = .ok (.ifCond .ne 29, 3) := by decide +kernel
theorem dX10_cover_169 : decode cX10_cover 169 = .ok (.aload_n 0, 1) := by decide +kernel
theorem dX10_cover_170 : decode cX10_cover 170 = .ok (.iload 7, 2) := by decide +kernel
theorem dX10_cover_172 : decode cX10_cover 172 = .ok (.iconst 1, 1) := by decide +kernel
theorem dX10_cover_173 : decode cX10_cover 173 = .ok (.iadd, 1) := by decide +kernel
theorem dX10_cover_174 : decode cX10_cover 174 = .ok (.iload 5, 2) := by decide +kernel
theorem dX10_cover_176 : decode cX10_cover 176 = .ok (.iload_n 1, 1) := by decide +kernel
theorem dX10_cover_177 : decode cX10_cover 177 = .ok (.iconst 1, 1) := by decide +kernel
theorem dX10_cover_178 : decode cX10_cover 178 = .ok (.if_icmp .ne 7, 3) := by decide +kernel
theorem dX10_cover_181 : decode cX10_cover 181 = .ok (.iconst 0, 1) := by decide +kernel
theorem dX10_cover_182 : decode cX10_cover 182 = .ok (.goto 5, 3) := by decide +kernel
theorem dX10_cover_185 : decode cX10_cover 185 = .ok (.iload 6, 2) := by decide +kernel
theorem dX10_cover_187 : decode cX10_cover 187 = .ok (.invokevirtual 206, 3) := by decide +kernel
theorem dX10_cover_190 : decode cX10_cover 190 = .ok (.istore 7, 2) := by decide +kernel
theorem dX10_cover_192 : decode cX10_cover 192 = .ok (.goto (-53), 3) := by decide +kernel
theorem dX10_cover_195 : decode cX10_cover 195 = .ok (.iload 5, 2) := by decide +kernel
theorem dX10_cover_197 : decode cX10_cover 197 = .ok (.aload_n 0, 1) := by decide +kernel
theorem dX10_cover_198 : decode cX10_cover 198 = .ok (.getfield 49, 3) := by decide +kernel
theorem dX10_cover_201 : decode cX10_cover 201 = .ok (.iload 7, 2) := by decide +kernel
theorem dX10_cover_203 : decode cX10_cover 203 = .ok (.iaload, 1) := by decide +kernel
theorem dX10_cover_204 : decode cX10_cover 204 = .ok (.ior, 1) := by decide +kernel
theorem dX10_cover_205 : decode cX10_cover 205 = .ok (.istore 5, 2) := by decide +kernel
theorem dX10_cover_207 : decode cX10_cover 207 = .ok (.iload 6, 2) := by decide +kernel
theorem dX10_cover_209 : decode cX10_cover 209 = .ok (.iconst 1, 1) := by decide +kernel
theorem dX10_cover_210 : decode cX10_cover 210 = .ok (.aload_n 0, 1) := by decide +kernel
theorem dX10_cover_211 : decode cX10_cover 211 = .ok (.getfield 52, 3) := by decide +kernel
theorem dX10_cover_214 : decode cX10_cover 214 = .ok (.iload 7, 2) := by decide +kernel
theorem dX10_cover_216 : decode cX10_cover 216 = .ok (.iaload, 1) := by decide +kernel
theorem dX10_cover_217 : decode cX10_cover 217 = .ok (.ishl, 1) := by decide +kernel
theorem dX10_cover_218 : decode cX10_cover 218 = .ok (.ior, 1) := by decide +kernel
theorem dX10_cover_219 : decode cX10_cover 219 = .ok (.istore 6, 2) := by decide +kernel
theorem dX10_cover_221 : decode cX10_cover 221 = .ok (.aload_n 0, 1) := by decide +kernel
theorem dX10_cover_222 : decode cX10_cover 222 = .ok (.getfield 49, 3) := by decide +kernel
theorem dX10_cover_225 : decode cX10_cover 225 = .ok (.iload 7, 2) := by decide +kernel
theorem dX10_cover_227 : decode cX10_cover 227 = .ok (.iaload, 1) := by decide +kernel
theorem dX10_cover_228 : decode cX10_cover 228 = .ok (.iload_n 3, 1) := by decide +kernel
theorem dX10_cover_229 : decode cX10_cover 229 = .ok (.aload_n 0, 1) := by decide +kernel
theorem dX10_cover_230 : decode cX10_cover 230 = .ok (.getfield 105, 3) := by decide +kernel
theorem dX10_cover_233 : decode cX10_cover 233 = .ok (.imul, 1) := by decide +kernel
theorem dX10_cover_234 : decode cX10_cover 234 = .ok (.iload_n 2, 1) := by decide +kernel
theorem dX10_cover_235 : decode cX10_cover 235 = .ok (.iadd, 1) := by decide +kernel
theorem dX10_cover_236 : decode cX10_cover 236 = .ok (.ishr, 1) := by decide +kernel
theorem dX10_cover_237 : decode cX10_cover 237 = .ok (.iconst 1, 1) := by decide +kernel
theorem dX10_cover_238 : decode cX10_cover 238 = .ok (.iand, 1) := by decide +kernel
theorem dX10_cover_239 : decode cX10_cover 239 = .ok (.iconst 1, 1) := by decide +kernel
theorem dX10_cover_240 : decode cX10_cover 240 = .ok (.if_icmp .ne 26, 3) := by decide +kernel
theorem dX10_cover_243 : decode cX10_cover 243 = .ok (.iload 4, 2) := by decide +kernel
theorem dX10_cover_245 : decode cX10_cover 245 = .ok (.ifCond .ne 13, 3) := by decide +kernel
theorem dX10_cover_248 : decode cX10_cover 248 = .ok (.aload_n 0, 1) := by decide +kernel
theorem dX10_cover_249 : decode cX10_cover 249 = .ok (.getfield 52, 3) := by decide +kernel
theorem dX10_cover_252 : decode cX10_cover 252 = .ok (.iload 7, 2) := by decide +kernel
theorem dX10_cover_254 : decode cX10_cover 254 = .ok (.iaload, 1) := by decide +kernel
theorem dX10_cover_255 : decode cX10_cover 255 = .ok (.goto 10, 3) := by decide +kernel
theorem dX10_cover_258 : decode cX10_cover 258 = .ok (.aload_n 0, 1) := by decide +kernel
theorem dX10_cover_259 : decode cX10_cover 259 = .ok (.getfield 49, 3) := by decide +kernel
theorem dX10_cover_262 : decode cX10_cover 262 = .ok (.iload 7, 2) := by decide +kernel
theorem dX10_cover_264 : decode cX10_cover 264 = .ok (.iaload, 1) := by decide +kernel
theorem dX10_cover_265 : decode cX10_cover 265 = .ok (.ireturn, 1) := by decide +kernel
theorem dX10_cover_266 : decode cX10_cover 266 = .ok (.goto (-156), 3) := by decide +kernel
theorem dX10_leads_0 : decode cX10_leads 0 = .ok (.iload_n 1, 1) := by decide +kernel
theorem dX10_leads_1 : decode cX10_leads 1 = .ok (.iconst 1, 1) := by decide +kernel
theorem dX10_leads_2 : decode cX10_leads 2 = .ok (.if_icmp .ne 20, 3) := by decide +kernel
theorem dX10_leads_5 : decode cX10_leads 5 = .ok (.aload_n 0, 1) := by decide +kernel
theorem dX10_leads_6 : decode cX10_leads 6 = .ok (.getfield 59, 3) := by decide +kernel
theorem dX10_leads_9 : decode cX10_leads 9 = .ok (.iload_n 2, 1) := by decide +kernel
theorem dX10_leads_10 : decode cX10_leads 10 = .ok (.laload, 1) := by decide +kernel
theorem dX10_leads_11 : decode cX10_leads 11 = .ok (.lconst 0, 1) := by decide +kernel
theorem dX10_leads_12 : decode cX10_leads 12 = .ok (.lcmp, 1) := by decide +kernel
theorem dX10_leads_13 : decode cX10_leads 13 = .ok (.ifCond .eq 7, 3) := by decide +kernel
theorem dX10_leads_16 : decode cX10_leads 16 = .ok (.iconst 1, 1) := by decide +kernel
theorem dX10_leads_17 : decode cX10_leads 17 = .ok (.goto 4, 3) := by decide +kernel
theorem dX10_leads_20 : decode cX10_leads 20 = .ok (.iconst 0, 1) := by decide +kernel
theorem dX10_leads_21 : decode cX10_leads 21 = .ok (.ireturn, 1) := by decide +kernel
theorem dX10_leads_22 : decode cX10_leads 22 = .ok (.aload_n 0, 1) := by decide +kernel
theorem dX10_leads_23 : decode cX10_leads 23 = .ok (.iload_n 2, 1) := by decide +kernel
theorem dX10_leads_24 : decode cX10_leads 24 = .ok (.iload_n 3, 1) := by decide +kernel
theorem dX10_leads_25 : decode cX10_leads 25 = .ok (.iload_n 1, 1) := by decide +kernel
theorem dX10_leads_26 : decode cX10_leads 26 = .ok (.ifCond .ne 7, 3) := by decide +kernel
theorem dX10_leads_29 : decode cX10_leads 29 = .ok (.iconst 1, 1) := by decide +kernel
theorem dX10_leads_30 : decode cX10_leads 30 = .ok (.goto 4, 3) := by decide +kernel
theorem dX10_leads_33 : decode cX10_leads 33 = .ok (.iconst 0, 1) := by decide +kernel
theorem dX10_leads_34 : decode cX10_leads 34 = .ok (.invokevirtual 212, 3) := by decide +kernel
theorem dX10_leads_37 : decode cX10_leads 37 = .ok (.aload_n 0, 1) := by decide +kernel
theorem dX10_leads_38 : decode cX10_leads 38 = .ok (.getfield 199, 3) := by decide +kernel
theorem dX10_leads_41 : decode cX10_leads 41 = .ok (.lconst 0, 1) := by decide +kernel
theorem dX10_leads_42 : decode cX10_leads 42 = .ok (.lcmp, 1) := by decide +kernel
theorem dX10_leads_43 : decode cX10_leads 43 = .ok (.ifCond .le 7, 3) := by decide +kernel
theorem dX10_leads_46 : decode cX10_leads 46 = .ok (.iconst 1, 1) := by decide +kernel
theorem dX10_leads_47 : decode cX10_leads 47 = .ok (.goto 4, 3) := by decide +kernel
theorem dX10_leads_50 : decode cX10_leads 50 = .ok (.iconst 0, 1) := by decide +kernel
theorem dX10_leads_51 : decode cX10_leads 51 = .ok (.ireturn, 1) := by decide +kernel
theorem dX10_fewest_0 : decode cX10_fewest 0 = .ok (.iload_n 1, 1) := by decide +kernel
theorem dX10_fewest_1 : decode cX10_fewest 1 = .ok (.iconst 0, 1) := by decide +kernel
theorem dX10_fewest_2 : decode cX10_fewest 2 = .ok (.iconst 2, 1) := by decide +kernel
theorem dX10_fewest_3 : decode cX10_fewest 3 = .ok (.invokestatic 128, 3) := by decide +kernel
theorem dX10_fewest_6 : decode cX10_fewest 6 = .ok (.ifCond .ne 6, 3) := by decide +kernel
theorem dX10_fewest_9 : decode cX10_fewest 9 = .ok (.bipush (-2), 2) := by decide +kernel
theorem dX10_fewest_11 : decode cX10_fewest 11 = .ok (.ireturn, 1) := by decide +kernel
theorem dX10_fewest_12 : decode cX10_fewest 12 = .ok (.iload_n 1, 1) := by decide +kernel
theorem dX10_fewest_13 : decode cX10_fewest 13 = .ok (.iconst 1, 1) := by decide +kernel
theorem dX10_fewest_14 : decode cX10_fewest 14 = .ok (.if_icmp .ne 35, 3) := by decide +kernel
theorem dX10_fewest_17 : decode cX10_fewest 17 = .ok (.aload_n 0, 1) := by decide +kernel
theorem dX10_fewest_18 : decode cX10_fewest 18 = .ok (.invokevirtual 209, 3) := by decide +kernel
theorem dX10_fewest_21 : decode cX10_fewest 21 = .ok (.aload_n 0, 1) := by decide +kernel
theorem dX10_fewest_22 : decode cX10_fewest 22 = .ok (.getfield 62, 3) := by decide +kernel
theorem dX10_fewest_25 : decode cX10_fewest 25 = .ok (.aload_n 0, 1) := by decide +kernel
theorem dX10_fewest_26 : decode cX10_fewest 26 = .ok (.getfield 176, 3) := by decide +kernel
theorem dX10_fewest_29 : decode cX10_fewest 29 = .ok (.baload, 1) := by decide +kernel
theorem dX10_fewest_30 : decode cX10_fewest 30 = .ok (.bipush 100, 2) := by decide +kernel
theorem dX10_fewest_32 : decode cX10_fewest 32 = .ok (.if_icmp .ne 7, 3) := by decide +kernel
theorem dX10_fewest_35 : decode cX10_fewest 35 = .ok (.iconst (-1), 1) := by decide +kernel
theorem dX10_fewest_36 : decode cX10_fewest 36 = .ok (.goto 12, 3) := by decide +kernel
theorem dX10_fewest_39 : decode cX10_fewest 39 = .ok (.aload_n 0, 1) := by decide +kernel
theorem dX10_fewest_40 : decode cX10_fewest 40 = .ok (.getfield 62, 3) := by decide +kernel
theorem dX10_fewest_43 : decode cX10_fewest 43 = .ok (.aload_n 0, 1) := by decide +kernel
theorem dX10_fewest_44 : decode cX10_fewest 44 = .ok (.getfield 176, 3) := by decide +kernel
theorem dX10_fewest_47 : decode cX10_fewest 47 = .ok (.baload, 1) := by decide +kernel
theorem dX10_fewest_48 : decode cX10_fewest 48 = .ok (.ireturn, 1) := by decide +kernel
theorem dX10_fewest_49 : decode cX10_fewest 49 = .ok (.aload_n 0, 1) := by decide +kernel
theorem dX10_fewest_50 : decode cX10_fewest 50 = .ok (.invokevirtual 189, 3) := by decide +kernel
theorem dX10_fewest_53 : decode cX10_fewest 53 = .ok (.aload_n 0, 1) := by decide +kernel
theorem dX10_fewest_54 : decode cX10_fewest 54 = .ok (.aload_n 0, 1) := by decide +kernel
theorem dX10_fewest_55 : decode cX10_fewest 55 = .ok (.getfield 176, 3) := by decide +kernel
theorem dX10_fewest_58 : decode cX10_fewest 58 = .ok (.iconst 0, 1) := by decide +kernel
theorem dX10_fewest_59 : decode cX10_fewest 59 = .ok (.iload_n 1, 1) := by decide +kernel
theorem dX10_fewest_60 : decode cX10_fewest 60 = .ok (.ifCond .ne 7, 3) := by decide +kernel
theorem dX10_fewest_63 : decode cX10_fewest 63 = .ok (.iconst 1, 1) := by decide +kernel
theorem dX10_fewest_64 : decode cX10_fewest 64 = .ok (.goto 4, 3) := by decide +kernel
theorem dX10_fewest_67 : decode cX10_fewest 67 = .ok (.iconst 0, 1) := by decide +kernel
theorem dX10_fewest_68 : decode cX10_fewest 68 = .ok (.invokevirtual 212, 3) := by decide +kernel
theorem dX10_fewest_71 : decode cX10_fewest 71 = .ok (.aload_n 0, 1) := by decide +kernel
theorem dX10_fewest_72 : decode cX10_fewest 72 = .ok (.getfield 199, 3) := by decide +kernel
theorem dX10_fewest_75 : decode cX10_fewest 75 = .ok (.lconst 0, 1) := by decide +kernel
theorem dX10_fewest_76 : decode cX10_fewest 76 = .ok (.lcmp, 1) := by decide +kernel
theorem dX10_fewest_77 : decode cX10_fewest 77 = .ok (.ifCond .ne 7, 3) := by decide +kernel
theorem dX10_fewest_80 : decode cX10_fewest 80 = .ok (.iconst (-1), 1) := by decide +kernel
theorem dX10_fewest_81 : decode cX10_fewest 81 = .ok (.goto 7, 3) := by decide +kernel
theorem dX10_fewest_84 : decode cX10_fewest 84 = .ok (.aload_n 0, 1) := by decide +kernel
theorem dX10_fewest_85 : decode cX10_fewest 85 = .ok (.getfield 203, 3) := by decide +kernel
theorem dX10_fewest_88 : decode cX10_fewest 88 = .ok (.ireturn, 1) := by decide +kernel
theorem dX10_letters_0 : decode cX10_letters 0 = .ok (.iload_n 1, 1) := by decide +kernel
theorem dX10_letters_1 : decode cX10_letters 1 = .ok (.iconst 1, 1) := by decide +kernel
theorem dX10_letters_2 : decode cX10_letters 2 = .ok (.bipush 6, 2) := by decide +kernel
theorem dX10_letters_4 : decode cX10_letters 4 = .ok (.invokestatic 128, 3) := by decide +kernel
theorem dX10_letters_7 : decode cX10_letters 7 = .ok (.ifCond .eq 12, 3) := by decide +kernel
theorem dX10_letters_10 : decode cX10_letters 10 = .ok (.iload_n 2, 1) := by decide +kernel
theorem dX10_letters_11 : decode cX10_letters 11 = .ok (.iconst 2, 1) := by decide +kernel
theorem dX10_letters_12 : decode cX10_letters 12 = .ok (.iconst 3, 1) := by decide +kernel
theorem dX10_letters_13 : decode cX10_letters 13 = .ok (.invokestatic 128, 3) := by decide +kernel
theorem dX10_letters_16 : decode cX10_letters 16 = .ok (.ifCond .ne 6, 3) := by decide +kernel
theorem dX10_letters_19 : decode cX10_letters 19 = .ok (.bipush (-2), 2) := by decide +kernel
theorem dX10_letters_21 : decode cX10_letters 21 = .ok (.ireturn, 1) := by decide +kernel
theorem dX10_letters_22 : decode cX10_letters 22 = .ok (.aload_n 0, 1) := by decide +kernel
theorem dX10_letters_23 : decode cX10_letters 23 = .ok (.getfield 119, 3) := by decide +kernel
theorem dX10_letters_26 : decode cX10_letters 26 = .ok (.istore_n 3, 1) := by decide +kernel
theorem dX10_letters_27 : decode cX10_letters 27 = .ok (.aload_n 0, 1) := by decide +kernel
theorem dX10_letters_28 : decode cX10_letters 28 = .ok (.iload_n 1, 1) := by decide +kernel
theorem dX10_letters_29 : decode cX10_letters 29 = .ok (.putfield 119, 3) := by decide +kernel
theorem dX10_letters_32 : decode cX10_letters 32 = .ok (.aload_n 0, 1) := by decide +kernel
theorem dX10_letters_33 : decode cX10_letters 33 = .ok (.iload_n 2, 1) := by decide +kernel
theorem dX10_letters_34 : decode cX10_letters 34 = .ok (.putfield 122, 3) := by decide +kernel
theorem dX10_letters_37 : decode cX10_letters 37 = .ok (.iconst 0, 1) := by decide +kernel
theorem dX10_letters_38 : decode cX10_letters 38 = .ok (.istore 4, 2) := by decide +kernel
theorem dX10_letters_40 : decode cX10_letters 40 = .ok (.iload 4, 2) := by decide +kernel
theorem dX10_letters_42 : decode cX10_letters 42 = .ok (.bipush 54, 2) := by decide +kernel
theorem dX10_letters_44 : decode cX10_letters 44 = .ok (.if_icmp .ge 17, 3) := by decide +kernel
theorem dX10_letters_47 : decode cX10_letters 47 = .ok (.aload_n 0, 1) := by decide +kernel
theorem dX10_letters_48 : decode cX10_letters 48 = .ok (.getfield 78, 3) := by decide +kernel
theorem dX10_letters_51 : decode cX10_letters 51 = .ok (.iload 4, 2) := by decide +kernel
theorem dX10_letters_53 : decode cX10_letters 53 = .ok (.iconst 0, 1) := by decide +kernel
theorem dX10_letters_54 : decode cX10_letters 54 = .ok (.iastore, 1) := by decide +kernel
theorem dX10_letters_55 : decode cX10_letters 55 = .ok (.iinc 4 1, 3) := by decide +kernel
theorem dX10_letters_58 : decode cX10_letters 58 = .ok (.goto (-18), 3) := by decide +kernel
theorem dX10_letters_61 : decode cX10_letters 61 = .ok (.iload_n 3, 1) := by decide +kernel
theorem dX10_letters_62 : decode cX10_letters 62 = .ok (.ireturn, 1) := by decide +kernel
theorem dX10_isLetter_0 : decode cX10_isLetter 0 = .ok (.iload_n 1, 1) := by decide +kernel
theorem dX10_isLetter_1 : decode cX10_isLetter 1 = .ok (.iconst 0, 1) := by decide +kernel
theorem dX10_isLetter_2 : decode cX10_isLetter 2 = .ok (.aload_n 0, 1) := by decide +kernel
theorem dX10_isLetter_3 : decode cX10_isLetter 3 = .ok (.getfield 119, 3) := by decide +kernel
theorem dX10_isLetter_6 : decode cX10_isLetter 6 = .ok (.iconst 1, 1) := by decide +kernel
theorem dX10_isLetter_7 : decode cX10_isLetter 7 = .ok (.isub, 1) := by decide +kernel
theorem dX10_isLetter_8 : decode cX10_isLetter 8 = .ok (.invokestatic 128, 3) := by decide +kernel
theorem dX10_isLetter_11 : decode cX10_isLetter 11 = .ok (.ireturn, 1) := by decide +kernel
theorem dX10_at_0 : decode cX10_at 0 = .ok (.aload_n 0, 1) := by decide +kernel
theorem dX10_at_1 : decode cX10_at 1 = .ok (.getfield 78, 3) := by decide +kernel
theorem dX10_at_4 : decode cX10_at 4 = .ok (.bipush 9, 2) := by decide +kernel
theorem dX10_at_6 : decode cX10_at 6 = .ok (.iload_n 1, 1) := by decide +kernel
theorem dX10_at_7 : decode cX10_at 7 = .ok (.imul, 1) := by decide +kernel
theorem dX10_at_8 : decode cX10_at 8 = .ok (.aload_n 0, 1) := by decide +kernel
theorem dX10_at_9 : decode cX10_at 9 = .ok (.getfield 122, 3) := by decide +kernel
theorem dX10_at_12 : decode cX10_at 12 = .ok (.iload_n 3, 1) := by decide +kernel
theorem dX10_at_13 : decode cX10_at 13 = .ok (.imul, 1) := by decide +kernel
theorem dX10_at_14 : decode cX10_at 14 = .ok (.iadd, 1) := by decide +kernel
theorem dX10_at_15 : decode cX10_at 15 = .ok (.iload_n 2, 1) := by decide +kernel
theorem dX10_at_16 : decode cX10_at 16 = .ok (.iadd, 1) := by decide +kernel
theorem dX10_at_17 : decode cX10_at 17 = .ok (.iaload, 1) := by decide +kernel
theorem dX10_at_18 : decode cX10_at 18 = .ok (.ireturn, 1) := by decide +kernel
theorem dX10_block_0 : decode cX10_block 0 = .ok (.aload_n 0, 1) := by decide +kernel
theorem dX10_block_1 : decode cX10_block 1 = .ok (.iload_n 1, 1) := by decide +kernel
theorem dX10_block_2 : decode cX10_block 2 = .ok (.invokevirtual 219, 3) := by decide +kernel
theorem dX10_block_5 : decode cX10_block 5 = .ok (.ifCond .eq 40, 3) := by decide +kernel
theorem dX10_block_8 : decode cX10_block 8 = .ok (.aload_n 0, 1) := by decide +kernel
theorem dX10_block_9 : decode cX10_block 9 = .ok (.iload 4, 2) := by decide +kernel
theorem dX10_block_11 : decode cX10_block 11 = .ok (.invokevirtual 219, 3) := by decide +kernel
theorem dX10_block_14 : decode cX10_block 14 = .ok (.ifCond .eq 31, 3) := by decide +kernel
theorem dX10_block_17 : decode cX10_block 17 = .ok (.iload_n 2, 1) := by decide +kernel
theorem dX10_block_18 : decode cX10_block 18 = .ok (.iconst 0, 1) := by decide +kernel
theorem dX10_block_19 : decode cX10_block 19 = .ok (.aload_n 0, 1) := by decide +kernel
theorem dX10_block_20 : decode cX10_block 20 = .ok (.getfield 122, 3) := by decide +kernel
theorem dX10_block_23 : decode cX10_block 23 = .ok (.iconst 1, 1) := by decide +kernel
theorem dX10_block_24 : decode cX10_block 24 = .ok (.isub, 1) := by decide +kernel
theorem dX10_block_25 : decode cX10_block 25 = .ok (.invokestatic 128, 3) := by decide +kernel
theorem dX10_block_28 : decode cX10_block 28 = .ok (.ifCond .eq 17, 3) := by decide +kernel
theorem dX10_block_31 : decode cX10_block 31 = .ok (.iload_n 3, 1) := by decide +kernel
theorem dX10_block_32 : decode cX10_block 32 = .ok (.iconst 0, 1) := by decide +kernel
theorem dX10_block_33 : decode cX10_block 33 = .ok (.aload_n 0, 1) := by decide +kernel
theorem dX10_block_34 : decode cX10_block 34 = .ok (.getfield 122, 3) := by decide +kernel
theorem dX10_block_37 : decode cX10_block 37 = .ok (.iconst 1, 1) := by decide +kernel
theorem dX10_block_38 : decode cX10_block 38 = .ok (.isub, 1) := by decide +kernel
theorem dX10_block_39 : decode cX10_block 39 = .ok (.invokestatic 128, 3) := by decide +kernel
theorem dX10_block_42 : decode cX10_block 42 = .ok (.ifCond .ne 6, 3) := by decide +kernel
theorem dX10_block_45 : decode cX10_block 45 = .ok (.bipush (-2), 2) := by decide +kernel
theorem dX10_block_47 : decode cX10_block 47 = .ok (.ireturn, 1) := by decide +kernel
theorem dX10_block_48 : decode cX10_block 48 = .ok (.aload_n 0, 1) := by decide +kernel
theorem dX10_block_49 : decode cX10_block 49 = .ok (.iload_n 1, 1) := by decide +kernel
theorem dX10_block_50 : decode cX10_block 50 = .ok (.iload_n 2, 1) := by decide +kernel
theorem dX10_block_51 : decode cX10_block 51 = .ok (.iload_n 3, 1) := by decide +kernel
theorem dX10_block_52 : decode cX10_block 52 = .ok (.invokevirtual 222, 3) := by decide +kernel
theorem dX10_block_55 : decode cX10_block 55 = .ok (.istore 5, 2) := by decide +kernel
theorem dX10_block_57 : decode cX10_block 57 = .ok (.aload_n 0, 1) := by decide +kernel
theorem dX10_block_58 : decode cX10_block 58 = .ok (.getfield 78, 3) := by decide +kernel
theorem dX10_block_61 : decode cX10_block 61 = .ok (.bipush 9, 2) := by decide +kernel
theorem dX10_block_63 : decode cX10_block 63 = .ok (.iload_n 1, 1) := by decide +kernel
theorem dX10_block_64 : decode cX10_block 64 = .ok (.imul, 1) := by decide +kernel
theorem dX10_block_65 : decode cX10_block 65 = .ok (.aload_n 0, 1) := by decide +kernel
theorem dX10_block_66 : decode cX10_block 66 = .ok (.getfield 122, 3) := by decide +kernel
theorem dX10_block_69 : decode cX10_block 69 = .ok (.iload_n 3, 1) := by decide +kernel
theorem dX10_block_70 : decode cX10_block 70 = .ok (.imul, 1) := by decide +kernel
theorem dX10_block_71 : decode cX10_block 71 = .ok (.iadd, 1) := by decide +kernel
theorem dX10_block_72 : decode cX10_block 72 = .ok (.iload_n 2, 1) := by decide +kernel
theorem dX10_block_73 : decode cX10_block 73 = .ok (.iadd, 1) := by decide +kernel
theorem dX10_block_74 : decode cX10_block 74 = .ok (.iload 4, 2) := by decide +kernel
theorem dX10_block_76 : decode cX10_block 76 = .ok (.iastore, 1) := by decide +kernel
theorem dX10_block_77 : decode cX10_block 77 = .ok (.iload 5, 2) := by decide +kernel
theorem dX10_block_79 : decode cX10_block 79 = .ok (.ireturn, 1) := by decide +kernel
theorem dX10_width_0 : decode cX10_width 0 = .ok (.iconst 1, 1) := by decide +kernel
theorem dX10_width_1 : decode cX10_width 1 = .ok (.istore_n 2, 1) := by decide +kernel
theorem dX10_width_2 : decode cX10_width 2 = .ok (.iconst 0, 1) := by decide +kernel
theorem dX10_width_3 : decode cX10_width 3 = .ok (.istore_n 3, 1) := by decide +kernel
theorem dX10_width_4 : decode cX10_width 4 = .ok (.iload_n 3, 1) := by decide +kernel
theorem dX10_width_5 : decode cX10_width 5 = .ok (.iload_n 1, 1) := by decide +kernel
theorem dX10_width_6 : decode cX10_width 6 = .ok (.if_icmp .ge 16, 3) := by decide +kernel
theorem dX10_width_9 : decode cX10_width 9 = .ok (.iload_n 2, 1) := by decide +kernel
theorem dX10_width_10 : decode cX10_width 10 = .ok (.aload_n 0, 1) := by decide +kernel
theorem dX10_width_11 : decode cX10_width 11 = .ok (.getfield 122, 3) := by decide +kernel
theorem dX10_width_14 : decode cX10_width 14 = .ok (.imul, 1) := by decide +kernel
theorem dX10_width_15 : decode cX10_width 15 = .ok (.istore_n 2, 1) := by decide +kernel
theorem dX10_width_16 : decode cX10_width 16 = .ok (.iinc 3 1, 3) := by decide +kernel
theorem dX10_width_19 : decode cX10_width 19 = .ok (.goto (-15), 3) := by decide +kernel
theorem dX10_width_22 : decode cX10_width 22 = .ok (.iload_n 2, 1) := by decide +kernel
theorem dX10_width_23 : decode cX10_width 23 = .ok (.ireturn, 1) := by decide +kernel
theorem dX10_grown_0 : decode cX10_grown 0 = .ok (.aload_n 0, 1) := by decide +kernel
theorem dX10_grown_1 : decode cX10_grown 1 = .ok (.iload_n 2, 1) := by decide +kernel
theorem dX10_grown_2 : decode cX10_grown 2 = .ok (.invokevirtual 225, 3) := by decide +kernel
theorem dX10_grown_5 : decode cX10_grown 5 = .ok (.istore 5, 2) := by decide +kernel
theorem dX10_grown_7 : decode cX10_grown 7 = .ok (.iload_n 1, 1) := by decide +kernel
theorem dX10_grown_8 : decode cX10_grown 8 = .ok (.istore 6, 2) := by decide +kernel
theorem dX10_grown_10 : decode cX10_grown 10 = .ok (.iload 5, 2) := by decide +kernel
theorem dX10_grown_12 : decode cX10_grown 12 = .ok (.iconst 1, 1) := by decide +kernel
theorem dX10_grown_13 : decode cX10_grown 13 = .ok (.if_icmp .le 42, 3) := by decide +kernel
theorem dX10_grown_16 : decode cX10_grown 16 = .ok (.iload 5, 2) := by decide +kernel
theorem dX10_grown_18 : decode cX10_grown 18 = .ok (.aload_n 0, 1) := by decide +kernel
theorem dX10_grown_19 : decode cX10_grown 19 = .ok (.getfield 122, 3) := by decide +kernel
theorem dX10_grown_22 : decode cX10_grown 22 = .ok (.idiv, 1) := by decide +kernel
theorem dX10_grown_23 : decode cX10_grown 23 = .ok (.istore 5, 2) := by decide +kernel
theorem dX10_grown_25 : decode cX10_grown 25 = .ok (.aload_n 0, 1) := by decide +kernel
theorem dX10_grown_26 : decode cX10_grown 26 = .ok (.iload 6, 2) := by decide +kernel
theorem dX10_grown_28 : decode cX10_grown 28 = .ok (.iload_n 3, 1) := by decide +kernel
theorem dX10_grown_29 : decode cX10_grown 29 = .ok (.iload 5, 2) := by decide +kernel
theorem dX10_grown_31 : decode cX10_grown 31 = .ok (.idiv, 1) := by decide +kernel
theorem dX10_grown_32 : decode cX10_grown 32 = .ok (.aload_n 0, 1) := by decide +kernel
theorem dX10_grown_33 : decode cX10_grown 33 = .ok (.getfield 122, 3) := by decide +kernel
theorem dX10_grown_36 : decode cX10_grown 36 = .ok (.irem, 1) := by decide +kernel
theorem dX10_grown_37 : decode cX10_grown 37 = .ok (.iload 4, 2) := by decide +kernel
theorem dX10_grown_39 : decode cX10_grown 39 = .ok (.iload 5, 2) := by decide +kernel
theorem dX10_grown_41 : decode cX10_grown 41 = .ok (.idiv, 1) := by decide +kernel
theorem dX10_grown_42 : decode cX10_grown 42 = .ok (.aload_n 0, 1) := by decide +kernel
theorem dX10_grown_43 : decode cX10_grown 43 = .ok (.getfield 122, 3) := by decide +kernel
theorem dX10_grown_46 : decode cX10_grown 46 = .ok (.irem, 1) := by decide +kernel
theorem dX10_grown_47 : decode cX10_grown 47 = .ok (.invokevirtual 222, 3) := by decide +kernel
theorem dX10_grown_50 : decode cX10_grown 50 = .ok (.istore 6, 2) := by decide +kernel
theorem dX10_grown_52 : decode cX10_grown 52 = .ok (.goto (-42), 3) := by decide +kernel
theorem dX10_grown_55 : decode cX10_grown 55 = .ok (.iload 6, 2) := by decide +kernel
theorem dX10_grown_57 : decode cX10_grown 57 = .ok (.ireturn, 1) := by decide +kernel
theorem dX10_letter_0 : decode cX10_letter 0 = .ok (.aload_n 0, 1) := by decide +kernel
theorem dX10_letter_1 : decode cX10_letter 1 = .ok (.iload_n 1, 1) := by decide +kernel
theorem dX10_letter_2 : decode cX10_letter 2 = .ok (.invokevirtual 219, 3) := by decide +kernel
theorem dX10_letter_5 : decode cX10_letter 5 = .ok (.ifCond .eq 44, 3) := by decide +kernel
theorem dX10_letter_8 : decode cX10_letter 8 = .ok (.iload_n 2, 1) := by decide +kernel
theorem dX10_letter_9 : decode cX10_letter 9 = .ok (.iconst 0, 1) := by decide +kernel
theorem dX10_letter_10 : decode cX10_letter 10 = .ok (.bipush 12, 2) := by decide +kernel
theorem dX10_letter_12 : decode cX10_letter 12 = .ok (.invokestatic 128, 3) := by decide +kernel
theorem dX10_letter_15 : decode cX10_letter 15 = .ok (.ifCond .eq 34, 3) := by decide +kernel
theorem dX10_letter_18 : decode cX10_letter 18 = .ok (.iload_n 3, 1) := by decide +kernel
theorem dX10_letter_19 : decode cX10_letter 19 = .ok (.iconst 0, 1) := by decide +kernel
theorem dX10_letter_20 : decode cX10_letter 20 = .ok (.aload_n 0, 1) := by decide +kernel
theorem dX10_letter_21 : decode cX10_letter 21 = .ok (.iload_n 2, 1) := by decide +kernel
theorem dX10_letter_22 : decode cX10_letter 22 = .ok (.invokevirtual 225, 3) := by decide +kernel
theorem dX10_letter_25 : decode cX10_letter 25 = .ok (.iconst 1, 1) := by decide +kernel
theorem dX10_letter_26 : decode cX10_letter 26 = .ok (.isub, 1) := by decide +kernel
theorem dX10_letter_27 : decode cX10_letter 27 = .ok (.invokestatic 128, 3) := by decide +kernel
theorem dX10_letter_30 : decode cX10_letter 30 = .ok (.ifCond .eq 19, 3) := by decide +kernel
theorem dX10_letter_33 : decode cX10_letter 33 = .ok (.iload 4, 2) := by decide +kernel
theorem dX10_letter_35 : decode cX10_letter 35 = .ok (.iconst 0, 1) := by decide +kernel
theorem dX10_letter_36 : decode cX10_letter 36 = .ok (.aload_n 0, 1) := by decide +kernel
theorem dX10_letter_37 : decode cX10_letter 37 = .ok (.iload_n 2, 1) := by decide +kernel
theorem dX10_letter_38 : decode cX10_letter 38 = .ok (.invokevirtual 225, 3) := by decide +kernel
theorem dX10_letter_41 : decode cX10_letter 41 = .ok (.iconst 1, 1) := by decide +kernel
theorem dX10_letter_42 : decode cX10_letter 42 = .ok (.isub, 1) := by decide +kernel
theorem dX10_letter_43 : decode cX10_letter 43 = .ok (.invokestatic 128, 3) := by decide +kernel
theorem dX10_letter_46 : decode cX10_letter 46 = .ok (.ifCond .ne 6, 3) := by decide +kernel
theorem dX10_letter_49 : decode cX10_letter 49 = .ok (.bipush (-2), 2) := by decide +kernel
theorem dX10_letter_51 : decode cX10_letter 51 = .ok (.ireturn, 1) := by decide +kernel
theorem dX10_letter_52 : decode cX10_letter 52 = .ok (.aload_n 0, 1) := by decide +kernel
theorem dX10_letter_53 : decode cX10_letter 53 = .ok (.iload_n 1, 1) := by decide +kernel
theorem dX10_letter_54 : decode cX10_letter 54 = .ok (.iload_n 2, 1) := by decide +kernel
theorem dX10_letter_55 : decode cX10_letter 55 = .ok (.iload_n 3, 1) := by decide +kernel
theorem dX10_letter_56 : decode cX10_letter 56 = .ok (.iload 4, 2) := by decide +kernel
theorem dX10_letter_58 : decode cX10_letter 58 = .ok (.invokevirtual 228, 3) := by decide +kernel
theorem dX10_letter_61 : decode cX10_letter 61 = .ok (.ireturn, 1) := by decide +kernel
theorem dX10_many_0 : decode cX10_many 0 = .ok (.aload_n 0, 1) := by decide +kernel
theorem dX10_many_1 : decode cX10_many 1 = .ok (.iload_n 1, 1) := by decide +kernel
theorem dX10_many_2 : decode cX10_many 2 = .ok (.invokevirtual 219, 3) := by decide +kernel
theorem dX10_many_5 : decode cX10_many 5 = .ok (.ifCond .eq 21, 3) := by decide +kernel
theorem dX10_many_8 : decode cX10_many 8 = .ok (.aload_n 0, 1) := by decide +kernel
theorem dX10_many_9 : decode cX10_many 9 = .ok (.iload_n 3, 1) := by decide +kernel
theorem dX10_many_10 : decode cX10_many 10 = .ok (.invokevirtual 219, 3) := by decide +kernel
theorem dX10_many_13 : decode cX10_many 13 = .ok (.ifCond .eq 13, 3) := by decide +kernel
theorem dX10_many_16 : decode cX10_many 16 = .ok (.iload_n 2, 1) := by decide +kernel
theorem dX10_many_17 : decode cX10_many 17 = .ok (.iconst 0, 1) := by decide +kernel
theorem dX10_many_18 : decode cX10_many 18 = .ok (.bipush 18, 2) := by decide +kernel
theorem dX10_many_20 : decode cX10_many 20 = .ok (.invokestatic 128, 3) := by decide +kernel
theorem dX10_many_23 : decode cX10_many 23 = .ok (.ifCond .ne 7, 3) := by decide +kernel
theorem dX10_many_26 : decode cX10_many 26 = .ok (.ldc2_w 158, 3) := by decide +kernel
theorem dX10_many_29 : decode cX10_many 29 = .ok (.lreturn, 1) := by decide +kernel
theorem dX10_many_30 : decode cX10_many 30 = .ok (.iconst 0, 1) := by decide +kernel
theorem dX10_many_31 : decode cX10_many 31 = .ok (.istore 4, 2) := by decide +kernel
theorem dX10_many_33 : decode cX10_many 33 = .ok (.iload 4, 2) := by decide +kernel
theorem dX10_many_35 : decode cX10_many 35 = .ok (.bipush 6, 2) := by decide +kernel
theorem dX10_many_37 : decode cX10_many 37 = .ok (.if_icmp .ge 27, 3) := by decide +kernel
theorem dX10_many_40 : decode cX10_many 40 = .ok (.aload_n 0, 1) := by decide +kernel
theorem dX10_many_41 : decode cX10_many 41 = .ok (.getfield 81, 3) := by decide +kernel
theorem dX10_many_44 : decode cX10_many 44 = .ok (.iload 4, 2) := by decide +kernel
theorem dX10_many_46 : decode cX10_many 46 = .ok (.iload 4, 2) := by decide +kernel
theorem dX10_many_48 : decode cX10_many 48 = .ok (.iload_n 1, 1) := by decide +kernel
theorem dX10_many_49 : decode cX10_many 49 = .ok (.if_icmp .ne 7, 3) := by decide +kernel
theorem dX10_many_52 : decode cX10_many 52 = .ok (.lconst 1, 1) := by decide +kernel
theorem dX10_many_53 : decode cX10_many 53 = .ok (.goto 4, 3) := by decide +kernel
theorem dX10_many_56 : decode cX10_many 56 = .ok (.lconst 0, 1) := by decide +kernel
theorem dX10_many_57 : decode cX10_many 57 = .ok (.lastore, 1) := by decide +kernel
theorem dX10_many_58 : decode cX10_many 58 = .ok (.iinc 4 1, 3) := by decide +kernel
theorem dX10_many_61 : decode cX10_many 61 = .ok (.goto (-28), 3) := by decide +kernel
theorem dX10_many_64 : decode cX10_many 64 = .ok (.iconst 0, 1) := by decide +kernel
theorem dX10_many_65 : decode cX10_many 65 = .ok (.istore 4, 2) := by decide +kernel
theorem dX10_many_67 : decode cX10_many 67 = .ok (.iload 4, 2) := by decide +kernel
theorem dX10_many_69 : decode cX10_many 69 = .ok (.iload_n 2, 1) := by decide +kernel
theorem dX10_many_70 : decode cX10_many 70 = .ok (.if_icmp .ge 132, 3) := by decide +kernel
theorem dX10_many_73 : decode cX10_many 73 = .ok (.iconst 0, 1) := by decide +kernel
theorem dX10_many_74 : decode cX10_many 74 = .ok (.istore 5, 2) := by decide +kernel
theorem dX10_many_76 : decode cX10_many 76 = .ok (.iload 5, 2) := by decide +kernel
theorem dX10_many_78 : decode cX10_many 78 = .ok (.bipush 6, 2) := by decide +kernel
theorem dX10_many_80 : decode cX10_many 80 = .ok (.if_icmp .ge 17, 3) := by decide +kernel
theorem dX10_many_83 : decode cX10_many 83 = .ok (.aload_n 0, 1) := by decide +kernel
theorem dX10_many_84 : decode cX10_many 84 = .ok (.getfield 84, 3) := by decide +kernel
theorem dX10_many_87 : decode cX10_many 87 = .ok (.iload 5, 2) := by decide +kernel
theorem dX10_many_89 : decode cX10_many 89 = .ok (.lconst 0, 1) := by decide +kernel
theorem dX10_many_90 : decode cX10_many 90 = .ok (.lastore, 1) := by decide +kernel
theorem dX10_many_91 : decode cX10_many 91 = .ok (.iinc 5 1, 3) := by decide +kernel
theorem dX10_many_94 : decode cX10_many 94 = .ok (.goto (-18), 3) := by decide +kernel
theorem dX10_many_97 : decode cX10_many 97 = .ok (.iconst 0, 1) := by decide +kernel
theorem dX10_many_98 : decode cX10_many 98 = .ok (.istore 5, 2) := by decide +kernel
theorem dX10_many_100 : decode cX10_many 100 = .ok (.iload 5, 2) := by decide +kernel
theorem dX10_many_102 : decode cX10_many 102 = .ok (.aload_n 0, 1) := by decide +kernel
theorem dX10_many_103 : decode cX10_many 103 = .ok (.getfield 119, 3) := by decide +kernel
theorem dX10_many_106 : decode cX10_many 106 = .ok (.if_icmp .ge 60, 3) := by decide +kernel
theorem dX10_many_109 : decode cX10_many 109 = .ok (.iconst 0, 1) := by decide +kernel
theorem dX10_many_110 : decode cX10_many 110 = .ok (.istore 6, 2) := by decide +kernel
theorem dX10_many_112 : decode cX10_many 112 = .ok (.iload 6, 2) := by decide +kernel
theorem dX10_many_114 : decode cX10_many 114 = .ok (.aload_n 0, 1) := by decide +kernel
theorem dX10_many_115 : decode cX10_many 115 = .ok (.getfield 122, 3) := by decide +kernel
theorem dX10_many_118 : decode cX10_many 118 = .ok (.aload_n 0, 1) := by decide +kernel
theorem dX10_many_119 : decode cX10_many 119 = .ok (.getfield 122, 3) := by decide +kernel
theorem dX10_many_122 : decode cX10_many 122 = .ok (.imul, 1) := by decide +kernel
theorem dX10_many_123 : decode cX10_many 123 = .ok (.if_icmp .ge 37, 3) := by decide +kernel
theorem dX10_many_126 : decode cX10_many 126 = .ok (.aload_n 0, 1) := by decide +kernel
theorem dX10_many_127 : decode cX10_many 127 = .ok (.getfield 84, 3) := by decide +kernel
theorem dX10_many_130 : decode cX10_many 130 = .ok (.aload_n 0, 1) := by decide +kernel
theorem dX10_many_131 : decode cX10_many 131 = .ok (.getfield 78, 3) := by decide +kernel
theorem dX10_many_134 : decode cX10_many 134 = .ok (.bipush 9, 2) := by decide +kernel
theorem dX10_many_136 : decode cX10_many 136 = .ok (.iload 5, 2) := by decide +kernel
theorem dX10_many_138 : decode cX10_many 138 = .ok (.imul, 1) := by decide +kernel
theorem dX10_many_139 : decode cX10_many 139 = .ok (.iload 6, 2) := by decide +kernel
theorem dX10_many_141 : decode cX10_many 141 = .ok (.iadd, 1) := by decide +kernel
theorem dX10_many_142 : decode cX10_many 142 = .ok (.iaload, 1) := by decide +kernel
theorem dX10_many_143 : decode cX10_many 143 = .ok (.dup2, 1) := by decide +kernel
theorem dX10_many_144 : decode cX10_many 144 = .ok (.laload, 1) := by decide +kernel
theorem dX10_many_145 : decode cX10_many 145 = .ok (.aload_n 0, 1) := by decide +kernel
theorem dX10_many_146 : decode cX10_many 146 = .ok (.getfield 81, 3) := by decide +kernel
theorem dX10_many_149 : decode cX10_many 149 = .ok (.iload 5, 2) := by decide +kernel
theorem dX10_many_151 : decode cX10_many 151 = .ok (.laload, 1) := by decide +kernel
theorem dX10_many_152 : decode cX10_many 152 = .ok (.ladd, 1) := by decide +kernel
theorem dX10_many_153 : decode cX10_many 153 = .ok (.lastore, 1) := by decide +kernel
theorem dX10_many_154 : decode cX10_many 154 = .ok (.iinc 6 1, 3) := by decide +kernel
theorem dX10_many_157 : decode cX10_many 157 = .ok (.goto (-45), 3) := by decide +kernel
theorem dX10_many_160 : decode cX10_many 160 = .ok (.iinc 5 1, 3) := by decide +kernel
theorem dX10_many_163 : decode cX10_many 163 = .ok (.goto (-63), 3) := by decide +kernel
theorem dX10_many_166 : decode cX10_many 166 = .ok (.iconst 0, 1) := by decide +kernel
theorem dX10_many_167 : decode cX10_many 167 = .ok (.istore 5, 2) := by decide +kernel
theorem dX10_many_169 : decode cX10_many 169 = .ok (.iload 5, 2) := by decide +kernel
theorem dX10_many_171 : decode cX10_many 171 = .ok (.bipush 6, 2) := by decide +kernel
theorem dX10_many_173 : decode cX10_many 173 = .ok (.if_icmp .ge 23, 3) := by decide +kernel
theorem dX10_many_176 : decode cX10_many 176 = .ok (.aload_n 0, 1) := by decide +kernel
theorem dX10_many_177 : decode cX10_many 177 = .ok (.getfield 81, 3) := by decide +kernel
theorem dX10_many_180 : decode cX10_many 180 = .ok (.iload 5, 2) := by decide +kernel
theorem dX10_many_182 : decode cX10_many 182 = .ok (.aload_n 0, 1) := by decide +kernel
theorem dX10_many_183 : decode cX10_many 183 = .ok (.getfield 84, 3) := by decide +kernel
theorem dX10_many_186 : decode cX10_many 186 = .ok (.iload 5, 2) := by decide +kernel
theorem dX10_many_188 : decode cX10_many 188 = .ok (.laload, 1) := by decide +kernel
theorem dX10_many_189 : decode cX10_many 189 = .ok (.lastore, 1) := by decide +kernel
theorem dX10_many_190 : decode cX10_many 190 = .ok (.iinc 5 1, 3) := by decide +kernel
theorem dX10_many_193 : decode cX10_many 193 = .ok (.goto (-24), 3) := by decide +kernel
theorem dX10_many_196 : decode cX10_many 196 = .ok (.iinc 4 1, 3) := by decide +kernel
theorem dX10_many_199 : decode cX10_many 199 = .ok (.goto (-132), 3) := by decide +kernel
theorem dX10_many_202 : decode cX10_many 202 = .ok (.aload_n 0, 1) := by decide +kernel
theorem dX10_many_203 : decode cX10_many 203 = .ok (.getfield 81, 3) := by decide +kernel
theorem dX10_many_206 : decode cX10_many 206 = .ok (.iload_n 3, 1) := by decide +kernel
theorem dX10_many_207 : decode cX10_many 207 = .ok (.laload, 1) := by decide +kernel
theorem dX10_many_208 : decode cX10_many 208 = .ok (.lreturn, 1) := by decide +kernel
theorem dX10_reach_0 : decode cX10_reach 0 = .ok (.aload_n 0, 1) := by decide +kernel
theorem dX10_reach_1 : decode cX10_reach 1 = .ok (.getfield 87, 3) := by decide +kernel
theorem dX10_reach_4 : decode cX10_reach 4 = .ok (.iload_n 1, 1) := by decide +kernel
theorem dX10_reach_5 : decode cX10_reach 5 = .ok (.iaload, 1) := by decide +kernel
theorem dX10_reach_6 : decode cX10_reach 6 = .ok (.iconst (-1), 1) := by decide +kernel
theorem dX10_reach_7 : decode cX10_reach 7 = .ok (.if_icmp .ne 10, 3) := by decide +kernel
theorem dX10_reach_10 : decode cX10_reach 10 = .ok (.aload_n 0, 1) := by decide +kernel
theorem dX10_reach_11 : decode cX10_reach 11 = .ok (.getfield 87, 3) := by decide +kernel
theorem dX10_reach_14 : decode cX10_reach 14 = .ok (.iload_n 1, 1) := by decide +kernel
theorem dX10_reach_15 : decode cX10_reach 15 = .ok (.iload_n 2, 1) := by decide +kernel
theorem dX10_reach_16 : decode cX10_reach 16 = .ok (.iastore, 1) := by decide +kernel
theorem dX10_reach_17 : decode cX10_reach 17 = .ok (.return_, 1) := by decide +kernel
theorem dX10_beside_0 : decode cX10_beside 0 = .ok (.aload_n 0, 1) := by decide +kernel
theorem dX10_beside_1 : decode cX10_beside 1 = .ok (.iload_n 1, 1) := by decide +kernel
theorem dX10_beside_2 : decode cX10_beside 2 = .ok (.invokevirtual 219, 3) := by decide +kernel
theorem dX10_beside_5 : decode cX10_beside 5 = .ok (.ifCond .eq 29, 3) := by decide +kernel
theorem dX10_beside_8 : decode cX10_beside 8 = .ok (.aload_n 0, 1) := by decide +kernel
theorem dX10_beside_9 : decode cX10_beside 9 = .ok (.iload_n 2, 1) := by decide +kernel
theorem dX10_beside_10 : decode cX10_beside 10 = .ok (.invokevirtual 219, 3) := by decide +kernel
theorem dX10_beside_13 : decode cX10_beside 13 = .ok (.ifCond .eq 21, 3) := by decide +kernel
theorem dX10_beside_16 : decode cX10_beside 16 = .ok (.aload_n 0, 1) := by decide +kernel
theorem dX10_beside_17 : decode cX10_beside 17 = .ok (.iload_n 3, 1) := by decide +kernel
theorem dX10_beside_18 : decode cX10_beside 18 = .ok (.invokevirtual 219, 3) := by decide +kernel
theorem dX10_beside_21 : decode cX10_beside 21 = .ok (.ifCond .eq 13, 3) := by decide +kernel
theorem dX10_beside_24 : decode cX10_beside 24 = .ok (.iload 4, 2) := by decide +kernel
theorem dX10_beside_26 : decode cX10_beside 26 = .ok (.iconst 0, 1) := by decide +kernel
theorem dX10_beside_27 : decode cX10_beside 27 = .ok (.iconst 1, 1) := by decide +kernel
theorem dX10_beside_28 : decode cX10_beside 28 = .ok (.invokestatic 128, 3) := by decide +kernel
theorem dX10_beside_31 : decode cX10_beside 31 = .ok (.ifCond .ne 6, 3) := by decide +kernel
theorem dX10_beside_34 : decode cX10_beside 34 = .ok (.bipush (-2), 2) := by decide +kernel
theorem dX10_beside_36 : decode cX10_beside 36 = .ok (.ireturn, 1) := by decide +kernel
theorem dX10_beside_37 : decode cX10_beside 37 = .ok (.iconst 0, 1) := by decide +kernel
theorem dX10_beside_38 : decode cX10_beside 38 = .ok (.istore 5, 2) := by decide +kernel
theorem dX10_beside_40 : decode cX10_beside 40 = .ok (.iload 5, 2) := by decide +kernel
theorem dX10_beside_42 : decode cX10_beside 42 = .ok (.bipush 78, 2) := by decide +kernel
theorem dX10_beside_44 : decode cX10_beside 44 = .ok (.if_icmp .ge 17, 3) := by decide +kernel
theorem dX10_beside_47 : decode cX10_beside 47 = .ok (.aload_n 0, 1) := by decide +kernel
theorem dX10_beside_48 : decode cX10_beside 48 = .ok (.getfield 87, 3) := by decide +kernel
theorem dX10_beside_51 : decode cX10_beside 51 = .ok (.iload 5, 2) := by decide +kernel
theorem dX10_beside_53 : decode cX10_beside 53 = .ok (.iconst (-1), 1) := by decide +kernel
theorem dX10_beside_54 : decode cX10_beside 54 = .ok (.iastore, 1) := by decide +kernel
theorem dX10_beside_55 : decode cX10_beside 55 = .ok (.iinc 5 1, 3) := by decide +kernel
theorem dX10_beside_58 : decode cX10_beside 58 = .ok (.goto (-18), 3) := by decide +kernel
theorem dX10_beside_61 : decode cX10_beside 61 = .ok (.aload_n 0, 1) := by decide +kernel
theorem dX10_beside_62 : decode cX10_beside 62 = .ok (.getfield 87, 3) := by decide +kernel
theorem dX10_beside_65 : decode cX10_beside 65 = .ok (.iload_n 1, 1) := by decide +kernel
theorem dX10_beside_66 : decode cX10_beside 66 = .ok (.iconst 0, 1) := by decide +kernel
theorem dX10_beside_67 : decode cX10_beside 67 = .ok (.iastore, 1) := by decide +kernel
theorem dX10_beside_68 : decode cX10_beside 68 = .ok (.iconst 1, 1) := by decide +kernel
theorem dX10_beside_69 : decode cX10_beside 69 = .ok (.istore 5, 2) := by decide +kernel
theorem dX10_beside_71 : decode cX10_beside 71 = .ok (.iload 5, 2) := by decide +kernel
theorem dX10_beside_73 : decode cX10_beside 73 = .ok (.bipush 90, 2) := by decide +kernel
theorem dX10_beside_75 : decode cX10_beside 75 = .ok (.if_icmp .ge 221, 3) := by decide +kernel
theorem dX10_beside_78 : decode cX10_beside 78 = .ok (.iconst 0, 1) := by decide +kernel
theorem dX10_beside_79 : decode cX10_beside 79 = .ok (.istore 6, 2) := by decide +kernel
theorem dX10_beside_81 : decode cX10_beside 81 = .ok (.iload 6, 2) := by decide +kernel
theorem dX10_beside_83 : decode cX10_beside 83 = .ok (.aload_n 0, 1) := by decide +kernel
theorem dX10_beside_84 : decode cX10_beside 84 = .ok (.getfield 119, 3) := by decide +kernel
theorem dX10_beside_87 : decode cX10_beside 87 = .ok (.if_icmp .ge 203, 3) := by decide +kernel
theorem dX10_beside_90 : decode cX10_beside 90 = .ok (.aload_n 0, 1) := by decide +kernel
theorem dX10_beside_91 : decode cX10_beside 91 = .ok (.getfield 87, 3) := by decide +kernel
theorem dX10_beside_94 : decode cX10_beside 94 = .ok (.iload 6, 2) := by decide +kernel
theorem dX10_beside_96 : decode cX10_beside 96 = .ok (.iaload, 1) := by decide +kernel
theorem dX10_beside_97 : decode cX10_beside 97 = .ok (.iload 5, 2) := by decide +kernel
theorem dX10_beside_99 : decode cX10_beside 99 = .ok (.iconst 1, 1) := by decide +kernel
theorem dX10_beside_100 : decode cX10_beside 100 = .ok (.isub, 1) := by decide +kernel
theorem dX10_beside_101 : decode cX10_beside 101 = .ok (.if_icmp .ne 11, 3) := by decide +kernel
theorem dX10_beside_104 : decode cX10_beside 104 = .ok (.aload_n 0, 1) := by decide +kernel
theorem dX10_beside_105 : decode cX10_beside 105 = .ok (.iload 6, 2) := by decide +kernel
theorem dX10_beside_107 : decode cX10_beside 107 = .ok (.iload 5, 2) := by decide +kernel
theorem dX10_beside_109 : decode cX10_beside 109 = .ok (.invokevirtual 232, 3) := by decide +kernel
theorem dX10_beside_112 : decode cX10_beside 112 = .ok (.iconst 0, 1) := by decide +kernel
theorem dX10_beside_113 : decode cX10_beside 113 = .ok (.istore 7, 2) := by decide +kernel
theorem dX10_beside_115 : decode cX10_beside 115 = .ok (.iload 7, 2) := by decide +kernel
theorem dX10_beside_117 : decode cX10_beside 117 = .ok (.aload_n 0, 1) := by decide +kernel
theorem dX10_beside_118 : decode cX10_beside 118 = .ok (.getfield 119, 3) := by decide +kernel
theorem dX10_beside_121 : decode cX10_beside 121 = .ok (.if_icmp .ge 163, 3) := by decide +kernel
theorem dX10_beside_124 : decode cX10_beside 124 = .ok (.aload_n 0, 1) := by decide +kernel
theorem dX10_beside_125 : decode cX10_beside 125 = .ok (.getfield 87, 3) := by decide +kernel
theorem dX10_beside_128 : decode cX10_beside 128 = .ok (.bipush 6, 2) := by decide +kernel
theorem dX10_beside_130 : decode cX10_beside 130 = .ok (.bipush 6, 2) := by decide +kernel
theorem dX10_beside_132 : decode cX10_beside 132 = .ok (.iload 6, 2) := by decide +kernel
theorem dX10_beside_134 : decode cX10_beside 134 = .ok (.imul, 1) := by decide +kernel
theorem dX10_beside_135 : decode cX10_beside 135 = .ok (.iadd, 1) := by decide +kernel
theorem dX10_beside_136 : decode cX10_beside 136 = .ok (.iload 7, 2) := by decide +kernel
theorem dX10_beside_138 : decode cX10_beside 138 = .ok (.iadd, 1) := by decide +kernel
theorem dX10_beside_139 : decode cX10_beside 139 = .ok (.iaload, 1) := by decide +kernel
theorem dX10_beside_140 : decode cX10_beside 140 = .ok (.iload 5, 2) := by decide +kernel
theorem dX10_beside_142 : decode cX10_beside 142 = .ok (.iconst 1, 1) := by decide +kernel
theorem dX10_beside_143 : decode cX10_beside 143 = .ok (.isub, 1) := by decide +kernel
theorem dX10_beside_144 : decode cX10_beside 144 = .ok (.if_icmp .ne 57, 3) := by decide +kernel
theorem dX10_beside_147 : decode cX10_beside 147 = .ok (.iconst 0, 1) := by decide +kernel
theorem dX10_beside_148 : decode cX10_beside 148 = .ok (.istore 8, 2) := by decide +kernel
theorem dX10_beside_150 : decode cX10_beside 150 = .ok (.iload 8, 2) := by decide +kernel
theorem dX10_beside_152 : decode cX10_beside 152 = .ok (.aload_n 0, 1) := by decide +kernel
theorem dX10_beside_153 : decode cX10_beside 153 = .ok (.getfield 122, 3) := by decide +kernel
theorem dX10_beside_156 : decode cX10_beside 156 = .ok (.if_icmp .ge 45, 3) := by decide +kernel
theorem dX10_beside_159 : decode cX10_beside 159 = .ok (.aload_n 0, 1) := by decide +kernel
theorem dX10_beside_160 : decode cX10_beside 160 = .ok (.bipush 6, 2) := by decide +kernel
theorem dX10_beside_162 : decode cX10_beside 162 = .ok (.bipush 6, 2) := by decide +kernel
theorem dX10_beside_164 : decode cX10_beside 164 = .ok (.aload_n 0, 1) := by decide +kernel
theorem dX10_beside_165 : decode cX10_beside 165 = .ok (.iload 6, 2) := by decide +kernel
theorem dX10_beside_167 : decode cX10_beside 167 = .ok (.aload_n 0, 1) := by decide +kernel
theorem dX10_beside_168 : decode cX10_beside 168 = .ok (.getfield 122, 3) := by decide +kernel
theorem dX10_beside_171 : decode cX10_beside 171 = .ok (.iconst 1, 1) := by decide +kernel
theorem dX10_beside_172 : decode cX10_beside 172 = .ok (.isub, 1) := by decide +kernel
theorem dX10_beside_173 : decode cX10_beside 173 = .ok (.iload 8, 2) := by decide +kernel
theorem dX10_beside_175 : decode cX10_beside 175 = .ok (.invokevirtual 222, 3) := by decide +kernel
theorem dX10_beside_178 : decode cX10_beside 178 = .ok (.imul, 1) := by decide +kernel
theorem dX10_beside_179 : decode cX10_beside 179 = .ok (.iadd, 1) := by decide +kernel
theorem dX10_beside_180 : decode cX10_beside 180 = .ok (.aload_n 0, 1) := by decide +kernel
theorem dX10_beside_181 : decode cX10_beside 181 = .ok (.iload 7, 2) := by decide +kernel
theorem dX10_beside_183 : decode cX10_beside 183 = .ok (.iconst 0, 1) := by decide +kernel
theorem dX10_beside_184 : decode cX10_beside 184 = .ok (.iload 8, 2) := by decide +kernel
theorem dX10_beside_186 : decode cX10_beside 186 = .ok (.invokevirtual 222, 3) := by decide +kernel
theorem dX10_beside_189 : decode cX10_beside 189 = .ok (.iadd, 1) := by decide +kernel
