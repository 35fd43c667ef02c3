theorem dX10_beside_190 : decode cX10_beside 190 = .ok (.iload 5, 2) := by decide +kernel
theorem dX10_beside_192 : decode cX10_beside 192 = .ok (.invokevirtual 235, 3) := by decide +kernel
theorem dX10_beside_195 : decode cX10_beside 195 = .ok (.iinc 8 1, 3) := by decide +kernel
theorem dX10_beside_198 : decode cX10_beside 198 = .ok (.goto (-48), 3) := by decide +kernel
theorem dX10_beside_201 : decode cX10_beside 201 = .ok (.aload_n 0, 1) := by decide +kernel
theorem dX10_beside_202 : decode cX10_beside 202 = .ok (.getfield 87, 3) := by decide +kernel
theorem dX10_beside_205 : decode cX10_beside 205 = .ok (.bipush 42, 2) := by decide +kernel
theorem dX10_beside_207 : decode cX10_beside 207 = .ok (.bipush 6, 2) := by decide +kernel
theorem dX10_beside_209 : decode cX10_beside 209 = .ok (.iload 6, 2) := by decide +kernel
theorem dX10_beside_211 : decode cX10_beside 211 = .ok (.imul, 1) := by decide +kernel
theorem dX10_beside_212 : decode cX10_beside 212 = .ok (.iadd, 1) := by decide +kernel
theorem dX10_beside_213 : decode cX10_beside 213 = .ok (.iload 7, 2) := by decide +kernel
theorem dX10_beside_215 : decode cX10_beside 215 = .ok (.iadd, 1) := by decide +kernel
theorem dX10_beside_216 : decode cX10_beside 216 = .ok (.iaload, 1) := by decide +kernel
theorem dX10_beside_217 : decode cX10_beside 217 = .ok (.iload 5, 2) := by decide +kernel
theorem dX10_beside_219 : decode cX10_beside 219 = .ok (.iconst 1, 1) := by decide +kernel
theorem dX10_beside_220 : decode cX10_beside 220 = .ok (.isub, 1) := by decide +kernel
theorem dX10_beside_221 : decode cX10_beside 221 = .ok (.if_icmp .ne 57, 3) := by decide +kernel
theorem dX10_beside_224 : decode cX10_beside 224 = .ok (.iconst 0, 1) := by decide +kernel
theorem dX10_beside_225 : decode cX10_beside 225 = .ok (.istore 8, 2) := by decide +kernel
theorem dX10_beside_227 : decode cX10_beside 227 = .ok (.iload 8, 2) := by decide +kernel
theorem dX10_beside_229 : decode cX10_beside 229 = .ok (.aload_n 0, 1) := by decide +kernel
theorem dX10_beside_230 : decode cX10_beside 230 = .ok (.getfield 122, 3) := by decide +kernel
theorem dX10_beside_233 : decode cX10_beside 233 = .ok (.if_icmp .ge 45, 3) := by decide +kernel
theorem dX10_beside_236 : decode cX10_beside 236 = .ok (.aload_n 0, 1) := by decide +kernel
theorem dX10_beside_237 : decode cX10_beside 237 = .ok (.bipush 42, 2) := by decide +kernel
theorem dX10_beside_239 : decode cX10_beside 239 = .ok (.bipush 6, 2) := by decide +kernel
theorem dX10_beside_241 : decode cX10_beside 241 = .ok (.aload_n 0, 1) := by decide +kernel
theorem dX10_beside_242 : decode cX10_beside 242 = .ok (.iload 6, 2) := by decide +kernel
theorem dX10_beside_244 : decode cX10_beside 244 = .ok (.iload 8, 2) := by decide +kernel
theorem dX10_beside_246 : decode cX10_beside 246 = .ok (.aload_n 0, 1) := by decide +kernel
theorem dX10_beside_247 : decode cX10_beside 247 = .ok (.getfield 122, 3) := by decide +kernel
theorem dX10_beside_250 : decode cX10_beside 250 = .ok (.iconst 1, 1) := by decide +kernel
theorem dX10_beside_251 : decode cX10_beside 251 = .ok (.isub, 1) := by decide +kernel
theorem dX10_beside_252 : decode cX10_beside 252 = .ok (.invokevirtual 222, 3) := by decide +kernel
theorem dX10_beside_255 : decode cX10_beside 255 = .ok (.imul, 1) := by decide +kernel
theorem dX10_beside_256 : decode cX10_beside 256 = .ok (.iadd, 1) := by decide +kernel
theorem dX10_beside_257 : decode cX10_beside 257 = .ok (.aload_n 0, 1) := by decide +kernel
theorem dX10_beside_258 : decode cX10_beside 258 = .ok (.iload 7, 2) := by decide +kernel
theorem dX10_beside_260 : decode cX10_beside 260 = .ok (.iload 8, 2) := by decide +kernel
theorem dX10_beside_262 : decode cX10_beside 262 = .ok (.iconst 0, 1) := by decide +kernel
theorem dX10_beside_263 : decode cX10_beside 263 = .ok (.invokevirtual 222, 3) := by decide +kernel
theorem dX10_beside_266 : decode cX10_beside 266 = .ok (.iadd, 1) := by decide +kernel
theorem dX10_beside_267 : decode cX10_beside 267 = .ok (.iload 5, 2) := by decide +kernel
theorem dX10_beside_269 : decode cX10_beside 269 = .ok (.invokevirtual 235, 3) := by decide +kernel
theorem dX10_beside_272 : decode cX10_beside 272 = .ok (.iinc 8 1, 3) := by decide +kernel
theorem dX10_beside_275 : decode cX10_beside 275 = .ok (.goto (-48), 3) := by decide +kernel
theorem dX10_beside_278 : decode cX10_beside 278 = .ok (.iinc 7 1, 3) := by decide +kernel
theorem dX10_beside_281 : decode cX10_beside 281 = .ok (.goto (-166), 3) := by decide +kernel
theorem dX10_beside_284 : decode cX10_beside 284 = .ok (.iinc 6 1, 3) := by decide +kernel
theorem dX10_beside_287 : decode cX10_beside 287 = .ok (.goto (-206), 3) := by decide +kernel
theorem dX10_beside_290 : decode cX10_beside 290 = .ok (.iinc 5 1, 3) := by decide +kernel
theorem dX10_beside_293 : decode cX10_beside 293 = .ok (.goto (-222), 3) := by decide +kernel
theorem dX10_beside_296 : decode cX10_beside 296 = .ok (.aload_n 0, 1) := by decide +kernel
theorem dX10_beside_297 : decode cX10_beside 297 = .ok (.getfield 87, 3) := by decide +kernel
theorem dX10_beside_300 : decode cX10_beside 300 = .ok (.iload 4, 2) := by decide +kernel
theorem dX10_beside_302 : decode cX10_beside 302 = .ok (.ifCond .ne 8, 3) := by decide +kernel
theorem dX10_beside_305 : decode cX10_beside 305 = .ok (.bipush 6, 2) := by decide +kernel
theorem dX10_beside_307 : decode cX10_beside 307 = .ok (.goto 5, 3) := by decide +kernel
theorem dX10_beside_310 : decode cX10_beside 310 = .ok (.bipush 42, 2) := by decide +kernel
theorem dX10_beside_312 : decode cX10_beside 312 = .ok (.bipush 6, 2) := by decide +kernel
theorem dX10_beside_314 : decode cX10_beside 314 = .ok (.iload_n 2, 1) := by decide +kernel
theorem dX10_beside_315 : decode cX10_beside 315 = .ok (.imul, 1) := by decide +kernel
theorem dX10_beside_316 : decode cX10_beside 316 = .ok (.iadd, 1) := by decide +kernel
theorem dX10_beside_317 : decode cX10_beside 317 = .ok (.iload_n 3, 1) := by decide +kernel
theorem dX10_beside_318 : decode cX10_beside 318 = .ok (.iadd, 1) := by decide +kernel
theorem dX10_beside_319 : decode cX10_beside 319 = .ok (.iaload, 1) := by decide +kernel
theorem dX10_beside_320 : decode cX10_beside 320 = .ok (.ireturn, 1) := by decide +kernel
theorem dX10_inside_0 : decode cX10_inside 0 = .ok (.iconst 0, 1) := by decide +kernel
theorem dX10_inside_1 : decode cX10_inside 1 = .ok (.istore_n 3, 1) := by decide +kernel
theorem dX10_inside_2 : decode cX10_inside 2 = .ok (.iload_n 3, 1) := by decide +kernel
theorem dX10_inside_3 : decode cX10_inside 3 = .ok (.aload_n 0, 1) := by decide +kernel
theorem dX10_inside_4 : decode cX10_inside 4 = .ok (.getfield 122, 3) := by decide +kernel
theorem dX10_inside_7 : decode cX10_inside 7 = .ok (.if_icmp .ge 121, 3) := by decide +kernel
theorem dX10_inside_10 : decode cX10_inside 10 = .ok (.iconst 0, 1) := by decide +kernel
theorem dX10_inside_11 : decode cX10_inside 11 = .ok (.istore 4, 2) := by decide +kernel
theorem dX10_inside_13 : decode cX10_inside 13 = .ok (.iload 4, 2) := by decide +kernel
theorem dX10_inside_15 : decode cX10_inside 15 = .ok (.aload_n 0, 1) := by decide +kernel
theorem dX10_inside_16 : decode cX10_inside 16 = .ok (.getfield 122, 3) := by decide +kernel
theorem dX10_inside_19 : decode cX10_inside 19 = .ok (.if_icmp .ge 103, 3) := by decide +kernel
theorem dX10_inside_22 : decode cX10_inside 22 = .ok (.aload_n 0, 1) := by decide +kernel
theorem dX10_inside_23 : decode cX10_inside 23 = .ok (.aload_n 0, 1) := by decide +kernel
theorem dX10_inside_24 : decode cX10_inside 24 = .ok (.iload_n 1, 1) := by decide +kernel
theorem dX10_inside_25 : decode cX10_inside 25 = .ok (.iload 4, 2) := by decide +kernel
theorem dX10_inside_27 : decode cX10_inside 27 = .ok (.iload_n 3, 1) := by decide +kernel
theorem dX10_inside_28 : decode cX10_inside 28 = .ok (.invokevirtual 222, 3) := by decide +kernel
theorem dX10_inside_31 : decode cX10_inside 31 = .ok (.iload_n 2, 1) := by decide +kernel
theorem dX10_inside_32 : decode cX10_inside 32 = .ok (.invokevirtual 235, 3) := by decide +kernel
theorem dX10_inside_35 : decode cX10_inside 35 = .ok (.iload 4, 2) := by decide +kernel
theorem dX10_inside_37 : decode cX10_inside 37 = .ok (.iconst 1, 1) := by decide +kernel
theorem dX10_inside_38 : decode cX10_inside 38 = .ok (.iadd, 1) := by decide +kernel
theorem dX10_inside_39 : decode cX10_inside 39 = .ok (.aload_n 0, 1) := by decide +kernel
theorem dX10_inside_40 : decode cX10_inside 40 = .ok (.getfield 122, 3) := by decide +kernel
theorem dX10_inside_43 : decode cX10_inside 43 = .ok (.if_icmp .ge 33, 3) := by decide +kernel
theorem dX10_inside_46 : decode cX10_inside 46 = .ok (.aload_n 0, 1) := by decide +kernel
theorem dX10_inside_47 : decode cX10_inside 47 = .ok (.bipush 6, 2) := by decide +kernel
theorem dX10_inside_49 : decode cX10_inside 49 = .ok (.bipush 6, 2) := by decide +kernel
theorem dX10_inside_51 : decode cX10_inside 51 = .ok (.aload_n 0, 1) := by decide +kernel
theorem dX10_inside_52 : decode cX10_inside 52 = .ok (.iload_n 1, 1) := by decide +kernel
theorem dX10_inside_53 : decode cX10_inside 53 = .ok (.iload 4, 2) := by decide +kernel
theorem dX10_inside_55 : decode cX10_inside 55 = .ok (.iload_n 3, 1) := by decide +kernel
theorem dX10_inside_56 : decode cX10_inside 56 = .ok (.invokevirtual 222, 3) := by decide +kernel
theorem dX10_inside_59 : decode cX10_inside 59 = .ok (.imul, 1) := by decide +kernel
theorem dX10_inside_60 : decode cX10_inside 60 = .ok (.iadd, 1) := by decide +kernel
theorem dX10_inside_61 : decode cX10_inside 61 = .ok (.aload_n 0, 1) := by decide +kernel
theorem dX10_inside_62 : decode cX10_inside 62 = .ok (.iload_n 1, 1) := by decide +kernel
theorem dX10_inside_63 : decode cX10_inside 63 = .ok (.iload 4, 2) := by decide +kernel
theorem dX10_inside_65 : decode cX10_inside 65 = .ok (.iconst 1, 1) := by decide +kernel
theorem dX10_inside_66 : decode cX10_inside 66 = .ok (.iadd, 1) := by decide +kernel
theorem dX10_inside_67 : decode cX10_inside 67 = .ok (.iload_n 3, 1) := by decide +kernel
theorem dX10_inside_68 : decode cX10_inside 68 = .ok (.invokevirtual 222, 3) := by decide +kernel
theorem dX10_inside_71 : decode cX10_inside 71 = .ok (.iadd, 1) := by decide +kernel
theorem dX10_inside_72 : decode cX10_inside 72 = .ok (.iload_n 2, 1) := by decide +kernel
theorem dX10_inside_73 : decode cX10_inside 73 = .ok (.invokevirtual 235, 3) := by decide +kernel
theorem dX10_inside_76 : decode cX10_inside 76 = .ok (.iload_n 3, 1) := by decide +kernel
theorem dX10_inside_77 : decode cX10_inside 77 = .ok (.iconst 1, 1) := by decide +kernel
theorem dX10_inside_78 : decode cX10_inside 78 = .ok (.iadd, 1) := by decide +kernel
theorem dX10_inside_79 : decode cX10_inside 79 = .ok (.aload_n 0, 1) := by decide +kernel
theorem dX10_inside_80 : decode cX10_inside 80 = .ok (.getfield 122, 3) := by decide +kernel
theorem dX10_inside_83 : decode cX10_inside 83 = .ok (.if_icmp .ge 33, 3) := by decide +kernel
theorem dX10_inside_86 : decode cX10_inside 86 = .ok (.aload_n 0, 1) := by decide +kernel
theorem dX10_inside_87 : decode cX10_inside 87 = .ok (.bipush 42, 2) := by decide +kernel
theorem dX10_inside_89 : decode cX10_inside 89 = .ok (.bipush 6, 2) := by decide +kernel
theorem dX10_inside_91 : decode cX10_inside 91 = .ok (.aload_n 0, 1) := by decide +kernel
theorem dX10_inside_92 : decode cX10_inside 92 = .ok (.iload_n 1, 1) := by decide +kernel
theorem dX10_inside_93 : decode cX10_inside 93 = .ok (.iload 4, 2) := by decide +kernel
theorem dX10_inside_95 : decode cX10_inside 95 = .ok (.iload_n 3, 1) := by decide +kernel
theorem dX10_inside_96 : decode cX10_inside 96 = .ok (.invokevirtual 222, 3) := by decide +kernel
theorem dX10_inside_99 : decode cX10_inside 99 = .ok (.imul, 1) := by decide +kernel
theorem dX10_inside_100 : decode cX10_inside 100 = .ok (.iadd, 1) := by decide +kernel
theorem dX10_inside_101 : decode cX10_inside 101 = .ok (.aload_n 0, 1) := by decide +kernel
theorem dX10_inside_102 : decode cX10_inside 102 = .ok (.iload_n 1, 1) := by decide +kernel
theorem dX10_inside_103 : decode cX10_inside 103 = .ok (.iload 4, 2) := by decide +kernel
theorem dX10_inside_105 : decode cX10_inside 105 = .ok (.iload_n 3, 1) := by decide +kernel
theorem dX10_inside_106 : decode cX10_inside 106 = .ok (.iconst 1, 1) := by decide +kernel
theorem dX10_inside_107 : decode cX10_inside 107 = .ok (.iadd, 1) := by decide +kernel
theorem dX10_inside_108 : decode cX10_inside 108 = .ok (.invokevirtual 222, 3) := by decide +kernel
theorem dX10_inside_111 : decode cX10_inside 111 = .ok (.iadd, 1) := by decide +kernel
theorem dX10_inside_112 : decode cX10_inside 112 = .ok (.iload_n 2, 1) := by decide +kernel
theorem dX10_inside_113 : decode cX10_inside 113 = .ok (.invokevirtual 235, 3) := by decide +kernel
theorem dX10_inside_116 : decode cX10_inside 116 = .ok (.iinc 4 1, 3) := by decide +kernel
theorem dX10_inside_119 : decode cX10_inside 119 = .ok (.goto (-106), 3) := by decide +kernel
theorem dX10_inside_122 : decode cX10_inside 122 = .ok (.iinc 3 1, 3) := by decide +kernel
theorem dX10_inside_125 : decode cX10_inside 125 = .ok (.goto (-123), 3) := by decide +kernel
theorem dX10_inside_128 : decode cX10_inside 128 = .ok (.return_, 1) := by decide +kernel
theorem dX10_mixes_0 : decode cX10_mixes 0 = .ok (.iconst 0, 1) := by decide +kernel
theorem dX10_mixes_1 : decode cX10_mixes 1 = .ok (.istore_n 1, 1) := by decide +kernel
theorem dX10_mixes_2 : decode cX10_mixes 2 = .ok (.iload_n 1, 1) := by decide +kernel
theorem dX10_mixes_3 : decode cX10_mixes 3 = .ok (.aload_n 0, 1) := by decide +kernel
theorem dX10_mixes_4 : decode cX10_mixes 4 = .ok (.getfield 119, 3) := by decide +kernel
theorem dX10_mixes_7 : decode cX10_mixes 7 = .ok (.if_icmp .ge 18, 3) := by decide +kernel
theorem dX10_mixes_10 : decode cX10_mixes 10 = .ok (.aload_n 0, 1) := by decide +kernel
theorem dX10_mixes_11 : decode cX10_mixes 11 = .ok (.getfield 90, 3) := by decide +kernel
theorem dX10_mixes_14 : decode cX10_mixes 14 = .ok (.iload_n 1, 1) := by decide +kernel
theorem dX10_mixes_15 : decode cX10_mixes 15 = .ok (.iconst 1, 1) := by decide +kernel
theorem dX10_mixes_16 : decode cX10_mixes 16 = .ok (.iload_n 1, 1) := by decide +kernel
theorem dX10_mixes_17 : decode cX10_mixes 17 = .ok (.ishl, 1) := by decide +kernel
theorem dX10_mixes_18 : decode cX10_mixes 18 = .ok (.iastore, 1) := by decide +kernel
theorem dX10_mixes_19 : decode cX10_mixes 19 = .ok (.iinc 1 1, 3) := by decide +kernel
theorem dX10_mixes_22 : decode cX10_mixes 22 = .ok (.goto (-20), 3) := by decide +kernel
theorem dX10_mixes_25 : decode cX10_mixes 25 = .ok (.iconst 1, 1) := by decide +kernel
theorem dX10_mixes_26 : decode cX10_mixes 26 = .ok (.istore_n 1, 1) := by decide +kernel
theorem dX10_mixes_27 : decode cX10_mixes 27 = .ok (.iload_n 1, 1) := by decide +kernel
theorem dX10_mixes_28 : decode cX10_mixes 28 = .ok (.bipush 60, 2) := by decide +kernel
theorem dX10_mixes_30 : decode cX10_mixes 30 = .ok (.if_icmp .ge 144, 3) := by decide +kernel
theorem dX10_mixes_33 : decode cX10_mixes 33 = .ok (.iconst 1, 1) := by decide +kernel
theorem dX10_mixes_34 : decode cX10_mixes 34 = .ok (.istore_n 2, 1) := by decide +kernel
theorem dX10_mixes_35 : decode cX10_mixes 35 = .ok (.iconst 0, 1) := by decide +kernel
theorem dX10_mixes_36 : decode cX10_mixes 36 = .ok (.istore_n 3, 1) := by decide +kernel
theorem dX10_mixes_37 : decode cX10_mixes 37 = .ok (.iload_n 3, 1) := by decide +kernel
theorem dX10_mixes_38 : decode cX10_mixes 38 = .ok (.aload_n 0, 1) := by decide +kernel
theorem dX10_mixes_39 : decode cX10_mixes 39 = .ok (.getfield 119, 3) := by decide +kernel
theorem dX10_mixes_42 : decode cX10_mixes 42 = .ok (.if_icmp .ge 21, 3) := by decide +kernel
theorem dX10_mixes_45 : decode cX10_mixes 45 = .ok (.aload_n 0, 1) := by decide +kernel
theorem dX10_mixes_46 : decode cX10_mixes 46 = .ok (.getfield 93, 3) := by decide +kernel
theorem dX10_mixes_49 : decode cX10_mixes 49 = .ok (.iload_n 3, 1) := by decide +kernel
theorem dX10_mixes_50 : decode cX10_mixes 50 = .ok (.aload_n 0, 1) := by decide +kernel
theorem dX10_mixes_51 : decode cX10_mixes 51 = .ok (.getfield 90, 3) := by decide +kernel
theorem dX10_mixes_54 : decode cX10_mixes 54 = .ok (.iload_n 3, 1) := by decide +kernel
theorem dX10_mixes_55 : decode cX10_mixes 55 = .ok (.iaload, 1) := by decide +kernel
theorem dX10_mixes_56 : decode cX10_mixes 56 = .ok (.iastore, 1) := by decide +kernel
theorem dX10_mixes_57 : decode cX10_mixes 57 = .ok (.iinc 3 1, 3) := by decide +kernel
theorem dX10_mixes_60 : decode cX10_mixes 60 = .ok (.goto (-23), 3) := by decide +kernel
theorem dX10_mixes_63 : decode cX10_mixes 63 = .ok (.iconst 0, 1) := by decide +kernel
theorem dX10_mixes_64 : decode cX10_mixes 64 = .ok (.istore_n 3, 1) := by decide +kernel
theorem dX10_mixes_65 : decode cX10_mixes 65 = .ok (.iload_n 3, 1) := by decide +kernel
theorem dX10_mixes_66 : decode cX10_mixes 66 = .ok (.aload_n 0, 1) := by decide +kernel
theorem dX10_mixes_67 : decode cX10_mixes 67 = .ok (.getfield 119, 3) := by decide +kernel
theorem dX10_mixes_70 : decode cX10_mixes 70 = .ok (.if_icmp .ge 92, 3) := by decide +kernel
theorem dX10_mixes_73 : decode cX10_mixes 73 = .ok (.aload_n 0, 1) := by decide +kernel
theorem dX10_mixes_74 : decode cX10_mixes 74 = .ok (.getfield 90, 3) := by decide +kernel
theorem dX10_mixes_77 : decode cX10_mixes 77 = .ok (.iload_n 3, 1) := by decide +kernel
theorem dX10_mixes_78 : decode cX10_mixes 78 = .ok (.iconst 0, 1) := by decide +kernel
theorem dX10_mixes_79 : decode cX10_mixes 79 = .ok (.iastore, 1) := by decide +kernel
theorem dX10_mixes_80 : decode cX10_mixes 80 = .ok (.iconst 0, 1) := by decide +kernel
theorem dX10_mixes_81 : decode cX10_mixes 81 = .ok (.istore 4, 2) := by decide +kernel
theorem dX10_mixes_83 : decode cX10_mixes 83 = .ok (.iload 4, 2) := by decide +kernel
theorem dX10_mixes_85 : decode cX10_mixes 85 = .ok (.aload_n 0, 1) := by decide +kernel
theorem dX10_mixes_86 : decode cX10_mixes 86 = .ok (.getfield 122, 3) := by decide +kernel
theorem dX10_mixes_89 : decode cX10_mixes 89 = .ok (.aload_n 0, 1) := by decide +kernel
theorem dX10_mixes_90 : decode cX10_mixes 90 = .ok (.getfield 122, 3) := by decide +kernel
theorem dX10_mixes_93 : decode cX10_mixes 93 = .ok (.imul, 1) := by decide +kernel
theorem dX10_mixes_94 : decode cX10_mixes 94 = .ok (.if_icmp .ge 35, 3) := by decide +kernel
theorem dX10_mixes_97 : decode cX10_mixes 97 = .ok (.aload_n 0, 1) := by decide +kernel
theorem dX10_mixes_98 : decode cX10_mixes 98 = .ok (.getfield 90, 3) := by decide +kernel
theorem dX10_mixes_101 : decode cX10_mixes 101 = .ok (.iload_n 3, 1) := by decide +kernel
theorem dX10_mixes_102 : decode cX10_mixes 102 = .ok (.dup2, 1) := by decide +kernel
theorem dX10_mixes_103 : decode cX10_mixes 103 = .ok (.iaload, 1) := by decide +kernel
theorem dX10_mixes_104 : decode cX10_mixes 104 = .ok (.aload_n 0, 1) := by decide +kernel
theorem dX10_mixes_105 : decode cX10_mixes 105 = .ok (.getfield 93, 3) := by decide +kernel
theorem dX10_mixes_108 : decode cX10_mixes 108 = .ok (.aload_n 0, 1) := by decide +kernel
theorem dX10_mixes_109 : decode cX10_mixes 109 = .ok (.getfield 78, 3) := by decide +kernel
theorem dX10_mixes_112 : decode cX10_mixes 112 = .ok (.bipush 9, 2) := by decide +kernel
theorem dX10_mixes_114 : decode cX10_mixes 114 = .ok (.iload_n 3, 1) := by decide +kernel
theorem dX10_mixes_115 : decode cX10_mixes 115 = .ok (.imul, 1) := by decide +kernel
theorem dX10_mixes_116 : decode cX10_mixes 116 = .ok (.iload 4, 2) := by decide +kernel
theorem dX10_mixes_118 : decode cX10_mixes 118 = .ok (.iadd, 1) := by decide +kernel
theorem dX10_mixes_119 : decode cX10_mixes 119 = .ok (.iaload, 1) := by decide +kernel
theorem dX10_mixes_120 : decode cX10_mixes 120 = .ok (.iaload, 1) := by decide +kernel
theorem dX10_mixes_121 : decode cX10_mixes 121 = .ok (.ior, 1) := by decide +kernel
theorem dX10_mixes_122 : decode cX10_mixes 122 = .ok (.iastore, 1) := by decide +kernel
theorem dX10_mixes_123 : decode cX10_mixes 123 = .ok (.iinc 4 1, 3) := by decide +kernel
theorem dX10_mixes_126 : decode cX10_mixes 126 = .ok (.goto (-43), 3) := by decide +kernel
theorem dX10_mixes_129 : decode cX10_mixes 129 = .ok (.iload_n 2, 1) := by decide +kernel
theorem dX10_mixes_130 : decode cX10_mixes 130 = .ok (.ifCond .eq 24, 3) := by decide +kernel
theorem dX10_mixes_133 : decode cX10_mixes 133 = .ok (.aload_n 0, 1) := by decide +kernel
theorem dX10_mixes_134 : decode cX10_mixes 134 = .ok (.getfield 90, 3) := by decide +kernel
theorem dX10_mixes_137 : decode cX10_mixes 137 = .ok (.iload_n 3, 1) := by decide +kernel
theorem dX10_mixes_138 : decode cX10_mixes 138 = .ok (.iaload, 1) := by decide +kernel
theorem dX10_mixes_139 : decode cX10_mixes 139 = .ok (.iconst 1, 1) := by decide +kernel
theorem dX10_mixes_140 : decode cX10_mixes 140 = .ok (.aload_n 0, 1) := by decide +kernel
theorem dX10_mixes_141 : decode cX10_mixes 141 = .ok (.getfield 119, 3) := by decide +kernel
theorem dX10_mixes_144 : decode cX10_mixes 144 = .ok (.ishl, 1) := by decide +kernel
theorem dX10_mixes_145 : decode cX10_mixes 145 = .ok (.iconst 1, 1) := by decide +kernel
theorem dX10_mixes_146 : decode cX10_mixes 146 = .ok (.isub, 1) := by decide +kernel
theorem dX10_mixes_147 : decode cX10_mixes 147 = .ok (.if_icmp .ne 7, 3) := by decide +kernel
theorem dX10_mixes_150 : decode cX10_mixes 150 = .ok (.iconst 1, 1) := by decide +kernel
theorem dX10_mixes_151 : decode cX10_mixes 151 = .ok (.goto 4, 3) := by decide +kernel
theorem dX10_mixes_154 : decode cX10_mixes 154 = .ok (.iconst 0, 1) := by decide +kernel
theorem dX10_mixes_155 : decode cX10_mixes 155 = .ok (.istore_n 2, 1) := by decide +kernel
theorem dX10_mixes_156 : decode cX10_mixes 156 = .ok (.iinc 3 1, 3) := by decide +kernel
theorem dX10_mixes_159 : decode cX10_mixes 159 = .ok (.goto (-94), 3) := by decide +kernel
theorem dX10_mixes_162 : decode cX10_mixes 162 = .ok (.iload_n 2, 1) := by decide +kernel
theorem dX10_mixes_163 : decode cX10_mixes 163 = .ok (.ifCond .eq 5, 3) := by decide +kernel
theorem dX10_mixes_166 : decode cX10_mixes 166 = .ok (.iload_n 1, 1) := by decide +kernel
theorem dX10_mixes_167 : decode cX10_mixes 167 = .ok (.ireturn, 1) := by decide +kernel
theorem dX10_mixes_168 : decode cX10_mixes 168 = .ok (.iinc 1 1, 3) := by decide +kernel
theorem dX10_mixes_171 : decode cX10_mixes 171 = .ok (.goto (-144), 3) := by decide +kernel
theorem dX10_mixes_174 : decode cX10_mixes 174 = .ok (.iconst (-1), 1) := by decide +kernel
theorem dX10_mixes_175 : decode cX10_mixes 175 = .ok (.ireturn, 1) := by decide +kernel
theorem dX10_squares_0 : decode cX10_squares 0 = .ok (.aload_n 0, 1) := by decide +kernel
theorem dX10_squares_1 : decode cX10_squares 1 = .ok (.iload_n 1, 1) := by decide +kernel
theorem dX10_squares_2 : decode cX10_squares 2 = .ok (.invokevirtual 219, 3) := by decide +kernel
theorem dX10_squares_5 : decode cX10_squares 5 = .ok (.ifCond .eq 12, 3) := by decide +kernel
theorem dX10_squares_8 : decode cX10_squares 8 = .ok (.iload_n 2, 1) := by decide +kernel
theorem dX10_squares_9 : decode cX10_squares 9 = .ok (.iconst 0, 1) := by decide +kernel
theorem dX10_squares_10 : decode cX10_squares 10 = .ok (.iconst 5, 1) := by decide +kernel
theorem dX10_squares_11 : decode cX10_squares 11 = .ok (.invokestatic 128, 3) := by decide +kernel
theorem dX10_squares_14 : decode cX10_squares 14 = .ok (.ifCond .ne 6, 3) := by decide +kernel
theorem dX10_squares_17 : decode cX10_squares 17 = .ok (.bipush (-2), 2) := by decide +kernel
theorem dX10_squares_19 : decode cX10_squares 19 = .ok (.ireturn, 1) := by decide +kernel
theorem dX10_squares_20 : decode cX10_squares 20 = .ok (.iconst 0, 1) := by decide +kernel
theorem dX10_squares_21 : decode cX10_squares 21 = .ok (.istore_n 3, 1) := by decide +kernel
theorem dX10_squares_22 : decode cX10_squares 22 = .ok (.iload_n 3, 1) := by decide +kernel
theorem dX10_squares_23 : decode cX10_squares 23 = .ok (.sipush 1296, 3) := by decide +kernel
theorem dX10_squares_26 : decode cX10_squares 26 = .ok (.if_icmp .ge 16, 3) := by decide +kernel
theorem dX10_squares_29 : decode cX10_squares 29 = .ok (.aload_n 0, 1) := by decide +kernel
theorem dX10_squares_30 : decode cX10_squares 30 = .ok (.getfield 96, 3) := by decide +kernel
theorem dX10_squares_33 : decode cX10_squares 33 = .ok (.iload_n 3, 1) := by decide +kernel
theorem dX10_squares_34 : decode cX10_squares 34 = .ok (.iconst 0, 1) := by decide +kernel
theorem dX10_squares_35 : decode cX10_squares 35 = .ok (.bastore, 1) := by decide +kernel
theorem dX10_squares_36 : decode cX10_squares 36 = .ok (.iinc 3 1, 3) := by decide +kernel
theorem dX10_squares_39 : decode cX10_squares 39 = .ok (.goto (-17), 3) := by decide +kernel
theorem dX10_squares_42 : decode cX10_squares 42 = .ok (.aload_n 0, 1) := by decide +kernel
theorem dX10_squares_43 : decode cX10_squares 43 = .ok (.iload_n 2, 1) := by decide +kernel
theorem dX10_squares_44 : decode cX10_squares 44 = .ok (.invokevirtual 225, 3) := by decide +kernel
theorem dX10_squares_47 : decode cX10_squares 47 = .ok (.istore_n 3, 1) := by decide +kernel
theorem dX10_squares_48 : decode cX10_squares 48 = .ok (.iconst 0, 1) := by decide +kernel
theorem dX10_squares_49 : decode cX10_squares 49 = .ok (.istore 4, 2) := by decide +kernel
theorem dX10_squares_51 : decode cX10_squares 51 = .ok (.iconst 0, 1) := by decide +kernel
theorem dX10_squares_52 : decode cX10_squares 52 = .ok (.istore 5, 2) := by decide +kernel
theorem dX10_squares_54 : decode cX10_squares 54 = .ok (.iload 5, 2) := by decide +kernel
theorem dX10_squares_56 : decode cX10_squares 56 = .ok (.iconst 1, 1) := by decide +kernel
theorem dX10_squares_57 : decode cX10_squares 57 = .ok (.iadd, 1) := by decide +kernel
theorem dX10_squares_58 : decode cX10_squares 58 = .ok (.iload_n 3, 1) := by decide +kernel
theorem dX10_squares_59 : decode cX10_squares 59 = .ok (.if_icmp .ge 116, 3) := by decide +kernel
theorem dX10_squares_62 : decode cX10_squares 62 = .ok (.iconst 0, 1) := by decide +kernel
theorem dX10_squares_63 : decode cX10_squares 63 = .ok (.istore 6, 2) := by decide +kernel
theorem dX10_squares_65 : decode cX10_squares 65 = .ok (.iload 6, 2) := by decide +kernel
theorem dX10_squares_67 : decode cX10_squares 67 = .ok (.iconst 1, 1) := by decide +kernel
theorem dX10_squares_68 : decode cX10_squares 68 = .ok (.iadd, 1) := by decide +kernel
theorem dX10_squares_69 : decode cX10_squares 69 = .ok (.iload_n 3, 1) := by decide +kernel
theorem dX10_squares_70 : decode cX10_squares 70 = .ok (.if_icmp .ge 99, 3) := by decide +kernel
theorem dX10_squares_73 : decode cX10_squares 73 = .ok (.aload_n 0, 1) := by decide +kernel
theorem dX10_squares_74 : decode cX10_squares 74 = .ok (.iload_n 1, 1) := by decide +kernel
theorem dX10_squares_75 : decode cX10_squares 75 = .ok (.iload_n 2, 1) := by decide +kernel
theorem dX10_squares_76 : decode cX10_squares 76 = .ok (.iload 6, 2) := by decide +kernel
theorem dX10_squares_78 : decode cX10_squares 78 = .ok (.iload 5, 2) := by decide +kernel
theorem dX10_squares_80 : decode cX10_squares 80 = .ok (.invokevirtual 228, 3) := by decide +kernel
theorem dX10_squares_83 : decode cX10_squares 83 = .ok (.bipush 6, 2) := by decide +kernel
theorem dX10_squares_85 : decode cX10_squares 85 = .ok (.imul, 1) := by decide +kernel
theorem dX10_squares_86 : decode cX10_squares 86 = .ok (.aload_n 0, 1) := by decide +kernel
theorem dX10_squares_87 : decode cX10_squares 87 = .ok (.iload_n 1, 1) := by decide +kernel
theorem dX10_squares_88 : decode cX10_squares 88 = .ok (.iload_n 2, 1) := by decide +kernel
theorem dX10_squares_89 : decode cX10_squares 89 = .ok (.iload 6, 2) := by decide +kernel
theorem dX10_squares_91 : decode cX10_squares 91 = .ok (.iconst 1, 1) := by decide +kernel
theorem dX10_squares_92 : decode cX10_squares 92 = .ok (.iadd, 1) := by decide +kernel
theorem dX10_squares_93 : decode cX10_squares 93 = .ok (.iload 5, 2) := by decide +kernel
theorem dX10_squares_95 : decode cX10_squares 95 = .ok (.invokevirtual 228, 3) := by decide +kernel
theorem dX10_squares_98 : decode cX10_squares 98 = .ok (.iadd, 1) := by decide +kernel
theorem dX10_squares_99 : decode cX10_squares 99 = .ok (.bipush 6, 2) := by decide +kernel
theorem dX10_squares_101 : decode cX10_squares 101 = .ok (.imul, 1) := by decide +kernel
theorem dX10_squares_102 : decode cX10_squares 102 = .ok (.aload_n 0, 1) := by decide +kernel
theorem dX10_squares_103 : decode cX10_squares 103 = .ok (.iload_n 1, 1) := by decide +kernel
theorem dX10_squares_104 : decode cX10_squares 104 = .ok (.iload_n 2, 1) := by decide +kernel
theorem dX10_squares_105 : decode cX10_squares 105 = .ok (.iload 6, 2) := by decide +kernel
theorem dX10_squares_107 : decode cX10_squares 107 = .ok (.iload 5, 2) := by decide +kernel
theorem dX10_squares_109 : decode cX10_squares 109 = .ok (.iconst 1, 1) := by decide +kernel
theorem dX10_squares_110 : decode cX10_squares 110 = .ok (.iadd, 1) := by decide +kernel
theorem dX10_squares_111 : decode cX10_squares 111 = .ok (.invokevirtual 228, 3) := by decide +kernel
theorem dX10_squares_114 : decode cX10_squares 114 = .ok (.iadd, 1) := by decide +kernel
theorem dX10_squares_115 : decode cX10_squares 115 = .ok (.bipush 6, 2) := by decide +kernel
theorem dX10_squares_117 : decode cX10_squares 117 = .ok (.imul, 1) := by decide +kernel
theorem dX10_squares_118 : decode cX10_squares 118 = .ok (.aload_n 0, 1) := by decide +kernel
theorem dX10_squares_119 : decode cX10_squares 119 = .ok (.iload_n 1, 1) := by decide +kernel
theorem dX10_squares_120 : decode cX10_squares 120 = .ok (.iload_n 2, 1) := by decide +kernel
theorem dX10_squares_121 : decode cX10_squares 121 = .ok (.iload 6, 2) := by decide +kernel
theorem dX10_squares_123 : decode cX10_squares 123 = .ok (.iconst 1, 1) := by decide +kernel
theorem dX10_squares_124 : decode cX10_squares 124 = .ok (.iadd, 1) := by decide +kernel
theorem dX10_squares_125 : decode cX10_squares 125 = .ok (.iload 5, 2) := by decide +kernel
theorem dX10_squares_127 : decode cX10_squares 127 = .ok (.iconst 1, 1) := by decide +kernel
theorem dX10_squares_128 : decode cX10_squares 128 = .ok (.iadd, 1) := by decide +kernel
theorem dX10_squares_129 : decode cX10_squares 129 = .ok (.invokevirtual 228, 3) := by decide +kernel
theorem dX10_squares_132 : decode cX10_squares 132 = .ok (.iadd, 1) := by decide +kernel
theorem dX10_squares_133 : decode cX10_squares 133 = .ok (.istore 7, 2) := by decide +kernel
theorem dX10_squares_135 : decode cX10_squares 135 = .ok (.iload 4, 2) := by decide +kernel
theorem dX10_squares_137 : decode cX10_squares 137 = .ok (.aload_n 0, 1) := by decide +kernel
theorem dX10_squares_138 : decode cX10_squares 138 = .ok (.getfield 96, 3) := by decide +kernel
theorem dX10_squares_141 : decode cX10_squares 141 = .ok (.iload 7, 2) := by decide +kernel
theorem dX10_squares_143 : decode cX10_squares 143 = .ok (.baload, 1) := by decide +kernel
theorem dX10_squares_144 : decode cX10_squares 144 = .ok (.ifCond .eq 7, 3) := by decide +kernel
theorem dX10_squares_147 : decode cX10_squares 147 = .ok (.iconst 0, 1) := by decide +kernel
theorem dX10_squares_148 : decode cX10_squares 148 = .ok (.goto 4, 3) := by decide +kernel
theorem dX10_squares_151 : decode cX10_squares 151 = .ok (.iconst 1, 1) := by decide +kernel
theorem dX10_squares_152 : decode cX10_squares 152 = .ok (.iadd, 1) := by decide +kernel
theorem dX10_squares_153 : decode cX10_squares 153 = .ok (.istore 4, 2) := by decide +kernel
theorem dX10_squares_155 : decode cX10_squares 155 = .ok (.aload_n 0, 1) := by decide +kernel
theorem dX10_squares_156 : decode cX10_squares 156 = .ok (.getfield 96, 3) := by decide +kernel
theorem dX10_squares_159 : decode cX10_squares 159 = .ok (.iload 7, 2) := by decide +kernel
theorem dX10_squares_161 : decode cX10_squares 161 = .ok (.iconst 1, 1) := by decide +kernel
theorem dX10_squares_162 : decode cX10_squares 162 = .ok (.bastore, 1) := by decide +kernel
theorem dX10_squares_163 : decode cX10_squares 163 = .ok (.iinc 6 1, 3) := by decide +kernel
theorem dX10_squares_166 : decode cX10_squares 166 = .ok (.goto (-101), 3) := by decide +kernel
theorem dX10_squares_169 : decode cX10_squares 169 = .ok (.iinc 5 1, 3) := by decide +kernel
theorem dX10_squares_172 : decode cX10_squares 172 = .ok (.goto (-118), 3) := by decide +kernel
theorem dX10_squares_175 : decode cX10_squares 175 = .ok (.iload 4, 2) := by decide +kernel
theorem dX10_squares_177 : decode cX10_squares 177 = .ok (.ireturn, 1) := by decide +kernel
theorem dX10_turn_0 : decode cX10_turn 0 = .ok (.iload_n 1, 1) := by decide +kernel
theorem dX10_turn_1 : decode cX10_turn 1 = .ok (.iconst 1, 1) := by decide +kernel
theorem dX10_turn_2 : decode cX10_turn 2 = .ok (.bipush 18, 2) := by decide +kernel
theorem dX10_turn_4 : decode cX10_turn 4 = .ok (.invokestatic 128, 3) := by decide +kernel
theorem dX10_turn_7 : decode cX10_turn 7 = .ok (.ifCond .ne 6, 3) := by decide +kernel
theorem dX10_turn_10 : decode cX10_turn 10 = .ok (.bipush (-2), 2) := by decide +kernel
theorem dX10_turn_12 : decode cX10_turn 12 = .ok (.ireturn, 1) := by decide +kernel
theorem dX10_turn_13 : decode cX10_turn 13 = .ok (.aload_n 0, 1) := by decide +kernel
theorem dX10_turn_14 : decode cX10_turn 14 = .ok (.getfield 125, 3) := by decide +kernel
theorem dX10_turn_17 : decode cX10_turn 17 = .ok (.istore_n 2, 1) := by decide +kernel
theorem dX10_turn_18 : decode cX10_turn 18 = .ok (.aload_n 0, 1) := by decide +kernel
theorem dX10_turn_19 : decode cX10_turn 19 = .ok (.iload_n 1, 1) := by decide +kernel
theorem dX10_turn_20 : decode cX10_turn 20 = .ok (.putfield 125, 3) := by decide +kernel
theorem dX10_turn_23 : decode cX10_turn 23 = .ok (.iload_n 2, 1) := by decide +kernel
theorem dX10_turn_24 : decode cX10_turn 24 = .ok (.ireturn, 1) := by decide +kernel
theorem dX10_corner_0 : decode cX10_corner 0 = .ok (.iload_n 1, 1) := by decide +kernel
theorem dX10_corner_1 : decode cX10_corner 1 = .ok (.iconst 1, 1) := by decide +kernel
theorem dX10_corner_2 : decode cX10_corner 2 = .ok (.bipush 18, 2) := by decide +kernel
theorem dX10_corner_4 : decode cX10_corner 4 = .ok (.invokestatic 128, 3) := by decide +kernel
theorem dX10_corner_7 : decode cX10_corner 7 = .ok (.ifCond .ne 6, 3) := by decide +kernel
theorem dX10_corner_10 : decode cX10_corner 10 = .ok (.bipush (-2), 2) := by decide +kernel
theorem dX10_corner_12 : decode cX10_corner 12 = .ok (.ireturn, 1) := by decide +kernel
theorem dX10_corner_13 : decode cX10_corner 13 = .ok (.iconst 0, 1) := by decide +kernel
theorem dX10_corner_14 : decode cX10_corner 14 = .ok (.istore_n 2, 1) := by decide +kernel
theorem dX10_corner_15 : decode cX10_corner 15 = .ok (.iload_n 2, 1) := by decide +kernel
theorem dX10_corner_16 : decode cX10_corner 16 = .ok (.aload_n 0, 1) := by decide +kernel
theorem dX10_corner_17 : decode cX10_corner 17 = .ok (.getfield 238, 3) := by decide +kernel
theorem dX10_corner_20 : decode cX10_corner 20 = .ok (.if_icmp .ge 22, 3) := by decide +kernel
theorem dX10_corner_23 : decode cX10_corner 23 = .ok (.aload_n 0, 1) := by decide +kernel
theorem dX10_corner_24 : decode cX10_corner 24 = .ok (.getfield 99, 3) := by decide +kernel
theorem dX10_corner_27 : decode cX10_corner 27 = .ok (.iload_n 2, 1) := by decide +kernel
theorem dX10_corner_28 : decode cX10_corner 28 = .ok (.iaload, 1) := by decide +kernel
theorem dX10_corner_29 : decode cX10_corner 29 = .ok (.iload_n 1, 1) := by decide +kernel
theorem dX10_corner_30 : decode cX10_corner 30 = .ok (.if_icmp .ne 6, 3) := by decide +kernel
theorem dX10_corner_33 : decode cX10_corner 33 = .ok (.bipush (-4), 2) := by decide +kernel
theorem dX10_corner_35 : decode cX10_corner 35 = .ok (.ireturn, 1) := by decide +kernel
theorem dX10_corner_36 : decode cX10_corner 36 = .ok (.iinc 2 1, 3) := by decide +kernel
theorem dX10_corner_39 : decode cX10_corner 39 = .ok (.goto (-24), 3) := by decide +kernel
theorem dX10_corner_42 : decode cX10_corner 42 = .ok (.aload_n 0, 1) := by decide +kernel
theorem dX10_corner_43 : decode cX10_corner 43 = .ok (.getfield 238, 3) := by decide +kernel
theorem dX10_corner_46 : decode cX10_corner 46 = .ok (.bipush 6, 2) := by decide +kernel
theorem dX10_corner_48 : decode cX10_corner 48 = .ok (.if_icmp .ne 6, 3) := by decide +kernel
theorem dX10_corner_51 : decode cX10_corner 51 = .ok (.bipush (-3), 2) := by decide +kernel
theorem dX10_corner_53 : decode cX10_corner 53 = .ok (.ireturn, 1) := by decide +kernel
theorem dX10_corner_54 : decode cX10_corner 54 = .ok (.aload_n 0, 1) := by decide +kernel
theorem dX10_corner_55 : decode cX10_corner 55 = .ok (.getfield 99, 3) := by decide +kernel
theorem dX10_corner_58 : decode cX10_corner 58 = .ok (.aload_n 0, 1) := by decide +kernel
theorem dX10_corner_59 : decode cX10_corner 59 = .ok (.getfield 238, 3) := by decide +kernel
theorem dX10_corner_62 : decode cX10_corner 62 = .ok (.iload_n 1, 1) := by decide +kernel
theorem dX10_corner_63 : decode cX10_corner 63 = .ok (.iastore, 1) := by decide +kernel
theorem dX10_corner_64 : decode cX10_corner 64 = .ok (.aload_n 0, 1) := by decide +kernel
theorem dX10_corner_65 : decode cX10_corner 65 = .ok (.dup, 1) := by decide +kernel
theorem dX10_corner_66 : decode cX10_corner 66 = .ok (.getfield 238, 3) := by decide +kernel
theorem dX10_corner_69 : decode cX10_corner 69 = .ok (.iconst 1, 1) := by decide +kernel
theorem dX10_corner_70 : decode cX10_corner 70 = .ok (.iadd, 1) := by decide +kernel
theorem dX10_corner_71 : decode cX10_corner 71 = .ok (.putfield 238, 3) := by decide +kernel
theorem dX10_corner_74 : decode cX10_corner 74 = .ok (.aload_n 0, 1) := by decide +kernel
theorem dX10_corner_75 : decode cX10_corner 75 = .ok (.getfield 238, 3) := by decide +kernel
theorem dX10_corner_78 : decode cX10_corner 78 = .ok (.ireturn, 1) := by decide +kernel
theorem dX10_uncorner_0 : decode cX10_uncorner 0 = .ok (.aload_n 0, 1) := by decide +kernel
theorem dX10_uncorner_1 : decode cX10_uncorner 1 = .ok (.getfield 238, 3) := by decide +kernel
theorem dX10_uncorner_4 : decode cX10_uncorner 4 = .ok (.ifCond .ne 5, 3) := by decide +kernel
theorem dX10_uncorner_7 : decode cX10_uncorner 7 = .ok (.iconst (-1), 1) := by decide +kernel
theorem dX10_uncorner_8 : decode cX10_uncorner 8 = .ok (.ireturn, 1) := by decide +kernel
theorem dX10_uncorner_9 : decode cX10_uncorner 9 = .ok (.aload_n 0, 1) := by decide +kernel
theorem dX10_uncorner_10 : decode cX10_uncorner 10 = .ok (.dup, 1) := by decide +kernel
theorem dX10_uncorner_11 : decode cX10_uncorner 11 = .ok (.getfield 238, 3) := by decide +kernel
theorem dX10_uncorner_14 : decode cX10_uncorner 14 = .ok (.iconst 1, 1) := by decide +kernel
theorem dX10_uncorner_15 : decode cX10_uncorner 15 = .ok (.isub, 1) := by decide +kernel
theorem dX10_uncorner_16 : decode cX10_uncorner 16 = .ok (.putfield 238, 3) := by decide +kernel
theorem dX10_uncorner_19 : decode cX10_uncorner 19 = .ok (.aload_n 0, 1) := by decide +kernel
theorem dX10_uncorner_20 : decode cX10_uncorner 20 = .ok (.getfield 238, 3) := by decide +kernel
theorem dX10_uncorner_23 : decode cX10_uncorner 23 = .ok (.ireturn, 1) := by decide +kernel
theorem dX10_above_0 : decode cX10_above 0 = .ok (.bipush 100, 2) := by decide +kernel
theorem dX10_above_2 : decode cX10_above 2 = .ok (.istore_n 2, 1) := by decide +kernel
theorem dX10_above_3 : decode cX10_above 3 = .ok (.iconst 0, 1) := by decide +kernel
theorem dX10_above_4 : decode cX10_above 4 = .ok (.istore_n 3, 1) := by decide +kernel
theorem dX10_above_5 : decode cX10_above 5 = .ok (.iload_n 3, 1) := by decide +kernel
theorem dX10_above_6 : decode cX10_above 6 = .ok (.aload_n 0, 1) := by decide +kernel
theorem dX10_above_7 : decode cX10_above 7 = .ok (.getfield 238, 3) := by decide +kernel
theorem dX10_above_10 : decode cX10_above 10 = .ok (.if_icmp .ge 40, 3) := by decide +kernel
theorem dX10_above_13 : decode cX10_above 13 = .ok (.aload_n 0, 1) := by decide +kernel
theorem dX10_above_14 : decode cX10_above 14 = .ok (.getfield 99, 3) := by decide +kernel
theorem dX10_above_17 : decode cX10_above 17 = .ok (.iload_n 3, 1) := by decide +kernel
theorem dX10_above_18 : decode cX10_above 18 = .ok (.iaload, 1) := by decide +kernel
theorem dX10_above_19 : decode cX10_above 19 = .ok (.iload_n 1, 1) := by decide +kernel
theorem dX10_above_20 : decode cX10_above 20 = .ok (.if_icmp .le 22, 3) := by decide +kernel
theorem dX10_above_23 : decode cX10_above 23 = .ok (.aload_n 0, 1) := by decide +kernel
theorem dX10_above_24 : decode cX10_above 24 = .ok (.getfield 99, 3) := by decide +kernel
theorem dX10_above_27 : decode cX10_above 27 = .ok (.iload_n 3, 1) := by decide +kernel
theorem dX10_above_28 : decode cX10_above 28 = .ok (.iaload, 1) := by decide +kernel
theorem dX10_above_29 : decode cX10_above 29 = .ok (.iload_n 2, 1) := by decide +kernel
theorem dX10_above_30 : decode cX10_above 30 = .ok (.if_icmp .ge 12, 3) := by decide +kernel
theorem dX10_above_33 : decode cX10_above 33 = .ok (.aload_n 0, 1) := by decide +kernel
theorem dX10_above_34 : decode cX10_above 34 = .ok (.getfield 99, 3) := by decide +kernel
theorem dX10_above_37 : decode cX10_above 37 = .ok (.iload_n 3, 1) := by decide +kernel
theorem dX10_above_38 : decode cX10_above 38 = .ok (.iaload, 1) := by decide +kernel
theorem dX10_above_39 : decode cX10_above 39 = .ok (.goto 4, 3) := by decide +kernel
theorem dX10_above_42 : decode cX10_above 42 = .ok (.iload_n 2, 1) := by decide +kernel
theorem dX10_above_43 : decode cX10_above 43 = .ok (.istore_n 2, 1) := by decide +kernel
theorem dX10_above_44 : decode cX10_above 44 = .ok (.iinc 3 1, 3) := by decide +kernel
theorem dX10_above_47 : decode cX10_above 47 = .ok (.goto (-42), 3) := by decide +kernel
theorem dX10_above_50 : decode cX10_above 50 = .ok (.iload_n 2, 1) := by decide +kernel
theorem dX10_above_51 : decode cX10_above 51 = .ok (.ireturn, 1) := by decide +kernel
theorem dX10_isLeast_0 : decode cX10_isLeast 0 = .ok (.iconst 0, 1) := by decide +kernel
theorem dX10_isLeast_1 : decode cX10_isLeast 1 = .ok (.istore_n 2, 1) := by decide +kernel
theorem dX10_isLeast_2 : decode cX10_isLeast 2 = .ok (.iload_n 2, 1) := by decide +kernel
theorem dX10_isLeast_3 : decode cX10_isLeast 3 = .ok (.aload_n 0, 1) := by decide +kernel
theorem dX10_isLeast_4 : decode cX10_isLeast 4 = .ok (.getfield 241, 3) := by decide +kernel
theorem dX10_isLeast_7 : decode cX10_isLeast 7 = .ok (.if_icmp .ge 112, 3) := by decide +kernel
theorem dX10_isLeast_10 : decode cX10_isLeast 10 = .ok (.iconst 1, 1) := by decide +kernel
theorem dX10_isLeast_11 : decode cX10_isLeast 11 = .ok (.istore_n 3, 1) := by decide +kernel
theorem dX10_isLeast_12 : decode cX10_isLeast 12 = .ok (.iload_n 3, 1) := by decide +kernel
theorem dX10_isLeast_13 : decode cX10_isLeast 13 = .ok (.iload_n 1, 1) := by decide +kernel
theorem dX10_isLeast_14 : decode cX10_isLeast 14 = .ok (.ifCond .eq 7, 3) := by decide +kernel
theorem dX10_isLeast_17 : decode cX10_isLeast 17 = .ok (.iconst (-1), 1) := by decide +kernel
theorem dX10_isLeast_18 : decode cX10_isLeast 18 = .ok (.goto 4, 3) := by decide +kernel
theorem dX10_isLeast_21 : decode cX10_isLeast 21 = .ok (.iconst 1, 1) := by decide +kernel
theorem dX10_isLeast_22 : decode cX10_isLeast 22 = .ok (.if_icmp .lt 91, 3) := by decide +kernel
theorem dX10_isLeast_25 : decode cX10_isLeast 25 = .ok (.iconst 0, 1) := by decide +kernel
theorem dX10_isLeast_26 : decode cX10_isLeast 26 = .ok (.istore 4, 2) := by decide +kernel
theorem dX10_isLeast_28 : decode cX10_isLeast 28 = .ok (.iload_n 2, 1) := by decide +kernel
theorem dX10_isLeast_29 : decode cX10_isLeast 29 = .ok (.istore 5, 2) := by decide +kernel
theorem dX10_isLeast_31 : decode cX10_isLeast 31 = .ok (.iload 4, 2) := by decide +kernel
theorem dX10_isLeast_33 : decode cX10_isLeast 33 = .ok (.aload_n 0, 1) := by decide +kernel
theorem dX10_isLeast_34 : decode cX10_isLeast 34 = .ok (.getfield 241, 3) := by decide +kernel
theorem dX10_isLeast_37 : decode cX10_isLeast 37 = .ok (.if_icmp .ge 42, 3) := by decide +kernel
theorem dX10_isLeast_40 : decode cX10_isLeast 40 = .ok (.aload_n 0, 1) := by decide +kernel
theorem dX10_isLeast_41 : decode cX10_isLeast 41 = .ok (.getfield 102, 3) := by decide +kernel
theorem dX10_isLeast_44 : decode cX10_isLeast 44 = .ok (.iload 4, 2) := by decide +kernel
theorem dX10_isLeast_46 : decode cX10_isLeast 46 = .ok (.iaload, 1) := by decide +kernel
theorem dX10_isLeast_47 : decode cX10_isLeast 47 = .ok (.aload_n 0, 1) := by decide +kernel
theorem dX10_isLeast_48 : decode cX10_isLeast 48 = .ok (.getfield 102, 3) := by decide +kernel
theorem dX10_isLeast_51 : decode cX10_isLeast 51 = .ok (.iload 5, 2) := by decide +kernel
theorem dX10_isLeast_53 : decode cX10_isLeast 53 = .ok (.iaload, 1) := by decide +kernel
theorem dX10_isLeast_54 : decode cX10_isLeast 54 = .ok (.if_icmp .ne 25, 3) := by decide +kernel
theorem dX10_isLeast_57 : decode cX10_isLeast 57 = .ok (.iinc 4 1, 3) := by decide +kernel
theorem dX10_isLeast_60 : decode cX10_isLeast 60 = .ok (.iload 5, 2) := by decide +kernel
theorem dX10_isLeast_62 : decode cX10_isLeast 62 = .ok (.iload_n 3, 1) := by decide +kernel
theorem dX10_isLeast_63 : decode cX10_isLeast 63 = .ok (.iadd, 1) := by decide +kernel
theorem dX10_isLeast_64 : decode cX10_isLeast 64 = .ok (.aload_n 0, 1) := by decide +kernel
theorem dX10_isLeast_65 : decode cX10_isLeast 65 = .ok (.getfield 241, 3) := by decide +kernel
theorem dX10_isLeast_68 : decode cX10_isLeast 68 = .ok (.iadd, 1) := by decide +kernel
theorem dX10_isLeast_69 : decode cX10_isLeast 69 = .ok (.aload_n 0, 1) := by decide +kernel
theorem dX10_isLeast_70 : decode cX10_isLeast 70 = .ok (.getfield 241, 3) := by decide +kernel
theorem dX10_isLeast_73 : decode cX10_isLeast 73 = .ok (.irem, 1) := by decide +kernel
theorem dX10_isLeast_74 : decode cX10_isLeast 74 = .ok (.istore 5, 2) := by decide +kernel
theorem dX10_isLeast_76 : decode cX10_isLeast 76 = .ok (.goto (-45), 3) := by decide +kernel
theorem dX10_isLeast_79 : decode cX10_isLeast 79 = .ok (.iload 4, 2) := by decide +kernel
theorem dX10_isLeast_81 : decode cX10_isLeast 81 = .ok (.aload_n 0, 1) := by decide +kernel
theorem dX10_isLeast_82 : decode cX10_isLeast 82 = .ok (.getfield 241, 3) := by decide +kernel
theorem dX10_isLeast_85 : decode cX10_isLeast 85 = .ok (.if_icmp .ge 22, 3) := by decide +kernel
theorem dX10_isLeast_88 : decode cX10_isLeast 88 = .ok (.aload_n 0, 1) := by decide +kernel
theorem dX10_isLeast_89 : decode cX10_isLeast 89 = .ok (.getfield 102, 3) := by decide +kernel
theorem dX10_isLeast_92 : decode cX10_isLeast 92 = .ok (.iload 5, 2) := by decide +kernel
theorem dX10_isLeast_94 : decode cX10_isLeast 94 = .ok (.iaload, 1) := by decide +kernel
theorem dX10_isLeast_95 : decode cX10_isLeast 95 = .ok (.aload_n 0, 1) := by decide +kernel
theorem dX10_isLeast_96 : decode cX10_isLeast 96 = .ok (.getfield 102, 3) := by decide +kernel
theorem dX10_isLeast_99 : decode cX10_isLeast 99 = .ok (.iload 4, 2) := by decide +kernel
theorem dX10_isLeast_101 : decode cX10_isLeast 101 = .ok (.iaload, 1) := by decide +kernel
theorem dX10_isLeast_102 : decode cX10_isLeast 102 = .ok (.if_icmp .ge 5, 3) := by decide +kernel
theorem dX10_isLeast_105 : decode cX10_isLeast 105 = .ok (.iconst 0, 1) := by decide +kernel
theorem dX10_isLeast_106 : decode cX10_isLeast 106 = .ok (.ireturn, 1) := by decide +kernel
theorem dX10_isLeast_107 : decode cX10_isLeast 107 = .ok (.iinc 3 (-2), 3) := by decide +kernel
theorem dX10_isLeast_110 : decode cX10_isLeast 110 = .ok (.goto (-98), 3) := by decide +kernel
theorem dX10_isLeast_113 : decode cX10_isLeast 113 = .ok (.iinc 2 1, 3) := by decide +kernel
theorem dX10_isLeast_116 : decode cX10_isLeast 116 = .ok (.goto (-114), 3) := by decide +kernel
theorem dX10_isLeast_119 : decode cX10_isLeast 119 = .ok (.iconst 1, 1) := by decide +kernel
theorem dX10_isLeast_120 : decode cX10_isLeast 120 = .ok (.ireturn, 1) := by decide +kernel
theorem dX10_go_0 : decode cX10_go 0 = .ok (.iconst 0, 1) := by decide +kernel
theorem dX10_go_1 : decode cX10_go 1 = .ok (.istore_n 3, 1) := by decide +kernel
theorem dX10_go_2 : decode cX10_go 2 = .ok (.iconst 0, 1) := by decide +kernel
theorem dX10_go_3 : decode cX10_go 3 = .ok (.istore 4, 2) := by decide +kernel
theorem dX10_go_5 : decode cX10_go 5 = .ok (.aload_n 0, 1) := by decide +kernel
theorem dX10_go_6 : decode cX10_go 6 = .ok (.iconst 0, 1) := by decide +kernel
theorem dX10_go_7 : decode cX10_go 7 = .ok (.putfield 241, 3) := by decide +kernel
theorem dX10_go_10 : decode cX10_go 10 = .ok (.iconst 0, 1) := by decide +kernel
theorem dX10_go_11 : decode cX10_go 11 = .ok (.istore 5, 2) := by decide +kernel
theorem dX10_go_13 : decode cX10_go 13 = .ok (.iconst 1, 1) := by decide +kernel
theorem dX10_go_14 : decode cX10_go 14 = .ok (.istore 6, 2) := by decide +kernel
theorem dX10_go_16 : decode cX10_go 16 = .ok (.iload 6, 2) := by decide +kernel
theorem dX10_go_18 : decode cX10_go 18 = .ok (.ifCond .eq 128, 3) := by decide +kernel
theorem dX10_go_21 : decode cX10_go 21 = .ok (.aload_n 0, 1) := by decide +kernel
theorem dX10_go_22 : decode cX10_go 22 = .ok (.iload 5, 2) := by decide +kernel
theorem dX10_go_24 : decode cX10_go 24 = .ok (.invokevirtual 244, 3) := by decide +kernel
theorem dX10_go_27 : decode cX10_go 27 = .ok (.istore 7, 2) := by decide +kernel
theorem dX10_go_29 : decode cX10_go 29 = .ok (.iload 4, 2) := by decide +kernel
theorem dX10_go_31 : decode cX10_go 31 = .ok (.iload 7, 2) := by decide +kernel
theorem dX10_go_33 : decode cX10_go 33 = .ok (.iadd, 1) := by decide +kernel
theorem dX10_go_34 : decode cX10_go 34 = .ok (.aload_n 0, 1) := by decide +kernel
theorem dX10_go_35 : decode cX10_go 35 = .ok (.getfield 125, 3) := by decide +kernel
theorem dX10_go_38 : decode cX10_go 38 = .ok (.if_icmp .gt 64, 3) := by decide +kernel
theorem dX10_go_41 : decode cX10_go 41 = .ok (.aload_n 0, 1) := by decide +kernel
theorem dX10_go_42 : decode cX10_go 42 = .ok (.getfield 102, 3) := by decide +kernel
theorem dX10_go_45 : decode cX10_go 45 = .ok (.aload_n 0, 1) := by decide +kernel
theorem dX10_go_46 : decode cX10_go 46 = .ok (.getfield 241, 3) := by decide +kernel
theorem dX10_go_49 : decode cX10_go 49 = .ok (.iload 7, 2) := by decide +kernel
theorem dX10_go_51 : decode cX10_go 51 = .ok (.iastore, 1) := by decide +kernel
theorem dX10_go_52 : decode cX10_go 52 = .ok (.aload_n 0, 1) := by decide +kernel
theorem dX10_go_53 : decode cX10_go 53 = .ok (.dup, 1) := by decide +kernel
theorem dX10_go_54 : decode cX10_go 54 = .ok (.getfield 241, 3) := by decide +kernel
theorem dX10_go_57 : decode cX10_go 57 = .ok (.iconst 1, 1) := by decide +kernel
theorem dX10_go_58 : decode cX10_go 58 = .ok (.iadd, 1) := by decide +kernel
theorem dX10_go_59 : decode cX10_go 59 = .ok (.putfield 241, 3) := by decide +kernel
theorem dX10_go_62 : decode cX10_go 62 = .ok (.iload 4, 2) := by decide +kernel
theorem dX10_go_64 : decode cX10_go 64 = .ok (.iload 7, 2) := by decide +kernel
theorem dX10_go_66 : decode cX10_go 66 = .ok (.iadd, 1) := by decide +kernel
theorem dX10_go_67 : decode cX10_go 67 = .ok (.istore 4, 2) := by decide +kernel
theorem dX10_go_69 : decode cX10_go 69 = .ok (.iconst 0, 1) := by decide +kernel
theorem dX10_go_70 : decode cX10_go 70 = .ok (.istore 5, 2) := by decide +kernel
theorem dX10_go_72 : decode cX10_go 72 = .ok (.iload 4, 2) := by decide +kernel
theorem dX10_go_74 : decode cX10_go 74 = .ok (.aload_n 0, 1) := by decide +kernel
theorem dX10_go_75 : decode cX10_go 75 = .ok (.getfield 125, 3) := by decide +kernel
theorem dX10_go_78 : decode cX10_go 78 = .ok (.if_icmp .ne 65, 3) := by decide +kernel
theorem dX10_go_81 : decode cX10_go 81 = .ok (.aload_n 0, 1) := by decide +kernel
theorem dX10_go_82 : decode cX10_go 82 = .ok (.iload_n 1, 1) := by decide +kernel
theorem dX10_go_83 : decode cX10_go 83 = .ok (.invokevirtual 247, 3) := by decide +kernel
theorem dX10_go_86 : decode cX10_go 86 = .ok (.ifCond .eq 57, 3) := by decide +kernel
theorem dX10_go_89 : decode cX10_go 89 = .ok (.iload_n 3, 1) := by decide +kernel
theorem dX10_go_90 : decode cX10_go 90 = .ok (.iload_n 2, 1) := by decide +kernel
theorem dX10_go_91 : decode cX10_go 91 = .ok (.if_icmp .ne 5, 3) := by decide +kernel
theorem dX10_go_94 : decode cX10_go 94 = .ok (.iload_n 3, 1) := by decide +kernel
theorem dX10_go_95 : decode cX10_go 95 = .ok (.ireturn, 1) := by decide +kernel
theorem dX10_go_96 : decode cX10_go 96 = .ok (.iinc 3 1, 3) := by decide +kernel
theorem dX10_go_99 : decode cX10_go 99 = .ok (.goto 44, 3) := by decide +kernel
theorem dX10_go_102 : decode cX10_go 102 = .ok (.aload_n 0, 1) := by decide +kernel
theorem dX10_go_103 : decode cX10_go 103 = .ok (.getfield 241, 3) := by decide +kernel
theorem dX10_go_106 : decode cX10_go 106 = .ok (.ifCond .le 34, 3) := by decide +kernel
theorem dX10_go_109 : decode cX10_go 109 = .ok (.aload_n 0, 1) := by decide +kernel
theorem dX10_go_110 : decode cX10_go 110 = .ok (.dup, 1) := by decide +kernel
theorem dX10_go_111 : decode cX10_go 111 = .ok (.getfield 241, 3) := by decide +kernel
theorem dX10_go_114 : decode cX10_go 114 = .ok (.iconst 1, 1) := by decide +kernel
theorem dX10_go_115 : decode cX10_go 115 = .ok (.isub, 1) := by decide +kernel
theorem dX10_go_116 : decode cX10_go 116 = .ok (.putfield 241, 3) := by decide +kernel
theorem dX10_go_119 : decode cX10_go 119 = .ok (.aload_n 0, 1) := by decide +kernel
theorem dX10_go_120 : decode cX10_go 120 = .ok (.getfield 102, 3) := by decide +kernel
theorem dX10_go_123 : decode cX10_go 123 = .ok (.aload_n 0, 1) := by decide +kernel
theorem dX10_go_124 : decode cX10_go 124 = .ok (.getfield 241, 3) := by decide +kernel
theorem dX10_go_127 : decode cX10_go 127 = .ok (.iaload, 1) := by decide +kernel
theorem dX10_go_128 : decode cX10_go 128 = .ok (.istore 5, 2) := by decide +kernel
theorem dX10_go_130 : decode cX10_go 130 = .ok (.iload 4, 2) := by decide +kernel
theorem dX10_go_132 : decode cX10_go 132 = .ok (.iload 5, 2) := by decide +kernel
theorem dX10_go_134 : decode cX10_go 134 = .ok (.isub, 1) := by decide +kernel
theorem dX10_go_135 : decode cX10_go 135 = .ok (.istore 4, 2) := by decide +kernel
theorem dX10_go_137 : decode cX10_go 137 = .ok (.goto 6, 3) := by decide +kernel
theorem dX10_go_140 : decode cX10_go 140 = .ok (.iconst 0, 1) := by decide +kernel
theorem dX10_go_141 : decode cX10_go 141 = .ok (.istore 6, 2) := by decide +kernel
theorem dX10_go_143 : decode cX10_go 143 = .ok (.goto (-127), 3) := by decide +kernel
theorem dX10_go_146 : decode cX10_go 146 = .ok (.iload_n 3, 1) := by decide +kernel
theorem dX10_go_147 : decode cX10_go 147 = .ok (.ireturn, 1) := by decide +kernel
theorem dX10_rounds_0 : decode cX10_rounds 0 = .ok (.aload_n 0, 1) := by decide +kernel
theorem dX10_rounds_1 : decode cX10_rounds 1 = .ok (.iload_n 1, 1) := by decide +kernel
theorem dX10_rounds_2 : decode cX10_rounds 2 = .ok (.iconst (-1), 1) := by decide +kernel
theorem dX10_rounds_3 : decode cX10_rounds 3 = .ok (.invokevirtual 251, 3) := by decide +kernel
theorem dX10_rounds_6 : decode cX10_rounds 6 = .ok (.ireturn, 1) := by decide +kernel
theorem dX10_round_0 : decode cX10_round 0 = .ok (.iload_n 2, 1) := by decide +kernel
theorem dX10_round_1 : decode cX10_round 1 = .ok (.ifCond .lt 8, 3) := by decide +kernel
theorem dX10_round_4 : decode cX10_round 4 = .ok (.iload_n 3, 1) := by decide +kernel
theorem dX10_round_5 : decode cX10_round 5 = .ok (.iconst (-1), 1) := by decide +kernel
theorem dX10_round_6 : decode cX10_round 6 = .ok (.if_icmp .ge 5, 3) := by decide +kernel
theorem dX10_round_9 : decode cX10_round 9 = .ok (.iconst (-1), 1) := by decide +kernel
theorem dX10_round_10 : decode cX10_round 10 = .ok (.ireturn, 1) := by decide +kernel
theorem dX10_round_11 : decode cX10_round 11 = .ok (.aload_n 0, 1) := by decide +kernel
theorem dX10_round_12 : decode cX10_round 12 = .ok (.iload_n 1, 1) := by decide +kernel
theorem dX10_round_13 : decode cX10_round 13 = .ok (.iload_n 2, 1) := by decide +kernel
theorem dX10_round_14 : decode cX10_round 14 = .ok (.invokevirtual 251, 3) := by decide +kernel
theorem dX10_round_17 : decode cX10_round 17 = .ok (.istore 4, 2) := by decide +kernel
theorem dX10_round_19 : decode cX10_round 19 = .ok (.aload_n 0, 1) := by decide +kernel
theorem dX10_round_20 : decode cX10_round 20 = .ok (.getfield 241, 3) := by decide +kernel
theorem dX10_round_23 : decode cX10_round 23 = .ok (.ifCond .eq 9, 3) := by decide +kernel
theorem dX10_round_26 : decode cX10_round 26 = .ok (.iload 4, 2) := by decide +kernel
theorem dX10_round_28 : decode cX10_round 28 = .ok (.iload_n 2, 1) := by decide +kernel
theorem dX10_round_29 : decode cX10_round 29 = .ok (.if_icmp .eq 5, 3) := by decide +kernel
theorem dX10_round_32 : decode cX10_round 32 = .ok (.iconst (-1), 1) := by decide +kernel
theorem dX10_round_33 : decode cX10_round 33 = .ok (.ireturn, 1) := by decide +kernel
theorem dX10_round_34 : decode cX10_round 34 = .ok (.iload_n 3, 1) := by decide +kernel
theorem dX10_round_35 : decode cX10_round 35 = .ok (.iconst (-1), 1) := by decide +kernel
theorem dX10_round_36 : decode cX10_round 36 = .ok (.if_icmp .ne 10, 3) := by decide +kernel
theorem dX10_round_39 : decode cX10_round 39 = .ok (.aload_n 0, 1) := by decide +kernel
theorem dX10_round_40 : decode cX10_round 40 = .ok (.getfield 241, 3) := by decide +kernel
theorem dX10_round_43 : decode cX10_round 43 = .ok (.goto 21, 3) := by decide +kernel
theorem dX10_round_46 : decode cX10_round 46 = .ok (.iload_n 3, 1) := by decide +kernel
theorem dX10_round_47 : decode cX10_round 47 = .ok (.aload_n 0, 1) := by decide +kernel
theorem dX10_round_48 : decode cX10_round 48 = .ok (.getfield 241, 3) := by decide +kernel
theorem dX10_round_51 : decode cX10_round 51 = .ok (.if_icmp .ge 12, 3) := by decide +kernel
theorem dX10_round_54 : decode cX10_round 54 = .ok (.aload_n 0, 1) := by decide +kernel
theorem dX10_round_55 : decode cX10_round 55 = .ok (.getfield 102, 3) := by decide +kernel
theorem dX10_round_58 : decode cX10_round 58 = .ok (.iload_n 3, 1) := by decide +kernel
theorem dX10_round_59 : decode cX10_round 59 = .ok (.iaload, 1) := by decide +kernel
theorem dX10_round_60 : decode cX10_round 60 = .ok (.goto 4, 3) := by decide +kernel
theorem dX10_round_63 : decode cX10_round 63 = .ok (.iconst (-1), 1) := by decide +kernel
theorem dX10_round_64 : decode cX10_round 64 = .ok (.ireturn, 1) := by decide +kernel
theorem dX10_count_0 : decode cX10_count 0 = .ok (.iload_n 1, 1) := by decide +kernel
theorem dX10_count_1 : decode cX10_count 1 = .ok (.tableswitch 74 0 5 #[39, 44, 49, 54, 59, 69], 39) := by decide +kernel
theorem dX10_count_40 : decode cX10_count 40 = .ok (.aload_n 0, 1) := by decide +kernel
theorem dX10_count_41 : decode cX10_count 41 = .ok (.getfield 132, 3) := by decide +kernel
theorem dX10_count_44 : decode cX10_count 44 = .ok (.ireturn, 1) := by decide +kernel
theorem dX10_count_45 : decode cX10_count 45 = .ok (.aload_n 0, 1) := by decide +kernel
theorem dX10_count_46 : decode cX10_count 46 = .ok (.getfield 173, 3) := by decide +kernel
theorem dX10_count_49 : decode cX10_count 49 = .ok (.ireturn, 1) := by decide +kernel
theorem dX10_count_50 : decode cX10_count 50 = .ok (.aload_n 0, 1) := by decide +kernel
theorem dX10_count_51 : decode cX10_count 51 = .ok (.getfield 238, 3) := by decide +kernel
theorem dX10_count_54 : decode cX10_count 54 = .ok (.ireturn, 1) := by decide +kernel
theorem dX10_count_55 : decode cX10_count 55 = .ok (.aload_n 0, 1) := by decide +kernel
theorem dX10_count_56 : decode cX10_count 56 = .ok (.getfield 119, 3) := by decide +kernel
theorem dX10_count_59 : decode cX10_count 59 = .ok (.ireturn, 1) := by decide +kernel
theorem dX10_count_60 : decode cX10_count 60 = .ok (.aload_n 0, 1) := by decide +kernel
theorem dX10_count_61 : decode cX10_count 61 = .ok (.getfield 105, 3) := by decide +kernel
theorem dX10_count_64 : decode cX10_count 64 = .ok (.aload_n 0, 1) := by decide +kernel
theorem dX10_count_65 : decode cX10_count 65 = .ok (.getfield 109, 3) := by decide +kernel
theorem dX10_count_68 : decode cX10_count 68 = .ok (.imul, 1) := by decide +kernel
theorem dX10_count_69 : decode cX10_count 69 = .ok (.ireturn, 1) := by decide +kernel
theorem dX10_count_70 : decode cX10_count 70 = .ok (.aload_n 0, 1) := by decide +kernel
theorem dX10_count_71 : decode cX10_count 71 = .ok (.getfield 125, 3) := by decide +kernel
theorem dX10_count_74 : decode cX10_count 74 = .ok (.ireturn, 1) := by decide +kernel
theorem dX10_count_75 : decode cX10_count 75 = .ok (.bipush (-2), 2) := by decide +kernel
theorem dX10_count_77 : decode cX10_count 77 = .ok (.ireturn, 1) := by decide +kernel
