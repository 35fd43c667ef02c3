theorem dX3_init_0 : decode cX3_init 0 = .ok (.aload_n 0, 1) := by decide +kernel
theorem dX3_init_1 : decode cX3_init 1 = .ok (.invokespecial 3, 3) := by decide +kernel
theorem dX3_init_4 : decode cX3_init 4 = .ok (.aload_n 0, 1) := by decide +kernel
theorem dX3_init_5 : decode cX3_init 5 = .ok (.iconst 0, 1) := by decide +kernel
theorem dX3_init_6 : decode cX3_init 6 = .ok (.putfield 9, 3) := by decide +kernel
theorem dX3_init_9 : decode cX3_init 9 = .ok (.aload_n 0, 1) := by decide +kernel
theorem dX3_init_10 : decode cX3_init 10 = .ok (.lconst 0, 1) := by decide +kernel
theorem dX3_init_11 : decode cX3_init 11 = .ok (.putfield 15, 3) := by decide +kernel
theorem dX3_init_14 : decode cX3_init 14 = .ok (.aload_n 0, 1) := by decide +kernel
theorem dX3_init_15 : decode cX3_init 15 = .ok (.lconst 0, 1) := by decide +kernel
theorem dX3_init_16 : decode cX3_init 16 = .ok (.putfield 19, 3) := by decide +kernel
theorem dX3_init_19 : decode cX3_init 19 = .ok (.aload_n 0, 1) := by decide +kernel
theorem dX3_init_20 : decode cX3_init 20 = .ok (.bipush 21, 2) := by decide +kernel
theorem dX3_init_22 : decode cX3_init 22 = .ok (.newarray .long, 2) := by decide +kernel
theorem dX3_init_24 : decode cX3_init 24 = .ok (.putfield 22, 3) := by decide +kernel
theorem dX3_init_27 : decode cX3_init 27 = .ok (.aload_n 0, 1) := by decide +kernel
theorem dX3_init_28 : decode cX3_init 28 = .ok (.bipush 21, 2) := by decide +kernel
theorem dX3_init_30 : decode cX3_init 30 = .ok (.newarray .long, 2) := by decide +kernel
theorem dX3_init_32 : decode cX3_init 32 = .ok (.putfield 26, 3) := by decide +kernel
theorem dX3_init_35 : decode cX3_init 35 = .ok (.aload_n 0, 1) := by decide +kernel
theorem dX3_init_36 : decode cX3_init 36 = .ok (.aload_n 1, 1) := by decide +kernel
theorem dX3_init_37 : decode cX3_init 37 = .ok (.putfield 29, 3) := by decide +kernel
theorem dX3_init_40 : decode cX3_init 40 = .ok (.return_, 1) := by decide +kernel
theorem dX3_begin_0 : decode cX3_begin 0 = .ok (.aload_n 0, 1) := by decide +kernel
theorem dX3_begin_1 : decode cX3_begin 1 = .ok (.iconst 1, 1) := by decide +kernel
theorem dX3_begin_2 : decode cX3_begin 2 = .ok (.iload_n 1, 1) := by decide +kernel
theorem dX3_begin_3 : decode cX3_begin 3 = .ok (.ishl, 1) := by decide +kernel
theorem dX3_begin_4 : decode cX3_begin 4 = .ok (.putfield 9, 3) := by decide +kernel
theorem dX3_begin_7 : decode cX3_begin 7 = .ok (.aload_n 0, 1) := by decide +kernel
theorem dX3_begin_8 : decode cX3_begin 8 = .ok (.lconst 0, 1) := by decide +kernel
theorem dX3_begin_9 : decode cX3_begin 9 = .ok (.putfield 15, 3) := by decide +kernel
theorem dX3_begin_12 : decode cX3_begin 12 = .ok (.aload_n 0, 1) := by decide +kernel
theorem dX3_begin_13 : decode cX3_begin 13 = .ok (.lconst 0, 1) := by decide +kernel
theorem dX3_begin_14 : decode cX3_begin 14 = .ok (.putfield 19, 3) := by decide +kernel
theorem dX3_begin_17 : decode cX3_begin 17 = .ok (.aload_n 0, 1) := by decide +kernel
theorem dX3_begin_18 : decode cX3_begin 18 = .ok (.getfield 22, 3) := by decide +kernel
theorem dX3_begin_21 : decode cX3_begin 21 = .ok (.lconst 0, 1) := by decide +kernel
theorem dX3_begin_22 : decode cX3_begin 22 = .ok (.invokestatic 33, 3) := by decide +kernel
theorem dX3_begin_25 : decode cX3_begin 25 = .ok (.return_, 1) := by decide +kernel
theorem dX3_firstBeside_0 : decode cX3_firstBeside 0 = .ok (.iconst 1, 1) := by decide +kernel
theorem dX3_firstBeside_1 : decode cX3_firstBeside 1 = .ok (.istore 4, 2) := by decide +kernel
theorem dX3_firstBeside_3 : decode cX3_firstBeside 3 = .ok (.iload 4, 2) := by decide +kernel
theorem dX3_firstBeside_5 : decode cX3_firstBeside 5 = .ok (.bipush 42, 2) := by decide +kernel
theorem dX3_firstBeside_7 : decode cX3_firstBeside 7 = .ok (.if_icmp .gt 42, 3) := by decide +kernel
theorem dX3_firstBeside_10 : decode cX3_firstBeside 10 = .ok (.aload_n 0, 1) := by decide +kernel
theorem dX3_firstBeside_11 : decode cX3_firstBeside 11 = .ok (.invokevirtual 39, 3) := by decide +kernel
theorem dX3_firstBeside_14 : decode cX3_firstBeside 14 = .ok (.iload_n 3, 1) := by decide +kernel
theorem dX3_firstBeside_15 : decode cX3_firstBeside 15 = .ok (.ifCond .ne 10, 3) := by decide +kernel
theorem dX3_firstBeside_18 : decode cX3_firstBeside 18 = .ok (.aload_n 0, 1) := by decide +kernel
theorem dX3_firstBeside_19 : decode cX3_firstBeside 19 = .ok (.getfield 15, 3) := by decide +kernel
theorem dX3_firstBeside_22 : decode cX3_firstBeside 22 = .ok (.goto 7, 3) := by decide +kernel
theorem dX3_firstBeside_25 : decode cX3_firstBeside 25 = .ok (.aload_n 0, 1) := by decide +kernel
theorem dX3_firstBeside_26 : decode cX3_firstBeside 26 = .ok (.getfield 19, 3) := by decide +kernel
theorem dX3_firstBeside_29 : decode cX3_firstBeside 29 = .ok (.iload_n 1, 1) := by decide +kernel
theorem dX3_firstBeside_30 : decode cX3_firstBeside 30 = .ok (.iload_n 2, 1) := by decide +kernel
theorem dX3_firstBeside_31 : decode cX3_firstBeside 31 = .ok (.invokestatic 42, 3) := by decide +kernel
theorem dX3_firstBeside_34 : decode cX3_firstBeside 34 = .ok (.land, 1) := by decide +kernel
theorem dX3_firstBeside_35 : decode cX3_firstBeside 35 = .ok (.lconst 0, 1) := by decide +kernel
theorem dX3_firstBeside_36 : decode cX3_firstBeside 36 = .ok (.lcmp, 1) := by decide +kernel
theorem dX3_firstBeside_37 : decode cX3_firstBeside 37 = .ok (.ifCond .eq 6, 3) := by decide +kernel
theorem dX3_firstBeside_40 : decode cX3_firstBeside 40 = .ok (.iload 4, 2) := by decide +kernel
theorem dX3_firstBeside_42 : decode cX3_firstBeside 42 = .ok (.ireturn, 1) := by decide +kernel
theorem dX3_firstBeside_43 : decode cX3_firstBeside 43 = .ok (.iinc 4 1, 3) := by decide +kernel
theorem dX3_firstBeside_46 : decode cX3_firstBeside 46 = .ok (.goto (-43), 3) := by decide +kernel
theorem dX3_firstBeside_49 : decode cX3_firstBeside 49 = .ok (.iconst (-1), 1) := by decide +kernel
theorem dX3_firstBeside_50 : decode cX3_firstBeside 50 = .ok (.ireturn, 1) := by decide +kernel
theorem dX3_countSquares_0 : decode cX3_countSquares 0 = .ok (.iconst 0, 1) := by decide +kernel
theorem dX3_countSquares_1 : decode cX3_countSquares 1 = .ok (.istore_n 2, 1) := by decide +kernel
theorem dX3_countSquares_2 : decode cX3_countSquares 2 = .ok (.iload_n 2, 1) := by decide +kernel
theorem dX3_countSquares_3 : decode cX3_countSquares 3 = .ok (.iload_n 1, 1) := by decide +kernel
theorem dX3_countSquares_4 : decode cX3_countSquares 4 = .ok (.if_icmp .ge 17, 3) := by decide +kernel
theorem dX3_countSquares_7 : decode cX3_countSquares 7 = .ok (.aload_n 0, 1) := by decide +kernel
theorem dX3_countSquares_8 : decode cX3_countSquares 8 = .ok (.invokevirtual 46, 3) := by decide +kernel
theorem dX3_countSquares_11 : decode cX3_countSquares 11 = .ok (.aload_n 0, 1) := by decide +kernel
theorem dX3_countSquares_12 : decode cX3_countSquares 12 = .ok (.invokevirtual 39, 3) := by decide +kernel
theorem dX3_countSquares_15 : decode cX3_countSquares 15 = .ok (.iinc 2 1, 3) := by decide +kernel
theorem dX3_countSquares_18 : decode cX3_countSquares 18 = .ok (.goto (-16), 3) := by decide +kernel
theorem dX3_countSquares_21 : decode cX3_countSquares 21 = .ok (.iconst 0, 1) := by decide +kernel
theorem dX3_countSquares_22 : decode cX3_countSquares 22 = .ok (.istore_n 2, 1) := by decide +kernel
theorem dX3_countSquares_23 : decode cX3_countSquares 23 = .ok (.iconst 0, 1) := by decide +kernel
theorem dX3_countSquares_24 : decode cX3_countSquares 24 = .ok (.istore_n 3, 1) := by decide +kernel
theorem dX3_countSquares_25 : decode cX3_countSquares 25 = .ok (.iload_n 3, 1) := by decide +kernel
theorem dX3_countSquares_26 : decode cX3_countSquares 26 = .ok (.bipush 21, 2) := by decide +kernel
theorem dX3_countSquares_28 : decode cX3_countSquares 28 = .ok (.if_icmp .ge 21, 3) := by decide +kernel
theorem dX3_countSquares_31 : decode cX3_countSquares 31 = .ok (.iload_n 2, 1) := by decide +kernel
theorem dX3_countSquares_32 : decode cX3_countSquares 32 = .ok (.aload_n 0, 1) := by decide +kernel
theorem dX3_countSquares_33 : decode cX3_countSquares 33 = .ok (.getfield 22, 3) := by decide +kernel
theorem dX3_countSquares_36 : decode cX3_countSquares 36 = .ok (.iload_n 3, 1) := by decide +kernel
theorem dX3_countSquares_37 : decode cX3_countSquares 37 = .ok (.laload, 1) := by decide +kernel
theorem dX3_countSquares_38 : decode cX3_countSquares 38 = .ok (.invokestatic 49, 3) := by decide +kernel
theorem dX3_countSquares_41 : decode cX3_countSquares 41 = .ok (.iadd, 1) := by decide +kernel
theorem dX3_countSquares_42 : decode cX3_countSquares 42 = .ok (.istore_n 2, 1) := by decide +kernel
theorem dX3_countSquares_43 : decode cX3_countSquares 43 = .ok (.iinc 3 1, 3) := by decide +kernel
theorem dX3_countSquares_46 : decode cX3_countSquares 46 = .ok (.goto (-21), 3) := by decide +kernel
theorem dX3_countSquares_49 : decode cX3_countSquares 49 = .ok (.iload_n 2, 1) := by decide +kernel
theorem dX3_countSquares_50 : decode cX3_countSquares 50 = .ok (.ireturn, 1) := by decide +kernel
theorem dX3_growPairs_0 : decode cX3_growPairs 0 = .ok (.iconst 0, 1) := by decide +kernel
theorem dX3_growPairs_1 : decode cX3_growPairs 1 = .ok (.istore_n 1, 1) := by decide +kernel
theorem dX3_growPairs_2 : decode cX3_growPairs 2 = .ok (.lconst 0, 1) := by decide +kernel
theorem dX3_growPairs_3 : decode cX3_growPairs 3 = .ok (.lstore_n 2, 1) := by decide +kernel
theorem dX3_growPairs_4 : decode cX3_growPairs 4 = .ok (.lconst 0, 1) := by decide +kernel
theorem dX3_growPairs_5 : decode cX3_growPairs 5 = .ok (.lstore 4, 2) := by decide +kernel
theorem dX3_growPairs_7 : decode cX3_growPairs 7 = .ok (.iconst 0, 1) := by decide +kernel
theorem dX3_growPairs_8 : decode cX3_growPairs 8 = .ok (.istore 6, 2) := by decide +kernel
theorem dX3_growPairs_10 : decode cX3_growPairs 10 = .ok (.iload 6, 2) := by decide +kernel
theorem dX3_growPairs_12 : decode cX3_growPairs 12 = .ok (.aload_n 0, 1) := by decide +kernel
theorem dX3_growPairs_13 : decode cX3_growPairs 13 = .ok (.getfield 29, 3) := by decide +kernel
theorem dX3_growPairs_16 : decode cX3_growPairs 16 = .ok (.getfield 55, 3) := by decide +kernel
theorem dX3_growPairs_19 : decode cX3_growPairs 19 = .ok (.if_icmp .ge 140, 3) := by decide +kernel
theorem dX3_growPairs_22 : decode cX3_growPairs 22 = .ok (.aload_n 0, 1) := by decide +kernel
theorem dX3_growPairs_23 : decode cX3_growPairs 23 = .ok (.getfield 9, 3) := by decide +kernel
theorem dX3_growPairs_26 : decode cX3_growPairs 26 = .ok (.iload 6, 2) := by decide +kernel
theorem dX3_growPairs_28 : decode cX3_growPairs 28 = .ok (.ishr, 1) := by decide +kernel
theorem dX3_growPairs_29 : decode cX3_growPairs 29 = .ok (.iconst 1, 1) := by decide +kernel
theorem dX3_growPairs_30 : decode cX3_growPairs 30 = .ok (.iand, 1) := by decide +kernel
theorem dX3_growPairs_31 : decode cX3_growPairs 31 = .ok (.ifCond .eq 35, 3) := by decide +kernel
theorem dX3_growPairs_34 : decode cX3_growPairs 34 = .ok (.iload_n 1, 1) := by decide +kernel
theorem dX3_growPairs_35 : decode cX3_growPairs 35 = .ok (.aload_n 0, 1) := by decide +kernel
theorem dX3_growPairs_36 : decode cX3_growPairs 36 = .ok (.getfield 29, 3) := by decide +kernel
theorem dX3_growPairs_39 : decode cX3_growPairs 39 = .ok (.iload 6, 2) := by decide +kernel
theorem dX3_growPairs_41 : decode cX3_growPairs 41 = .ok (.invokevirtual 60, 3) := by decide +kernel
theorem dX3_growPairs_44 : decode cX3_growPairs 44 = .ok (.ior, 1) := by decide +kernel
theorem dX3_growPairs_45 : decode cX3_growPairs 45 = .ok (.istore_n 1, 1) := by decide +kernel
theorem dX3_growPairs_46 : decode cX3_growPairs 46 = .ok (.lload_n 2, 1) := by decide +kernel
theorem dX3_growPairs_47 : decode cX3_growPairs 47 = .ok (.aload_n 0, 1) := by decide +kernel
theorem dX3_growPairs_48 : decode cX3_growPairs 48 = .ok (.iload 6, 2) := by decide +kernel
theorem dX3_growPairs_50 : decode cX3_growPairs 50 = .ok (.invokevirtual 64, 3) := by decide +kernel
theorem dX3_growPairs_53 : decode cX3_growPairs 53 = .ok (.lor, 1) := by decide +kernel
theorem dX3_growPairs_54 : decode cX3_growPairs 54 = .ok (.lstore_n 2, 1) := by decide +kernel
theorem dX3_growPairs_55 : decode cX3_growPairs 55 = .ok (.lload 4, 2) := by decide +kernel
theorem dX3_growPairs_57 : decode cX3_growPairs 57 = .ok (.aload_n 0, 1) := by decide +kernel
theorem dX3_growPairs_58 : decode cX3_growPairs 58 = .ok (.iload 6, 2) := by decide +kernel
theorem dX3_growPairs_60 : decode cX3_growPairs 60 = .ok (.invokevirtual 68, 3) := by decide +kernel
theorem dX3_growPairs_63 : decode cX3_growPairs 63 = .ok (.lor, 1) := by decide +kernel
theorem dX3_growPairs_64 : decode cX3_growPairs 64 = .ok (.lstore 4, 2) := by decide +kernel
theorem dX3_growPairs_66 : decode cX3_growPairs 66 = .ok (.iconst 0, 1) := by decide +kernel
theorem dX3_growPairs_67 : decode cX3_growPairs 67 = .ok (.istore 7, 2) := by decide +kernel
theorem dX3_growPairs_69 : decode cX3_growPairs 69 = .ok (.iload 7, 2) := by decide +kernel
theorem dX3_growPairs_71 : decode cX3_growPairs 71 = .ok (.aload_n 0, 1) := by decide +kernel
theorem dX3_growPairs_72 : decode cX3_growPairs 72 = .ok (.getfield 29, 3) := by decide +kernel
theorem dX3_growPairs_75 : decode cX3_growPairs 75 = .ok (.getfield 55, 3) := by decide +kernel
theorem dX3_growPairs_78 : decode cX3_growPairs 78 = .ok (.if_icmp .ge 75, 3) := by decide +kernel
theorem dX3_growPairs_81 : decode cX3_growPairs 81 = .ok (.lload_n 2, 1) := by decide +kernel
theorem dX3_growPairs_82 : decode cX3_growPairs 82 = .ok (.aload_n 0, 1) := by decide +kernel
theorem dX3_growPairs_83 : decode cX3_growPairs 83 = .ok (.getfield 15, 3) := by decide +kernel
theorem dX3_growPairs_86 : decode cX3_growPairs 86 = .ok (.iload 6, 2) := by decide +kernel
theorem dX3_growPairs_88 : decode cX3_growPairs 88 = .ok (.iload 7, 2) := by decide +kernel
theorem dX3_growPairs_90 : decode cX3_growPairs 90 = .ok (.invokestatic 42, 3) := by decide +kernel
theorem dX3_growPairs_93 : decode cX3_growPairs 93 = .ok (.land, 1) := by decide +kernel
theorem dX3_growPairs_94 : decode cX3_growPairs 94 = .ok (.lconst 0, 1) := by decide +kernel
theorem dX3_growPairs_95 : decode cX3_growPairs 95 = .ok (.lcmp, 1) := by decide +kernel
theorem dX3_growPairs_96 : decode cX3_growPairs 96 = .ok (.ifCond .eq 14, 3) := by decide +kernel
theorem dX3_growPairs_99 : decode cX3_growPairs 99 = .ok (.aload_n 0, 1) := by decide +kernel
theorem dX3_growPairs_100 : decode cX3_growPairs 100 = .ok (.iload 6, 2) := by decide +kernel
theorem dX3_growPairs_102 : decode cX3_growPairs 102 = .ok (.iload 7, 2) := by decide +kernel
theorem dX3_growPairs_104 : decode cX3_growPairs 104 = .ok (.invokevirtual 71, 3) := by decide +kernel
theorem dX3_growPairs_107 : decode cX3_growPairs 107 = .ok (.goto 4, 3) := by decide +kernel
theorem dX3_growPairs_110 : decode cX3_growPairs 110 = .ok (.lconst 0, 1) := by decide +kernel
theorem dX3_growPairs_111 : decode cX3_growPairs 111 = .ok (.lor, 1) := by decide +kernel
theorem dX3_growPairs_112 : decode cX3_growPairs 112 = .ok (.lstore_n 2, 1) := by decide +kernel
theorem dX3_growPairs_113 : decode cX3_growPairs 113 = .ok (.lload 4, 2) := by decide +kernel
theorem dX3_growPairs_115 : decode cX3_growPairs 115 = .ok (.aload_n 0, 1) := by decide +kernel
theorem dX3_growPairs_116 : decode cX3_growPairs 116 = .ok (.getfield 19, 3) := by decide +kernel
theorem dX3_growPairs_119 : decode cX3_growPairs 119 = .ok (.iload 6, 2) := by decide +kernel
theorem dX3_growPairs_121 : decode cX3_growPairs 121 = .ok (.iload 7, 2) := by decide +kernel
theorem dX3_growPairs_123 : decode cX3_growPairs 123 = .ok (.invokestatic 42, 3) := by decide +kernel
theorem dX3_growPairs_126 : decode cX3_growPairs 126 = .ok (.land, 1) := by decide +kernel
theorem dX3_growPairs_127 : decode cX3_growPairs 127 = .ok (.lconst 0, 1) := by decide +kernel
theorem dX3_growPairs_128 : decode cX3_growPairs 128 = .ok (.lcmp, 1) := by decide +kernel
theorem dX3_growPairs_129 : decode cX3_growPairs 129 = .ok (.ifCond .eq 14, 3) := by decide +kernel
theorem dX3_growPairs_132 : decode cX3_growPairs 132 = .ok (.aload_n 0, 1) := by decide +kernel
theorem dX3_growPairs_133 : decode cX3_growPairs 133 = .ok (.iload 6, 2) := by decide +kernel
theorem dX3_growPairs_135 : decode cX3_growPairs 135 = .ok (.iload 7, 2) := by decide +kernel
theorem dX3_growPairs_137 : decode cX3_growPairs 137 = .ok (.invokevirtual 74, 3) := by decide +kernel
theorem dX3_growPairs_140 : decode cX3_growPairs 140 = .ok (.goto 4, 3) := by decide +kernel
theorem dX3_growPairs_143 : decode cX3_growPairs 143 = .ok (.lconst 0, 1) := by decide +kernel
theorem dX3_growPairs_144 : decode cX3_growPairs 144 = .ok (.lor, 1) := by decide +kernel
theorem dX3_growPairs_145 : decode cX3_growPairs 145 = .ok (.lstore 4, 2) := by decide +kernel
theorem dX3_growPairs_147 : decode cX3_growPairs 147 = .ok (.iinc 7 1, 3) := by decide +kernel
theorem dX3_growPairs_150 : decode cX3_growPairs 150 = .ok (.goto (-81), 3) := by decide +kernel
theorem dX3_growPairs_153 : decode cX3_growPairs 153 = .ok (.iinc 6 1, 3) := by decide +kernel
theorem dX3_growPairs_156 : decode cX3_growPairs 156 = .ok (.goto (-146), 3) := by decide +kernel
theorem dX3_growPairs_159 : decode cX3_growPairs 159 = .ok (.aload_n 0, 1) := by decide +kernel
theorem dX3_growPairs_160 : decode cX3_growPairs 160 = .ok (.iload_n 1, 1) := by decide +kernel
theorem dX3_growPairs_161 : decode cX3_growPairs 161 = .ok (.putfield 9, 3) := by decide +kernel
theorem dX3_growPairs_164 : decode cX3_growPairs 164 = .ok (.aload_n 0, 1) := by decide +kernel
theorem dX3_growPairs_165 : decode cX3_growPairs 165 = .ok (.lload_n 2, 1) := by decide +kernel
theorem dX3_growPairs_166 : decode cX3_growPairs 166 = .ok (.putfield 15, 3) := by decide +kernel
theorem dX3_growPairs_169 : decode cX3_growPairs 169 = .ok (.aload_n 0, 1) := by decide +kernel
theorem dX3_growPairs_170 : decode cX3_growPairs 170 = .ok (.lload 4, 2) := by decide +kernel
theorem dX3_growPairs_172 : decode cX3_growPairs 172 = .ok (.putfield 19, 3) := by decide +kernel
theorem dX3_growPairs_175 : decode cX3_growPairs 175 = .ok (.return_, 1) := by decide +kernel
theorem dX3_growSquares_0 : decode cX3_growSquares 0 = .ok (.aload_n 0, 1) := by decide +kernel
theorem dX3_growSquares_1 : decode cX3_growSquares 1 = .ok (.getfield 26, 3) := by decide +kernel
theorem dX3_growSquares_4 : decode cX3_growSquares 4 = .ok (.lconst 0, 1) := by decide +kernel
theorem dX3_growSquares_5 : decode cX3_growSquares 5 = .ok (.invokestatic 33, 3) := by decide +kernel
theorem dX3_growSquares_8 : decode cX3_growSquares 8 = .ok (.iconst 0, 1) := by decide +kernel
theorem dX3_growSquares_9 : decode cX3_growSquares 9 = .ok (.istore_n 1, 1) := by decide +kernel
theorem dX3_growSquares_10 : decode cX3_growSquares 10 = .ok (.iload_n 1, 1) := by decide +kernel
theorem dX3_growSquares_11 : decode cX3_growSquares 11 = .ok (.aload_n 0, 1) := by decide +kernel
theorem dX3_growSquares_12 : decode cX3_growSquares 12 = .ok (.getfield 29, 3) := by decide +kernel
theorem dX3_growSquares_15 : decode cX3_growSquares 15 = .ok (.getfield 55, 3) := by decide +kernel
theorem dX3_growSquares_18 : decode cX3_growSquares 18 = .ok (.if_icmp .ge 86, 3) := by decide +kernel
theorem dX3_growSquares_21 : decode cX3_growSquares 21 = .ok (.aload_n 0, 1) := by decide +kernel
theorem dX3_growSquares_22 : decode cX3_growSquares 22 = .ok (.getfield 9, 3) := by decide +kernel
theorem dX3_growSquares_25 : decode cX3_growSquares 25 = .ok (.iload_n 1, 1) := by decide +kernel
theorem dX3_growSquares_26 : decode cX3_growSquares 26 = .ok (.ishr, 1) := by decide +kernel
theorem dX3_growSquares_27 : decode cX3_growSquares 27 = .ok (.iconst 1, 1) := by decide +kernel
theorem dX3_growSquares_28 : decode cX3_growSquares 28 = .ok (.iand, 1) := by decide +kernel
theorem dX3_growSquares_29 : decode cX3_growSquares 29 = .ok (.ifCond .eq 8, 3) := by decide +kernel
theorem dX3_growSquares_32 : decode cX3_growSquares 32 = .ok (.aload_n 0, 1) := by decide +kernel
theorem dX3_growSquares_33 : decode cX3_growSquares 33 = .ok (.iload_n 1, 1) := by decide +kernel
theorem dX3_growSquares_34 : decode cX3_growSquares 34 = .ok (.invokevirtual 77, 3) := by decide +kernel
theorem dX3_growSquares_37 : decode cX3_growSquares 37 = .ok (.iconst 0, 1) := by decide +kernel
theorem dX3_growSquares_38 : decode cX3_growSquares 38 = .ok (.istore_n 2, 1) := by decide +kernel
theorem dX3_growSquares_39 : decode cX3_growSquares 39 = .ok (.iload_n 2, 1) := by decide +kernel
theorem dX3_growSquares_40 : decode cX3_growSquares 40 = .ok (.aload_n 0, 1) := by decide +kernel
theorem dX3_growSquares_41 : decode cX3_growSquares 41 = .ok (.getfield 29, 3) := by decide +kernel
theorem dX3_growSquares_44 : decode cX3_growSquares 44 = .ok (.getfield 55, 3) := by decide +kernel
theorem dX3_growSquares_47 : decode cX3_growSquares 47 = .ok (.if_icmp .ge 51, 3) := by decide +kernel
theorem dX3_growSquares_50 : decode cX3_growSquares 50 = .ok (.aload_n 0, 1) := by decide +kernel
theorem dX3_growSquares_51 : decode cX3_growSquares 51 = .ok (.getfield 15, 3) := by decide +kernel
theorem dX3_growSquares_54 : decode cX3_growSquares 54 = .ok (.iload_n 1, 1) := by decide +kernel
theorem dX3_growSquares_55 : decode cX3_growSquares 55 = .ok (.iload_n 2, 1) := by decide +kernel
theorem dX3_growSquares_56 : decode cX3_growSquares 56 = .ok (.invokestatic 42, 3) := by decide +kernel
theorem dX3_growSquares_59 : decode cX3_growSquares 59 = .ok (.land, 1) := by decide +kernel
theorem dX3_growSquares_60 : decode cX3_growSquares 60 = .ok (.lconst 0, 1) := by decide +kernel
theorem dX3_growSquares_61 : decode cX3_growSquares 61 = .ok (.lcmp, 1) := by decide +kernel
theorem dX3_growSquares_62 : decode cX3_growSquares 62 = .ok (.ifCond .eq 9, 3) := by decide +kernel
theorem dX3_growSquares_65 : decode cX3_growSquares 65 = .ok (.aload_n 0, 1) := by decide +kernel
theorem dX3_growSquares_66 : decode cX3_growSquares 66 = .ok (.iload_n 1, 1) := by decide +kernel
theorem dX3_growSquares_67 : decode cX3_growSquares 67 = .ok (.iload_n 2, 1) := by decide +kernel
theorem dX3_growSquares_68 : decode cX3_growSquares 68 = .ok (.invokevirtual 81, 3) := by decide +kernel
theorem dX3_growSquares_71 : decode cX3_growSquares 71 = .ok (.aload_n 0, 1) := by decide +kernel
theorem dX3_growSquares_72 : decode cX3_growSquares 72 = .ok (.getfield 19, 3) := by decide +kernel
theorem dX3_growSquares_75 : decode cX3_growSquares 75 = .ok (.iload_n 1, 1) := by decide +kernel
theorem dX3_growSquares_76 : decode cX3_growSquares 76 = .ok (.iload_n 2, 1) := by decide +kernel
theorem dX3_growSquares_77 : decode cX3_growSquares 77 = .ok (.invokestatic 42, 3) := by decide +kernel
theorem dX3_growSquares_80 : decode cX3_growSquares 80 = .ok (.land, 1) := by decide +kernel
theorem dX3_growSquares_81 : decode cX3_growSquares 81 = .ok (.lconst 0, 1) := by decide +kernel
theorem dX3_growSquares_82 : decode cX3_growSquares 82 = .ok (.lcmp, 1) := by decide +kernel
theorem dX3_growSquares_83 : decode cX3_growSquares 83 = .ok (.ifCond .eq 9, 3) := by decide +kernel
theorem dX3_growSquares_86 : decode cX3_growSquares 86 = .ok (.aload_n 0, 1) := by decide +kernel
theorem dX3_growSquares_87 : decode cX3_growSquares 87 = .ok (.iload_n 1, 1) := by decide +kernel
theorem dX3_growSquares_88 : decode cX3_growSquares 88 = .ok (.iload_n 2, 1) := by decide +kernel
theorem dX3_growSquares_89 : decode cX3_growSquares 89 = .ok (.invokevirtual 85, 3) := by decide +kernel
theorem dX3_growSquares_92 : decode cX3_growSquares 92 = .ok (.iinc 2 1, 3) := by decide +kernel
theorem dX3_growSquares_95 : decode cX3_growSquares 95 = .ok (.goto (-56), 3) := by decide +kernel
theorem dX3_growSquares_98 : decode cX3_growSquares 98 = .ok (.iinc 1 1, 3) := by decide +kernel
theorem dX3_growSquares_101 : decode cX3_growSquares 101 = .ok (.goto (-91), 3) := by decide +kernel
theorem dX3_growSquares_104 : decode cX3_growSquares 104 = .ok (.iconst 0, 1) := by decide +kernel
theorem dX3_growSquares_105 : decode cX3_growSquares 105 = .ok (.istore_n 1, 1) := by decide +kernel
theorem dX3_growSquares_106 : decode cX3_growSquares 106 = .ok (.iload_n 1, 1) := by decide +kernel
theorem dX3_growSquares_107 : decode cX3_growSquares 107 = .ok (.sipush 1296, 3) := by decide +kernel
theorem dX3_growSquares_110 : decode cX3_growSquares 110 = .ok (.if_icmp .ge 35, 3) := by decide +kernel
theorem dX3_growSquares_113 : decode cX3_growSquares 113 = .ok (.aload_n 0, 1) := by decide +kernel
theorem dX3_growSquares_114 : decode cX3_growSquares 114 = .ok (.getfield 22, 3) := by decide +kernel
theorem dX3_growSquares_117 : decode cX3_growSquares 117 = .ok (.iload_n 1, 1) := by decide +kernel
theorem dX3_growSquares_118 : decode cX3_growSquares 118 = .ok (.bipush 64, 2) := by decide +kernel
theorem dX3_growSquares_120 : decode cX3_growSquares 120 = .ok (.idiv, 1) := by decide +kernel
theorem dX3_growSquares_121 : decode cX3_growSquares 121 = .ok (.laload, 1) := by decide +kernel
theorem dX3_growSquares_122 : decode cX3_growSquares 122 = .ok (.iload_n 1, 1) := by decide +kernel
theorem dX3_growSquares_123 : decode cX3_growSquares 123 = .ok (.bipush 64, 2) := by decide +kernel
theorem dX3_growSquares_125 : decode cX3_growSquares 125 = .ok (.irem, 1) := by decide +kernel
theorem dX3_growSquares_126 : decode cX3_growSquares 126 = .ok (.lshr, 1) := by decide +kernel
theorem dX3_growSquares_127 : decode cX3_growSquares 127 = .ok (.lconst 1, 1) := by decide +kernel
theorem dX3_growSquares_128 : decode cX3_growSquares 128 = .ok (.land, 1) := by decide +kernel
theorem dX3_growSquares_129 : decode cX3_growSquares 129 = .ok (.lconst 0, 1) := by decide +kernel
theorem dX3_growSquares_130 : decode cX3_growSquares 130 = .ok (.lcmp, 1) := by decide +kernel
theorem dX3_growSquares_131 : decode cX3_growSquares 131 = .ok (.ifCond .eq 8, 3) := by decide +kernel
theorem dX3_growSquares_134 : decode cX3_growSquares 134 = .ok (.aload_n 0, 1) := by decide +kernel
theorem dX3_growSquares_135 : decode cX3_growSquares 135 = .ok (.iload_n 1, 1) := by decide +kernel
theorem dX3_growSquares_136 : decode cX3_growSquares 136 = .ok (.invokevirtual 88, 3) := by decide +kernel
theorem dX3_growSquares_139 : decode cX3_growSquares 139 = .ok (.iinc 1 1, 3) := by decide +kernel
theorem dX3_growSquares_142 : decode cX3_growSquares 142 = .ok (.goto (-36), 3) := by decide +kernel
theorem dX3_growSquares_145 : decode cX3_growSquares 145 = .ok (.aload_n 0, 1) := by decide +kernel
theorem dX3_growSquares_146 : decode cX3_growSquares 146 = .ok (.getfield 26, 3) := by decide +kernel
theorem dX3_growSquares_149 : decode cX3_growSquares 149 = .ok (.iconst 0, 1) := by decide +kernel
theorem dX3_growSquares_150 : decode cX3_growSquares 150 = .ok (.aload_n 0, 1) := by decide +kernel
theorem dX3_growSquares_151 : decode cX3_growSquares 151 = .ok (.getfield 22, 3) := by decide +kernel
theorem dX3_growSquares_154 : decode cX3_growSquares 154 = .ok (.iconst 0, 1) := by decide +kernel
theorem dX3_growSquares_155 : decode cX3_growSquares 155 = .ok (.bipush 21, 2) := by decide +kernel
theorem dX3_growSquares_157 : decode cX3_growSquares 157 = .ok (.invokestatic 91, 3) := by decide +kernel
theorem dX3_growSquares_160 : decode cX3_growSquares 160 = .ok (.return_, 1) := by decide +kernel
theorem dX3_pair_0 : decode cX3_pair 0 = .ok (.lconst 1, 1) := by decide +kernel
theorem dX3_pair_1 : decode cX3_pair 1 = .ok (.bipush 6, 2) := by decide +kernel
theorem dX3_pair_3 : decode cX3_pair 3 = .ok (.iload_n 0, 1) := by decide +kernel
theorem dX3_pair_4 : decode cX3_pair 4 = .ok (.imul, 1) := by decide +kernel
theorem dX3_pair_5 : decode cX3_pair 5 = .ok (.iload_n 1, 1) := by decide +kernel
theorem dX3_pair_6 : decode cX3_pair 6 = .ok (.iadd, 1) := by decide +kernel
theorem dX3_pair_7 : decode cX3_pair 7 = .ok (.lshl, 1) := by decide +kernel
theorem dX3_pair_8 : decode cX3_pair 8 = .ok (.lreturn, 1) := by decide +kernel
theorem dX3_eastInside_0 : decode cX3_eastInside 0 = .ok (.lconst 0, 1) := by decide +kernel
theorem dX3_eastInside_1 : decode cX3_eastInside 1 = .ok (.lstore_n 2, 1) := by decide +kernel
theorem dX3_eastInside_2 : decode cX3_eastInside 2 = .ok (.iconst 0, 1) := by decide +kernel
theorem dX3_eastInside_3 : decode cX3_eastInside 3 = .ok (.istore 4, 2) := by decide +kernel
theorem dX3_eastInside_5 : decode cX3_eastInside 5 = .ok (.iload 4, 2) := by decide +kernel
theorem dX3_eastInside_7 : decode cX3_eastInside 7 = .ok (.aload_n 0, 1) := by decide +kernel
theorem dX3_eastInside_8 : decode cX3_eastInside 8 = .ok (.getfield 29, 3) := by decide +kernel
theorem dX3_eastInside_11 : decode cX3_eastInside 11 = .ok (.getfield 97, 3) := by decide +kernel
theorem dX3_eastInside_14 : decode cX3_eastInside 14 = .ok (.if_icmp .ge 62, 3) := by decide +kernel
theorem dX3_eastInside_17 : decode cX3_eastInside 17 = .ok (.iconst 1, 1) := by decide +kernel
theorem dX3_eastInside_18 : decode cX3_eastInside 18 = .ok (.istore 5, 2) := by decide +kernel
theorem dX3_eastInside_20 : decode cX3_eastInside 20 = .ok (.iload 5, 2) := by decide +kernel
theorem dX3_eastInside_22 : decode cX3_eastInside 22 = .ok (.aload_n 0, 1) := by decide +kernel
theorem dX3_eastInside_23 : decode cX3_eastInside 23 = .ok (.getfield 29, 3) := by decide +kernel
theorem dX3_eastInside_26 : decode cX3_eastInside 26 = .ok (.getfield 97, 3) := by decide +kernel
theorem dX3_eastInside_29 : decode cX3_eastInside 29 = .ok (.if_icmp .ge 41, 3) := by decide +kernel
theorem dX3_eastInside_32 : decode cX3_eastInside 32 = .ok (.lload_n 2, 1) := by decide +kernel
theorem dX3_eastInside_33 : decode cX3_eastInside 33 = .ok (.aload_n 0, 1) := by decide +kernel
theorem dX3_eastInside_34 : decode cX3_eastInside 34 = .ok (.getfield 29, 3) := by decide +kernel
theorem dX3_eastInside_37 : decode cX3_eastInside 37 = .ok (.iload_n 1, 1) := by decide +kernel
theorem dX3_eastInside_38 : decode cX3_eastInside 38 = .ok (.iload 5, 2) := by decide +kernel
theorem dX3_eastInside_40 : decode cX3_eastInside 40 = .ok (.iconst 1, 1) := by decide +kernel
theorem dX3_eastInside_41 : decode cX3_eastInside 41 = .ok (.isub, 1) := by decide +kernel
theorem dX3_eastInside_42 : decode cX3_eastInside 42 = .ok (.iload 4, 2) := by decide +kernel
theorem dX3_eastInside_44 : decode cX3_eastInside 44 = .ok (.invokevirtual 100, 3) := by decide +kernel
theorem dX3_eastInside_47 : decode cX3_eastInside 47 = .ok (.aload_n 0, 1) := by decide +kernel
theorem dX3_eastInside_48 : decode cX3_eastInside 48 = .ok (.getfield 29, 3) := by decide +kernel
theorem dX3_eastInside_51 : decode cX3_eastInside 51 = .ok (.iload_n 1, 1) := by decide +kernel
theorem dX3_eastInside_52 : decode cX3_eastInside 52 = .ok (.iload 5, 2) := by decide +kernel
theorem dX3_eastInside_54 : decode cX3_eastInside 54 = .ok (.iload 4, 2) := by decide +kernel
theorem dX3_eastInside_56 : decode cX3_eastInside 56 = .ok (.invokevirtual 100, 3) := by decide +kernel
theorem dX3_eastInside_59 : decode cX3_eastInside 59 = .ok (.invokestatic 42, 3) := by decide +kernel
theorem dX3_eastInside_62 : decode cX3_eastInside 62 = .ok (.lor, 1) := by decide +kernel
theorem dX3_eastInside_63 : decode cX3_eastInside 63 = .ok (.lstore_n 2, 1) := by decide +kernel
theorem dX3_eastInside_64 : decode cX3_eastInside 64 = .ok (.iinc 5 1, 3) := by decide +kernel
theorem dX3_eastInside_67 : decode cX3_eastInside 67 = .ok (.goto (-47), 3) := by decide +kernel
theorem dX3_eastInside_70 : decode cX3_eastInside 70 = .ok (.iinc 4 1, 3) := by decide +kernel
theorem dX3_eastInside_73 : decode cX3_eastInside 73 = .ok (.goto (-68), 3) := by decide +kernel
theorem dX3_eastInside_76 : decode cX3_eastInside 76 = .ok (.lload_n 2, 1) := by decide +kernel
theorem dX3_eastInside_77 : decode cX3_eastInside 77 = .ok (.lreturn, 1) := by decide +kernel
theorem dX3_southInside_0 : decode cX3_southInside 0 = .ok (.lconst 0, 1) := by decide +kernel
theorem dX3_southInside_1 : decode cX3_southInside 1 = .ok (.lstore_n 2, 1) := by decide +kernel
theorem dX3_southInside_2 : decode cX3_southInside 2 = .ok (.iconst 1, 1) := by decide +kernel
theorem dX3_southInside_3 : decode cX3_southInside 3 = .ok (.istore 4, 2) := by decide +kernel
theorem dX3_southInside_5 : decode cX3_southInside 5 = .ok (.iload 4, 2) := by decide +kernel
theorem dX3_southInside_7 : decode cX3_southInside 7 = .ok (.aload_n 0, 1) := by decide +kernel
theorem dX3_southInside_8 : decode cX3_southInside 8 = .ok (.getfield 29, 3) := by decide +kernel
theorem dX3_southInside_11 : decode cX3_southInside 11 = .ok (.getfield 97, 3) := by decide +kernel
theorem dX3_southInside_14 : decode cX3_southInside 14 = .ok (.if_icmp .ge 62, 3) := by decide +kernel
theorem dX3_southInside_17 : decode cX3_southInside 17 = .ok (.iconst 0, 1) := by decide +kernel
theorem dX3_southInside_18 : decode cX3_southInside 18 = .ok (.istore 5, 2) := by decide +kernel
theorem dX3_southInside_20 : decode cX3_southInside 20 = .ok (.iload 5, 2) := by decide +kernel
theorem dX3_southInside_22 : decode cX3_southInside 22 = .ok (.aload_n 0, 1) := by decide +kernel
theorem dX3_southInside_23 : decode cX3_southInside 23 = .ok (.getfield 29, 3) := by decide +kernel
theorem dX3_southInside_26 : decode cX3_southInside 26 = .ok (.getfield 97, 3) := by decide +kernel
theorem dX3_southInside_29 : decode cX3_southInside 29 = .ok (.if_icmp .ge 41, 3) := by decide +kernel
theorem dX3_southInside_32 : decode cX3_southInside 32 = .ok (.lload_n 2, 1) := by decide +kernel
theorem dX3_southInside_33 : decode cX3_southInside 33 = .ok (.aload_n 0, 1) := by decide +kernel
theorem dX3_southInside_34 : decode cX3_southInside 34 = .ok (.getfield 29, 3) := by decide +kernel
theorem dX3_southInside_37 : decode cX3_southInside 37 = .ok (.iload_n 1, 1) := by decide +kernel
theorem dX3_southInside_38 : decode cX3_southInside 38 = .ok (.iload 5, 2) := by decide +kernel
theorem dX3_southInside_40 : decode cX3_southInside 40 = .ok (.iload 4, 2) := by decide +kernel
theorem dX3_southInside_42 : decode cX3_southInside 42 = .ok (.iconst 1, 1) := by decide +kernel
theorem dX3_southInside_43 : decode cX3_southInside 43 = .ok (.isub, 1) := by decide +kernel
theorem dX3_southInside_44 : decode cX3_southInside 44 = .ok (.invokevirtual 100, 3) := by decide +kernel
theorem dX3_southInside_47 : decode cX3_southInside 47 = .ok (.aload_n 0, 1) := by decide +kernel
theorem dX3_southInside_48 : decode cX3_southInside 48 = .ok (.getfield 29, 3) := by decide +kernel
theorem dX3_southInside_51 : decode cX3_southInside 51 = .ok (.iload_n 1, 1) := by decide +kernel
theorem dX3_southInside_52 : decode cX3_southInside 52 = .ok (.iload 5, 2) := by decide +kernel
theorem dX3_southInside_54 : decode cX3_southInside 54 = .ok (.iload 4, 2) := by decide +kernel
theorem dX3_southInside_56 : decode cX3_southInside 56 = .ok (.invokevirtual 100, 3) := by decide +kernel
theorem dX3_southInside_59 : decode cX3_southInside 59 = .ok (.invokestatic 42, 3) := by decide +kernel
theorem dX3_southInside_62 : decode cX3_southInside 62 = .ok (.lor, 1) := by decide +kernel
theorem dX3_southInside_63 : decode cX3_southInside 63 = .ok (.lstore_n 2, 1) := by decide +kernel
theorem dX3_southInside_64 : decode cX3_southInside 64 = .ok (.iinc 5 1, 3) := by decide +kernel
theorem dX3_southInside_67 : decode cX3_southInside 67 = .ok (.goto (-47), 3) := by decide +kernel
theorem dX3_southInside_70 : decode cX3_southInside 70 = .ok (.iinc 4 1, 3) := by decide +kernel
theorem dX3_southInside_73 : decode cX3_southInside 73 = .ok (.goto (-68), 3) := by decide +kernel
theorem dX3_southInside_76 : decode cX3_southInside 76 = .ok (.lload_n 2, 1) := by decide +kernel
theorem dX3_southInside_77 : decode cX3_southInside 77 = .ok (.lreturn, 1) := by decide +kernel
theorem dX3_eastAcross_0 : decode cX3_eastAcross 0 = .ok (.lconst 0, 1) := by decide +kernel
theorem dX3_eastAcross_1 : decode cX3_eastAcross 1 = .ok (.lstore_n 3, 1) := by decide +kernel
theorem dX3_eastAcross_2 : decode cX3_eastAcross 2 = .ok (.iconst 0, 1) := by decide +kernel
theorem dX3_eastAcross_3 : decode cX3_eastAcross 3 = .ok (.istore 5, 2) := by decide +kernel
theorem dX3_eastAcross_5 : decode cX3_eastAcross 5 = .ok (.iload 5, 2) := by decide +kernel
theorem dX3_eastAcross_7 : decode cX3_eastAcross 7 = .ok (.aload_n 0, 1) := by decide +kernel
theorem dX3_eastAcross_8 : decode cX3_eastAcross 8 = .ok (.getfield 29, 3) := by decide +kernel
theorem dX3_eastAcross_11 : decode cX3_eastAcross 11 = .ok (.getfield 97, 3) := by decide +kernel
theorem dX3_eastAcross_14 : decode cX3_eastAcross 14 = .ok (.if_icmp .ge 45, 3) := by decide +kernel
theorem dX3_eastAcross_17 : decode cX3_eastAcross 17 = .ok (.lload_n 3, 1) := by decide +kernel
theorem dX3_eastAcross_18 : decode cX3_eastAcross 18 = .ok (.aload_n 0, 1) := by decide +kernel
theorem dX3_eastAcross_19 : decode cX3_eastAcross 19 = .ok (.getfield 29, 3) := by decide +kernel
theorem dX3_eastAcross_22 : decode cX3_eastAcross 22 = .ok (.iload_n 1, 1) := by decide +kernel
theorem dX3_eastAcross_23 : decode cX3_eastAcross 23 = .ok (.aload_n 0, 1) := by decide +kernel
theorem dX3_eastAcross_24 : decode cX3_eastAcross 24 = .ok (.getfield 29, 3) := by decide +kernel
theorem dX3_eastAcross_27 : decode cX3_eastAcross 27 = .ok (.getfield 97, 3) := by decide +kernel
theorem dX3_eastAcross_30 : decode cX3_eastAcross 30 = .ok (.iconst 1, 1) := by decide +kernel
theorem dX3_eastAcross_31 : decode cX3_eastAcross 31 = .ok (.isub, 1) := by decide +kernel
theorem dX3_eastAcross_32 : decode cX3_eastAcross 32 = .ok (.iload 5, 2) := by decide +kernel
theorem dX3_eastAcross_34 : decode cX3_eastAcross 34 = .ok (.invokevirtual 100, 3) := by decide +kernel
theorem dX3_eastAcross_37 : decode cX3_eastAcross 37 = .ok (.aload_n 0, 1) := by decide +kernel
theorem dX3_eastAcross_38 : decode cX3_eastAcross 38 = .ok (.getfield 29, 3) := by decide +kernel
theorem dX3_eastAcross_41 : decode cX3_eastAcross 41 = .ok (.iload_n 2, 1) := by decide +kernel
theorem dX3_eastAcross_42 : decode cX3_eastAcross 42 = .ok (.iconst 0, 1) := by decide +kernel
theorem dX3_eastAcross_43 : decode cX3_eastAcross 43 = .ok (.iload 5, 2) := by decide +kernel
theorem dX3_eastAcross_45 : decode cX3_eastAcross 45 = .ok (.invokevirtual 100, 3) := by decide +kernel
theorem dX3_eastAcross_48 : decode cX3_eastAcross 48 = .ok (.invokestatic 42, 3) := by decide +kernel
theorem dX3_eastAcross_51 : decode cX3_eastAcross 51 = .ok (.lor, 1) := by decide +kernel
theorem dX3_eastAcross_52 : decode cX3_eastAcross 52 = .ok (.lstore_n 3, 1) := by decide +kernel
theorem dX3_eastAcross_53 : decode cX3_eastAcross 53 = .ok (.iinc 5 1, 3) := by decide +kernel
theorem dX3_eastAcross_56 : decode cX3_eastAcross 56 = .ok (.goto (-51), 3) := by decide +kernel
theorem dX3_eastAcross_59 : decode cX3_eastAcross 59 = .ok (.lload_n 3, 1) := by decide +kernel
theorem dX3_eastAcross_60 : decode cX3_eastAcross 60 = .ok (.lreturn, 1) := by decide +kernel
theorem dX3_southAcross_0 : decode cX3_southAcross 0 = .ok (.lconst 0, 1) := by decide +kernel
theorem dX3_southAcross_1 : decode cX3_southAcross 1 = .ok (.lstore_n 3, 1) := by decide +kernel
theorem dX3_southAcross_2 : decode cX3_southAcross 2 = .ok (.iconst 0, 1) := by decide +kernel
theorem dX3_southAcross_3 : decode cX3_southAcross 3 = .ok (.istore 5, 2) := by decide +kernel
theorem dX3_southAcross_5 : decode cX3_southAcross 5 = .ok (.iload 5, 2) := by decide +kernel
theorem dX3_southAcross_7 : decode cX3_southAcross 7 = .ok (.aload_n 0, 1) := by decide +kernel
theorem dX3_southAcross_8 : decode cX3_southAcross 8 = .ok (.getfield 29, 3) := by decide +kernel
theorem dX3_southAcross_11 : decode cX3_southAcross 11 = .ok (.getfield 97, 3) := by decide +kernel
theorem dX3_southAcross_14 : decode cX3_southAcross 14 = .ok (.if_icmp .ge 45, 3) := by decide +kernel
theorem dX3_southAcross_17 : decode cX3_southAcross 17 = .ok (.lload_n 3, 1) := by decide +kernel
theorem dX3_southAcross_18 : decode cX3_southAcross 18 = .ok (.aload_n 0, 1) := by decide +kernel
theorem dX3_southAcross_19 : decode cX3_southAcross 19 = .ok (.getfield 29, 3) := by decide +kernel
theorem dX3_southAcross_22 : decode cX3_southAcross 22 = .ok (.iload_n 1, 1) := by decide +kernel
theorem dX3_southAcross_23 : decode cX3_southAcross 23 = .ok (.iload 5, 2) := by decide +kernel
theorem dX3_southAcross_25 : decode cX3_southAcross 25 = .ok (.aload_n 0, 1) := by decide +kernel
theorem dX3_southAcross_26 : decode cX3_southAcross 26 = .ok (.getfield 29, 3) := by decide +kernel
theorem dX3_southAcross_29 : decode cX3_southAcross 29 = .ok (.getfield 97, 3) := by decide +kernel
theorem dX3_southAcross_32 : decode cX3_southAcross 32 = .ok (.iconst 1, 1) := by decide +kernel
theorem dX3_southAcross_33 : decode cX3_southAcross 33 = .ok (.isub, 1) := by decide +kernel
theorem dX3_southAcross_34 : decode cX3_southAcross 34 = .ok (.invokevirtual 100, 3) := by decide +kernel
theorem dX3_southAcross_37 : decode cX3_southAcross 37 = .ok (.aload_n 0, 1) := by decide +kernel
theorem dX3_southAcross_38 : decode cX3_southAcross 38 = .ok (.getfield 29, 3) := by decide +kernel
theorem dX3_southAcross_41 : decode cX3_southAcross 41 = .ok (.iload_n 2, 1) := by decide +kernel
theorem dX3_southAcross_42 : decode cX3_southAcross 42 = .ok (.iload 5, 2) := by decide +kernel
theorem dX3_southAcross_44 : decode cX3_southAcross 44 = .ok (.iconst 0, 1) := by decide +kernel
theorem dX3_southAcross_45 : decode cX3_southAcross 45 = .ok (.invokevirtual 100, 3) := by decide +kernel
theorem dX3_southAcross_48 : decode cX3_southAcross 48 = .ok (.invokestatic 42, 3) := by decide +kernel
theorem dX3_southAcross_51 : decode cX3_southAcross 51 = .ok (.lor, 1) := by decide +kernel
theorem dX3_southAcross_52 : decode cX3_southAcross 52 = .ok (.lstore_n 3, 1) := by decide +kernel
theorem dX3_southAcross_53 : decode cX3_southAcross 53 = .ok (.iinc 5 1, 3) := by decide +kernel
theorem dX3_southAcross_56 : decode cX3_southAcross 56 = .ok (.goto (-51), 3) := by decide +kernel
theorem dX3_southAcross_59 : decode cX3_southAcross 59 = .ok (.lload_n 3, 1) := by decide +kernel
theorem dX3_southAcross_60 : decode cX3_southAcross 60 = .ok (.lreturn, 1) := by decide +kernel
theorem dX3_addSquaresInside_0 : decode cX3_addSquaresInside 0 = .ok (.iconst 1, 1) := by decide +kernel
theorem dX3_addSquaresInside_1 : decode cX3_addSquaresInside 1 = .ok (.istore_n 2, 1) := by decide +kernel
theorem dX3_addSquaresInside_2 : decode cX3_addSquaresInside 2 = .ok (.iload_n 2, 1) := by decide +kernel
theorem dX3_addSquaresInside_3 : decode cX3_addSquaresInside 3 = .ok (.aload_n 0, 1) := by decide +kernel
theorem dX3_addSquaresInside_4 : decode cX3_addSquaresInside 4 = .ok (.getfield 29, 3) := by decide +kernel
theorem dX3_addSquaresInside_7 : decode cX3_addSquaresInside 7 = .ok (.getfield 97, 3) := by decide +kernel
theorem dX3_addSquaresInside_10 : decode cX3_addSquaresInside 10 = .ok (.if_icmp .ge 80, 3) := by decide +kernel
theorem dX3_addSquaresInside_13 : decode cX3_addSquaresInside 13 = .ok (.iconst 1, 1) := by decide +kernel
theorem dX3_addSquaresInside_14 : decode cX3_addSquaresInside 14 = .ok (.istore_n 3, 1) := by decide +kernel
theorem dX3_addSquaresInside_15 : decode cX3_addSquaresInside 15 = .ok (.iload_n 3, 1) := by decide +kernel
theorem dX3_addSquaresInside_16 : decode cX3_addSquaresInside 16 = .ok (.aload_n 0, 1) := by decide +kernel
theorem dX3_addSquaresInside_17 : decode cX3_addSquaresInside 17 = .ok (.getfield 29, 3) := by decide +kernel
theorem dX3_addSquaresInside_20 : decode cX3_addSquaresInside 20 = .ok (.getfield 97, 3) := by decide +kernel
theorem dX3_addSquaresInside_23 : decode cX3_addSquaresInside 23 = .ok (.if_icmp .ge 61, 3) := by decide +kernel
theorem dX3_addSquaresInside_26 : decode cX3_addSquaresInside 26 = .ok (.aload_n 0, 1) := by decide +kernel
theorem dX3_addSquaresInside_27 : decode cX3_addSquaresInside 27 = .ok (.aload_n 0, 1) := by decide +kernel
theorem dX3_addSquaresInside_28 : decode cX3_addSquaresInside 28 = .ok (.getfield 29, 3) := by decide +kernel
theorem dX3_addSquaresInside_31 : decode cX3_addSquaresInside 31 = .ok (.iload_n 1, 1) := by decide +kernel
theorem dX3_addSquaresInside_32 : decode cX3_addSquaresInside 32 = .ok (.iload_n 3, 1) := by decide +kernel
theorem dX3_addSquaresInside_33 : decode cX3_addSquaresInside 33 = .ok (.iconst 1, 1) := by decide +kernel
theorem dX3_addSquaresInside_34 : decode cX3_addSquaresInside 34 = .ok (.isub, 1) := by decide +kernel
theorem dX3_addSquaresInside_35 : decode cX3_addSquaresInside 35 = .ok (.iload_n 2, 1) := by decide +kernel
theorem dX3_addSquaresInside_36 : decode cX3_addSquaresInside 36 = .ok (.iconst 1, 1) := by decide +kernel
theorem dX3_addSquaresInside_37 : decode cX3_addSquaresInside 37 = .ok (.isub, 1) := by decide +kernel
theorem dX3_addSquaresInside_38 : decode cX3_addSquaresInside 38 = .ok (.invokevirtual 100, 3) := by decide +kernel
theorem dX3_addSquaresInside_41 : decode cX3_addSquaresInside 41 = .ok (.aload_n 0, 1) := by decide +kernel
theorem dX3_addSquaresInside_42 : decode cX3_addSquaresInside 42 = .ok (.getfield 29, 3) := by decide +kernel
theorem dX3_addSquaresInside_45 : decode cX3_addSquaresInside 45 = .ok (.iload_n 1, 1) := by decide +kernel
theorem dX3_addSquaresInside_46 : decode cX3_addSquaresInside 46 = .ok (.iload_n 3, 1) := by decide +kernel
theorem dX3_addSquaresInside_47 : decode cX3_addSquaresInside 47 = .ok (.iload_n 2, 1) := by decide +kernel
theorem dX3_addSquaresInside_48 : decode cX3_addSquaresInside 48 = .ok (.iconst 1, 1) := by decide +kernel
theorem dX3_addSquaresInside_49 : decode cX3_addSquaresInside 49 = .ok (.isub, 1) := by decide +kernel
theorem dX3_addSquaresInside_50 : decode cX3_addSquaresInside 50 = .ok (.invokevirtual 100, 3) := by decide +kernel
theorem dX3_addSquaresInside_53 : decode cX3_addSquaresInside 53 = .ok (.aload_n 0, 1) := by decide +kernel
theorem dX3_addSquaresInside_54 : decode cX3_addSquaresInside 54 = .ok (.getfield 29, 3) := by decide +kernel
theorem dX3_addSquaresInside_57 : decode cX3_addSquaresInside 57 = .ok (.iload_n 1, 1) := by decide +kernel
theorem dX3_addSquaresInside_58 : decode cX3_addSquaresInside 58 = .ok (.iload_n 3, 1) := by decide +kernel
theorem dX3_addSquaresInside_59 : decode cX3_addSquaresInside 59 = .ok (.iconst 1, 1) := by decide +kernel
theorem dX3_addSquaresInside_60 : decode cX3_addSquaresInside 60 = .ok (.isub, 1) := by decide +kernel
theorem dX3_addSquaresInside_61 : decode cX3_addSquaresInside 61 = .ok (.iload_n 2, 1) := by decide +kernel
theorem dX3_addSquaresInside_62 : decode cX3_addSquaresInside 62 = .ok (.invokevirtual 100, 3) := by decide +kernel
theorem dX3_addSquaresInside_65 : decode cX3_addSquaresInside 65 = .ok (.aload_n 0, 1) := by decide +kernel
theorem dX3_addSquaresInside_66 : decode cX3_addSquaresInside 66 = .ok (.getfield 29, 3) := by decide +kernel
theorem dX3_addSquaresInside_69 : decode cX3_addSquaresInside 69 = .ok (.iload_n 1, 1) := by decide +kernel
theorem dX3_addSquaresInside_70 : decode cX3_addSquaresInside 70 = .ok (.iload_n 3, 1) := by decide +kernel
theorem dX3_addSquaresInside_71 : decode cX3_addSquaresInside 71 = .ok (.iload_n 2, 1) := by decide +kernel
theorem dX3_addSquaresInside_72 : decode cX3_addSquaresInside 72 = .ok (.invokevirtual 100, 3) := by decide +kernel
theorem dX3_addSquaresInside_75 : decode cX3_addSquaresInside 75 = .ok (.invokevirtual 104, 3) := by decide +kernel
theorem dX3_addSquaresInside_78 : decode cX3_addSquaresInside 78 = .ok (.iinc 3 1, 3) := by decide +kernel
theorem dX3_addSquaresInside_81 : decode cX3_addSquaresInside 81 = .ok (.goto (-66), 3) := by decide +kernel
theorem dX3_addSquaresInside_84 : decode cX3_addSquaresInside 84 = .ok (.iinc 2 1, 3) := by decide +kernel
theorem dX3_addSquaresInside_87 : decode cX3_addSquaresInside 87 = .ok (.goto (-85), 3) := by decide +kernel
theorem dX3_addSquaresInside_90 : decode cX3_addSquaresInside 90 = .ok (.return_, 1) := by decide +kernel
theorem dX3_addSquaresOnEastBorder_0 : decode cX3_addSquaresOnEastBorder 0 = .ok (.aload_n 0, 1) := by decide +kernel
theorem dX3_addSquaresOnEastBorder_1 : decode cX3_addSquaresOnEastBorder 1 = .ok (.getfield 29, 3) := by decide +kernel
theorem dX3_addSquaresOnEastBorder_4 : decode cX3_addSquaresOnEastBorder 4 = .ok (.getfield 97, 3) := by decide +kernel
theorem dX3_addSquaresOnEastBorder_7 : decode cX3_addSquaresOnEastBorder 7 = .ok (.iconst 1, 1) := by decide +kernel
theorem dX3_addSquaresOnEastBorder_8 : decode cX3_addSquaresOnEastBorder 8 = .ok (.isub, 1) := by decide +kernel
theorem dX3_addSquaresOnEastBorder_9 : decode cX3_addSquaresOnEastBorder 9 = .ok (.istore_n 3, 1) := by decide +kernel
theorem dX3_addSquaresOnEastBorder_10 : decode cX3_addSquaresOnEastBorder 10 = .ok (.iconst 1, 1) := by decide +kernel
theorem dX3_addSquaresOnEastBorder_11 : decode cX3_addSquaresOnEastBorder 11 = .ok (.istore 4, 2) := by decide +kernel
theorem dX3_addSquaresOnEastBorder_13 : decode cX3_addSquaresOnEastBorder 13 = .ok (.iload 4, 2) := by decide +kernel
theorem dX3_addSquaresOnEastBorder_15 : decode cX3_addSquaresOnEastBorder 15 = .ok (.aload_n 0, 1) := by decide +kernel
theorem dX3_addSquaresOnEastBorder_16 : decode cX3_addSquaresOnEastBorder 16 = .ok (.getfield 29, 3) := by decide +kernel
theorem dX3_addSquaresOnEastBorder_19 : decode cX3_addSquaresOnEastBorder 19 = .ok (.getfield 97, 3) := by decide +kernel
theorem dX3_addSquaresOnEastBorder_22 : decode cX3_addSquaresOnEastBorder 22 = .ok (.if_icmp .ge 61, 3) := by decide +kernel
theorem dX3_addSquaresOnEastBorder_25 : decode cX3_addSquaresOnEastBorder 25 = .ok (.aload_n 0, 1) := by decide +kernel
theorem dX3_addSquaresOnEastBorder_26 : decode cX3_addSquaresOnEastBorder 26 = .ok (.aload_n 0, 1) := by decide +kernel
theorem dX3_addSquaresOnEastBorder_27 : decode cX3_addSquaresOnEastBorder 27 = .ok (.getfield 29, 3) := by decide +kernel
theorem dX3_addSquaresOnEastBorder_30 : decode cX3_addSquaresOnEastBorder 30 = .ok (.iload_n 1, 1) := by decide +kernel
theorem dX3_addSquaresOnEastBorder_31 : decode cX3_addSquaresOnEastBorder 31 = .ok (.iload_n 3, 1) := by decide +kernel
theorem dX3_addSquaresOnEastBorder_32 : decode cX3_addSquaresOnEastBorder 32 = .ok (.iload 4, 2) := by decide +kernel
theorem dX3_addSquaresOnEastBorder_34 : decode cX3_addSquaresOnEastBorder 34 = .ok (.iconst 1, 1) := by decide +kernel
theorem dX3_addSquaresOnEastBorder_35 : decode cX3_addSquaresOnEastBorder 35 = .ok (.isub, 1) := by decide +kernel
theorem dX3_addSquaresOnEastBorder_36 : decode cX3_addSquaresOnEastBorder 36 = .ok (.invokevirtual 100, 3) := by decide +kernel
theorem dX3_addSquaresOnEastBorder_39 : decode cX3_addSquaresOnEastBorder 39 = .ok (.aload_n 0, 1) := by decide +kernel
theorem dX3_addSquaresOnEastBorder_40 : decode cX3_addSquaresOnEastBorder 40 = .ok (.getfield 29, 3) := by decide +kernel
theorem dX3_addSquaresOnEastBorder_43 : decode cX3_addSquaresOnEastBorder 43 = .ok (.iload_n 2, 1) := by decide +kernel
theorem dX3_addSquaresOnEastBorder_44 : decode cX3_addSquaresOnEastBorder 44 = .ok (.iconst 0, 1) := by decide +kernel
theorem dX3_addSquaresOnEastBorder_45 : decode cX3_addSquaresOnEastBorder 45 = .ok (.iload 4, 2) := by decide +kernel
theorem dX3_addSquaresOnEastBorder_47 : decode cX3_addSquaresOnEastBorder 47 = .ok (.iconst 1, 1) := by decide +kernel
theorem dX3_addSquaresOnEastBorder_48 : decode cX3_addSquaresOnEastBorder 48 = .ok (.isub, 1) := by decide +kernel
theorem dX3_addSquaresOnEastBorder_49 : decode cX3_addSquaresOnEastBorder 49 = .ok (.invokevirtual 100, 3) := by decide +kernel
theorem dX3_addSquaresOnEastBorder_52 : decode cX3_addSquaresOnEastBorder 52 = .ok (.aload_n 0, 1) := by decide +kernel
theorem dX3_addSquaresOnEastBorder_53 : decode cX3_addSquaresOnEastBorder 53 = .ok (.getfield 29, 3) := by decide +kernel
theorem dX3_addSquaresOnEastBorder_56 : decode cX3_addSquaresOnEastBorder 56 = .ok (.iload_n 1, 1) := by decide +kernel
theorem dX3_addSquaresOnEastBorder_57 : decode cX3_addSquaresOnEastBorder 57 = .ok (.iload_n 3, 1) := by decide +kernel
theorem dX3_addSquaresOnEastBorder_58 : decode cX3_addSquaresOnEastBorder 58 = .ok (.iload 4, 2) := by decide +kernel
theorem dX3_addSquaresOnEastBorder_60 : decode cX3_addSquaresOnEastBorder 60 = .ok (.invokevirtual 100, 3) := by decide +kernel
theorem dX3_addSquaresOnEastBorder_63 : decode cX3_addSquaresOnEastBorder 63 = .ok (.aload_n 0, 1) := by decide +kernel
theorem dX3_addSquaresOnEastBorder_64 : decode cX3_addSquaresOnEastBorder 64 = .ok (.getfield 29, 3) := by decide +kernel
theorem dX3_addSquaresOnEastBorder_67 : decode cX3_addSquaresOnEastBorder 67 = .ok (.iload_n 2, 1) := by decide +kernel
theorem dX3_addSquaresOnEastBorder_68 : decode cX3_addSquaresOnEastBorder 68 = .ok (.iconst 0, 1) := by decide +kernel
theorem dX3_addSquaresOnEastBorder_69 : decode cX3_addSquaresOnEastBorder 69 = .ok (.iload 4, 2) := by decide +kernel
theorem dX3_addSquaresOnEastBorder_71 : decode cX3_addSquaresOnEastBorder 71 = .ok (.invokevirtual 100, 3) := by decide +kernel
theorem dX3_addSquaresOnEastBorder_74 : decode cX3_addSquaresOnEastBorder 74 = .ok (.invokevirtual 104, 3) := by decide +kernel
theorem dX3_addSquaresOnEastBorder_77 : decode cX3_addSquaresOnEastBorder 77 = .ok (.iinc 4 1, 3) := by decide +kernel
theorem dX3_addSquaresOnEastBorder_80 : decode cX3_addSquaresOnEastBorder 80 = .ok (.goto (-67), 3) := by decide +kernel
theorem dX3_addSquaresOnEastBorder_83 : decode cX3_addSquaresOnEastBorder 83 = .ok (.return_, 1) := by decide +kernel
theorem dX3_addSquaresOnSouthBorder_0 : decode cX3_addSquaresOnSouthBorder 0 = .ok (.aload_n 0, 1) := by decide +kernel
theorem dX3_addSquaresOnSouthBorder_1 : decode cX3_addSquaresOnSouthBorder 1 = .ok (.getfield 29, 3) := by decide +kernel
theorem dX3_addSquaresOnSouthBorder_4 : decode cX3_addSquaresOnSouthBorder 4 = .ok (.getfield 97, 3) := by decide +kernel
theorem dX3_addSquaresOnSouthBorder_7 : decode cX3_addSquaresOnSouthBorder 7 = .ok (.iconst 1, 1) := by decide +kernel
theorem dX3_addSquaresOnSouthBorder_8 : decode cX3_addSquaresOnSouthBorder 8 = .ok (.isub, 1) := by decide +kernel
theorem dX3_addSquaresOnSouthBorder_9 : decode cX3_addSquaresOnSouthBorder 9 = .ok (.istore_n 3, 1) := by decide +kernel
theorem dX3_addSquaresOnSouthBorder_10 : decode cX3_addSquaresOnSouthBorder 10 = .ok (.iconst 1, 1) := by decide +kernel
theorem dX3_addSquaresOnSouthBorder_11 : decode cX3_addSquaresOnSouthBorder 11 = .ok (.istore 4, 2) := by decide +kernel
theorem dX3_addSquaresOnSouthBorder_13 : decode cX3_addSquaresOnSouthBorder 13 = .ok (.iload 4, 2) := by decide +kernel
theorem dX3_addSquaresOnSouthBorder_15 : decode cX3_addSquaresOnSouthBorder 15 = .ok (.aload_n 0, 1) := by decide +kernel
theorem dX3_addSquaresOnSouthBorder_16 : decode cX3_addSquaresOnSouthBorder 16 = .ok (.getfield 29, 3) := by decide +kernel
theorem dX3_addSquaresOnSouthBorder_19 : decode cX3_addSquaresOnSouthBorder 19 = .ok (.getfield 97, 3) := by decide +kernel
theorem dX3_addSquaresOnSouthBorder_22 : decode cX3_addSquaresOnSouthBorder 22 = .ok (.if_icmp .ge 61, 3) := by decide +kernel
theorem dX3_addSquaresOnSouthBorder_25 : decode cX3_addSquaresOnSouthBorder 25 = .ok (.aload_n 0, 1) := by decide +kernel
theorem dX3_addSquaresOnSouthBorder_26 : decode cX3_addSquaresOnSouthBorder 26 = .ok (.aload_n 0, 1) := by decide +kernel
theorem dX3_addSquaresOnSouthBorder_27 : decode cX3_addSquaresOnSouthBorder 27 = .ok (.getfield 29, 3) := by decide +kernel
theorem dX3_addSquaresOnSouthBorder_30 : decode cX3_addSquaresOnSouthBorder 30 = .ok (.iload_n 1, 1) := by decide +kernel
theorem dX3_addSquaresOnSouthBorder_31 : decode cX3_addSquaresOnSouthBorder 31 = .ok (.iload 4, 2) := by decide +kernel
theorem dX3_addSquaresOnSouthBorder_33 : decode cX3_addSquaresOnSouthBorder 33 = .ok (.iconst 1, 1) := by decide +kernel
theorem dX3_addSquaresOnSouthBorder_34 : decode cX3_addSquaresOnSouthBorder 34 = .ok (.isub, 1) := by decide +kernel
theorem dX3_addSquaresOnSouthBorder_35 : decode cX3_addSquaresOnSouthBorder 35 = .ok (.iload_n 3, 1) := by decide +kernel
theorem dX3_addSquaresOnSouthBorder_36 : decode cX3_addSquaresOnSouthBorder 36 = .ok (.invokevirtual 100, 3) := by decide +kernel
theorem dX3_addSquaresOnSouthBorder_39 : decode cX3_addSquaresOnSouthBorder 39 = .ok (.aload_n 0, 1) := by decide +kernel
theorem dX3_addSquaresOnSouthBorder_40 : decode cX3_addSquaresOnSouthBorder 40 = .ok (.getfield 29, 3) := by decide +kernel
theorem dX3_addSquaresOnSouthBorder_43 : decode cX3_addSquaresOnSouthBorder 43 = .ok (.iload_n 1, 1) := by decide +kernel
theorem dX3_addSquaresOnSouthBorder_44 : decode cX3_addSquaresOnSouthBorder 44 = .ok (.iload 4, 2) := by decide +kernel
theorem dX3_addSquaresOnSouthBorder_46 : decode cX3_addSquaresOnSouthBorder 46 = .ok (.iload_n 3, 1) := by decide +kernel
theorem dX3_addSquaresOnSouthBorder_47 : decode cX3_addSquaresOnSouthBorder 47 = .ok (.invokevirtual 100, 3) := by decide +kernel
theorem dX3_addSquaresOnSouthBorder_50 : decode cX3_addSquaresOnSouthBorder 50 = .ok (.aload_n 0, 1) := by decide +kernel
theorem dX3_addSquaresOnSouthBorder_51 : decode cX3_addSquaresOnSouthBorder 51 = .ok (.getfield 29, 3) := by decide +kernel
theorem dX3_addSquaresOnSouthBorder_54 : decode cX3_addSquaresOnSouthBorder 54 = .ok (.iload_n 2, 1) := by decide +kernel
theorem dX3_addSquaresOnSouthBorder_55 : decode cX3_addSquaresOnSouthBorder 55 = .ok (.iload 4, 2) := by decide +kernel
theorem dX3_addSquaresOnSouthBorder_57 : decode cX3_addSquaresOnSouthBorder 57 = .ok (.iconst 1, 1) := by decide +kernel
theorem dX3_addSquaresOnSouthBorder_58 : decode cX3_addSquaresOnSouthBorder 58 = .ok (.isub, 1) := by decide +kernel
theorem dX3_addSquaresOnSouthBorder_59 : decode cX3_addSquaresOnSouthBorder 59 = .ok (.iconst 0, 1) := by decide +kernel
theorem dX3_addSquaresOnSouthBorder_60 : decode cX3_addSquaresOnSouthBorder 60 = .ok (.invokevirtual 100, 3) := by decide +kernel
theorem dX3_addSquaresOnSouthBorder_63 : decode cX3_addSquaresOnSouthBorder 63 = .ok (.aload_n 0, 1) := by decide +kernel
theorem dX3_addSquaresOnSouthBorder_64 : decode cX3_addSquaresOnSouthBorder 64 = .ok (.getfield 29, 3) := by decide +kernel
theorem dX3_addSquaresOnSouthBorder_67 : decode cX3_addSquaresOnSouthBorder 67 = .ok (.iload_n 2, 1) := by decide +kernel
theorem dX3_addSquaresOnSouthBorder_68 : decode cX3_addSquaresOnSouthBorder 68 = .ok (.iload 4, 2) := by decide +kernel
theorem dX3_addSquaresOnSouthBorder_70 : decode cX3_addSquaresOnSouthBorder 70 = .ok (.iconst 0, 1) := by decide +kernel
theorem dX3_addSquaresOnSouthBorder_71 : decode cX3_addSquaresOnSouthBorder 71 = .ok (.invokevirtual 100, 3) := by decide +kernel
theorem dX3_addSquaresOnSouthBorder_74 : decode cX3_addSquaresOnSouthBorder 74 = .ok (.invokevirtual 104, 3) := by decide +kernel
theorem dX3_addSquaresOnSouthBorder_77 : decode cX3_addSquaresOnSouthBorder 77 = .ok (.iinc 4 1, 3) := by decide +kernel
theorem dX3_addSquaresOnSouthBorder_80 : decode cX3_addSquaresOnSouthBorder 80 = .ok (.goto (-67), 3) := by decide +kernel
theorem dX3_addSquaresOnSouthBorder_83 : decode cX3_addSquaresOnSouthBorder 83 = .ok (.return_, 1) := by decide +kernel
theorem dX3_addSquareOnCrossing_0 : decode cX3_addSquareOnCrossing 0 = .ok (.aload_n 0, 1) := by decide +kernel
theorem dX3_addSquareOnCrossing_1 : decode cX3_addSquareOnCrossing 1 = .ok (.getfield 29, 3) := by decide +kernel
theorem dX3_addSquareOnCrossing_4 : decode cX3_addSquareOnCrossing 4 = .ok (.getfield 97, 3) := by decide +kernel
theorem dX3_addSquareOnCrossing_7 : decode cX3_addSquareOnCrossing 7 = .ok (.iconst 1, 1) := by decide +kernel
theorem dX3_addSquareOnCrossing_8 : decode cX3_addSquareOnCrossing 8 = .ok (.isub, 1) := by decide +kernel
theorem dX3_addSquareOnCrossing_9 : decode cX3_addSquareOnCrossing 9 = .ok (.istore_n 2, 1) := by decide +kernel
theorem dX3_addSquareOnCrossing_10 : decode cX3_addSquareOnCrossing 10 = .ok (.iload_n 1, 1) := by decide +kernel
theorem dX3_addSquareOnCrossing_11 : decode cX3_addSquareOnCrossing 11 = .ok (.sipush 216, 3) := by decide +kernel
theorem dX3_addSquareOnCrossing_14 : decode cX3_addSquareOnCrossing 14 = .ok (.idiv, 1) := by decide +kernel
theorem dX3_addSquareOnCrossing_15 : decode cX3_addSquareOnCrossing 15 = .ok (.istore_n 3, 1) := by decide +kernel
theorem dX3_addSquareOnCrossing_16 : decode cX3_addSquareOnCrossing 16 = .ok (.iload_n 1, 1) := by decide +kernel
theorem dX3_addSquareOnCrossing_17 : decode cX3_addSquareOnCrossing 17 = .ok (.bipush 36, 2) := by decide +kernel
theorem dX3_addSquareOnCrossing_19 : decode cX3_addSquareOnCrossing 19 = .ok (.idiv, 1) := by decide +kernel
theorem dX3_addSquareOnCrossing_20 : decode cX3_addSquareOnCrossing 20 = .ok (.bipush 6, 2) := by decide +kernel
theorem dX3_addSquareOnCrossing_22 : decode cX3_addSquareOnCrossing 22 = .ok (.irem, 1) := by decide +kernel
theorem dX3_addSquareOnCrossing_23 : decode cX3_addSquareOnCrossing 23 = .ok (.istore 4, 2) := by decide +kernel
theorem dX3_addSquareOnCrossing_25 : decode cX3_addSquareOnCrossing 25 = .ok (.iload_n 1, 1) := by decide +kernel
theorem dX3_addSquareOnCrossing_26 : decode cX3_addSquareOnCrossing 26 = .ok (.bipush 6, 2) := by decide +kernel
theorem dX3_addSquareOnCrossing_28 : decode cX3_addSquareOnCrossing 28 = .ok (.idiv, 1) := by decide +kernel
theorem dX3_addSquareOnCrossing_29 : decode cX3_addSquareOnCrossing 29 = .ok (.bipush 6, 2) := by decide +kernel
theorem dX3_addSquareOnCrossing_31 : decode cX3_addSquareOnCrossing 31 = .ok (.irem, 1) := by decide +kernel
theorem dX3_addSquareOnCrossing_32 : decode cX3_addSquareOnCrossing 32 = .ok (.istore 5, 2) := by decide +kernel
theorem dX3_addSquareOnCrossing_34 : decode cX3_addSquareOnCrossing 34 = .ok (.iload_n 1, 1) := by decide +kernel
theorem dX3_addSquareOnCrossing_35 : decode cX3_addSquareOnCrossing 35 = .ok (.bipush 6, 2) := by decide +kernel
theorem dX3_addSquareOnCrossing_37 : decode cX3_addSquareOnCrossing 37 = .ok (.irem, 1) := by decide +kernel
theorem dX3_addSquareOnCrossing_38 : decode cX3_addSquareOnCrossing 38 = .ok (.istore 6, 2) := by decide +kernel
theorem dX3_addSquareOnCrossing_40 : decode cX3_addSquareOnCrossing 40 = .ok (.aload_n 0, 1) := by decide +kernel
theorem dX3_addSquareOnCrossing_41 : decode cX3_addSquareOnCrossing 41 = .ok (.aload_n 0, 1) := by decide +kernel
theorem dX3_addSquareOnCrossing_42 : decode cX3_addSquareOnCrossing 42 = .ok (.getfield 29, 3) := by decide +kernel
theorem dX3_addSquareOnCrossing_45 : decode cX3_addSquareOnCrossing 45 = .ok (.iload_n 3, 1) := by decide +kernel
theorem dX3_addSquareOnCrossing_46 : decode cX3_addSquareOnCrossing 46 = .ok (.iload_n 2, 1) := by decide +kernel
theorem dX3_addSquareOnCrossing_47 : decode cX3_addSquareOnCrossing 47 = .ok (.iload_n 2, 1) := by decide +kernel
theorem dX3_addSquareOnCrossing_48 : decode cX3_addSquareOnCrossing 48 = .ok (.invokevirtual 100, 3) := by decide +kernel
theorem dX3_addSquareOnCrossing_51 : decode cX3_addSquareOnCrossing 51 = .ok (.aload_n 0, 1) := by decide +kernel
theorem dX3_addSquareOnCrossing_52 : decode cX3_addSquareOnCrossing 52 = .ok (.getfield 29, 3) := by decide +kernel
theorem dX3_addSquareOnCrossing_55 : decode cX3_addSquareOnCrossing 55 = .ok (.iload 4, 2) := by decide +kernel
theorem dX3_addSquareOnCrossing_57 : decode cX3_addSquareOnCrossing 57 = .ok (.iconst 0, 1) := by decide +kernel
theorem dX3_addSquareOnCrossing_58 : decode cX3_addSquareOnCrossing 58 = .ok (.iload_n 2, 1) := by decide +kernel
theorem dX3_addSquareOnCrossing_59 : decode cX3_addSquareOnCrossing 59 = .ok (.invokevirtual 100, 3) := by decide +kernel
theorem dX3_addSquareOnCrossing_62 : decode cX3_addSquareOnCrossing 62 = .ok (.aload_n 0, 1) := by decide +kernel
theorem dX3_addSquareOnCrossing_63 : decode cX3_addSquareOnCrossing 63 = .ok (.getfield 29, 3) := by decide +kernel
theorem dX3_addSquareOnCrossing_66 : decode cX3_addSquareOnCrossing 66 = .ok (.iload 5, 2) := by decide +kernel
theorem dX3_addSquareOnCrossing_68 : decode cX3_addSquareOnCrossing 68 = .ok (.iload_n 2, 1) := by decide +kernel
theorem dX3_addSquareOnCrossing_69 : decode cX3_addSquareOnCrossing 69 = .ok (.iconst 0, 1) := by decide +kernel
theorem dX3_addSquareOnCrossing_70 : decode cX3_addSquareOnCrossing 70 = .ok (.invokevirtual 100, 3) := by decide +kernel
theorem dX3_addSquareOnCrossing_73 : decode cX3_addSquareOnCrossing 73 = .ok (.aload_n 0, 1) := by decide +kernel
theorem dX3_addSquareOnCrossing_74 : decode cX3_addSquareOnCrossing 74 = .ok (.getfield 29, 3) := by decide +kernel
theorem dX3_addSquareOnCrossing_77 : decode cX3_addSquareOnCrossing 77 = .ok (.iload 6, 2) := by decide +kernel
theorem dX3_addSquareOnCrossing_79 : decode cX3_addSquareOnCrossing 79 = .ok (.iconst 0, 1) := by decide +kernel
theorem dX3_addSquareOnCrossing_80 : decode cX3_addSquareOnCrossing 80 = .ok (.iconst 0, 1) := by decide +kernel
theorem dX3_addSquareOnCrossing_81 : decode cX3_addSquareOnCrossing 81 = .ok (.invokevirtual 100, 3) := by decide +kernel
theorem dX3_addSquareOnCrossing_84 : decode cX3_addSquareOnCrossing 84 = .ok (.invokevirtual 104, 3) := by decide +kernel
theorem dX3_addSquareOnCrossing_87 : decode cX3_addSquareOnCrossing 87 = .ok (.return_, 1) := by decide +kernel
theorem dX3_addSquare_0 : decode cX3_addSquare 0 = .ok (.bipush 6, 2) := by decide +kernel
theorem dX3_addSquare_2 : decode cX3_addSquare 2 = .ok (.iload_n 1, 1) := by decide +kernel
theorem dX3_addSquare_3 : decode cX3_addSquare 3 = .ok (.imul, 1) := by decide +kernel
theorem dX3_addSquare_4 : decode cX3_addSquare 4 = .ok (.iload_n 2, 1) := by decide +kernel
theorem dX3_addSquare_5 : decode cX3_addSquare 5 = .ok (.iadd, 1) := by decide +kernel
theorem dX3_addSquare_6 : decode cX3_addSquare 6 = .ok (.istore 5, 2) := by decide +kernel
theorem dX3_addSquare_8 : decode cX3_addSquare 8 = .ok (.bipush 6, 2) := by decide +kernel
theorem dX3_addSquare_10 : decode cX3_addSquare 10 = .ok (.bipush 6, 2) := by decide +kernel
theorem dX3_addSquare_12 : decode cX3_addSquare 12 = .ok (.iload 5, 2) := by decide +kernel
theorem dX3_addSquare_14 : decode cX3_addSquare 14 = .ok (.imul, 1) := by decide +kernel
theorem dX3_addSquare_15 : decode cX3_addSquare 15 = .ok (.iload_n 3, 1) := by decide +kernel
theorem dX3_addSquare_16 : decode cX3_addSquare 16 = .ok (.iadd, 1) := by decide +kernel
theorem dX3_addSquare_17 : decode cX3_addSquare 17 = .ok (.imul, 1) := by decide +kernel
theorem dX3_addSquare_18 : decode cX3_addSquare 18 = .ok (.iload 4, 2) := by decide +kernel
theorem dX3_addSquare_20 : decode cX3_addSquare 20 = .ok (.iadd, 1) := by decide +kernel
theorem dX3_addSquare_21 : decode cX3_addSquare 21 = .ok (.istore 6, 2) := by decide +kernel
theorem dX3_addSquare_23 : decode cX3_addSquare 23 = .ok (.aload_n 0, 1) := by decide +kernel
theorem dX3_addSquare_24 : decode cX3_addSquare 24 = .ok (.getfield 26, 3) := by decide +kernel
theorem dX3_addSquare_27 : decode cX3_addSquare 27 = .ok (.iload 6, 2) := by decide +kernel
theorem dX3_addSquare_29 : decode cX3_addSquare 29 = .ok (.bipush 64, 2) := by decide +kernel
theorem dX3_addSquare_31 : decode cX3_addSquare 31 = .ok (.idiv, 1) := by decide +kernel
theorem dX3_addSquare_32 : decode cX3_addSquare 32 = .ok (.dup2, 1) := by decide +kernel
theorem dX3_addSquare_33 : decode cX3_addSquare 33 = .ok (.laload, 1) := by decide +kernel
theorem dX3_addSquare_34 : decode cX3_addSquare 34 = .ok (.lconst 1, 1) := by decide +kernel
theorem dX3_addSquare_35 : decode cX3_addSquare 35 = .ok (.iload 6, 2) := by decide +kernel
theorem dX3_addSquare_37 : decode cX3_addSquare 37 = .ok (.bipush 64, 2) := by decide +kernel
theorem dX3_addSquare_39 : decode cX3_addSquare 39 = .ok (.irem, 1) := by decide +kernel
theorem dX3_addSquare_40 : decode cX3_addSquare 40 = .ok (.lshl, 1) := by decide +kernel
theorem dX3_addSquare_41 : decode cX3_addSquare 41 = .ok (.lor, 1) := by decide +kernel
theorem dX3_addSquare_42 : decode cX3_addSquare 42 = .ok (.lastore, 1) := by decide +kernel
theorem dX3_addSquare_43 : decode cX3_addSquare 43 = .ok (.return_, 1) := by decide +kernel
