theorem dX10_repeats_18 : decode cX10_repeats 18 = .ok (.ifCond .ne 33, 3) := by decide +kernel
theorem dX10_repeats_21 : decode cX10_repeats 21 = .ok (.iload_n 1, 1) := by decide +kernel
theorem dX10_repeats_22 : decode cX10_repeats 22 = .ok (.iload_n 2, 1) := by decide +kernel
theorem dX10_repeats_23 : decode cX10_repeats 23 = .ok (.idiv, 1) := by decide +kernel
theorem dX10_repeats_24 : decode cX10_repeats 24 = .ok (.iconst 4, 1) := by decide +kernel
theorem dX10_repeats_25 : decode cX10_repeats 25 = .ok (.if_icmp .gt 26, 3) := by decide +kernel
theorem dX10_repeats_28 : decode cX10_repeats 28 = .ok (.aload_n 0, 1) := by decide +kernel
theorem dX10_repeats_29 : decode cX10_repeats 29 = .ok (.iload_n 2, 1) := by decide +kernel
theorem dX10_repeats_30 : decode cX10_repeats 30 = .ok (.iload_n 1, 1) := by decide +kernel
theorem dX10_repeats_31 : decode cX10_repeats 31 = .ok (.iload_n 2, 1) := by decide +kernel
theorem dX10_repeats_32 : decode cX10_repeats 32 = .ok (.idiv, 1) := by decide +kernel
theorem dX10_repeats_33 : decode cX10_repeats 33 = .ok (.iconst 1, 1) := by decide +kernel
theorem dX10_repeats_34 : decode cX10_repeats 34 = .ok (.invokevirtual 154, 3) := by decide +kernel
theorem dX10_repeats_37 : decode cX10_repeats 37 = .ok (.lconst 0, 1) := by decide +kernel
theorem dX10_repeats_38 : decode cX10_repeats 38 = .ok (.lcmp, 1) := by decide +kernel
theorem dX10_repeats_39 : decode cX10_repeats 39 = .ok (.ifCond .le 12, 3) := by decide +kernel
theorem dX10_repeats_42 : decode cX10_repeats 42 = .ok (.bipush 10, 2) := by decide +kernel
theorem dX10_repeats_44 : decode cX10_repeats 44 = .ok (.iload_n 2, 1) := by decide +kernel
theorem dX10_repeats_45 : decode cX10_repeats 45 = .ok (.imul, 1) := by decide +kernel
theorem dX10_repeats_46 : decode cX10_repeats 46 = .ok (.iload_n 1, 1) := by decide +kernel
theorem dX10_repeats_47 : decode cX10_repeats 47 = .ok (.iload_n 2, 1) := by decide +kernel
theorem dX10_repeats_48 : decode cX10_repeats 48 = .ok (.idiv, 1) := by decide +kernel
theorem dX10_repeats_49 : decode cX10_repeats 49 = .ok (.iadd, 1) := by decide +kernel
theorem dX10_repeats_50 : decode cX10_repeats 50 = .ok (.ireturn, 1) := by decide +kernel
theorem dX10_repeats_51 : decode cX10_repeats 51 = .ok (.iinc 2 1, 3) := by decide +kernel
theorem dX10_repeats_54 : decode cX10_repeats 54 = .ok (.goto (-44), 3) := by decide +kernel
theorem dX10_repeats_57 : decode cX10_repeats 57 = .ok (.iinc 1 1, 3) := by decide +kernel
theorem dX10_repeats_60 : decode cX10_repeats 60 = .ok (.goto (-58), 3) := by decide +kernel
theorem dX10_repeats_63 : decode cX10_repeats 63 = .ok (.iconst (-1), 1) := by decide +kernel
theorem dX10_repeats_64 : decode cX10_repeats 64 = .ok (.ireturn, 1) := by decide +kernel
theorem dX10_radius_0 : decode cX10_radius 0 = .ok (.iconst 1, 1) := by decide +kernel
theorem dX10_radius_1 : decode cX10_radius 1 = .ok (.istore_n 1, 1) := by decide +kernel
theorem dX10_radius_2 : decode cX10_radius 2 = .ok (.iload_n 1, 1) := by decide +kernel
theorem dX10_radius_3 : decode cX10_radius 3 = .ok (.iconst 4, 1) := by decide +kernel
theorem dX10_radius_4 : decode cX10_radius 4 = .ok (.if_icmp .gt 23, 3) := by decide +kernel
theorem dX10_radius_7 : decode cX10_radius 7 = .ok (.aload_n 0, 1) := by decide +kernel
theorem dX10_radius_8 : decode cX10_radius 8 = .ok (.iload_n 1, 1) := by decide +kernel
theorem dX10_radius_9 : decode cX10_radius 9 = .ok (.iload_n 1, 1) := by decide +kernel
theorem dX10_radius_10 : decode cX10_radius 10 = .ok (.iconst 0, 1) := by decide +kernel
theorem dX10_radius_11 : decode cX10_radius 11 = .ok (.invokevirtual 154, 3) := by decide +kernel
theorem dX10_radius_14 : decode cX10_radius 14 = .ok (.lconst 0, 1) := by decide +kernel
theorem dX10_radius_15 : decode cX10_radius 15 = .ok (.lcmp, 1) := by decide +kernel
theorem dX10_radius_16 : decode cX10_radius 16 = .ok (.ifCond .ne 5, 3) := by decide +kernel
theorem dX10_radius_19 : decode cX10_radius 19 = .ok (.iload_n 1, 1) := by decide +kernel
theorem dX10_radius_20 : decode cX10_radius 20 = .ok (.ireturn, 1) := by decide +kernel
theorem dX10_radius_21 : decode cX10_radius 21 = .ok (.iinc 1 1, 3) := by decide +kernel
theorem dX10_radius_24 : decode cX10_radius 24 = .ok (.goto (-22), 3) := by decide +kernel
theorem dX10_radius_27 : decode cX10_radius 27 = .ok (.iconst (-1), 1) := by decide +kernel
theorem dX10_radius_28 : decode cX10_radius 28 = .ok (.ireturn, 1) := by decide +kernel
theorem dX10_middle_0 : decode cX10_middle 0 = .ok (.iload_n 1, 1) := by decide +kernel
theorem dX10_middle_1 : decode cX10_middle 1 = .ok (.iconst 0, 1) := by decide +kernel
theorem dX10_middle_2 : decode cX10_middle 2 = .ok (.aload_n 0, 1) := by decide +kernel
theorem dX10_middle_3 : decode cX10_middle 3 = .ok (.getfield 132, 3) := by decide +kernel
theorem dX10_middle_6 : decode cX10_middle 6 = .ok (.iconst 1, 1) := by decide +kernel
theorem dX10_middle_7 : decode cX10_middle 7 = .ok (.isub, 1) := by decide +kernel
theorem dX10_middle_8 : decode cX10_middle 8 = .ok (.invokestatic 128, 3) := by decide +kernel
theorem dX10_middle_11 : decode cX10_middle 11 = .ok (.ifCond .ne 7, 3) := by decide +kernel
theorem dX10_middle_14 : decode cX10_middle 14 = .ok (.ldc2_w 158, 3) := by decide +kernel
theorem dX10_middle_17 : decode cX10_middle 17 = .ok (.lreturn, 1) := by decide +kernel
theorem dX10_middle_18 : decode cX10_middle 18 = .ok (.aload_n 0, 1) := by decide +kernel
theorem dX10_middle_19 : decode cX10_middle 19 = .ok (.iconst 3, 1) := by decide +kernel
theorem dX10_middle_20 : decode cX10_middle 20 = .ok (.iconst 0, 1) := by decide +kernel
theorem dX10_middle_21 : decode cX10_middle 21 = .ok (.invokevirtual 138, 3) := by decide +kernel
theorem dX10_middle_24 : decode cX10_middle 24 = .ok (.aload_n 0, 1) := by decide +kernel
theorem dX10_middle_25 : decode cX10_middle 25 = .ok (.iconst 1, 1) := by decide +kernel
theorem dX10_middle_26 : decode cX10_middle 26 = .ok (.iconst (-1), 1) := by decide +kernel
theorem dX10_middle_27 : decode cX10_middle 27 = .ok (.invokevirtual 142, 3) := by decide +kernel
theorem dX10_middle_30 : decode cX10_middle 30 = .ok (.iconst 0, 1) := by decide +kernel
theorem dX10_middle_31 : decode cX10_middle 31 = .ok (.istore_n 2, 1) := by decide +kernel
theorem dX10_middle_32 : decode cX10_middle 32 = .ok (.iload_n 2, 1) := by decide +kernel
theorem dX10_middle_33 : decode cX10_middle 33 = .ok (.sipush 10000, 3) := by decide +kernel
theorem dX10_middle_36 : decode cX10_middle 36 = .ok (.if_icmp .ge 16, 3) := by decide +kernel
theorem dX10_middle_39 : decode cX10_middle 39 = .ok (.aload_n 0, 1) := by decide +kernel
theorem dX10_middle_40 : decode cX10_middle 40 = .ok (.getfield 34, 3) := by decide +kernel
theorem dX10_middle_43 : decode cX10_middle 43 = .ok (.iload_n 2, 1) := by decide +kernel
theorem dX10_middle_44 : decode cX10_middle 44 = .ok (.lconst 0, 1) := by decide +kernel
theorem dX10_middle_45 : decode cX10_middle 45 = .ok (.lastore, 1) := by decide +kernel
theorem dX10_middle_46 : decode cX10_middle 46 = .ok (.iinc 2 1, 3) := by decide +kernel
theorem dX10_middle_49 : decode cX10_middle 49 = .ok (.goto (-17), 3) := by decide +kernel
theorem dX10_middle_52 : decode cX10_middle 52 = .ok (.iconst 0, 1) := by decide +kernel
theorem dX10_middle_53 : decode cX10_middle 53 = .ok (.istore_n 2, 1) := by decide +kernel
theorem dX10_middle_54 : decode cX10_middle 54 = .ok (.iload_n 2, 1) := by decide +kernel
theorem dX10_middle_55 : decode cX10_middle 55 = .ok (.aload_n 0, 1) := by decide +kernel
theorem dX10_middle_56 : decode cX10_middle 56 = .ok (.getfield 135, 3) := by decide +kernel
theorem dX10_middle_59 : decode cX10_middle 59 = .ok (.if_icmp .ge 24, 3) := by decide +kernel
theorem dX10_middle_62 : decode cX10_middle 62 = .ok (.aload_n 0, 1) := by decide +kernel
theorem dX10_middle_63 : decode cX10_middle 63 = .ok (.getfield 34, 3) := by decide +kernel
theorem dX10_middle_66 : decode cX10_middle 66 = .ok (.aload_n 0, 1) := by decide +kernel
theorem dX10_middle_67 : decode cX10_middle 67 = .ok (.getfield 19, 3) := by decide +kernel
theorem dX10_middle_70 : decode cX10_middle 70 = .ok (.iload_n 2, 1) := by decide +kernel
theorem dX10_middle_71 : decode cX10_middle 71 = .ok (.iaload, 1) := by decide +kernel
theorem dX10_middle_72 : decode cX10_middle 72 = .ok (.dup2, 1) := by decide +kernel
theorem dX10_middle_73 : decode cX10_middle 73 = .ok (.laload, 1) := by decide +kernel
theorem dX10_middle_74 : decode cX10_middle 74 = .ok (.lconst 1, 1) := by decide +kernel
theorem dX10_middle_75 : decode cX10_middle 75 = .ok (.ladd, 1) := by decide +kernel
theorem dX10_middle_76 : decode cX10_middle 76 = .ok (.lastore, 1) := by decide +kernel
theorem dX10_middle_77 : decode cX10_middle 77 = .ok (.iinc 2 1, 3) := by decide +kernel
theorem dX10_middle_80 : decode cX10_middle 80 = .ok (.goto (-26), 3) := by decide +kernel
theorem dX10_middle_83 : decode cX10_middle 83 = .ok (.lconst 0, 1) := by decide +kernel
theorem dX10_middle_84 : decode cX10_middle 84 = .ok (.lstore_n 2, 1) := by decide +kernel
theorem dX10_middle_85 : decode cX10_middle 85 = .ok (.iconst 0, 1) := by decide +kernel
theorem dX10_middle_86 : decode cX10_middle 86 = .ok (.istore 4, 2) := by decide +kernel
theorem dX10_middle_88 : decode cX10_middle 88 = .ok (.iload 4, 2) := by decide +kernel
theorem dX10_middle_90 : decode cX10_middle 90 = .ok (.aload_n 0, 1) := by decide +kernel
theorem dX10_middle_91 : decode cX10_middle 91 = .ok (.getfield 135, 3) := by decide +kernel
theorem dX10_middle_94 : decode cX10_middle 94 = .ok (.if_icmp .ge 62, 3) := by decide +kernel
theorem dX10_middle_97 : decode cX10_middle 97 = .ok (.lload_n 2, 1) := by decide +kernel
theorem dX10_middle_98 : decode cX10_middle 98 = .ok (.aload_n 0, 1) := by decide +kernel
theorem dX10_middle_99 : decode cX10_middle 99 = .ok (.aload_n 0, 1) := by decide +kernel
theorem dX10_middle_100 : decode cX10_middle 100 = .ok (.getfield 13, 3) := by decide +kernel
theorem dX10_middle_103 : decode cX10_middle 103 = .ok (.iload 4, 2) := by decide +kernel
theorem dX10_middle_105 : decode cX10_middle 105 = .ok (.iaload, 1) := by decide +kernel
theorem dX10_middle_106 : decode cX10_middle 106 = .ok (.iconst 3, 1) := by decide +kernel
theorem dX10_middle_107 : decode cX10_middle 107 = .ok (.iconst 1, 1) := by decide +kernel
theorem dX10_middle_108 : decode cX10_middle 108 = .ok (.invokevirtual 160, 3) := by decide +kernel
theorem dX10_middle_111 : decode cX10_middle 111 = .ok (.iload_n 1, 1) := by decide +kernel
theorem dX10_middle_112 : decode cX10_middle 112 = .ok (.if_icmp .ne 35, 3) := by decide +kernel
theorem dX10_middle_115 : decode cX10_middle 115 = .ok (.aload_n 0, 1) := by decide +kernel
theorem dX10_middle_116 : decode cX10_middle 116 = .ok (.getfield 34, 3) := by decide +kernel
theorem dX10_middle_119 : decode cX10_middle 119 = .ok (.aload_n 0, 1) := by decide +kernel
theorem dX10_middle_120 : decode cX10_middle 120 = .ok (.getfield 16, 3) := by decide +kernel
theorem dX10_middle_123 : decode cX10_middle 123 = .ok (.iload 4, 2) := by decide +kernel
theorem dX10_middle_125 : decode cX10_middle 125 = .ok (.iaload, 1) := by decide +kernel
theorem dX10_middle_126 : decode cX10_middle 126 = .ok (.laload, 1) := by decide +kernel
theorem dX10_middle_127 : decode cX10_middle 127 = .ok (.aload_n 0, 1) := by decide +kernel
theorem dX10_middle_128 : decode cX10_middle 128 = .ok (.getfield 26, 3) := by decide +kernel
theorem dX10_middle_131 : decode cX10_middle 131 = .ok (.sipush 10000, 3) := by decide +kernel
theorem dX10_middle_134 : decode cX10_middle 134 = .ok (.aload_n 0, 1) := by decide +kernel
theorem dX10_middle_135 : decode cX10_middle 135 = .ok (.getfield 19, 3) := by decide +kernel
theorem dX10_middle_138 : decode cX10_middle 138 = .ok (.iload 4, 2) := by decide +kernel
theorem dX10_middle_140 : decode cX10_middle 140 = .ok (.iaload, 1) := by decide +kernel
theorem dX10_middle_141 : decode cX10_middle 141 = .ok (.iadd, 1) := by decide +kernel
theorem dX10_middle_142 : decode cX10_middle 142 = .ok (.laload, 1) := by decide +kernel
theorem dX10_middle_143 : decode cX10_middle 143 = .ok (.lmul, 1) := by decide +kernel
theorem dX10_middle_144 : decode cX10_middle 144 = .ok (.goto 4, 3) := by decide +kernel
theorem dX10_middle_147 : decode cX10_middle 147 = .ok (.lconst 0, 1) := by decide +kernel
theorem dX10_middle_148 : decode cX10_middle 148 = .ok (.ladd, 1) := by decide +kernel
theorem dX10_middle_149 : decode cX10_middle 149 = .ok (.lstore_n 2, 1) := by decide +kernel
theorem dX10_middle_150 : decode cX10_middle 150 = .ok (.iinc 4 1, 3) := by decide +kernel
theorem dX10_middle_153 : decode cX10_middle 153 = .ok (.goto (-65), 3) := by decide +kernel
theorem dX10_middle_156 : decode cX10_middle 156 = .ok (.lload_n 2, 1) := by decide +kernel
theorem dX10_middle_157 : decode cX10_middle 157 = .ok (.lreturn, 1) := by decide +kernel
theorem dX10_ones_0 : decode cX10_ones 0 = .ok (.iconst 0, 1) := by decide +kernel
theorem dX10_ones_1 : decode cX10_ones 1 = .ok (.istore_n 1, 1) := by decide +kernel
theorem dX10_ones_2 : decode cX10_ones 2 = .ok (.iconst 0, 1) := by decide +kernel
theorem dX10_ones_3 : decode cX10_ones 3 = .ok (.istore_n 2, 1) := by decide +kernel
theorem dX10_ones_4 : decode cX10_ones 4 = .ok (.iload_n 2, 1) := by decide +kernel
theorem dX10_ones_5 : decode cX10_ones 5 = .ok (.bipush 25, 2) := by decide +kernel
theorem dX10_ones_7 : decode cX10_ones 7 = .ok (.if_icmp .ge 17, 3) := by decide +kernel
theorem dX10_ones_10 : decode cX10_ones 10 = .ok (.iload_n 1, 1) := by decide +kernel
theorem dX10_ones_11 : decode cX10_ones 11 = .ok (.iload_n 0, 1) := by decide +kernel
theorem dX10_ones_12 : decode cX10_ones 12 = .ok (.iload_n 2, 1) := by decide +kernel
theorem dX10_ones_13 : decode cX10_ones 13 = .ok (.ishr, 1) := by decide +kernel
theorem dX10_ones_14 : decode cX10_ones 14 = .ok (.iconst 1, 1) := by decide +kernel
theorem dX10_ones_15 : decode cX10_ones 15 = .ok (.iand, 1) := by decide +kernel
theorem dX10_ones_16 : decode cX10_ones 16 = .ok (.iadd, 1) := by decide +kernel
theorem dX10_ones_17 : decode cX10_ones 17 = .ok (.istore_n 1, 1) := by decide +kernel
theorem dX10_ones_18 : decode cX10_ones 18 = .ok (.iinc 2 1, 3) := by decide +kernel
theorem dX10_ones_21 : decode cX10_ones 21 = .ok (.goto (-17), 3) := by decide +kernel
theorem dX10_ones_24 : decode cX10_ones 24 = .ok (.iload_n 1, 1) := by decide +kernel
theorem dX10_ones_25 : decode cX10_ones 25 = .ok (.ireturn, 1) := by decide +kernel
theorem dX10_hangs_0 : decode cX10_hangs 0 = .ok (.iload_n 0, 1) := by decide +kernel
theorem dX10_hangs_1 : decode cX10_hangs 1 = .ok (.iload_n 0, 1) := by decide +kernel
theorem dX10_hangs_2 : decode cX10_hangs 2 = .ok (.ineg, 1) := by decide +kernel
theorem dX10_hangs_3 : decode cX10_hangs 3 = .ok (.iand, 1) := by decide +kernel
theorem dX10_hangs_4 : decode cX10_hangs 4 = .ok (.istore_n 1, 1) := by decide +kernel
theorem dX10_hangs_5 : decode cX10_hangs 5 = .ok (.iconst 0, 1) := by decide +kernel
theorem dX10_hangs_6 : decode cX10_hangs 6 = .ok (.istore_n 2, 1) := by decide +kernel
theorem dX10_hangs_7 : decode cX10_hangs 7 = .ok (.iload_n 2, 1) := by decide +kernel
theorem dX10_hangs_8 : decode cX10_hangs 8 = .ok (.bipush 25, 2) := by decide +kernel
theorem dX10_hangs_10 : decode cX10_hangs 10 = .ok (.if_icmp .ge 112, 3) := by decide +kernel
theorem dX10_hangs_13 : decode cX10_hangs 13 = .ok (.iconst 0, 1) := by decide +kernel
theorem dX10_hangs_14 : decode cX10_hangs 14 = .ok (.istore_n 3, 1) := by decide +kernel
theorem dX10_hangs_15 : decode cX10_hangs 15 = .ok (.iload_n 3, 1) := by decide +kernel
theorem dX10_hangs_16 : decode cX10_hangs 16 = .ok (.bipush 25, 2) := by decide +kernel
theorem dX10_hangs_18 : decode cX10_hangs 18 = .ok (.if_icmp .ge 98, 3) := by decide +kernel
theorem dX10_hangs_21 : decode cX10_hangs 21 = .ok (.iload_n 1, 1) := by decide +kernel
theorem dX10_hangs_22 : decode cX10_hangs 22 = .ok (.iload_n 3, 1) := by decide +kernel
theorem dX10_hangs_23 : decode cX10_hangs 23 = .ok (.ishr, 1) := by decide +kernel
theorem dX10_hangs_24 : decode cX10_hangs 24 = .ok (.iconst 1, 1) := by decide +kernel
theorem dX10_hangs_25 : decode cX10_hangs 25 = .ok (.iand, 1) := by decide +kernel
theorem dX10_hangs_26 : decode cX10_hangs 26 = .ok (.iconst 1, 1) := by decide +kernel
theorem dX10_hangs_27 : decode cX10_hangs 27 = .ok (.if_icmp .ne 83, 3) := by decide +kernel
theorem dX10_hangs_30 : decode cX10_hangs 30 = .ok (.iload_n 1, 1) := by decide +kernel
theorem dX10_hangs_31 : decode cX10_hangs 31 = .ok (.iload_n 3, 1) := by decide +kernel
theorem dX10_hangs_32 : decode cX10_hangs 32 = .ok (.iconst 5, 1) := by decide +kernel
theorem dX10_hangs_33 : decode cX10_hangs 33 = .ok (.irem, 1) := by decide +kernel
theorem dX10_hangs_34 : decode cX10_hangs 34 = .ok (.ifCond .le 13, 3) := by decide +kernel
theorem dX10_hangs_37 : decode cX10_hangs 37 = .ok (.iload_n 0, 1) := by decide +kernel
theorem dX10_hangs_38 : decode cX10_hangs 38 = .ok (.iconst 1, 1) := by decide +kernel
theorem dX10_hangs_39 : decode cX10_hangs 39 = .ok (.iload_n 3, 1) := by decide +kernel
theorem dX10_hangs_40 : decode cX10_hangs 40 = .ok (.iconst 1, 1) := by decide +kernel
theorem dX10_hangs_41 : decode cX10_hangs 41 = .ok (.isub, 1) := by decide +kernel
theorem dX10_hangs_42 : decode cX10_hangs 42 = .ok (.ishl, 1) := by decide +kernel
theorem dX10_hangs_43 : decode cX10_hangs 43 = .ok (.iand, 1) := by decide +kernel
theorem dX10_hangs_44 : decode cX10_hangs 44 = .ok (.goto 4, 3) := by decide +kernel
theorem dX10_hangs_47 : decode cX10_hangs 47 = .ok (.iconst 0, 1) := by decide +kernel
theorem dX10_hangs_48 : decode cX10_hangs 48 = .ok (.ior, 1) := by decide +kernel
theorem dX10_hangs_49 : decode cX10_hangs 49 = .ok (.istore_n 1, 1) := by decide +kernel
theorem dX10_hangs_50 : decode cX10_hangs 50 = .ok (.iload_n 1, 1) := by decide +kernel
theorem dX10_hangs_51 : decode cX10_hangs 51 = .ok (.iload_n 3, 1) := by decide +kernel
theorem dX10_hangs_52 : decode cX10_hangs 52 = .ok (.iconst 5, 1) := by decide +kernel
theorem dX10_hangs_53 : decode cX10_hangs 53 = .ok (.irem, 1) := by decide +kernel
theorem dX10_hangs_54 : decode cX10_hangs 54 = .ok (.iconst 4, 1) := by decide +kernel
theorem dX10_hangs_55 : decode cX10_hangs 55 = .ok (.if_icmp .ge 13, 3) := by decide +kernel
theorem dX10_hangs_58 : decode cX10_hangs 58 = .ok (.iload_n 0, 1) := by decide +kernel
theorem dX10_hangs_59 : decode cX10_hangs 59 = .ok (.iconst 1, 1) := by decide +kernel
theorem dX10_hangs_60 : decode cX10_hangs 60 = .ok (.iload_n 3, 1) := by decide +kernel
theorem dX10_hangs_61 : decode cX10_hangs 61 = .ok (.iconst 1, 1) := by decide +kernel
theorem dX10_hangs_62 : decode cX10_hangs 62 = .ok (.iadd, 1) := by decide +kernel
theorem dX10_hangs_63 : decode cX10_hangs 63 = .ok (.ishl, 1) := by decide +kernel
theorem dX10_hangs_64 : decode cX10_hangs 64 = .ok (.iand, 1) := by decide +kernel
theorem dX10_hangs_65 : decode cX10_hangs 65 = .ok (.goto 4, 3) := by decide +kernel
theorem dX10_hangs_68 : decode cX10_hangs 68 = .ok (.iconst 0, 1) := by decide +kernel
theorem dX10_hangs_69 : decode cX10_hangs 69 = .ok (.ior, 1) := by decide +kernel
theorem dX10_hangs_70 : decode cX10_hangs 70 = .ok (.istore_n 1, 1) := by decide +kernel
theorem dX10_hangs_71 : decode cX10_hangs 71 = .ok (.iload_n 1, 1) := by decide +kernel
theorem dX10_hangs_72 : decode cX10_hangs 72 = .ok (.iload_n 3, 1) := by decide +kernel
theorem dX10_hangs_73 : decode cX10_hangs 73 = .ok (.iconst 4, 1) := by decide +kernel
theorem dX10_hangs_74 : decode cX10_hangs 74 = .ok (.if_icmp .le 13, 3) := by decide +kernel
theorem dX10_hangs_77 : decode cX10_hangs 77 = .ok (.iload_n 0, 1) := by decide +kernel
theorem dX10_hangs_78 : decode cX10_hangs 78 = .ok (.iconst 1, 1) := by decide +kernel
theorem dX10_hangs_79 : decode cX10_hangs 79 = .ok (.iload_n 3, 1) := by decide +kernel
theorem dX10_hangs_80 : decode cX10_hangs 80 = .ok (.iconst 5, 1) := by decide +kernel
theorem dX10_hangs_81 : decode cX10_hangs 81 = .ok (.isub, 1) := by decide +kernel
theorem dX10_hangs_82 : decode cX10_hangs 82 = .ok (.ishl, 1) := by decide +kernel
theorem dX10_hangs_83 : decode cX10_hangs 83 = .ok (.iand, 1) := by decide +kernel
theorem dX10_hangs_84 : decode cX10_hangs 84 = .ok (.goto 4, 3) := by decide +kernel
theorem dX10_hangs_87 : decode cX10_hangs 87 = .ok (.iconst 0, 1) := by decide +kernel
theorem dX10_hangs_88 : decode cX10_hangs 88 = .ok (.ior, 1) := by decide +kernel
theorem dX10_hangs_89 : decode cX10_hangs 89 = .ok (.istore_n 1, 1) := by decide +kernel
theorem dX10_hangs_90 : decode cX10_hangs 90 = .ok (.iload_n 1, 1) := by decide +kernel
theorem dX10_hangs_91 : decode cX10_hangs 91 = .ok (.iload_n 3, 1) := by decide +kernel
theorem dX10_hangs_92 : decode cX10_hangs 92 = .ok (.bipush 20, 2) := by decide +kernel
theorem dX10_hangs_94 : decode cX10_hangs 94 = .ok (.if_icmp .ge 13, 3) := by decide +kernel
theorem dX10_hangs_97 : decode cX10_hangs 97 = .ok (.iload_n 0, 1) := by decide +kernel
theorem dX10_hangs_98 : decode cX10_hangs 98 = .ok (.iconst 1, 1) := by decide +kernel
theorem dX10_hangs_99 : decode cX10_hangs 99 = .ok (.iload_n 3, 1) := by decide +kernel
theorem dX10_hangs_100 : decode cX10_hangs 100 = .ok (.iconst 5, 1) := by decide +kernel
theorem dX10_hangs_101 : decode cX10_hangs 101 = .ok (.iadd, 1) := by decide +kernel
theorem dX10_hangs_102 : decode cX10_hangs 102 = .ok (.ishl, 1) := by decide +kernel
theorem dX10_hangs_103 : decode cX10_hangs 103 = .ok (.iand, 1) := by decide +kernel
theorem dX10_hangs_104 : decode cX10_hangs 104 = .ok (.goto 4, 3) := by decide +kernel
theorem dX10_hangs_107 : decode cX10_hangs 107 = .ok (.iconst 0, 1) := by decide +kernel
theorem dX10_hangs_108 : decode cX10_hangs 108 = .ok (.ior, 1) := by decide +kernel
theorem dX10_hangs_109 : decode cX10_hangs 109 = .ok (.istore_n 1, 1) := by decide +kernel
theorem dX10_hangs_110 : decode cX10_hangs 110 = .ok (.iinc 3 1, 3) := by decide +kernel
theorem dX10_hangs_113 : decode cX10_hangs 113 = .ok (.goto (-98), 3) := by decide +kernel
theorem dX10_hangs_116 : decode cX10_hangs 116 = .ok (.iinc 2 1, 3) := by decide +kernel
theorem dX10_hangs_119 : decode cX10_hangs 119 = .ok (.goto (-112), 3) := by decide +kernel
theorem dX10_hangs_122 : decode cX10_hangs 122 = .ok (.iload_n 1, 1) := by decide +kernel
theorem dX10_hangs_123 : decode cX10_hangs 123 = .ok (.iload_n 0, 1) := by decide +kernel
theorem dX10_hangs_124 : decode cX10_hangs 124 = .ok (.if_icmp .ne 7, 3) := by decide +kernel
theorem dX10_hangs_127 : decode cX10_hangs 127 = .ok (.iconst 1, 1) := by decide +kernel
theorem dX10_hangs_128 : decode cX10_hangs 128 = .ok (.goto 4, 3) := by decide +kernel
theorem dX10_hangs_131 : decode cX10_hangs 131 = .ok (.iconst 0, 1) := by decide +kernel
theorem dX10_hangs_132 : decode cX10_hangs 132 = .ok (.ireturn, 1) := by decide +kernel
theorem dX10_piece_0 : decode cX10_piece 0 = .ok (.iload_n 1, 1) := by decide +kernel
theorem dX10_piece_1 : decode cX10_piece 1 = .ok (.iconst 1, 1) := by decide +kernel
theorem dX10_piece_2 : decode cX10_piece 2 = .ok (.ldc 164, 2) := by decide +kernel
theorem dX10_piece_4 : decode cX10_piece 4 = .ok (.invokestatic 128, 3) := by decide +kernel
theorem dX10_piece_7 : decode cX10_piece 7 = .ok (.ifCond .eq 18, 3) := by decide +kernel
theorem dX10_piece_10 : decode cX10_piece 10 = .ok (.iload_n 1, 1) := by decide +kernel
theorem dX10_piece_11 : decode cX10_piece 11 = .ok (.invokestatic 165, 3) := by decide +kernel
theorem dX10_piece_14 : decode cX10_piece 14 = .ok (.iconst 5, 1) := by decide +kernel
theorem dX10_piece_15 : decode cX10_piece 15 = .ok (.if_icmp .gt 10, 3) := by decide +kernel
theorem dX10_piece_18 : decode cX10_piece 18 = .ok (.iload_n 1, 1) := by decide +kernel
theorem dX10_piece_19 : decode cX10_piece 19 = .ok (.invokestatic 169, 3) := by decide +kernel
theorem dX10_piece_22 : decode cX10_piece 22 = .ok (.ifCond .ne 6, 3) := by decide +kernel
theorem dX10_piece_25 : decode cX10_piece 25 = .ok (.bipush (-2), 2) := by decide +kernel
theorem dX10_piece_27 : decode cX10_piece 27 = .ok (.ireturn, 1) := by decide +kernel
theorem dX10_piece_28 : decode cX10_piece 28 = .ok (.aload_n 0, 1) := by decide +kernel
theorem dX10_piece_29 : decode cX10_piece 29 = .ok (.getfield 173, 3) := by decide +kernel
theorem dX10_piece_32 : decode cX10_piece 32 = .ok (.bipush 6, 2) := by decide +kernel
theorem dX10_piece_34 : decode cX10_piece 34 = .ok (.if_icmp .ne 6, 3) := by decide +kernel
theorem dX10_piece_37 : decode cX10_piece 37 = .ok (.bipush (-3), 2) := by decide +kernel
theorem dX10_piece_39 : decode cX10_piece 39 = .ok (.ireturn, 1) := by decide +kernel
theorem dX10_piece_40 : decode cX10_piece 40 = .ok (.aload_n 0, 1) := by decide +kernel
theorem dX10_piece_41 : decode cX10_piece 41 = .ok (.getfield 40, 3) := by decide +kernel
theorem dX10_piece_44 : decode cX10_piece 44 = .ok (.aload_n 0, 1) := by decide +kernel
theorem dX10_piece_45 : decode cX10_piece 45 = .ok (.getfield 173, 3) := by decide +kernel
theorem dX10_piece_48 : decode cX10_piece 48 = .ok (.iload_n 1, 1) := by decide +kernel
theorem dX10_piece_49 : decode cX10_piece 49 = .ok (.iastore, 1) := by decide +kernel
theorem dX10_piece_50 : decode cX10_piece 50 = .ok (.aload_n 0, 1) := by decide +kernel
theorem dX10_piece_51 : decode cX10_piece 51 = .ok (.dup, 1) := by decide +kernel
theorem dX10_piece_52 : decode cX10_piece 52 = .ok (.getfield 173, 3) := by decide +kernel
theorem dX10_piece_55 : decode cX10_piece 55 = .ok (.iconst 1, 1) := by decide +kernel
theorem dX10_piece_56 : decode cX10_piece 56 = .ok (.iadd, 1) := by decide +kernel
theorem dX10_piece_57 : decode cX10_piece 57 = .ok (.putfield 173, 3) := by decide +kernel
theorem dX10_piece_60 : decode cX10_piece 60 = .ok (.aload_n 0, 1) := by decide +kernel
theorem dX10_piece_61 : decode cX10_piece 61 = .ok (.getfield 173, 3) := by decide +kernel
theorem dX10_piece_64 : decode cX10_piece 64 = .ok (.iconst 1, 1) := by decide +kernel
theorem dX10_piece_65 : decode cX10_piece 65 = .ok (.isub, 1) := by decide +kernel
theorem dX10_piece_66 : decode cX10_piece 66 = .ok (.ireturn, 1) := by decide +kernel
theorem dX10_unpiece_0 : decode cX10_unpiece 0 = .ok (.aload_n 0, 1) := by decide +kernel
theorem dX10_unpiece_1 : decode cX10_unpiece 1 = .ok (.getfield 173, 3) := by decide +kernel
theorem dX10_unpiece_4 : decode cX10_unpiece 4 = .ok (.ifCond .ne 5, 3) := by decide +kernel
theorem dX10_unpiece_7 : decode cX10_unpiece 7 = .ok (.iconst (-1), 1) := by decide +kernel
theorem dX10_unpiece_8 : decode cX10_unpiece 8 = .ok (.ireturn, 1) := by decide +kernel
theorem dX10_unpiece_9 : decode cX10_unpiece 9 = .ok (.aload_n 0, 1) := by decide +kernel
theorem dX10_unpiece_10 : decode cX10_unpiece 10 = .ok (.dup, 1) := by decide +kernel
theorem dX10_unpiece_11 : decode cX10_unpiece 11 = .ok (.getfield 173, 3) := by decide +kernel
theorem dX10_unpiece_14 : decode cX10_unpiece 14 = .ok (.iconst 1, 1) := by decide +kernel
theorem dX10_unpiece_15 : decode cX10_unpiece 15 = .ok (.isub, 1) := by decide +kernel
theorem dX10_unpiece_16 : decode cX10_unpiece 16 = .ok (.putfield 173, 3) := by decide +kernel
theorem dX10_unpiece_19 : decode cX10_unpiece 19 = .ok (.aload_n 0, 1) := by decide +kernel
theorem dX10_unpiece_20 : decode cX10_unpiece 20 = .ok (.getfield 173, 3) := by decide +kernel
theorem dX10_unpiece_23 : decode cX10_unpiece 23 = .ok (.ireturn, 1) := by decide +kernel
theorem dX10_cells_0 : decode cX10_cells 0 = .ok (.iconst 1, 1) := by decide +kernel
theorem dX10_cells_1 : decode cX10_cells 1 = .ok (.aload_n 0, 1) := by decide +kernel
theorem dX10_cells_2 : decode cX10_cells 2 = .ok (.getfield 105, 3) := by decide +kernel
theorem dX10_cells_5 : decode cX10_cells 5 = .ok (.aload_n 0, 1) := by decide +kernel
theorem dX10_cells_6 : decode cX10_cells 6 = .ok (.getfield 109, 3) := by decide +kernel
theorem dX10_cells_9 : decode cX10_cells 9 = .ok (.imul, 1) := by decide +kernel
theorem dX10_cells_10 : decode cX10_cells 10 = .ok (.ishl, 1) := by decide +kernel
theorem dX10_cells_11 : decode cX10_cells 11 = .ok (.iconst 1, 1) := by decide +kernel
theorem dX10_cells_12 : decode cX10_cells 12 = .ok (.isub, 1) := by decide +kernel
theorem dX10_cells_13 : decode cX10_cells 13 = .ok (.ireturn, 1) := by decide +kernel
theorem dX10_board_0 : decode cX10_board 0 = .ok (.iload_n 1, 1) := by decide +kernel
theorem dX10_board_1 : decode cX10_board 1 = .ok (.iconst 1, 1) := by decide +kernel
theorem dX10_board_2 : decode cX10_board 2 = .ok (.iconst 5, 1) := by decide +kernel
theorem dX10_board_3 : decode cX10_board 3 = .ok (.invokestatic 128, 3) := by decide +kernel
theorem dX10_board_6 : decode cX10_board 6 = .ok (.ifCond .eq 27, 3) := by decide +kernel
theorem dX10_board_9 : decode cX10_board 9 = .ok (.iload_n 2, 1) := by decide +kernel
theorem dX10_board_10 : decode cX10_board 10 = .ok (.iconst 1, 1) := by decide +kernel
theorem dX10_board_11 : decode cX10_board 11 = .ok (.iconst 4, 1) := by decide +kernel
theorem dX10_board_12 : decode cX10_board 12 = .ok (.invokestatic 128, 3) := by decide +kernel
theorem dX10_board_15 : decode cX10_board 15 = .ok (.ifCond .eq 18, 3) := by decide +kernel
theorem dX10_board_18 : decode cX10_board 18 = .ok (.iload_n 3, 1) := by decide +kernel
theorem dX10_board_19 : decode cX10_board 19 = .ok (.iconst 0, 1) := by decide +kernel
theorem dX10_board_20 : decode cX10_board 20 = .ok (.iconst 1, 1) := by decide +kernel
theorem dX10_board_21 : decode cX10_board 21 = .ok (.iload_n 1, 1) := by decide +kernel
theorem dX10_board_22 : decode cX10_board 22 = .ok (.iload_n 2, 1) := by decide +kernel
theorem dX10_board_23 : decode cX10_board 23 = .ok (.imul, 1) := by decide +kernel
theorem dX10_board_24 : decode cX10_board 24 = .ok (.ishl, 1) := by decide +kernel
theorem dX10_board_25 : decode cX10_board 25 = .ok (.iconst 1, 1) := by decide +kernel
theorem dX10_board_26 : decode cX10_board 26 = .ok (.isub, 1) := by decide +kernel
theorem dX10_board_27 : decode cX10_board 27 = .ok (.invokestatic 128, 3) := by decide +kernel
theorem dX10_board_30 : decode cX10_board 30 = .ok (.ifCond .ne 6, 3) := by decide +kernel
theorem dX10_board_33 : decode cX10_board 33 = .ok (.bipush (-2), 2) := by decide +kernel
theorem dX10_board_35 : decode cX10_board 35 = .ok (.ireturn, 1) := by decide +kernel
theorem dX10_board_36 : decode cX10_board 36 = .ok (.aload_n 0, 1) := by decide +kernel
theorem dX10_board_37 : decode cX10_board 37 = .ok (.iload_n 1, 1) := by decide +kernel
theorem dX10_board_38 : decode cX10_board 38 = .ok (.putfield 105, 3) := by decide +kernel
theorem dX10_board_41 : decode cX10_board 41 = .ok (.aload_n 0, 1) := by decide +kernel
theorem dX10_board_42 : decode cX10_board 42 = .ok (.iload_n 2, 1) := by decide +kernel
theorem dX10_board_43 : decode cX10_board 43 = .ok (.putfield 109, 3) := by decide +kernel
theorem dX10_board_46 : decode cX10_board 46 = .ok (.aload_n 0, 1) := by decide +kernel
theorem dX10_board_47 : decode cX10_board 47 = .ok (.iload_n 3, 1) := by decide +kernel
theorem dX10_board_48 : decode cX10_board 48 = .ok (.putfield 176, 3) := by decide +kernel
theorem dX10_board_51 : decode cX10_board 51 = .ok (.iload_n 1, 1) := by decide +kernel
theorem dX10_board_52 : decode cX10_board 52 = .ok (.iload_n 2, 1) := by decide +kernel
theorem dX10_board_53 : decode cX10_board 53 = .ok (.imul, 1) := by decide +kernel
theorem dX10_board_54 : decode cX10_board 54 = .ok (.iload_n 3, 1) := by decide +kernel
theorem dX10_board_55 : decode cX10_board 55 = .ok (.invokestatic 165, 3) := by decide +kernel
theorem dX10_board_58 : decode cX10_board 58 = .ok (.isub, 1) := by decide +kernel
theorem dX10_board_59 : decode cX10_board 59 = .ok (.ireturn, 1) := by decide +kernel
theorem dX10_may_0 : decode cX10_may 0 = .ok (.iload_n 1, 1) := by decide +kernel
theorem dX10_may_1 : decode cX10_may 1 = .ok (.iconst 0, 1) := by decide +kernel
theorem dX10_may_2 : decode cX10_may 2 = .ok (.iconst 1, 1) := by decide +kernel
theorem dX10_may_3 : decode cX10_may 3 = .ok (.invokestatic 128, 3) := by decide +kernel
theorem dX10_may_6 : decode cX10_may 6 = .ok (.ifCond .ne 6, 3) := by decide +kernel
theorem dX10_may_9 : decode cX10_may 9 = .ok (.bipush (-2), 2) := by decide +kernel
theorem dX10_may_11 : decode cX10_may 11 = .ok (.ireturn, 1) := by decide +kernel
theorem dX10_may_12 : decode cX10_may 12 = .ok (.iload_n 1, 1) := by decide +kernel
theorem dX10_may_13 : decode cX10_may 13 = .ok (.ifCond .ne 10, 3) := by decide +kernel
theorem dX10_may_16 : decode cX10_may 16 = .ok (.aload_n 0, 1) := by decide +kernel
theorem dX10_may_17 : decode cX10_may 17 = .ok (.getfield 112, 3) := by decide +kernel
theorem dX10_may_20 : decode cX10_may 20 = .ok (.goto 7, 3) := by decide +kernel
theorem dX10_may_23 : decode cX10_may 23 = .ok (.aload_n 0, 1) := by decide +kernel
theorem dX10_may_24 : decode cX10_may 24 = .ok (.getfield 116, 3) := by decide +kernel
theorem dX10_may_27 : decode cX10_may 27 = .ok (.istore_n 3, 1) := by decide +kernel
theorem dX10_may_28 : decode cX10_may 28 = .ok (.aload_n 0, 1) := by decide +kernel
theorem dX10_may_29 : decode cX10_may 29 = .ok (.iload_n 1, 1) := by decide +kernel
theorem dX10_may_30 : decode cX10_may 30 = .ok (.ifCond .ne 7, 3) := by decide +kernel
theorem dX10_may_33 : decode cX10_may 33 = .ok (.iload_n 2, 1) := by decide +kernel
theorem dX10_may_34 : decode cX10_may 34 = .ok (.goto 7, 3) := by decide +kernel
theorem dX10_may_37 : decode cX10_may 37 = .ok (.aload_n 0, 1) := by decide +kernel
theorem dX10_may_38 : decode cX10_may 38 = .ok (.getfield 112, 3) := by decide +kernel
theorem dX10_may_41 : decode cX10_may 41 = .ok (.putfield 112, 3) := by decide +kernel
theorem dX10_may_44 : decode cX10_may 44 = .ok (.aload_n 0, 1) := by decide +kernel
theorem dX10_may_45 : decode cX10_may 45 = .ok (.iload_n 1, 1) := by decide +kernel
theorem dX10_may_46 : decode cX10_may 46 = .ok (.iconst 1, 1) := by decide +kernel
theorem dX10_may_47 : decode cX10_may 47 = .ok (.if_icmp .ne 7, 3) := by decide +kernel
theorem dX10_may_50 : decode cX10_may 50 = .ok (.iload_n 2, 1) := by decide +kernel
theorem dX10_may_51 : decode cX10_may 51 = .ok (.goto 7, 3) := by decide +kernel
theorem dX10_may_54 : decode cX10_may 54 = .ok (.aload_n 0, 1) := by decide +kernel
theorem dX10_may_55 : decode cX10_may 55 = .ok (.getfield 116, 3) := by decide +kernel
theorem dX10_may_58 : decode cX10_may 58 = .ok (.putfield 116, 3) := by decide +kernel
theorem dX10_may_61 : decode cX10_may 61 = .ok (.iload_n 3, 1) := by decide +kernel
theorem dX10_may_62 : decode cX10_may 62 = .ok (.ifCond .eq 7, 3) := by decide +kernel
theorem dX10_may_65 : decode cX10_may 65 = .ok (.iconst 1, 1) := by decide +kernel
theorem dX10_may_66 : decode cX10_may 66 = .ok (.goto 4, 3) := by decide +kernel
theorem dX10_may_69 : decode cX10_may 69 = .ok (.iconst 0, 1) := by decide +kernel
theorem dX10_may_70 : decode cX10_may 70 = .ok (.ireturn, 1) := by decide +kernel
theorem dX10_lay_0 : decode cX10_lay 0 = .ok (.iconst 0, 1) := by decide +kernel
theorem dX10_lay_1 : decode cX10_lay 1 = .ok (.istore 6, 2) := by decide +kernel
theorem dX10_lay_3 : decode cX10_lay 3 = .ok (.iconst 0, 1) := by decide +kernel
theorem dX10_lay_4 : decode cX10_lay 4 = .ok (.istore 7, 2) := by decide +kernel
theorem dX10_lay_6 : decode cX10_lay 6 = .ok (.iload 7, 2) := by decide +kernel
theorem dX10_lay_8 : decode cX10_lay 8 = .ok (.bipush 25, 2) := by decide +kernel
theorem dX10_lay_10 : decode cX10_lay 10 = .ok (.if_icmp .ge 157, 3) := by decide +kernel
theorem dX10_lay_13 : decode cX10_lay 13 = .ok (.iload_n 1, 1) := by decide +kernel
theorem dX10_lay_14 : decode cX10_lay 14 = .ok (.iload 7, 2) := by decide +kernel
theorem dX10_lay_16 : decode cX10_lay 16 = .ok (.ishr, 1) := by decide +kernel
theorem dX10_lay_17 : decode cX10_lay 17 = .ok (.iconst 1, 1) := by decide +kernel
theorem dX10_lay_18 : decode cX10_lay 18 = .ok (.iand, 1) := by decide +kernel
theorem dX10_lay_19 : decode cX10_lay 19 = .ok (.iconst 1, 1) := by decide +kernel
theorem dX10_lay_20 : decode cX10_lay 20 = .ok (.if_icmp .ne 141, 3) := by decide +kernel
theorem dX10_lay_23 : decode cX10_lay 23 = .ok (.iload_n 3, 1) := by decide +kernel
theorem dX10_lay_24 : decode cX10_lay 24 = .ok (.ifCond .eq 12, 3) := by decide +kernel
theorem dX10_lay_27 : decode cX10_lay 27 = .ok (.iconst 4, 1) := by decide +kernel
theorem dX10_lay_28 : decode cX10_lay 28 = .ok (.iload 7, 2) := by decide +kernel
theorem dX10_lay_30 : decode cX10_lay 30 = .ok (.iconst 5, 1) := by decide +kernel
theorem dX10_lay_31 : decode cX10_lay 31 = .ok (.irem, 1) := by decide +kernel
theorem dX10_lay_32 : decode cX10_lay 32 = .ok (.isub, 1) := by decide +kernel
theorem dX10_lay_33 : decode cX10_lay 33 = .ok (.goto 7, 3) := by decide +kernel
theorem dX10_lay_36 : decode cX10_lay 36 = .ok (.iload 7, 2) := by decide +kernel
theorem dX10_lay_38 : decode cX10_lay 38 = .ok (.iconst 5, 1) := by decide +kernel
theorem dX10_lay_39 : decode cX10_lay 39 = .ok (.irem, 1) := by decide +kernel
theorem dX10_lay_40 : decode cX10_lay 40 = .ok (.istore 8, 2) := by decide +kernel
theorem dX10_lay_42 : decode cX10_lay 42 = .ok (.iload 7, 2) := by decide +kernel
theorem dX10_lay_44 : decode cX10_lay 44 = .ok (.iconst 5, 1) := by decide +kernel
theorem dX10_lay_45 : decode cX10_lay 45 = .ok (.idiv, 1) := by decide +kernel
theorem dX10_lay_46 : decode cX10_lay 46 = .ok (.istore 9, 2) := by decide +kernel
theorem dX10_lay_48 : decode cX10_lay 48 = .ok (.iconst 0, 1) := by decide +kernel
theorem dX10_lay_49 : decode cX10_lay 49 = .ok (.istore 10, 2) := by decide +kernel
theorem dX10_lay_51 : decode cX10_lay 51 = .ok (.iload 10, 2) := by decide +kernel
theorem dX10_lay_53 : decode cX10_lay 53 = .ok (.iload_n 2, 1) := by decide +kernel
theorem dX10_lay_54 : decode cX10_lay 54 = .ok (.if_icmp .ge 23, 3) := by decide +kernel
theorem dX10_lay_57 : decode cX10_lay 57 = .ok (.iload 8, 2) := by decide +kernel
theorem dX10_lay_59 : decode cX10_lay 59 = .ok (.istore 11, 2) := by decide +kernel
theorem dX10_lay_61 : decode cX10_lay 61 = .ok (.iconst 4, 1) := by decide +kernel
theorem dX10_lay_62 : decode cX10_lay 62 = .ok (.iload 9, 2) := by decide +kernel
theorem dX10_lay_64 : decode cX10_lay 64 = .ok (.isub, 1) := by decide +kernel
theorem dX10_lay_65 : decode cX10_lay 65 = .ok (.istore 8, 2) := by decide +kernel
theorem dX10_lay_67 : decode cX10_lay 67 = .ok (.iload 11, 2) := by decide +kernel
theorem dX10_lay_69 : decode cX10_lay 69 = .ok (.istore 9, 2) := by decide +kernel
theorem dX10_lay_71 : decode cX10_lay 71 = .ok (.iinc 10 1, 3) := by decide +kernel
theorem dX10_lay_74 : decode cX10_lay 74 = .ok (.goto (-23), 3) := by decide +kernel
theorem dX10_lay_77 : decode cX10_lay 77 = .ok (.iload 8, 2) := by decide +kernel
theorem dX10_lay_79 : decode cX10_lay 79 = .ok (.iload 4, 2) := by decide +kernel
theorem dX10_lay_81 : decode cX10_lay 81 = .ok (.iadd, 1) := by decide +kernel
theorem dX10_lay_82 : decode cX10_lay 82 = .ok (.istore 8, 2) := by decide +kernel
theorem dX10_lay_84 : decode cX10_lay 84 = .ok (.iload 9, 2) := by decide +kernel
theorem dX10_lay_86 : decode cX10_lay 86 = .ok (.iload 5, 2) := by decide +kernel
theorem dX10_lay_88 : decode cX10_lay 88 = .ok (.iadd, 1) := by decide +kernel
theorem dX10_lay_89 : decode cX10_lay 89 = .ok (.istore 9, 2) := by decide +kernel
theorem dX10_lay_91 : decode cX10_lay 91 = .ok (.iload 8, 2) := by decide +kernel
theorem dX10_lay_93 : decode cX10_lay 93 = .ok (.iconst 0, 1) := by decide +kernel
theorem dX10_lay_94 : decode cX10_lay 94 = .ok (.aload_n 0, 1) := by decide +kernel
theorem dX10_lay_95 : decode cX10_lay 95 = .ok (.getfield 105, 3) := by decide +kernel
theorem dX10_lay_98 : decode cX10_lay 98 = .ok (.iconst 1, 1) := by decide +kernel
theorem dX10_lay_99 : decode cX10_lay 99 = .ok (.isub, 1) := by decide +kernel
theorem dX10_lay_100 : decode cX10_lay 100 = .ok (.invokestatic 128, 3) := by decide +kernel
theorem dX10_lay_103 : decode cX10_lay 103 = .ok (.ifCond .eq 39, 3) := by decide +kernel
theorem dX10_lay_106 : decode cX10_lay 106 = .ok (.iload 9, 2) := by decide +kernel
theorem dX10_lay_108 : decode cX10_lay 108 = .ok (.iconst 0, 1) := by decide +kernel
theorem dX10_lay_109 : decode cX10_lay 109 = .ok (.aload_n 0, 1) := by decide +kernel
theorem dX10_lay_110 : decode cX10_lay 110 = .ok (.getfield 109, 3) := by decide +kernel
theorem dX10_lay_113 : decode cX10_lay 113 = .ok (.iconst 1, 1) := by decide +kernel
theorem dX10_lay_114 : decode cX10_lay 114 = .ok (.isub, 1) := by decide +kernel
theorem dX10_lay_115 : decode cX10_lay 115 = .ok (.invokestatic 128, 3) := by decide +kernel
theorem dX10_lay_118 : decode cX10_lay 118 = .ok (.ifCond .eq 24, 3) := by decide +kernel
theorem dX10_lay_121 : decode cX10_lay 121 = .ok (.aload_n 0, 1) := by decide +kernel
theorem dX10_lay_122 : decode cX10_lay 122 = .ok (.getfield 176, 3) := by decide +kernel
theorem dX10_lay_125 : decode cX10_lay 125 = .ok (.iload 9, 2) := by decide +kernel
theorem dX10_lay_127 : decode cX10_lay 127 = .ok (.aload_n 0, 1) := by decide +kernel
theorem dX10_lay_128 : decode cX10_lay 128 = .ok (.getfield 105, 3) := by decide +kernel
theorem dX10_lay_131 : decode cX10_lay 131 = .ok (.imul, 1) := by decide +kernel
theorem dX10_lay_132 : decode cX10_lay 132 = .ok (.iload 8, 2) := by decide +kernel
theorem dX10_lay_134 : decode cX10_lay 134 = .ok (.iadd, 1) := by decide +kernel
theorem dX10_lay_135 : decode cX10_lay 135 = .ok (.ishr, 1) := by decide +kernel
theorem dX10_lay_136 : decode cX10_lay 136 = .ok (.iconst 1, 1) := by decide +kernel
theorem dX10_lay_137 : decode cX10_lay 137 = .ok (.iand, 1) := by decide +kernel
theorem dX10_lay_138 : decode cX10_lay 138 = .ok (.iconst 1, 1) := by decide +kernel
theorem dX10_lay_139 : decode cX10_lay 139 = .ok (.if_icmp .ne 5, 3) := by decide +kernel
theorem dX10_lay_142 : decode cX10_lay 142 = .ok (.iconst (-1), 1) := by decide +kernel
theorem dX10_lay_143 : decode cX10_lay 143 = .ok (.ireturn, 1) := by decide +kernel
theorem dX10_lay_144 : decode cX10_lay 144 = .ok (.iload 6, 2) := by decide +kernel
theorem dX10_lay_146 : decode cX10_lay 146 = .ok (.iconst 1, 1) := by decide +kernel
theorem dX10_lay_147 : decode cX10_lay 147 = .ok (.iload 9, 2) := by decide +kernel
theorem dX10_lay_149 : decode cX10_lay 149 = .ok (.aload_n 0, 1) := by decide +kernel
theorem dX10_lay_150 : decode cX10_lay 150 = .ok (.getfield 105, 3) := by decide +kernel
theorem dX10_lay_153 : decode cX10_lay 153 = .ok (.imul, 1) := by decide +kernel
theorem dX10_lay_154 : decode cX10_lay 154 = .ok (.iload 8, 2) := by decide +kernel
theorem dX10_lay_156 : decode cX10_lay 156 = .ok (.iadd, 1) := by decide +kernel
theorem dX10_lay_157 : decode cX10_lay 157 = .ok (.ishl, 1) := by decide +kernel
theorem dX10_lay_158 : decode cX10_lay 158 = .ok (.ior, 1) := by decide +kernel
theorem dX10_lay_159 : decode cX10_lay 159 = .ok (.istore 6, 2) := by decide +kernel
theorem dX10_lay_161 : decode cX10_lay 161 = .ok (.iinc 7 1, 3) := by decide +kernel
theorem dX10_lay_164 : decode cX10_lay 164 = .ok (.goto (-158), 3) := by decide +kernel
theorem dX10_lay_167 : decode cX10_lay 167 = .ok (.iload 6, 2) := by decide +kernel
theorem dX10_lay_169 : decode cX10_lay 169 = .ok (.ireturn, 1) := by decide +kernel
theorem dX10_placeAll_0 : decode cX10_placeAll 0 = .ok (.iconst 0, 1) := by decide +kernel
theorem dX10_placeAll_1 : decode cX10_placeAll 1 = .ok (.istore_n 1, 1) := by decide +kernel
theorem dX10_placeAll_2 : decode cX10_placeAll 2 = .ok (.iconst 0, 1) := by decide +kernel
theorem dX10_placeAll_3 : decode cX10_placeAll 3 = .ok (.istore_n 2, 1) := by decide +kernel
theorem dX10_placeAll_4 : decode cX10_placeAll 4 = .ok (.iload_n 2, 1) := by decide +kernel
theorem dX10_placeAll_5 : decode cX10_placeAll 5 = .ok (.aload_n 0, 1) := by decide +kernel
theorem dX10_placeAll_6 : decode cX10_placeAll 6 = .ok (.getfield 173, 3) := by decide +kernel
theorem dX10_placeAll_9 : decode cX10_placeAll 9 = .ok (.if_icmp .ge 136, 3) := by decide +kernel
theorem dX10_placeAll_12 : decode cX10_placeAll 12 = .ok (.aload_n 0, 1) := by decide +kernel
theorem dX10_placeAll_13 : decode cX10_placeAll 13 = .ok (.getfield 46, 3) := by decide +kernel
theorem dX10_placeAll_16 : decode cX10_placeAll 16 = .ok (.iload_n 2, 1) := by decide +kernel
theorem dX10_placeAll_17 : decode cX10_placeAll 17 = .ok (.iload_n 1, 1) := by decide +kernel
theorem dX10_placeAll_18 : decode cX10_placeAll 18 = .ok (.iastore, 1) := by decide +kernel
theorem dX10_placeAll_19 : decode cX10_placeAll 19 = .ok (.iconst 0, 1) := by decide +kernel
theorem dX10_placeAll_20 : decode cX10_placeAll 20 = .ok (.istore_n 3, 1) := by decide +kernel
theorem dX10_placeAll_21 : decode cX10_placeAll 21 = .ok (.iload_n 3, 1) := by decide +kernel
theorem dX10_placeAll_22 : decode cX10_placeAll 22 = .ok (.bipush 8, 2) := by decide +kernel
theorem dX10_placeAll_24 : decode cX10_placeAll 24 = .ok (.if_icmp .ge 115, 3) := by decide +kernel
theorem dX10_placeAll_27 : decode cX10_placeAll 27 = .ok (.aload_n 0, 1) := by decide +kernel
theorem dX10_placeAll_28 : decode cX10_placeAll 28 = .ok (.getfield 112, 3) := by decide +kernel
theorem dX10_placeAll_31 : decode cX10_placeAll 31 = .ok (.ifCond .ne 9, 3) := by decide +kernel
theorem dX10_placeAll_34 : decode cX10_placeAll 34 = .ok (.iload_n 3, 1) := by decide +kernel
theorem dX10_placeAll_35 : decode cX10_placeAll 35 = .ok (.iconst 4, 1) := by decide +kernel
theorem dX10_placeAll_36 : decode cX10_placeAll 36 = .ok (.irem, 1) := by decide +kernel
theorem dX10_placeAll_37 : decode cX10_placeAll 37 = .ok (.ifCond .ne 96, 3) := by decide +kernel
theorem dX10_placeAll_40 : decode cX10_placeAll 40 = .ok (.aload_n 0, 1) := by decide +kernel
theorem dX10_placeAll_41 : decode cX10_placeAll 41 = .ok (.getfield 116, 3) := by decide +kernel
theorem dX10_placeAll_44 : decode cX10_placeAll 44 = .ok (.ifCond .ne 8, 3) := by decide +kernel
theorem dX10_placeAll_47 : decode cX10_placeAll 47 = .ok (.iload_n 3, 1) := by decide +kernel
theorem dX10_placeAll_48 : decode cX10_placeAll 48 = .ok (.iconst 4, 1) := by decide +kernel
theorem dX10_placeAll_49 : decode cX10_placeAll 49 = .ok (.if_icmp .ge 84, 3) := by decide +kernel
theorem dX10_placeAll_52 : decode cX10_placeAll 52 = .ok (.bipush (-4), 2) := by decide +kernel
theorem dX10_placeAll_54 : decode cX10_placeAll 54 = .ok (.istore 4, 2) := by decide +kernel
theorem dX10_placeAll_56 : decode cX10_placeAll 56 = .ok (.iload 4, 2) := by decide +kernel
theorem dX10_placeAll_58 : decode cX10_placeAll 58 = .ok (.iconst 4, 1) := by decide +kernel
theorem dX10_placeAll_59 : decode cX10_placeAll 59 = .ok (.if_icmp .gt 74, 3) := by decide +kernel
theorem dX10_placeAll_62 : decode cX10_placeAll 62 = .ok (.bipush (-4), 2) := by decide +kernel
theorem dX10_placeAll_64 : decode cX10_placeAll 64 = .ok (.istore 5, 2) := by decide +kernel
theorem dX10_placeAll_66 : decode cX10_placeAll 66 = .ok (.iload 5, 2) := by decide +kernel
theorem dX10_placeAll_68 : decode cX10_placeAll 68 = .ok (.iconst 4, 1) := by decide +kernel
theorem dX10_placeAll_69 : decode cX10_placeAll 69 = .ok (.if_icmp .gt 58, 3) := by decide +kernel
theorem dX10_placeAll_72 : decode cX10_placeAll 72 = .ok (.aload_n 0, 1) := by decide +kernel
theorem dX10_placeAll_73 : decode cX10_placeAll 73 = .ok (.aload_n 0, 1) := by decide +kernel
theorem dX10_placeAll_74 : decode cX10_placeAll 74 = .ok (.getfield 40, 3) := by decide +kernel
theorem dX10_placeAll_77 : decode cX10_placeAll 77 = .ok (.iload_n 2, 1) := by decide +kernel
theorem dX10_placeAll_78 : decode cX10_placeAll 78 = .ok (.iaload, 1) := by decide +kernel
theorem dX10_placeAll_79 : decode cX10_placeAll 79 = .ok (.iload_n 3, 1) := by decide +kernel
theorem dX10_placeAll_80 : decode cX10_placeAll 80 = .ok (.iconst 4, 1) := by decide +kernel
theorem dX10_placeAll_81 : decode cX10_placeAll 81 = .ok (.irem, 1) := by decide +kernel
theorem dX10_placeAll_82 : decode cX10_placeAll 82 = .ok (.iload_n 3, 1) := by decide +kernel
theorem dX10_placeAll_83 : decode cX10_placeAll 83 = .ok (.iconst 3, 1) := by decide +kernel
theorem dX10_placeAll_84 : decode cX10_placeAll 84 = .ok (.if_icmp .le 7, 3) := by decide +kernel
theorem dX10_placeAll_87 : decode cX10_placeAll 87 = .ok (.iconst 1, 1) := by decide +kernel
theorem dX10_placeAll_88 : decode cX10_placeAll 88 = .ok (.goto 4, 3) := by decide +kernel
theorem dX10_placeAll_91 : decode cX10_placeAll 91 = .ok (.iconst 0, 1) := by decide +kernel
theorem dX10_placeAll_92 : decode cX10_placeAll 92 = .ok (.iload 4, 2) := by decide +kernel
theorem dX10_placeAll_94 : decode cX10_placeAll 94 = .ok (.iload 5, 2) := by decide +kernel
theorem dX10_placeAll_96 : decode cX10_placeAll 96 = .ok (.invokevirtual 179, 3) := by decide +kernel
theorem dX10_placeAll_99 : decode cX10_placeAll 99 = .ok (.istore 6, 2) := by decide +kernel
theorem dX10_placeAll_101 : decode cX10_placeAll 101 = .ok (.iload 6, 2) := by decide +kernel
theorem dX10_placeAll_103 : decode cX10_placeAll 103 = .ok (.iconst (-1), 1) := by decide +kernel
theorem dX10_placeAll_104 : decode cX10_placeAll 104 = .ok (.if_icmp .eq 17, 3) := by decide +kernel
theorem dX10_placeAll_107 : decode cX10_placeAll 107 = .ok (.aload_n 0, 1) := by decide +kernel
theorem dX10_placeAll_108 : decode cX10_placeAll 108 = .ok (.aload_n 0, 1) := by decide +kernel
theorem dX10_placeAll_109 : decode cX10_placeAll 109 = .ok (.getfield 46, 3) := by decide +kernel
theorem dX10_placeAll_112 : decode cX10_placeAll 112 = .ok (.iload_n 2, 1) := by decide +kernel
theorem dX10_placeAll_113 : decode cX10_placeAll 113 = .ok (.iaload, 1) := by decide +kernel
theorem dX10_placeAll_114 : decode cX10_placeAll 114 = .ok (.iload_n 1, 1) := by decide +kernel
theorem dX10_placeAll_115 : decode cX10_placeAll 115 = .ok (.iload 6, 2) := by decide +kernel
theorem dX10_placeAll_117 : decode cX10_placeAll 117 = .ok (.invokevirtual 183, 3) := by decide +kernel
theorem dX10_placeAll_120 : decode cX10_placeAll 120 = .ok (.istore_n 1, 1) := by decide +kernel
theorem dX10_placeAll_121 : decode cX10_placeAll 121 = .ok (.iinc 5 1, 3) := by decide +kernel
theorem dX10_placeAll_124 : decode cX10_placeAll 124 = .ok (.goto (-58), 3) := by decide +kernel
theorem dX10_placeAll_127 : decode cX10_placeAll 127 = .ok (.iinc 4 1, 3) := by decide +kernel
theorem dX10_placeAll_130 : decode cX10_placeAll 130 = .ok (.goto (-74), 3) := by decide +kernel
theorem dX10_placeAll_133 : decode cX10_placeAll 133 = .ok (.iinc 3 1, 3) := by decide +kernel
theorem dX10_placeAll_136 : decode cX10_placeAll 136 = .ok (.goto (-115), 3) := by decide +kernel
theorem dX10_placeAll_139 : decode cX10_placeAll 139 = .ok (.iinc 2 1, 3) := by decide +kernel
theorem dX10_placeAll_142 : decode cX10_placeAll 142 = .ok (.goto (-138), 3) := by decide +kernel
theorem dX10_placeAll_145 : decode cX10_placeAll 145 = .ok (.aload_n 0, 1) := by decide +kernel
theorem dX10_placeAll_146 : decode cX10_placeAll 146 = .ok (.getfield 46, 3) := by decide +kernel
theorem dX10_placeAll_149 : decode cX10_placeAll 149 = .ok (.aload_n 0, 1) := by decide +kernel
theorem dX10_placeAll_150 : decode cX10_placeAll 150 = .ok (.getfield 173, 3) := by decide +kernel
theorem dX10_placeAll_153 : decode cX10_placeAll 153 = .ok (.iload_n 1, 1) := by decide +kernel
theorem dX10_placeAll_154 : decode cX10_placeAll 154 = .ok (.iastore, 1) := by decide +kernel
theorem dX10_placeAll_155 : decode cX10_placeAll 155 = .ok (.aload_n 0, 1) := by decide +kernel
theorem dX10_placeAll_156 : decode cX10_placeAll 156 = .ok (.invokevirtual 186, 3) := by decide +kernel
theorem dX10_placeAll_159 : decode cX10_placeAll 159 = .ok (.return_, 1) := by decide +kernel
theorem dX10_sortLow_0 : decode cX10_sortLow 0 = .ok (.iconst 0, 1) := by decide +kernel
theorem dX10_sortLow_1 : decode cX10_sortLow 1 = .ok (.istore_n 1, 1) := by decide +kernel
theorem dX10_sortLow_2 : decode cX10_sortLow 2 = .ok (.iconst 0, 1) := by decide +kernel
theorem dX10_sortLow_3 : decode cX10_sortLow 3 = .ok (.istore_n 2, 1) := by decide +kernel
theorem dX10_sortLow_4 : decode cX10_sortLow 4 = .ok (.iload_n 2, 1) := by decide +kernel
theorem dX10_sortLow_5 : decode cX10_sortLow 5 = .ok (.bipush 21, 2) := by decide +kernel
theorem dX10_sortLow_7 : decode cX10_sortLow 7 = .ok (.if_icmp .ge 110, 3) := by decide +kernel
theorem dX10_sortLow_10 : decode cX10_sortLow 10 = .ok (.aload_n 0, 1) := by decide +kernel
theorem dX10_sortLow_11 : decode cX10_sortLow 11 = .ok (.getfield 55, 3) := by decide +kernel
theorem dX10_sortLow_14 : decode cX10_sortLow 14 = .ok (.iload_n 2, 1) := by decide +kernel
theorem dX10_sortLow_15 : decode cX10_sortLow 15 = .ok (.iload_n 1, 1) := by decide +kernel
theorem dX10_sortLow_16 : decode cX10_sortLow 16 = .ok (.iastore, 1) := by decide +kernel
theorem dX10_sortLow_17 : decode cX10_sortLow 17 = .ok (.iconst 0, 1) := by decide +kernel
theorem dX10_sortLow_18 : decode cX10_sortLow 18 = .ok (.istore_n 3, 1) := by decide +kernel
theorem dX10_sortLow_19 : decode cX10_sortLow 19 = .ok (.iload_n 3, 1) := by decide +kernel
theorem dX10_sortLow_20 : decode cX10_sortLow 20 = .ok (.aload_n 0, 1) := by decide +kernel
theorem dX10_sortLow_21 : decode cX10_sortLow 21 = .ok (.getfield 173, 3) := by decide +kernel
theorem dX10_sortLow_24 : decode cX10_sortLow 24 = .ok (.if_icmp .ge 87, 3) := by decide +kernel
theorem dX10_sortLow_27 : decode cX10_sortLow 27 = .ok (.aload_n 0, 1) := by decide +kernel
theorem dX10_sortLow_28 : decode cX10_sortLow 28 = .ok (.getfield 46, 3) := by decide +kernel
theorem dX10_sortLow_31 : decode cX10_sortLow 31 = .ok (.iload_n 3, 1) := by decide +kernel
theorem dX10_sortLow_32 : decode cX10_sortLow 32 = .ok (.iaload, 1) := by decide +kernel
theorem dX10_sortLow_33 : decode cX10_sortLow 33 = .ok (.istore 4, 2) := by decide +kernel
theorem dX10_sortLow_35 : decode cX10_sortLow 35 = .ok (.iload 4, 2) := by decide +kernel
theorem dX10_sortLow_37 : decode cX10_sortLow 37 = .ok (.aload_n 0, 1) := by decide +kernel
theorem dX10_sortLow_38 : decode cX10_sortLow 38 = .ok (.getfield 46, 3) := by decide +kernel
theorem dX10_sortLow_41 : decode cX10_sortLow 41 = .ok (.iload_n 3, 1) := by decide +kernel
theorem dX10_sortLow_42 : decode cX10_sortLow 42 = .ok (.iconst 1, 1) := by decide +kernel
theorem dX10_sortLow_43 : decode cX10_sortLow 43 = .ok (.iadd, 1) := by decide +kernel
theorem dX10_sortLow_44 : decode cX10_sortLow 44 = .ok (.iaload, 1) := by decide +kernel
theorem dX10_sortLow_45 : decode cX10_sortLow 45 = .ok (.if_icmp .ge 60, 3) := by decide +kernel
theorem dX10_sortLow_48 : decode cX10_sortLow 48 = .ok (.iload_n 2, 1) := by decide +kernel
theorem dX10_sortLow_49 : decode cX10_sortLow 49 = .ok (.bipush 20, 2) := by decide +kernel
theorem dX10_sortLow_51 : decode cX10_sortLow 51 = .ok (.if_icmp .ge 48, 3) := by decide +kernel
theorem dX10_sortLow_54 : decode cX10_sortLow 54 = .ok (.aload_n 0, 1) := by decide +kernel
theorem dX10_sortLow_55 : decode cX10_sortLow 55 = .ok (.getfield 43, 3) := by decide +kernel
theorem dX10_sortLow_58 : decode cX10_sortLow 58 = .ok (.iload 4, 2) := by decide +kernel
theorem dX10_sortLow_60 : decode cX10_sortLow 60 = .ok (.iaload, 1) := by decide +kernel
theorem dX10_sortLow_61 : decode cX10_sortLow 61 = .ok (.aload_n 0, 1) := by decide +kernel
theorem dX10_sortLow_62 : decode cX10_sortLow 62 = .ok (.getfield 43, 3) := by decide +kernel
theorem dX10_sortLow_65 : decode cX10_sortLow 65 = .ok (.iload 4, 2) := by decide +kernel
theorem dX10_sortLow_67 : decode cX10_sortLow 67 = .ok (.iaload, 1) := by decide +kernel
theorem dX10_sortLow_68 : decode cX10_sortLow 68 = .ok (.ineg, 1) := by decide +kernel
theorem dX10_sortLow_69 : decode cX10_sortLow 69 = .ok (.iand, 1) := by decide +kernel
theorem dX10_sortLow_70 : decode cX10_sortLow 70 = .ok (.iconst 1, 1) := by decide +kernel
theorem dX10_sortLow_71 : decode cX10_sortLow 71 = .ok (.iload_n 2, 1) := by decide +kernel
theorem dX10_sortLow_72 : decode cX10_sortLow 72 = .ok (.ishl, 1) := by decide +kernel
theorem dX10_sortLow_73 : decode cX10_sortLow 73 = .ok (.if_icmp .ne 26, 3) := by decide +kernel
theorem dX10_sortLow_76 : decode cX10_sortLow 76 = .ok (.aload_n 0, 1) := by decide +kernel
theorem dX10_sortLow_77 : decode cX10_sortLow 77 = .ok (.getfield 49, 3) := by decide +kernel
theorem dX10_sortLow_80 : decode cX10_sortLow 80 = .ok (.iload_n 1, 1) := by decide +kernel
theorem dX10_sortLow_81 : decode cX10_sortLow 81 = .ok (.aload_n 0, 1) := by decide +kernel
theorem dX10_sortLow_82 : decode cX10_sortLow 82 = .ok (.getfield 43, 3) := by decide +kernel
theorem dX10_sortLow_85 : decode cX10_sortLow 85 = .ok (.iload 4, 2) := by decide +kernel
theorem dX10_sortLow_87 : decode cX10_sortLow 87 = .ok (.iaload, 1) := by decide +kernel
theorem dX10_sortLow_88 : decode cX10_sortLow 88 = .ok (.iastore, 1) := by decide +kernel
theorem dX10_sortLow_89 : decode cX10_sortLow 89 = .ok (.aload_n 0, 1) := by decide +kernel
theorem dX10_sortLow_90 : decode cX10_sortLow 90 = .ok (.getfield 52, 3) := by decide +kernel
theorem dX10_sortLow_93 : decode cX10_sortLow 93 = .ok (.iload_n 1, 1) := by decide +kernel
theorem dX10_sortLow_94 : decode cX10_sortLow 94 = .ok (.iload_n 3, 1) := by decide +kernel
theorem dX10_sortLow_95 : decode cX10_sortLow 95 = .ok (.iastore, 1) := by decide +kernel
theorem dX10_sortLow_96 : decode cX10_sortLow 96 = .ok (.iinc 1 1, 3) := by decide +kernel
theorem dX10_sortLow_99 : decode cX10_sortLow 99 = .ok (.iinc 4 1, 3) := by decide +kernel
theorem dX10_sortLow_102 : decode cX10_sortLow 102 = .ok (.goto (-67), 3) := by decide +kernel
theorem dX10_sortLow_105 : decode cX10_sortLow 105 = .ok (.iinc 3 1, 3) := by decide +kernel
theorem dX10_sortLow_108 : decode cX10_sortLow 108 = .ok (.goto (-89), 3) := by decide +kernel
theorem dX10_sortLow_111 : decode cX10_sortLow 111 = .ok (.iinc 2 1, 3) := by decide +kernel
theorem dX10_sortLow_114 : decode cX10_sortLow 114 = .ok (.goto (-110), 3) := by decide +kernel
theorem dX10_sortLow_117 : decode cX10_sortLow 117 = .ok (.aload_n 0, 1) := by decide +kernel
theorem dX10_sortLow_118 : decode cX10_sortLow 118 = .ok (.getfield 55, 3) := by decide +kernel
theorem dX10_sortLow_121 : decode cX10_sortLow 121 = .ok (.bipush 21, 2) := by decide +kernel
theorem dX10_sortLow_123 : decode cX10_sortLow 123 = .ok (.iload_n 1, 1) := by decide +kernel
theorem dX10_sortLow_124 : decode cX10_sortLow 124 = .ok (.iastore, 1) := by decide +kernel
theorem dX10_sortLow_125 : decode cX10_sortLow 125 = .ok (.return_, 1) := by decide +kernel
theorem dX10_insert_0 : decode cX10_insert 0 = .ok (.iload_n 2, 1) := by decide +kernel
theorem dX10_insert_1 : decode cX10_insert 1 = .ok (.istore 4, 2) := by decide +kernel
theorem dX10_insert_3 : decode cX10_insert 3 = .ok (.iload 4, 2) := by decide +kernel
theorem dX10_insert_5 : decode cX10_insert 5 = .ok (.iload_n 1, 1) := by decide +kernel
theorem dX10_insert_6 : decode cX10_insert 6 = .ok (.if_icmp .le 22, 3) := by decide +kernel
theorem dX10_insert_9 : decode cX10_insert 9 = .ok (.aload_n 0, 1) := by decide +kernel
theorem dX10_insert_10 : decode cX10_insert 10 = .ok (.getfield 43, 3) := by decide +kernel
theorem dX10_insert_13 : decode cX10_insert 13 = .ok (.iload 4, 2) := by decide +kernel
theorem dX10_insert_15 : decode cX10_insert 15 = .ok (.iconst 1, 1) := by decide +kernel
theorem dX10_insert_16 : decode cX10_insert 16 = .ok (.isub, 1) := by decide +kernel
theorem dX10_insert_17 : decode cX10_insert 17 = .ok (.iaload, 1) := by decide +kernel
theorem dX10_insert_18 : decode cX10_insert 18 = .ok (.iload_n 3, 1) := by decide +kernel
theorem dX10_insert_19 : decode cX10_insert 19 = .ok (.if_icmp .le 9, 3) := by decide +kernel
theorem dX10_insert_22 : decode cX10_insert 22 = .ok (.iinc 4 (-1), 3) := by decide +kernel
theorem dX10_insert_25 : decode cX10_insert 25 = .ok (.goto (-22), 3) := by decide +kernel
theorem dX10_insert_28 : decode cX10_insert 28 = .ok (.iload 4, 2) := by decide +kernel
theorem dX10_insert_30 : decode cX10_insert 30 = .ok (.iload_n 1, 1) := by decide +kernel
theorem dX10_insert_31 : decode cX10_insert 31 = .ok (.if_icmp .le 18, 3) := by decide +kernel
theorem dX10_insert_34 : decode cX10_insert 34 = .ok (.aload_n 0, 1) := by decide +kernel
theorem dX10_insert_35 : decode cX10_insert 35 = .ok (.getfield 43, 3) := by decide +kernel
theorem dX10_insert_38 : decode cX10_insert 38 = .ok (.iload 4, 2) := by decide +kernel
theorem dX10_insert_40 : decode cX10_insert 40 = .ok (.iconst 1, 1) := by decide +kernel
theorem dX10_insert_41 : decode cX10_insert 41 = .ok (.isub, 1) := by decide +kernel
theorem dX10_insert_42 : decode cX10_insert 42 = .ok (.iaload, 1) := by decide +kernel
theorem dX10_insert_43 : decode cX10_insert 43 = .ok (.iload_n 3, 1) := by decide +kernel
theorem dX10_insert_44 : decode cX10_insert 44 = .ok (.if_icmp .ne 5, 3) := by decide +kernel
theorem dX10_insert_47 : decode cX10_insert 47 = .ok (.iload_n 2, 1) := by decide +kernel
theorem dX10_insert_48 : decode cX10_insert 48 = .ok (.ireturn, 1) := by decide +kernel
theorem dX10_insert_49 : decode cX10_insert 49 = .ok (.iload_n 2, 1) := by decide +kernel
theorem dX10_insert_50 : decode cX10_insert 50 = .ok (.istore 5, 2) := by decide +kernel
theorem dX10_insert_52 : decode cX10_insert 52 = .ok (.iload 5, 2) := by decide +kernel
theorem dX10_insert_54 : decode cX10_insert 54 = .ok (.iload 4, 2) := by decide +kernel
theorem dX10_insert_56 : decode cX10_insert 56 = .ok (.if_icmp .le 25, 3) := by decide +kernel
theorem dX10_insert_59 : decode cX10_insert 59 = .ok (.aload_n 0, 1) := by decide +kernel
theorem dX10_insert_60 : decode cX10_insert 60 = .ok (.getfield 43, 3) := by decide +kernel
theorem dX10_insert_63 : decode cX10_insert 63 = .ok (.iload 5, 2) := by decide +kernel
theorem dX10_insert_65 : decode cX10_insert 65 = .ok (.aload_n 0, 1) := by decide +kernel
theorem dX10_insert_66 : decode cX10_insert 66 = .ok (.getfield 43, 3) := by decide +kernel
theorem dX10_insert_69 : decode cX10_insert 69 = .ok (.iload 5, 2) := by decide +kernel
theorem dX10_insert_71 : decode cX10_insert 71 = .ok (.iconst 1, 1) := by decide +kernel
theorem dX10_insert_72 : decode cX10_insert 72 = .ok (.isub, 1) := by decide +kernel
theorem dX10_insert_73 : decode cX10_insert 73 = .ok (.iaload, 1) := by decide +kernel
theorem dX10_insert_74 : decode cX10_insert 74 = .ok (.iastore, 1) := by decide +kernel
theorem dX10_insert_75 : decode cX10_insert 75 = .ok (.iinc 5 (-1), 3) := by decide +kernel
theorem dX10_insert_78 : decode cX10_insert 78 = .ok (.goto (-26), 3) := by decide +kernel
theorem dX10_insert_81 : decode cX10_insert 81 = .ok (.aload_n 0, 1) := by decide +kernel
theorem dX10_insert_82 : decode cX10_insert 82 = .ok (.getfield 43, 3) := by decide +kernel
theorem dX10_insert_85 : decode cX10_insert 85 = .ok (.iload 4, 2) := by decide +kernel
theorem dX10_insert_87 : decode cX10_insert 87 = .ok (.iload_n 3, 1) := by decide +kernel
theorem dX10_insert_88 : decode cX10_insert 88 = .ok (.iastore, 1) := by decide +kernel
theorem dX10_insert_89 : decode cX10_insert 89 = .ok (.iload_n 2, 1) := by decide +kernel
theorem dX10_insert_90 : decode cX10_insert 90 = .ok (.iconst 1, 1) := by decide +kernel
theorem dX10_insert_91 : decode cX10_insert 91 = .ok (.iadd, 1) := by decide +kernel
theorem dX10_insert_92 : decode cX10_insert 92 = .ok (.ireturn, 1) := by decide +kernel
theorem dX10_placements_0 : decode cX10_placements 0 = .ok (.iload_n 1, 1) := by decide +kernel
theorem dX10_placements_1 : decode cX10_placements 1 = .ok (.iconst 0, 1) := by decide +kernel
theorem dX10_placements_2 : decode cX10_placements 2 = .ok (.aload_n 0, 1) := by decide +kernel
theorem dX10_placements_3 : decode cX10_placements 3 = .ok (.getfield 173, 3) := by decide +kernel
theorem dX10_placements_6 : decode cX10_placements 6 = .ok (.iconst 1, 1) := by decide +kernel
theorem dX10_placements_7 : decode cX10_placements 7 = .ok (.isub, 1) := by decide +kernel
theorem dX10_placements_8 : decode cX10_placements 8 = .ok (.invokestatic 128, 3) := by decide +kernel
theorem dX10_placements_11 : decode cX10_placements 11 = .ok (.ifCond .ne 6, 3) := by decide +kernel
theorem dX10_placements_14 : decode cX10_placements 14 = .ok (.bipush (-2), 2) := by decide +kernel
theorem dX10_placements_16 : decode cX10_placements 16 = .ok (.ireturn, 1) := by decide +kernel
theorem dX10_placements_17 : decode cX10_placements 17 = .ok (.aload_n 0, 1) := by decide +kernel
theorem dX10_placements_18 : decode cX10_placements 18 = .ok (.invokevirtual 189, 3) := by decide +kernel
theorem dX10_placements_21 : decode cX10_placements 21 = .ok (.aload_n 0, 1) := by decide +kernel
theorem dX10_placements_22 : decode cX10_placements 22 = .ok (.getfield 46, 3) := by decide +kernel
theorem dX10_placements_25 : decode cX10_placements 25 = .ok (.iload_n 1, 1) := by decide +kernel
theorem dX10_placements_26 : decode cX10_placements 26 = .ok (.iconst 1, 1) := by decide +kernel
theorem dX10_placements_27 : decode cX10_placements 27 = .ok (.iadd, 1) := by decide +kernel
theorem dX10_placements_28 : decode cX10_placements 28 = .ok (.iaload, 1) := by decide +kernel
theorem dX10_placements_29 : decode cX10_placements 29 = .ok (.aload_n 0, 1) := by decide +kernel
theorem dX10_placements_30 : decode cX10_placements 30 = .ok (.getfield 46, 3) := by decide +kernel
theorem dX10_placements_33 : decode cX10_placements 33 = .ok (.iload_n 1, 1) := by decide +kernel
theorem dX10_placements_34 : decode cX10_placements 34 = .ok (.iaload, 1) := by decide +kernel
theorem dX10_placements_35 : decode cX10_placements 35 = .ok (.isub, 1) := by decide +kernel
theorem dX10_placements_36 : decode cX10_placements 36 = .ok (.ireturn, 1) := by decide +kernel
theorem dX10_firstFree_0 : decode cX10_firstFree 0 = .ok (.iconst 0, 1) := by decide +kernel
theorem dX10_firstFree_1 : decode cX10_firstFree 1 = .ok (.istore_n 1, 1) := by decide +kernel
theorem dX10_firstFree_2 : decode cX10_firstFree 2 = .ok (.iload_n 0, 1) := by decide +kernel
theorem dX10_firstFree_3 : decode cX10_firstFree 3 = .ok (.iload_n 1, 1) := by decide +kernel
theorem dX10_firstFree_4 : decode cX10_firstFree 4 = .ok (.ishr, 1) := by decide +kernel
theorem dX10_firstFree_5 : decode cX10_firstFree 5 = .ok (.iconst 1, 1) := by decide +kernel
theorem dX10_firstFree_6 : decode cX10_firstFree 6 = .ok (.iand, 1) := by decide +kernel
theorem dX10_firstFree_7 : decode cX10_firstFree 7 = .ok (.iconst 1, 1) := by decide +kernel
theorem dX10_firstFree_8 : decode cX10_firstFree 8 = .ok (.if_icmp .ne 9, 3) := by decide +kernel
theorem dX10_firstFree_11 : decode cX10_firstFree 11 = .ok (.iinc 1 1, 3) := by decide +kernel
theorem dX10_firstFree_14 : decode cX10_firstFree 14 = .ok (.goto (-12), 3) := by decide +kernel
theorem dX10_firstFree_17 : decode cX10_firstFree 17 = .ok (.iload_n 1, 1) := by decide +kernel
theorem dX10_firstFree_18 : decode cX10_firstFree 18 = .ok (.ireturn, 1) := by decide +kernel
theorem dX10_tellLeft_0 : decode cX10_tellLeft 0 = .ok (.aload_n 0, 1) := by decide +kernel
theorem dX10_tellLeft_1 : decode cX10_tellLeft 1 = .ok (.invokevirtual 189, 3) := by decide +kernel
theorem dX10_tellLeft_4 : decode cX10_tellLeft 4 = .ok (.aload_n 0, 1) := by decide +kernel
theorem dX10_tellLeft_5 : decode cX10_tellLeft 5 = .ok (.invokevirtual 192, 3) := by decide +kernel
theorem dX10_tellLeft_8 : decode cX10_tellLeft 8 = .ok (.istore_n 1, 1) := by decide +kernel
theorem dX10_tellLeft_9 : decode cX10_tellLeft 9 = .ok (.aload_n 0, 1) := by decide +kernel
theorem dX10_tellLeft_10 : decode cX10_tellLeft 10 = .ok (.getfield 176, 3) := by decide +kernel
theorem dX10_tellLeft_13 : decode cX10_tellLeft 13 = .ok (.istore_n 2, 1) := by decide +kernel
theorem dX10_tellLeft_14 : decode cX10_tellLeft 14 = .ok (.iload_n 2, 1) := by decide +kernel
theorem dX10_tellLeft_15 : decode cX10_tellLeft 15 = .ok (.iload_n 1, 1) := by decide +kernel
theorem dX10_tellLeft_16 : decode cX10_tellLeft 16 = .ok (.if_icmp .gt 28, 3) := by decide +kernel
theorem dX10_tellLeft_19 : decode cX10_tellLeft 19 = .ok (.aload_n 0, 1) := by decide +kernel
theorem dX10_tellLeft_20 : decode cX10_tellLeft 20 = .ok (.getfield 66, 3) := by decide +kernel
theorem dX10_tellLeft_23 : decode cX10_tellLeft 23 = .ok (.iload_n 2, 1) := by decide +kernel
theorem dX10_tellLeft_24 : decode cX10_tellLeft 24 = .ok (.iload_n 2, 1) := by decide +kernel
theorem dX10_tellLeft_25 : decode cX10_tellLeft 25 = .ok (.aload_n 0, 1) := by decide +kernel
theorem dX10_tellLeft_26 : decode cX10_tellLeft 26 = .ok (.getfield 176, 3) := by decide +kernel
theorem dX10_tellLeft_29 : decode cX10_tellLeft 29 = .ok (.if_icmp .ne 7, 3) := by decide +kernel
theorem dX10_tellLeft_32 : decode cX10_tellLeft 32 = .ok (.iconst 1, 1) := by decide +kernel
theorem dX10_tellLeft_33 : decode cX10_tellLeft 33 = .ok (.goto 4, 3) := by decide +kernel
theorem dX10_tellLeft_36 : decode cX10_tellLeft 36 = .ok (.iconst 0, 1) := by decide +kernel
theorem dX10_tellLeft_37 : decode cX10_tellLeft 37 = .ok (.bastore, 1) := by decide +kernel
theorem dX10_tellLeft_38 : decode cX10_tellLeft 38 = .ok (.iinc 2 1, 3) := by decide +kernel
theorem dX10_tellLeft_41 : decode cX10_tellLeft 41 = .ok (.goto (-27), 3) := by decide +kernel
theorem dX10_tellLeft_44 : decode cX10_tellLeft 44 = .ok (.aload_n 0, 1) := by decide +kernel
theorem dX10_tellLeft_45 : decode cX10_tellLeft 45 = .ok (.getfield 176, 3) := by decide +kernel
theorem dX10_tellLeft_48 : decode cX10_tellLeft 48 = .ok (.istore_n 2, 1) := by decide +kernel
theorem dX10_tellLeft_49 : decode cX10_tellLeft 49 = .ok (.iload_n 2, 1) := by decide +kernel
theorem dX10_tellLeft_50 : decode cX10_tellLeft 50 = .ok (.iload_n 1, 1) := by decide +kernel
theorem dX10_tellLeft_51 : decode cX10_tellLeft 51 = .ok (.if_icmp .ge 77, 3) := by decide +kernel
theorem dX10_tellLeft_54 : decode cX10_tellLeft 54 = .ok (.aload_n 0, 1) := by decide +kernel
theorem dX10_tellLeft_55 : decode cX10_tellLeft 55 = .ok (.getfield 66, 3) := by decide +kernel
theorem dX10_tellLeft_58 : decode cX10_tellLeft 58 = .ok (.iload_n 2, 1) := by decide +kernel
theorem dX10_tellLeft_59 : decode cX10_tellLeft 59 = .ok (.baload, 1) := by decide +kernel
theorem dX10_tellLeft_60 : decode cX10_tellLeft 60 = .ok (.ifCond .eq 62, 3) := by decide +kernel
theorem dX10_tellLeft_63 : decode cX10_tellLeft 63 = .ok (.iload_n 2, 1) := by decide +kernel
theorem dX10_tellLeft_64 : decode cX10_tellLeft 64 = .ok (.invokestatic 196, 3) := by decide +kernel
theorem dX10_tellLeft_67 : decode cX10_tellLeft 67 = .ok (.istore_n 3, 1) := by decide +kernel
theorem dX10_tellLeft_68 : decode cX10_tellLeft 68 = .ok (.aload_n 0, 1) := by decide +kernel
theorem dX10_tellLeft_69 : decode cX10_tellLeft 69 = .ok (.getfield 55, 3) := by decide +kernel
theorem dX10_tellLeft_72 : decode cX10_tellLeft 72 = .ok (.iload_n 3, 1) := by decide +kernel
theorem dX10_tellLeft_73 : decode cX10_tellLeft 73 = .ok (.iaload, 1) := by decide +kernel
theorem dX10_tellLeft_74 : decode cX10_tellLeft 74 = .ok (.istore 4, 2) := by decide +kernel
theorem dX10_tellLeft_76 : decode cX10_tellLeft 76 = .ok (.iload 4, 2) := by decide +kernel
theorem dX10_tellLeft_78 : decode cX10_tellLeft 78 = .ok (.aload_n 0, 1) := by decide +kernel
theorem dX10_tellLeft_79 : decode cX10_tellLeft 79 = .ok (.getfield 55, 3) := by decide +kernel
theorem dX10_tellLeft_82 : decode cX10_tellLeft 82 = .ok (.iload_n 3, 1) := by decide +kernel
theorem dX10_tellLeft_83 : decode cX10_tellLeft 83 = .ok (.iconst 1, 1) := by decide +kernel
theorem dX10_tellLeft_84 : decode cX10_tellLeft 84 = .ok (.iadd, 1) := by decide +kernel
theorem dX10_tellLeft_85 : decode cX10_tellLeft 85 = .ok (.iaload, 1) := by decide +kernel
theorem dX10_tellLeft_86 : decode cX10_tellLeft 86 = .ok (.if_icmp .ge 36, 3) := by decide +kernel
theorem dX10_tellLeft_89 : decode cX10_tellLeft 89 = .ok (.aload_n 0, 1) := by decide +kernel
theorem dX10_tellLeft_90 : decode cX10_tellLeft 90 = .ok (.getfield 49, 3) := by decide +kernel
theorem dX10_tellLeft_93 : decode cX10_tellLeft 93 = .ok (.iload 4, 2) := by decide +kernel
theorem dX10_tellLeft_95 : decode cX10_tellLeft 95 = .ok (.iaload, 1) := by decide +kernel
theorem dX10_tellLeft_96 : decode cX10_tellLeft 96 = .ok (.iload_n 2, 1) := by decide +kernel
theorem dX10_tellLeft_97 : decode cX10_tellLeft 97 = .ok (.iand, 1) := by decide +kernel
theorem dX10_tellLeft_98 : decode cX10_tellLeft 98 = .ok (.ifCond .ne 18, 3) := by decide +kernel
theorem dX10_tellLeft_101 : decode cX10_tellLeft 101 = .ok (.aload_n 0, 1) := by decide +kernel
theorem dX10_tellLeft_102 : decode cX10_tellLeft 102 = .ok (.getfield 66, 3) := by decide +kernel
theorem dX10_tellLeft_105 : decode cX10_tellLeft 105 = .ok (.iload_n 2, 1) := by decide +kernel
theorem dX10_tellLeft_106 : decode cX10_tellLeft 106 = .ok (.aload_n 0, 1) := by decide +kernel
theorem dX10_tellLeft_107 : decode cX10_tellLeft 107 = .ok (.getfield 49, 3) := by decide +kernel
theorem dX10_tellLeft_110 : decode cX10_tellLeft 110 = .ok (.iload 4, 2) := by decide +kernel
theorem dX10_tellLeft_112 : decode cX10_tellLeft 112 = .ok (.iaload, 1) := by decide +kernel
theorem dX10_tellLeft_113 : decode cX10_tellLeft 113 = .ok (.ior, 1) := by decide +kernel
theorem dX10_tellLeft_114 : decode cX10_tellLeft 114 = .ok (.iconst 1, 1) := by decide +kernel
theorem dX10_tellLeft_115 : decode cX10_tellLeft 115 = .ok (.bastore, 1) := by decide +kernel
theorem dX10_tellLeft_116 : decode cX10_tellLeft 116 = .ok (.iinc 4 1, 3) := by decide +kernel
theorem dX10_tellLeft_119 : decode cX10_tellLeft 119 = .ok (.goto (-43), 3) := by decide +kernel
theorem dX10_tellLeft_122 : decode cX10_tellLeft 122 = .ok (.iinc 2 1, 3) := by decide +kernel
theorem dX10_tellLeft_125 : decode cX10_tellLeft 125 = .ok (.goto (-76), 3) := by decide +kernel
theorem dX10_tellLeft_128 : decode cX10_tellLeft 128 = .ok (.iload_n 1, 1) := by decide +kernel
theorem dX10_tellLeft_129 : decode cX10_tellLeft 129 = .ok (.istore_n 2, 1) := by decide +kernel
theorem dX10_tellLeft_130 : decode cX10_tellLeft 130 = .ok (.iload_n 2, 1) := by decide +kernel
theorem dX10_tellLeft_131 : decode cX10_tellLeft 131 = .ok (.aload_n 0, 1) := by decide +kernel
theorem dX10_tellLeft_132 : decode cX10_tellLeft 132 = .ok (.getfield 176, 3) := by decide +kernel
theorem dX10_tellLeft_135 : decode cX10_tellLeft 135 = .ok (.if_icmp .lt 171, 3) := by decide +kernel
theorem dX10_tellLeft_138 : decode cX10_tellLeft 138 = .ok (.aload_n 0, 1) := by decide +kernel
theorem dX10_tellLeft_139 : decode cX10_tellLeft 139 = .ok (.getfield 59, 3) := by decide +kernel
theorem dX10_tellLeft_142 : decode cX10_tellLeft 142 = .ok (.iload_n 2, 1) := by decide +kernel
theorem dX10_tellLeft_143 : decode cX10_tellLeft 143 = .ok (.iload_n 2, 1) := by decide +kernel
theorem dX10_tellLeft_144 : decode cX10_tellLeft 144 = .ok (.iload_n 1, 1) := by decide +kernel
theorem dX10_tellLeft_145 : decode cX10_tellLeft 145 = .ok (.if_icmp .ne 7, 3) := by decide +kernel
theorem dX10_tellLeft_148 : decode cX10_tellLeft 148 = .ok (.lconst 1, 1) := by decide +kernel
theorem dX10_tellLeft_149 : decode cX10_tellLeft 149 = .ok (.goto 4, 3) := by decide +kernel
theorem dX10_tellLeft_152 : decode cX10_tellLeft 152 = .ok (.lconst 0, 1) := by decide +kernel
theorem dX10_tellLeft_153 : decode cX10_tellLeft 153 = .ok (.lastore, 1) := by decide +kernel
theorem dX10_tellLeft_154 : decode cX10_tellLeft 154 = .ok (.aload_n 0, 1) := by decide +kernel
theorem dX10_tellLeft_155 : decode cX10_tellLeft 155 = .ok (.getfield 62, 3) := by decide +kernel
theorem dX10_tellLeft_158 : decode cX10_tellLeft 158 = .ok (.iload_n 2, 1) := by decide +kernel
theorem dX10_tellLeft_159 : decode cX10_tellLeft 159 = .ok (.iload_n 2, 1) := by decide +kernel
theorem dX10_tellLeft_160 : decode cX10_tellLeft 160 = .ok (.iload_n 1, 1) := by decide +kernel
theorem dX10_tellLeft_161 : decode cX10_tellLeft 161 = .ok (.if_icmp .ne 7, 3) := by decide +kernel
theorem dX10_tellLeft_164 : decode cX10_tellLeft 164 = .ok (.iconst 0, 1) := by decide +kernel
theorem dX10_tellLeft_165 : decode cX10_tellLeft 165 = .ok (.goto 5, 3) := by decide +kernel
theorem dX10_tellLeft_168 : decode cX10_tellLeft 168 = .ok (.bipush 100, 2) := by decide +kernel
theorem dX10_tellLeft_170 : decode cX10_tellLeft 170 = .ok (.i2b, 1) := by decide +kernel
theorem dX10_tellLeft_171 : decode cX10_tellLeft 171 = .ok (.bastore, 1) := by decide +kernel
theorem dX10_tellLeft_172 : decode cX10_tellLeft 172 = .ok (.iload_n 2, 1) := by decide +kernel
theorem dX10_tellLeft_173 : decode cX10_tellLeft 173 = .ok (.iload_n 1, 1) := by decide +kernel
theorem dX10_tellLeft_174 : decode cX10_tellLeft 174 = .ok (.if_icmp .eq 126, 3) := by decide +kernel
theorem dX10_tellLeft_177 : decode cX10_tellLeft 177 = .ok (.aload_n 0, 1) := by decide +kernel
theorem dX10_tellLeft_178 : decode cX10_tellLeft 178 = .ok (.getfield 66, 3) := by decide +kernel
theorem dX10_tellLeft_181 : decode cX10_tellLeft 181 = .ok (.iload_n 2, 1) := by decide +kernel
theorem dX10_tellLeft_182 : decode cX10_tellLeft 182 = .ok (.baload, 1) := by decide +kernel
theorem dX10_tellLeft_183 : decode cX10_tellLeft 183 = .ok (.ifCond .eq 117, 3) := by decide +kernel
theorem dX10_tellLeft_186 : decode cX10_tellLeft 186 = .ok (.iload_n 2, 1) := by decide +kernel
theorem dX10_tellLeft_187 : decode cX10_tellLeft 187 = .ok (.invokestatic 196, 3) := by decide +kernel
theorem dX10_tellLeft_190 : decode cX10_tellLeft 190 = .ok (.istore_n 3, 1) := by decide +kernel
theorem dX10_tellLeft_191 : decode cX10_tellLeft 191 = .ok (.aload_n 0, 1) := by decide +kernel
theorem dX10_tellLeft_192 : decode cX10_tellLeft 192 = .ok (.getfield 55, 3) := by decide +kernel
theorem dX10_tellLeft_195 : decode cX10_tellLeft 195 = .ok (.iload_n 3, 1) := by decide +kernel
theorem dX10_tellLeft_196 : decode cX10_tellLeft 196 = .ok (.iaload, 1) := by decide +kernel
theorem dX10_tellLeft_197 : decode cX10_tellLeft 197 = .ok (.istore 4, 2) := by decide +kernel
theorem dX10_tellLeft_199 : decode cX10_tellLeft 199 = .ok (.iload 4, 2) := by decide +kernel
theorem dX10_tellLeft_201 : decode cX10_tellLeft 201 = .ok (.aload_n 0, 1) := by decide +kernel
theorem dX10_tellLeft_202 : decode cX10_tellLeft 202 = .ok (.getfield 55, 3) := by decide +kernel
theorem dX10_tellLeft_205 : decode cX10_tellLeft 205 = .ok (.iload_n 3, 1) := by decide +kernel
theorem dX10_tellLeft_206 : decode cX10_tellLeft 206 = .ok (.iconst 1, 1) := by decide +kernel
theorem dX10_tellLeft_207 : decode cX10_tellLeft 207 = .ok (.iadd, 1) := by decide +kernel
theorem dX10_tellLeft_208 : decode cX10_tellLeft 208 = .ok (.iaload, 1) := by decide +kernel
theorem dX10_tellLeft_209 : decode cX10_tellLeft 209 = .ok (.if_icmp .ge 91, 3) := by decide +kernel
theorem dX10_tellLeft_212 : decode cX10_tellLeft 212 = .ok (.aload_n 0, 1) := by decide +kernel
theorem dX10_tellLeft_213 : decode cX10_tellLeft 213 = .ok (.getfield 49, 3) := by decide +kernel
theorem dX10_tellLeft_216 : decode cX10_tellLeft 216 = .ok (.iload 4, 2) := by decide +kernel
theorem dX10_tellLeft_218 : decode cX10_tellLeft 218 = .ok (.iaload, 1) := by decide +kernel
theorem dX10_tellLeft_219 : decode cX10_tellLeft 219 = .ok (.iload_n 2, 1) := by decide +kernel
theorem dX10_tellLeft_220 : decode cX10_tellLeft 220 = .ok (.iand, 1) := by decide +kernel
theorem dX10_tellLeft_221 : decode cX10_tellLeft 221 = .ok (.ifCond .ne 73, 3) := by decide +kernel
theorem dX10_tellLeft_224 : decode cX10_tellLeft 224 = .ok (.iload_n 2, 1) := by decide +kernel
theorem dX10_tellLeft_225 : decode cX10_tellLeft 225 = .ok (.aload_n 0, 1) := by decide +kernel
theorem dX10_tellLeft_226 : decode cX10_tellLeft 226 = .ok (.getfield 49, 3) := by decide +kernel
theorem dX10_tellLeft_229 : decode cX10_tellLeft 229 = .ok (.iload 4, 2) := by decide +kernel
theorem dX10_tellLeft_231 : decode cX10_tellLeft 231 = .ok (.iaload, 1) := by decide +kernel
theorem dX10_tellLeft_232 : decode cX10_tellLeft 232 = .ok (.ior, 1) := by decide +kernel
theorem dX10_tellLeft_233 : decode cX10_tellLeft 233 = .ok (.istore 5, 2) := by decide +kernel
theorem dX10_tellLeft_235 : decode cX10_tellLeft 235 = .ok (.aload_n 0, 1) := by decide +kernel
theorem dX10_tellLeft_236 : decode cX10_tellLeft 236 = .ok (.getfield 59, 3) := by decide +kernel
theorem dX10_tellLeft_239 : decode cX10_tellLeft 239 = .ok (.iload_n 2, 1) := by decide +kernel
theorem dX10_tellLeft_240 : decode cX10_tellLeft 240 = .ok (.dup2, 1) := by decide +kernel
theorem dX10_tellLeft_241 : decode cX10_tellLeft 241 = .ok (.laload, 1) := by decide +kernel
theorem dX10_tellLeft_242 : decode cX10_tellLeft 242 = .ok (.aload_n 0, 1) := by decide +kernel
theorem dX10_tellLeft_243 : decode cX10_tellLeft 243 = .ok (.getfield 59, 3) := by decide +kernel
theorem dX10_tellLeft_246 : decode cX10_tellLeft 246 = .ok (.iload 5, 2) := by decide +kernel
theorem dX10_tellLeft_248 : decode cX10_tellLeft 248 = .ok (.laload, 1) := by decide +kernel
theorem dX10_tellLeft_249 : decode cX10_tellLeft 249 = .ok (.ladd, 1) := by decide +kernel
theorem dX10_tellLeft_250 : decode cX10_tellLeft 250 = .ok (.lastore, 1) := by decide +kernel
theorem dX10_tellLeft_251 : decode cX10_tellLeft 251 = .ok (.aload_n 0, 1) := by decide +kernel
theorem dX10_tellLeft_252 : decode cX10_tellLeft 252 = .ok (.getfield 62, 3) := by decide +kernel
theorem dX10_tellLeft_255 : decode cX10_tellLeft 255 = .ok (.iload_n 2, 1) := by decide +kernel
theorem dX10_tellLeft_256 : decode cX10_tellLeft 256 = .ok (.aload_n 0, 1) := by decide +kernel
theorem dX10_tellLeft_257 : decode cX10_tellLeft 257 = .ok (.getfield 62, 3) := by decide +kernel
