theorem dX6_init_0 : decode cX6_init 0 = .ok (.aload_n 0, 1) := by decide +kernel
theorem dX6_init_1 : decode cX6_init 1 = .ok (.invokespecial 3, 3) := by decide +kernel
theorem dX6_init_4 : decode cX6_init 4 = .ok (.aload_n 0, 1) := by decide +kernel
theorem dX6_init_5 : decode cX6_init 5 = .ok (.iload_n 1, 1) := by decide +kernel
theorem dX6_init_6 : decode cX6_init 6 = .ok (.iconst 1, 1) := by decide +kernel
theorem dX6_init_7 : decode cX6_init 7 = .ok (.iadd, 1) := by decide +kernel
theorem dX6_init_8 : decode cX6_init 8 = .ok (.newarray .int, 2) := by decide +kernel
theorem dX6_init_10 : decode cX6_init 10 = .ok (.putfield 9, 3) := by decide +kernel
theorem dX6_init_13 : decode cX6_init 13 = .ok (.aload_n 0, 1) := by decide +kernel
theorem dX6_init_14 : decode cX6_init 14 = .ok (.iload_n 1, 1) := by decide +kernel
theorem dX6_init_15 : decode cX6_init 15 = .ok (.newarray .int, 2) := by decide +kernel
theorem dX6_init_17 : decode cX6_init 17 = .ok (.putfield 15, 3) := by decide +kernel
theorem dX6_init_20 : decode cX6_init 20 = .ok (.return_, 1) := by decide +kernel
theorem dX6_sort_0 : decode cX6_sort 0 = .ok (.iconst 0, 1) := by decide +kernel
theorem dX6_sort_1 : decode cX6_sort 1 = .ok (.istore 4, 2) := by decide +kernel
theorem dX6_sort_3 : decode cX6_sort 3 = .ok (.iload 4, 2) := by decide +kernel
theorem dX6_sort_5 : decode cX6_sort 5 = .ok (.iload_n 3, 1) := by decide +kernel
theorem dX6_sort_6 : decode cX6_sort 6 = .ok (.if_icmp .ge 17, 3) := by decide +kernel
theorem dX6_sort_9 : decode cX6_sort 9 = .ok (.aload_n 0, 1) := by decide +kernel
theorem dX6_sort_10 : decode cX6_sort 10 = .ok (.getfield 9, 3) := by decide +kernel
theorem dX6_sort_13 : decode cX6_sort 13 = .ok (.iload 4, 2) := by decide +kernel
theorem dX6_sort_15 : decode cX6_sort 15 = .ok (.iconst 0, 1) := by decide +kernel
theorem dX6_sort_16 : decode cX6_sort 16 = .ok (.iastore, 1) := by decide +kernel
theorem dX6_sort_17 : decode cX6_sort 17 = .ok (.iinc 4 1, 3) := by decide +kernel
theorem dX6_sort_20 : decode cX6_sort 20 = .ok (.goto (-17), 3) := by decide +kernel
theorem dX6_sort_23 : decode cX6_sort 23 = .ok (.iconst 0, 1) := by decide +kernel
theorem dX6_sort_24 : decode cX6_sort 24 = .ok (.istore 4, 2) := by decide +kernel
theorem dX6_sort_26 : decode cX6_sort 26 = .ok (.iload 4, 2) := by decide +kernel
theorem dX6_sort_28 : decode cX6_sort 28 = .ok (.iload_n 2, 1) := by decide +kernel
theorem dX6_sort_29 : decode cX6_sort 29 = .ok (.if_icmp .ge 30, 3) := by decide +kernel
theorem dX6_sort_32 : decode cX6_sort 32 = .ok (.aload_n 1, 1) := by decide +kernel
theorem dX6_sort_33 : decode cX6_sort 33 = .ok (.iload 4, 2) := by decide +kernel
theorem dX6_sort_35 : decode cX6_sort 35 = .ok (.iaload, 1) := by decide +kernel
theorem dX6_sort_36 : decode cX6_sort 36 = .ok (.iconst (-1), 1) := by decide +kernel
theorem dX6_sort_37 : decode cX6_sort 37 = .ok (.if_icmp .eq 16, 3) := by decide +kernel
theorem dX6_sort_40 : decode cX6_sort 40 = .ok (.aload_n 0, 1) := by decide +kernel
theorem dX6_sort_41 : decode cX6_sort 41 = .ok (.getfield 9, 3) := by decide +kernel
theorem dX6_sort_44 : decode cX6_sort 44 = .ok (.aload_n 1, 1) := by decide +kernel
theorem dX6_sort_45 : decode cX6_sort 45 = .ok (.iload 4, 2) := by decide +kernel
theorem dX6_sort_47 : decode cX6_sort 47 = .ok (.iaload, 1) := by decide +kernel
theorem dX6_sort_48 : decode cX6_sort 48 = .ok (.dup2, 1) := by decide +kernel
theorem dX6_sort_49 : decode cX6_sort 49 = .ok (.iaload, 1) := by decide +kernel
theorem dX6_sort_50 : decode cX6_sort 50 = .ok (.iconst 1, 1) := by decide +kernel
theorem dX6_sort_51 : decode cX6_sort 51 = .ok (.iadd, 1) := by decide +kernel
theorem dX6_sort_52 : decode cX6_sort 52 = .ok (.iastore, 1) := by decide +kernel
theorem dX6_sort_53 : decode cX6_sort 53 = .ok (.iinc 4 1, 3) := by decide +kernel
theorem dX6_sort_56 : decode cX6_sort 56 = .ok (.goto (-30), 3) := by decide +kernel
theorem dX6_sort_59 : decode cX6_sort 59 = .ok (.iconst 0, 1) := by decide +kernel
theorem dX6_sort_60 : decode cX6_sort 60 = .ok (.istore 4, 2) := by decide +kernel
theorem dX6_sort_62 : decode cX6_sort 62 = .ok (.iconst 0, 1) := by decide +kernel
theorem dX6_sort_63 : decode cX6_sort 63 = .ok (.istore 5, 2) := by decide +kernel
theorem dX6_sort_65 : decode cX6_sort 65 = .ok (.iload 5, 2) := by decide +kernel
theorem dX6_sort_67 : decode cX6_sort 67 = .ok (.iload_n 3, 1) := by decide +kernel
theorem dX6_sort_68 : decode cX6_sort 68 = .ok (.if_icmp .ge 30, 3) := by decide +kernel
theorem dX6_sort_71 : decode cX6_sort 71 = .ok (.iload 4, 2) := by decide +kernel
theorem dX6_sort_73 : decode cX6_sort 73 = .ok (.aload_n 0, 1) := by decide +kernel
theorem dX6_sort_74 : decode cX6_sort 74 = .ok (.getfield 9, 3) := by decide +kernel
theorem dX6_sort_77 : decode cX6_sort 77 = .ok (.iload 5, 2) := by decide +kernel
theorem dX6_sort_79 : decode cX6_sort 79 = .ok (.iaload, 1) := by decide +kernel
theorem dX6_sort_80 : decode cX6_sort 80 = .ok (.iadd, 1) := by decide +kernel
theorem dX6_sort_81 : decode cX6_sort 81 = .ok (.istore 4, 2) := by decide +kernel
theorem dX6_sort_83 : decode cX6_sort 83 = .ok (.aload_n 0, 1) := by decide +kernel
theorem dX6_sort_84 : decode cX6_sort 84 = .ok (.getfield 9, 3) := by decide +kernel
theorem dX6_sort_87 : decode cX6_sort 87 = .ok (.iload 5, 2) := by decide +kernel
theorem dX6_sort_89 : decode cX6_sort 89 = .ok (.iload 4, 2) := by decide +kernel
theorem dX6_sort_91 : decode cX6_sort 91 = .ok (.iastore, 1) := by decide +kernel
theorem dX6_sort_92 : decode cX6_sort 92 = .ok (.iinc 5 1, 3) := by decide +kernel
theorem dX6_sort_95 : decode cX6_sort 95 = .ok (.goto (-30), 3) := by decide +kernel
theorem dX6_sort_98 : decode cX6_sort 98 = .ok (.aload_n 0, 1) := by decide +kernel
theorem dX6_sort_99 : decode cX6_sort 99 = .ok (.getfield 9, 3) := by decide +kernel
theorem dX6_sort_102 : decode cX6_sort 102 = .ok (.iload_n 3, 1) := by decide +kernel
theorem dX6_sort_103 : decode cX6_sort 103 = .ok (.iload 4, 2) := by decide +kernel
theorem dX6_sort_105 : decode cX6_sort 105 = .ok (.iastore, 1) := by decide +kernel
theorem dX6_sort_106 : decode cX6_sort 106 = .ok (.iload_n 2, 1) := by decide +kernel
theorem dX6_sort_107 : decode cX6_sort 107 = .ok (.iconst 1, 1) := by decide +kernel
theorem dX6_sort_108 : decode cX6_sort 108 = .ok (.isub, 1) := by decide +kernel
theorem dX6_sort_109 : decode cX6_sort 109 = .ok (.istore 5, 2) := by decide +kernel
theorem dX6_sort_111 : decode cX6_sort 111 = .ok (.iload 5, 2) := by decide +kernel
theorem dX6_sort_113 : decode cX6_sort 113 = .ok (.ifCond .lt 46, 3) := by decide +kernel
theorem dX6_sort_116 : decode cX6_sort 116 = .ok (.aload_n 1, 1) := by decide +kernel
theorem dX6_sort_117 : decode cX6_sort 117 = .ok (.iload 5, 2) := by decide +kernel
theorem dX6_sort_119 : decode cX6_sort 119 = .ok (.iaload, 1) := by decide +kernel
theorem dX6_sort_120 : decode cX6_sort 120 = .ok (.iconst (-1), 1) := by decide +kernel
theorem dX6_sort_121 : decode cX6_sort 121 = .ok (.if_icmp .eq 32, 3) := by decide +kernel
theorem dX6_sort_124 : decode cX6_sort 124 = .ok (.aload_n 0, 1) := by decide +kernel
theorem dX6_sort_125 : decode cX6_sort 125 = .ok (.getfield 9, 3) := by decide +kernel
theorem dX6_sort_128 : decode cX6_sort 128 = .ok (.aload_n 1, 1) := by decide +kernel
theorem dX6_sort_129 : decode cX6_sort 129 = .ok (.iload 5, 2) := by decide +kernel
theorem dX6_sort_131 : decode cX6_sort 131 = .ok (.iaload, 1) := by decide +kernel
theorem dX6_sort_132 : decode cX6_sort 132 = .ok (.dup2, 1) := by decide +kernel
theorem dX6_sort_133 : decode cX6_sort 133 = .ok (.iaload, 1) := by decide +kernel
theorem dX6_sort_134 : decode cX6_sort 134 = .ok (.iconst 1, 1) := by decide +kernel
theorem dX6_sort_135 : decode cX6_sort 135 = .ok (.isub, 1) := by decide +kernel
theorem dX6_sort_136 : decode cX6_sort 136 = .ok (.iastore, 1) := by decide +kernel
theorem dX6_sort_137 : decode cX6_sort 137 = .ok (.aload_n 0, 1) := by decide +kernel
theorem dX6_sort_138 : decode cX6_sort 138 = .ok (.getfield 15, 3) := by decide +kernel
theorem dX6_sort_141 : decode cX6_sort 141 = .ok (.aload_n 0, 1) := by decide +kernel
theorem dX6_sort_142 : decode cX6_sort 142 = .ok (.getfield 9, 3) := by decide +kernel
theorem dX6_sort_145 : decode cX6_sort 145 = .ok (.aload_n 1, 1) := by decide +kernel
theorem dX6_sort_146 : decode cX6_sort 146 = .ok (.iload 5, 2) := by decide +kernel
theorem dX6_sort_148 : decode cX6_sort 148 = .ok (.iaload, 1) := by decide +kernel
theorem dX6_sort_149 : decode cX6_sort 149 = .ok (.iaload, 1) := by decide +kernel
theorem dX6_sort_150 : decode cX6_sort 150 = .ok (.iload 5, 2) := by decide +kernel
theorem dX6_sort_152 : decode cX6_sort 152 = .ok (.iastore, 1) := by decide +kernel
theorem dX6_sort_153 : decode cX6_sort 153 = .ok (.iinc 5 (-1), 3) := by decide +kernel
theorem dX6_sort_156 : decode cX6_sort 156 = .ok (.goto (-45), 3) := by decide +kernel
theorem dX6_sort_159 : decode cX6_sort 159 = .ok (.return_, 1) := by decide +kernel
