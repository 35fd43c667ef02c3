theorem dX5_climb_24 : decode cX5_climb 24 = .ok (.aload 4, 2) := by decide +kernel
theorem dX5_climb_26 : decode cX5_climb 26 = .ok (.invokevirtual 146, 3) := by decide +kernel
theorem dX5_climb_29 : decode cX5_climb 29 = .ok (.iconst 0, 1) := by decide +kernel
theorem dX5_climb_30 : decode cX5_climb 30 = .ok (.istore 5, 2) := by decide +kernel
theorem dX5_climb_32 : decode cX5_climb 32 = .ok (.iload 5, 2) := by decide +kernel
theorem dX5_climb_34 : decode cX5_climb 34 = .ok (.aload_n 3, 1) := by decide +kernel
theorem dX5_climb_35 : decode cX5_climb 35 = .ok (.getfield 153, 3) := by decide +kernel
theorem dX5_climb_38 : decode cX5_climb 38 = .ok (.if_icmp .ge 90, 3) := by decide +kernel
theorem dX5_climb_41 : decode cX5_climb 41 = .ok (.aload_n 3, 1) := by decide +kernel
theorem dX5_climb_42 : decode cX5_climb 42 = .ok (.getfield 154, 3) := by decide +kernel
theorem dX5_climb_45 : decode cX5_climb 45 = .ok (.iload 5, 2) := by decide +kernel
theorem dX5_climb_47 : decode cX5_climb 47 = .ok (.iaload, 1) := by decide +kernel
theorem dX5_climb_48 : decode cX5_climb 48 = .ok (.istore 6, 2) := by decide +kernel
theorem dX5_climb_50 : decode cX5_climb 50 = .ok (.aload_n 0, 1) := by decide +kernel
theorem dX5_climb_51 : decode cX5_climb 51 = .ok (.getfield 67, 3) := by decide +kernel
theorem dX5_climb_54 : decode cX5_climb 54 = .ok (.getfield 128, 3) := by decide +kernel
theorem dX5_climb_57 : decode cX5_climb 57 = .ok (.iload 6, 2) := by decide +kernel
theorem dX5_climb_59 : decode cX5_climb 59 = .ok (.iaload, 1) := by decide +kernel
theorem dX5_climb_60 : decode cX5_climb 60 = .ok (.istore 7, 2) := by decide +kernel
theorem dX5_climb_62 : decode cX5_climb 62 = .ok (.iload 7, 2) := by decide +kernel
theorem dX5_climb_64 : decode cX5_climb 64 = .ok (.aload_n 0, 1) := by decide +kernel
theorem dX5_climb_65 : decode cX5_climb 65 = .ok (.getfield 67, 3) := by decide +kernel
theorem dX5_climb_68 : decode cX5_climb 68 = .ok (.getfield 128, 3) := by decide +kernel
theorem dX5_climb_71 : decode cX5_climb 71 = .ok (.iload 6, 2) := by decide +kernel
theorem dX5_climb_73 : decode cX5_climb 73 = .ok (.iconst 1, 1) := by decide +kernel
theorem dX5_climb_74 : decode cX5_climb 74 = .ok (.iadd, 1) := by decide +kernel
theorem dX5_climb_75 : decode cX5_climb 75 = .ok (.iaload, 1) := by decide +kernel
theorem dX5_climb_76 : decode cX5_climb 76 = .ok (.if_icmp .ge 46, 3) := by decide +kernel
theorem dX5_climb_79 : decode cX5_climb 79 = .ok (.aload_n 0, 1) := by decide +kernel
theorem dX5_climb_80 : decode cX5_climb 80 = .ok (.getfield 52, 3) := by decide +kernel
theorem dX5_climb_83 : decode cX5_climb 83 = .ok (.aload_n 0, 1) := by decide +kernel
theorem dX5_climb_84 : decode cX5_climb 84 = .ok (.getfield 67, 3) := by decide +kernel
theorem dX5_climb_87 : decode cX5_climb 87 = .ok (.getfield 139, 3) := by decide +kernel
theorem dX5_climb_90 : decode cX5_climb 90 = .ok (.iload 7, 2) := by decide +kernel
theorem dX5_climb_92 : decode cX5_climb 92 = .ok (.iaload, 1) := by decide +kernel
theorem dX5_climb_93 : decode cX5_climb 93 = .ok (.iaload, 1) := by decide +kernel
theorem dX5_climb_94 : decode cX5_climb 94 = .ok (.istore 8, 2) := by decide +kernel
theorem dX5_climb_96 : decode cX5_climb 96 = .ok (.iload 8, 2) := by decide +kernel
theorem dX5_climb_98 : decode cX5_climb 98 = .ok (.iconst (-1), 1) := by decide +kernel
theorem dX5_climb_99 : decode cX5_climb 99 = .ok (.if_icmp .eq 17, 3) := by decide +kernel
theorem dX5_climb_102 : decode cX5_climb 102 = .ok (.aload 4, 2) := by decide +kernel
theorem dX5_climb_104 : decode cX5_climb 104 = .ok (.iload 8, 2) := by decide +kernel
theorem dX5_climb_106 : decode cX5_climb 106 = .ok (.aload_n 3, 1) := by decide +kernel
theorem dX5_climb_107 : decode cX5_climb 107 = .ok (.getfield 124, 3) := by decide +kernel
theorem dX5_climb_110 : decode cX5_climb 110 = .ok (.iload 6, 2) := by decide +kernel
theorem dX5_climb_112 : decode cX5_climb 112 = .ok (.laload, 1) := by decide +kernel
theorem dX5_climb_113 : decode cX5_climb 113 = .ok (.invokevirtual 149, 3) := by decide +kernel
theorem dX5_climb_116 : decode cX5_climb 116 = .ok (.iinc 7 1, 3) := by decide +kernel
theorem dX5_climb_119 : decode cX5_climb 119 = .ok (.goto (-57), 3) := by decide +kernel
theorem dX5_climb_122 : decode cX5_climb 122 = .ok (.iinc 5 1, 3) := by decide +kernel
theorem dX5_climb_125 : decode cX5_climb 125 = .ok (.goto (-93), 3) := by decide +kernel
theorem dX5_climb_128 : decode cX5_climb 128 = .ok (.iinc 2 1, 3) := by decide +kernel
theorem dX5_climb_131 : decode cX5_climb 131 = .ok (.goto (-129), 3) := by decide +kernel
theorem dX5_climb_134 : decode cX5_climb 134 = .ok (.return_, 1) := by decide +kernel
