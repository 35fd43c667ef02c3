theorem dX5_init_0 : decode cX5_init 0 = .ok (.aload_n 0, 1) := by decide +kernel
theorem dX5_init_1 : decode cX5_init 1 = .ok (.invokespecial 3, 3) := by decide +kernel
theorem dX5_init_4 : decode cX5_init 4 = .ok (.aload_n 0, 1) := by decide +kernel
theorem dX5_init_5 : decode cX5_init 5 = .ok (.bipush 10, 2) := by decide +kernel
theorem dX5_init_7 : decode cX5_init 7 = .ok (.newarray .int, 2) := by decide +kernel
theorem dX5_init_9 : decode cX5_init 9 = .ok (.putfield 9, 3) := by decide +kernel
theorem dX5_init_12 : decode cX5_init 12 = .ok (.aload_n 0, 1) := by decide +kernel
theorem dX5_init_13 : decode cX5_init 13 = .ok (.iconst 4, 1) := by decide +kernel
theorem dX5_init_14 : decode cX5_init 14 = .ok (.anewarray 15, 3) := by decide +kernel
theorem dX5_init_17 : decode cX5_init 17 = .ok (.putfield 17, 3) := by decide +kernel
theorem dX5_init_20 : decode cX5_init 20 = .ok (.aload_n 0, 1) := by decide +kernel
theorem dX5_init_21 : decode cX5_init 21 = .ok (.iconst 1, 1) := by decide +kernel
theorem dX5_init_22 : decode cX5_init 22 = .ok (.putfield 21, 3) := by decide +kernel
theorem dX5_init_25 : decode cX5_init 25 = .ok (.aload_n 0, 1) := by decide +kernel
theorem dX5_init_26 : decode cX5_init 26 = .ok (.iconst 0, 1) := by decide +kernel
theorem dX5_init_27 : decode cX5_init 27 = .ok (.putfield 25, 3) := by decide +kernel
theorem dX5_init_30 : decode cX5_init 30 = .ok (.aload_n 0, 1) := by decide +kernel
theorem dX5_init_31 : decode cX5_init 31 = .ok (.iconst 0, 1) := by decide +kernel
theorem dX5_init_32 : decode cX5_init 32 = .ok (.putfield 29, 3) := by decide +kernel
theorem dX5_init_35 : decode cX5_init 35 = .ok (.aload_n 0, 1) := by decide +kernel
theorem dX5_init_36 : decode cX5_init 36 = .ok (.iconst 0, 1) := by decide +kernel
theorem dX5_init_37 : decode cX5_init 37 = .ok (.putfield 32, 3) := by decide +kernel
theorem dX5_init_40 : decode cX5_init 40 = .ok (.aload_n 0, 1) := by decide +kernel
theorem dX5_init_41 : decode cX5_init 41 = .ok (.iconst 0, 1) := by decide +kernel
theorem dX5_init_42 : decode cX5_init 42 = .ok (.putfield 35, 3) := by decide +kernel
theorem dX5_init_45 : decode cX5_init 45 = .ok (.aload_n 0, 1) := by decide +kernel
theorem dX5_init_46 : decode cX5_init 46 = .ok (.aload_n 1, 1) := by decide +kernel
theorem dX5_init_47 : decode cX5_init 47 = .ok (.putfield 38, 3) := by decide +kernel
theorem dX5_init_50 : decode cX5_init 50 = .ok (.aload_n 0, 1) := by decide +kernel
theorem dX5_init_51 : decode cX5_init 51 = .ok (.iload_n 2, 1) := by decide +kernel
theorem dX5_init_52 : decode cX5_init 52 = .ok (.invokestatic 42, 3) := by decide +kernel
theorem dX5_init_55 : decode cX5_init 55 = .ok (.putfield 46, 3) := by decide +kernel
theorem dX5_init_58 : decode cX5_init 58 = .ok (.aload_n 0, 1) := by decide +kernel
theorem dX5_init_59 : decode cX5_init 59 = .ok (.aload_n 0, 1) := by decide +kernel
theorem dX5_init_60 : decode cX5_init 60 = .ok (.getfield 46, 3) := by decide +kernel
theorem dX5_init_63 : decode cX5_init 63 = .ok (.newarray .int, 2) := by decide +kernel
theorem dX5_init_65 : decode cX5_init 65 = .ok (.putfield 49, 3) := by decide +kernel
theorem dX5_init_68 : decode cX5_init 68 = .ok (.aload_n 0, 1) := by decide +kernel
theorem dX5_init_69 : decode cX5_init 69 = .ok (.aload_n 0, 1) := by decide +kernel
theorem dX5_init_70 : decode cX5_init 70 = .ok (.getfield 46, 3) := by decide +kernel
theorem dX5_init_73 : decode cX5_init 73 = .ok (.newarray .int, 2) := by decide +kernel
theorem dX5_init_75 : decode cX5_init 75 = .ok (.putfield 52, 3) := by decide +kernel
theorem dX5_init_78 : decode cX5_init 78 = .ok (.aload_n 0, 1) := by decide +kernel
theorem dX5_init_79 : decode cX5_init 79 = .ok (.aload_n 0, 1) := by decide +kernel
theorem dX5_init_80 : decode cX5_init 80 = .ok (.getfield 46, 3) := by decide +kernel
theorem dX5_init_83 : decode cX5_init 83 = .ok (.newarray .int, 2) := by decide +kernel
theorem dX5_init_85 : decode cX5_init 85 = .ok (.putfield 55, 3) := by decide +kernel
theorem dX5_init_88 : decode cX5_init 88 = .ok (.aload_n 0, 1) := by decide +kernel
theorem dX5_init_89 : decode cX5_init 89 = .ok (.new 58, 3) := by decide +kernel
theorem dX5_init_92 : decode cX5_init 92 = .ok (.dup, 1) := by decide +kernel
theorem dX5_init_93 : decode cX5_init 93 = .ok (.aload_n 0, 1) := by decide +kernel
theorem dX5_init_94 : decode cX5_init 94 = .ok (.getfield 46, 3) := by decide +kernel
theorem dX5_init_97 : decode cX5_init 97 = .ok (.invokespecial 60, 3) := by decide +kernel
theorem dX5_init_100 : decode cX5_init 100 = .ok (.putfield 63, 3) := by decide +kernel
theorem dX5_init_103 : decode cX5_init 103 = .ok (.aload_n 0, 1) := by decide +kernel
theorem dX5_init_104 : decode cX5_init 104 = .ok (.new 58, 3) := by decide +kernel
theorem dX5_init_107 : decode cX5_init 107 = .ok (.dup, 1) := by decide +kernel
theorem dX5_init_108 : decode cX5_init 108 = .ok (.aload_n 0, 1) := by decide +kernel
theorem dX5_init_109 : decode cX5_init 109 = .ok (.getfield 46, 3) := by decide +kernel
theorem dX5_init_112 : decode cX5_init 112 = .ok (.invokespecial 60, 3) := by decide +kernel
theorem dX5_init_115 : decode cX5_init 115 = .ok (.putfield 67, 3) := by decide +kernel
theorem dX5_init_118 : decode cX5_init 118 = .ok (.iconst 0, 1) := by decide +kernel
theorem dX5_init_119 : decode cX5_init 119 = .ok (.istore_n 3, 1) := by decide +kernel
theorem dX5_init_120 : decode cX5_init 120 = .ok (.iload_n 3, 1) := by decide +kernel
theorem dX5_init_121 : decode cX5_init 121 = .ok (.iconst 4, 1) := by decide +kernel
theorem dX5_init_122 : decode cX5_init 122 = .ok (.if_icmp .ge 26, 3) := by decide +kernel
theorem dX5_init_125 : decode cX5_init 125 = .ok (.aload_n 0, 1) := by decide +kernel
theorem dX5_init_126 : decode cX5_init 126 = .ok (.getfield 17, 3) := by decide +kernel
theorem dX5_init_129 : decode cX5_init 129 = .ok (.iload_n 3, 1) := by decide +kernel
theorem dX5_init_130 : decode cX5_init 130 = .ok (.new 15, 3) := by decide +kernel
theorem dX5_init_133 : decode cX5_init 133 = .ok (.dup, 1) := by decide +kernel
theorem dX5_init_134 : decode cX5_init 134 = .ok (.aload_n 0, 1) := by decide +kernel
theorem dX5_init_135 : decode cX5_init 135 = .ok (.getfield 46, 3) := by decide +kernel
theorem dX5_init_138 : decode cX5_init 138 = .ok (.invokespecial 70, 3) := by decide +kernel
theorem dX5_init_141 : decode cX5_init 141 = .ok (.aastore, 1) := by decide +kernel
theorem dX5_init_142 : decode cX5_init 142 = .ok (.iinc 3 1, 3) := by decide +kernel
theorem dX5_init_145 : decode cX5_init 145 = .ok (.goto (-25), 3) := by decide +kernel
theorem dX5_init_148 : decode cX5_init 148 = .ok (.return_, 1) := by decide +kernel
theorem dX5_roomFor_0 : decode cX5_roomFor 0 = .ok (.bipush 64, 2) := by decide +kernel
theorem dX5_roomFor_2 : decode cX5_roomFor 2 = .ok (.istore_n 1, 1) := by decide +kernel
theorem dX5_roomFor_3 : decode cX5_roomFor 3 = .ok (.iload_n 1, 1) := by decide +kernel
theorem dX5_roomFor_4 : decode cX5_roomFor 4 = .ok (.iload_n 0, 1) := by decide +kernel
theorem dX5_roomFor_5 : decode cX5_roomFor 5 = .ok (.if_icmp .ge 17, 3) := by decide +kernel
theorem dX5_roomFor_8 : decode cX5_roomFor 8 = .ok (.iload_n 1, 1) := by decide +kernel
theorem dX5_roomFor_9 : decode cX5_roomFor 9 = .ok (.sipush 4096, 3) := by decide +kernel
theorem dX5_roomFor_12 : decode cX5_roomFor 12 = .ok (.if_icmp .ge 10, 3) := by decide +kernel
theorem dX5_roomFor_15 : decode cX5_roomFor 15 = .ok (.iload_n 1, 1) := by decide +kernel
theorem dX5_roomFor_16 : decode cX5_roomFor 16 = .ok (.iconst 2, 1) := by decide +kernel
theorem dX5_roomFor_17 : decode cX5_roomFor 17 = .ok (.imul, 1) := by decide +kernel
theorem dX5_roomFor_18 : decode cX5_roomFor 18 = .ok (.istore_n 1, 1) := by decide +kernel
theorem dX5_roomFor_19 : decode cX5_roomFor 19 = .ok (.goto (-16), 3) := by decide +kernel
theorem dX5_roomFor_22 : decode cX5_roomFor 22 = .ok (.iload_n 1, 1) := by decide +kernel
theorem dX5_roomFor_23 : decode cX5_roomFor 23 = .ok (.ireturn, 1) := by decide +kernel
theorem dX5_build_0 : decode cX5_build 0 = .ok (.aload_n 0, 1) := by decide +kernel
theorem dX5_build_1 : decode cX5_build 1 = .ok (.iload_n 1, 1) := by decide +kernel
theorem dX5_build_2 : decode cX5_build 2 = .ok (.putfield 21, 3) := by decide +kernel
theorem dX5_build_5 : decode cX5_build 5 = .ok (.aload_n 0, 1) := by decide +kernel
theorem dX5_build_6 : decode cX5_build 6 = .ok (.iload_n 2, 1) := by decide +kernel
theorem dX5_build_7 : decode cX5_build 7 = .ok (.putfield 25, 3) := by decide +kernel
theorem dX5_build_10 : decode cX5_build 10 = .ok (.aload_n 0, 1) := by decide +kernel
theorem dX5_build_11 : decode cX5_build 11 = .ok (.invokevirtual 71, 3) := by decide +kernel
theorem dX5_build_14 : decode cX5_build 14 = .ok (.aload_n 0, 1) := by decide +kernel
theorem dX5_build_15 : decode cX5_build 15 = .ok (.aload_n 0, 1) := by decide +kernel
theorem dX5_build_16 : decode cX5_build 16 = .ok (.getfield 29, 3) := by decide +kernel
theorem dX5_build_19 : decode cX5_build 19 = .ok (.aload_n 0, 1) := by decide +kernel
theorem dX5_build_20 : decode cX5_build 20 = .ok (.getfield 21, 3) := by decide +kernel
theorem dX5_build_23 : decode cX5_build 23 = .ok (.invokestatic 74, 3) := by decide +kernel
theorem dX5_build_26 : decode cX5_build 26 = .ok (.putfield 32, 3) := by decide +kernel
theorem dX5_build_29 : decode cX5_build 29 = .ok (.aload_n 0, 1) := by decide +kernel
theorem dX5_build_30 : decode cX5_build 30 = .ok (.iconst 0, 1) := by decide +kernel
theorem dX5_build_31 : decode cX5_build 31 = .ok (.putfield 35, 3) := by decide +kernel
theorem dX5_build_34 : decode cX5_build 34 = .ok (.aload_n 0, 1) := by decide +kernel
theorem dX5_build_35 : decode cX5_build 35 = .ok (.iconst 0, 1) := by decide +kernel
theorem dX5_build_36 : decode cX5_build 36 = .ok (.iconst 0, 1) := by decide +kernel
theorem dX5_build_37 : decode cX5_build 37 = .ok (.iconst 0, 1) := by decide +kernel
theorem dX5_build_38 : decode cX5_build 38 = .ok (.iconst 0, 1) := by decide +kernel
theorem dX5_build_39 : decode cX5_build 39 = .ok (.invokevirtual 78, 3) := by decide +kernel
theorem dX5_build_42 : decode cX5_build 42 = .ok (.aload_n 0, 1) := by decide +kernel
theorem dX5_build_43 : decode cX5_build 43 = .ok (.getfield 63, 3) := by decide +kernel
theorem dX5_build_46 : decode cX5_build 46 = .ok (.aload_n 0, 1) := by decide +kernel
theorem dX5_build_47 : decode cX5_build 47 = .ok (.getfield 52, 3) := by decide +kernel
theorem dX5_build_50 : decode cX5_build 50 = .ok (.aload_n 0, 1) := by decide +kernel
theorem dX5_build_51 : decode cX5_build 51 = .ok (.getfield 35, 3) := by decide +kernel
theorem dX5_build_54 : decode cX5_build 54 = .ok (.aload_n 0, 1) := by decide +kernel
theorem dX5_build_55 : decode cX5_build 55 = .ok (.getfield 32, 3) := by decide +kernel
theorem dX5_build_58 : decode cX5_build 58 = .ok (.invokevirtual 82, 3) := by decide +kernel
theorem dX5_build_61 : decode cX5_build 61 = .ok (.aload_n 0, 1) := by decide +kernel
theorem dX5_build_62 : decode cX5_build 62 = .ok (.getfield 67, 3) := by decide +kernel
theorem dX5_build_65 : decode cX5_build 65 = .ok (.aload_n 0, 1) := by decide +kernel
theorem dX5_build_66 : decode cX5_build 66 = .ok (.getfield 55, 3) := by decide +kernel
theorem dX5_build_69 : decode cX5_build 69 = .ok (.aload_n 0, 1) := by decide +kernel
theorem dX5_build_70 : decode cX5_build 70 = .ok (.getfield 35, 3) := by decide +kernel
theorem dX5_build_73 : decode cX5_build 73 = .ok (.aload_n 0, 1) := by decide +kernel
theorem dX5_build_74 : decode cX5_build 74 = .ok (.getfield 32, 3) := by decide +kernel
theorem dX5_build_77 : decode cX5_build 77 = .ok (.invokevirtual 82, 3) := by decide +kernel
theorem dX5_build_80 : decode cX5_build 80 = .ok (.return_, 1) := by decide +kernel
theorem dX5_giveDigits_0 : decode cX5_giveDigits 0 = .ok (.aload_n 0, 1) := by decide +kernel
theorem dX5_giveDigits_1 : decode cX5_giveDigits 1 = .ok (.getfield 9, 3) := by decide +kernel
theorem dX5_giveDigits_4 : decode cX5_giveDigits 4 = .ok (.iconst (-1), 1) := by decide +kernel
theorem dX5_giveDigits_5 : decode cX5_giveDigits 5 = .ok (.invokestatic 86, 3) := by decide +kernel
theorem dX5_giveDigits_8 : decode cX5_giveDigits 8 = .ok (.aload_n 0, 1) := by decide +kernel
theorem dX5_giveDigits_9 : decode cX5_giveDigits 9 = .ok (.iconst 0, 1) := by decide +kernel
theorem dX5_giveDigits_10 : decode cX5_giveDigits 10 = .ok (.putfield 29, 3) := by decide +kernel
theorem dX5_giveDigits_13 : decode cX5_giveDigits 13 = .ok (.iconst 0, 1) := by decide +kernel
theorem dX5_giveDigits_14 : decode cX5_giveDigits 14 = .ok (.istore_n 1, 1) := by decide +kernel
theorem dX5_giveDigits_15 : decode cX5_giveDigits 15 = .ok (.iload_n 1, 1) := by decide +kernel
theorem dX5_giveDigits_16 : decode cX5_giveDigits 16 = .ok (.aload_n 0, 1) := by decide +kernel
theorem dX5_giveDigits_17 : decode cX5_giveDigits 17 = .ok (.getfield 38, 3) := by decide +kernel
theorem dX5_giveDigits_20 : decode cX5_giveDigits 20 = .ok (.getfield 92, 3) := by decide +kernel
theorem dX5_giveDigits_23 : decode cX5_giveDigits 23 = .ok (.if_icmp .ge 55, 3) := by decide +kernel
theorem dX5_giveDigits_26 : decode cX5_giveDigits 26 = .ok (.aload_n 0, 1) := by decide +kernel
theorem dX5_giveDigits_27 : decode cX5_giveDigits 27 = .ok (.getfield 9, 3) := by decide +kernel
theorem dX5_giveDigits_30 : decode cX5_giveDigits 30 = .ok (.aload_n 0, 1) := by decide +kernel
theorem dX5_giveDigits_31 : decode cX5_giveDigits 31 = .ok (.getfield 38, 3) := by decide +kernel
theorem dX5_giveDigits_34 : decode cX5_giveDigits 34 = .ok (.getfield 97, 3) := by decide +kernel
theorem dX5_giveDigits_37 : decode cX5_giveDigits 37 = .ok (.iload_n 1, 1) := by decide +kernel
theorem dX5_giveDigits_38 : decode cX5_giveDigits 38 = .ok (.iaload, 1) := by decide +kernel
theorem dX5_giveDigits_39 : decode cX5_giveDigits 39 = .ok (.iaload, 1) := by decide +kernel
theorem dX5_giveDigits_40 : decode cX5_giveDigits 40 = .ok (.iconst (-1), 1) := by decide +kernel
theorem dX5_giveDigits_41 : decode cX5_giveDigits 41 = .ok (.if_icmp .ne 31, 3) := by decide +kernel
theorem dX5_giveDigits_44 : decode cX5_giveDigits 44 = .ok (.aload_n 0, 1) := by decide +kernel
theorem dX5_giveDigits_45 : decode cX5_giveDigits 45 = .ok (.getfield 9, 3) := by decide +kernel
theorem dX5_giveDigits_48 : decode cX5_giveDigits 48 = .ok (.aload_n 0, 1) := by decide +kernel
theorem dX5_giveDigits_49 : decode cX5_giveDigits 49 = .ok (.getfield 38, 3) := by decide +kernel
theorem dX5_giveDigits_52 : decode cX5_giveDigits 52 = .ok (.getfield 97, 3) := by decide +kernel
theorem dX5_giveDigits_55 : decode cX5_giveDigits 55 = .ok (.iload_n 1, 1) := by decide +kernel
theorem dX5_giveDigits_56 : decode cX5_giveDigits 56 = .ok (.iaload, 1) := by decide +kernel
theorem dX5_giveDigits_57 : decode cX5_giveDigits 57 = .ok (.aload_n 0, 1) := by decide +kernel
theorem dX5_giveDigits_58 : decode cX5_giveDigits 58 = .ok (.getfield 29, 3) := by decide +kernel
theorem dX5_giveDigits_61 : decode cX5_giveDigits 61 = .ok (.iastore, 1) := by decide +kernel
theorem dX5_giveDigits_62 : decode cX5_giveDigits 62 = .ok (.aload_n 0, 1) := by decide +kernel
theorem dX5_giveDigits_63 : decode cX5_giveDigits 63 = .ok (.dup, 1) := by decide +kernel
theorem dX5_giveDigits_64 : decode cX5_giveDigits 64 = .ok (.getfield 29, 3) := by decide +kernel
theorem dX5_giveDigits_67 : decode cX5_giveDigits 67 = .ok (.iconst 1, 1) := by decide +kernel
theorem dX5_giveDigits_68 : decode cX5_giveDigits 68 = .ok (.iadd, 1) := by decide +kernel
theorem dX5_giveDigits_69 : decode cX5_giveDigits 69 = .ok (.putfield 29, 3) := by decide +kernel
theorem dX5_giveDigits_72 : decode cX5_giveDigits 72 = .ok (.iinc 1 1, 3) := by decide +kernel
theorem dX5_giveDigits_75 : decode cX5_giveDigits 75 = .ok (.goto (-60), 3) := by decide +kernel
theorem dX5_giveDigits_78 : decode cX5_giveDigits 78 = .ok (.return_, 1) := by decide +kernel
theorem dX5_addRows_0 : decode cX5_addRows 0 = .ok (.iload_n 1, 1) := by decide +kernel
theorem dX5_addRows_1 : decode cX5_addRows 1 = .ok (.aload_n 0, 1) := by decide +kernel
theorem dX5_addRows_2 : decode cX5_addRows 2 = .ok (.getfield 21, 3) := by decide +kernel
theorem dX5_addRows_5 : decode cX5_addRows 5 = .ok (.if_icmp .lt 12, 3) := by decide +kernel
theorem dX5_addRows_8 : decode cX5_addRows 8 = .ok (.aload_n 0, 1) := by decide +kernel
theorem dX5_addRows_9 : decode cX5_addRows 9 = .ok (.iload_n 2, 1) := by decide +kernel
theorem dX5_addRows_10 : decode cX5_addRows 10 = .ok (.iload_n 3, 1) := by decide +kernel
theorem dX5_addRows_11 : decode cX5_addRows 11 = .ok (.iload 4, 2) := by decide +kernel
theorem dX5_addRows_13 : decode cX5_addRows 13 = .ok (.invokevirtual 100, 3) := by decide +kernel
theorem dX5_addRows_16 : decode cX5_addRows 16 = .ok (.return_, 1) := by decide +kernel
theorem dX5_addRows_17 : decode cX5_addRows 17 = .ok (.iconst 0, 1) := by decide +kernel
theorem dX5_addRows_18 : decode cX5_addRows 18 = .ok (.istore 5, 2) := by decide +kernel
theorem dX5_addRows_20 : decode cX5_addRows 20 = .ok (.iload 5, 2) := by decide +kernel
theorem dX5_addRows_22 : decode cX5_addRows 22 = .ok (.aload_n 0, 1) := by decide +kernel
theorem dX5_addRows_23 : decode cX5_addRows 23 = .ok (.getfield 38, 3) := by decide +kernel
theorem dX5_addRows_26 : decode cX5_addRows 26 = .ok (.getfield 92, 3) := by decide +kernel
theorem dX5_addRows_29 : decode cX5_addRows 29 = .ok (.if_icmp .ge 20, 3) := by decide +kernel
theorem dX5_addRows_32 : decode cX5_addRows 32 = .ok (.aload_n 0, 1) := by decide +kernel
theorem dX5_addRows_33 : decode cX5_addRows 33 = .ok (.iload 5, 2) := by decide +kernel
theorem dX5_addRows_35 : decode cX5_addRows 35 = .ok (.iload_n 1, 1) := by decide +kernel
theorem dX5_addRows_36 : decode cX5_addRows 36 = .ok (.iload_n 2, 1) := by decide +kernel
theorem dX5_addRows_37 : decode cX5_addRows 37 = .ok (.iload_n 3, 1) := by decide +kernel
theorem dX5_addRows_38 : decode cX5_addRows 38 = .ok (.iload 4, 2) := by decide +kernel
theorem dX5_addRows_40 : decode cX5_addRows 40 = .ok (.invokevirtual 104, 3) := by decide +kernel
theorem dX5_addRows_43 : decode cX5_addRows 43 = .ok (.iinc 5 1, 3) := by decide +kernel
theorem dX5_addRows_46 : decode cX5_addRows 46 = .ok (.goto (-26), 3) := by decide +kernel
theorem dX5_addRows_49 : decode cX5_addRows 49 = .ok (.return_, 1) := by decide +kernel
theorem dX5_addRowsWith_0 : decode cX5_addRowsWith 0 = .ok (.iload_n 3, 1) := by decide +kernel
theorem dX5_addRowsWith_1 : decode cX5_addRowsWith 1 = .ok (.iconst 3, 1) := by decide +kernel
theorem dX5_addRowsWith_2 : decode cX5_addRowsWith 2 = .ok (.ishl, 1) := by decide +kernel
theorem dX5_addRowsWith_3 : decode cX5_addRowsWith 3 = .ok (.iload_n 1, 1) := by decide +kernel
theorem dX5_addRowsWith_4 : decode cX5_addRowsWith 4 = .ok (.ior, 1) := by decide +kernel
theorem dX5_addRowsWith_5 : decode cX5_addRowsWith 5 = .ok (.istore 6, 2) := by decide +kernel
theorem dX5_addRowsWith_7 : decode cX5_addRowsWith 7 = .ok (.aload_n 0, 1) := by decide +kernel
theorem dX5_addRowsWith_8 : decode cX5_addRowsWith 8 = .ok (.getfield 9, 3) := by decide +kernel
theorem dX5_addRowsWith_11 : decode cX5_addRowsWith 11 = .ok (.aload_n 0, 1) := by decide +kernel
theorem dX5_addRowsWith_12 : decode cX5_addRowsWith 12 = .ok (.getfield 38, 3) := by decide +kernel
theorem dX5_addRowsWith_15 : decode cX5_addRowsWith 15 = .ok (.getfield 108, 3) := by decide +kernel
theorem dX5_addRowsWith_18 : decode cX5_addRowsWith 18 = .ok (.iload_n 1, 1) := by decide +kernel
theorem dX5_addRowsWith_19 : decode cX5_addRowsWith 19 = .ok (.iaload, 1) := by decide +kernel
theorem dX5_addRowsWith_20 : decode cX5_addRowsWith 20 = .ok (.iaload, 1) := by decide +kernel
theorem dX5_addRowsWith_21 : decode cX5_addRowsWith 21 = .ok (.istore 7, 2) := by decide +kernel
theorem dX5_addRowsWith_23 : decode cX5_addRowsWith 23 = .ok (.iload 4, 2) := by decide +kernel
theorem dX5_addRowsWith_25 : decode cX5_addRowsWith 25 = .ok (.iconst (-1), 1) := by decide +kernel
theorem dX5_addRowsWith_26 : decode cX5_addRowsWith 26 = .ok (.if_icmp .eq 9, 3) := by decide +kernel
theorem dX5_addRowsWith_29 : decode cX5_addRowsWith 29 = .ok (.iload 7, 2) := by decide +kernel
theorem dX5_addRowsWith_31 : decode cX5_addRowsWith 31 = .ok (.iconst (-1), 1) := by decide +kernel
theorem dX5_addRowsWith_32 : decode cX5_addRowsWith 32 = .ok (.if_icmp .ne 7, 3) := by decide +kernel
theorem dX5_addRowsWith_35 : decode cX5_addRowsWith 35 = .ok (.iconst 1, 1) := by decide +kernel
theorem dX5_addRowsWith_36 : decode cX5_addRowsWith 36 = .ok (.goto 4, 3) := by decide +kernel
theorem dX5_addRowsWith_39 : decode cX5_addRowsWith 39 = .ok (.iconst 0, 1) := by decide +kernel
theorem dX5_addRowsWith_40 : decode cX5_addRowsWith 40 = .ok (.istore 8, 2) := by decide +kernel
theorem dX5_addRowsWith_42 : decode cX5_addRowsWith 42 = .ok (.aload_n 0, 1) := by decide +kernel
theorem dX5_addRowsWith_43 : decode cX5_addRowsWith 43 = .ok (.iload_n 1, 1) := by decide +kernel
theorem dX5_addRowsWith_44 : decode cX5_addRowsWith 44 = .ok (.iload_n 2, 1) := by decide +kernel
theorem dX5_addRowsWith_45 : decode cX5_addRowsWith 45 = .ok (.iload_n 3, 1) := by decide +kernel
theorem dX5_addRowsWith_46 : decode cX5_addRowsWith 46 = .ok (.iload 6, 2) := by decide +kernel
theorem dX5_addRowsWith_48 : decode cX5_addRowsWith 48 = .ok (.invokevirtual 111, 3) := by decide +kernel
theorem dX5_addRowsWith_51 : decode cX5_addRowsWith 51 = .ok (.ifCond .eq 73, 3) := by decide +kernel
theorem dX5_addRowsWith_54 : decode cX5_addRowsWith 54 = .ok (.aload_n 0, 1) := by decide +kernel
theorem dX5_addRowsWith_55 : decode cX5_addRowsWith 55 = .ok (.getfield 25, 3) := by decide +kernel
theorem dX5_addRowsWith_58 : decode cX5_addRowsWith 58 = .ok (.ifCond .eq 8, 3) := by decide +kernel
theorem dX5_addRowsWith_61 : decode cX5_addRowsWith 61 = .ok (.iload 8, 2) := by decide +kernel
theorem dX5_addRowsWith_63 : decode cX5_addRowsWith 63 = .ok (.ifCond .ne 61, 3) := by decide +kernel
theorem dX5_addRowsWith_66 : decode cX5_addRowsWith 66 = .ok (.iload 8, 2) := by decide +kernel
theorem dX5_addRowsWith_68 : decode cX5_addRowsWith 68 = .ok (.ifCond .eq 7, 3) := by decide +kernel
theorem dX5_addRowsWith_71 : decode cX5_addRowsWith 71 = .ok (.iconst (-1), 1) := by decide +kernel
theorem dX5_addRowsWith_72 : decode cX5_addRowsWith 72 = .ok (.goto 13, 3) := by decide +kernel
theorem dX5_addRowsWith_75 : decode cX5_addRowsWith 75 = .ok (.iload 4, 2) := by decide +kernel
theorem dX5_addRowsWith_77 : decode cX5_addRowsWith 77 = .ok (.aload_n 0, 1) := by decide +kernel
theorem dX5_addRowsWith_78 : decode cX5_addRowsWith 78 = .ok (.getfield 29, 3) := by decide +kernel
theorem dX5_addRowsWith_81 : decode cX5_addRowsWith 81 = .ok (.imul, 1) := by decide +kernel
theorem dX5_addRowsWith_82 : decode cX5_addRowsWith 82 = .ok (.iload 7, 2) := by decide +kernel
theorem dX5_addRowsWith_84 : decode cX5_addRowsWith 84 = .ok (.iadd, 1) := by decide +kernel
theorem dX5_addRowsWith_85 : decode cX5_addRowsWith 85 = .ok (.istore 9, 2) := by decide +kernel
theorem dX5_addRowsWith_87 : decode cX5_addRowsWith 87 = .ok (.iload 5, 2) := by decide +kernel
theorem dX5_addRowsWith_89 : decode cX5_addRowsWith 89 = .ok (.aload_n 0, 1) := by decide +kernel
theorem dX5_addRowsWith_90 : decode cX5_addRowsWith 90 = .ok (.getfield 29, 3) := by decide +kernel
theorem dX5_addRowsWith_93 : decode cX5_addRowsWith 93 = .ok (.imul, 1) := by decide +kernel
theorem dX5_addRowsWith_94 : decode cX5_addRowsWith 94 = .ok (.aload_n 0, 1) := by decide +kernel
theorem dX5_addRowsWith_95 : decode cX5_addRowsWith 95 = .ok (.getfield 9, 3) := by decide +kernel
theorem dX5_addRowsWith_98 : decode cX5_addRowsWith 98 = .ok (.aload_n 0, 1) := by decide +kernel
theorem dX5_addRowsWith_99 : decode cX5_addRowsWith 99 = .ok (.getfield 38, 3) := by decide +kernel
theorem dX5_addRowsWith_102 : decode cX5_addRowsWith 102 = .ok (.getfield 97, 3) := by decide +kernel
theorem dX5_addRowsWith_105 : decode cX5_addRowsWith 105 = .ok (.iload_n 1, 1) := by decide +kernel
theorem dX5_addRowsWith_106 : decode cX5_addRowsWith 106 = .ok (.iaload, 1) := by decide +kernel
theorem dX5_addRowsWith_107 : decode cX5_addRowsWith 107 = .ok (.iaload, 1) := by decide +kernel
theorem dX5_addRowsWith_108 : decode cX5_addRowsWith 108 = .ok (.iadd, 1) := by decide +kernel
theorem dX5_addRowsWith_109 : decode cX5_addRowsWith 109 = .ok (.istore 10, 2) := by decide +kernel
theorem dX5_addRowsWith_111 : decode cX5_addRowsWith 111 = .ok (.aload_n 0, 1) := by decide +kernel
theorem dX5_addRowsWith_112 : decode cX5_addRowsWith 112 = .ok (.iload_n 2, 1) := by decide +kernel
theorem dX5_addRowsWith_113 : decode cX5_addRowsWith 113 = .ok (.iconst 1, 1) := by decide +kernel
theorem dX5_addRowsWith_114 : decode cX5_addRowsWith 114 = .ok (.iadd, 1) := by decide +kernel
theorem dX5_addRowsWith_115 : decode cX5_addRowsWith 115 = .ok (.iload 6, 2) := by decide +kernel
theorem dX5_addRowsWith_117 : decode cX5_addRowsWith 117 = .ok (.iload 9, 2) := by decide +kernel
theorem dX5_addRowsWith_119 : decode cX5_addRowsWith 119 = .ok (.iload 10, 2) := by decide +kernel
theorem dX5_addRowsWith_121 : decode cX5_addRowsWith 121 = .ok (.invokevirtual 78, 3) := by decide +kernel
theorem dX5_addRowsWith_124 : decode cX5_addRowsWith 124 = .ok (.return_, 1) := by decide +kernel
theorem dX5_fitsInRow_0 : decode cX5_fitsInRow 0 = .ok (.iload_n 2, 1) := by decide +kernel
theorem dX5_fitsInRow_1 : decode cX5_fitsInRow 1 = .ok (.ifCond .le 29, 3) := by decide +kernel
theorem dX5_fitsInRow_4 : decode cX5_fitsInRow 4 = .ok (.aload_n 0, 1) := by decide +kernel
theorem dX5_fitsInRow_5 : decode cX5_fitsInRow 5 = .ok (.getfield 38, 3) := by decide +kernel
theorem dX5_fitsInRow_8 : decode cX5_fitsInRow 8 = .ok (.getfield 115, 3) := by decide +kernel
theorem dX5_fitsInRow_11 : decode cX5_fitsInRow 11 = .ok (.iload_n 3, 1) := by decide +kernel
theorem dX5_fitsInRow_12 : decode cX5_fitsInRow 12 = .ok (.bipush 7, 2) := by decide +kernel
theorem dX5_fitsInRow_14 : decode cX5_fitsInRow 14 = .ok (.iand, 1) := by decide +kernel
theorem dX5_fitsInRow_15 : decode cX5_fitsInRow 15 = .ok (.iaload, 1) := by decide +kernel
theorem dX5_fitsInRow_16 : decode cX5_fitsInRow 16 = .ok (.aload_n 0, 1) := by decide +kernel
theorem dX5_fitsInRow_17 : decode cX5_fitsInRow 17 = .ok (.getfield 38, 3) := by decide +kernel
theorem dX5_fitsInRow_20 : decode cX5_fitsInRow 20 = .ok (.getfield 118, 3) := by decide +kernel
theorem dX5_fitsInRow_23 : decode cX5_fitsInRow 23 = .ok (.iload_n 1, 1) := by decide +kernel
theorem dX5_fitsInRow_24 : decode cX5_fitsInRow 24 = .ok (.iaload, 1) := by decide +kernel
theorem dX5_fitsInRow_25 : decode cX5_fitsInRow 25 = .ok (.if_icmp .eq 5, 3) := by decide +kernel
theorem dX5_fitsInRow_28 : decode cX5_fitsInRow 28 = .ok (.iconst 0, 1) := by decide +kernel
theorem dX5_fitsInRow_29 : decode cX5_fitsInRow 29 = .ok (.ireturn, 1) := by decide +kernel
theorem dX5_fitsInRow_30 : decode cX5_fitsInRow 30 = .ok (.aload_n 0, 1) := by decide +kernel
theorem dX5_fitsInRow_31 : decode cX5_fitsInRow 31 = .ok (.getfield 25, 3) := by decide +kernel
theorem dX5_fitsInRow_34 : decode cX5_fitsInRow 34 = .ok (.ifCond .eq 13, 3) := by decide +kernel
theorem dX5_fitsInRow_37 : decode cX5_fitsInRow 37 = .ok (.iload_n 2, 1) := by decide +kernel
theorem dX5_fitsInRow_38 : decode cX5_fitsInRow 38 = .ok (.iconst 1, 1) := by decide +kernel
theorem dX5_fitsInRow_39 : decode cX5_fitsInRow 39 = .ok (.iadd, 1) := by decide +kernel
theorem dX5_fitsInRow_40 : decode cX5_fitsInRow 40 = .ok (.aload_n 0, 1) := by decide +kernel
theorem dX5_fitsInRow_41 : decode cX5_fitsInRow 41 = .ok (.getfield 21, 3) := by decide +kernel
theorem dX5_fitsInRow_44 : decode cX5_fitsInRow 44 = .ok (.if_icmp .ge 5, 3) := by decide +kernel
theorem dX5_fitsInRow_47 : decode cX5_fitsInRow 47 = .ok (.iconst 1, 1) := by decide +kernel
theorem dX5_fitsInRow_48 : decode cX5_fitsInRow 48 = .ok (.ireturn, 1) := by decide +kernel
theorem dX5_fitsInRow_49 : decode cX5_fitsInRow 49 = .ok (.iload 4, 2) := by decide +kernel
theorem dX5_fitsInRow_51 : decode cX5_fitsInRow 51 = .ok (.iconst 3, 1) := by decide +kernel
theorem dX5_fitsInRow_52 : decode cX5_fitsInRow 52 = .ok (.aload_n 0, 1) := by decide +kernel
theorem dX5_fitsInRow_53 : decode cX5_fitsInRow 53 = .ok (.getfield 21, 3) := by decide +kernel
theorem dX5_fitsInRow_56 : decode cX5_fitsInRow 56 = .ok (.iconst 1, 1) := by decide +kernel
theorem dX5_fitsInRow_57 : decode cX5_fitsInRow 57 = .ok (.isub, 1) := by decide +kernel
theorem dX5_fitsInRow_58 : decode cX5_fitsInRow 58 = .ok (.imul, 1) := by decide +kernel
theorem dX5_fitsInRow_59 : decode cX5_fitsInRow 59 = .ok (.ishr, 1) := by decide +kernel
theorem dX5_fitsInRow_60 : decode cX5_fitsInRow 60 = .ok (.bipush 7, 2) := by decide +kernel
theorem dX5_fitsInRow_62 : decode cX5_fitsInRow 62 = .ok (.iand, 1) := by decide +kernel
theorem dX5_fitsInRow_63 : decode cX5_fitsInRow 63 = .ok (.istore 5, 2) := by decide +kernel
theorem dX5_fitsInRow_65 : decode cX5_fitsInRow 65 = .ok (.aload_n 0, 1) := by decide +kernel
theorem dX5_fitsInRow_66 : decode cX5_fitsInRow 66 = .ok (.getfield 38, 3) := by decide +kernel
theorem dX5_fitsInRow_69 : decode cX5_fitsInRow 69 = .ok (.getfield 115, 3) := by decide +kernel
theorem dX5_fitsInRow_72 : decode cX5_fitsInRow 72 = .ok (.iload_n 1, 1) := by decide +kernel
theorem dX5_fitsInRow_73 : decode cX5_fitsInRow 73 = .ok (.iaload, 1) := by decide +kernel
theorem dX5_fitsInRow_74 : decode cX5_fitsInRow 74 = .ok (.aload_n 0, 1) := by decide +kernel
theorem dX5_fitsInRow_75 : decode cX5_fitsInRow 75 = .ok (.getfield 38, 3) := by decide +kernel
theorem dX5_fitsInRow_78 : decode cX5_fitsInRow 78 = .ok (.getfield 118, 3) := by decide +kernel
theorem dX5_fitsInRow_81 : decode cX5_fitsInRow 81 = .ok (.iload 5, 2) := by decide +kernel
theorem dX5_fitsInRow_83 : decode cX5_fitsInRow 83 = .ok (.iaload, 1) := by decide +kernel
theorem dX5_fitsInRow_84 : decode cX5_fitsInRow 84 = .ok (.if_icmp .ne 7, 3) := by decide +kernel
theorem dX5_fitsInRow_87 : decode cX5_fitsInRow 87 = .ok (.iconst 1, 1) := by decide +kernel
theorem dX5_fitsInRow_88 : decode cX5_fitsInRow 88 = .ok (.goto 4, 3) := by decide +kernel
theorem dX5_fitsInRow_91 : decode cX5_fitsInRow 91 = .ok (.iconst 0, 1) := by decide +kernel
theorem dX5_fitsInRow_92 : decode cX5_fitsInRow 92 = .ok (.ireturn, 1) := by decide +kernel
theorem dX5_keepRow_0 : decode cX5_keepRow 0 = .ok (.aload_n 0, 1) := by decide +kernel
theorem dX5_keepRow_1 : decode cX5_keepRow 1 = .ok (.getfield 35, 3) := by decide +kernel
theorem dX5_keepRow_4 : decode cX5_keepRow 4 = .ok (.aload_n 0, 1) := by decide +kernel
theorem dX5_keepRow_5 : decode cX5_keepRow 5 = .ok (.getfield 46, 3) := by decide +kernel
theorem dX5_keepRow_8 : decode cX5_keepRow 8 = .ok (.if_icmp .ge 43, 3) := by decide +kernel
theorem dX5_keepRow_11 : decode cX5_keepRow 11 = .ok (.aload_n 0, 1) := by decide +kernel
theorem dX5_keepRow_12 : decode cX5_keepRow 12 = .ok (.getfield 49, 3) := by decide +kernel
theorem dX5_keepRow_15 : decode cX5_keepRow 15 = .ok (.aload_n 0, 1) := by decide +kernel
theorem dX5_keepRow_16 : decode cX5_keepRow 16 = .ok (.getfield 35, 3) := by decide +kernel
theorem dX5_keepRow_19 : decode cX5_keepRow 19 = .ok (.iload_n 1, 1) := by decide +kernel
theorem dX5_keepRow_20 : decode cX5_keepRow 20 = .ok (.iastore, 1) := by decide +kernel
theorem dX5_keepRow_21 : decode cX5_keepRow 21 = .ok (.aload_n 0, 1) := by decide +kernel
theorem dX5_keepRow_22 : decode cX5_keepRow 22 = .ok (.getfield 52, 3) := by decide +kernel
theorem dX5_keepRow_25 : decode cX5_keepRow 25 = .ok (.aload_n 0, 1) := by decide +kernel
theorem dX5_keepRow_26 : decode cX5_keepRow 26 = .ok (.getfield 35, 3) := by decide +kernel
theorem dX5_keepRow_29 : decode cX5_keepRow 29 = .ok (.iload_n 2, 1) := by decide +kernel
theorem dX5_keepRow_30 : decode cX5_keepRow 30 = .ok (.iastore, 1) := by decide +kernel
theorem dX5_keepRow_31 : decode cX5_keepRow 31 = .ok (.aload_n 0, 1) := by decide +kernel
theorem dX5_keepRow_32 : decode cX5_keepRow 32 = .ok (.getfield 55, 3) := by decide +kernel
theorem dX5_keepRow_35 : decode cX5_keepRow 35 = .ok (.aload_n 0, 1) := by decide +kernel
theorem dX5_keepRow_36 : decode cX5_keepRow 36 = .ok (.getfield 35, 3) := by decide +kernel
theorem dX5_keepRow_39 : decode cX5_keepRow 39 = .ok (.iload_n 3, 1) := by decide +kernel
theorem dX5_keepRow_40 : decode cX5_keepRow 40 = .ok (.iastore, 1) := by decide +kernel
theorem dX5_keepRow_41 : decode cX5_keepRow 41 = .ok (.aload_n 0, 1) := by decide +kernel
theorem dX5_keepRow_42 : decode cX5_keepRow 42 = .ok (.dup, 1) := by decide +kernel
theorem dX5_keepRow_43 : decode cX5_keepRow 43 = .ok (.getfield 35, 3) := by decide +kernel
theorem dX5_keepRow_46 : decode cX5_keepRow 46 = .ok (.iconst 1, 1) := by decide +kernel
theorem dX5_keepRow_47 : decode cX5_keepRow 47 = .ok (.iadd, 1) := by decide +kernel
theorem dX5_keepRow_48 : decode cX5_keepRow 48 = .ok (.putfield 35, 3) := by decide +kernel
theorem dX5_keepRow_51 : decode cX5_keepRow 51 = .ok (.return_, 1) := by decide +kernel
theorem dX5_countOpen_0 : decode cX5_countOpen 0 = .ok (.aload_n 0, 1) := by decide +kernel
theorem dX5_countOpen_1 : decode cX5_countOpen 1 = .ok (.iload_n 1, 1) := by decide +kernel
theorem dX5_countOpen_2 : decode cX5_countOpen 2 = .ok (.iconst 1, 1) := by decide +kernel
theorem dX5_countOpen_3 : decode cX5_countOpen 3 = .ok (.isub, 1) := by decide +kernel
theorem dX5_countOpen_4 : decode cX5_countOpen 4 = .ok (.invokevirtual 121, 3) := by decide +kernel
theorem dX5_countOpen_7 : decode cX5_countOpen 7 = .ok (.aload_n 0, 1) := by decide +kernel
theorem dX5_countOpen_8 : decode cX5_countOpen 8 = .ok (.getfield 17, 3) := by decide +kernel
theorem dX5_countOpen_11 : decode cX5_countOpen 11 = .ok (.iload_n 1, 1) := by decide +kernel
theorem dX5_countOpen_12 : decode cX5_countOpen 12 = .ok (.iconst 1, 1) := by decide +kernel
theorem dX5_countOpen_13 : decode cX5_countOpen 13 = .ok (.isub, 1) := by decide +kernel
theorem dX5_countOpen_14 : decode cX5_countOpen 14 = .ok (.aaload, 1) := by decide +kernel
theorem dX5_countOpen_15 : decode cX5_countOpen 15 = .ok (.astore_n 2, 1) := by decide +kernel
theorem dX5_countOpen_16 : decode cX5_countOpen 16 = .ok (.lconst 0, 1) := by decide +kernel
theorem dX5_countOpen_17 : decode cX5_countOpen 17 = .ok (.lstore_n 3, 1) := by decide +kernel
theorem dX5_countOpen_18 : decode cX5_countOpen 18 = .ok (.iconst 0, 1) := by decide +kernel
theorem dX5_countOpen_19 : decode cX5_countOpen 19 = .ok (.istore 5, 2) := by decide +kernel
theorem dX5_countOpen_21 : decode cX5_countOpen 21 = .ok (.iload 5, 2) := by decide +kernel
theorem dX5_countOpen_23 : decode cX5_countOpen 23 = .ok (.aload_n 0, 1) := by decide +kernel
theorem dX5_countOpen_24 : decode cX5_countOpen 24 = .ok (.getfield 35, 3) := by decide +kernel
theorem dX5_countOpen_27 : decode cX5_countOpen 27 = .ok (.if_icmp .ge 24, 3) := by decide +kernel
theorem dX5_countOpen_30 : decode cX5_countOpen 30 = .ok (.lload_n 3, 1) := by decide +kernel
theorem dX5_countOpen_31 : decode cX5_countOpen 31 = .ok (.aload_n 2, 1) := by decide +kernel
theorem dX5_countOpen_32 : decode cX5_countOpen 32 = .ok (.getfield 124, 3) := by decide +kernel
theorem dX5_countOpen_35 : decode cX5_countOpen 35 = .ok (.aload_n 0, 1) := by decide +kernel
theorem dX5_countOpen_36 : decode cX5_countOpen 36 = .ok (.getfield 55, 3) := by decide +kernel
theorem dX5_countOpen_39 : decode cX5_countOpen 39 = .ok (.iload 5, 2) := by decide +kernel
theorem dX5_countOpen_41 : decode cX5_countOpen 41 = .ok (.iaload, 1) := by decide +kernel
theorem dX5_countOpen_42 : decode cX5_countOpen 42 = .ok (.laload, 1) := by decide +kernel
theorem dX5_countOpen_43 : decode cX5_countOpen 43 = .ok (.ladd, 1) := by decide +kernel
theorem dX5_countOpen_44 : decode cX5_countOpen 44 = .ok (.lstore_n 3, 1) := by decide +kernel
theorem dX5_countOpen_45 : decode cX5_countOpen 45 = .ok (.iinc 5 1, 3) := by decide +kernel
theorem dX5_countOpen_48 : decode cX5_countOpen 48 = .ok (.goto (-27), 3) := by decide +kernel
theorem dX5_countOpen_51 : decode cX5_countOpen 51 = .ok (.lload_n 3, 1) := by decide +kernel
theorem dX5_countOpen_52 : decode cX5_countOpen 52 = .ok (.lreturn, 1) := by decide +kernel
theorem dX5_countRings_0 : decode cX5_countRings 0 = .ok (.lconst 0, 1) := by decide +kernel
theorem dX5_countRings_1 : decode cX5_countRings 1 = .ok (.lstore_n 2, 1) := by decide +kernel
theorem dX5_countRings_2 : decode cX5_countRings 2 = .ok (.iconst 0, 1) := by decide +kernel
theorem dX5_countRings_3 : decode cX5_countRings 3 = .ok (.istore 4, 2) := by decide +kernel
theorem dX5_countRings_5 : decode cX5_countRings 5 = .ok (.iload 4, 2) := by decide +kernel
theorem dX5_countRings_7 : decode cX5_countRings 7 = .ok (.aload_n 0, 1) := by decide +kernel
theorem dX5_countRings_8 : decode cX5_countRings 8 = .ok (.getfield 32, 3) := by decide +kernel
theorem dX5_countRings_11 : decode cX5_countRings 11 = .ok (.if_icmp .ge 58, 3) := by decide +kernel
theorem dX5_countRings_14 : decode cX5_countRings 14 = .ok (.aload_n 0, 1) := by decide +kernel
theorem dX5_countRings_15 : decode cX5_countRings 15 = .ok (.getfield 63, 3) := by decide +kernel
theorem dX5_countRings_18 : decode cX5_countRings 18 = .ok (.getfield 128, 3) := by decide +kernel
theorem dX5_countRings_21 : decode cX5_countRings 21 = .ok (.iload 4, 2) := by decide +kernel
theorem dX5_countRings_23 : decode cX5_countRings 23 = .ok (.iaload, 1) := by decide +kernel
theorem dX5_countRings_24 : decode cX5_countRings 24 = .ok (.aload_n 0, 1) := by decide +kernel
theorem dX5_countRings_25 : decode cX5_countRings 25 = .ok (.getfield 63, 3) := by decide +kernel
theorem dX5_countRings_28 : decode cX5_countRings 28 = .ok (.getfield 128, 3) := by decide +kernel
theorem dX5_countRings_31 : decode cX5_countRings 31 = .ok (.iload 4, 2) := by decide +kernel
theorem dX5_countRings_33 : decode cX5_countRings 33 = .ok (.iconst 1, 1) := by decide +kernel
theorem dX5_countRings_34 : decode cX5_countRings 34 = .ok (.iadd, 1) := by decide +kernel
theorem dX5_countRings_35 : decode cX5_countRings 35 = .ok (.iaload, 1) := by decide +kernel
theorem dX5_countRings_36 : decode cX5_countRings 36 = .ok (.if_icmp .ge 27, 3) := by decide +kernel
theorem dX5_countRings_39 : decode cX5_countRings 39 = .ok (.lload_n 2, 1) := by decide +kernel
theorem dX5_countRings_40 : decode cX5_countRings 40 = .ok (.iload_n 1, 1) := by decide +kernel
theorem dX5_countRings_41 : decode cX5_countRings 41 = .ok (.iconst 1, 1) := by decide +kernel
theorem dX5_countRings_42 : decode cX5_countRings 42 = .ok (.if_icmp .ne 12, 3) := by decide +kernel
theorem dX5_countRings_45 : decode cX5_countRings 45 = .ok (.aload_n 0, 1) := by decide +kernel
theorem dX5_countRings_46 : decode cX5_countRings 46 = .ok (.iload 4, 2) := by decide +kernel
theorem dX5_countRings_48 : decode cX5_countRings 48 = .ok (.invokevirtual 131, 3) := by decide +kernel
theorem dX5_countRings_51 : decode cX5_countRings 51 = .ok (.goto 10, 3) := by decide +kernel
theorem dX5_countRings_54 : decode cX5_countRings 54 = .ok (.aload_n 0, 1) := by decide +kernel
theorem dX5_countRings_55 : decode cX5_countRings 55 = .ok (.iload 4, 2) := by decide +kernel
theorem dX5_countRings_57 : decode cX5_countRings 57 = .ok (.iload_n 1, 1) := by decide +kernel
theorem dX5_countRings_58 : decode cX5_countRings 58 = .ok (.invokevirtual 135, 3) := by decide +kernel
theorem dX5_countRings_61 : decode cX5_countRings 61 = .ok (.ladd, 1) := by decide +kernel
theorem dX5_countRings_62 : decode cX5_countRings 62 = .ok (.lstore_n 2, 1) := by decide +kernel
theorem dX5_countRings_63 : decode cX5_countRings 63 = .ok (.iinc 4 1, 3) := by decide +kernel
theorem dX5_countRings_66 : decode cX5_countRings 66 = .ok (.goto (-61), 3) := by decide +kernel
theorem dX5_countRings_69 : decode cX5_countRings 69 = .ok (.lload_n 2, 1) := by decide +kernel
theorem dX5_countRings_70 : decode cX5_countRings 70 = .ok (.lreturn, 1) := by decide +kernel
theorem dX5_countLoops_0 : decode cX5_countLoops 0 = .ok (.lconst 0, 1) := by decide +kernel
theorem dX5_countLoops_1 : decode cX5_countLoops 1 = .ok (.lstore_n 2, 1) := by decide +kernel
theorem dX5_countLoops_2 : decode cX5_countLoops 2 = .ok (.aload_n 0, 1) := by decide +kernel
theorem dX5_countLoops_3 : decode cX5_countLoops 3 = .ok (.getfield 63, 3) := by decide +kernel
theorem dX5_countLoops_6 : decode cX5_countLoops 6 = .ok (.getfield 128, 3) := by decide +kernel
theorem dX5_countLoops_9 : decode cX5_countLoops 9 = .ok (.iload_n 1, 1) := by decide +kernel
theorem dX5_countLoops_10 : decode cX5_countLoops 10 = .ok (.iaload, 1) := by decide +kernel
theorem dX5_countLoops_11 : decode cX5_countLoops 11 = .ok (.istore 4, 2) := by decide +kernel
theorem dX5_countLoops_13 : decode cX5_countLoops 13 = .ok (.iload 4, 2) := by decide +kernel
theorem dX5_countLoops_15 : decode cX5_countLoops 15 = .ok (.aload_n 0, 1) := by decide +kernel
theorem dX5_countLoops_16 : decode cX5_countLoops 16 = .ok (.getfield 63, 3) := by decide +kernel
theorem dX5_countLoops_19 : decode cX5_countLoops 19 = .ok (.getfield 128, 3) := by decide +kernel
theorem dX5_countLoops_22 : decode cX5_countLoops 22 = .ok (.iload_n 1, 1) := by decide +kernel
theorem dX5_countLoops_23 : decode cX5_countLoops 23 = .ok (.iconst 1, 1) := by decide +kernel
theorem dX5_countLoops_24 : decode cX5_countLoops 24 = .ok (.iadd, 1) := by decide +kernel
theorem dX5_countLoops_25 : decode cX5_countLoops 25 = .ok (.iaload, 1) := by decide +kernel
theorem dX5_countLoops_26 : decode cX5_countLoops 26 = .ok (.if_icmp .ge 36, 3) := by decide +kernel
theorem dX5_countLoops_29 : decode cX5_countLoops 29 = .ok (.lload_n 2, 1) := by decide +kernel
theorem dX5_countLoops_30 : decode cX5_countLoops 30 = .ok (.aload_n 0, 1) := by decide +kernel
theorem dX5_countLoops_31 : decode cX5_countLoops 31 = .ok (.getfield 55, 3) := by decide +kernel
theorem dX5_countLoops_34 : decode cX5_countLoops 34 = .ok (.aload_n 0, 1) := by decide +kernel
theorem dX5_countLoops_35 : decode cX5_countLoops 35 = .ok (.getfield 63, 3) := by decide +kernel
theorem dX5_countLoops_38 : decode cX5_countLoops 38 = .ok (.getfield 139, 3) := by decide +kernel
theorem dX5_countLoops_41 : decode cX5_countLoops 41 = .ok (.iload 4, 2) := by decide +kernel
theorem dX5_countLoops_43 : decode cX5_countLoops 43 = .ok (.iaload, 1) := by decide +kernel
theorem dX5_countLoops_44 : decode cX5_countLoops 44 = .ok (.iaload, 1) := by decide +kernel
theorem dX5_countLoops_45 : decode cX5_countLoops 45 = .ok (.iload_n 1, 1) := by decide +kernel
theorem dX5_countLoops_46 : decode cX5_countLoops 46 = .ok (.if_icmp .ne 7, 3) := by decide +kernel
theorem dX5_countLoops_49 : decode cX5_countLoops 49 = .ok (.lconst 1, 1) := by decide +kernel
theorem dX5_countLoops_50 : decode cX5_countLoops 50 = .ok (.goto 4, 3) := by decide +kernel
theorem dX5_countLoops_53 : decode cX5_countLoops 53 = .ok (.lconst 0, 1) := by decide +kernel
theorem dX5_countLoops_54 : decode cX5_countLoops 54 = .ok (.ladd, 1) := by decide +kernel
theorem dX5_countLoops_55 : decode cX5_countLoops 55 = .ok (.lstore_n 2, 1) := by decide +kernel
theorem dX5_countLoops_56 : decode cX5_countLoops 56 = .ok (.iinc 4 1, 3) := by decide +kernel
theorem dX5_countLoops_59 : decode cX5_countLoops 59 = .ok (.goto (-46), 3) := by decide +kernel
theorem dX5_countLoops_62 : decode cX5_countLoops 62 = .ok (.lload_n 2, 1) := by decide +kernel
theorem dX5_countLoops_63 : decode cX5_countLoops 63 = .ok (.lreturn, 1) := by decide +kernel
theorem dX5_countRingsFrom_0 : decode cX5_countRingsFrom 0 = .ok (.aload_n 0, 1) := by decide +kernel
theorem dX5_countRingsFrom_1 : decode cX5_countRingsFrom 1 = .ok (.iload_n 1, 1) := by decide +kernel
theorem dX5_countRingsFrom_2 : decode cX5_countRingsFrom 2 = .ok (.iload_n 2, 1) := by decide +kernel
theorem dX5_countRingsFrom_3 : decode cX5_countRingsFrom 3 = .ok (.iconst 2, 1) := by decide +kernel
theorem dX5_countRingsFrom_4 : decode cX5_countRingsFrom 4 = .ok (.isub, 1) := by decide +kernel
theorem dX5_countRingsFrom_5 : decode cX5_countRingsFrom 5 = .ok (.invokevirtual 142, 3) := by decide +kernel
theorem dX5_countRingsFrom_8 : decode cX5_countRingsFrom 8 = .ok (.aload_n 0, 1) := by decide +kernel
theorem dX5_countRingsFrom_9 : decode cX5_countRingsFrom 9 = .ok (.getfield 17, 3) := by decide +kernel
theorem dX5_countRingsFrom_12 : decode cX5_countRingsFrom 12 = .ok (.iload_n 2, 1) := by decide +kernel
theorem dX5_countRingsFrom_13 : decode cX5_countRingsFrom 13 = .ok (.iconst 2, 1) := by decide +kernel
theorem dX5_countRingsFrom_14 : decode cX5_countRingsFrom 14 = .ok (.isub, 1) := by decide +kernel
theorem dX5_countRingsFrom_15 : decode cX5_countRingsFrom 15 = .ok (.aaload, 1) := by decide +kernel
theorem dX5_countRingsFrom_16 : decode cX5_countRingsFrom 16 = .ok (.astore_n 3, 1) := by decide +kernel
theorem dX5_countRingsFrom_17 : decode cX5_countRingsFrom 17 = .ok (.aload_n 0, 1) := by decide +kernel
theorem dX5_countRingsFrom_18 : decode cX5_countRingsFrom 18 = .ok (.getfield 17, 3) := by decide +kernel
theorem dX5_countRingsFrom_21 : decode cX5_countRingsFrom 21 = .ok (.iconst 3, 1) := by decide +kernel
theorem dX5_countRingsFrom_22 : decode cX5_countRingsFrom 22 = .ok (.aaload, 1) := by decide +kernel
theorem dX5_countRingsFrom_23 : decode cX5_countRingsFrom 23 = .ok (.astore 4, 2) := by decide +kernel
theorem dX5_countRingsFrom_25 : decode cX5_countRingsFrom 25 = .ok (.aload 4, 2) := by decide +kernel
theorem dX5_countRingsFrom_27 : decode cX5_countRingsFrom 27 = .ok (.invokevirtual 146, 3) := by decide +kernel
theorem dX5_countRingsFrom_30 : decode cX5_countRingsFrom 30 = .ok (.aload_n 0, 1) := by decide +kernel
theorem dX5_countRingsFrom_31 : decode cX5_countRingsFrom 31 = .ok (.getfield 63, 3) := by decide +kernel
theorem dX5_countRingsFrom_34 : decode cX5_countRingsFrom 34 = .ok (.getfield 128, 3) := by decide +kernel
theorem dX5_countRingsFrom_37 : decode cX5_countRingsFrom 37 = .ok (.iload_n 1, 1) := by decide +kernel
theorem dX5_countRingsFrom_38 : decode cX5_countRingsFrom 38 = .ok (.iaload, 1) := by decide +kernel
theorem dX5_countRingsFrom_39 : decode cX5_countRingsFrom 39 = .ok (.istore 5, 2) := by decide +kernel
theorem dX5_countRingsFrom_41 : decode cX5_countRingsFrom 41 = .ok (.iload 5, 2) := by decide +kernel
theorem dX5_countRingsFrom_43 : decode cX5_countRingsFrom 43 = .ok (.aload_n 0, 1) := by decide +kernel
theorem dX5_countRingsFrom_44 : decode cX5_countRingsFrom 44 = .ok (.getfield 63, 3) := by decide +kernel
theorem dX5_countRingsFrom_47 : decode cX5_countRingsFrom 47 = .ok (.getfield 128, 3) := by decide +kernel
theorem dX5_countRingsFrom_50 : decode cX5_countRingsFrom 50 = .ok (.iload_n 1, 1) := by decide +kernel
theorem dX5_countRingsFrom_51 : decode cX5_countRingsFrom 51 = .ok (.iconst 1, 1) := by decide +kernel
theorem dX5_countRingsFrom_52 : decode cX5_countRingsFrom 52 = .ok (.iadd, 1) := by decide +kernel
theorem dX5_countRingsFrom_53 : decode cX5_countRingsFrom 53 = .ok (.iaload, 1) := by decide +kernel
theorem dX5_countRingsFrom_54 : decode cX5_countRingsFrom 54 = .ok (.if_icmp .ge 30, 3) := by decide +kernel
theorem dX5_countRingsFrom_57 : decode cX5_countRingsFrom 57 = .ok (.aload 4, 2) := by decide +kernel
theorem dX5_countRingsFrom_59 : decode cX5_countRingsFrom 59 = .ok (.aload_n 0, 1) := by decide +kernel
theorem dX5_countRingsFrom_60 : decode cX5_countRingsFrom 60 = .ok (.getfield 55, 3) := by decide +kernel
theorem dX5_countRingsFrom_63 : decode cX5_countRingsFrom 63 = .ok (.aload_n 0, 1) := by decide +kernel
theorem dX5_countRingsFrom_64 : decode cX5_countRingsFrom 64 = .ok (.getfield 63, 3) := by decide +kernel
theorem dX5_countRingsFrom_67 : decode cX5_countRingsFrom 67 = .ok (.getfield 139, 3) := by decide +kernel
theorem dX5_countRingsFrom_70 : decode cX5_countRingsFrom 70 = .ok (.iload 5, 2) := by decide +kernel
theorem dX5_countRingsFrom_72 : decode cX5_countRingsFrom 72 = .ok (.iaload, 1) := by decide +kernel
theorem dX5_countRingsFrom_73 : decode cX5_countRingsFrom 73 = .ok (.iaload, 1) := by decide +kernel
theorem dX5_countRingsFrom_74 : decode cX5_countRingsFrom 74 = .ok (.lconst 1, 1) := by decide +kernel
theorem dX5_countRingsFrom_75 : decode cX5_countRingsFrom 75 = .ok (.invokevirtual 149, 3) := by decide +kernel
theorem dX5_countRingsFrom_78 : decode cX5_countRingsFrom 78 = .ok (.iinc 5 1, 3) := by decide +kernel
theorem dX5_countRingsFrom_81 : decode cX5_countRingsFrom 81 = .ok (.goto (-40), 3) := by decide +kernel
theorem dX5_countRingsFrom_84 : decode cX5_countRingsFrom 84 = .ok (.lconst 0, 1) := by decide +kernel
theorem dX5_countRingsFrom_85 : decode cX5_countRingsFrom 85 = .ok (.lstore 5, 2) := by decide +kernel
theorem dX5_countRingsFrom_87 : decode cX5_countRingsFrom 87 = .ok (.iconst 0, 1) := by decide +kernel
theorem dX5_countRingsFrom_88 : decode cX5_countRingsFrom 88 = .ok (.istore 7, 2) := by decide +kernel
theorem dX5_countRingsFrom_90 : decode cX5_countRingsFrom 90 = .ok (.iload 7, 2) := by decide +kernel
theorem dX5_countRingsFrom_92 : decode cX5_countRingsFrom 92 = .ok (.aload 4, 2) := by decide +kernel
theorem dX5_countRingsFrom_94 : decode cX5_countRingsFrom 94 = .ok (.getfield 153, 3) := by decide +kernel
theorem dX5_countRingsFrom_97 : decode cX5_countRingsFrom 97 = .ok (.if_icmp .ge 98, 3) := by decide +kernel
theorem dX5_countRingsFrom_100 : decode cX5_countRingsFrom 100 = .ok (.aload 4, 2) := by decide +kernel
theorem dX5_countRingsFrom_102 : decode cX5_countRingsFrom 102 = .ok (.getfield 154, 3) := by decide +kernel
theorem dX5_countRingsFrom_105 : decode cX5_countRingsFrom 105 = .ok (.iload 7, 2) := by decide +kernel
theorem dX5_countRingsFrom_107 : decode cX5_countRingsFrom 107 = .ok (.iaload, 1) := by decide +kernel
theorem dX5_countRingsFrom_108 : decode cX5_countRingsFrom 108 = .ok (.istore 8, 2) := by decide +kernel
theorem dX5_countRingsFrom_110 : decode cX5_countRingsFrom 110 = .ok (.lconst 0, 1) := by decide +kernel
theorem dX5_countRingsFrom_111 : decode cX5_countRingsFrom 111 = .ok (.lstore 9, 2) := by decide +kernel
theorem dX5_countRingsFrom_113 : decode cX5_countRingsFrom 113 = .ok (.aload_n 0, 1) := by decide +kernel
theorem dX5_countRingsFrom_114 : decode cX5_countRingsFrom 114 = .ok (.getfield 63, 3) := by decide +kernel
theorem dX5_countRingsFrom_117 : decode cX5_countRingsFrom 117 = .ok (.getfield 128, 3) := by decide +kernel
theorem dX5_countRingsFrom_120 : decode cX5_countRingsFrom 120 = .ok (.iload 8, 2) := by decide +kernel
theorem dX5_countRingsFrom_122 : decode cX5_countRingsFrom 122 = .ok (.iaload, 1) := by decide +kernel
theorem dX5_countRingsFrom_123 : decode cX5_countRingsFrom 123 = .ok (.istore 11, 2) := by decide +kernel
theorem dX5_countRingsFrom_125 : decode cX5_countRingsFrom 125 = .ok (.iload 11, 2) := by decide +kernel
theorem dX5_countRingsFrom_127 : decode cX5_countRingsFrom 127 = .ok (.aload_n 0, 1) := by decide +kernel
theorem dX5_countRingsFrom_128 : decode cX5_countRingsFrom 128 = .ok (.getfield 63, 3) := by decide +kernel
theorem dX5_countRingsFrom_131 : decode cX5_countRingsFrom 131 = .ok (.getfield 128, 3) := by decide +kernel
theorem dX5_countRingsFrom_134 : decode cX5_countRingsFrom 134 = .ok (.iload 8, 2) := by decide +kernel
theorem dX5_countRingsFrom_136 : decode cX5_countRingsFrom 136 = .ok (.iconst 1, 1) := by decide +kernel
theorem dX5_countRingsFrom_137 : decode cX5_countRingsFrom 137 = .ok (.iadd, 1) := by decide +kernel
theorem dX5_countRingsFrom_138 : decode cX5_countRingsFrom 138 = .ok (.iaload, 1) := by decide +kernel
theorem dX5_countRingsFrom_139 : decode cX5_countRingsFrom 139 = .ok (.if_icmp .ge 34, 3) := by decide +kernel
theorem dX5_countRingsFrom_142 : decode cX5_countRingsFrom 142 = .ok (.lload 9, 2) := by decide +kernel
theorem dX5_countRingsFrom_144 : decode cX5_countRingsFrom 144 = .ok (.aload_n 3, 1) := by decide +kernel
theorem dX5_countRingsFrom_145 : decode cX5_countRingsFrom 145 = .ok (.getfield 124, 3) := by decide +kernel
theorem dX5_countRingsFrom_148 : decode cX5_countRingsFrom 148 = .ok (.aload_n 0, 1) := by decide +kernel
theorem dX5_countRingsFrom_149 : decode cX5_countRingsFrom 149 = .ok (.getfield 55, 3) := by decide +kernel
theorem dX5_countRingsFrom_152 : decode cX5_countRingsFrom 152 = .ok (.aload_n 0, 1) := by decide +kernel
theorem dX5_countRingsFrom_153 : decode cX5_countRingsFrom 153 = .ok (.getfield 63, 3) := by decide +kernel
theorem dX5_countRingsFrom_156 : decode cX5_countRingsFrom 156 = .ok (.getfield 139, 3) := by decide +kernel
theorem dX5_countRingsFrom_159 : decode cX5_countRingsFrom 159 = .ok (.iload 11, 2) := by decide +kernel
theorem dX5_countRingsFrom_161 : decode cX5_countRingsFrom 161 = .ok (.iaload, 1) := by decide +kernel
theorem dX5_countRingsFrom_162 : decode cX5_countRingsFrom 162 = .ok (.iaload, 1) := by decide +kernel
theorem dX5_countRingsFrom_163 : decode cX5_countRingsFrom 163 = .ok (.laload, 1) := by decide +kernel
theorem dX5_countRingsFrom_164 : decode cX5_countRingsFrom 164 = .ok (.ladd, 1) := by decide +kernel
theorem dX5_countRingsFrom_165 : decode cX5_countRingsFrom 165 = .ok (.lstore 9, 2) := by decide +kernel
theorem dX5_countRingsFrom_167 : decode cX5_countRingsFrom 167 = .ok (.iinc 11 1, 3) := by decide +kernel
theorem dX5_countRingsFrom_170 : decode cX5_countRingsFrom 170 = .ok (.goto (-45), 3) := by decide +kernel
theorem dX5_countRingsFrom_173 : decode cX5_countRingsFrom 173 = .ok (.lload 5, 2) := by decide +kernel
theorem dX5_countRingsFrom_175 : decode cX5_countRingsFrom 175 = .ok (.aload 4, 2) := by decide +kernel
theorem dX5_countRingsFrom_177 : decode cX5_countRingsFrom 177 = .ok (.getfield 124, 3) := by decide +kernel
theorem dX5_countRingsFrom_180 : decode cX5_countRingsFrom 180 = .ok (.iload 8, 2) := by decide +kernel
theorem dX5_countRingsFrom_182 : decode cX5_countRingsFrom 182 = .ok (.laload, 1) := by decide +kernel
theorem dX5_countRingsFrom_183 : decode cX5_countRingsFrom 183 = .ok (.lload 9, 2) := by decide +kernel
theorem dX5_countRingsFrom_185 : decode cX5_countRingsFrom 185 = .ok (.lmul, 1) := by decide +kernel
theorem dX5_countRingsFrom_186 : decode cX5_countRingsFrom 186 = .ok (.ladd, 1) := by decide +kernel
theorem dX5_countRingsFrom_187 : decode cX5_countRingsFrom 187 = .ok (.lstore 5, 2) := by decide +kernel
theorem dX5_countRingsFrom_189 : decode cX5_countRingsFrom 189 = .ok (.iinc 7 1, 3) := by decide +kernel
theorem dX5_countRingsFrom_192 : decode cX5_countRingsFrom 192 = .ok (.goto (-102), 3) := by decide +kernel
theorem dX5_countRingsFrom_195 : decode cX5_countRingsFrom 195 = .ok (.lload 5, 2) := by decide +kernel
theorem dX5_countRingsFrom_197 : decode cX5_countRingsFrom 197 = .ok (.lreturn, 1) := by decide +kernel
theorem dX5_countAroundMiddle_0 : decode cX5_countAroundMiddle 0 = .ok (.aload_n 0, 1) := by decide +kernel
theorem dX5_countAroundMiddle_1 : decode cX5_countAroundMiddle 1 = .ok (.iconst 1, 1) := by decide +kernel
theorem dX5_countAroundMiddle_2 : decode cX5_countAroundMiddle 2 = .ok (.invokevirtual 121, 3) := by decide +kernel
theorem dX5_countAroundMiddle_5 : decode cX5_countAroundMiddle 5 = .ok (.aload_n 0, 1) := by decide +kernel
theorem dX5_countAroundMiddle_6 : decode cX5_countAroundMiddle 6 = .ok (.getfield 17, 3) := by decide +kernel
theorem dX5_countAroundMiddle_9 : decode cX5_countAroundMiddle 9 = .ok (.iconst 1, 1) := by decide +kernel
theorem dX5_countAroundMiddle_10 : decode cX5_countAroundMiddle 10 = .ok (.aaload, 1) := by decide +kernel
theorem dX5_countAroundMiddle_11 : decode cX5_countAroundMiddle 11 = .ok (.astore_n 2, 1) := by decide +kernel
theorem dX5_countAroundMiddle_12 : decode cX5_countAroundMiddle 12 = .ok (.lconst 0, 1) := by decide +kernel
theorem dX5_countAroundMiddle_13 : decode cX5_countAroundMiddle 13 = .ok (.lstore_n 3, 1) := by decide +kernel
theorem dX5_countAroundMiddle_14 : decode cX5_countAroundMiddle 14 = .ok (.iconst 0, 1) := by decide +kernel
theorem dX5_countAroundMiddle_15 : decode cX5_countAroundMiddle 15 = .ok (.istore 5, 2) := by decide +kernel
theorem dX5_countAroundMiddle_17 : decode cX5_countAroundMiddle 17 = .ok (.iload 5, 2) := by decide +kernel
theorem dX5_countAroundMiddle_19 : decode cX5_countAroundMiddle 19 = .ok (.aload_n 0, 1) := by decide +kernel
theorem dX5_countAroundMiddle_20 : decode cX5_countAroundMiddle 20 = .ok (.getfield 35, 3) := by decide +kernel
theorem dX5_countAroundMiddle_23 : decode cX5_countAroundMiddle 23 = .ok (.if_icmp .ge 79, 3) := by decide +kernel
theorem dX5_countAroundMiddle_26 : decode cX5_countAroundMiddle 26 = .ok (.aload_n 0, 1) := by decide +kernel
theorem dX5_countAroundMiddle_27 : decode cX5_countAroundMiddle 27 = .ok (.getfield 52, 3) := by decide +kernel
theorem dX5_countAroundMiddle_30 : decode cX5_countAroundMiddle 30 = .ok (.iload 5, 2) := by decide +kernel
theorem dX5_countAroundMiddle_32 : decode cX5_countAroundMiddle 32 = .ok (.iaload, 1) := by decide +kernel
theorem dX5_countAroundMiddle_33 : decode cX5_countAroundMiddle 33 = .ok (.istore 6, 2) := by decide +kernel
theorem dX5_countAroundMiddle_35 : decode cX5_countAroundMiddle 35 = .ok (.aload_n 0, 1) := by decide +kernel
theorem dX5_countAroundMiddle_36 : decode cX5_countAroundMiddle 36 = .ok (.iload 5, 2) := by decide +kernel
theorem dX5_countAroundMiddle_38 : decode cX5_countAroundMiddle 38 = .ok (.iconst 1, 1) := by decide +kernel
theorem dX5_countAroundMiddle_39 : decode cX5_countAroundMiddle 39 = .ok (.invokevirtual 156, 3) := by decide +kernel
theorem dX5_countAroundMiddle_42 : decode cX5_countAroundMiddle 42 = .ok (.iload_n 1, 1) := by decide +kernel
theorem dX5_countAroundMiddle_43 : decode cX5_countAroundMiddle 43 = .ok (.if_icmp .ne 53, 3) := by decide +kernel
theorem dX5_countAroundMiddle_46 : decode cX5_countAroundMiddle 46 = .ok (.iload 6, 2) := by decide +kernel
theorem dX5_countAroundMiddle_48 : decode cX5_countAroundMiddle 48 = .ok (.iconst (-1), 1) := by decide +kernel
theorem dX5_countAroundMiddle_49 : decode cX5_countAroundMiddle 49 = .ok (.if_icmp .eq 47, 3) := by decide +kernel
theorem dX5_countAroundMiddle_52 : decode cX5_countAroundMiddle 52 = .ok (.aload_n 0, 1) := by decide +kernel
theorem dX5_countAroundMiddle_53 : decode cX5_countAroundMiddle 53 = .ok (.getfield 67, 3) := by decide +kernel
theorem dX5_countAroundMiddle_56 : decode cX5_countAroundMiddle 56 = .ok (.getfield 128, 3) := by decide +kernel
theorem dX5_countAroundMiddle_59 : decode cX5_countAroundMiddle 59 = .ok (.iload 6, 2) := by decide +kernel
theorem dX5_countAroundMiddle_61 : decode cX5_countAroundMiddle 61 = .ok (.iconst 1, 1) := by decide +kernel
theorem dX5_countAroundMiddle_62 : decode cX5_countAroundMiddle 62 = .ok (.iadd, 1) := by decide +kernel
theorem dX5_countAroundMiddle_63 : decode cX5_countAroundMiddle 63 = .ok (.iaload, 1) := by decide +kernel
theorem dX5_countAroundMiddle_64 : decode cX5_countAroundMiddle 64 = .ok (.aload_n 0, 1) := by decide +kernel
theorem dX5_countAroundMiddle_65 : decode cX5_countAroundMiddle 65 = .ok (.getfield 67, 3) := by decide +kernel
theorem dX5_countAroundMiddle_68 : decode cX5_countAroundMiddle 68 = .ok (.getfield 128, 3) := by decide +kernel
theorem dX5_countAroundMiddle_71 : decode cX5_countAroundMiddle 71 = .ok (.iload 6, 2) := by decide +kernel
theorem dX5_countAroundMiddle_73 : decode cX5_countAroundMiddle 73 = .ok (.iaload, 1) := by decide +kernel
theorem dX5_countAroundMiddle_74 : decode cX5_countAroundMiddle 74 = .ok (.isub, 1) := by decide +kernel
theorem dX5_countAroundMiddle_75 : decode cX5_countAroundMiddle 75 = .ok (.istore 7, 2) := by decide +kernel
theorem dX5_countAroundMiddle_77 : decode cX5_countAroundMiddle 77 = .ok (.lload_n 3, 1) := by decide +kernel
theorem dX5_countAroundMiddle_78 : decode cX5_countAroundMiddle 78 = .ok (.iload 7, 2) := by decide +kernel
theorem dX5_countAroundMiddle_80 : decode cX5_countAroundMiddle 80 = .ok (.i2l, 1) := by decide +kernel
theorem dX5_countAroundMiddle_81 : decode cX5_countAroundMiddle 81 = .ok (.aload_n 2, 1) := by decide +kernel
theorem dX5_countAroundMiddle_82 : decode cX5_countAroundMiddle 82 = .ok (.getfield 124, 3) := by decide +kernel
theorem dX5_countAroundMiddle_85 : decode cX5_countAroundMiddle 85 = .ok (.aload_n 0, 1) := by decide +kernel
theorem dX5_countAroundMiddle_86 : decode cX5_countAroundMiddle 86 = .ok (.getfield 55, 3) := by decide +kernel
theorem dX5_countAroundMiddle_89 : decode cX5_countAroundMiddle 89 = .ok (.iload 5, 2) := by decide +kernel
theorem dX5_countAroundMiddle_91 : decode cX5_countAroundMiddle 91 = .ok (.iaload, 1) := by decide +kernel
theorem dX5_countAroundMiddle_92 : decode cX5_countAroundMiddle 92 = .ok (.laload, 1) := by decide +kernel
theorem dX5_countAroundMiddle_93 : decode cX5_countAroundMiddle 93 = .ok (.lmul, 1) := by decide +kernel
theorem dX5_countAroundMiddle_94 : decode cX5_countAroundMiddle 94 = .ok (.ladd, 1) := by decide +kernel
theorem dX5_countAroundMiddle_95 : decode cX5_countAroundMiddle 95 = .ok (.lstore_n 3, 1) := by decide +kernel
theorem dX5_countAroundMiddle_96 : decode cX5_countAroundMiddle 96 = .ok (.iinc 5 1, 3) := by decide +kernel
theorem dX5_countAroundMiddle_99 : decode cX5_countAroundMiddle 99 = .ok (.goto (-82), 3) := by decide +kernel
theorem dX5_countAroundMiddle_102 : decode cX5_countAroundMiddle 102 = .ok (.lload_n 3, 1) := by decide +kernel
theorem dX5_countAroundMiddle_103 : decode cX5_countAroundMiddle 103 = .ok (.lreturn, 1) := by decide +kernel
theorem dX5_firstTileAt_0 : decode cX5_firstTileAt 0 = .ok (.aload_n 0, 1) := by decide +kernel
theorem dX5_firstTileAt_1 : decode cX5_firstTileAt 1 = .ok (.getfield 25, 3) := by decide +kernel
theorem dX5_firstTileAt_4 : decode cX5_firstTileAt 4 = .ok (.ifCond .eq 11, 3) := by decide +kernel
theorem dX5_firstTileAt_7 : decode cX5_firstTileAt 7 = .ok (.aload_n 0, 1) := by decide +kernel
theorem dX5_firstTileAt_8 : decode cX5_firstTileAt 8 = .ok (.iload_n 1, 1) := by decide +kernel
theorem dX5_firstTileAt_9 : decode cX5_firstTileAt 9 = .ok (.invokevirtual 159, 3) := by decide +kernel
theorem dX5_firstTileAt_12 : decode cX5_firstTileAt 12 = .ok (.goto 8, 3) := by decide +kernel
theorem dX5_firstTileAt_15 : decode cX5_firstTileAt 15 = .ok (.aload_n 0, 1) := by decide +kernel
theorem dX5_firstTileAt_16 : decode cX5_firstTileAt 16 = .ok (.iload_n 1, 1) := by decide +kernel
theorem dX5_firstTileAt_17 : decode cX5_firstTileAt 17 = .ok (.invokevirtual 162, 3) := by decide +kernel
theorem dX5_firstTileAt_20 : decode cX5_firstTileAt 20 = .ok (.istore 4, 2) := by decide +kernel
theorem dX5_firstTileAt_22 : decode cX5_firstTileAt 22 = .ok (.iload 4, 2) := by decide +kernel
theorem dX5_firstTileAt_24 : decode cX5_firstTileAt 24 = .ok (.iconst (-1), 1) := by decide +kernel
theorem dX5_firstTileAt_25 : decode cX5_firstTileAt 25 = .ok (.if_icmp .ne 5, 3) := by decide +kernel
theorem dX5_firstTileAt_28 : decode cX5_firstTileAt 28 = .ok (.iconst (-1), 1) := by decide +kernel
theorem dX5_firstTileAt_29 : decode cX5_firstTileAt 29 = .ok (.ireturn, 1) := by decide +kernel
theorem dX5_firstTileAt_30 : decode cX5_firstTileAt 30 = .ok (.aload_n 0, 1) := by decide +kernel
theorem dX5_firstTileAt_31 : decode cX5_firstTileAt 31 = .ok (.getfield 25, 3) := by decide +kernel
theorem dX5_firstTileAt_34 : decode cX5_firstTileAt 34 = .ok (.ifCond .eq 17, 3) := by decide +kernel
theorem dX5_firstTileAt_37 : decode cX5_firstTileAt 37 = .ok (.aload_n 0, 1) := by decide +kernel
theorem dX5_firstTileAt_38 : decode cX5_firstTileAt 38 = .ok (.aload_n 0, 1) := by decide +kernel
theorem dX5_firstTileAt_39 : decode cX5_firstTileAt 39 = .ok (.getfield 52, 3) := by decide +kernel
theorem dX5_firstTileAt_42 : decode cX5_firstTileAt 42 = .ok (.iload 4, 2) := by decide +kernel
theorem dX5_firstTileAt_44 : decode cX5_firstTileAt 44 = .ok (.iaload, 1) := by decide +kernel
theorem dX5_firstTileAt_45 : decode cX5_firstTileAt 45 = .ok (.iload_n 1, 1) := by decide +kernel
theorem dX5_firstTileAt_46 : decode cX5_firstTileAt 46 = .ok (.iconst 1, 1) := by decide +kernel
theorem dX5_firstTileAt_47 : decode cX5_firstTileAt 47 = .ok (.isub, 1) := by decide +kernel
theorem dX5_firstTileAt_48 : decode cX5_firstTileAt 48 = .ok (.invokevirtual 142, 3) := by decide +kernel
theorem dX5_firstTileAt_51 : decode cX5_firstTileAt 51 = .ok (.iconst 1, 1) := by decide +kernel
theorem dX5_firstTileAt_52 : decode cX5_firstTileAt 52 = .ok (.istore 5, 2) := by decide +kernel
theorem dX5_firstTileAt_54 : decode cX5_firstTileAt 54 = .ok (.iload 5, 2) := by decide +kernel
theorem dX5_firstTileAt_56 : decode cX5_firstTileAt 56 = .ok (.iload_n 3, 1) := by decide +kernel
theorem dX5_firstTileAt_57 : decode cX5_firstTileAt 57 = .ok (.if_icmp .gt 34, 3) := by decide +kernel
theorem dX5_firstTileAt_60 : decode cX5_firstTileAt 60 = .ok (.iload 4, 2) := by decide +kernel
theorem dX5_firstTileAt_62 : decode cX5_firstTileAt 62 = .ok (.iconst (-1), 1) := by decide +kernel
theorem dX5_firstTileAt_63 : decode cX5_firstTileAt 63 = .ok (.if_icmp .eq 28, 3) := by decide +kernel
theorem dX5_firstTileAt_66 : decode cX5_firstTileAt 66 = .ok (.aload_n 0, 1) := by decide +kernel
theorem dX5_firstTileAt_67 : decode cX5_firstTileAt 67 = .ok (.aload_n 0, 1) := by decide +kernel
theorem dX5_firstTileAt_68 : decode cX5_firstTileAt 68 = .ok (.getfield 55, 3) := by decide +kernel
theorem dX5_firstTileAt_71 : decode cX5_firstTileAt 71 = .ok (.iload 4, 2) := by decide +kernel
theorem dX5_firstTileAt_73 : decode cX5_firstTileAt 73 = .ok (.iaload, 1) := by decide +kernel
theorem dX5_firstTileAt_74 : decode cX5_firstTileAt 74 = .ok (.iload_n 1, 1) := by decide +kernel
theorem dX5_firstTileAt_75 : decode cX5_firstTileAt 75 = .ok (.iconst 1, 1) := by decide +kernel
theorem dX5_firstTileAt_76 : decode cX5_firstTileAt 76 = .ok (.isub, 1) := by decide +kernel
theorem dX5_firstTileAt_77 : decode cX5_firstTileAt 77 = .ok (.iload 5, 2) := by decide +kernel
theorem dX5_firstTileAt_79 : decode cX5_firstTileAt 79 = .ok (.isub, 1) := by decide +kernel
theorem dX5_firstTileAt_80 : decode cX5_firstTileAt 80 = .ok (.invokevirtual 165, 3) := by decide +kernel
theorem dX5_firstTileAt_83 : decode cX5_firstTileAt 83 = .ok (.istore 4, 2) := by decide +kernel
theorem dX5_firstTileAt_85 : decode cX5_firstTileAt 85 = .ok (.iinc 5 1, 3) := by decide +kernel
theorem dX5_firstTileAt_88 : decode cX5_firstTileAt 88 = .ok (.goto (-34), 3) := by decide +kernel
theorem dX5_firstTileAt_91 : decode cX5_firstTileAt 91 = .ok (.iload 4, 2) := by decide +kernel
theorem dX5_firstTileAt_93 : decode cX5_firstTileAt 93 = .ok (.iconst (-1), 1) := by decide +kernel
theorem dX5_firstTileAt_94 : decode cX5_firstTileAt 94 = .ok (.if_icmp .ne 7, 3) := by decide +kernel
theorem dX5_firstTileAt_97 : decode cX5_firstTileAt 97 = .ok (.iconst (-1), 1) := by decide +kernel
theorem dX5_firstTileAt_98 : decode cX5_firstTileAt 98 = .ok (.goto 10, 3) := by decide +kernel
theorem dX5_firstTileAt_101 : decode cX5_firstTileAt 101 = .ok (.aload_n 0, 1) := by decide +kernel
theorem dX5_firstTileAt_102 : decode cX5_firstTileAt 102 = .ok (.iload 4, 2) := by decide +kernel
theorem dX5_firstTileAt_104 : decode cX5_firstTileAt 104 = .ok (.iload_n 2, 1) := by decide +kernel
theorem dX5_firstTileAt_105 : decode cX5_firstTileAt 105 = .ok (.invokevirtual 156, 3) := by decide +kernel
theorem dX5_firstTileAt_108 : decode cX5_firstTileAt 108 = .ok (.ireturn, 1) := by decide +kernel
theorem dX5_firstOpenRow_0 : decode cX5_firstOpenRow 0 = .ok (.aload_n 0, 1) := by decide +kernel
theorem dX5_firstOpenRow_1 : decode cX5_firstOpenRow 1 = .ok (.iload_n 1, 1) := by decide +kernel
theorem dX5_firstOpenRow_2 : decode cX5_firstOpenRow 2 = .ok (.iconst 1, 1) := by decide +kernel
theorem dX5_firstOpenRow_3 : decode cX5_firstOpenRow 3 = .ok (.isub, 1) := by decide +kernel
theorem dX5_firstOpenRow_4 : decode cX5_firstOpenRow 4 = .ok (.invokevirtual 121, 3) := by decide +kernel
theorem dX5_firstOpenRow_7 : decode cX5_firstOpenRow 7 = .ok (.iconst 0, 1) := by decide +kernel
theorem dX5_firstOpenRow_8 : decode cX5_firstOpenRow 8 = .ok (.istore_n 2, 1) := by decide +kernel
theorem dX5_firstOpenRow_9 : decode cX5_firstOpenRow 9 = .ok (.iload_n 2, 1) := by decide +kernel
theorem dX5_firstOpenRow_10 : decode cX5_firstOpenRow 10 = .ok (.aload_n 0, 1) := by decide +kernel
theorem dX5_firstOpenRow_11 : decode cX5_firstOpenRow 11 = .ok (.getfield 35, 3) := by decide +kernel
theorem dX5_firstOpenRow_14 : decode cX5_firstOpenRow 14 = .ok (.if_icmp .ge 34, 3) := by decide +kernel
theorem dX5_firstOpenRow_17 : decode cX5_firstOpenRow 17 = .ok (.aload_n 0, 1) := by decide +kernel
theorem dX5_firstOpenRow_18 : decode cX5_firstOpenRow 18 = .ok (.getfield 17, 3) := by decide +kernel
theorem dX5_firstOpenRow_21 : decode cX5_firstOpenRow 21 = .ok (.iload_n 1, 1) := by decide +kernel
theorem dX5_firstOpenRow_22 : decode cX5_firstOpenRow 22 = .ok (.iconst 1, 1) := by decide +kernel
theorem dX5_firstOpenRow_23 : decode cX5_firstOpenRow 23 = .ok (.isub, 1) := by decide +kernel
theorem dX5_firstOpenRow_24 : decode cX5_firstOpenRow 24 = .ok (.aaload, 1) := by decide +kernel
theorem dX5_firstOpenRow_25 : decode cX5_firstOpenRow 25 = .ok (.getfield 124, 3) := by decide +kernel
theorem dX5_firstOpenRow_28 : decode cX5_firstOpenRow 28 = .ok (.aload_n 0, 1) := by decide +kernel
theorem dX5_firstOpenRow_29 : decode cX5_firstOpenRow 29 = .ok (.getfield 55, 3) := by decide +kernel
theorem dX5_firstOpenRow_32 : decode cX5_firstOpenRow 32 = .ok (.iload_n 2, 1) := by decide +kernel
theorem dX5_firstOpenRow_33 : decode cX5_firstOpenRow 33 = .ok (.iaload, 1) := by decide +kernel
theorem dX5_firstOpenRow_34 : decode cX5_firstOpenRow 34 = .ok (.laload, 1) := by decide +kernel
theorem dX5_firstOpenRow_35 : decode cX5_firstOpenRow 35 = .ok (.lconst 0, 1) := by decide +kernel
theorem dX5_firstOpenRow_36 : decode cX5_firstOpenRow 36 = .ok (.lcmp, 1) := by decide +kernel
theorem dX5_firstOpenRow_37 : decode cX5_firstOpenRow 37 = .ok (.ifCond .le 5, 3) := by decide +kernel
theorem dX5_firstOpenRow_40 : decode cX5_firstOpenRow 40 = .ok (.iload_n 2, 1) := by decide +kernel
theorem dX5_firstOpenRow_41 : decode cX5_firstOpenRow 41 = .ok (.ireturn, 1) := by decide +kernel
theorem dX5_firstOpenRow_42 : decode cX5_firstOpenRow 42 = .ok (.iinc 2 1, 3) := by decide +kernel
theorem dX5_firstOpenRow_45 : decode cX5_firstOpenRow 45 = .ok (.goto (-36), 3) := by decide +kernel
theorem dX5_firstOpenRow_48 : decode cX5_firstOpenRow 48 = .ok (.iconst (-1), 1) := by decide +kernel
theorem dX5_firstOpenRow_49 : decode cX5_firstOpenRow 49 = .ok (.ireturn, 1) := by decide +kernel
theorem dX5_firstRingRow_0 : decode cX5_firstRingRow 0 = .ok (.aload_n 0, 1) := by decide +kernel
theorem dX5_firstRingRow_1 : decode cX5_firstRingRow 1 = .ok (.getfield 35, 3) := by decide +kernel
theorem dX5_firstRingRow_4 : decode cX5_firstRingRow 4 = .ok (.istore_n 2, 1) := by decide +kernel
theorem dX5_firstRingRow_5 : decode cX5_firstRingRow 5 = .ok (.iconst 0, 1) := by decide +kernel
theorem dX5_firstRingRow_6 : decode cX5_firstRingRow 6 = .ok (.istore_n 3, 1) := by decide +kernel
theorem dX5_firstRingRow_7 : decode cX5_firstRingRow 7 = .ok (.iload_n 3, 1) := by decide +kernel
theorem dX5_firstRingRow_8 : decode cX5_firstRingRow 8 = .ok (.iload_n 2, 1) := by decide +kernel
theorem dX5_firstRingRow_9 : decode cX5_firstRingRow 9 = .ok (.if_icmp .ge 76, 3) := by decide +kernel
theorem dX5_firstRingRow_12 : decode cX5_firstRingRow 12 = .ok (.aload_n 0, 1) := by decide +kernel
theorem dX5_firstRingRow_13 : decode cX5_firstRingRow 13 = .ok (.getfield 52, 3) := by decide +kernel
theorem dX5_firstRingRow_16 : decode cX5_firstRingRow 16 = .ok (.iload_n 3, 1) := by decide +kernel
theorem dX5_firstRingRow_17 : decode cX5_firstRingRow 17 = .ok (.iaload, 1) := by decide +kernel
theorem dX5_firstRingRow_18 : decode cX5_firstRingRow 18 = .ok (.istore 4, 2) := by decide +kernel
theorem dX5_firstRingRow_20 : decode cX5_firstRingRow 20 = .ok (.aload_n 0, 1) := by decide +kernel
theorem dX5_firstRingRow_21 : decode cX5_firstRingRow 21 = .ok (.getfield 63, 3) := by decide +kernel
theorem dX5_firstRingRow_24 : decode cX5_firstRingRow 24 = .ok (.getfield 139, 3) := by decide +kernel
theorem dX5_firstRingRow_27 : decode cX5_firstRingRow 27 = .ok (.aload_n 0, 1) := by decide +kernel
theorem dX5_firstRingRow_28 : decode cX5_firstRingRow 28 = .ok (.getfield 63, 3) := by decide +kernel
theorem dX5_firstRingRow_31 : decode cX5_firstRingRow 31 = .ok (.getfield 128, 3) := by decide +kernel
theorem dX5_firstRingRow_34 : decode cX5_firstRingRow 34 = .ok (.iload 4, 2) := by decide +kernel
theorem dX5_firstRingRow_36 : decode cX5_firstRingRow 36 = .ok (.iaload, 1) := by decide +kernel
theorem dX5_firstRingRow_37 : decode cX5_firstRingRow 37 = .ok (.iaload, 1) := by decide +kernel
theorem dX5_firstRingRow_38 : decode cX5_firstRingRow 38 = .ok (.iload_n 3, 1) := by decide +kernel
theorem dX5_firstRingRow_39 : decode cX5_firstRingRow 39 = .ok (.if_icmp .ne 40, 3) := by decide +kernel
theorem dX5_firstRingRow_42 : decode cX5_firstRingRow 42 = .ok (.aload_n 0, 1) := by decide +kernel
theorem dX5_firstRingRow_43 : decode cX5_firstRingRow 43 = .ok (.iload 4, 2) := by decide +kernel
theorem dX5_firstRingRow_45 : decode cX5_firstRingRow 45 = .ok (.iload_n 1, 1) := by decide +kernel
theorem dX5_firstRingRow_46 : decode cX5_firstRingRow 46 = .ok (.iconst 1, 1) := by decide +kernel
theorem dX5_firstRingRow_47 : decode cX5_firstRingRow 47 = .ok (.isub, 1) := by decide +kernel
theorem dX5_firstRingRow_48 : decode cX5_firstRingRow 48 = .ok (.invokevirtual 142, 3) := by decide +kernel
theorem dX5_firstRingRow_51 : decode cX5_firstRingRow 51 = .ok (.aload_n 0, 1) := by decide +kernel
theorem dX5_firstRingRow_52 : decode cX5_firstRingRow 52 = .ok (.iload 4, 2) := by decide +kernel
theorem dX5_firstRingRow_54 : decode cX5_firstRingRow 54 = .ok (.iload_n 1, 1) := by decide +kernel
theorem dX5_firstRingRow_55 : decode cX5_firstRingRow 55 = .ok (.iconst 1, 1) := by decide +kernel
theorem dX5_firstRingRow_56 : decode cX5_firstRingRow 56 = .ok (.isub, 1) := by decide +kernel
theorem dX5_firstRingRow_57 : decode cX5_firstRingRow 57 = .ok (.invokevirtual 165, 3) := by decide +kernel
theorem dX5_firstRingRow_60 : decode cX5_firstRingRow 60 = .ok (.istore 5, 2) := by decide +kernel
theorem dX5_firstRingRow_62 : decode cX5_firstRingRow 62 = .ok (.iload 5, 2) := by decide +kernel
theorem dX5_firstRingRow_64 : decode cX5_firstRingRow 64 = .ok (.iconst (-1), 1) := by decide +kernel
theorem dX5_firstRingRow_65 : decode cX5_firstRingRow 65 = .ok (.if_icmp .ne 7, 3) := by decide +kernel
theorem dX5_firstRingRow_68 : decode cX5_firstRingRow 68 = .ok (.iload_n 2, 1) := by decide +kernel
theorem dX5_firstRingRow_69 : decode cX5_firstRingRow 69 = .ok (.goto 9, 3) := by decide +kernel
theorem dX5_firstRingRow_72 : decode cX5_firstRingRow 72 = .ok (.iload_n 2, 1) := by decide +kernel
theorem dX5_firstRingRow_73 : decode cX5_firstRingRow 73 = .ok (.iload 5, 2) := by decide +kernel
theorem dX5_firstRingRow_75 : decode cX5_firstRingRow 75 = .ok (.invokestatic 168, 3) := by decide +kernel
theorem dX5_firstRingRow_78 : decode cX5_firstRingRow 78 = .ok (.istore_n 2, 1) := by decide +kernel
theorem dX5_firstRingRow_79 : decode cX5_firstRingRow 79 = .ok (.iinc 3 1, 3) := by decide +kernel
theorem dX5_firstRingRow_82 : decode cX5_firstRingRow 82 = .ok (.goto (-75), 3) := by decide +kernel
theorem dX5_firstRingRow_85 : decode cX5_firstRingRow 85 = .ok (.iload_n 2, 1) := by decide +kernel
theorem dX5_firstRingRow_86 : decode cX5_firstRingRow 86 = .ok (.aload_n 0, 1) := by decide +kernel
theorem dX5_firstRingRow_87 : decode cX5_firstRingRow 87 = .ok (.getfield 35, 3) := by decide +kernel
theorem dX5_firstRingRow_90 : decode cX5_firstRingRow 90 = .ok (.if_icmp .ge 7, 3) := by decide +kernel
theorem dX5_firstRingRow_93 : decode cX5_firstRingRow 93 = .ok (.iload_n 2, 1) := by decide +kernel
theorem dX5_firstRingRow_94 : decode cX5_firstRingRow 94 = .ok (.goto 4, 3) := by decide +kernel
theorem dX5_firstRingRow_97 : decode cX5_firstRingRow 97 = .ok (.iconst (-1), 1) := by decide +kernel
theorem dX5_firstRingRow_98 : decode cX5_firstRingRow 98 = .ok (.ireturn, 1) := by decide +kernel
theorem dX5_firstBelow_0 : decode cX5_firstBelow 0 = .ok (.aload_n 0, 1) := by decide +kernel
theorem dX5_firstBelow_1 : decode cX5_firstBelow 1 = .ok (.getfield 63, 3) := by decide +kernel
theorem dX5_firstBelow_4 : decode cX5_firstBelow 4 = .ok (.getfield 128, 3) := by decide +kernel
theorem dX5_firstBelow_7 : decode cX5_firstBelow 7 = .ok (.iload_n 1, 1) := by decide +kernel
theorem dX5_firstBelow_8 : decode cX5_firstBelow 8 = .ok (.iaload, 1) := by decide +kernel
theorem dX5_firstBelow_9 : decode cX5_firstBelow 9 = .ok (.istore_n 3, 1) := by decide +kernel
theorem dX5_firstBelow_10 : decode cX5_firstBelow 10 = .ok (.iload_n 3, 1) := by decide +kernel
theorem dX5_firstBelow_11 : decode cX5_firstBelow 11 = .ok (.aload_n 0, 1) := by decide +kernel
theorem dX5_firstBelow_12 : decode cX5_firstBelow 12 = .ok (.getfield 63, 3) := by decide +kernel
theorem dX5_firstBelow_15 : decode cX5_firstBelow 15 = .ok (.getfield 128, 3) := by decide +kernel
theorem dX5_firstBelow_18 : decode cX5_firstBelow 18 = .ok (.iload_n 1, 1) := by decide +kernel
theorem dX5_firstBelow_19 : decode cX5_firstBelow 19 = .ok (.iconst 1, 1) := by decide +kernel
theorem dX5_firstBelow_20 : decode cX5_firstBelow 20 = .ok (.iadd, 1) := by decide +kernel
theorem dX5_firstBelow_21 : decode cX5_firstBelow 21 = .ok (.iaload, 1) := by decide +kernel
theorem dX5_firstBelow_22 : decode cX5_firstBelow 22 = .ok (.if_icmp .ge 45, 3) := by decide +kernel
theorem dX5_firstBelow_25 : decode cX5_firstBelow 25 = .ok (.aload_n 0, 1) := by decide +kernel
theorem dX5_firstBelow_26 : decode cX5_firstBelow 26 = .ok (.getfield 63, 3) := by decide +kernel
theorem dX5_firstBelow_29 : decode cX5_firstBelow 29 = .ok (.getfield 139, 3) := by decide +kernel
theorem dX5_firstBelow_32 : decode cX5_firstBelow 32 = .ok (.iload_n 3, 1) := by decide +kernel
theorem dX5_firstBelow_33 : decode cX5_firstBelow 33 = .ok (.iaload, 1) := by decide +kernel
theorem dX5_firstBelow_34 : decode cX5_firstBelow 34 = .ok (.istore 4, 2) := by decide +kernel
theorem dX5_firstBelow_36 : decode cX5_firstBelow 36 = .ok (.aload_n 0, 1) := by decide +kernel
theorem dX5_firstBelow_37 : decode cX5_firstBelow 37 = .ok (.getfield 17, 3) := by decide +kernel
theorem dX5_firstBelow_40 : decode cX5_firstBelow 40 = .ok (.iload_n 2, 1) := by decide +kernel
theorem dX5_firstBelow_41 : decode cX5_firstBelow 41 = .ok (.aaload, 1) := by decide +kernel
theorem dX5_firstBelow_42 : decode cX5_firstBelow 42 = .ok (.getfield 124, 3) := by decide +kernel
theorem dX5_firstBelow_45 : decode cX5_firstBelow 45 = .ok (.aload_n 0, 1) := by decide +kernel
theorem dX5_firstBelow_46 : decode cX5_firstBelow 46 = .ok (.getfield 55, 3) := by decide +kernel
theorem dX5_firstBelow_49 : decode cX5_firstBelow 49 = .ok (.iload 4, 2) := by decide +kernel
theorem dX5_firstBelow_51 : decode cX5_firstBelow 51 = .ok (.iaload, 1) := by decide +kernel
theorem dX5_firstBelow_52 : decode cX5_firstBelow 52 = .ok (.laload, 1) := by decide +kernel
theorem dX5_firstBelow_53 : decode cX5_firstBelow 53 = .ok (.lconst 0, 1) := by decide +kernel
theorem dX5_firstBelow_54 : decode cX5_firstBelow 54 = .ok (.lcmp, 1) := by decide +kernel
theorem dX5_firstBelow_55 : decode cX5_firstBelow 55 = .ok (.ifCond .le 6, 3) := by decide +kernel
theorem dX5_firstBelow_58 : decode cX5_firstBelow 58 = .ok (.iload 4, 2) := by decide +kernel
theorem dX5_firstBelow_60 : decode cX5_firstBelow 60 = .ok (.ireturn, 1) := by decide +kernel
theorem dX5_firstBelow_61 : decode cX5_firstBelow 61 = .ok (.iinc 3 1, 3) := by decide +kernel
theorem dX5_firstBelow_64 : decode cX5_firstBelow 64 = .ok (.goto (-54), 3) := by decide +kernel
theorem dX5_firstBelow_67 : decode cX5_firstBelow 67 = .ok (.iconst (-1), 1) := by decide +kernel
theorem dX5_firstBelow_68 : decode cX5_firstBelow 68 = .ok (.ireturn, 1) := by decide +kernel
theorem dX5_tileAt_0 : decode cX5_tileAt 0 = .ok (.aload_n 0, 1) := by decide +kernel
theorem dX5_tileAt_1 : decode cX5_tileAt 1 = .ok (.getfield 49, 3) := by decide +kernel
theorem dX5_tileAt_4 : decode cX5_tileAt 4 = .ok (.iload_n 1, 1) := by decide +kernel
theorem dX5_tileAt_5 : decode cX5_tileAt 5 = .ok (.iaload, 1) := by decide +kernel
theorem dX5_tileAt_6 : decode cX5_tileAt 6 = .ok (.iconst 3, 1) := by decide +kernel
theorem dX5_tileAt_7 : decode cX5_tileAt 7 = .ok (.aload_n 0, 1) := by decide +kernel
theorem dX5_tileAt_8 : decode cX5_tileAt 8 = .ok (.getfield 21, 3) := by decide +kernel
theorem dX5_tileAt_11 : decode cX5_tileAt 11 = .ok (.iconst 1, 1) := by decide +kernel
theorem dX5_tileAt_12 : decode cX5_tileAt 12 = .ok (.isub, 1) := by decide +kernel
theorem dX5_tileAt_13 : decode cX5_tileAt 13 = .ok (.iload_n 2, 1) := by decide +kernel
theorem dX5_tileAt_14 : decode cX5_tileAt 14 = .ok (.isub, 1) := by decide +kernel
theorem dX5_tileAt_15 : decode cX5_tileAt 15 = .ok (.imul, 1) := by decide +kernel
theorem dX5_tileAt_16 : decode cX5_tileAt 16 = .ok (.ishr, 1) := by decide +kernel
theorem dX5_tileAt_17 : decode cX5_tileAt 17 = .ok (.bipush 7, 2) := by decide +kernel
theorem dX5_tileAt_19 : decode cX5_tileAt 19 = .ok (.iand, 1) := by decide +kernel
theorem dX5_tileAt_20 : decode cX5_tileAt 20 = .ok (.ireturn, 1) := by decide +kernel
theorem dX5_aimAnywhere_0 : decode cX5_aimAnywhere 0 = .ok (.aload_n 0, 1) := by decide +kernel
theorem dX5_aimAnywhere_1 : decode cX5_aimAnywhere 1 = .ok (.getfield 17, 3) := by decide +kernel
theorem dX5_aimAnywhere_4 : decode cX5_aimAnywhere 4 = .ok (.iconst 0, 1) := by decide +kernel
theorem dX5_aimAnywhere_5 : decode cX5_aimAnywhere 5 = .ok (.aaload, 1) := by decide +kernel
theorem dX5_aimAnywhere_6 : decode cX5_aimAnywhere 6 = .ok (.invokevirtual 146, 3) := by decide +kernel
theorem dX5_aimAnywhere_9 : decode cX5_aimAnywhere 9 = .ok (.iconst 0, 1) := by decide +kernel
theorem dX5_aimAnywhere_10 : decode cX5_aimAnywhere 10 = .ok (.istore_n 2, 1) := by decide +kernel
theorem dX5_aimAnywhere_11 : decode cX5_aimAnywhere 11 = .ok (.iload_n 2, 1) := by decide +kernel
theorem dX5_aimAnywhere_12 : decode cX5_aimAnywhere 12 = .ok (.aload_n 0, 1) := by decide +kernel
theorem dX5_aimAnywhere_13 : decode cX5_aimAnywhere 13 = .ok (.getfield 32, 3) := by decide +kernel
theorem dX5_aimAnywhere_16 : decode cX5_aimAnywhere 16 = .ok (.if_icmp .ge 20, 3) := by decide +kernel
theorem dX5_aimAnywhere_19 : decode cX5_aimAnywhere 19 = .ok (.aload_n 0, 1) := by decide +kernel
theorem dX5_aimAnywhere_20 : decode cX5_aimAnywhere 20 = .ok (.getfield 17, 3) := by decide +kernel
theorem dX5_aimAnywhere_23 : decode cX5_aimAnywhere 23 = .ok (.iconst 0, 1) := by decide +kernel
theorem dX5_aimAnywhere_24 : decode cX5_aimAnywhere 24 = .ok (.aaload, 1) := by decide +kernel
theorem dX5_aimAnywhere_25 : decode cX5_aimAnywhere 25 = .ok (.iload_n 2, 1) := by decide +kernel
theorem dX5_aimAnywhere_26 : decode cX5_aimAnywhere 26 = .ok (.lconst 1, 1) := by decide +kernel
theorem dX5_aimAnywhere_27 : decode cX5_aimAnywhere 27 = .ok (.invokevirtual 149, 3) := by decide +kernel
theorem dX5_aimAnywhere_30 : decode cX5_aimAnywhere 30 = .ok (.iinc 2 1, 3) := by decide +kernel
theorem dX5_aimAnywhere_33 : decode cX5_aimAnywhere 33 = .ok (.goto (-22), 3) := by decide +kernel
theorem dX5_aimAnywhere_36 : decode cX5_aimAnywhere 36 = .ok (.aload_n 0, 1) := by decide +kernel
theorem dX5_aimAnywhere_37 : decode cX5_aimAnywhere 37 = .ok (.iload_n 1, 1) := by decide +kernel
theorem dX5_aimAnywhere_38 : decode cX5_aimAnywhere 38 = .ok (.invokevirtual 173, 3) := by decide +kernel
theorem dX5_aimAnywhere_41 : decode cX5_aimAnywhere 41 = .ok (.return_, 1) := by decide +kernel
theorem dX5_aimAt_0 : decode cX5_aimAt 0 = .ok (.aload_n 0, 1) := by decide +kernel
theorem dX5_aimAt_1 : decode cX5_aimAt 1 = .ok (.getfield 17, 3) := by decide +kernel
theorem dX5_aimAt_4 : decode cX5_aimAt 4 = .ok (.iconst 0, 1) := by decide +kernel
theorem dX5_aimAt_5 : decode cX5_aimAt 5 = .ok (.aaload, 1) := by decide +kernel
theorem dX5_aimAt_6 : decode cX5_aimAt 6 = .ok (.invokevirtual 146, 3) := by decide +kernel
theorem dX5_aimAt_9 : decode cX5_aimAt 9 = .ok (.aload_n 0, 1) := by decide +kernel
theorem dX5_aimAt_10 : decode cX5_aimAt 10 = .ok (.getfield 17, 3) := by decide +kernel
theorem dX5_aimAt_13 : decode cX5_aimAt 13 = .ok (.iconst 0, 1) := by decide +kernel
theorem dX5_aimAt_14 : decode cX5_aimAt 14 = .ok (.aaload, 1) := by decide +kernel
theorem dX5_aimAt_15 : decode cX5_aimAt 15 = .ok (.iload_n 1, 1) := by decide +kernel
theorem dX5_aimAt_16 : decode cX5_aimAt 16 = .ok (.lconst 1, 1) := by decide +kernel
theorem dX5_aimAt_17 : decode cX5_aimAt 17 = .ok (.invokevirtual 149, 3) := by decide +kernel
theorem dX5_aimAt_20 : decode cX5_aimAt 20 = .ok (.aload_n 0, 1) := by decide +kernel
theorem dX5_aimAt_21 : decode cX5_aimAt 21 = .ok (.iload_n 2, 1) := by decide +kernel
theorem dX5_aimAt_22 : decode cX5_aimAt 22 = .ok (.invokevirtual 173, 3) := by decide +kernel
theorem dX5_aimAt_25 : decode cX5_aimAt 25 = .ok (.return_, 1) := by decide +kernel
theorem dX5_climb_0 : decode cX5_climb 0 = .ok (.iconst 0, 1) := by decide +kernel
theorem dX5_climb_1 : decode cX5_climb 1 = .ok (.istore_n 2, 1) := by decide +kernel
theorem dX5_climb_2 : decode cX5_climb 2 = .ok (.iload_n 2, 1) := by decide +kernel
theorem dX5_climb_3 : decode cX5_climb 3 = .ok (.iload_n 1, 1) := by decide +kernel
theorem dX5_climb_4 : decode cX5_climb 4 = .ok (.if_icmp .ge 130, 3) := by decide +kernel
theorem dX5_climb_7 : decode cX5_climb 7 = .ok (.aload_n 0, 1) := by decide +kernel
theorem dX5_climb_8 : decode cX5_climb 8 = .ok (.getfield 17, 3) := by decide +kernel
theorem dX5_climb_11 : decode cX5_climb 11 = .ok (.iload_n 2, 1) := by decide +kernel
theorem dX5_climb_12 : decode cX5_climb 12 = .ok (.aaload, 1) := by decide +kernel
theorem dX5_climb_13 : decode cX5_climb 13 = .ok (.astore_n 3, 1) := by decide +kernel
theorem dX5_climb_14 : decode cX5_climb 14 = .ok (.aload_n 0, 1) := by decide +kernel
theorem dX5_climb_15 : decode cX5_climb 15 = .ok (.getfield 17, 3) := by decide +kernel
theorem dX5_climb_18 : decode cX5_climb 18 = .ok (.iload_n 2, 1) := by decide +kernel
theorem dX5_climb_19 : decode cX5_climb 19 = .ok (.iconst 1, 1) := by decide +kernel
theorem dX5_climb_20 : decode cX5_climb 20 = .ok (.iadd, 1) := by decide +kernel
theorem dX5_climb_21 : decode cX5_climb 21 = .ok (.aaload, 1) := by decide +kernel
theorem dX5_climb_22 : decode cX5_climb 22 = .ok (.astore 4, 2) := by decide +kernel
