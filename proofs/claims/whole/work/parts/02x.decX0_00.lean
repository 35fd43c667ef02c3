theorem dX0_init_0 : decode cX0_init 0 = .ok (.aload_n 0, 1) := by decide +kernel
theorem dX0_init_1 : decode cX0_init 1 = .ok (.invokespecial 3, 3) := by decide +kernel
theorem dX0_init_4 : decode cX0_init 4 = .ok (.aload_n 0, 1) := by decide +kernel
theorem dX0_init_5 : decode cX0_init 5 = .ok (.iconst 1, 1) := by decide +kernel
theorem dX0_init_6 : decode cX0_init 6 = .ok (.putfield 9, 3) := by decide +kernel
theorem dX0_init_9 : decode cX0_init 9 = .ok (.aload_n 0, 1) := by decide +kernel
theorem dX0_init_10 : decode cX0_init 10 = .ok (.iconst 2, 1) := by decide +kernel
theorem dX0_init_11 : decode cX0_init 11 = .ok (.putfield 15, 3) := by decide +kernel
theorem dX0_init_14 : decode cX0_init 14 = .ok (.aload_n 0, 1) := by decide +kernel
theorem dX0_init_15 : decode cX0_init 15 = .ok (.bipush 6, 2) := by decide +kernel
theorem dX0_init_17 : decode cX0_init 17 = .ok (.bipush 9, 2) := by decide +kernel
theorem dX0_init_19 : decode cX0_init 19 = .ok (.multianewarray 18 2, 4) := by decide +kernel
theorem dX0_init_23 : decode cX0_init 23 = .ok (.putfield 20, 3) := by decide +kernel
theorem dX0_init_26 : decode cX0_init 26 = .ok (.aload_n 0, 1) := by decide +kernel
theorem dX0_init_27 : decode cX0_init 27 = .ok (.bipush 6, 2) := by decide +kernel
theorem dX0_init_29 : decode cX0_init 29 = .ok (.newarray .long, 2) := by decide +kernel
theorem dX0_init_31 : decode cX0_init 31 = .ok (.putfield 23, 3) := by decide +kernel
theorem dX0_init_34 : decode cX0_init 34 = .ok (.aload_n 0, 1) := by decide +kernel
theorem dX0_init_35 : decode cX0_init 35 = .ok (.bipush 6, 2) := by decide +kernel
theorem dX0_init_37 : decode cX0_init 37 = .ok (.newarray .long, 2) := by decide +kernel
theorem dX0_init_39 : decode cX0_init 39 = .ok (.putfield 27, 3) := by decide +kernel
theorem dX0_init_42 : decode cX0_init 42 = .ok (.aload_n 0, 1) := by decide +kernel
theorem dX0_init_43 : decode cX0_init 43 = .ok (.bipush 6, 2) := by decide +kernel
theorem dX0_init_45 : decode cX0_init 45 = .ok (.newarray .int, 2) := by decide +kernel
theorem dX0_init_47 : decode cX0_init 47 = .ok (.putfield 30, 3) := by decide +kernel
theorem dX0_init_50 : decode cX0_init 50 = .ok (.aload_n 0, 1) := by decide +kernel
theorem dX0_init_51 : decode cX0_init 51 = .ok (.bipush 6, 2) := by decide +kernel
theorem dX0_init_53 : decode cX0_init 53 = .ok (.newarray .int, 2) := by decide +kernel
theorem dX0_init_55 : decode cX0_init 55 = .ok (.putfield 34, 3) := by decide +kernel
theorem dX0_init_58 : decode cX0_init 58 = .ok (.return_, 1) := by decide +kernel
theorem dX0_reset_0 : decode cX0_reset 0 = .ok (.aload_n 0, 1) := by decide +kernel
theorem dX0_reset_1 : decode cX0_reset 1 = .ok (.iload_n 1, 1) := by decide +kernel
theorem dX0_reset_2 : decode cX0_reset 2 = .ok (.putfield 9, 3) := by decide +kernel
theorem dX0_reset_5 : decode cX0_reset 5 = .ok (.aload_n 0, 1) := by decide +kernel
theorem dX0_reset_6 : decode cX0_reset 6 = .ok (.iload_n 2, 1) := by decide +kernel
theorem dX0_reset_7 : decode cX0_reset 7 = .ok (.putfield 15, 3) := by decide +kernel
theorem dX0_reset_10 : decode cX0_reset 10 = .ok (.iconst 0, 1) := by decide +kernel
theorem dX0_reset_11 : decode cX0_reset 11 = .ok (.istore_n 3, 1) := by decide +kernel
theorem dX0_reset_12 : decode cX0_reset 12 = .ok (.iload_n 3, 1) := by decide +kernel
theorem dX0_reset_13 : decode cX0_reset 13 = .ok (.bipush 6, 2) := by decide +kernel
theorem dX0_reset_15 : decode cX0_reset 15 = .ok (.if_icmp .ge 19, 3) := by decide +kernel
theorem dX0_reset_18 : decode cX0_reset 18 = .ok (.aload_n 0, 1) := by decide +kernel
theorem dX0_reset_19 : decode cX0_reset 19 = .ok (.getfield 20, 3) := by decide +kernel
theorem dX0_reset_22 : decode cX0_reset 22 = .ok (.iload_n 3, 1) := by decide +kernel
theorem dX0_reset_23 : decode cX0_reset 23 = .ok (.aaload, 1) := by decide +kernel
theorem dX0_reset_24 : decode cX0_reset 24 = .ok (.iconst 0, 1) := by decide +kernel
theorem dX0_reset_25 : decode cX0_reset 25 = .ok (.invokestatic 37, 3) := by decide +kernel
theorem dX0_reset_28 : decode cX0_reset 28 = .ok (.iinc 3 1, 3) := by decide +kernel
theorem dX0_reset_31 : decode cX0_reset 31 = .ok (.goto (-19), 3) := by decide +kernel
theorem dX0_reset_34 : decode cX0_reset 34 = .ok (.return_, 1) := by decide +kernel
theorem dX0_replace_0 : decode cX0_replace 0 = .ok (.aload_n 0, 1) := by decide +kernel
theorem dX0_replace_1 : decode cX0_replace 1 = .ok (.iload_n 1, 1) := by decide +kernel
theorem dX0_replace_2 : decode cX0_replace 2 = .ok (.iload_n 2, 1) := by decide +kernel
theorem dX0_replace_3 : decode cX0_replace 3 = .ok (.iload_n 3, 1) := by decide +kernel
theorem dX0_replace_4 : decode cX0_replace 4 = .ok (.invokevirtual 43, 3) := by decide +kernel
theorem dX0_replace_7 : decode cX0_replace 7 = .ok (.istore 5, 2) := by decide +kernel
theorem dX0_replace_9 : decode cX0_replace 9 = .ok (.aload_n 0, 1) := by decide +kernel
theorem dX0_replace_10 : decode cX0_replace 10 = .ok (.getfield 20, 3) := by decide +kernel
theorem dX0_replace_13 : decode cX0_replace 13 = .ok (.iload_n 1, 1) := by decide +kernel
theorem dX0_replace_14 : decode cX0_replace 14 = .ok (.aaload, 1) := by decide +kernel
theorem dX0_replace_15 : decode cX0_replace 15 = .ok (.aload_n 0, 1) := by decide +kernel
theorem dX0_replace_16 : decode cX0_replace 16 = .ok (.getfield 15, 3) := by decide +kernel
theorem dX0_replace_19 : decode cX0_replace 19 = .ok (.iload_n 3, 1) := by decide +kernel
theorem dX0_replace_20 : decode cX0_replace 20 = .ok (.imul, 1) := by decide +kernel
theorem dX0_replace_21 : decode cX0_replace 21 = .ok (.iload_n 2, 1) := by decide +kernel
theorem dX0_replace_22 : decode cX0_replace 22 = .ok (.iadd, 1) := by decide +kernel
theorem dX0_replace_23 : decode cX0_replace 23 = .ok (.iload 4, 2) := by decide +kernel
theorem dX0_replace_25 : decode cX0_replace 25 = .ok (.iastore, 1) := by decide +kernel
theorem dX0_replace_26 : decode cX0_replace 26 = .ok (.iload 5, 2) := by decide +kernel
theorem dX0_replace_28 : decode cX0_replace 28 = .ok (.ireturn, 1) := by decide +kernel
theorem dX0_at_0 : decode cX0_at 0 = .ok (.aload_n 0, 1) := by decide +kernel
theorem dX0_at_1 : decode cX0_at 1 = .ok (.getfield 20, 3) := by decide +kernel
theorem dX0_at_4 : decode cX0_at 4 = .ok (.iload_n 1, 1) := by decide +kernel
theorem dX0_at_5 : decode cX0_at 5 = .ok (.aaload, 1) := by decide +kernel
theorem dX0_at_6 : decode cX0_at 6 = .ok (.aload_n 0, 1) := by decide +kernel
theorem dX0_at_7 : decode cX0_at 7 = .ok (.getfield 15, 3) := by decide +kernel
theorem dX0_at_10 : decode cX0_at 10 = .ok (.iload_n 3, 1) := by decide +kernel
theorem dX0_at_11 : decode cX0_at 11 = .ok (.imul, 1) := by decide +kernel
theorem dX0_at_12 : decode cX0_at 12 = .ok (.iload_n 2, 1) := by decide +kernel
theorem dX0_at_13 : decode cX0_at 13 = .ok (.iadd, 1) := by decide +kernel
theorem dX0_at_14 : decode cX0_at 14 = .ok (.iaload, 1) := by decide +kernel
theorem dX0_at_15 : decode cX0_at 15 = .ok (.ireturn, 1) := by decide +kernel
theorem dX0_lettersIn_0 : decode cX0_lettersIn 0 = .ok (.iconst 0, 1) := by decide +kernel
theorem dX0_lettersIn_1 : decode cX0_lettersIn 1 = .ok (.istore_n 2, 1) := by decide +kernel
theorem dX0_lettersIn_2 : decode cX0_lettersIn 2 = .ok (.iconst 0, 1) := by decide +kernel
theorem dX0_lettersIn_3 : decode cX0_lettersIn 3 = .ok (.istore_n 3, 1) := by decide +kernel
theorem dX0_lettersIn_4 : decode cX0_lettersIn 4 = .ok (.iload_n 3, 1) := by decide +kernel
theorem dX0_lettersIn_5 : decode cX0_lettersIn 5 = .ok (.aload_n 0, 1) := by decide +kernel
theorem dX0_lettersIn_6 : decode cX0_lettersIn 6 = .ok (.getfield 15, 3) := by decide +kernel
theorem dX0_lettersIn_9 : decode cX0_lettersIn 9 = .ok (.aload_n 0, 1) := by decide +kernel
theorem dX0_lettersIn_10 : decode cX0_lettersIn 10 = .ok (.getfield 15, 3) := by decide +kernel
theorem dX0_lettersIn_13 : decode cX0_lettersIn 13 = .ok (.imul, 1) := by decide +kernel
theorem dX0_lettersIn_14 : decode cX0_lettersIn 14 = .ok (.if_icmp .ge 22, 3) := by decide +kernel
theorem dX0_lettersIn_17 : decode cX0_lettersIn 17 = .ok (.iload_n 2, 1) := by decide +kernel
theorem dX0_lettersIn_18 : decode cX0_lettersIn 18 = .ok (.iconst 1, 1) := by decide +kernel
theorem dX0_lettersIn_19 : decode cX0_lettersIn 19 = .ok (.aload_n 0, 1) := by decide +kernel
theorem dX0_lettersIn_20 : decode cX0_lettersIn 20 = .ok (.getfield 20, 3) := by decide +kernel
theorem dX0_lettersIn_23 : decode cX0_lettersIn 23 = .ok (.iload_n 1, 1) := by decide +kernel
theorem dX0_lettersIn_24 : decode cX0_lettersIn 24 = .ok (.aaload, 1) := by decide +kernel
theorem dX0_lettersIn_25 : decode cX0_lettersIn 25 = .ok (.iload_n 3, 1) := by decide +kernel
theorem dX0_lettersIn_26 : decode cX0_lettersIn 26 = .ok (.iaload, 1) := by decide +kernel
theorem dX0_lettersIn_27 : decode cX0_lettersIn 27 = .ok (.ishl, 1) := by decide +kernel
theorem dX0_lettersIn_28 : decode cX0_lettersIn 28 = .ok (.ior, 1) := by decide +kernel
theorem dX0_lettersIn_29 : decode cX0_lettersIn 29 = .ok (.istore_n 2, 1) := by decide +kernel
theorem dX0_lettersIn_30 : decode cX0_lettersIn 30 = .ok (.iinc 3 1, 3) := by decide +kernel
theorem dX0_lettersIn_33 : decode cX0_lettersIn 33 = .ok (.goto (-29), 3) := by decide +kernel
theorem dX0_lettersIn_36 : decode cX0_lettersIn 36 = .ok (.iload_n 2, 1) := by decide +kernel
theorem dX0_lettersIn_37 : decode cX0_lettersIn 37 = .ok (.ireturn, 1) := by decide +kernel
theorem dX0_grownAt_0 : decode cX0_grownAt 0 = .ok (.iload_n 1, 1) := by decide +kernel
theorem dX0_grownAt_1 : decode cX0_grownAt 1 = .ok (.istore 5, 2) := by decide +kernel
theorem dX0_grownAt_3 : decode cX0_grownAt 3 = .ok (.iload_n 3, 1) := by decide +kernel
theorem dX0_grownAt_4 : decode cX0_grownAt 4 = .ok (.istore 6, 2) := by decide +kernel
theorem dX0_grownAt_6 : decode cX0_grownAt 6 = .ok (.iload 4, 2) := by decide +kernel
theorem dX0_grownAt_8 : decode cX0_grownAt 8 = .ok (.istore 7, 2) := by decide +kernel
theorem dX0_grownAt_10 : decode cX0_grownAt 10 = .ok (.aload_n 0, 1) := by decide +kernel
theorem dX0_grownAt_11 : decode cX0_grownAt 11 = .ok (.getfield 15, 3) := by decide +kernel
theorem dX0_grownAt_14 : decode cX0_grownAt 14 = .ok (.iload_n 2, 1) := by decide +kernel
theorem dX0_grownAt_15 : decode cX0_grownAt 15 = .ok (.invokestatic 47, 3) := by decide +kernel
theorem dX0_grownAt_18 : decode cX0_grownAt 18 = .ok (.istore 8, 2) := by decide +kernel
theorem dX0_grownAt_20 : decode cX0_grownAt 20 = .ok (.iconst 0, 1) := by decide +kernel
theorem dX0_grownAt_21 : decode cX0_grownAt 21 = .ok (.istore 9, 2) := by decide +kernel
theorem dX0_grownAt_23 : decode cX0_grownAt 23 = .ok (.iload 9, 2) := by decide +kernel
theorem dX0_grownAt_25 : decode cX0_grownAt 25 = .ok (.iload_n 2, 1) := by decide +kernel
theorem dX0_grownAt_26 : decode cX0_grownAt 26 = .ok (.if_icmp .ge 67, 3) := by decide +kernel
theorem dX0_grownAt_29 : decode cX0_grownAt 29 = .ok (.aload_n 0, 1) := by decide +kernel
theorem dX0_grownAt_30 : decode cX0_grownAt 30 = .ok (.getfield 15, 3) := by decide +kernel
theorem dX0_grownAt_33 : decode cX0_grownAt 33 = .ok (.iconst 1, 1) := by decide +kernel
theorem dX0_grownAt_34 : decode cX0_grownAt 34 = .ok (.if_icmp .le 59, 3) := by decide +kernel
theorem dX0_grownAt_37 : decode cX0_grownAt 37 = .ok (.iload 8, 2) := by decide +kernel
theorem dX0_grownAt_39 : decode cX0_grownAt 39 = .ok (.aload_n 0, 1) := by decide +kernel
theorem dX0_grownAt_40 : decode cX0_grownAt 40 = .ok (.getfield 15, 3) := by decide +kernel
theorem dX0_grownAt_43 : decode cX0_grownAt 43 = .ok (.if_icmp .lt 50, 3) := by decide +kernel
theorem dX0_grownAt_46 : decode cX0_grownAt 46 = .ok (.iload 8, 2) := by decide +kernel
theorem dX0_grownAt_48 : decode cX0_grownAt 48 = .ok (.aload_n 0, 1) := by decide +kernel
theorem dX0_grownAt_49 : decode cX0_grownAt 49 = .ok (.getfield 15, 3) := by decide +kernel
theorem dX0_grownAt_52 : decode cX0_grownAt 52 = .ok (.idiv, 1) := by decide +kernel
theorem dX0_grownAt_53 : decode cX0_grownAt 53 = .ok (.istore 8, 2) := by decide +kernel
theorem dX0_grownAt_55 : decode cX0_grownAt 55 = .ok (.aload_n 0, 1) := by decide +kernel
theorem dX0_grownAt_56 : decode cX0_grownAt 56 = .ok (.iload 5, 2) := by decide +kernel
theorem dX0_grownAt_58 : decode cX0_grownAt 58 = .ok (.iload 6, 2) := by decide +kernel
theorem dX0_grownAt_60 : decode cX0_grownAt 60 = .ok (.iload 8, 2) := by decide +kernel
theorem dX0_grownAt_62 : decode cX0_grownAt 62 = .ok (.idiv, 1) := by decide +kernel
theorem dX0_grownAt_63 : decode cX0_grownAt 63 = .ok (.iload 7, 2) := by decide +kernel
theorem dX0_grownAt_65 : decode cX0_grownAt 65 = .ok (.iload 8, 2) := by decide +kernel
theorem dX0_grownAt_67 : decode cX0_grownAt 67 = .ok (.idiv, 1) := by decide +kernel
theorem dX0_grownAt_68 : decode cX0_grownAt 68 = .ok (.invokevirtual 43, 3) := by decide +kernel
theorem dX0_grownAt_71 : decode cX0_grownAt 71 = .ok (.istore 5, 2) := by decide +kernel
theorem dX0_grownAt_73 : decode cX0_grownAt 73 = .ok (.iload 6, 2) := by decide +kernel
theorem dX0_grownAt_75 : decode cX0_grownAt 75 = .ok (.iload 8, 2) := by decide +kernel
theorem dX0_grownAt_77 : decode cX0_grownAt 77 = .ok (.irem, 1) := by decide +kernel
theorem dX0_grownAt_78 : decode cX0_grownAt 78 = .ok (.istore 6, 2) := by decide +kernel
theorem dX0_grownAt_80 : decode cX0_grownAt 80 = .ok (.iload 7, 2) := by decide +kernel
theorem dX0_grownAt_82 : decode cX0_grownAt 82 = .ok (.iload 8, 2) := by decide +kernel
theorem dX0_grownAt_84 : decode cX0_grownAt 84 = .ok (.irem, 1) := by decide +kernel
theorem dX0_grownAt_85 : decode cX0_grownAt 85 = .ok (.istore 7, 2) := by decide +kernel
theorem dX0_grownAt_87 : decode cX0_grownAt 87 = .ok (.iinc 9 1, 3) := by decide +kernel
theorem dX0_grownAt_90 : decode cX0_grownAt 90 = .ok (.goto (-67), 3) := by decide +kernel
theorem dX0_grownAt_93 : decode cX0_grownAt 93 = .ok (.iload 5, 2) := by decide +kernel
theorem dX0_grownAt_95 : decode cX0_grownAt 95 = .ok (.ireturn, 1) := by decide +kernel
theorem dX0_countGrown_0 : decode cX0_countGrown 0 = .ok (.aload_n 0, 1) := by decide +kernel
theorem dX0_countGrown_1 : decode cX0_countGrown 1 = .ok (.getfield 23, 3) := by decide +kernel
theorem dX0_countGrown_4 : decode cX0_countGrown 4 = .ok (.lconst 0, 1) := by decide +kernel
theorem dX0_countGrown_5 : decode cX0_countGrown 5 = .ok (.invokestatic 51, 3) := by decide +kernel
theorem dX0_countGrown_8 : decode cX0_countGrown 8 = .ok (.aload_n 0, 1) := by decide +kernel
theorem dX0_countGrown_9 : decode cX0_countGrown 9 = .ok (.getfield 23, 3) := by decide +kernel
theorem dX0_countGrown_12 : decode cX0_countGrown 12 = .ok (.iload_n 3, 1) := by decide +kernel
theorem dX0_countGrown_13 : decode cX0_countGrown 13 = .ok (.lconst 1, 1) := by decide +kernel
theorem dX0_countGrown_14 : decode cX0_countGrown 14 = .ok (.lastore, 1) := by decide +kernel
theorem dX0_countGrown_15 : decode cX0_countGrown 15 = .ok (.iconst 0, 1) := by decide +kernel
theorem dX0_countGrown_16 : decode cX0_countGrown 16 = .ok (.istore 4, 2) := by decide +kernel
theorem dX0_countGrown_18 : decode cX0_countGrown 18 = .ok (.iload 4, 2) := by decide +kernel
theorem dX0_countGrown_20 : decode cX0_countGrown 20 = .ok (.iload_n 2, 1) := by decide +kernel
theorem dX0_countGrown_21 : decode cX0_countGrown 21 = .ok (.if_icmp .ge 98, 3) := by decide +kernel
theorem dX0_countGrown_24 : decode cX0_countGrown 24 = .ok (.iconst 0, 1) := by decide +kernel
theorem dX0_countGrown_25 : decode cX0_countGrown 25 = .ok (.istore 5, 2) := by decide +kernel
theorem dX0_countGrown_27 : decode cX0_countGrown 27 = .ok (.iload 5, 2) := by decide +kernel
theorem dX0_countGrown_29 : decode cX0_countGrown 29 = .ok (.aload_n 0, 1) := by decide +kernel
theorem dX0_countGrown_30 : decode cX0_countGrown 30 = .ok (.getfield 9, 3) := by decide +kernel
theorem dX0_countGrown_33 : decode cX0_countGrown 33 = .ok (.if_icmp .ge 65, 3) := by decide +kernel
theorem dX0_countGrown_36 : decode cX0_countGrown 36 = .ok (.aload_n 0, 1) := by decide +kernel
theorem dX0_countGrown_37 : decode cX0_countGrown 37 = .ok (.getfield 27, 3) := by decide +kernel
theorem dX0_countGrown_40 : decode cX0_countGrown 40 = .ok (.iload 5, 2) := by decide +kernel
theorem dX0_countGrown_42 : decode cX0_countGrown 42 = .ok (.lconst 0, 1) := by decide +kernel
theorem dX0_countGrown_43 : decode cX0_countGrown 43 = .ok (.lastore, 1) := by decide +kernel
theorem dX0_countGrown_44 : decode cX0_countGrown 44 = .ok (.iconst 0, 1) := by decide +kernel
theorem dX0_countGrown_45 : decode cX0_countGrown 45 = .ok (.istore 6, 2) := by decide +kernel
theorem dX0_countGrown_47 : decode cX0_countGrown 47 = .ok (.iload 6, 2) := by decide +kernel
theorem dX0_countGrown_49 : decode cX0_countGrown 49 = .ok (.aload_n 0, 1) := by decide +kernel
theorem dX0_countGrown_50 : decode cX0_countGrown 50 = .ok (.getfield 15, 3) := by decide +kernel
theorem dX0_countGrown_53 : decode cX0_countGrown 53 = .ok (.aload_n 0, 1) := by decide +kernel
theorem dX0_countGrown_54 : decode cX0_countGrown 54 = .ok (.getfield 15, 3) := by decide +kernel
theorem dX0_countGrown_57 : decode cX0_countGrown 57 = .ok (.imul, 1) := by decide +kernel
theorem dX0_countGrown_58 : decode cX0_countGrown 58 = .ok (.if_icmp .ge 34, 3) := by decide +kernel
theorem dX0_countGrown_61 : decode cX0_countGrown 61 = .ok (.aload_n 0, 1) := by decide +kernel
theorem dX0_countGrown_62 : decode cX0_countGrown 62 = .ok (.getfield 27, 3) := by decide +kernel
theorem dX0_countGrown_65 : decode cX0_countGrown 65 = .ok (.iload 5, 2) := by decide +kernel
theorem dX0_countGrown_67 : decode cX0_countGrown 67 = .ok (.dup2, 1) := by decide +kernel
theorem dX0_countGrown_68 : decode cX0_countGrown 68 = .ok (.laload, 1) := by decide +kernel
theorem dX0_countGrown_69 : decode cX0_countGrown 69 = .ok (.aload_n 0, 1) := by decide +kernel
theorem dX0_countGrown_70 : decode cX0_countGrown 70 = .ok (.getfield 23, 3) := by decide +kernel
theorem dX0_countGrown_73 : decode cX0_countGrown 73 = .ok (.aload_n 0, 1) := by decide +kernel
theorem dX0_countGrown_74 : decode cX0_countGrown 74 = .ok (.getfield 20, 3) := by decide +kernel
theorem dX0_countGrown_77 : decode cX0_countGrown 77 = .ok (.iload 5, 2) := by decide +kernel
theorem dX0_countGrown_79 : decode cX0_countGrown 79 = .ok (.aaload, 1) := by decide +kernel
theorem dX0_countGrown_80 : decode cX0_countGrown 80 = .ok (.iload 6, 2) := by decide +kernel
theorem dX0_countGrown_82 : decode cX0_countGrown 82 = .ok (.iaload, 1) := by decide +kernel
theorem dX0_countGrown_83 : decode cX0_countGrown 83 = .ok (.laload, 1) := by decide +kernel
theorem dX0_countGrown_84 : decode cX0_countGrown 84 = .ok (.ladd, 1) := by decide +kernel
theorem dX0_countGrown_85 : decode cX0_countGrown 85 = .ok (.lastore, 1) := by decide +kernel
theorem dX0_countGrown_86 : decode cX0_countGrown 86 = .ok (.iinc 6 1, 3) := by decide +kernel
theorem dX0_countGrown_89 : decode cX0_countGrown 89 = .ok (.goto (-42), 3) := by decide +kernel
theorem dX0_countGrown_92 : decode cX0_countGrown 92 = .ok (.iinc 5 1, 3) := by decide +kernel
theorem dX0_countGrown_95 : decode cX0_countGrown 95 = .ok (.goto (-68), 3) := by decide +kernel
theorem dX0_countGrown_98 : decode cX0_countGrown 98 = .ok (.aload_n 0, 1) := by decide +kernel
theorem dX0_countGrown_99 : decode cX0_countGrown 99 = .ok (.getfield 27, 3) := by decide +kernel
theorem dX0_countGrown_102 : decode cX0_countGrown 102 = .ok (.iconst 0, 1) := by decide +kernel
theorem dX0_countGrown_103 : decode cX0_countGrown 103 = .ok (.aload_n 0, 1) := by decide +kernel
theorem dX0_countGrown_104 : decode cX0_countGrown 104 = .ok (.getfield 23, 3) := by decide +kernel
theorem dX0_countGrown_107 : decode cX0_countGrown 107 = .ok (.iconst 0, 1) := by decide +kernel
theorem dX0_countGrown_108 : decode cX0_countGrown 108 = .ok (.bipush 6, 2) := by decide +kernel
theorem dX0_countGrown_110 : decode cX0_countGrown 110 = .ok (.invokestatic 54, 3) := by decide +kernel
theorem dX0_countGrown_113 : decode cX0_countGrown 113 = .ok (.iinc 4 1, 3) := by decide +kernel
theorem dX0_countGrown_116 : decode cX0_countGrown 116 = .ok (.goto (-98), 3) := by decide +kernel
theorem dX0_countGrown_119 : decode cX0_countGrown 119 = .ok (.aload_n 0, 1) := by decide +kernel
theorem dX0_countGrown_120 : decode cX0_countGrown 120 = .ok (.getfield 23, 3) := by decide +kernel
theorem dX0_countGrown_123 : decode cX0_countGrown 123 = .ok (.iload_n 1, 1) := by decide +kernel
theorem dX0_countGrown_124 : decode cX0_countGrown 124 = .ok (.laload, 1) := by decide +kernel
theorem dX0_countGrown_125 : decode cX0_countGrown 125 = .ok (.lreturn, 1) := by decide +kernel
theorem dX0_firstMixed_0 : decode cX0_firstMixed 0 = .ok (.iconst 0, 1) := by decide +kernel
theorem dX0_firstMixed_1 : decode cX0_firstMixed 1 = .ok (.istore_n 1, 1) := by decide +kernel
theorem dX0_firstMixed_2 : decode cX0_firstMixed 2 = .ok (.iload_n 1, 1) := by decide +kernel
theorem dX0_firstMixed_3 : decode cX0_firstMixed 3 = .ok (.aload_n 0, 1) := by decide +kernel
theorem dX0_firstMixed_4 : decode cX0_firstMixed 4 = .ok (.getfield 9, 3) := by decide +kernel
theorem dX0_firstMixed_7 : decode cX0_firstMixed 7 = .ok (.if_icmp .ge 18, 3) := by decide +kernel
theorem dX0_firstMixed_10 : decode cX0_firstMixed 10 = .ok (.aload_n 0, 1) := by decide +kernel
theorem dX0_firstMixed_11 : decode cX0_firstMixed 11 = .ok (.getfield 30, 3) := by decide +kernel
theorem dX0_firstMixed_14 : decode cX0_firstMixed 14 = .ok (.iload_n 1, 1) := by decide +kernel
theorem dX0_firstMixed_15 : decode cX0_firstMixed 15 = .ok (.iconst 1, 1) := by decide +kernel
theorem dX0_firstMixed_16 : decode cX0_firstMixed 16 = .ok (.iload_n 1, 1) := by decide +kernel
theorem dX0_firstMixed_17 : decode cX0_firstMixed 17 = .ok (.ishl, 1) := by decide +kernel
theorem dX0_firstMixed_18 : decode cX0_firstMixed 18 = .ok (.iastore, 1) := by decide +kernel
theorem dX0_firstMixed_19 : decode cX0_firstMixed 19 = .ok (.iinc 1 1, 3) := by decide +kernel
theorem dX0_firstMixed_22 : decode cX0_firstMixed 22 = .ok (.goto (-20), 3) := by decide +kernel
theorem dX0_firstMixed_25 : decode cX0_firstMixed 25 = .ok (.iconst 1, 1) := by decide +kernel
theorem dX0_firstMixed_26 : decode cX0_firstMixed 26 = .ok (.istore_n 1, 1) := by decide +kernel
theorem dX0_firstMixed_27 : decode cX0_firstMixed 27 = .ok (.iload_n 1, 1) := by decide +kernel
theorem dX0_firstMixed_28 : decode cX0_firstMixed 28 = .ok (.bipush 26, 2) := by decide +kernel
theorem dX0_firstMixed_30 : decode cX0_firstMixed 30 = .ok (.if_icmp .gt 125, 3) := by decide +kernel
theorem dX0_firstMixed_33 : decode cX0_firstMixed 33 = .ok (.iconst 1, 1) := by decide +kernel
theorem dX0_firstMixed_34 : decode cX0_firstMixed 34 = .ok (.aload_n 0, 1) := by decide +kernel
theorem dX0_firstMixed_35 : decode cX0_firstMixed 35 = .ok (.getfield 9, 3) := by decide +kernel
theorem dX0_firstMixed_38 : decode cX0_firstMixed 38 = .ok (.ishl, 1) := by decide +kernel
theorem dX0_firstMixed_39 : decode cX0_firstMixed 39 = .ok (.iconst 1, 1) := by decide +kernel
theorem dX0_firstMixed_40 : decode cX0_firstMixed 40 = .ok (.isub, 1) := by decide +kernel
theorem dX0_firstMixed_41 : decode cX0_firstMixed 41 = .ok (.istore_n 2, 1) := by decide +kernel
theorem dX0_firstMixed_42 : decode cX0_firstMixed 42 = .ok (.iconst 0, 1) := by decide +kernel
theorem dX0_firstMixed_43 : decode cX0_firstMixed 43 = .ok (.istore_n 3, 1) := by decide +kernel
theorem dX0_firstMixed_44 : decode cX0_firstMixed 44 = .ok (.iload_n 3, 1) := by decide +kernel
theorem dX0_firstMixed_45 : decode cX0_firstMixed 45 = .ok (.aload_n 0, 1) := by decide +kernel
theorem dX0_firstMixed_46 : decode cX0_firstMixed 46 = .ok (.getfield 9, 3) := by decide +kernel
theorem dX0_firstMixed_49 : decode cX0_firstMixed 49 = .ok (.if_icmp .ge 71, 3) := by decide +kernel
theorem dX0_firstMixed_52 : decode cX0_firstMixed 52 = .ok (.aload_n 0, 1) := by decide +kernel
theorem dX0_firstMixed_53 : decode cX0_firstMixed 53 = .ok (.getfield 34, 3) := by decide +kernel
theorem dX0_firstMixed_56 : decode cX0_firstMixed 56 = .ok (.iload_n 3, 1) := by decide +kernel
theorem dX0_firstMixed_57 : decode cX0_firstMixed 57 = .ok (.iconst 0, 1) := by decide +kernel
theorem dX0_firstMixed_58 : decode cX0_firstMixed 58 = .ok (.iastore, 1) := by decide +kernel
theorem dX0_firstMixed_59 : decode cX0_firstMixed 59 = .ok (.iconst 0, 1) := by decide +kernel
theorem dX0_firstMixed_60 : decode cX0_firstMixed 60 = .ok (.istore 4, 2) := by decide +kernel
theorem dX0_firstMixed_62 : decode cX0_firstMixed 62 = .ok (.iload 4, 2) := by decide +kernel
theorem dX0_firstMixed_64 : decode cX0_firstMixed 64 = .ok (.aload_n 0, 1) := by decide +kernel
theorem dX0_firstMixed_65 : decode cX0_firstMixed 65 = .ok (.getfield 15, 3) := by decide +kernel
theorem dX0_firstMixed_68 : decode cX0_firstMixed 68 = .ok (.aload_n 0, 1) := by decide +kernel
theorem dX0_firstMixed_69 : decode cX0_firstMixed 69 = .ok (.getfield 15, 3) := by decide +kernel
theorem dX0_firstMixed_72 : decode cX0_firstMixed 72 = .ok (.imul, 1) := by decide +kernel
theorem dX0_firstMixed_73 : decode cX0_firstMixed 73 = .ok (.if_icmp .ge 32, 3) := by decide +kernel
theorem dX0_firstMixed_76 : decode cX0_firstMixed 76 = .ok (.aload_n 0, 1) := by decide +kernel
theorem dX0_firstMixed_77 : decode cX0_firstMixed 77 = .ok (.getfield 34, 3) := by decide +kernel
theorem dX0_firstMixed_80 : decode cX0_firstMixed 80 = .ok (.iload_n 3, 1) := by decide +kernel
theorem dX0_firstMixed_81 : decode cX0_firstMixed 81 = .ok (.dup2, 1) := by decide +kernel
theorem dX0_firstMixed_82 : decode cX0_firstMixed 82 = .ok (.iaload, 1) := by decide +kernel
theorem dX0_firstMixed_83 : decode cX0_firstMixed 83 = .ok (.aload_n 0, 1) := by decide +kernel
theorem dX0_firstMixed_84 : decode cX0_firstMixed 84 = .ok (.getfield 30, 3) := by decide +kernel
theorem dX0_firstMixed_87 : decode cX0_firstMixed 87 = .ok (.aload_n 0, 1) := by decide +kernel
theorem dX0_firstMixed_88 : decode cX0_firstMixed 88 = .ok (.getfield 20, 3) := by decide +kernel
theorem dX0_firstMixed_91 : decode cX0_firstMixed 91 = .ok (.iload_n 3, 1) := by decide +kernel
theorem dX0_firstMixed_92 : decode cX0_firstMixed 92 = .ok (.aaload, 1) := by decide +kernel
theorem dX0_firstMixed_93 : decode cX0_firstMixed 93 = .ok (.iload 4, 2) := by decide +kernel
theorem dX0_firstMixed_95 : decode cX0_firstMixed 95 = .ok (.iaload, 1) := by decide +kernel
theorem dX0_firstMixed_96 : decode cX0_firstMixed 96 = .ok (.iaload, 1) := by decide +kernel
theorem dX0_firstMixed_97 : decode cX0_firstMixed 97 = .ok (.ior, 1) := by decide +kernel
theorem dX0_firstMixed_98 : decode cX0_firstMixed 98 = .ok (.iastore, 1) := by decide +kernel
theorem dX0_firstMixed_99 : decode cX0_firstMixed 99 = .ok (.iinc 4 1, 3) := by decide +kernel
theorem dX0_firstMixed_102 : decode cX0_firstMixed 102 = .ok (.goto (-40), 3) := by decide +kernel
theorem dX0_firstMixed_105 : decode cX0_firstMixed 105 = .ok (.iload_n 2, 1) := by decide +kernel
theorem dX0_firstMixed_106 : decode cX0_firstMixed 106 = .ok (.aload_n 0, 1) := by decide +kernel
theorem dX0_firstMixed_107 : decode cX0_firstMixed 107 = .ok (.getfield 34, 3) := by decide +kernel
theorem dX0_firstMixed_110 : decode cX0_firstMixed 110 = .ok (.iload_n 3, 1) := by decide +kernel
theorem dX0_firstMixed_111 : decode cX0_firstMixed 111 = .ok (.iaload, 1) := by decide +kernel
theorem dX0_firstMixed_112 : decode cX0_firstMixed 112 = .ok (.iand, 1) := by decide +kernel
theorem dX0_firstMixed_113 : decode cX0_firstMixed 113 = .ok (.istore_n 2, 1) := by decide +kernel
theorem dX0_firstMixed_114 : decode cX0_firstMixed 114 = .ok (.iinc 3 1, 3) := by decide +kernel
theorem dX0_firstMixed_117 : decode cX0_firstMixed 117 = .ok (.goto (-73), 3) := by decide +kernel
theorem dX0_firstMixed_120 : decode cX0_firstMixed 120 = .ok (.iload_n 2, 1) := by decide +kernel
theorem dX0_firstMixed_121 : decode cX0_firstMixed 121 = .ok (.iconst 1, 1) := by decide +kernel
theorem dX0_firstMixed_122 : decode cX0_firstMixed 122 = .ok (.aload_n 0, 1) := by decide +kernel
theorem dX0_firstMixed_123 : decode cX0_firstMixed 123 = .ok (.getfield 9, 3) := by decide +kernel
theorem dX0_firstMixed_126 : decode cX0_firstMixed 126 = .ok (.ishl, 1) := by decide +kernel
theorem dX0_firstMixed_127 : decode cX0_firstMixed 127 = .ok (.iconst 1, 1) := by decide +kernel
theorem dX0_firstMixed_128 : decode cX0_firstMixed 128 = .ok (.isub, 1) := by decide +kernel
theorem dX0_firstMixed_129 : decode cX0_firstMixed 129 = .ok (.if_icmp .ne 5, 3) := by decide +kernel
theorem dX0_firstMixed_132 : decode cX0_firstMixed 132 = .ok (.iload_n 1, 1) := by decide +kernel
theorem dX0_firstMixed_133 : decode cX0_firstMixed 133 = .ok (.ireturn, 1) := by decide +kernel
theorem dX0_firstMixed_134 : decode cX0_firstMixed 134 = .ok (.aload_n 0, 1) := by decide +kernel
theorem dX0_firstMixed_135 : decode cX0_firstMixed 135 = .ok (.getfield 34, 3) := by decide +kernel
theorem dX0_firstMixed_138 : decode cX0_firstMixed 138 = .ok (.iconst 0, 1) := by decide +kernel
theorem dX0_firstMixed_139 : decode cX0_firstMixed 139 = .ok (.aload_n 0, 1) := by decide +kernel
theorem dX0_firstMixed_140 : decode cX0_firstMixed 140 = .ok (.getfield 30, 3) := by decide +kernel
theorem dX0_firstMixed_143 : decode cX0_firstMixed 143 = .ok (.iconst 0, 1) := by decide +kernel
theorem dX0_firstMixed_144 : decode cX0_firstMixed 144 = .ok (.bipush 6, 2) := by decide +kernel
theorem dX0_firstMixed_146 : decode cX0_firstMixed 146 = .ok (.invokestatic 54, 3) := by decide +kernel
theorem dX0_firstMixed_149 : decode cX0_firstMixed 149 = .ok (.iinc 1 1, 3) := by decide +kernel
theorem dX0_firstMixed_152 : decode cX0_firstMixed 152 = .ok (.goto (-125), 3) := by decide +kernel
theorem dX0_firstMixed_155 : decode cX0_firstMixed 155 = .ok (.iconst (-1), 1) := by decide +kernel
theorem dX0_firstMixed_156 : decode cX0_firstMixed 156 = .ok (.ireturn, 1) := by decide +kernel
