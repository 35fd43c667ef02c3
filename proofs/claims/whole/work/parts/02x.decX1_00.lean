theorem dX1_init_0 : decode cX1_init 0 = .ok (.aload_n 0, 1) := by decide +kernel
theorem dX1_init_1 : decode cX1_init 1 = .ok (.invokespecial 3, 3) := by decide +kernel
theorem dX1_init_4 : decode cX1_init 4 = .ok (.aload_n 0, 1) := by decide +kernel
theorem dX1_init_5 : decode cX1_init 5 = .ok (.iconst 0, 1) := by decide +kernel
theorem dX1_init_6 : decode cX1_init 6 = .ok (.putfield 9, 3) := by decide +kernel
theorem dX1_init_9 : decode cX1_init 9 = .ok (.aload_n 0, 1) := by decide +kernel
theorem dX1_init_10 : decode cX1_init 10 = .ok (.iconst 1, 1) := by decide +kernel
theorem dX1_init_11 : decode cX1_init 11 = .ok (.putfield 15, 3) := by decide +kernel
theorem dX1_init_14 : decode cX1_init 14 = .ok (.aload_n 0, 1) := by decide +kernel
theorem dX1_init_15 : decode cX1_init 15 = .ok (.iconst 0, 1) := by decide +kernel
theorem dX1_init_16 : decode cX1_init 16 = .ok (.putfield 18, 3) := by decide +kernel
theorem dX1_init_19 : decode cX1_init 19 = .ok (.aload_n 0, 1) := by decide +kernel
theorem dX1_init_20 : decode cX1_init 20 = .ok (.bipush 18, 2) := by decide +kernel
theorem dX1_init_22 : decode cX1_init 22 = .ok (.newarray .int, 2) := by decide +kernel
theorem dX1_init_24 : decode cX1_init 24 = .ok (.putfield 21, 3) := by decide +kernel
theorem dX1_init_27 : decode cX1_init 27 = .ok (.aload_n 0, 1) := by decide +kernel
theorem dX1_init_28 : decode cX1_init 28 = .ok (.bipush 6, 2) := by decide +kernel
theorem dX1_init_30 : decode cX1_init 30 = .ok (.newarray .int, 2) := by decide +kernel
theorem dX1_init_32 : decode cX1_init 32 = .ok (.putfield 25, 3) := by decide +kernel
theorem dX1_init_35 : decode cX1_init 35 = .ok (.aload_n 0, 1) := by decide +kernel
theorem dX1_init_36 : decode cX1_init 36 = .ok (.iconst 0, 1) := by decide +kernel
theorem dX1_init_37 : decode cX1_init 37 = .ok (.putfield 28, 3) := by decide +kernel
theorem dX1_init_40 : decode cX1_init 40 = .ok (.aload_n 0, 1) := by decide +kernel
theorem dX1_init_41 : decode cX1_init 41 = .ok (.iconst 0, 1) := by decide +kernel
theorem dX1_init_42 : decode cX1_init 42 = .ok (.putfield 31, 3) := by decide +kernel
theorem dX1_init_45 : decode cX1_init 45 = .ok (.aload_n 0, 1) := by decide +kernel
theorem dX1_init_46 : decode cX1_init 46 = .ok (.iconst (-1), 1) := by decide +kernel
theorem dX1_init_47 : decode cX1_init 47 = .ok (.putfield 35, 3) := by decide +kernel
theorem dX1_init_50 : decode cX1_init 50 = .ok (.aload_n 0, 1) := by decide +kernel
theorem dX1_init_51 : decode cX1_init 51 = .ok (.iconst 0, 1) := by decide +kernel
theorem dX1_init_52 : decode cX1_init 52 = .ok (.putfield 38, 3) := by decide +kernel
theorem dX1_init_55 : decode cX1_init 55 = .ok (.return_, 1) := by decide +kernel
theorem dX1_has_0 : decode cX1_has 0 = .ok (.aload_n 0, 1) := by decide +kernel
theorem dX1_has_1 : decode cX1_has 1 = .ok (.getfield 28, 3) := by decide +kernel
theorem dX1_has_4 : decode cX1_has 4 = .ok (.iload_n 1, 1) := by decide +kernel
theorem dX1_has_5 : decode cX1_has 5 = .ok (.ishr, 1) := by decide +kernel
theorem dX1_has_6 : decode cX1_has 6 = .ok (.iconst 1, 1) := by decide +kernel
theorem dX1_has_7 : decode cX1_has 7 = .ok (.iand, 1) := by decide +kernel
theorem dX1_has_8 : decode cX1_has 8 = .ok (.ifCond .eq 7, 3) := by decide +kernel
theorem dX1_has_11 : decode cX1_has 11 = .ok (.iconst 1, 1) := by decide +kernel
theorem dX1_has_12 : decode cX1_has 12 = .ok (.goto 4, 3) := by decide +kernel
theorem dX1_has_15 : decode cX1_has 15 = .ok (.iconst 0, 1) := by decide +kernel
theorem dX1_has_16 : decode cX1_has 16 = .ok (.ireturn, 1) := by decide +kernel
theorem dX1_add_0 : decode cX1_add 0 = .ok (.aload_n 0, 1) := by decide +kernel
theorem dX1_add_1 : decode cX1_add 1 = .ok (.getfield 25, 3) := by decide +kernel
theorem dX1_add_4 : decode cX1_add 4 = .ok (.aload_n 0, 1) := by decide +kernel
theorem dX1_add_5 : decode cX1_add 5 = .ok (.getfield 9, 3) := by decide +kernel
theorem dX1_add_8 : decode cX1_add 8 = .ok (.iload_n 1, 1) := by decide +kernel
theorem dX1_add_9 : decode cX1_add 9 = .ok (.iastore, 1) := by decide +kernel
theorem dX1_add_10 : decode cX1_add 10 = .ok (.aload_n 0, 1) := by decide +kernel
theorem dX1_add_11 : decode cX1_add 11 = .ok (.dup, 1) := by decide +kernel
theorem dX1_add_12 : decode cX1_add 12 = .ok (.getfield 28, 3) := by decide +kernel
theorem dX1_add_15 : decode cX1_add 15 = .ok (.iconst 1, 1) := by decide +kernel
theorem dX1_add_16 : decode cX1_add 16 = .ok (.iload_n 1, 1) := by decide +kernel
theorem dX1_add_17 : decode cX1_add 17 = .ok (.ishl, 1) := by decide +kernel
theorem dX1_add_18 : decode cX1_add 18 = .ok (.ior, 1) := by decide +kernel
theorem dX1_add_19 : decode cX1_add 19 = .ok (.putfield 28, 3) := by decide +kernel
theorem dX1_add_22 : decode cX1_add 22 = .ok (.aload_n 0, 1) := by decide +kernel
theorem dX1_add_23 : decode cX1_add 23 = .ok (.dup, 1) := by decide +kernel
theorem dX1_add_24 : decode cX1_add 24 = .ok (.getfield 9, 3) := by decide +kernel
theorem dX1_add_27 : decode cX1_add 27 = .ok (.iconst 1, 1) := by decide +kernel
theorem dX1_add_28 : decode cX1_add 28 = .ok (.iadd, 1) := by decide +kernel
theorem dX1_add_29 : decode cX1_add 29 = .ok (.putfield 9, 3) := by decide +kernel
theorem dX1_add_32 : decode cX1_add 32 = .ok (.aload_n 0, 1) := by decide +kernel
theorem dX1_add_33 : decode cX1_add 33 = .ok (.getfield 9, 3) := by decide +kernel
theorem dX1_add_36 : decode cX1_add 36 = .ok (.ireturn, 1) := by decide +kernel
theorem dX1_dropLast_0 : decode cX1_dropLast 0 = .ok (.aload_n 0, 1) := by decide +kernel
theorem dX1_dropLast_1 : decode cX1_dropLast 1 = .ok (.dup, 1) := by decide +kernel
theorem dX1_dropLast_2 : decode cX1_dropLast 2 = .ok (.getfield 9, 3) := by decide +kernel
theorem dX1_dropLast_5 : decode cX1_dropLast 5 = .ok (.iconst 1, 1) := by decide +kernel
theorem dX1_dropLast_6 : decode cX1_dropLast 6 = .ok (.isub, 1) := by decide +kernel
theorem dX1_dropLast_7 : decode cX1_dropLast 7 = .ok (.putfield 9, 3) := by decide +kernel
theorem dX1_dropLast_10 : decode cX1_dropLast 10 = .ok (.aload_n 0, 1) := by decide +kernel
theorem dX1_dropLast_11 : decode cX1_dropLast 11 = .ok (.dup, 1) := by decide +kernel
theorem dX1_dropLast_12 : decode cX1_dropLast 12 = .ok (.getfield 28, 3) := by decide +kernel
theorem dX1_dropLast_15 : decode cX1_dropLast 15 = .ok (.iconst 1, 1) := by decide +kernel
theorem dX1_dropLast_16 : decode cX1_dropLast 16 = .ok (.aload_n 0, 1) := by decide +kernel
theorem dX1_dropLast_17 : decode cX1_dropLast 17 = .ok (.getfield 25, 3) := by decide +kernel
theorem dX1_dropLast_20 : decode cX1_dropLast 20 = .ok (.aload_n 0, 1) := by decide +kernel
theorem dX1_dropLast_21 : decode cX1_dropLast 21 = .ok (.getfield 9, 3) := by decide +kernel
theorem dX1_dropLast_24 : decode cX1_dropLast 24 = .ok (.iaload, 1) := by decide +kernel
theorem dX1_dropLast_25 : decode cX1_dropLast 25 = .ok (.ishl, 1) := by decide +kernel
theorem dX1_dropLast_26 : decode cX1_dropLast 26 = .ok (.iconst (-1), 1) := by decide +kernel
theorem dX1_dropLast_27 : decode cX1_dropLast 27 = .ok (.ixor, 1) := by decide +kernel
theorem dX1_dropLast_28 : decode cX1_dropLast 28 = .ok (.iand, 1) := by decide +kernel
theorem dX1_dropLast_29 : decode cX1_dropLast 29 = .ok (.putfield 28, 3) := by decide +kernel
theorem dX1_dropLast_32 : decode cX1_dropLast 32 = .ok (.aload_n 0, 1) := by decide +kernel
theorem dX1_dropLast_33 : decode cX1_dropLast 33 = .ok (.getfield 9, 3) := by decide +kernel
theorem dX1_dropLast_36 : decode cX1_dropLast 36 = .ok (.ireturn, 1) := by decide +kernel
theorem dX1_countRows_0 : decode cX1_countRows 0 = .ok (.aload_n 0, 1) := by decide +kernel
theorem dX1_countRows_1 : decode cX1_countRows 1 = .ok (.iload_n 1, 1) := by decide +kernel
theorem dX1_countRows_2 : decode cX1_countRows 2 = .ok (.iconst (-1), 1) := by decide +kernel
theorem dX1_countRows_3 : decode cX1_countRows 3 = .ok (.invokevirtual 41, 3) := by decide +kernel
theorem dX1_countRows_6 : decode cX1_countRows 6 = .ok (.pop, 1) := by decide +kernel
theorem dX1_countRows_7 : decode cX1_countRows 7 = .ok (.aload_n 0, 1) := by decide +kernel
theorem dX1_countRows_8 : decode cX1_countRows 8 = .ok (.getfield 38, 3) := by decide +kernel
theorem dX1_countRows_11 : decode cX1_countRows 11 = .ok (.ireturn, 1) := by decide +kernel
theorem dX1_findRow_0 : decode cX1_findRow 0 = .ok (.aload_n 0, 1) := by decide +kernel
theorem dX1_findRow_1 : decode cX1_findRow 1 = .ok (.iload_n 1, 1) := by decide +kernel
theorem dX1_findRow_2 : decode cX1_findRow 2 = .ok (.iload_n 2, 1) := by decide +kernel
theorem dX1_findRow_3 : decode cX1_findRow 3 = .ok (.invokevirtual 41, 3) := by decide +kernel
theorem dX1_findRow_6 : decode cX1_findRow 6 = .ok (.ireturn, 1) := by decide +kernel
theorem dX1_search_0 : decode cX1_search 0 = .ok (.aload_n 0, 1) := by decide +kernel
theorem dX1_search_1 : decode cX1_search 1 = .ok (.iload_n 1, 1) := by decide +kernel
theorem dX1_search_2 : decode cX1_search 2 = .ok (.putfield 31, 3) := by decide +kernel
theorem dX1_search_5 : decode cX1_search 5 = .ok (.aload_n 0, 1) := by decide +kernel
theorem dX1_search_6 : decode cX1_search 6 = .ok (.iload_n 2, 1) := by decide +kernel
theorem dX1_search_7 : decode cX1_search 7 = .ok (.putfield 35, 3) := by decide +kernel
theorem dX1_search_10 : decode cX1_search 10 = .ok (.aload_n 0, 1) := by decide +kernel
theorem dX1_search_11 : decode cX1_search 11 = .ok (.iconst 0, 1) := by decide +kernel
theorem dX1_search_12 : decode cX1_search 12 = .ok (.putfield 38, 3) := by decide +kernel
theorem dX1_search_15 : decode cX1_search 15 = .ok (.aload_n 0, 1) := by decide +kernel
theorem dX1_search_16 : decode cX1_search 16 = .ok (.iconst 0, 1) := by decide +kernel
theorem dX1_search_17 : decode cX1_search 17 = .ok (.iconst 1, 1) := by decide +kernel
theorem dX1_search_18 : decode cX1_search 18 = .ok (.aload_n 0, 1) := by decide +kernel
theorem dX1_search_19 : decode cX1_search 19 = .ok (.getfield 15, 3) := by decide +kernel
theorem dX1_search_22 : decode cX1_search 22 = .ok (.invokevirtual 45, 3) := by decide +kernel
theorem dX1_search_25 : decode cX1_search 25 = .ok (.ireturn, 1) := by decide +kernel
theorem dX1_extend_0 : decode cX1_extend 0 = .ok (.iload_n 3, 1) := by decide +kernel
theorem dX1_extend_1 : decode cX1_extend 1 = .ok (.ifCond .ne 10, 3) := by decide +kernel
theorem dX1_extend_4 : decode cX1_extend 4 = .ok (.aload_n 0, 1) := by decide +kernel
theorem dX1_extend_5 : decode cX1_extend 5 = .ok (.iload_n 1, 1) := by decide +kernel
theorem dX1_extend_6 : decode cX1_extend 6 = .ok (.iload_n 2, 1) := by decide +kernel
theorem dX1_extend_7 : decode cX1_extend 7 = .ok (.invokevirtual 49, 3) := by decide +kernel
theorem dX1_extend_10 : decode cX1_extend 10 = .ok (.ireturn, 1) := by decide +kernel
theorem dX1_extend_11 : decode cX1_extend 11 = .ok (.iload_n 1, 1) := by decide +kernel
theorem dX1_extend_12 : decode cX1_extend 12 = .ok (.bipush 18, 2) := by decide +kernel
theorem dX1_extend_14 : decode cX1_extend 14 = .ok (.if_icmp .lt 5, 3) := by decide +kernel
theorem dX1_extend_17 : decode cX1_extend 17 = .ok (.iconst 0, 1) := by decide +kernel
theorem dX1_extend_18 : decode cX1_extend 18 = .ok (.ireturn, 1) := by decide +kernel
theorem dX1_extend_19 : decode cX1_extend 19 = .ok (.aload_n 0, 1) := by decide +kernel
theorem dX1_extend_20 : decode cX1_extend 20 = .ok (.iload_n 1, 1) := by decide +kernel
theorem dX1_extend_21 : decode cX1_extend 21 = .ok (.iload_n 2, 1) := by decide +kernel
theorem dX1_extend_22 : decode cX1_extend 22 = .ok (.invokevirtual 53, 3) := by decide +kernel
theorem dX1_extend_25 : decode cX1_extend 25 = .ok (.istore 4, 2) := by decide +kernel
theorem dX1_extend_27 : decode cX1_extend 27 = .ok (.iload 4, 2) := by decide +kernel
theorem dX1_extend_29 : decode cX1_extend 29 = .ok (.iload_n 3, 1) := by decide +kernel
theorem dX1_extend_30 : decode cX1_extend 30 = .ok (.if_icmp .gt 32, 3) := by decide +kernel
theorem dX1_extend_33 : decode cX1_extend 33 = .ok (.aload_n 0, 1) := by decide +kernel
theorem dX1_extend_34 : decode cX1_extend 34 = .ok (.iload 4, 2) := by decide +kernel
theorem dX1_extend_36 : decode cX1_extend 36 = .ok (.invokevirtual 57, 3) := by decide +kernel
theorem dX1_extend_39 : decode cX1_extend 39 = .ok (.ifCond .eq 17, 3) := by decide +kernel
theorem dX1_extend_42 : decode cX1_extend 42 = .ok (.aload_n 0, 1) := by decide +kernel
theorem dX1_extend_43 : decode cX1_extend 43 = .ok (.iload 4, 2) := by decide +kernel
theorem dX1_extend_45 : decode cX1_extend 45 = .ok (.iload_n 1, 1) := by decide +kernel
theorem dX1_extend_46 : decode cX1_extend 46 = .ok (.iload_n 2, 1) := by decide +kernel
theorem dX1_extend_47 : decode cX1_extend 47 = .ok (.iload_n 3, 1) := by decide +kernel
theorem dX1_extend_48 : decode cX1_extend 48 = .ok (.invokevirtual 61, 3) := by decide +kernel
theorem dX1_extend_51 : decode cX1_extend 51 = .ok (.ifCond .eq 5, 3) := by decide +kernel
theorem dX1_extend_54 : decode cX1_extend 54 = .ok (.iconst 1, 1) := by decide +kernel
theorem dX1_extend_55 : decode cX1_extend 55 = .ok (.ireturn, 1) := by decide +kernel
theorem dX1_extend_56 : decode cX1_extend 56 = .ok (.iinc 4 1, 3) := by decide +kernel
theorem dX1_extend_59 : decode cX1_extend 59 = .ok (.goto (-32), 3) := by decide +kernel
theorem dX1_extend_62 : decode cX1_extend 62 = .ok (.iconst 0, 1) := by decide +kernel
theorem dX1_extend_63 : decode cX1_extend 63 = .ok (.ireturn, 1) := by decide +kernel
theorem dX1_extendBy_0 : decode cX1_extendBy 0 = .ok (.iload_n 2, 1) := by decide +kernel
theorem dX1_extendBy_1 : decode cX1_extendBy 1 = .ok (.iload_n 3, 1) := by decide +kernel
theorem dX1_extendBy_2 : decode cX1_extendBy 2 = .ok (.if_icmp .lt 19, 3) := by decide +kernel
theorem dX1_extendBy_5 : decode cX1_extendBy 5 = .ok (.iload_n 1, 1) := by decide +kernel
theorem dX1_extendBy_6 : decode cX1_extendBy 6 = .ok (.aload_n 0, 1) := by decide +kernel
theorem dX1_extendBy_7 : decode cX1_extendBy 7 = .ok (.getfield 21, 3) := by decide +kernel
theorem dX1_extendBy_10 : decode cX1_extendBy 10 = .ok (.iload_n 2, 1) := by decide +kernel
theorem dX1_extendBy_11 : decode cX1_extendBy 11 = .ok (.iload_n 3, 1) := by decide +kernel
theorem dX1_extendBy_12 : decode cX1_extendBy 12 = .ok (.isub, 1) := by decide +kernel
theorem dX1_extendBy_13 : decode cX1_extendBy 13 = .ok (.iaload, 1) := by decide +kernel
theorem dX1_extendBy_14 : decode cX1_extendBy 14 = .ok (.if_icmp .ne 7, 3) := by decide +kernel
theorem dX1_extendBy_17 : decode cX1_extendBy 17 = .ok (.iconst 1, 1) := by decide +kernel
theorem dX1_extendBy_18 : decode cX1_extendBy 18 = .ok (.goto 4, 3) := by decide +kernel
theorem dX1_extendBy_21 : decode cX1_extendBy 21 = .ok (.iconst 0, 1) := by decide +kernel
theorem dX1_extendBy_22 : decode cX1_extendBy 22 = .ok (.istore 5, 2) := by decide +kernel
theorem dX1_extendBy_24 : decode cX1_extendBy 24 = .ok (.aload_n 0, 1) := by decide +kernel
theorem dX1_extendBy_25 : decode cX1_extendBy 25 = .ok (.getfield 21, 3) := by decide +kernel
theorem dX1_extendBy_28 : decode cX1_extendBy 28 = .ok (.iload_n 2, 1) := by decide +kernel
theorem dX1_extendBy_29 : decode cX1_extendBy 29 = .ok (.iload_n 1, 1) := by decide +kernel
theorem dX1_extendBy_30 : decode cX1_extendBy 30 = .ok (.iastore, 1) := by decide +kernel
theorem dX1_extendBy_31 : decode cX1_extendBy 31 = .ok (.aload_n 0, 1) := by decide +kernel
theorem dX1_extendBy_32 : decode cX1_extendBy 32 = .ok (.iload_n 2, 1) := by decide +kernel
theorem dX1_extendBy_33 : decode cX1_extendBy 33 = .ok (.iconst 1, 1) := by decide +kernel
theorem dX1_extendBy_34 : decode cX1_extendBy 34 = .ok (.iadd, 1) := by decide +kernel
theorem dX1_extendBy_35 : decode cX1_extendBy 35 = .ok (.iload 5, 2) := by decide +kernel
theorem dX1_extendBy_37 : decode cX1_extendBy 37 = .ok (.ifCond .eq 7, 3) := by decide +kernel
theorem dX1_extendBy_40 : decode cX1_extendBy 40 = .ok (.iload_n 3, 1) := by decide +kernel
theorem dX1_extendBy_41 : decode cX1_extendBy 41 = .ok (.goto 6, 3) := by decide +kernel
theorem dX1_extendBy_44 : decode cX1_extendBy 44 = .ok (.iload_n 2, 1) := by decide +kernel
theorem dX1_extendBy_45 : decode cX1_extendBy 45 = .ok (.iconst 1, 1) := by decide +kernel
theorem dX1_extendBy_46 : decode cX1_extendBy 46 = .ok (.iadd, 1) := by decide +kernel
theorem dX1_extendBy_47 : decode cX1_extendBy 47 = .ok (.iload 4, 2) := by decide +kernel
theorem dX1_extendBy_49 : decode cX1_extendBy 49 = .ok (.iload_n 1, 1) := by decide +kernel
theorem dX1_extendBy_50 : decode cX1_extendBy 50 = .ok (.isub, 1) := by decide +kernel
theorem dX1_extendBy_51 : decode cX1_extendBy 51 = .ok (.invokevirtual 45, 3) := by decide +kernel
theorem dX1_extendBy_54 : decode cX1_extendBy 54 = .ok (.ireturn, 1) := by decide +kernel
theorem dX1_leastNext_0 : decode cX1_leastNext 0 = .ok (.iload_n 1, 1) := by decide +kernel
theorem dX1_leastNext_1 : decode cX1_leastNext 1 = .ok (.iload_n 2, 1) := by decide +kernel
theorem dX1_leastNext_2 : decode cX1_leastNext 2 = .ok (.if_icmp .ge 7, 3) := by decide +kernel
theorem dX1_leastNext_5 : decode cX1_leastNext 5 = .ok (.iconst 1, 1) := by decide +kernel
theorem dX1_leastNext_6 : decode cX1_leastNext 6 = .ok (.goto 11, 3) := by decide +kernel
theorem dX1_leastNext_9 : decode cX1_leastNext 9 = .ok (.aload_n 0, 1) := by decide +kernel
theorem dX1_leastNext_10 : decode cX1_leastNext 10 = .ok (.getfield 21, 3) := by decide +kernel
theorem dX1_leastNext_13 : decode cX1_leastNext 13 = .ok (.iload_n 1, 1) := by decide +kernel
theorem dX1_leastNext_14 : decode cX1_leastNext 14 = .ok (.iload_n 2, 1) := by decide +kernel
theorem dX1_leastNext_15 : decode cX1_leastNext 15 = .ok (.isub, 1) := by decide +kernel
theorem dX1_leastNext_16 : decode cX1_leastNext 16 = .ok (.iaload, 1) := by decide +kernel
theorem dX1_leastNext_17 : decode cX1_leastNext 17 = .ok (.ireturn, 1) := by decide +kernel
theorem dX1_isWanted_0 : decode cX1_isWanted 0 = .ok (.iload_n 2, 1) := by decide +kernel
theorem dX1_isWanted_1 : decode cX1_isWanted 1 = .ok (.ifCond .le 13, 3) := by decide +kernel
theorem dX1_isWanted_4 : decode cX1_isWanted 4 = .ok (.iload_n 1, 1) := by decide +kernel
theorem dX1_isWanted_5 : decode cX1_isWanted 5 = .ok (.iload_n 2, 1) := by decide +kernel
theorem dX1_isWanted_6 : decode cX1_isWanted 6 = .ok (.irem, 1) := by decide +kernel
theorem dX1_isWanted_7 : decode cX1_isWanted 7 = .ok (.ifCond .ne 7, 3) := by decide +kernel
theorem dX1_isWanted_10 : decode cX1_isWanted 10 = .ok (.iconst 1, 1) := by decide +kernel
theorem dX1_isWanted_11 : decode cX1_isWanted 11 = .ok (.goto 4, 3) := by decide +kernel
theorem dX1_isWanted_14 : decode cX1_isWanted 14 = .ok (.iconst 0, 1) := by decide +kernel
theorem dX1_isWanted_15 : decode cX1_isWanted 15 = .ok (.istore_n 3, 1) := by decide +kernel
theorem dX1_isWanted_16 : decode cX1_isWanted 16 = .ok (.iload_n 3, 1) := by decide +kernel
theorem dX1_isWanted_17 : decode cX1_isWanted 17 = .ok (.ifCond .eq 18, 3) := by decide +kernel
theorem dX1_isWanted_20 : decode cX1_isWanted 20 = .ok (.aload_n 0, 1) := by decide +kernel
theorem dX1_isWanted_21 : decode cX1_isWanted 21 = .ok (.getfield 31, 3) := by decide +kernel
theorem dX1_isWanted_24 : decode cX1_isWanted 24 = .ok (.ifCond .eq 13, 3) := by decide +kernel
theorem dX1_isWanted_27 : decode cX1_isWanted 27 = .ok (.aload_n 0, 1) := by decide +kernel
theorem dX1_isWanted_28 : decode cX1_isWanted 28 = .ok (.iload_n 1, 1) := by decide +kernel
theorem dX1_isWanted_29 : decode cX1_isWanted 29 = .ok (.invokevirtual 65, 3) := by decide +kernel
theorem dX1_isWanted_32 : decode cX1_isWanted 32 = .ok (.ifCond .ne 5, 3) := by decide +kernel
theorem dX1_isWanted_35 : decode cX1_isWanted 35 = .ok (.iconst 0, 1) := by decide +kernel
theorem dX1_isWanted_36 : decode cX1_isWanted 36 = .ok (.ireturn, 1) := by decide +kernel
theorem dX1_isWanted_37 : decode cX1_isWanted 37 = .ok (.aload_n 0, 1) := by decide +kernel
theorem dX1_isWanted_38 : decode cX1_isWanted 38 = .ok (.iload_n 1, 1) := by decide +kernel
theorem dX1_isWanted_39 : decode cX1_isWanted 39 = .ok (.putfield 18, 3) := by decide +kernel
theorem dX1_isWanted_42 : decode cX1_isWanted 42 = .ok (.aload_n 0, 1) := by decide +kernel
theorem dX1_isWanted_43 : decode cX1_isWanted 43 = .ok (.dup, 1) := by decide +kernel
theorem dX1_isWanted_44 : decode cX1_isWanted 44 = .ok (.getfield 38, 3) := by decide +kernel
theorem dX1_isWanted_47 : decode cX1_isWanted 47 = .ok (.iconst 1, 1) := by decide +kernel
theorem dX1_isWanted_48 : decode cX1_isWanted 48 = .ok (.iadd, 1) := by decide +kernel
theorem dX1_isWanted_49 : decode cX1_isWanted 49 = .ok (.putfield 38, 3) := by decide +kernel
theorem dX1_isWanted_52 : decode cX1_isWanted 52 = .ok (.aload_n 0, 1) := by decide +kernel
theorem dX1_isWanted_53 : decode cX1_isWanted 53 = .ok (.getfield 38, 3) := by decide +kernel
theorem dX1_isWanted_56 : decode cX1_isWanted 56 = .ok (.iconst 1, 1) := by decide +kernel
theorem dX1_isWanted_57 : decode cX1_isWanted 57 = .ok (.isub, 1) := by decide +kernel
theorem dX1_isWanted_58 : decode cX1_isWanted 58 = .ok (.aload_n 0, 1) := by decide +kernel
theorem dX1_isWanted_59 : decode cX1_isWanted 59 = .ok (.getfield 35, 3) := by decide +kernel
theorem dX1_isWanted_62 : decode cX1_isWanted 62 = .ok (.if_icmp .ne 7, 3) := by decide +kernel
theorem dX1_isWanted_65 : decode cX1_isWanted 65 = .ok (.iconst 1, 1) := by decide +kernel
theorem dX1_isWanted_66 : decode cX1_isWanted 66 = .ok (.goto 4, 3) := by decide +kernel
theorem dX1_isWanted_69 : decode cX1_isWanted 69 = .ok (.iconst 0, 1) := by decide +kernel
theorem dX1_isWanted_70 : decode cX1_isWanted 70 = .ok (.ireturn, 1) := by decide +kernel
theorem dX1_comesFirstBackwards_0 : decode cX1_comesFirstBackwards 0 = .ok (.iconst 0, 1) := by decide +kernel
theorem dX1_comesFirstBackwards_1 : decode cX1_comesFirstBackwards 1 = .ok (.istore_n 2, 1) := by decide +kernel
theorem dX1_comesFirstBackwards_2 : decode cX1_comesFirstBackwards 2 = .ok (.iload_n 2, 1) := by decide +kernel
theorem dX1_comesFirstBackwards_3 : decode cX1_comesFirstBackwards 3 = .ok (.iload_n 1, 1) := by decide +kernel
theorem dX1_comesFirstBackwards_4 : decode cX1_comesFirstBackwards 4 = .ok (.if_icmp .ge 20, 3) := by decide +kernel
theorem dX1_comesFirstBackwards_7 : decode cX1_comesFirstBackwards 7 = .ok (.aload_n 0, 1) := by decide +kernel
theorem dX1_comesFirstBackwards_8 : decode cX1_comesFirstBackwards 8 = .ok (.iload_n 1, 1) := by decide +kernel
theorem dX1_comesFirstBackwards_9 : decode cX1_comesFirstBackwards 9 = .ok (.iload_n 2, 1) := by decide +kernel
theorem dX1_comesFirstBackwards_10 : decode cX1_comesFirstBackwards 10 = .ok (.invokevirtual 68, 3) := by decide +kernel
theorem dX1_comesFirstBackwards_13 : decode cX1_comesFirstBackwards 13 = .ok (.ifCond .le 5, 3) := by decide +kernel
theorem dX1_comesFirstBackwards_16 : decode cX1_comesFirstBackwards 16 = .ok (.iconst 0, 1) := by decide +kernel
theorem dX1_comesFirstBackwards_17 : decode cX1_comesFirstBackwards 17 = .ok (.ireturn, 1) := by decide +kernel
theorem dX1_comesFirstBackwards_18 : decode cX1_comesFirstBackwards 18 = .ok (.iinc 2 1, 3) := by decide +kernel
theorem dX1_comesFirstBackwards_21 : decode cX1_comesFirstBackwards 21 = .ok (.goto (-19), 3) := by decide +kernel
theorem dX1_comesFirstBackwards_24 : decode cX1_comesFirstBackwards 24 = .ok (.iconst 1, 1) := by decide +kernel
theorem dX1_comesFirstBackwards_25 : decode cX1_comesFirstBackwards 25 = .ok (.ireturn, 1) := by decide +kernel
theorem dX1_compareBackwards_0 : decode cX1_compareBackwards 0 = .ok (.iconst 0, 1) := by decide +kernel
theorem dX1_compareBackwards_1 : decode cX1_compareBackwards 1 = .ok (.istore_n 3, 1) := by decide +kernel
theorem dX1_compareBackwards_2 : decode cX1_compareBackwards 2 = .ok (.iload_n 3, 1) := by decide +kernel
theorem dX1_compareBackwards_3 : decode cX1_compareBackwards 3 = .ok (.iload_n 1, 1) := by decide +kernel
theorem dX1_compareBackwards_4 : decode cX1_compareBackwards 4 = .ok (.if_icmp .ge 55, 3) := by decide +kernel
theorem dX1_compareBackwards_7 : decode cX1_compareBackwards 7 = .ok (.aload_n 0, 1) := by decide +kernel
theorem dX1_compareBackwards_8 : decode cX1_compareBackwards 8 = .ok (.getfield 21, 3) := by decide +kernel
theorem dX1_compareBackwards_11 : decode cX1_compareBackwards 11 = .ok (.iload_n 2, 1) := by decide +kernel
theorem dX1_compareBackwards_12 : decode cX1_compareBackwards 12 = .ok (.iload_n 3, 1) := by decide +kernel
theorem dX1_compareBackwards_13 : decode cX1_compareBackwards 13 = .ok (.if_icmp .lt 9, 3) := by decide +kernel
theorem dX1_compareBackwards_16 : decode cX1_compareBackwards 16 = .ok (.iload_n 2, 1) := by decide +kernel
theorem dX1_compareBackwards_17 : decode cX1_compareBackwards 17 = .ok (.iload_n 3, 1) := by decide +kernel
theorem dX1_compareBackwards_18 : decode cX1_compareBackwards 18 = .ok (.isub, 1) := by decide +kernel
theorem dX1_compareBackwards_19 : decode cX1_compareBackwards 19 = .ok (.goto 8, 3) := by decide +kernel
theorem dX1_compareBackwards_22 : decode cX1_compareBackwards 22 = .ok (.iload_n 2, 1) := by decide +kernel
theorem dX1_compareBackwards_23 : decode cX1_compareBackwards 23 = .ok (.iload_n 3, 1) := by decide +kernel
theorem dX1_compareBackwards_24 : decode cX1_compareBackwards 24 = .ok (.isub, 1) := by decide +kernel
theorem dX1_compareBackwards_25 : decode cX1_compareBackwards 25 = .ok (.iload_n 1, 1) := by decide +kernel
theorem dX1_compareBackwards_26 : decode cX1_compareBackwards 26 = .ok (.iadd, 1) := by decide +kernel
theorem dX1_compareBackwards_27 : decode cX1_compareBackwards 27 = .ok (.iaload, 1) := by decide +kernel
theorem dX1_compareBackwards_28 : decode cX1_compareBackwards 28 = .ok (.istore 4, 2) := by decide +kernel
theorem dX1_compareBackwards_30 : decode cX1_compareBackwards 30 = .ok (.aload_n 0, 1) := by decide +kernel
theorem dX1_compareBackwards_31 : decode cX1_compareBackwards 31 = .ok (.getfield 21, 3) := by decide +kernel
theorem dX1_compareBackwards_34 : decode cX1_compareBackwards 34 = .ok (.iload_n 3, 1) := by decide +kernel
theorem dX1_compareBackwards_35 : decode cX1_compareBackwards 35 = .ok (.iaload, 1) := by decide +kernel
theorem dX1_compareBackwards_36 : decode cX1_compareBackwards 36 = .ok (.iload 4, 2) := by decide +kernel
theorem dX1_compareBackwards_38 : decode cX1_compareBackwards 38 = .ok (.if_icmp .eq 15, 3) := by decide +kernel
theorem dX1_compareBackwards_41 : decode cX1_compareBackwards 41 = .ok (.aload_n 0, 1) := by decide +kernel
theorem dX1_compareBackwards_42 : decode cX1_compareBackwards 42 = .ok (.getfield 21, 3) := by decide +kernel
theorem dX1_compareBackwards_45 : decode cX1_compareBackwards 45 = .ok (.iload_n 3, 1) := by decide +kernel
theorem dX1_compareBackwards_46 : decode cX1_compareBackwards 46 = .ok (.iaload, 1) := by decide +kernel
theorem dX1_compareBackwards_47 : decode cX1_compareBackwards 47 = .ok (.iload 4, 2) := by decide +kernel
theorem dX1_compareBackwards_49 : decode cX1_compareBackwards 49 = .ok (.invokestatic 71, 3) := by decide +kernel
theorem dX1_compareBackwards_52 : decode cX1_compareBackwards 52 = .ok (.ireturn, 1) := by decide +kernel
theorem dX1_compareBackwards_53 : decode cX1_compareBackwards 53 = .ok (.iinc 3 1, 3) := by decide +kernel
theorem dX1_compareBackwards_56 : decode cX1_compareBackwards 56 = .ok (.goto (-54), 3) := by decide +kernel
theorem dX1_compareBackwards_59 : decode cX1_compareBackwards 59 = .ok (.iconst 0, 1) := by decide +kernel
theorem dX1_compareBackwards_60 : decode cX1_compareBackwards 60 = .ok (.ireturn, 1) := by decide +kernel
