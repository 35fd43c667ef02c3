theorem dX4_init_0 : decode cX4_init 0 = .ok (.aload_n 0, 1) := by decide +kernel
theorem dX4_init_1 : decode cX4_init 1 = .ok (.invokespecial 3, 3) := by decide +kernel
theorem dX4_init_4 : decode cX4_init 4 = .ok (.aload_n 0, 1) := by decide +kernel
theorem dX4_init_5 : decode cX4_init 5 = .ok (.iconst 0, 1) := by decide +kernel
theorem dX4_init_6 : decode cX4_init 6 = .ok (.putfield 9, 3) := by decide +kernel
theorem dX4_init_9 : decode cX4_init 9 = .ok (.aload_n 0, 1) := by decide +kernel
theorem dX4_init_10 : decode cX4_init 10 = .ok (.iconst 1, 1) := by decide +kernel
theorem dX4_init_11 : decode cX4_init 11 = .ok (.putfield 15, 3) := by decide +kernel
theorem dX4_init_14 : decode cX4_init 14 = .ok (.aload_n 0, 1) := by decide +kernel
theorem dX4_init_15 : decode cX4_init 15 = .ok (.iconst 1, 1) := by decide +kernel
theorem dX4_init_16 : decode cX4_init 16 = .ok (.putfield 18, 3) := by decide +kernel
theorem dX4_init_19 : decode cX4_init 19 = .ok (.aload_n 0, 1) := by decide +kernel
theorem dX4_init_20 : decode cX4_init 20 = .ok (.iconst 0, 1) := by decide +kernel
theorem dX4_init_21 : decode cX4_init 21 = .ok (.putfield 21, 3) := by decide +kernel
theorem dX4_init_24 : decode cX4_init 24 = .ok (.aload_n 0, 1) := by decide +kernel
theorem dX4_init_25 : decode cX4_init 25 = .ok (.iconst 1, 1) := by decide +kernel
theorem dX4_init_26 : decode cX4_init 26 = .ok (.putfield 24, 3) := by decide +kernel
theorem dX4_init_29 : decode cX4_init 29 = .ok (.aload_n 0, 1) := by decide +kernel
theorem dX4_init_30 : decode cX4_init 30 = .ok (.iconst 1, 1) := by decide +kernel
theorem dX4_init_31 : decode cX4_init 31 = .ok (.putfield 27, 3) := by decide +kernel
theorem dX4_init_34 : decode cX4_init 34 = .ok (.aload_n 0, 1) := by decide +kernel
theorem dX4_init_35 : decode cX4_init 35 = .ok (.iconst 1, 1) := by decide +kernel
theorem dX4_init_36 : decode cX4_init 36 = .ok (.putfield 31, 3) := by decide +kernel
theorem dX4_init_39 : decode cX4_init 39 = .ok (.aload_n 0, 1) := by decide +kernel
theorem dX4_init_40 : decode cX4_init 40 = .ok (.iconst 0, 1) := by decide +kernel
theorem dX4_init_41 : decode cX4_init 41 = .ok (.putfield 34, 3) := by decide +kernel
theorem dX4_init_44 : decode cX4_init 44 = .ok (.aload_n 0, 1) := by decide +kernel
theorem dX4_init_45 : decode cX4_init 45 = .ok (.bipush 6, 2) := by decide +kernel
theorem dX4_init_47 : decode cX4_init 47 = .ok (.newarray .int, 2) := by decide +kernel
theorem dX4_init_49 : decode cX4_init 49 = .ok (.putfield 37, 3) := by decide +kernel
theorem dX4_init_52 : decode cX4_init 52 = .ok (.aload_n 0, 1) := by decide +kernel
theorem dX4_init_53 : decode cX4_init 53 = .ok (.bipush 6, 2) := by decide +kernel
theorem dX4_init_55 : decode cX4_init 55 = .ok (.sipush 160, 3) := by decide +kernel
theorem dX4_init_58 : decode cX4_init 58 = .ok (.multianewarray 41 2, 4) := by decide +kernel
theorem dX4_init_62 : decode cX4_init 62 = .ok (.putfield 43, 3) := by decide +kernel
theorem dX4_init_65 : decode cX4_init 65 = .ok (.aload_n 0, 1) := by decide +kernel
theorem dX4_init_66 : decode cX4_init 66 = .ok (.bipush 6, 2) := by decide +kernel
theorem dX4_init_68 : decode cX4_init 68 = .ok (.bipush 20, 2) := by decide +kernel
theorem dX4_init_70 : decode cX4_init 70 = .ok (.multianewarray 41 2, 4) := by decide +kernel
theorem dX4_init_74 : decode cX4_init 74 = .ok (.putfield 46, 3) := by decide +kernel
theorem dX4_init_77 : decode cX4_init 77 = .ok (.aload_n 0, 1) := by decide +kernel
theorem dX4_init_78 : decode cX4_init 78 = .ok (.iconst 5, 1) := by decide +kernel
theorem dX4_init_79 : decode cX4_init 79 = .ok (.newarray .int, 2) := by decide +kernel
theorem dX4_init_81 : decode cX4_init 81 = .ok (.putfield 49, 3) := by decide +kernel
theorem dX4_init_84 : decode cX4_init 84 = .ok (.aload_n 0, 1) := by decide +kernel
theorem dX4_init_85 : decode cX4_init 85 = .ok (.iconst 5, 1) := by decide +kernel
theorem dX4_init_86 : decode cX4_init 86 = .ok (.newarray .int, 2) := by decide +kernel
theorem dX4_init_88 : decode cX4_init 88 = .ok (.putfield 52, 3) := by decide +kernel
theorem dX4_init_91 : decode cX4_init 91 = .ok (.return_, 1) := by decide +kernel
theorem dX4_hangsTogether_0 : decode cX4_hangsTogether 0 = .ok (.iload_n 0, 1) := by decide +kernel
theorem dX4_hangsTogether_1 : decode cX4_hangsTogether 1 = .ok (.invokestatic 55, 3) := by decide +kernel
theorem dX4_hangsTogether_4 : decode cX4_hangsTogether 4 = .ok (.istore_n 1, 1) := by decide +kernel
theorem dX4_hangsTogether_5 : decode cX4_hangsTogether 5 = .ok (.iconst 1, 1) := by decide +kernel
theorem dX4_hangsTogether_6 : decode cX4_hangsTogether 6 = .ok (.istore_n 2, 1) := by decide +kernel
theorem dX4_hangsTogether_7 : decode cX4_hangsTogether 7 = .ok (.iload_n 2, 1) := by decide +kernel
theorem dX4_hangsTogether_8 : decode cX4_hangsTogether 8 = .ok (.iconst 5, 1) := by decide +kernel
theorem dX4_hangsTogether_9 : decode cX4_hangsTogether 9 = .ok (.if_icmp .ge 40, 3) := by decide +kernel
theorem dX4_hangsTogether_12 : decode cX4_hangsTogether 12 = .ok (.iconst 0, 1) := by decide +kernel
theorem dX4_hangsTogether_13 : decode cX4_hangsTogether 13 = .ok (.istore_n 3, 1) := by decide +kernel
theorem dX4_hangsTogether_14 : decode cX4_hangsTogether 14 = .ok (.iload_n 3, 1) := by decide +kernel
theorem dX4_hangsTogether_15 : decode cX4_hangsTogether 15 = .ok (.bipush 25, 2) := by decide +kernel
theorem dX4_hangsTogether_17 : decode cX4_hangsTogether 17 = .ok (.if_icmp .ge 26, 3) := by decide +kernel
theorem dX4_hangsTogether_20 : decode cX4_hangsTogether 20 = .ok (.iload_n 1, 1) := by decide +kernel
theorem dX4_hangsTogether_21 : decode cX4_hangsTogether 21 = .ok (.iload_n 3, 1) := by decide +kernel
theorem dX4_hangsTogether_22 : decode cX4_hangsTogether 22 = .ok (.ishr, 1) := by decide +kernel
theorem dX4_hangsTogether_23 : decode cX4_hangsTogether 23 = .ok (.iconst 1, 1) := by decide +kernel
theorem dX4_hangsTogether_24 : decode cX4_hangsTogether 24 = .ok (.iand, 1) := by decide +kernel
theorem dX4_hangsTogether_25 : decode cX4_hangsTogether 25 = .ok (.ifCond .eq 12, 3) := by decide +kernel
theorem dX4_hangsTogether_28 : decode cX4_hangsTogether 28 = .ok (.iload_n 1, 1) := by decide +kernel
theorem dX4_hangsTogether_29 : decode cX4_hangsTogether 29 = .ok (.iload_n 3, 1) := by decide +kernel
theorem dX4_hangsTogether_30 : decode cX4_hangsTogether 30 = .ok (.invokestatic 61, 3) := by decide +kernel
theorem dX4_hangsTogether_33 : decode cX4_hangsTogether 33 = .ok (.iload_n 0, 1) := by decide +kernel
theorem dX4_hangsTogether_34 : decode cX4_hangsTogether 34 = .ok (.iand, 1) := by decide +kernel
theorem dX4_hangsTogether_35 : decode cX4_hangsTogether 35 = .ok (.ior, 1) := by decide +kernel
theorem dX4_hangsTogether_36 : decode cX4_hangsTogether 36 = .ok (.istore_n 1, 1) := by decide +kernel
theorem dX4_hangsTogether_37 : decode cX4_hangsTogether 37 = .ok (.iinc 3 1, 3) := by decide +kernel
theorem dX4_hangsTogether_40 : decode cX4_hangsTogether 40 = .ok (.goto (-26), 3) := by decide +kernel
theorem dX4_hangsTogether_43 : decode cX4_hangsTogether 43 = .ok (.iinc 2 1, 3) := by decide +kernel
theorem dX4_hangsTogether_46 : decode cX4_hangsTogether 46 = .ok (.goto (-39), 3) := by decide +kernel
theorem dX4_hangsTogether_49 : decode cX4_hangsTogether 49 = .ok (.iload_n 1, 1) := by decide +kernel
theorem dX4_hangsTogether_50 : decode cX4_hangsTogether 50 = .ok (.iload_n 0, 1) := by decide +kernel
theorem dX4_hangsTogether_51 : decode cX4_hangsTogether 51 = .ok (.if_icmp .ne 7, 3) := by decide +kernel
theorem dX4_hangsTogether_54 : decode cX4_hangsTogether 54 = .ok (.iconst 1, 1) := by decide +kernel
theorem dX4_hangsTogether_55 : decode cX4_hangsTogether 55 = .ok (.goto 4, 3) := by decide +kernel
theorem dX4_hangsTogether_58 : decode cX4_hangsTogether 58 = .ok (.iconst 0, 1) := by decide +kernel
theorem dX4_hangsTogether_59 : decode cX4_hangsTogether 59 = .ok (.ireturn, 1) := by decide +kernel
theorem dX4_neighbours_0 : decode cX4_neighbours 0 = .ok (.iload_n 0, 1) := by decide +kernel
theorem dX4_neighbours_1 : decode cX4_neighbours 1 = .ok (.iconst 5, 1) := by decide +kernel
theorem dX4_neighbours_2 : decode cX4_neighbours 2 = .ok (.irem, 1) := by decide +kernel
theorem dX4_neighbours_3 : decode cX4_neighbours 3 = .ok (.istore_n 1, 1) := by decide +kernel
theorem dX4_neighbours_4 : decode cX4_neighbours 4 = .ok (.iconst 1, 1) := by decide +kernel
theorem dX4_neighbours_5 : decode cX4_neighbours 5 = .ok (.iload_n 0, 1) := by decide +kernel
theorem dX4_neighbours_6 : decode cX4_neighbours 6 = .ok (.iconst 5, 1) := by decide +kernel
theorem dX4_neighbours_7 : decode cX4_neighbours 7 = .ok (.iadd, 1) := by decide +kernel
theorem dX4_neighbours_8 : decode cX4_neighbours 8 = .ok (.ishl, 1) := by decide +kernel
theorem dX4_neighbours_9 : decode cX4_neighbours 9 = .ok (.istore_n 2, 1) := by decide +kernel
theorem dX4_neighbours_10 : decode cX4_neighbours 10 = .ok (.iload_n 2, 1) := by decide +kernel
theorem dX4_neighbours_11 : decode cX4_neighbours 11 = .ok (.iload_n 0, 1) := by decide +kernel
theorem dX4_neighbours_12 : decode cX4_neighbours 12 = .ok (.iconst 5, 1) := by decide +kernel
theorem dX4_neighbours_13 : decode cX4_neighbours 13 = .ok (.if_icmp .lt 11, 3) := by decide +kernel
theorem dX4_neighbours_16 : decode cX4_neighbours 16 = .ok (.iconst 1, 1) := by decide +kernel
theorem dX4_neighbours_17 : decode cX4_neighbours 17 = .ok (.iload_n 0, 1) := by decide +kernel
theorem dX4_neighbours_18 : decode cX4_neighbours 18 = .ok (.iconst 5, 1) := by decide +kernel
theorem dX4_neighbours_19 : decode cX4_neighbours 19 = .ok (.isub, 1) := by decide +kernel
theorem dX4_neighbours_20 : decode cX4_neighbours 20 = .ok (.ishl, 1) := by decide +kernel
theorem dX4_neighbours_21 : decode cX4_neighbours 21 = .ok (.goto 4, 3) := by decide +kernel
theorem dX4_neighbours_24 : decode cX4_neighbours 24 = .ok (.iconst 0, 1) := by decide +kernel
theorem dX4_neighbours_25 : decode cX4_neighbours 25 = .ok (.ior, 1) := by decide +kernel
theorem dX4_neighbours_26 : decode cX4_neighbours 26 = .ok (.istore_n 2, 1) := by decide +kernel
theorem dX4_neighbours_27 : decode cX4_neighbours 27 = .ok (.iload_n 2, 1) := by decide +kernel
theorem dX4_neighbours_28 : decode cX4_neighbours 28 = .ok (.iload_n 1, 1) := by decide +kernel
theorem dX4_neighbours_29 : decode cX4_neighbours 29 = .ok (.ifCond .le 11, 3) := by decide +kernel
theorem dX4_neighbours_32 : decode cX4_neighbours 32 = .ok (.iconst 1, 1) := by decide +kernel
theorem dX4_neighbours_33 : decode cX4_neighbours 33 = .ok (.iload_n 0, 1) := by decide +kernel
theorem dX4_neighbours_34 : decode cX4_neighbours 34 = .ok (.iconst 1, 1) := by decide +kernel
theorem dX4_neighbours_35 : decode cX4_neighbours 35 = .ok (.isub, 1) := by decide +kernel
theorem dX4_neighbours_36 : decode cX4_neighbours 36 = .ok (.ishl, 1) := by decide +kernel
theorem dX4_neighbours_37 : decode cX4_neighbours 37 = .ok (.goto 4, 3) := by decide +kernel
theorem dX4_neighbours_40 : decode cX4_neighbours 40 = .ok (.iconst 0, 1) := by decide +kernel
theorem dX4_neighbours_41 : decode cX4_neighbours 41 = .ok (.ior, 1) := by decide +kernel
theorem dX4_neighbours_42 : decode cX4_neighbours 42 = .ok (.istore_n 2, 1) := by decide +kernel
theorem dX4_neighbours_43 : decode cX4_neighbours 43 = .ok (.iload_n 2, 1) := by decide +kernel
theorem dX4_neighbours_44 : decode cX4_neighbours 44 = .ok (.iload_n 1, 1) := by decide +kernel
theorem dX4_neighbours_45 : decode cX4_neighbours 45 = .ok (.iconst 4, 1) := by decide +kernel
theorem dX4_neighbours_46 : decode cX4_neighbours 46 = .ok (.if_icmp .ge 11, 3) := by decide +kernel
theorem dX4_neighbours_49 : decode cX4_neighbours 49 = .ok (.iconst 1, 1) := by decide +kernel
theorem dX4_neighbours_50 : decode cX4_neighbours 50 = .ok (.iload_n 0, 1) := by decide +kernel
theorem dX4_neighbours_51 : decode cX4_neighbours 51 = .ok (.iconst 1, 1) := by decide +kernel
theorem dX4_neighbours_52 : decode cX4_neighbours 52 = .ok (.iadd, 1) := by decide +kernel
theorem dX4_neighbours_53 : decode cX4_neighbours 53 = .ok (.ishl, 1) := by decide +kernel
theorem dX4_neighbours_54 : decode cX4_neighbours 54 = .ok (.goto 4, 3) := by decide +kernel
theorem dX4_neighbours_57 : decode cX4_neighbours 57 = .ok (.iconst 0, 1) := by decide +kernel
theorem dX4_neighbours_58 : decode cX4_neighbours 58 = .ok (.ior, 1) := by decide +kernel
theorem dX4_neighbours_59 : decode cX4_neighbours 59 = .ok (.istore_n 2, 1) := by decide +kernel
theorem dX4_neighbours_60 : decode cX4_neighbours 60 = .ok (.iload_n 2, 1) := by decide +kernel
theorem dX4_neighbours_61 : decode cX4_neighbours 61 = .ok (.ireturn, 1) := by decide +kernel
theorem dX4_add_0 : decode cX4_add 0 = .ok (.aload_n 0, 1) := by decide +kernel
theorem dX4_add_1 : decode cX4_add 1 = .ok (.getfield 37, 3) := by decide +kernel
theorem dX4_add_4 : decode cX4_add 4 = .ok (.aload_n 0, 1) := by decide +kernel
theorem dX4_add_5 : decode cX4_add 5 = .ok (.getfield 9, 3) := by decide +kernel
theorem dX4_add_8 : decode cX4_add 8 = .ok (.iload_n 1, 1) := by decide +kernel
theorem dX4_add_9 : decode cX4_add 9 = .ok (.iastore, 1) := by decide +kernel
theorem dX4_add_10 : decode cX4_add 10 = .ok (.aload_n 0, 1) := by decide +kernel
theorem dX4_add_11 : decode cX4_add 11 = .ok (.dup, 1) := by decide +kernel
theorem dX4_add_12 : decode cX4_add 12 = .ok (.getfield 9, 3) := by decide +kernel
theorem dX4_add_15 : decode cX4_add 15 = .ok (.iconst 1, 1) := by decide +kernel
theorem dX4_add_16 : decode cX4_add 16 = .ok (.iadd, 1) := by decide +kernel
theorem dX4_add_17 : decode cX4_add 17 = .ok (.putfield 9, 3) := by decide +kernel
theorem dX4_add_20 : decode cX4_add 20 = .ok (.aload_n 0, 1) := by decide +kernel
theorem dX4_add_21 : decode cX4_add 21 = .ok (.dup, 1) := by decide +kernel
theorem dX4_add_22 : decode cX4_add 22 = .ok (.getfield 24, 3) := by decide +kernel
theorem dX4_add_25 : decode cX4_add 25 = .ok (.iconst 1, 1) := by decide +kernel
theorem dX4_add_26 : decode cX4_add 26 = .ok (.iadd, 1) := by decide +kernel
theorem dX4_add_27 : decode cX4_add 27 = .ok (.putfield 24, 3) := by decide +kernel
theorem dX4_add_30 : decode cX4_add 30 = .ok (.aload_n 0, 1) := by decide +kernel
theorem dX4_add_31 : decode cX4_add 31 = .ok (.getfield 9, 3) := by decide +kernel
theorem dX4_add_34 : decode cX4_add 34 = .ok (.iconst 1, 1) := by decide +kernel
theorem dX4_add_35 : decode cX4_add 35 = .ok (.isub, 1) := by decide +kernel
theorem dX4_add_36 : decode cX4_add 36 = .ok (.ireturn, 1) := by decide +kernel
theorem dX4_dropLast_0 : decode cX4_dropLast 0 = .ok (.aload_n 0, 1) := by decide +kernel
theorem dX4_dropLast_1 : decode cX4_dropLast 1 = .ok (.dup, 1) := by decide +kernel
theorem dX4_dropLast_2 : decode cX4_dropLast 2 = .ok (.getfield 9, 3) := by decide +kernel
theorem dX4_dropLast_5 : decode cX4_dropLast 5 = .ok (.iconst 1, 1) := by decide +kernel
theorem dX4_dropLast_6 : decode cX4_dropLast 6 = .ok (.isub, 1) := by decide +kernel
theorem dX4_dropLast_7 : decode cX4_dropLast 7 = .ok (.putfield 9, 3) := by decide +kernel
theorem dX4_dropLast_10 : decode cX4_dropLast 10 = .ok (.aload_n 0, 1) := by decide +kernel
theorem dX4_dropLast_11 : decode cX4_dropLast 11 = .ok (.dup, 1) := by decide +kernel
theorem dX4_dropLast_12 : decode cX4_dropLast 12 = .ok (.getfield 24, 3) := by decide +kernel
theorem dX4_dropLast_15 : decode cX4_dropLast 15 = .ok (.iconst 1, 1) := by decide +kernel
theorem dX4_dropLast_16 : decode cX4_dropLast 16 = .ok (.iadd, 1) := by decide +kernel
theorem dX4_dropLast_17 : decode cX4_dropLast 17 = .ok (.putfield 24, 3) := by decide +kernel
theorem dX4_dropLast_20 : decode cX4_dropLast 20 = .ok (.aload_n 0, 1) := by decide +kernel
theorem dX4_dropLast_21 : decode cX4_dropLast 21 = .ok (.getfield 9, 3) := by decide +kernel
theorem dX4_dropLast_24 : decode cX4_dropLast 24 = .ok (.ireturn, 1) := by decide +kernel
theorem dX4_setBoard_0 : decode cX4_setBoard 0 = .ok (.aload_n 0, 1) := by decide +kernel
theorem dX4_setBoard_1 : decode cX4_setBoard 1 = .ok (.iload_n 1, 1) := by decide +kernel
theorem dX4_setBoard_2 : decode cX4_setBoard 2 = .ok (.putfield 15, 3) := by decide +kernel
theorem dX4_setBoard_5 : decode cX4_setBoard 5 = .ok (.aload_n 0, 1) := by decide +kernel
theorem dX4_setBoard_6 : decode cX4_setBoard 6 = .ok (.iload_n 2, 1) := by decide +kernel
theorem dX4_setBoard_7 : decode cX4_setBoard 7 = .ok (.putfield 18, 3) := by decide +kernel
theorem dX4_setBoard_10 : decode cX4_setBoard 10 = .ok (.aload_n 0, 1) := by decide +kernel
theorem dX4_setBoard_11 : decode cX4_setBoard 11 = .ok (.iload_n 3, 1) := by decide +kernel
theorem dX4_setBoard_12 : decode cX4_setBoard 12 = .ok (.putfield 21, 3) := by decide +kernel
theorem dX4_setBoard_15 : decode cX4_setBoard 15 = .ok (.aload_n 0, 1) := by decide +kernel
theorem dX4_setBoard_16 : decode cX4_setBoard 16 = .ok (.dup, 1) := by decide +kernel
theorem dX4_setBoard_17 : decode cX4_setBoard 17 = .ok (.getfield 24, 3) := by decide +kernel
theorem dX4_setBoard_20 : decode cX4_setBoard 20 = .ok (.iconst 1, 1) := by decide +kernel
theorem dX4_setBoard_21 : decode cX4_setBoard 21 = .ok (.iadd, 1) := by decide +kernel
theorem dX4_setBoard_22 : decode cX4_setBoard 22 = .ok (.putfield 24, 3) := by decide +kernel
theorem dX4_setBoard_25 : decode cX4_setBoard 25 = .ok (.return_, 1) := by decide +kernel
theorem dX4_setTurns_0 : decode cX4_setTurns 0 = .ok (.aload_n 0, 1) := by decide +kernel
theorem dX4_setTurns_1 : decode cX4_setTurns 1 = .ok (.getfield 27, 3) := by decide +kernel
theorem dX4_setTurns_4 : decode cX4_setTurns 4 = .ok (.istore_n 2, 1) := by decide +kernel
theorem dX4_setTurns_5 : decode cX4_setTurns 5 = .ok (.aload_n 0, 1) := by decide +kernel
theorem dX4_setTurns_6 : decode cX4_setTurns 6 = .ok (.iload_n 1, 1) := by decide +kernel
theorem dX4_setTurns_7 : decode cX4_setTurns 7 = .ok (.putfield 27, 3) := by decide +kernel
theorem dX4_setTurns_10 : decode cX4_setTurns 10 = .ok (.aload_n 0, 1) := by decide +kernel
theorem dX4_setTurns_11 : decode cX4_setTurns 11 = .ok (.dup, 1) := by decide +kernel
theorem dX4_setTurns_12 : decode cX4_setTurns 12 = .ok (.getfield 24, 3) := by decide +kernel
theorem dX4_setTurns_15 : decode cX4_setTurns 15 = .ok (.iconst 1, 1) := by decide +kernel
theorem dX4_setTurns_16 : decode cX4_setTurns 16 = .ok (.iadd, 1) := by decide +kernel
theorem dX4_setTurns_17 : decode cX4_setTurns 17 = .ok (.putfield 24, 3) := by decide +kernel
theorem dX4_setTurns_20 : decode cX4_setTurns 20 = .ok (.iload_n 2, 1) := by decide +kernel
theorem dX4_setTurns_21 : decode cX4_setTurns 21 = .ok (.ireturn, 1) := by decide +kernel
theorem dX4_setMirrors_0 : decode cX4_setMirrors 0 = .ok (.aload_n 0, 1) := by decide +kernel
theorem dX4_setMirrors_1 : decode cX4_setMirrors 1 = .ok (.getfield 31, 3) := by decide +kernel
theorem dX4_setMirrors_4 : decode cX4_setMirrors 4 = .ok (.istore_n 2, 1) := by decide +kernel
theorem dX4_setMirrors_5 : decode cX4_setMirrors 5 = .ok (.aload_n 0, 1) := by decide +kernel
theorem dX4_setMirrors_6 : decode cX4_setMirrors 6 = .ok (.iload_n 1, 1) := by decide +kernel
theorem dX4_setMirrors_7 : decode cX4_setMirrors 7 = .ok (.putfield 31, 3) := by decide +kernel
theorem dX4_setMirrors_10 : decode cX4_setMirrors 10 = .ok (.aload_n 0, 1) := by decide +kernel
theorem dX4_setMirrors_11 : decode cX4_setMirrors 11 = .ok (.dup, 1) := by decide +kernel
theorem dX4_setMirrors_12 : decode cX4_setMirrors 12 = .ok (.getfield 24, 3) := by decide +kernel
theorem dX4_setMirrors_15 : decode cX4_setMirrors 15 = .ok (.iconst 1, 1) := by decide +kernel
theorem dX4_setMirrors_16 : decode cX4_setMirrors 16 = .ok (.iadd, 1) := by decide +kernel
theorem dX4_setMirrors_17 : decode cX4_setMirrors 17 = .ok (.putfield 24, 3) := by decide +kernel
theorem dX4_setMirrors_20 : decode cX4_setMirrors 20 = .ok (.iload_n 2, 1) := by decide +kernel
theorem dX4_setMirrors_21 : decode cX4_setMirrors 21 = .ok (.ireturn, 1) := by decide +kernel
theorem dX4_pieceSize_0 : decode cX4_pieceSize 0 = .ok (.aload_n 0, 1) := by decide +kernel
theorem dX4_pieceSize_1 : decode cX4_pieceSize 1 = .ok (.getfield 37, 3) := by decide +kernel
theorem dX4_pieceSize_4 : decode cX4_pieceSize 4 = .ok (.iload_n 1, 1) := by decide +kernel
theorem dX4_pieceSize_5 : decode cX4_pieceSize 5 = .ok (.iaload, 1) := by decide +kernel
theorem dX4_pieceSize_6 : decode cX4_pieceSize 6 = .ok (.invokestatic 64, 3) := by decide +kernel
theorem dX4_pieceSize_9 : decode cX4_pieceSize 9 = .ok (.ireturn, 1) := by decide +kernel
theorem dX4_countPlacements_0 : decode cX4_countPlacements 0 = .ok (.aload_n 0, 1) := by decide +kernel
theorem dX4_countPlacements_1 : decode cX4_countPlacements 1 = .ok (.invokevirtual 67, 3) := by decide +kernel
theorem dX4_countPlacements_4 : decode cX4_countPlacements 4 = .ok (.iconst 0, 1) := by decide +kernel
theorem dX4_countPlacements_5 : decode cX4_countPlacements 5 = .ok (.istore_n 2, 1) := by decide +kernel
theorem dX4_countPlacements_6 : decode cX4_countPlacements 6 = .ok (.iconst 0, 1) := by decide +kernel
theorem dX4_countPlacements_7 : decode cX4_countPlacements 7 = .ok (.istore_n 3, 1) := by decide +kernel
theorem dX4_countPlacements_8 : decode cX4_countPlacements 8 = .ok (.iload_n 3, 1) := by decide +kernel
theorem dX4_countPlacements_9 : decode cX4_countPlacements 9 = .ok (.bipush 20, 2) := by decide +kernel
theorem dX4_countPlacements_11 : decode cX4_countPlacements 11 = .ok (.if_icmp .ge 20, 3) := by decide +kernel
theorem dX4_countPlacements_14 : decode cX4_countPlacements 14 = .ok (.iload_n 2, 1) := by decide +kernel
theorem dX4_countPlacements_15 : decode cX4_countPlacements 15 = .ok (.aload_n 0, 1) := by decide +kernel
theorem dX4_countPlacements_16 : decode cX4_countPlacements 16 = .ok (.getfield 46, 3) := by decide +kernel
theorem dX4_countPlacements_19 : decode cX4_countPlacements 19 = .ok (.iload_n 1, 1) := by decide +kernel
theorem dX4_countPlacements_20 : decode cX4_countPlacements 20 = .ok (.aaload, 1) := by decide +kernel
theorem dX4_countPlacements_21 : decode cX4_countPlacements 21 = .ok (.iload_n 3, 1) := by decide +kernel
theorem dX4_countPlacements_22 : decode cX4_countPlacements 22 = .ok (.iaload, 1) := by decide +kernel
theorem dX4_countPlacements_23 : decode cX4_countPlacements 23 = .ok (.iadd, 1) := by decide +kernel
theorem dX4_countPlacements_24 : decode cX4_countPlacements 24 = .ok (.istore_n 2, 1) := by decide +kernel
theorem dX4_countPlacements_25 : decode cX4_countPlacements 25 = .ok (.iinc 3 1, 3) := by decide +kernel
theorem dX4_countPlacements_28 : decode cX4_countPlacements 28 = .ok (.goto (-20), 3) := by decide +kernel
theorem dX4_countPlacements_31 : decode cX4_countPlacements 31 = .ok (.iload_n 2, 1) := by decide +kernel
theorem dX4_countPlacements_32 : decode cX4_countPlacements 32 = .ok (.ireturn, 1) := by decide +kernel
theorem dX4_countPlacementsFrom_0 : decode cX4_countPlacementsFrom 0 = .ok (.aload_n 0, 1) := by decide +kernel
theorem dX4_countPlacementsFrom_1 : decode cX4_countPlacementsFrom 1 = .ok (.getfield 46, 3) := by decide +kernel
theorem dX4_countPlacementsFrom_4 : decode cX4_countPlacementsFrom 4 = .ok (.iload_n 1, 1) := by decide +kernel
theorem dX4_countPlacementsFrom_5 : decode cX4_countPlacementsFrom 5 = .ok (.aaload, 1) := by decide +kernel
theorem dX4_countPlacementsFrom_6 : decode cX4_countPlacementsFrom 6 = .ok (.iload_n 2, 1) := by decide +kernel
theorem dX4_countPlacementsFrom_7 : decode cX4_countPlacementsFrom 7 = .ok (.iaload, 1) := by decide +kernel
theorem dX4_countPlacementsFrom_8 : decode cX4_countPlacementsFrom 8 = .ok (.ireturn, 1) := by decide +kernel
theorem dX4_placementFrom_0 : decode cX4_placementFrom 0 = .ok (.aload_n 0, 1) := by decide +kernel
theorem dX4_placementFrom_1 : decode cX4_placementFrom 1 = .ok (.getfield 43, 3) := by decide +kernel
theorem dX4_placementFrom_4 : decode cX4_placementFrom 4 = .ok (.iload_n 1, 1) := by decide +kernel
theorem dX4_placementFrom_5 : decode cX4_placementFrom 5 = .ok (.aaload, 1) := by decide +kernel
theorem dX4_placementFrom_6 : decode cX4_placementFrom 6 = .ok (.iload_n 2, 1) := by decide +kernel
theorem dX4_placementFrom_7 : decode cX4_placementFrom 7 = .ok (.bipush 8, 2) := by decide +kernel
theorem dX4_placementFrom_9 : decode cX4_placementFrom 9 = .ok (.imul, 1) := by decide +kernel
theorem dX4_placementFrom_10 : decode cX4_placementFrom 10 = .ok (.iload_n 3, 1) := by decide +kernel
theorem dX4_placementFrom_11 : decode cX4_placementFrom 11 = .ok (.iadd, 1) := by decide +kernel
theorem dX4_placementFrom_12 : decode cX4_placementFrom 12 = .ok (.iaload, 1) := by decide +kernel
theorem dX4_placementFrom_13 : decode cX4_placementFrom 13 = .ok (.ireturn, 1) := by decide +kernel
theorem dX4_listPlacements_0 : decode cX4_listPlacements 0 = .ok (.aload_n 0, 1) := by decide +kernel
theorem dX4_listPlacements_1 : decode cX4_listPlacements 1 = .ok (.getfield 34, 3) := by decide +kernel
theorem dX4_listPlacements_4 : decode cX4_listPlacements 4 = .ok (.aload_n 0, 1) := by decide +kernel
theorem dX4_listPlacements_5 : decode cX4_listPlacements 5 = .ok (.getfield 24, 3) := by decide +kernel
theorem dX4_listPlacements_8 : decode cX4_listPlacements 8 = .ok (.if_icmp .ne 4, 3) := by decide +kernel
theorem dX4_listPlacements_11 : decode cX4_listPlacements 11 = .ok (.return_, 1) := by decide +kernel
theorem dX4_listPlacements_12 : decode cX4_listPlacements 12 = .ok (.aload_n 0, 1) := by decide +kernel
theorem dX4_listPlacements_13 : decode cX4_listPlacements 13 = .ok (.aload_n 0, 1) := by decide +kernel
theorem dX4_listPlacements_14 : decode cX4_listPlacements 14 = .ok (.getfield 24, 3) := by decide +kernel
theorem dX4_listPlacements_17 : decode cX4_listPlacements 17 = .ok (.putfield 34, 3) := by decide +kernel
theorem dX4_listPlacements_20 : decode cX4_listPlacements 20 = .ok (.iconst 0, 1) := by decide +kernel
theorem dX4_listPlacements_21 : decode cX4_listPlacements 21 = .ok (.istore_n 1, 1) := by decide +kernel
theorem dX4_listPlacements_22 : decode cX4_listPlacements 22 = .ok (.iload_n 1, 1) := by decide +kernel
theorem dX4_listPlacements_23 : decode cX4_listPlacements 23 = .ok (.aload_n 0, 1) := by decide +kernel
theorem dX4_listPlacements_24 : decode cX4_listPlacements 24 = .ok (.getfield 9, 3) := by decide +kernel
theorem dX4_listPlacements_27 : decode cX4_listPlacements 27 = .ok (.if_icmp .ge 64, 3) := by decide +kernel
theorem dX4_listPlacements_30 : decode cX4_listPlacements 30 = .ok (.aload_n 0, 1) := by decide +kernel
theorem dX4_listPlacements_31 : decode cX4_listPlacements 31 = .ok (.getfield 46, 3) := by decide +kernel
theorem dX4_listPlacements_34 : decode cX4_listPlacements 34 = .ok (.iload_n 1, 1) := by decide +kernel
theorem dX4_listPlacements_35 : decode cX4_listPlacements 35 = .ok (.aaload, 1) := by decide +kernel
theorem dX4_listPlacements_36 : decode cX4_listPlacements 36 = .ok (.iconst 0, 1) := by decide +kernel
theorem dX4_listPlacements_37 : decode cX4_listPlacements 37 = .ok (.invokestatic 70, 3) := by decide +kernel
theorem dX4_listPlacements_40 : decode cX4_listPlacements 40 = .ok (.iconst 0, 1) := by decide +kernel
theorem dX4_listPlacements_41 : decode cX4_listPlacements 41 = .ok (.istore_n 2, 1) := by decide +kernel
theorem dX4_listPlacements_42 : decode cX4_listPlacements 42 = .ok (.iload_n 2, 1) := by decide +kernel
theorem dX4_listPlacements_43 : decode cX4_listPlacements 43 = .ok (.aload_n 0, 1) := by decide +kernel
theorem dX4_listPlacements_44 : decode cX4_listPlacements 44 = .ok (.getfield 27, 3) := by decide +kernel
theorem dX4_listPlacements_47 : decode cX4_listPlacements 47 = .ok (.ifCond .eq 7, 3) := by decide +kernel
theorem dX4_listPlacements_50 : decode cX4_listPlacements 50 = .ok (.iconst 4, 1) := by decide +kernel
theorem dX4_listPlacements_51 : decode cX4_listPlacements 51 = .ok (.goto 4, 3) := by decide +kernel
theorem dX4_listPlacements_54 : decode cX4_listPlacements 54 = .ok (.iconst 1, 1) := by decide +kernel
theorem dX4_listPlacements_55 : decode cX4_listPlacements 55 = .ok (.if_icmp .ge 30, 3) := by decide +kernel
theorem dX4_listPlacements_58 : decode cX4_listPlacements 58 = .ok (.aload_n 0, 1) := by decide +kernel
theorem dX4_listPlacements_59 : decode cX4_listPlacements 59 = .ok (.iload_n 1, 1) := by decide +kernel
theorem dX4_listPlacements_60 : decode cX4_listPlacements 60 = .ok (.iconst 0, 1) := by decide +kernel
theorem dX4_listPlacements_61 : decode cX4_listPlacements 61 = .ok (.iload_n 2, 1) := by decide +kernel
theorem dX4_listPlacements_62 : decode cX4_listPlacements 62 = .ok (.invokevirtual 76, 3) := by decide +kernel
theorem dX4_listPlacements_65 : decode cX4_listPlacements 65 = .ok (.aload_n 0, 1) := by decide +kernel
theorem dX4_listPlacements_66 : decode cX4_listPlacements 66 = .ok (.getfield 31, 3) := by decide +kernel
theorem dX4_listPlacements_69 : decode cX4_listPlacements 69 = .ok (.ifCond .eq 10, 3) := by decide +kernel
theorem dX4_listPlacements_72 : decode cX4_listPlacements 72 = .ok (.aload_n 0, 1) := by decide +kernel
theorem dX4_listPlacements_73 : decode cX4_listPlacements 73 = .ok (.iload_n 1, 1) := by decide +kernel
theorem dX4_listPlacements_74 : decode cX4_listPlacements 74 = .ok (.iconst 1, 1) := by decide +kernel
theorem dX4_listPlacements_75 : decode cX4_listPlacements 75 = .ok (.iload_n 2, 1) := by decide +kernel
theorem dX4_listPlacements_76 : decode cX4_listPlacements 76 = .ok (.invokevirtual 76, 3) := by decide +kernel
theorem dX4_listPlacements_79 : decode cX4_listPlacements 79 = .ok (.iinc 2 1, 3) := by decide +kernel
theorem dX4_listPlacements_82 : decode cX4_listPlacements 82 = .ok (.goto (-40), 3) := by decide +kernel
theorem dX4_listPlacements_85 : decode cX4_listPlacements 85 = .ok (.iinc 1 1, 3) := by decide +kernel
theorem dX4_listPlacements_88 : decode cX4_listPlacements 88 = .ok (.goto (-66), 3) := by decide +kernel
theorem dX4_listPlacements_91 : decode cX4_listPlacements 91 = .ok (.return_, 1) := by decide +kernel
theorem dX4_listWay_0 : decode cX4_listWay 0 = .ok (.aload_n 0, 1) := by decide +kernel
theorem dX4_listWay_1 : decode cX4_listWay 1 = .ok (.aload_n 0, 1) := by decide +kernel
theorem dX4_listWay_2 : decode cX4_listWay 2 = .ok (.getfield 37, 3) := by decide +kernel
theorem dX4_listWay_5 : decode cX4_listWay 5 = .ok (.iload_n 1, 1) := by decide +kernel
theorem dX4_listWay_6 : decode cX4_listWay 6 = .ok (.iaload, 1) := by decide +kernel
theorem dX4_listWay_7 : decode cX4_listWay 7 = .ok (.iload_n 2, 1) := by decide +kernel
theorem dX4_listWay_8 : decode cX4_listWay 8 = .ok (.iload_n 3, 1) := by decide +kernel
theorem dX4_listWay_9 : decode cX4_listWay 9 = .ok (.invokevirtual 80, 3) := by decide +kernel
theorem dX4_listWay_12 : decode cX4_listWay 12 = .ok (.istore 4, 2) := by decide +kernel
theorem dX4_listWay_14 : decode cX4_listWay 14 = .ok (.iconst 0, 1) := by decide +kernel
theorem dX4_listWay_15 : decode cX4_listWay 15 = .ok (.istore 5, 2) := by decide +kernel
theorem dX4_listWay_17 : decode cX4_listWay 17 = .ok (.iconst 0, 1) := by decide +kernel
theorem dX4_listWay_18 : decode cX4_listWay 18 = .ok (.istore 6, 2) := by decide +kernel
theorem dX4_listWay_20 : decode cX4_listWay 20 = .ok (.iconst 0, 1) := by decide +kernel
theorem dX4_listWay_21 : decode cX4_listWay 21 = .ok (.istore 7, 2) := by decide +kernel
theorem dX4_listWay_23 : decode cX4_listWay 23 = .ok (.iload 7, 2) := by decide +kernel
theorem dX4_listWay_25 : decode cX4_listWay 25 = .ok (.iload 4, 2) := by decide +kernel
theorem dX4_listWay_27 : decode cX4_listWay 27 = .ok (.if_icmp .ge 37, 3) := by decide +kernel
theorem dX4_listWay_30 : decode cX4_listWay 30 = .ok (.iload 5, 2) := by decide +kernel
theorem dX4_listWay_32 : decode cX4_listWay 32 = .ok (.aload_n 0, 1) := by decide +kernel
theorem dX4_listWay_33 : decode cX4_listWay 33 = .ok (.getfield 49, 3) := by decide +kernel
theorem dX4_listWay_36 : decode cX4_listWay 36 = .ok (.iload 7, 2) := by decide +kernel
theorem dX4_listWay_38 : decode cX4_listWay 38 = .ok (.iaload, 1) := by decide +kernel
theorem dX4_listWay_39 : decode cX4_listWay 39 = .ok (.invokestatic 84, 3) := by decide +kernel
theorem dX4_listWay_42 : decode cX4_listWay 42 = .ok (.istore 5, 2) := by decide +kernel
theorem dX4_listWay_44 : decode cX4_listWay 44 = .ok (.iload 6, 2) := by decide +kernel
theorem dX4_listWay_46 : decode cX4_listWay 46 = .ok (.aload_n 0, 1) := by decide +kernel
theorem dX4_listWay_47 : decode cX4_listWay 47 = .ok (.getfield 52, 3) := by decide +kernel
theorem dX4_listWay_50 : decode cX4_listWay 50 = .ok (.iload 7, 2) := by decide +kernel
theorem dX4_listWay_52 : decode cX4_listWay 52 = .ok (.iaload, 1) := by decide +kernel
theorem dX4_listWay_53 : decode cX4_listWay 53 = .ok (.invokestatic 84, 3) := by decide +kernel
theorem dX4_listWay_56 : decode cX4_listWay 56 = .ok (.istore 6, 2) := by decide +kernel
theorem dX4_listWay_58 : decode cX4_listWay 58 = .ok (.iinc 7 1, 3) := by decide +kernel
theorem dX4_listWay_61 : decode cX4_listWay 61 = .ok (.goto (-38), 3) := by decide +kernel
theorem dX4_listWay_64 : decode cX4_listWay 64 = .ok (.iconst 0, 1) := by decide +kernel
theorem dX4_listWay_65 : decode cX4_listWay 65 = .ok (.istore 7, 2) := by decide +kernel
theorem dX4_listWay_67 : decode cX4_listWay 67 = .ok (.iload 7, 2) := by decide +kernel
theorem dX4_listWay_69 : decode cX4_listWay 69 = .ok (.iload 6, 2) := by decide +kernel
theorem dX4_listWay_71 : decode cX4_listWay 71 = .ok (.iadd, 1) := by decide +kernel
theorem dX4_listWay_72 : decode cX4_listWay 72 = .ok (.aload_n 0, 1) := by decide +kernel
theorem dX4_listWay_73 : decode cX4_listWay 73 = .ok (.getfield 18, 3) := by decide +kernel
theorem dX4_listWay_76 : decode cX4_listWay 76 = .ok (.if_icmp .ge 59, 3) := by decide +kernel
theorem dX4_listWay_79 : decode cX4_listWay 79 = .ok (.iconst 0, 1) := by decide +kernel
theorem dX4_listWay_80 : decode cX4_listWay 80 = .ok (.istore 8, 2) := by decide +kernel
theorem dX4_listWay_82 : decode cX4_listWay 82 = .ok (.iload 8, 2) := by decide +kernel
theorem dX4_listWay_84 : decode cX4_listWay 84 = .ok (.iload 5, 2) := by decide +kernel
theorem dX4_listWay_86 : decode cX4_listWay 86 = .ok (.iadd, 1) := by decide +kernel
theorem dX4_listWay_87 : decode cX4_listWay 87 = .ok (.aload_n 0, 1) := by decide +kernel
theorem dX4_listWay_88 : decode cX4_listWay 88 = .ok (.getfield 15, 3) := by decide +kernel
theorem dX4_listWay_91 : decode cX4_listWay 91 = .ok (.if_icmp .ge 38, 3) := by decide +kernel
theorem dX4_listWay_94 : decode cX4_listWay 94 = .ok (.aload_n 0, 1) := by decide +kernel
theorem dX4_listWay_95 : decode cX4_listWay 95 = .ok (.iload 4, 2) := by decide +kernel
theorem dX4_listWay_97 : decode cX4_listWay 97 = .ok (.iload 8, 2) := by decide +kernel
theorem dX4_listWay_99 : decode cX4_listWay 99 = .ok (.iload 7, 2) := by decide +kernel
theorem dX4_listWay_101 : decode cX4_listWay 101 = .ok (.invokevirtual 90, 3) := by decide +kernel
theorem dX4_listWay_104 : decode cX4_listWay 104 = .ok (.istore 9, 2) := by decide +kernel
theorem dX4_listWay_106 : decode cX4_listWay 106 = .ok (.iload 9, 2) := by decide +kernel
theorem dX4_listWay_108 : decode cX4_listWay 108 = .ok (.aload_n 0, 1) := by decide +kernel
theorem dX4_listWay_109 : decode cX4_listWay 109 = .ok (.getfield 21, 3) := by decide +kernel
theorem dX4_listWay_112 : decode cX4_listWay 112 = .ok (.iand, 1) := by decide +kernel
theorem dX4_listWay_113 : decode cX4_listWay 113 = .ok (.ifCond .ne 10, 3) := by decide +kernel
theorem dX4_listWay_116 : decode cX4_listWay 116 = .ok (.aload_n 0, 1) := by decide +kernel
theorem dX4_listWay_117 : decode cX4_listWay 117 = .ok (.iload_n 1, 1) := by decide +kernel
theorem dX4_listWay_118 : decode cX4_listWay 118 = .ok (.iload 9, 2) := by decide +kernel
theorem dX4_listWay_120 : decode cX4_listWay 120 = .ok (.invokevirtual 94, 3) := by decide +kernel
theorem dX4_listWay_123 : decode cX4_listWay 123 = .ok (.iinc 8 1, 3) := by decide +kernel
theorem dX4_listWay_126 : decode cX4_listWay 126 = .ok (.goto (-44), 3) := by decide +kernel
theorem dX4_listWay_129 : decode cX4_listWay 129 = .ok (.iinc 7 1, 3) := by decide +kernel
theorem dX4_listWay_132 : decode cX4_listWay 132 = .ok (.goto (-65), 3) := by decide +kernel
theorem dX4_listWay_135 : decode cX4_listWay 135 = .ok (.return_, 1) := by decide +kernel
theorem dX4_spreadCells_0 : decode cX4_spreadCells 0 = .ok (.iconst 4, 1) := by decide +kernel
theorem dX4_spreadCells_1 : decode cX4_spreadCells 1 = .ok (.istore 4, 2) := by decide +kernel
theorem dX4_spreadCells_3 : decode cX4_spreadCells 3 = .ok (.iconst 0, 1) := by decide +kernel
theorem dX4_spreadCells_4 : decode cX4_spreadCells 4 = .ok (.istore 5, 2) := by decide +kernel
theorem dX4_spreadCells_6 : decode cX4_spreadCells 6 = .ok (.iload 4, 2) := by decide +kernel
theorem dX4_spreadCells_8 : decode cX4_spreadCells 8 = .ok (.istore 6, 2) := by decide +kernel
theorem dX4_spreadCells_10 : decode cX4_spreadCells 10 = .ok (.iload 4, 2) := by decide +kernel
theorem dX4_spreadCells_12 : decode cX4_spreadCells 12 = .ok (.istore 7, 2) := by decide +kernel
theorem dX4_spreadCells_14 : decode cX4_spreadCells 14 = .ok (.iconst 0, 1) := by decide +kernel
theorem dX4_spreadCells_15 : decode cX4_spreadCells 15 = .ok (.istore 8, 2) := by decide +kernel
theorem dX4_spreadCells_17 : decode cX4_spreadCells 17 = .ok (.iload 8, 2) := by decide +kernel
theorem dX4_spreadCells_19 : decode cX4_spreadCells 19 = .ok (.bipush 25, 2) := by decide +kernel
theorem dX4_spreadCells_21 : decode cX4_spreadCells 21 = .ok (.if_icmp .ge 119, 3) := by decide +kernel
theorem dX4_spreadCells_24 : decode cX4_spreadCells 24 = .ok (.iload 5, 2) := by decide +kernel
theorem dX4_spreadCells_26 : decode cX4_spreadCells 26 = .ok (.iconst 5, 1) := by decide +kernel
theorem dX4_spreadCells_27 : decode cX4_spreadCells 27 = .ok (.if_icmp .ge 113, 3) := by decide +kernel
theorem dX4_spreadCells_30 : decode cX4_spreadCells 30 = .ok (.iload_n 1, 1) := by decide +kernel
theorem dX4_spreadCells_31 : decode cX4_spreadCells 31 = .ok (.iload 8, 2) := by decide +kernel
theorem dX4_spreadCells_33 : decode cX4_spreadCells 33 = .ok (.ishr, 1) := by decide +kernel
theorem dX4_spreadCells_34 : decode cX4_spreadCells 34 = .ok (.iconst 1, 1) := by decide +kernel
theorem dX4_spreadCells_35 : decode cX4_spreadCells 35 = .ok (.iand, 1) := by decide +kernel
theorem dX4_spreadCells_36 : decode cX4_spreadCells 36 = .ok (.ifCond .eq 98, 3) := by decide +kernel
theorem dX4_spreadCells_39 : decode cX4_spreadCells 39 = .ok (.iload_n 2, 1) := by decide +kernel
theorem dX4_spreadCells_40 : decode cX4_spreadCells 40 = .ok (.ifCond .eq 13, 3) := by decide +kernel
theorem dX4_spreadCells_43 : decode cX4_spreadCells 43 = .ok (.iload 4, 2) := by decide +kernel
theorem dX4_spreadCells_45 : decode cX4_spreadCells 45 = .ok (.iload 8, 2) := by decide +kernel
theorem dX4_spreadCells_47 : decode cX4_spreadCells 47 = .ok (.iconst 5, 1) := by decide +kernel
theorem dX4_spreadCells_48 : decode cX4_spreadCells 48 = .ok (.irem, 1) := by decide +kernel
theorem dX4_spreadCells_49 : decode cX4_spreadCells 49 = .ok (.isub, 1) := by decide +kernel
theorem dX4_spreadCells_50 : decode cX4_spreadCells 50 = .ok (.goto 7, 3) := by decide +kernel
theorem dX4_spreadCells_53 : decode cX4_spreadCells 53 = .ok (.iload 8, 2) := by decide +kernel
theorem dX4_spreadCells_55 : decode cX4_spreadCells 55 = .ok (.iconst 5, 1) := by decide +kernel
theorem dX4_spreadCells_56 : decode cX4_spreadCells 56 = .ok (.irem, 1) := by decide +kernel
theorem dX4_spreadCells_57 : decode cX4_spreadCells 57 = .ok (.istore 9, 2) := by decide +kernel
theorem dX4_spreadCells_59 : decode cX4_spreadCells 59 = .ok (.iload 8, 2) := by decide +kernel
theorem dX4_spreadCells_61 : decode cX4_spreadCells 61 = .ok (.iconst 5, 1) := by decide +kernel
theorem dX4_spreadCells_62 : decode cX4_spreadCells 62 = .ok (.idiv, 1) := by decide +kernel
theorem dX4_spreadCells_63 : decode cX4_spreadCells 63 = .ok (.istore 10, 2) := by decide +kernel
theorem dX4_spreadCells_65 : decode cX4_spreadCells 65 = .ok (.iconst 0, 1) := by decide +kernel
theorem dX4_spreadCells_66 : decode cX4_spreadCells 66 = .ok (.istore 11, 2) := by decide +kernel
theorem dX4_spreadCells_68 : decode cX4_spreadCells 68 = .ok (.iload 11, 2) := by decide +kernel
theorem dX4_spreadCells_70 : decode cX4_spreadCells 70 = .ok (.iload_n 3, 1) := by decide +kernel
theorem dX4_spreadCells_71 : decode cX4_spreadCells 71 = .ok (.if_icmp .ge 24, 3) := by decide +kernel
theorem dX4_spreadCells_74 : decode cX4_spreadCells 74 = .ok (.iload 4, 2) := by decide +kernel
theorem dX4_spreadCells_76 : decode cX4_spreadCells 76 = .ok (.iload 10, 2) := by decide +kernel
theorem dX4_spreadCells_78 : decode cX4_spreadCells 78 = .ok (.isub, 1) := by decide +kernel
theorem dX4_spreadCells_79 : decode cX4_spreadCells 79 = .ok (.istore 12, 2) := by decide +kernel
theorem dX4_spreadCells_81 : decode cX4_spreadCells 81 = .ok (.iload 9, 2) := by decide +kernel
theorem dX4_spreadCells_83 : decode cX4_spreadCells 83 = .ok (.istore 10, 2) := by decide +kernel
theorem dX4_spreadCells_85 : decode cX4_spreadCells 85 = .ok (.iload 12, 2) := by decide +kernel
theorem dX4_spreadCells_87 : decode cX4_spreadCells 87 = .ok (.istore 9, 2) := by decide +kernel
theorem dX4_spreadCells_89 : decode cX4_spreadCells 89 = .ok (.iinc 11 1, 3) := by decide +kernel
theorem dX4_spreadCells_92 : decode cX4_spreadCells 92 = .ok (.goto (-24), 3) := by decide +kernel
theorem dX4_spreadCells_95 : decode cX4_spreadCells 95 = .ok (.aload_n 0, 1) := by decide +kernel
theorem dX4_spreadCells_96 : decode cX4_spreadCells 96 = .ok (.getfield 49, 3) := by decide +kernel
theorem dX4_spreadCells_99 : decode cX4_spreadCells 99 = .ok (.iload 5, 2) := by decide +kernel
theorem dX4_spreadCells_101 : decode cX4_spreadCells 101 = .ok (.iload 9, 2) := by decide +kernel
theorem dX4_spreadCells_103 : decode cX4_spreadCells 103 = .ok (.iastore, 1) := by decide +kernel
theorem dX4_spreadCells_104 : decode cX4_spreadCells 104 = .ok (.aload_n 0, 1) := by decide +kernel
theorem dX4_spreadCells_105 : decode cX4_spreadCells 105 = .ok (.getfield 52, 3) := by decide +kernel
theorem dX4_spreadCells_108 : decode cX4_spreadCells 108 = .ok (.iload 5, 2) := by decide +kernel
theorem dX4_spreadCells_110 : decode cX4_spreadCells 110 = .ok (.iload 10, 2) := by decide +kernel
theorem dX4_spreadCells_112 : decode cX4_spreadCells 112 = .ok (.iastore, 1) := by decide +kernel
theorem dX4_spreadCells_113 : decode cX4_spreadCells 113 = .ok (.iinc 5 1, 3) := by decide +kernel
theorem dX4_spreadCells_116 : decode cX4_spreadCells 116 = .ok (.iload 6, 2) := by decide +kernel
theorem dX4_spreadCells_118 : decode cX4_spreadCells 118 = .ok (.iload 9, 2) := by decide +kernel
theorem dX4_spreadCells_120 : decode cX4_spreadCells 120 = .ok (.invokestatic 98, 3) := by decide +kernel
theorem dX4_spreadCells_123 : decode cX4_spreadCells 123 = .ok (.istore 6, 2) := by decide +kernel
theorem dX4_spreadCells_125 : decode cX4_spreadCells 125 = .ok (.iload 7, 2) := by decide +kernel
theorem dX4_spreadCells_127 : decode cX4_spreadCells 127 = .ok (.iload 10, 2) := by decide +kernel
theorem dX4_spreadCells_129 : decode cX4_spreadCells 129 = .ok (.invokestatic 98, 3) := by decide +kernel
theorem dX4_spreadCells_132 : decode cX4_spreadCells 132 = .ok (.istore 7, 2) := by decide +kernel
theorem dX4_spreadCells_134 : decode cX4_spreadCells 134 = .ok (.iinc 8 1, 3) := by decide +kernel
theorem dX4_spreadCells_137 : decode cX4_spreadCells 137 = .ok (.goto (-120), 3) := by decide +kernel
theorem dX4_spreadCells_140 : decode cX4_spreadCells 140 = .ok (.iconst 0, 1) := by decide +kernel
theorem dX4_spreadCells_141 : decode cX4_spreadCells 141 = .ok (.istore 8, 2) := by decide +kernel
theorem dX4_spreadCells_143 : decode cX4_spreadCells 143 = .ok (.iload 8, 2) := by decide +kernel
theorem dX4_spreadCells_145 : decode cX4_spreadCells 145 = .ok (.iload 5, 2) := by decide +kernel
theorem dX4_spreadCells_147 : decode cX4_spreadCells 147 = .ok (.if_icmp .ge 33, 3) := by decide +kernel
theorem dX4_spreadCells_150 : decode cX4_spreadCells 150 = .ok (.aload_n 0, 1) := by decide +kernel
theorem dX4_spreadCells_151 : decode cX4_spreadCells 151 = .ok (.getfield 49, 3) := by decide +kernel
theorem dX4_spreadCells_154 : decode cX4_spreadCells 154 = .ok (.iload 8, 2) := by decide +kernel
theorem dX4_spreadCells_156 : decode cX4_spreadCells 156 = .ok (.dup2, 1) := by decide +kernel
theorem dX4_spreadCells_157 : decode cX4_spreadCells 157 = .ok (.iaload, 1) := by decide +kernel
theorem dX4_spreadCells_158 : decode cX4_spreadCells 158 = .ok (.iload 6, 2) := by decide +kernel
theorem dX4_spreadCells_160 : decode cX4_spreadCells 160 = .ok (.isub, 1) := by decide +kernel
theorem dX4_spreadCells_161 : decode cX4_spreadCells 161 = .ok (.iastore, 1) := by decide +kernel
theorem dX4_spreadCells_162 : decode cX4_spreadCells 162 = .ok (.aload_n 0, 1) := by decide +kernel
theorem dX4_spreadCells_163 : decode cX4_spreadCells 163 = .ok (.getfield 52, 3) := by decide +kernel
theorem dX4_spreadCells_166 : decode cX4_spreadCells 166 = .ok (.iload 8, 2) := by decide +kernel
theorem dX4_spreadCells_168 : decode cX4_spreadCells 168 = .ok (.dup2, 1) := by decide +kernel
theorem dX4_spreadCells_169 : decode cX4_spreadCells 169 = .ok (.iaload, 1) := by decide +kernel
theorem dX4_spreadCells_170 : decode cX4_spreadCells 170 = .ok (.iload 7, 2) := by decide +kernel
theorem dX4_spreadCells_172 : decode cX4_spreadCells 172 = .ok (.isub, 1) := by decide +kernel
theorem dX4_spreadCells_173 : decode cX4_spreadCells 173 = .ok (.iastore, 1) := by decide +kernel
theorem dX4_spreadCells_174 : decode cX4_spreadCells 174 = .ok (.iinc 8 1, 3) := by decide +kernel
theorem dX4_spreadCells_177 : decode cX4_spreadCells 177 = .ok (.goto (-34), 3) := by decide +kernel
theorem dX4_spreadCells_180 : decode cX4_spreadCells 180 = .ok (.iload 5, 2) := by decide +kernel
theorem dX4_spreadCells_182 : decode cX4_spreadCells 182 = .ok (.ireturn, 1) := by decide +kernel
theorem dX4_cellsFrom_0 : decode cX4_cellsFrom 0 = .ok (.iconst 0, 1) := by decide +kernel
theorem dX4_cellsFrom_1 : decode cX4_cellsFrom 1 = .ok (.istore 4, 2) := by decide +kernel
theorem dX4_cellsFrom_3 : decode cX4_cellsFrom 3 = .ok (.iconst 0, 1) := by decide +kernel
theorem dX4_cellsFrom_4 : decode cX4_cellsFrom 4 = .ok (.istore 5, 2) := by decide +kernel
theorem dX4_cellsFrom_6 : decode cX4_cellsFrom 6 = .ok (.iload 5, 2) := by decide +kernel
theorem dX4_cellsFrom_8 : decode cX4_cellsFrom 8 = .ok (.iload_n 1, 1) := by decide +kernel
theorem dX4_cellsFrom_9 : decode cX4_cellsFrom 9 = .ok (.if_icmp .ge 40, 3) := by decide +kernel
theorem dX4_cellsFrom_12 : decode cX4_cellsFrom 12 = .ok (.iload 4, 2) := by decide +kernel
theorem dX4_cellsFrom_14 : decode cX4_cellsFrom 14 = .ok (.iconst 1, 1) := by decide +kernel
theorem dX4_cellsFrom_15 : decode cX4_cellsFrom 15 = .ok (.aload_n 0, 1) := by decide +kernel
theorem dX4_cellsFrom_16 : decode cX4_cellsFrom 16 = .ok (.getfield 15, 3) := by decide +kernel
theorem dX4_cellsFrom_19 : decode cX4_cellsFrom 19 = .ok (.iload_n 3, 1) := by decide +kernel
theorem dX4_cellsFrom_20 : decode cX4_cellsFrom 20 = .ok (.aload_n 0, 1) := by decide +kernel
theorem dX4_cellsFrom_21 : decode cX4_cellsFrom 21 = .ok (.getfield 52, 3) := by decide +kernel
theorem dX4_cellsFrom_24 : decode cX4_cellsFrom 24 = .ok (.iload 5, 2) := by decide +kernel
theorem dX4_cellsFrom_26 : decode cX4_cellsFrom 26 = .ok (.iaload, 1) := by decide +kernel
theorem dX4_cellsFrom_27 : decode cX4_cellsFrom 27 = .ok (.iadd, 1) := by decide +kernel
theorem dX4_cellsFrom_28 : decode cX4_cellsFrom 28 = .ok (.imul, 1) := by decide +kernel
theorem dX4_cellsFrom_29 : decode cX4_cellsFrom 29 = .ok (.iload_n 2, 1) := by decide +kernel
theorem dX4_cellsFrom_30 : decode cX4_cellsFrom 30 = .ok (.iadd, 1) := by decide +kernel
theorem dX4_cellsFrom_31 : decode cX4_cellsFrom 31 = .ok (.aload_n 0, 1) := by decide +kernel
theorem dX4_cellsFrom_32 : decode cX4_cellsFrom 32 = .ok (.getfield 49, 3) := by decide +kernel
theorem dX4_cellsFrom_35 : decode cX4_cellsFrom 35 = .ok (.iload 5, 2) := by decide +kernel
theorem dX4_cellsFrom_37 : decode cX4_cellsFrom 37 = .ok (.iaload, 1) := by decide +kernel
theorem dX4_cellsFrom_38 : decode cX4_cellsFrom 38 = .ok (.iadd, 1) := by decide +kernel
theorem dX4_cellsFrom_39 : decode cX4_cellsFrom 39 = .ok (.ishl, 1) := by decide +kernel
theorem dX4_cellsFrom_40 : decode cX4_cellsFrom 40 = .ok (.ior, 1) := by decide +kernel
theorem dX4_cellsFrom_41 : decode cX4_cellsFrom 41 = .ok (.istore 4, 2) := by decide +kernel
theorem dX4_cellsFrom_43 : decode cX4_cellsFrom 43 = .ok (.iinc 5 1, 3) := by decide +kernel
theorem dX4_cellsFrom_46 : decode cX4_cellsFrom 46 = .ok (.goto (-40), 3) := by decide +kernel
theorem dX4_cellsFrom_49 : decode cX4_cellsFrom 49 = .ok (.iload 4, 2) := by decide +kernel
theorem dX4_cellsFrom_51 : decode cX4_cellsFrom 51 = .ok (.ireturn, 1) := by decide +kernel
theorem dX4_listInOrder_0 : decode cX4_listInOrder 0 = .ok (.iload_n 2, 1) := by decide +kernel
theorem dX4_listInOrder_1 : decode cX4_listInOrder 1 = .ok (.invokestatic 101, 3) := by decide +kernel
theorem dX4_listInOrder_4 : decode cX4_listInOrder 4 = .ok (.istore_n 3, 1) := by decide +kernel
theorem dX4_listInOrder_5 : decode cX4_listInOrder 5 = .ok (.iload_n 3, 1) := by decide +kernel
theorem dX4_listInOrder_6 : decode cX4_listInOrder 6 = .ok (.bipush 20, 2) := by decide +kernel
theorem dX4_listInOrder_8 : decode cX4_listInOrder 8 = .ok (.if_icmp .ge 16, 3) := by decide +kernel
theorem dX4_listInOrder_11 : decode cX4_listInOrder 11 = .ok (.aload_n 0, 1) := by decide +kernel
theorem dX4_listInOrder_12 : decode cX4_listInOrder 12 = .ok (.getfield 46, 3) := by decide +kernel
theorem dX4_listInOrder_15 : decode cX4_listInOrder 15 = .ok (.iload_n 1, 1) := by decide +kernel
theorem dX4_listInOrder_16 : decode cX4_listInOrder 16 = .ok (.aaload, 1) := by decide +kernel
theorem dX4_listInOrder_17 : decode cX4_listInOrder 17 = .ok (.iload_n 3, 1) := by decide +kernel
theorem dX4_listInOrder_18 : decode cX4_listInOrder 18 = .ok (.iaload, 1) := by decide +kernel
theorem dX4_listInOrder_19 : decode cX4_listInOrder 19 = .ok (.bipush 8, 2) := by decide +kernel
theorem dX4_listInOrder_21 : decode cX4_listInOrder 21 = .ok (.if_icmp .lt 4, 3) := by decide +kernel
theorem dX4_listInOrder_24 : decode cX4_listInOrder 24 = .ok (.return_, 1) := by decide +kernel
theorem dX4_listInOrder_25 : decode cX4_listInOrder 25 = .ok (.aload_n 0, 1) := by decide +kernel
theorem dX4_listInOrder_26 : decode cX4_listInOrder 26 = .ok (.getfield 43, 3) := by decide +kernel
theorem dX4_listInOrder_29 : decode cX4_listInOrder 29 = .ok (.iload_n 1, 1) := by decide +kernel
theorem dX4_listInOrder_30 : decode cX4_listInOrder 30 = .ok (.aaload, 1) := by decide +kernel
theorem dX4_listInOrder_31 : decode cX4_listInOrder 31 = .ok (.astore 4, 2) := by decide +kernel
theorem dX4_listInOrder_33 : decode cX4_listInOrder 33 = .ok (.iload_n 3, 1) := by decide +kernel
theorem dX4_listInOrder_34 : decode cX4_listInOrder 34 = .ok (.bipush 8, 2) := by decide +kernel
theorem dX4_listInOrder_36 : decode cX4_listInOrder 36 = .ok (.imul, 1) := by decide +kernel
theorem dX4_listInOrder_37 : decode cX4_listInOrder 37 = .ok (.istore 5, 2) := by decide +kernel
theorem dX4_listInOrder_39 : decode cX4_listInOrder 39 = .ok (.iload 5, 2) := by decide +kernel
theorem dX4_listInOrder_41 : decode cX4_listInOrder 41 = .ok (.aload_n 0, 1) := by decide +kernel
theorem dX4_listInOrder_42 : decode cX4_listInOrder 42 = .ok (.getfield 46, 3) := by decide +kernel
theorem dX4_listInOrder_45 : decode cX4_listInOrder 45 = .ok (.iload_n 1, 1) := by decide +kernel
theorem dX4_listInOrder_46 : decode cX4_listInOrder 46 = .ok (.aaload, 1) := by decide +kernel
theorem dX4_listInOrder_47 : decode cX4_listInOrder 47 = .ok (.iload_n 3, 1) := by decide +kernel
theorem dX4_listInOrder_48 : decode cX4_listInOrder 48 = .ok (.iaload, 1) := by decide +kernel
theorem dX4_listInOrder_49 : decode cX4_listInOrder 49 = .ok (.iadd, 1) := by decide +kernel
theorem dX4_listInOrder_50 : decode cX4_listInOrder 50 = .ok (.istore 6, 2) := by decide +kernel
theorem dX4_listInOrder_52 : decode cX4_listInOrder 52 = .ok (.iload 5, 2) := by decide +kernel
theorem dX4_listInOrder_54 : decode cX4_listInOrder 54 = .ok (.istore 7, 2) := by decide +kernel
theorem dX4_listInOrder_56 : decode cX4_listInOrder 56 = .ok (.iload 7, 2) := by decide +kernel
theorem dX4_listInOrder_58 : decode cX4_listInOrder 58 = .ok (.iload 6, 2) := by decide +kernel
theorem dX4_listInOrder_60 : decode cX4_listInOrder 60 = .ok (.if_icmp .ge 18, 3) := by decide +kernel
theorem dX4_listInOrder_63 : decode cX4_listInOrder 63 = .ok (.aload 4, 2) := by decide +kernel
theorem dX4_listInOrder_65 : decode cX4_listInOrder 65 = .ok (.iload 7, 2) := by decide +kernel
theorem dX4_listInOrder_67 : decode cX4_listInOrder 67 = .ok (.iaload, 1) := by decide +kernel
theorem dX4_listInOrder_68 : decode cX4_listInOrder 68 = .ok (.iload_n 2, 1) := by decide +kernel
theorem dX4_listInOrder_69 : decode cX4_listInOrder 69 = .ok (.if_icmp .ge 9, 3) := by decide +kernel
theorem dX4_listInOrder_72 : decode cX4_listInOrder 72 = .ok (.iinc 7 1, 3) := by decide +kernel
theorem dX4_listInOrder_75 : decode cX4_listInOrder 75 = .ok (.goto (-19), 3) := by decide +kernel
theorem dX4_listInOrder_78 : decode cX4_listInOrder 78 = .ok (.iload 7, 2) := by decide +kernel
theorem dX4_listInOrder_80 : decode cX4_listInOrder 80 = .ok (.iload 6, 2) := by decide +kernel
theorem dX4_listInOrder_82 : decode cX4_listInOrder 82 = .ok (.if_icmp .ge 13, 3) := by decide +kernel
theorem dX4_listInOrder_85 : decode cX4_listInOrder 85 = .ok (.aload 4, 2) := by decide +kernel
theorem dX4_listInOrder_87 : decode cX4_listInOrder 87 = .ok (.iload 7, 2) := by decide +kernel
theorem dX4_listInOrder_89 : decode cX4_listInOrder 89 = .ok (.iaload, 1) := by decide +kernel
theorem dX4_listInOrder_90 : decode cX4_listInOrder 90 = .ok (.iload_n 2, 1) := by decide +kernel
theorem dX4_listInOrder_91 : decode cX4_listInOrder 91 = .ok (.if_icmp .ne 4, 3) := by decide +kernel
theorem dX4_listInOrder_94 : decode cX4_listInOrder 94 = .ok (.return_, 1) := by decide +kernel
theorem dX4_listInOrder_95 : decode cX4_listInOrder 95 = .ok (.iload 6, 2) := by decide +kernel
theorem dX4_listInOrder_97 : decode cX4_listInOrder 97 = .ok (.istore 8, 2) := by decide +kernel
theorem dX4_listInOrder_99 : decode cX4_listInOrder 99 = .ok (.iload 8, 2) := by decide +kernel
theorem dX4_listInOrder_101 : decode cX4_listInOrder 101 = .ok (.iload 7, 2) := by decide +kernel
theorem dX4_listInOrder_103 : decode cX4_listInOrder 103 = .ok (.if_icmp .le 21, 3) := by decide +kernel
theorem dX4_listInOrder_106 : decode cX4_listInOrder 106 = .ok (.aload 4, 2) := by decide +kernel
theorem dX4_listInOrder_108 : decode cX4_listInOrder 108 = .ok (.iload 8, 2) := by decide +kernel
theorem dX4_listInOrder_110 : decode cX4_listInOrder 110 = .ok (.aload 4, 2) := by decide +kernel
theorem dX4_listInOrder_112 : decode cX4_listInOrder 112 = .ok (.iload 8, 2) := by decide +kernel
theorem dX4_listInOrder_114 : decode cX4_listInOrder 114 = .ok (.iconst 1, 1) := by decide +kernel
theorem dX4_listInOrder_115 : decode cX4_listInOrder 115 = .ok (.isub, 1) := by decide +kernel
theorem dX4_listInOrder_116 : decode cX4_listInOrder 116 = .ok (.iaload, 1) := by decide +kernel
theorem dX4_listInOrder_117 : decode cX4_listInOrder 117 = .ok (.iastore, 1) := by decide +kernel
theorem dX4_listInOrder_118 : decode cX4_listInOrder 118 = .ok (.iinc 8 (-1), 3) := by decide +kernel
theorem dX4_listInOrder_121 : decode cX4_listInOrder 121 = .ok (.goto (-22), 3) := by decide +kernel
theorem dX4_listInOrder_124 : decode cX4_listInOrder 124 = .ok (.aload 4, 2) := by decide +kernel
theorem dX4_listInOrder_126 : decode cX4_listInOrder 126 = .ok (.iload 7, 2) := by decide +kernel
theorem dX4_listInOrder_128 : decode cX4_listInOrder 128 = .ok (.iload_n 2, 1) := by decide +kernel
theorem dX4_listInOrder_129 : decode cX4_listInOrder 129 = .ok (.iastore, 1) := by decide +kernel
theorem dX4_listInOrder_130 : decode cX4_listInOrder 130 = .ok (.aload_n 0, 1) := by decide +kernel
theorem dX4_listInOrder_131 : decode cX4_listInOrder 131 = .ok (.getfield 46, 3) := by decide +kernel
theorem dX4_listInOrder_134 : decode cX4_listInOrder 134 = .ok (.iload_n 1, 1) := by decide +kernel
theorem dX4_listInOrder_135 : decode cX4_listInOrder 135 = .ok (.aaload, 1) := by decide +kernel
theorem dX4_listInOrder_136 : decode cX4_listInOrder 136 = .ok (.iload_n 3, 1) := by decide +kernel
theorem dX4_listInOrder_137 : decode cX4_listInOrder 137 = .ok (.dup2, 1) := by decide +kernel
theorem dX4_listInOrder_138 : decode cX4_listInOrder 138 = .ok (.iaload, 1) := by decide +kernel
theorem dX4_listInOrder_139 : decode cX4_listInOrder 139 = .ok (.iconst 1, 1) := by decide +kernel
theorem dX4_listInOrder_140 : decode cX4_listInOrder 140 = .ok (.iadd, 1) := by decide +kernel
theorem dX4_listInOrder_141 : decode cX4_listInOrder 141 = .ok (.iastore, 1) := by decide +kernel
theorem dX4_listInOrder_142 : decode cX4_listInOrder 142 = .ok (.return_, 1) := by decide +kernel
