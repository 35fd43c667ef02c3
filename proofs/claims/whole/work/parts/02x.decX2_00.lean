theorem dX2_init_0 : decode cX2_init 0 = .ok (.aload_n 0, 1) := by decide +kernel
theorem dX2_init_1 : decode cX2_init 1 = .ok (.invokespecial 5, 3) := by decide +kernel
theorem dX2_init_4 : decode cX2_init 4 = .ok (.aload_n 0, 1) := by decide +kernel
theorem dX2_init_5 : decode cX2_init 5 = .ok (.sipush 16384, 3) := by decide +kernel
theorem dX2_init_8 : decode cX2_init 8 = .ok (.newarray .long, 2) := by decide +kernel
theorem dX2_init_10 : decode cX2_init 10 = .ok (.putfield 11, 3) := by decide +kernel
theorem dX2_init_13 : decode cX2_init 13 = .ok (.aload_n 0, 1) := by decide +kernel
theorem dX2_init_14 : decode cX2_init 14 = .ok (.sipush 16384, 3) := by decide +kernel
theorem dX2_init_17 : decode cX2_init 17 = .ok (.newarray .long, 2) := by decide +kernel
theorem dX2_init_19 : decode cX2_init 19 = .ok (.putfield 15, 3) := by decide +kernel
theorem dX2_init_22 : decode cX2_init 22 = .ok (.aload_n 0, 1) := by decide +kernel
theorem dX2_init_23 : decode cX2_init 23 = .ok (.bipush 64, 2) := by decide +kernel
theorem dX2_init_25 : decode cX2_init 25 = .ok (.newarray .int, 2) := by decide +kernel
theorem dX2_init_27 : decode cX2_init 27 = .ok (.putfield 18, 3) := by decide +kernel
theorem dX2_init_30 : decode cX2_init 30 = .ok (.aload_n 0, 1) := by decide +kernel
theorem dX2_init_31 : decode cX2_init 31 = .ok (.bipush 64, 2) := by decide +kernel
theorem dX2_init_33 : decode cX2_init 33 = .ok (.newarray .int, 2) := by decide +kernel
theorem dX2_init_35 : decode cX2_init 35 = .ok (.putfield 22, 3) := by decide +kernel
theorem dX2_init_38 : decode cX2_init 38 = .ok (.aload_n 0, 1) := by decide +kernel
theorem dX2_init_39 : decode cX2_init 39 = .ok (.iconst 0, 1) := by decide +kernel
theorem dX2_init_40 : decode cX2_init 40 = .ok (.putfield 25, 3) := by decide +kernel
theorem dX2_init_43 : decode cX2_init 43 = .ok (.aload_n 0, 1) := by decide +kernel
theorem dX2_init_44 : decode cX2_init 44 = .ok (.iconst 0, 1) := by decide +kernel
theorem dX2_init_45 : decode cX2_init 45 = .ok (.putfield 29, 3) := by decide +kernel
theorem dX2_init_48 : decode cX2_init 48 = .ok (.aload_n 0, 1) := by decide +kernel
theorem dX2_init_49 : decode cX2_init 49 = .ok (.iconst 0, 1) := by decide +kernel
theorem dX2_init_50 : decode cX2_init 50 = .ok (.putfield 32, 3) := by decide +kernel
theorem dX2_init_53 : decode cX2_init 53 = .ok (.aload_n 0, 1) := by decide +kernel
theorem dX2_init_54 : decode cX2_init 54 = .ok (.iconst 0, 1) := by decide +kernel
theorem dX2_init_55 : decode cX2_init 55 = .ok (.putfield 35, 3) := by decide +kernel
theorem dX2_init_58 : decode cX2_init 58 = .ok (.aload_n 0, 1) := by decide +kernel
theorem dX2_init_59 : decode cX2_init 59 = .ok (.iconst 0, 1) := by decide +kernel
theorem dX2_init_60 : decode cX2_init 60 = .ok (.putfield 38, 3) := by decide +kernel
theorem dX2_init_63 : decode cX2_init 63 = .ok (.aload_n 0, 1) := by decide +kernel
theorem dX2_init_64 : decode cX2_init 64 = .ok (.aload_n 1, 1) := by decide +kernel
theorem dX2_init_65 : decode cX2_init 65 = .ok (.putfield 41, 3) := by decide +kernel
theorem dX2_init_68 : decode cX2_init 68 = .ok (.return_, 1) := by decide +kernel
theorem dX2_prepare_0 : decode cX2_prepare 0 = .ok (.aload_n 0, 1) := by decide +kernel
theorem dX2_prepare_1 : decode cX2_prepare 1 = .ok (.getfield 41, 3) := by decide +kernel
theorem dX2_prepare_4 : decode cX2_prepare 4 = .ok (.invokevirtual 45, 3) := by decide +kernel
theorem dX2_prepare_7 : decode cX2_prepare 7 = .ok (.aload_n 0, 1) := by decide +kernel
theorem dX2_prepare_8 : decode cX2_prepare 8 = .ok (.iload_n 1, 1) := by decide +kernel
theorem dX2_prepare_9 : decode cX2_prepare 9 = .ok (.putfield 25, 3) := by decide +kernel
theorem dX2_prepare_12 : decode cX2_prepare 12 = .ok (.aload_n 0, 1) := by decide +kernel
theorem dX2_prepare_13 : decode cX2_prepare 13 = .ok (.iconst 1, 1) := by decide +kernel
theorem dX2_prepare_14 : decode cX2_prepare 14 = .ok (.aload_n 0, 1) := by decide +kernel
theorem dX2_prepare_15 : decode cX2_prepare 15 = .ok (.getfield 41, 3) := by decide +kernel
theorem dX2_prepare_18 : decode cX2_prepare 18 = .ok (.getfield 50, 3) := by decide +kernel
theorem dX2_prepare_21 : decode cX2_prepare 21 = .ok (.aload_n 0, 1) := by decide +kernel
theorem dX2_prepare_22 : decode cX2_prepare 22 = .ok (.getfield 41, 3) := by decide +kernel
theorem dX2_prepare_25 : decode cX2_prepare 25 = .ok (.getfield 53, 3) := by decide +kernel
theorem dX2_prepare_28 : decode cX2_prepare 28 = .ok (.imul, 1) := by decide +kernel
theorem dX2_prepare_29 : decode cX2_prepare 29 = .ok (.ishl, 1) := by decide +kernel
theorem dX2_prepare_30 : decode cX2_prepare 30 = .ok (.iconst 1, 1) := by decide +kernel
theorem dX2_prepare_31 : decode cX2_prepare 31 = .ok (.isub, 1) := by decide +kernel
theorem dX2_prepare_32 : decode cX2_prepare 32 = .ok (.putfield 29, 3) := by decide +kernel
theorem dX2_prepare_35 : decode cX2_prepare 35 = .ok (.aload_n 0, 1) := by decide +kernel
theorem dX2_prepare_36 : decode cX2_prepare 36 = .ok (.iconst 1, 1) := by decide +kernel
theorem dX2_prepare_37 : decode cX2_prepare 37 = .ok (.aload_n 0, 1) := by decide +kernel
theorem dX2_prepare_38 : decode cX2_prepare 38 = .ok (.getfield 41, 3) := by decide +kernel
theorem dX2_prepare_41 : decode cX2_prepare 41 = .ok (.getfield 56, 3) := by decide +kernel
theorem dX2_prepare_44 : decode cX2_prepare 44 = .ok (.ishl, 1) := by decide +kernel
theorem dX2_prepare_45 : decode cX2_prepare 45 = .ok (.iconst 1, 1) := by decide +kernel
theorem dX2_prepare_46 : decode cX2_prepare 46 = .ok (.isub, 1) := by decide +kernel
theorem dX2_prepare_47 : decode cX2_prepare 47 = .ok (.putfield 32, 3) := by decide +kernel
theorem dX2_prepare_50 : decode cX2_prepare 50 = .ok (.aload_n 0, 1) := by decide +kernel
theorem dX2_prepare_51 : decode cX2_prepare 51 = .ok (.invokevirtual 59, 3) := by decide +kernel
theorem dX2_prepare_54 : decode cX2_prepare 54 = .ok (.return_, 1) := by decide +kernel
theorem dX2_addUpAreas_0 : decode cX2_addUpAreas 0 = .ok (.aload_n 0, 1) := by decide +kernel
theorem dX2_addUpAreas_1 : decode cX2_addUpAreas 1 = .ok (.getfield 18, 3) := by decide +kernel
theorem dX2_addUpAreas_4 : decode cX2_addUpAreas 4 = .ok (.iconst 0, 1) := by decide +kernel
theorem dX2_addUpAreas_5 : decode cX2_addUpAreas 5 = .ok (.iconst 0, 1) := by decide +kernel
theorem dX2_addUpAreas_6 : decode cX2_addUpAreas 6 = .ok (.iastore, 1) := by decide +kernel
theorem dX2_addUpAreas_7 : decode cX2_addUpAreas 7 = .ok (.aload_n 0, 1) := by decide +kernel
theorem dX2_addUpAreas_8 : decode cX2_addUpAreas 8 = .ok (.getfield 22, 3) := by decide +kernel
theorem dX2_addUpAreas_11 : decode cX2_addUpAreas 11 = .ok (.iconst 0, 1) := by decide +kernel
theorem dX2_addUpAreas_12 : decode cX2_addUpAreas 12 = .ok (.iconst 1, 1) := by decide +kernel
theorem dX2_addUpAreas_13 : decode cX2_addUpAreas 13 = .ok (.iastore, 1) := by decide +kernel
theorem dX2_addUpAreas_14 : decode cX2_addUpAreas 14 = .ok (.iconst 1, 1) := by decide +kernel
theorem dX2_addUpAreas_15 : decode cX2_addUpAreas 15 = .ok (.istore_n 1, 1) := by decide +kernel
theorem dX2_addUpAreas_16 : decode cX2_addUpAreas 16 = .ok (.iload_n 1, 1) := by decide +kernel
theorem dX2_addUpAreas_17 : decode cX2_addUpAreas 17 = .ok (.aload_n 0, 1) := by decide +kernel
theorem dX2_addUpAreas_18 : decode cX2_addUpAreas 18 = .ok (.getfield 32, 3) := by decide +kernel
theorem dX2_addUpAreas_21 : decode cX2_addUpAreas 21 = .ok (.if_icmp .gt 62, 3) := by decide +kernel
theorem dX2_addUpAreas_24 : decode cX2_addUpAreas 24 = .ok (.iload_n 1, 1) := by decide +kernel
theorem dX2_addUpAreas_25 : decode cX2_addUpAreas 25 = .ok (.iload_n 1, 1) := by decide +kernel
theorem dX2_addUpAreas_26 : decode cX2_addUpAreas 26 = .ok (.iconst 1, 1) := by decide +kernel
theorem dX2_addUpAreas_27 : decode cX2_addUpAreas 27 = .ok (.isub, 1) := by decide +kernel
theorem dX2_addUpAreas_28 : decode cX2_addUpAreas 28 = .ok (.iand, 1) := by decide +kernel
theorem dX2_addUpAreas_29 : decode cX2_addUpAreas 29 = .ok (.istore_n 2, 1) := by decide +kernel
theorem dX2_addUpAreas_30 : decode cX2_addUpAreas 30 = .ok (.aload_n 0, 1) := by decide +kernel
theorem dX2_addUpAreas_31 : decode cX2_addUpAreas 31 = .ok (.getfield 41, 3) := by decide +kernel
theorem dX2_addUpAreas_34 : decode cX2_addUpAreas 34 = .ok (.iload_n 1, 1) := by decide +kernel
theorem dX2_addUpAreas_35 : decode cX2_addUpAreas 35 = .ok (.invokestatic 62, 3) := by decide +kernel
theorem dX2_addUpAreas_38 : decode cX2_addUpAreas 38 = .ok (.invokevirtual 68, 3) := by decide +kernel
theorem dX2_addUpAreas_41 : decode cX2_addUpAreas 41 = .ok (.istore_n 3, 1) := by decide +kernel
theorem dX2_addUpAreas_42 : decode cX2_addUpAreas 42 = .ok (.aload_n 0, 1) := by decide +kernel
theorem dX2_addUpAreas_43 : decode cX2_addUpAreas 43 = .ok (.getfield 18, 3) := by decide +kernel
theorem dX2_addUpAreas_46 : decode cX2_addUpAreas 46 = .ok (.iload_n 1, 1) := by decide +kernel
theorem dX2_addUpAreas_47 : decode cX2_addUpAreas 47 = .ok (.aload_n 0, 1) := by decide +kernel
theorem dX2_addUpAreas_48 : decode cX2_addUpAreas 48 = .ok (.getfield 18, 3) := by decide +kernel
theorem dX2_addUpAreas_51 : decode cX2_addUpAreas 51 = .ok (.iload_n 2, 1) := by decide +kernel
theorem dX2_addUpAreas_52 : decode cX2_addUpAreas 52 = .ok (.iaload, 1) := by decide +kernel
theorem dX2_addUpAreas_53 : decode cX2_addUpAreas 53 = .ok (.iload_n 3, 1) := by decide +kernel
theorem dX2_addUpAreas_54 : decode cX2_addUpAreas 54 = .ok (.iadd, 1) := by decide +kernel
theorem dX2_addUpAreas_55 : decode cX2_addUpAreas 55 = .ok (.iastore, 1) := by decide +kernel
theorem dX2_addUpAreas_56 : decode cX2_addUpAreas 56 = .ok (.aload_n 0, 1) := by decide +kernel
theorem dX2_addUpAreas_57 : decode cX2_addUpAreas 57 = .ok (.getfield 22, 3) := by decide +kernel
theorem dX2_addUpAreas_60 : decode cX2_addUpAreas 60 = .ok (.iload_n 1, 1) := by decide +kernel
theorem dX2_addUpAreas_61 : decode cX2_addUpAreas 61 = .ok (.aload_n 0, 1) := by decide +kernel
theorem dX2_addUpAreas_62 : decode cX2_addUpAreas 62 = .ok (.getfield 22, 3) := by decide +kernel
theorem dX2_addUpAreas_65 : decode cX2_addUpAreas 65 = .ok (.iload_n 2, 1) := by decide +kernel
theorem dX2_addUpAreas_66 : decode cX2_addUpAreas 66 = .ok (.iaload, 1) := by decide +kernel
theorem dX2_addUpAreas_67 : decode cX2_addUpAreas 67 = .ok (.aload_n 0, 1) := by decide +kernel
theorem dX2_addUpAreas_68 : decode cX2_addUpAreas 68 = .ok (.getfield 22, 3) := by decide +kernel
theorem dX2_addUpAreas_71 : decode cX2_addUpAreas 71 = .ok (.iload_n 2, 1) := by decide +kernel
theorem dX2_addUpAreas_72 : decode cX2_addUpAreas 72 = .ok (.iaload, 1) := by decide +kernel
theorem dX2_addUpAreas_73 : decode cX2_addUpAreas 73 = .ok (.iload_n 3, 1) := by decide +kernel
theorem dX2_addUpAreas_74 : decode cX2_addUpAreas 74 = .ok (.ishl, 1) := by decide +kernel
theorem dX2_addUpAreas_75 : decode cX2_addUpAreas 75 = .ok (.ior, 1) := by decide +kernel
theorem dX2_addUpAreas_76 : decode cX2_addUpAreas 76 = .ok (.iastore, 1) := by decide +kernel
theorem dX2_addUpAreas_77 : decode cX2_addUpAreas 77 = .ok (.iinc 1 1, 3) := by decide +kernel
theorem dX2_addUpAreas_80 : decode cX2_addUpAreas 80 = .ok (.goto (-64), 3) := by decide +kernel
theorem dX2_addUpAreas_83 : decode cX2_addUpAreas 83 = .ok (.return_, 1) := by decide +kernel
theorem dX2_countCovers_0 : decode cX2_countCovers 0 = .ok (.aload_n 0, 1) := by decide +kernel
theorem dX2_countCovers_1 : decode cX2_countCovers 1 = .ok (.aload_n 0, 1) := by decide +kernel
theorem dX2_countCovers_2 : decode cX2_countCovers 2 = .ok (.getfield 41, 3) := by decide +kernel
theorem dX2_countCovers_5 : decode cX2_countCovers 5 = .ok (.getfield 71, 3) := by decide +kernel
theorem dX2_countCovers_8 : decode cX2_countCovers 8 = .ok (.iconst 0, 1) := by decide +kernel
theorem dX2_countCovers_9 : decode cX2_countCovers 9 = .ok (.iconst 0, 1) := by decide +kernel
theorem dX2_countCovers_10 : decode cX2_countCovers 10 = .ok (.invokevirtual 74, 3) := by decide +kernel
theorem dX2_countCovers_13 : decode cX2_countCovers 13 = .ok (.iconst 5, 1) := by decide +kernel
theorem dX2_countCovers_14 : decode cX2_countCovers 14 = .ok (.lushr, 1) := by decide +kernel
theorem dX2_countCovers_15 : decode cX2_countCovers 15 = .ok (.lreturn, 1) := by decide +kernel
theorem dX2_fewestPlacements_0 : decode cX2_fewestPlacements 0 = .ok (.aload_n 0, 1) := by decide +kernel
theorem dX2_fewestPlacements_1 : decode cX2_fewestPlacements 1 = .ok (.aload_n 0, 1) := by decide +kernel
theorem dX2_fewestPlacements_2 : decode cX2_fewestPlacements 2 = .ok (.getfield 41, 3) := by decide +kernel
theorem dX2_fewestPlacements_5 : decode cX2_fewestPlacements 5 = .ok (.getfield 71, 3) := by decide +kernel
theorem dX2_fewestPlacements_8 : decode cX2_fewestPlacements 8 = .ok (.iconst 0, 1) := by decide +kernel
theorem dX2_fewestPlacements_9 : decode cX2_fewestPlacements 9 = .ok (.iconst 0, 1) := by decide +kernel
theorem dX2_fewestPlacements_10 : decode cX2_fewestPlacements 10 = .ok (.invokevirtual 74, 3) := by decide +kernel
theorem dX2_fewestPlacements_13 : decode cX2_fewestPlacements 13 = .ok (.lstore_n 1, 1) := by decide +kernel
theorem dX2_fewestPlacements_14 : decode cX2_fewestPlacements 14 = .ok (.lload_n 1, 1) := by decide +kernel
theorem dX2_fewestPlacements_15 : decode cX2_fewestPlacements 15 = .ok (.lconst 0, 1) := by decide +kernel
theorem dX2_fewestPlacements_16 : decode cX2_fewestPlacements 16 = .ok (.lcmp, 1) := by decide +kernel
theorem dX2_fewestPlacements_17 : decode cX2_fewestPlacements 17 = .ok (.ifCond .ne 7, 3) := by decide +kernel
theorem dX2_fewestPlacements_20 : decode cX2_fewestPlacements 20 = .ok (.iconst (-1), 1) := by decide +kernel
theorem dX2_fewestPlacements_21 : decode cX2_fewestPlacements 21 = .ok (.goto 9, 3) := by decide +kernel
theorem dX2_fewestPlacements_24 : decode cX2_fewestPlacements 24 = .ok (.lload_n 1, 1) := by decide +kernel
theorem dX2_fewestPlacements_25 : decode cX2_fewestPlacements 25 = .ok (.ldc2_w 78, 3) := by decide +kernel
theorem dX2_fewestPlacements_28 : decode cX2_fewestPlacements 28 = .ok (.land, 1) := by decide +kernel
theorem dX2_fewestPlacements_29 : decode cX2_fewestPlacements 29 = .ok (.l2i, 1) := by decide +kernel
theorem dX2_fewestPlacements_30 : decode cX2_fewestPlacements 30 = .ok (.ireturn, 1) := by decide +kernel
theorem dX2_findLeastOn_0 : decode cX2_findLeastOn 0 = .ok (.aload_n 0, 1) := by decide +kernel
theorem dX2_findLeastOn_1 : decode cX2_findLeastOn 1 = .ok (.getfield 41, 3) := by decide +kernel
theorem dX2_findLeastOn_4 : decode cX2_findLeastOn 4 = .ok (.getfield 71, 3) := by decide +kernel
theorem dX2_findLeastOn_7 : decode cX2_findLeastOn 7 = .ok (.istore_n 2, 1) := by decide +kernel
theorem dX2_findLeastOn_8 : decode cX2_findLeastOn 8 = .ok (.iconst 0, 1) := by decide +kernel
theorem dX2_findLeastOn_9 : decode cX2_findLeastOn 9 = .ok (.istore_n 3, 1) := by decide +kernel
theorem dX2_findLeastOn_10 : decode cX2_findLeastOn 10 = .ok (.iload_n 2, 1) := by decide +kernel
theorem dX2_findLeastOn_11 : decode cX2_findLeastOn 11 = .ok (.iload_n 1, 1) := by decide +kernel
theorem dX2_findLeastOn_12 : decode cX2_findLeastOn 12 = .ok (.ishr, 1) := by decide +kernel
theorem dX2_findLeastOn_13 : decode cX2_findLeastOn 13 = .ok (.iconst 1, 1) := by decide +kernel
theorem dX2_findLeastOn_14 : decode cX2_findLeastOn 14 = .ok (.iand, 1) := by decide +kernel
theorem dX2_findLeastOn_15 : decode cX2_findLeastOn 15 = .ok (.ifCond .eq 5, 3) := by decide +kernel
theorem dX2_findLeastOn_18 : decode cX2_findLeastOn 18 = .ok (.iconst 0, 1) := by decide +kernel
theorem dX2_findLeastOn_19 : decode cX2_findLeastOn 19 = .ok (.ireturn, 1) := by decide +kernel
theorem dX2_findLeastOn_20 : decode cX2_findLeastOn 20 = .ok (.iconst 1, 1) := by decide +kernel
theorem dX2_findLeastOn_21 : decode cX2_findLeastOn 21 = .ok (.istore 4, 2) := by decide +kernel
theorem dX2_findLeastOn_23 : decode cX2_findLeastOn 23 = .ok (.iload 4, 2) := by decide +kernel
theorem dX2_findLeastOn_25 : decode cX2_findLeastOn 25 = .ok (.bipush 20, 2) := by decide +kernel
theorem dX2_findLeastOn_27 : decode cX2_findLeastOn 27 = .ok (.if_icmp .gt 47, 3) := by decide +kernel
theorem dX2_findLeastOn_30 : decode cX2_findLeastOn 30 = .ok (.iload_n 2, 1) := by decide +kernel
theorem dX2_findLeastOn_31 : decode cX2_findLeastOn 31 = .ok (.iload_n 1, 1) := by decide +kernel
theorem dX2_findLeastOn_32 : decode cX2_findLeastOn 32 = .ok (.ishr, 1) := by decide +kernel
theorem dX2_findLeastOn_33 : decode cX2_findLeastOn 33 = .ok (.iconst 1, 1) := by decide +kernel
theorem dX2_findLeastOn_34 : decode cX2_findLeastOn 34 = .ok (.iand, 1) := by decide +kernel
theorem dX2_findLeastOn_35 : decode cX2_findLeastOn 35 = .ok (.ifCond .ne 39, 3) := by decide +kernel
theorem dX2_findLeastOn_38 : decode cX2_findLeastOn 38 = .ok (.aload_n 0, 1) := by decide +kernel
theorem dX2_findLeastOn_39 : decode cX2_findLeastOn 39 = .ok (.iload_n 2, 1) := by decide +kernel
theorem dX2_findLeastOn_40 : decode cX2_findLeastOn 40 = .ok (.iload_n 3, 1) := by decide +kernel
theorem dX2_findLeastOn_41 : decode cX2_findLeastOn 41 = .ok (.iload 4, 2) := by decide +kernel
theorem dX2_findLeastOn_43 : decode cX2_findLeastOn 43 = .ok (.invokevirtual 80, 3) := by decide +kernel
theorem dX2_findLeastOn_46 : decode cX2_findLeastOn 46 = .ok (.ifCond .ne 5, 3) := by decide +kernel
theorem dX2_findLeastOn_49 : decode cX2_findLeastOn 49 = .ok (.iconst 0, 1) := by decide +kernel
theorem dX2_findLeastOn_50 : decode cX2_findLeastOn 50 = .ok (.ireturn, 1) := by decide +kernel
theorem dX2_findLeastOn_51 : decode cX2_findLeastOn 51 = .ok (.iload_n 2, 1) := by decide +kernel
theorem dX2_findLeastOn_52 : decode cX2_findLeastOn 52 = .ok (.aload_n 0, 1) := by decide +kernel
theorem dX2_findLeastOn_53 : decode cX2_findLeastOn 53 = .ok (.getfield 38, 3) := by decide +kernel
theorem dX2_findLeastOn_56 : decode cX2_findLeastOn 56 = .ok (.ior, 1) := by decide +kernel
theorem dX2_findLeastOn_57 : decode cX2_findLeastOn 57 = .ok (.istore_n 2, 1) := by decide +kernel
theorem dX2_findLeastOn_58 : decode cX2_findLeastOn 58 = .ok (.aload_n 0, 1) := by decide +kernel
theorem dX2_findLeastOn_59 : decode cX2_findLeastOn 59 = .ok (.iload_n 3, 1) := by decide +kernel
theorem dX2_findLeastOn_60 : decode cX2_findLeastOn 60 = .ok (.aload_n 0, 1) := by decide +kernel
theorem dX2_findLeastOn_61 : decode cX2_findLeastOn 61 = .ok (.getfield 35, 3) := by decide +kernel
theorem dX2_findLeastOn_64 : decode cX2_findLeastOn 64 = .ok (.invokevirtual 84, 3) := by decide +kernel
theorem dX2_findLeastOn_67 : decode cX2_findLeastOn 67 = .ok (.istore_n 3, 1) := by decide +kernel
theorem dX2_findLeastOn_68 : decode cX2_findLeastOn 68 = .ok (.iinc 4 1, 3) := by decide +kernel
theorem dX2_findLeastOn_71 : decode cX2_findLeastOn 71 = .ok (.goto (-48), 3) := by decide +kernel
theorem dX2_findLeastOn_74 : decode cX2_findLeastOn 74 = .ok (.iconst 1, 1) := by decide +kernel
theorem dX2_findLeastOn_75 : decode cX2_findLeastOn 75 = .ok (.ireturn, 1) := by decide +kernel
theorem dX2_chooseLeast_0 : decode cX2_chooseLeast 0 = .ok (.iload_n 1, 1) := by decide +kernel
theorem dX2_chooseLeast_1 : decode cX2_chooseLeast 1 = .ok (.iconst (-1), 1) := by decide +kernel
theorem dX2_chooseLeast_2 : decode cX2_chooseLeast 2 = .ok (.ixor, 1) := by decide +kernel
theorem dX2_chooseLeast_3 : decode cX2_chooseLeast 3 = .ok (.invokestatic 62, 3) := by decide +kernel
theorem dX2_chooseLeast_6 : decode cX2_chooseLeast 6 = .ok (.istore 4, 2) := by decide +kernel
theorem dX2_chooseLeast_8 : decode cX2_chooseLeast 8 = .ok (.iconst 0, 1) := by decide +kernel
theorem dX2_chooseLeast_9 : decode cX2_chooseLeast 9 = .ok (.istore 5, 2) := by decide +kernel
theorem dX2_chooseLeast_11 : decode cX2_chooseLeast 11 = .ok (.iload 5, 2) := by decide +kernel
theorem dX2_chooseLeast_13 : decode cX2_chooseLeast 13 = .ok (.aload_n 0, 1) := by decide +kernel
theorem dX2_chooseLeast_14 : decode cX2_chooseLeast 14 = .ok (.getfield 41, 3) := by decide +kernel
theorem dX2_chooseLeast_17 : decode cX2_chooseLeast 17 = .ok (.getfield 56, 3) := by decide +kernel
theorem dX2_chooseLeast_20 : decode cX2_chooseLeast 20 = .ok (.if_icmp .ge 120, 3) := by decide +kernel
theorem dX2_chooseLeast_23 : decode cX2_chooseLeast 23 = .ok (.iload_n 2, 1) := by decide +kernel
theorem dX2_chooseLeast_24 : decode cX2_chooseLeast 24 = .ok (.iload 5, 2) := by decide +kernel
theorem dX2_chooseLeast_26 : decode cX2_chooseLeast 26 = .ok (.ishr, 1) := by decide +kernel
theorem dX2_chooseLeast_27 : decode cX2_chooseLeast 27 = .ok (.iconst 1, 1) := by decide +kernel
theorem dX2_chooseLeast_28 : decode cX2_chooseLeast 28 = .ok (.iand, 1) := by decide +kernel
theorem dX2_chooseLeast_29 : decode cX2_chooseLeast 29 = .ok (.ifCond .eq 7, 3) := by decide +kernel
theorem dX2_chooseLeast_32 : decode cX2_chooseLeast 32 = .ok (.iconst 0, 1) := by decide +kernel
theorem dX2_chooseLeast_33 : decode cX2_chooseLeast 33 = .ok (.goto 14, 3) := by decide +kernel
theorem dX2_chooseLeast_36 : decode cX2_chooseLeast 36 = .ok (.aload_n 0, 1) := by decide +kernel
theorem dX2_chooseLeast_37 : decode cX2_chooseLeast 37 = .ok (.getfield 41, 3) := by decide +kernel
theorem dX2_chooseLeast_40 : decode cX2_chooseLeast 40 = .ok (.iload 5, 2) := by decide +kernel
theorem dX2_chooseLeast_42 : decode cX2_chooseLeast 42 = .ok (.iload 4, 2) := by decide +kernel
theorem dX2_chooseLeast_44 : decode cX2_chooseLeast 44 = .ok (.invokevirtual 88, 3) := by decide +kernel
theorem dX2_chooseLeast_47 : decode cX2_chooseLeast 47 = .ok (.istore 6, 2) := by decide +kernel
theorem dX2_chooseLeast_49 : decode cX2_chooseLeast 49 = .ok (.iconst 0, 1) := by decide +kernel
theorem dX2_chooseLeast_50 : decode cX2_chooseLeast 50 = .ok (.istore 7, 2) := by decide +kernel
theorem dX2_chooseLeast_52 : decode cX2_chooseLeast 52 = .ok (.iload 7, 2) := by decide +kernel
theorem dX2_chooseLeast_54 : decode cX2_chooseLeast 54 = .ok (.iload 6, 2) := by decide +kernel
theorem dX2_chooseLeast_56 : decode cX2_chooseLeast 56 = .ok (.if_icmp .ge 78, 3) := by decide +kernel
theorem dX2_chooseLeast_59 : decode cX2_chooseLeast 59 = .ok (.aload_n 0, 1) := by decide +kernel
theorem dX2_chooseLeast_60 : decode cX2_chooseLeast 60 = .ok (.getfield 41, 3) := by decide +kernel
theorem dX2_chooseLeast_63 : decode cX2_chooseLeast 63 = .ok (.iload 5, 2) := by decide +kernel
theorem dX2_chooseLeast_65 : decode cX2_chooseLeast 65 = .ok (.iload 4, 2) := by decide +kernel
theorem dX2_chooseLeast_67 : decode cX2_chooseLeast 67 = .ok (.iload 7, 2) := by decide +kernel
theorem dX2_chooseLeast_69 : decode cX2_chooseLeast 69 = .ok (.invokevirtual 91, 3) := by decide +kernel
theorem dX2_chooseLeast_72 : decode cX2_chooseLeast 72 = .ok (.istore 8, 2) := by decide +kernel
theorem dX2_chooseLeast_74 : decode cX2_chooseLeast 74 = .ok (.iload 8, 2) := by decide +kernel
theorem dX2_chooseLeast_76 : decode cX2_chooseLeast 76 = .ok (.iload_n 1, 1) := by decide +kernel
theorem dX2_chooseLeast_77 : decode cX2_chooseLeast 77 = .ok (.iand, 1) := by decide +kernel
theorem dX2_chooseLeast_78 : decode cX2_chooseLeast 78 = .ok (.ifCond .ne 7, 3) := by decide +kernel
theorem dX2_chooseLeast_81 : decode cX2_chooseLeast 81 = .ok (.iconst 1, 1) := by decide +kernel
theorem dX2_chooseLeast_82 : decode cX2_chooseLeast 82 = .ok (.goto 4, 3) := by decide +kernel
theorem dX2_chooseLeast_85 : decode cX2_chooseLeast 85 = .ok (.iconst 0, 1) := by decide +kernel
theorem dX2_chooseLeast_86 : decode cX2_chooseLeast 86 = .ok (.istore 9, 2) := by decide +kernel
theorem dX2_chooseLeast_88 : decode cX2_chooseLeast 88 = .ok (.iload 9, 2) := by decide +kernel
theorem dX2_chooseLeast_90 : decode cX2_chooseLeast 90 = .ok (.ifCond .eq 38, 3) := by decide +kernel
theorem dX2_chooseLeast_93 : decode cX2_chooseLeast 93 = .ok (.aload_n 0, 1) := by decide +kernel
theorem dX2_chooseLeast_94 : decode cX2_chooseLeast 94 = .ok (.iload_n 1, 1) := by decide +kernel
theorem dX2_chooseLeast_95 : decode cX2_chooseLeast 95 = .ok (.iload 8, 2) := by decide +kernel
theorem dX2_chooseLeast_97 : decode cX2_chooseLeast 97 = .ok (.ior, 1) := by decide +kernel
theorem dX2_chooseLeast_98 : decode cX2_chooseLeast 98 = .ok (.aload_n 0, 1) := by decide +kernel
theorem dX2_chooseLeast_99 : decode cX2_chooseLeast 99 = .ok (.iload_n 2, 1) := by decide +kernel
theorem dX2_chooseLeast_100 : decode cX2_chooseLeast 100 = .ok (.iload 5, 2) := by decide +kernel
theorem dX2_chooseLeast_102 : decode cX2_chooseLeast 102 = .ok (.invokevirtual 84, 3) := by decide +kernel
theorem dX2_chooseLeast_105 : decode cX2_chooseLeast 105 = .ok (.iload_n 3, 1) := by decide +kernel
theorem dX2_chooseLeast_106 : decode cX2_chooseLeast 106 = .ok (.invokevirtual 74, 3) := by decide +kernel
theorem dX2_chooseLeast_109 : decode cX2_chooseLeast 109 = .ok (.lconst 0, 1) := by decide +kernel
theorem dX2_chooseLeast_110 : decode cX2_chooseLeast 110 = .ok (.lcmp, 1) := by decide +kernel
theorem dX2_chooseLeast_111 : decode cX2_chooseLeast 111 = .ok (.ifCond .eq 17, 3) := by decide +kernel
theorem dX2_chooseLeast_114 : decode cX2_chooseLeast 114 = .ok (.aload_n 0, 1) := by decide +kernel
theorem dX2_chooseLeast_115 : decode cX2_chooseLeast 115 = .ok (.iload 5, 2) := by decide +kernel
theorem dX2_chooseLeast_117 : decode cX2_chooseLeast 117 = .ok (.putfield 35, 3) := by decide +kernel
theorem dX2_chooseLeast_120 : decode cX2_chooseLeast 120 = .ok (.aload_n 0, 1) := by decide +kernel
theorem dX2_chooseLeast_121 : decode cX2_chooseLeast 121 = .ok (.iload 8, 2) := by decide +kernel
theorem dX2_chooseLeast_123 : decode cX2_chooseLeast 123 = .ok (.putfield 38, 3) := by decide +kernel
theorem dX2_chooseLeast_126 : decode cX2_chooseLeast 126 = .ok (.iconst 1, 1) := by decide +kernel
theorem dX2_chooseLeast_127 : decode cX2_chooseLeast 127 = .ok (.ireturn, 1) := by decide +kernel
theorem dX2_chooseLeast_128 : decode cX2_chooseLeast 128 = .ok (.iinc 7 1, 3) := by decide +kernel
theorem dX2_chooseLeast_131 : decode cX2_chooseLeast 131 = .ok (.goto (-79), 3) := by decide +kernel
theorem dX2_chooseLeast_134 : decode cX2_chooseLeast 134 = .ok (.iinc 5 1, 3) := by decide +kernel
theorem dX2_chooseLeast_137 : decode cX2_chooseLeast 137 = .ok (.goto (-126), 3) := by decide +kernel
theorem dX2_chooseLeast_140 : decode cX2_chooseLeast 140 = .ok (.iconst 0, 1) := by decide +kernel
theorem dX2_chooseLeast_141 : decode cX2_chooseLeast 141 = .ok (.ireturn, 1) := by decide +kernel
theorem dX2_usedWith_0 : decode cX2_usedWith 0 = .ok (.aload_n 0, 1) := by decide +kernel
theorem dX2_usedWith_1 : decode cX2_usedWith 1 = .ok (.getfield 25, 3) := by decide +kernel
theorem dX2_usedWith_4 : decode cX2_usedWith 4 = .ok (.iconst 1, 1) := by decide +kernel
theorem dX2_usedWith_5 : decode cX2_usedWith 5 = .ok (.if_icmp .ne 7, 3) := by decide +kernel
theorem dX2_usedWith_8 : decode cX2_usedWith 8 = .ok (.iload_n 1, 1) := by decide +kernel
theorem dX2_usedWith_9 : decode cX2_usedWith 9 = .ok (.goto 8, 3) := by decide +kernel
theorem dX2_usedWith_12 : decode cX2_usedWith 12 = .ok (.iload_n 1, 1) := by decide +kernel
theorem dX2_usedWith_13 : decode cX2_usedWith 13 = .ok (.iconst 1, 1) := by decide +kernel
theorem dX2_usedWith_14 : decode cX2_usedWith 14 = .ok (.iload_n 2, 1) := by decide +kernel
theorem dX2_usedWith_15 : decode cX2_usedWith 15 = .ok (.ishl, 1) := by decide +kernel
theorem dX2_usedWith_16 : decode cX2_usedWith 16 = .ok (.ior, 1) := by decide +kernel
theorem dX2_usedWith_17 : decode cX2_usedWith 17 = .ok (.ireturn, 1) := by decide +kernel
theorem dX2_solve_0 : decode cX2_solve 0 = .ok (.iload_n 1, 1) := by decide +kernel
theorem dX2_solve_1 : decode cX2_solve 1 = .ok (.aload_n 0, 1) := by decide +kernel
theorem dX2_solve_2 : decode cX2_solve 2 = .ok (.getfield 29, 3) := by decide +kernel
theorem dX2_solve_5 : decode cX2_solve 5 = .ok (.if_icmp .ne 26, 3) := by decide +kernel
theorem dX2_solve_8 : decode cX2_solve 8 = .ok (.aload_n 0, 1) := by decide +kernel
theorem dX2_solve_9 : decode cX2_solve 9 = .ok (.getfield 25, 3) := by decide +kernel
theorem dX2_solve_12 : decode cX2_solve 12 = .ok (.ifCond .ne 15, 3) := by decide +kernel
theorem dX2_solve_15 : decode cX2_solve 15 = .ok (.iload_n 2, 1) := by decide +kernel
theorem dX2_solve_16 : decode cX2_solve 16 = .ok (.aload_n 0, 1) := by decide +kernel
theorem dX2_solve_17 : decode cX2_solve 17 = .ok (.getfield 32, 3) := by decide +kernel
theorem dX2_solve_20 : decode cX2_solve 20 = .ok (.if_icmp .eq 7, 3) := by decide +kernel
theorem dX2_solve_23 : decode cX2_solve 23 = .ok (.lconst 0, 1) := by decide +kernel
theorem dX2_solve_24 : decode cX2_solve 24 = .ok (.goto 6, 3) := by decide +kernel
theorem dX2_solve_27 : decode cX2_solve 27 = .ok (.ldc2_w 95, 3) := by decide +kernel
theorem dX2_solve_30 : decode cX2_solve 30 = .ok (.lreturn, 1) := by decide +kernel
theorem dX2_solve_31 : decode cX2_solve 31 = .ok (.iload_n 3, 1) := by decide +kernel
theorem dX2_solve_32 : decode cX2_solve 32 = .ok (.bipush 20, 2) := by decide +kernel
theorem dX2_solve_34 : decode cX2_solve 34 = .ok (.if_icmp .gt 12, 3) := by decide +kernel
theorem dX2_solve_37 : decode cX2_solve 37 = .ok (.aload_n 0, 1) := by decide +kernel
theorem dX2_solve_38 : decode cX2_solve 38 = .ok (.iload_n 1, 1) := by decide +kernel
theorem dX2_solve_39 : decode cX2_solve 39 = .ok (.iload_n 2, 1) := by decide +kernel
theorem dX2_solve_40 : decode cX2_solve 40 = .ok (.invokevirtual 97, 3) := by decide +kernel
theorem dX2_solve_43 : decode cX2_solve 43 = .ok (.ifCond .ne 5, 3) := by decide +kernel
theorem dX2_solve_46 : decode cX2_solve 46 = .ok (.lconst 0, 1) := by decide +kernel
theorem dX2_solve_47 : decode cX2_solve 47 = .ok (.lreturn, 1) := by decide +kernel
theorem dX2_solve_48 : decode cX2_solve 48 = .ok (.aload_n 0, 1) := by decide +kernel
theorem dX2_solve_49 : decode cX2_solve 49 = .ok (.getfield 41, 3) := by decide +kernel
theorem dX2_solve_52 : decode cX2_solve 52 = .ok (.getfield 101, 3) := by decide +kernel
theorem dX2_solve_55 : decode cX2_solve 55 = .ok (.i2l, 1) := by decide +kernel
theorem dX2_solve_56 : decode cX2_solve 56 = .ok (.ldc2_w 104, 3) := by decide +kernel
theorem dX2_solve_59 : decode cX2_solve 59 = .ok (.lmul, 1) := by decide +kernel
theorem dX2_solve_60 : decode cX2_solve 60 = .ok (.aload_n 0, 1) := by decide +kernel
theorem dX2_solve_61 : decode cX2_solve 61 = .ok (.getfield 25, 3) := by decide +kernel
theorem dX2_solve_64 : decode cX2_solve 64 = .ok (.i2l, 1) := by decide +kernel
theorem dX2_solve_65 : decode cX2_solve 65 = .ok (.ladd, 1) := by decide +kernel
theorem dX2_solve_66 : decode cX2_solve 66 = .ok (.bipush 26, 2) := by decide +kernel
theorem dX2_solve_68 : decode cX2_solve 68 = .ok (.lshl, 1) := by decide +kernel
theorem dX2_solve_69 : decode cX2_solve 69 = .ok (.iload_n 2, 1) := by decide +kernel
theorem dX2_solve_70 : decode cX2_solve 70 = .ok (.i2l, 1) := by decide +kernel
theorem dX2_solve_71 : decode cX2_solve 71 = .ok (.bipush 20, 2) := by decide +kernel
theorem dX2_solve_73 : decode cX2_solve 73 = .ok (.lshl, 1) := by decide +kernel
theorem dX2_solve_74 : decode cX2_solve 74 = .ok (.lor, 1) := by decide +kernel
theorem dX2_solve_75 : decode cX2_solve 75 = .ok (.iload_n 1, 1) := by decide +kernel
theorem dX2_solve_76 : decode cX2_solve 76 = .ok (.i2l, 1) := by decide +kernel
theorem dX2_solve_77 : decode cX2_solve 77 = .ok (.lor, 1) := by decide +kernel
theorem dX2_solve_78 : decode cX2_solve 78 = .ok (.lstore 4, 2) := by decide +kernel
theorem dX2_solve_80 : decode cX2_solve 80 = .ok (.lload 4, 2) := by decide +kernel
theorem dX2_solve_82 : decode cX2_solve 82 = .ok (.ldc2_w 106, 3) := by decide +kernel
theorem dX2_solve_85 : decode cX2_solve 85 = .ok (.lmul, 1) := by decide +kernel
theorem dX2_solve_86 : decode cX2_solve 86 = .ok (.bipush 50, 2) := by decide +kernel
theorem dX2_solve_88 : decode cX2_solve 88 = .ok (.lushr, 1) := by decide +kernel
theorem dX2_solve_89 : decode cX2_solve 89 = .ok (.l2i, 1) := by decide +kernel
theorem dX2_solve_90 : decode cX2_solve 90 = .ok (.istore 6, 2) := by decide +kernel
theorem dX2_solve_92 : decode cX2_solve 92 = .ok (.aload_n 0, 1) := by decide +kernel
theorem dX2_solve_93 : decode cX2_solve 93 = .ok (.getfield 11, 3) := by decide +kernel
theorem dX2_solve_96 : decode cX2_solve 96 = .ok (.iload 6, 2) := by decide +kernel
theorem dX2_solve_98 : decode cX2_solve 98 = .ok (.laload, 1) := by decide +kernel
theorem dX2_solve_99 : decode cX2_solve 99 = .ok (.lload 4, 2) := by decide +kernel
theorem dX2_solve_101 : decode cX2_solve 101 = .ok (.lcmp, 1) := by decide +kernel
theorem dX2_solve_102 : decode cX2_solve 102 = .ok (.ifCond .eq 30, 3) := by decide +kernel
theorem dX2_solve_105 : decode cX2_solve 105 = .ok (.aload_n 0, 1) := by decide +kernel
theorem dX2_solve_106 : decode cX2_solve 106 = .ok (.iload_n 1, 1) := by decide +kernel
theorem dX2_solve_107 : decode cX2_solve 107 = .ok (.iload_n 2, 1) := by decide +kernel
theorem dX2_solve_108 : decode cX2_solve 108 = .ok (.iload_n 3, 1) := by decide +kernel
theorem dX2_solve_109 : decode cX2_solve 109 = .ok (.invokevirtual 108, 3) := by decide +kernel
theorem dX2_solve_112 : decode cX2_solve 112 = .ok (.lstore 7, 2) := by decide +kernel
theorem dX2_solve_114 : decode cX2_solve 114 = .ok (.aload_n 0, 1) := by decide +kernel
theorem dX2_solve_115 : decode cX2_solve 115 = .ok (.getfield 11, 3) := by decide +kernel
theorem dX2_solve_118 : decode cX2_solve 118 = .ok (.iload 6, 2) := by decide +kernel
theorem dX2_solve_120 : decode cX2_solve 120 = .ok (.lload 4, 2) := by decide +kernel
theorem dX2_solve_122 : decode cX2_solve 122 = .ok (.lastore, 1) := by decide +kernel
theorem dX2_solve_123 : decode cX2_solve 123 = .ok (.aload_n 0, 1) := by decide +kernel
theorem dX2_solve_124 : decode cX2_solve 124 = .ok (.getfield 15, 3) := by decide +kernel
theorem dX2_solve_127 : decode cX2_solve 127 = .ok (.iload 6, 2) := by decide +kernel
theorem dX2_solve_129 : decode cX2_solve 129 = .ok (.lload 7, 2) := by decide +kernel
theorem dX2_solve_131 : decode cX2_solve 131 = .ok (.lastore, 1) := by decide +kernel
theorem dX2_solve_132 : decode cX2_solve 132 = .ok (.aload_n 0, 1) := by decide +kernel
theorem dX2_solve_133 : decode cX2_solve 133 = .ok (.getfield 15, 3) := by decide +kernel
theorem dX2_solve_136 : decode cX2_solve 136 = .ok (.iload 6, 2) := by decide +kernel
theorem dX2_solve_138 : decode cX2_solve 138 = .ok (.laload, 1) := by decide +kernel
theorem dX2_solve_139 : decode cX2_solve 139 = .ok (.lreturn, 1) := by decide +kernel
theorem dX2_tryEach_0 : decode cX2_tryEach 0 = .ok (.iload_n 1, 1) := by decide +kernel
theorem dX2_tryEach_1 : decode cX2_tryEach 1 = .ok (.iconst (-1), 1) := by decide +kernel
theorem dX2_tryEach_2 : decode cX2_tryEach 2 = .ok (.ixor, 1) := by decide +kernel
theorem dX2_tryEach_3 : decode cX2_tryEach 3 = .ok (.invokestatic 62, 3) := by decide +kernel
theorem dX2_tryEach_6 : decode cX2_tryEach 6 = .ok (.istore 4, 2) := by decide +kernel
theorem dX2_tryEach_8 : decode cX2_tryEach 8 = .ok (.lconst 0, 1) := by decide +kernel
theorem dX2_tryEach_9 : decode cX2_tryEach 9 = .ok (.lstore 5, 2) := by decide +kernel
theorem dX2_tryEach_11 : decode cX2_tryEach 11 = .ok (.bipush 31, 2) := by decide +kernel
theorem dX2_tryEach_13 : decode cX2_tryEach 13 = .ok (.istore 7, 2) := by decide +kernel
theorem dX2_tryEach_15 : decode cX2_tryEach 15 = .ok (.iconst 0, 1) := by decide +kernel
theorem dX2_tryEach_16 : decode cX2_tryEach 16 = .ok (.istore 8, 2) := by decide +kernel
theorem dX2_tryEach_18 : decode cX2_tryEach 18 = .ok (.iload 8, 2) := by decide +kernel
theorem dX2_tryEach_20 : decode cX2_tryEach 20 = .ok (.aload_n 0, 1) := by decide +kernel
theorem dX2_tryEach_21 : decode cX2_tryEach 21 = .ok (.getfield 41, 3) := by decide +kernel
theorem dX2_tryEach_24 : decode cX2_tryEach 24 = .ok (.getfield 56, 3) := by decide +kernel
theorem dX2_tryEach_27 : decode cX2_tryEach 27 = .ok (.if_icmp .ge 134, 3) := by decide +kernel
theorem dX2_tryEach_30 : decode cX2_tryEach 30 = .ok (.iload_n 2, 1) := by decide +kernel
theorem dX2_tryEach_31 : decode cX2_tryEach 31 = .ok (.iload 8, 2) := by decide +kernel
theorem dX2_tryEach_33 : decode cX2_tryEach 33 = .ok (.ishr, 1) := by decide +kernel
theorem dX2_tryEach_34 : decode cX2_tryEach 34 = .ok (.iconst 1, 1) := by decide +kernel
theorem dX2_tryEach_35 : decode cX2_tryEach 35 = .ok (.iand, 1) := by decide +kernel
theorem dX2_tryEach_36 : decode cX2_tryEach 36 = .ok (.ifCond .eq 7, 3) := by decide +kernel
theorem dX2_tryEach_39 : decode cX2_tryEach 39 = .ok (.iconst 0, 1) := by decide +kernel
theorem dX2_tryEach_40 : decode cX2_tryEach 40 = .ok (.goto 14, 3) := by decide +kernel
theorem dX2_tryEach_43 : decode cX2_tryEach 43 = .ok (.aload_n 0, 1) := by decide +kernel
theorem dX2_tryEach_44 : decode cX2_tryEach 44 = .ok (.getfield 41, 3) := by decide +kernel
theorem dX2_tryEach_47 : decode cX2_tryEach 47 = .ok (.iload 8, 2) := by decide +kernel
theorem dX2_tryEach_49 : decode cX2_tryEach 49 = .ok (.iload 4, 2) := by decide +kernel
theorem dX2_tryEach_51 : decode cX2_tryEach 51 = .ok (.invokevirtual 88, 3) := by decide +kernel
theorem dX2_tryEach_54 : decode cX2_tryEach 54 = .ok (.istore 9, 2) := by decide +kernel
theorem dX2_tryEach_56 : decode cX2_tryEach 56 = .ok (.iconst 0, 1) := by decide +kernel
theorem dX2_tryEach_57 : decode cX2_tryEach 57 = .ok (.istore 10, 2) := by decide +kernel
theorem dX2_tryEach_59 : decode cX2_tryEach 59 = .ok (.iload 10, 2) := by decide +kernel
theorem dX2_tryEach_61 : decode cX2_tryEach 61 = .ok (.iload 9, 2) := by decide +kernel
theorem dX2_tryEach_63 : decode cX2_tryEach 63 = .ok (.if_icmp .ge 92, 3) := by decide +kernel
theorem dX2_tryEach_66 : decode cX2_tryEach 66 = .ok (.aload_n 0, 1) := by decide +kernel
theorem dX2_tryEach_67 : decode cX2_tryEach 67 = .ok (.getfield 41, 3) := by decide +kernel
theorem dX2_tryEach_70 : decode cX2_tryEach 70 = .ok (.iload 8, 2) := by decide +kernel
theorem dX2_tryEach_72 : decode cX2_tryEach 72 = .ok (.iload 4, 2) := by decide +kernel
theorem dX2_tryEach_74 : decode cX2_tryEach 74 = .ok (.iload 10, 2) := by decide +kernel
theorem dX2_tryEach_76 : decode cX2_tryEach 76 = .ok (.invokevirtual 91, 3) := by decide +kernel
theorem dX2_tryEach_79 : decode cX2_tryEach 79 = .ok (.istore 11, 2) := by decide +kernel
theorem dX2_tryEach_81 : decode cX2_tryEach 81 = .ok (.iload 11, 2) := by decide +kernel
theorem dX2_tryEach_83 : decode cX2_tryEach 83 = .ok (.iload_n 1, 1) := by decide +kernel
theorem dX2_tryEach_84 : decode cX2_tryEach 84 = .ok (.iand, 1) := by decide +kernel
theorem dX2_tryEach_85 : decode cX2_tryEach 85 = .ok (.ifCond .ne 64, 3) := by decide +kernel
theorem dX2_tryEach_88 : decode cX2_tryEach 88 = .ok (.aload_n 0, 1) := by decide +kernel
theorem dX2_tryEach_89 : decode cX2_tryEach 89 = .ok (.iload_n 1, 1) := by decide +kernel
theorem dX2_tryEach_90 : decode cX2_tryEach 90 = .ok (.iload 11, 2) := by decide +kernel
theorem dX2_tryEach_92 : decode cX2_tryEach 92 = .ok (.ior, 1) := by decide +kernel
theorem dX2_tryEach_93 : decode cX2_tryEach 93 = .ok (.aload_n 0, 1) := by decide +kernel
theorem dX2_tryEach_94 : decode cX2_tryEach 94 = .ok (.iload_n 2, 1) := by decide +kernel
theorem dX2_tryEach_95 : decode cX2_tryEach 95 = .ok (.iload 8, 2) := by decide +kernel
theorem dX2_tryEach_97 : decode cX2_tryEach 97 = .ok (.invokevirtual 84, 3) := by decide +kernel
theorem dX2_tryEach_100 : decode cX2_tryEach 100 = .ok (.iload_n 3, 1) := by decide +kernel
theorem dX2_tryEach_101 : decode cX2_tryEach 101 = .ok (.iconst 1, 1) := by decide +kernel
theorem dX2_tryEach_102 : decode cX2_tryEach 102 = .ok (.iadd, 1) := by decide +kernel
theorem dX2_tryEach_103 : decode cX2_tryEach 103 = .ok (.invokevirtual 74, 3) := by decide +kernel
theorem dX2_tryEach_106 : decode cX2_tryEach 106 = .ok (.lstore 12, 2) := by decide +kernel
theorem dX2_tryEach_108 : decode cX2_tryEach 108 = .ok (.lload 5, 2) := by decide +kernel
theorem dX2_tryEach_110 : decode cX2_tryEach 110 = .ok (.lload 12, 2) := by decide +kernel
theorem dX2_tryEach_112 : decode cX2_tryEach 112 = .ok (.iconst 5, 1) := by decide +kernel
theorem dX2_tryEach_113 : decode cX2_tryEach 113 = .ok (.lushr, 1) := by decide +kernel
theorem dX2_tryEach_114 : decode cX2_tryEach 114 = .ok (.ladd, 1) := by decide +kernel
theorem dX2_tryEach_115 : decode cX2_tryEach 115 = .ok (.lstore 5, 2) := by decide +kernel
theorem dX2_tryEach_117 : decode cX2_tryEach 117 = .ok (.iconst 1, 1) := by decide +kernel
theorem dX2_tryEach_118 : decode cX2_tryEach 118 = .ok (.lload 12, 2) := by decide +kernel
theorem dX2_tryEach_120 : decode cX2_tryEach 120 = .ok (.ldc2_w 78, 3) := by decide +kernel
theorem dX2_tryEach_123 : decode cX2_tryEach 123 = .ok (.land, 1) := by decide +kernel
theorem dX2_tryEach_124 : decode cX2_tryEach 124 = .ok (.l2i, 1) := by decide +kernel
theorem dX2_tryEach_125 : decode cX2_tryEach 125 = .ok (.iadd, 1) := by decide +kernel
theorem dX2_tryEach_126 : decode cX2_tryEach 126 = .ok (.istore 14, 2) := by decide +kernel
theorem dX2_tryEach_128 : decode cX2_tryEach 128 = .ok (.lload 12, 2) := by decide +kernel
theorem dX2_tryEach_130 : decode cX2_tryEach 130 = .ok (.lconst 0, 1) := by decide +kernel
theorem dX2_tryEach_131 : decode cX2_tryEach 131 = .ok (.lcmp, 1) := by decide +kernel
theorem dX2_tryEach_132 : decode cX2_tryEach 132 = .ok (.ifCond .ne 8, 3) := by decide +kernel
theorem dX2_tryEach_135 : decode cX2_tryEach 135 = .ok (.iload 7, 2) := by decide +kernel
theorem dX2_tryEach_137 : decode cX2_tryEach 137 = .ok (.goto 10, 3) := by decide +kernel
theorem dX2_tryEach_140 : decode cX2_tryEach 140 = .ok (.iload 7, 2) := by decide +kernel
theorem dX2_tryEach_142 : decode cX2_tryEach 142 = .ok (.iload 14, 2) := by decide +kernel
theorem dX2_tryEach_144 : decode cX2_tryEach 144 = .ok (.invokestatic 111, 3) := by decide +kernel
theorem dX2_tryEach_147 : decode cX2_tryEach 147 = .ok (.istore 7, 2) := by decide +kernel
theorem dX2_tryEach_149 : decode cX2_tryEach 149 = .ok (.iinc 10 1, 3) := by decide +kernel
theorem dX2_tryEach_152 : decode cX2_tryEach 152 = .ok (.goto (-93), 3) := by decide +kernel
theorem dX2_tryEach_155 : decode cX2_tryEach 155 = .ok (.iinc 8 1, 3) := by decide +kernel
theorem dX2_tryEach_158 : decode cX2_tryEach 158 = .ok (.goto (-140), 3) := by decide +kernel
theorem dX2_tryEach_161 : decode cX2_tryEach 161 = .ok (.lload 5, 2) := by decide +kernel
theorem dX2_tryEach_163 : decode cX2_tryEach 163 = .ok (.lconst 0, 1) := by decide +kernel
theorem dX2_tryEach_164 : decode cX2_tryEach 164 = .ok (.lcmp, 1) := by decide +kernel
theorem dX2_tryEach_165 : decode cX2_tryEach 165 = .ok (.ifCond .ne 7, 3) := by decide +kernel
theorem dX2_tryEach_168 : decode cX2_tryEach 168 = .ok (.lconst 0, 1) := by decide +kernel
theorem dX2_tryEach_169 : decode cX2_tryEach 169 = .ok (.goto 11, 3) := by decide +kernel
theorem dX2_tryEach_172 : decode cX2_tryEach 172 = .ok (.lload 5, 2) := by decide +kernel
theorem dX2_tryEach_174 : decode cX2_tryEach 174 = .ok (.iconst 5, 1) := by decide +kernel
theorem dX2_tryEach_175 : decode cX2_tryEach 175 = .ok (.lshl, 1) := by decide +kernel
theorem dX2_tryEach_176 : decode cX2_tryEach 176 = .ok (.iload 7, 2) := by decide +kernel
theorem dX2_tryEach_178 : decode cX2_tryEach 178 = .ok (.i2l, 1) := by decide +kernel
theorem dX2_tryEach_179 : decode cX2_tryEach 179 = .ok (.lor, 1) := by decide +kernel
theorem dX2_tryEach_180 : decode cX2_tryEach 180 = .ok (.lreturn, 1) := by decide +kernel
theorem dX2_areaFits_0 : decode cX2_areaFits 0 = .ok (.aload_n 0, 1) := by decide +kernel
theorem dX2_areaFits_1 : decode cX2_areaFits 1 = .ok (.getfield 29, 3) := by decide +kernel
theorem dX2_areaFits_4 : decode cX2_areaFits 4 = .ok (.iload_n 1, 1) := by decide +kernel
theorem dX2_areaFits_5 : decode cX2_areaFits 5 = .ok (.iconst (-1), 1) := by decide +kernel
theorem dX2_areaFits_6 : decode cX2_areaFits 6 = .ok (.ixor, 1) := by decide +kernel
theorem dX2_areaFits_7 : decode cX2_areaFits 7 = .ok (.iand, 1) := by decide +kernel
theorem dX2_areaFits_8 : decode cX2_areaFits 8 = .ok (.invokestatic 116, 3) := by decide +kernel
theorem dX2_areaFits_11 : decode cX2_areaFits 11 = .ok (.istore_n 3, 1) := by decide +kernel
theorem dX2_areaFits_12 : decode cX2_areaFits 12 = .ok (.aload_n 0, 1) := by decide +kernel
theorem dX2_areaFits_13 : decode cX2_areaFits 13 = .ok (.getfield 32, 3) := by decide +kernel
theorem dX2_areaFits_16 : decode cX2_areaFits 16 = .ok (.iload_n 2, 1) := by decide +kernel
theorem dX2_areaFits_17 : decode cX2_areaFits 17 = .ok (.iconst (-1), 1) := by decide +kernel
theorem dX2_areaFits_18 : decode cX2_areaFits 18 = .ok (.ixor, 1) := by decide +kernel
theorem dX2_areaFits_19 : decode cX2_areaFits 19 = .ok (.iand, 1) := by decide +kernel
theorem dX2_areaFits_20 : decode cX2_areaFits 20 = .ok (.istore 4, 2) := by decide +kernel
theorem dX2_areaFits_22 : decode cX2_areaFits 22 = .ok (.aload_n 0, 1) := by decide +kernel
theorem dX2_areaFits_23 : decode cX2_areaFits 23 = .ok (.getfield 25, 3) := by decide +kernel
theorem dX2_areaFits_26 : decode cX2_areaFits 26 = .ok (.lookupswitch 63 #[(0, 26), (2, 43)], 26) := by decide +kernel
theorem dX2_areaFits_52 : decode cX2_areaFits 52 = .ok (.aload_n 0, 1) := by decide +kernel
theorem dX2_areaFits_53 : decode cX2_areaFits 53 = .ok (.getfield 18, 3) := by decide +kernel
theorem dX2_areaFits_56 : decode cX2_areaFits 56 = .ok (.iload 4, 2) := by decide +kernel
theorem dX2_areaFits_58 : decode cX2_areaFits 58 = .ok (.iaload, 1) := by decide +kernel
theorem dX2_areaFits_59 : decode cX2_areaFits 59 = .ok (.iload_n 3, 1) := by decide +kernel
theorem dX2_areaFits_60 : decode cX2_areaFits 60 = .ok (.if_icmp .ne 7, 3) := by decide +kernel
theorem dX2_areaFits_63 : decode cX2_areaFits 63 = .ok (.iconst 1, 1) := by decide +kernel
theorem dX2_areaFits_64 : decode cX2_areaFits 64 = .ok (.goto 4, 3) := by decide +kernel
theorem dX2_areaFits_67 : decode cX2_areaFits 67 = .ok (.iconst 0, 1) := by decide +kernel
theorem dX2_areaFits_68 : decode cX2_areaFits 68 = .ok (.ireturn, 1) := by decide +kernel
theorem dX2_areaFits_69 : decode cX2_areaFits 69 = .ok (.aload_n 0, 1) := by decide +kernel
theorem dX2_areaFits_70 : decode cX2_areaFits 70 = .ok (.getfield 22, 3) := by decide +kernel
theorem dX2_areaFits_73 : decode cX2_areaFits 73 = .ok (.iload 4, 2) := by decide +kernel
theorem dX2_areaFits_75 : decode cX2_areaFits 75 = .ok (.iaload, 1) := by decide +kernel
theorem dX2_areaFits_76 : decode cX2_areaFits 76 = .ok (.iload_n 3, 1) := by decide +kernel
theorem dX2_areaFits_77 : decode cX2_areaFits 77 = .ok (.ishr, 1) := by decide +kernel
theorem dX2_areaFits_78 : decode cX2_areaFits 78 = .ok (.iconst 1, 1) := by decide +kernel
theorem dX2_areaFits_79 : decode cX2_areaFits 79 = .ok (.iand, 1) := by decide +kernel
theorem dX2_areaFits_80 : decode cX2_areaFits 80 = .ok (.ifCond .eq 7, 3) := by decide +kernel
theorem dX2_areaFits_83 : decode cX2_areaFits 83 = .ok (.iconst 1, 1) := by decide +kernel
theorem dX2_areaFits_84 : decode cX2_areaFits 84 = .ok (.goto 4, 3) := by decide +kernel
theorem dX2_areaFits_87 : decode cX2_areaFits 87 = .ok (.iconst 0, 1) := by decide +kernel
theorem dX2_areaFits_88 : decode cX2_areaFits 88 = .ok (.ireturn, 1) := by decide +kernel
theorem dX2_areaFits_89 : decode cX2_areaFits 89 = .ok (.iconst 1, 1) := by decide +kernel
theorem dX2_areaFits_90 : decode cX2_areaFits 90 = .ok (.ireturn, 1) := by decide +kernel
