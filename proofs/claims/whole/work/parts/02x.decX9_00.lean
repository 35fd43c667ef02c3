theorem dX9_init_0 : decode cX9_init 0 = .ok (.aload_n 0, 1) := by decide +kernel
theorem dX9_init_1 : decode cX9_init 1 = .ok (.invokespecial 1, 3) := by decide +kernel
theorem dX9_init_4 : decode cX9_init 4 = .ok (.aload_n 0, 1) := by decide +kernel
theorem dX9_init_5 : decode cX9_init 5 = .ok (.aconst_null, 1) := by decide +kernel
theorem dX9_init_6 : decode cX9_init 6 = .ok (.putfield 7, 3) := by decide +kernel
theorem dX9_init_9 : decode cX9_init 9 = .ok (.aload_n 0, 1) := by decide +kernel
theorem dX9_init_10 : decode cX9_init 10 = .ok (.aconst_null, 1) := by decide +kernel
theorem dX9_init_11 : decode cX9_init 11 = .ok (.putfield 13, 3) := by decide +kernel
theorem dX9_init_14 : decode cX9_init 14 = .ok (.aload_n 0, 1) := by decide +kernel
theorem dX9_init_15 : decode cX9_init 15 = .ok (.aconst_null, 1) := by decide +kernel
theorem dX9_init_16 : decode cX9_init 16 = .ok (.putfield 17, 3) := by decide +kernel
theorem dX9_init_19 : decode cX9_init 19 = .ok (.aload_n 0, 1) := by decide +kernel
theorem dX9_init_20 : decode cX9_init 20 = .ok (.new 21, 3) := by decide +kernel
theorem dX9_init_23 : decode cX9_init 23 = .ok (.dup, 1) := by decide +kernel
theorem dX9_init_24 : decode cX9_init 24 = .ok (.invokespecial 23, 3) := by decide +kernel
theorem dX9_init_27 : decode cX9_init 27 = .ok (.putfield 24, 3) := by decide +kernel
theorem dX9_init_30 : decode cX9_init 30 = .ok (.aload_n 0, 1) := by decide +kernel
theorem dX9_init_31 : decode cX9_init 31 = .ok (.new 28, 3) := by decide +kernel
theorem dX9_init_34 : decode cX9_init 34 = .ok (.dup, 1) := by decide +kernel
theorem dX9_init_35 : decode cX9_init 35 = .ok (.invokespecial 30, 3) := by decide +kernel
theorem dX9_init_38 : decode cX9_init 38 = .ok (.putfield 31, 3) := by decide +kernel
theorem dX9_init_41 : decode cX9_init 41 = .ok (.aload_n 0, 1) := by decide +kernel
theorem dX9_init_42 : decode cX9_init 42 = .ok (.new 35, 3) := by decide +kernel
theorem dX9_init_45 : decode cX9_init 45 = .ok (.dup, 1) := by decide +kernel
theorem dX9_init_46 : decode cX9_init 46 = .ok (.invokespecial 37, 3) := by decide +kernel
theorem dX9_init_49 : decode cX9_init 49 = .ok (.putfield 38, 3) := by decide +kernel
theorem dX9_init_52 : decode cX9_init 52 = .ok (.aload_n 0, 1) := by decide +kernel
theorem dX9_init_53 : decode cX9_init 53 = .ok (.new 42, 3) := by decide +kernel
theorem dX9_init_56 : decode cX9_init 56 = .ok (.dup, 1) := by decide +kernel
theorem dX9_init_57 : decode cX9_init 57 = .ok (.invokespecial 44, 3) := by decide +kernel
theorem dX9_init_60 : decode cX9_init 60 = .ok (.putfield 45, 3) := by decide +kernel
theorem dX9_init_63 : decode cX9_init 63 = .ok (.return_, 1) := by decide +kernel
theorem dX9_tile_0 : decode cX9_tile 0 = .ok (.iload_n 1, 1) := by decide +kernel
theorem dX9_tile_1 : decode cX9_tile 1 = .ok (.invokestatic 49, 3) := by decide +kernel
theorem dX9_tile_4 : decode cX9_tile 4 = .ok (.ifCond .eq 25, 3) := by decide +kernel
theorem dX9_tile_7 : decode cX9_tile 7 = .ok (.iload_n 2, 1) := by decide +kernel
theorem dX9_tile_8 : decode cX9_tile 8 = .ok (.invokestatic 49, 3) := by decide +kernel
theorem dX9_tile_11 : decode cX9_tile 11 = .ok (.ifCond .eq 18, 3) := by decide +kernel
theorem dX9_tile_14 : decode cX9_tile 14 = .ok (.iload_n 3, 1) := by decide +kernel
theorem dX9_tile_15 : decode cX9_tile 15 = .ok (.invokestatic 49, 3) := by decide +kernel
theorem dX9_tile_18 : decode cX9_tile 18 = .ok (.ifCond .eq 11, 3) := by decide +kernel
theorem dX9_tile_21 : decode cX9_tile 21 = .ok (.iload 4, 2) := by decide +kernel
theorem dX9_tile_23 : decode cX9_tile 23 = .ok (.invokestatic 49, 3) := by decide +kernel
theorem dX9_tile_26 : decode cX9_tile 26 = .ok (.ifCond .ne 6, 3) := by decide +kernel
theorem dX9_tile_29 : decode cX9_tile 29 = .ok (.bipush (-2), 2) := by decide +kernel
theorem dX9_tile_31 : decode cX9_tile 31 = .ok (.ireturn, 1) := by decide +kernel
theorem dX9_tile_32 : decode cX9_tile 32 = .ok (.aload_n 0, 1) := by decide +kernel
theorem dX9_tile_33 : decode cX9_tile 33 = .ok (.getfield 24, 3) := by decide +kernel
theorem dX9_tile_36 : decode cX9_tile 36 = .ok (.getfield 53, 3) := by decide +kernel
theorem dX9_tile_39 : decode cX9_tile 39 = .ok (.bipush 8, 2) := by decide +kernel
theorem dX9_tile_41 : decode cX9_tile 41 = .ok (.if_icmp .lt 8, 3) := by decide +kernel
theorem dX9_tile_44 : decode cX9_tile 44 = .ok (.bipush (-3), 2) := by decide +kernel
theorem dX9_tile_46 : decode cX9_tile 46 = .ok (.goto 15, 3) := by decide +kernel
theorem dX9_tile_49 : decode cX9_tile 49 = .ok (.aload_n 0, 1) := by decide +kernel
theorem dX9_tile_50 : decode cX9_tile 50 = .ok (.getfield 24, 3) := by decide +kernel
theorem dX9_tile_53 : decode cX9_tile 53 = .ok (.iload_n 1, 1) := by decide +kernel
theorem dX9_tile_54 : decode cX9_tile 54 = .ok (.iload_n 2, 1) := by decide +kernel
theorem dX9_tile_55 : decode cX9_tile 55 = .ok (.iload_n 3, 1) := by decide +kernel
theorem dX9_tile_56 : decode cX9_tile 56 = .ok (.iload 4, 2) := by decide +kernel
theorem dX9_tile_58 : decode cX9_tile 58 = .ok (.invokevirtual 57, 3) := by decide +kernel
theorem dX9_tile_61 : decode cX9_tile 61 = .ok (.ireturn, 1) := by decide +kernel
theorem dX9_untile_0 : decode cX9_untile 0 = .ok (.aload_n 0, 1) := by decide +kernel
theorem dX9_untile_1 : decode cX9_untile 1 = .ok (.getfield 24, 3) := by decide +kernel
theorem dX9_untile_4 : decode cX9_untile 4 = .ok (.getfield 53, 3) := by decide +kernel
theorem dX9_untile_7 : decode cX9_untile 7 = .ok (.ifCond .ne 7, 3) := by decide +kernel
theorem dX9_untile_10 : decode cX9_untile 10 = .ok (.iconst (-1), 1) := by decide +kernel
theorem dX9_untile_11 : decode cX9_untile 11 = .ok (.goto 10, 3) := by decide +kernel
theorem dX9_untile_14 : decode cX9_untile 14 = .ok (.aload_n 0, 1) := by decide +kernel
theorem dX9_untile_15 : decode cX9_untile 15 = .ok (.getfield 24, 3) := by decide +kernel
theorem dX9_untile_18 : decode cX9_untile 18 = .ok (.invokevirtual 61, 3) := by decide +kernel
theorem dX9_untile_21 : decode cX9_untile 21 = .ok (.ireturn, 1) := by decide +kernel
theorem dX9_fillings_0 : decode cX9_fillings 0 = .ok (.iload_n 1, 1) := by decide +kernel
theorem dX9_fillings_1 : decode cX9_fillings 1 = .ok (.invokestatic 65, 3) := by decide +kernel
theorem dX9_fillings_4 : decode cX9_fillings 4 = .ok (.ifCond .eq 10, 3) := by decide +kernel
theorem dX9_fillings_7 : decode cX9_fillings 7 = .ok (.iload_n 2, 1) := by decide +kernel
theorem dX9_fillings_8 : decode cX9_fillings 8 = .ok (.invokestatic 65, 3) := by decide +kernel
theorem dX9_fillings_11 : decode cX9_fillings 11 = .ok (.ifCond .ne 7, 3) := by decide +kernel
theorem dX9_fillings_14 : decode cX9_fillings 14 = .ok (.ldc2_w 68, 3) := by decide +kernel
theorem dX9_fillings_17 : decode cX9_fillings 17 = .ok (.lreturn, 1) := by decide +kernel
theorem dX9_fillings_18 : decode cX9_fillings 18 = .ok (.aload_n 0, 1) := by decide +kernel
theorem dX9_fillings_19 : decode cX9_fillings 19 = .ok (.iload_n 1, 1) := by decide +kernel
theorem dX9_fillings_20 : decode cX9_fillings 20 = .ok (.iload_n 3, 1) := by decide +kernel
theorem dX9_fillings_21 : decode cX9_fillings 21 = .ok (.invokevirtual 70, 3) := by decide +kernel
theorem dX9_fillings_24 : decode cX9_fillings 24 = .ok (.astore 4, 2) := by decide +kernel
theorem dX9_fillings_26 : decode cX9_fillings 26 = .ok (.iload_n 3, 1) := by decide +kernel
theorem dX9_fillings_27 : decode cX9_fillings 27 = .ok (.ifCond .eq 12, 3) := by decide +kernel
theorem dX9_fillings_30 : decode cX9_fillings 30 = .ok (.aload 4, 2) := by decide +kernel
theorem dX9_fillings_32 : decode cX9_fillings 32 = .ok (.iload_n 2, 1) := by decide +kernel
theorem dX9_fillings_33 : decode cX9_fillings 33 = .ok (.invokevirtual 74, 3) := by decide +kernel
theorem dX9_fillings_36 : decode cX9_fillings 36 = .ok (.goto 9, 3) := by decide +kernel
theorem dX9_fillings_39 : decode cX9_fillings 39 = .ok (.aload 4, 2) := by decide +kernel
theorem dX9_fillings_41 : decode cX9_fillings 41 = .ok (.iload_n 2, 1) := by decide +kernel
theorem dX9_fillings_42 : decode cX9_fillings 42 = .ok (.invokevirtual 80, 3) := by decide +kernel
theorem dX9_fillings_45 : decode cX9_fillings 45 = .ok (.lreturn, 1) := by decide +kernel
theorem dX9_laid_0 : decode cX9_laid 0 = .ok (.iload_n 1, 1) := by decide +kernel
theorem dX9_laid_1 : decode cX9_laid 1 = .ok (.invokestatic 65, 3) := by decide +kernel
theorem dX9_laid_4 : decode cX9_laid 4 = .ok (.ifCond .eq 34, 3) := by decide +kernel
theorem dX9_laid_7 : decode cX9_laid 7 = .ok (.iload_n 2, 1) := by decide +kernel
theorem dX9_laid_8 : decode cX9_laid 8 = .ok (.invokestatic 65, 3) := by decide +kernel
theorem dX9_laid_11 : decode cX9_laid 11 = .ok (.ifCond .eq 27, 3) := by decide +kernel
theorem dX9_laid_14 : decode cX9_laid 14 = .ok (.iload 4, 2) := by decide +kernel
theorem dX9_laid_16 : decode cX9_laid 16 = .ok (.iconst 0, 1) := by decide +kernel
theorem dX9_laid_17 : decode cX9_laid 17 = .ok (.iload_n 1, 1) := by decide +kernel
theorem dX9_laid_18 : decode cX9_laid 18 = .ok (.iconst 1, 1) := by decide +kernel
theorem dX9_laid_19 : decode cX9_laid 19 = .ok (.isub, 1) := by decide +kernel
theorem dX9_laid_20 : decode cX9_laid 20 = .ok (.invokestatic 83, 3) := by decide +kernel
theorem dX9_laid_23 : decode cX9_laid 23 = .ok (.ifCond .eq 15, 3) := by decide +kernel
theorem dX9_laid_26 : decode cX9_laid 26 = .ok (.iload 5, 2) := by decide +kernel
theorem dX9_laid_28 : decode cX9_laid 28 = .ok (.iconst 0, 1) := by decide +kernel
theorem dX9_laid_29 : decode cX9_laid 29 = .ok (.iload_n 2, 1) := by decide +kernel
theorem dX9_laid_30 : decode cX9_laid 30 = .ok (.iconst 1, 1) := by decide +kernel
theorem dX9_laid_31 : decode cX9_laid 31 = .ok (.isub, 1) := by decide +kernel
theorem dX9_laid_32 : decode cX9_laid 32 = .ok (.invokestatic 83, 3) := by decide +kernel
theorem dX9_laid_35 : decode cX9_laid 35 = .ok (.ifCond .ne 6, 3) := by decide +kernel
theorem dX9_laid_38 : decode cX9_laid 38 = .ok (.bipush (-2), 2) := by decide +kernel
theorem dX9_laid_40 : decode cX9_laid 40 = .ok (.ireturn, 1) := by decide +kernel
theorem dX9_laid_41 : decode cX9_laid 41 = .ok (.aload_n 0, 1) := by decide +kernel
theorem dX9_laid_42 : decode cX9_laid 42 = .ok (.iload_n 1, 1) := by decide +kernel
theorem dX9_laid_43 : decode cX9_laid 43 = .ok (.iload_n 3, 1) := by decide +kernel
theorem dX9_laid_44 : decode cX9_laid 44 = .ok (.invokevirtual 70, 3) := by decide +kernel
theorem dX9_laid_47 : decode cX9_laid 47 = .ok (.iload_n 2, 1) := by decide +kernel
theorem dX9_laid_48 : decode cX9_laid 48 = .ok (.iload 4, 2) := by decide +kernel
theorem dX9_laid_50 : decode cX9_laid 50 = .ok (.iload 5, 2) := by decide +kernel
theorem dX9_laid_52 : decode cX9_laid 52 = .ok (.invokevirtual 87, 3) := by decide +kernel
theorem dX9_laid_55 : decode cX9_laid 55 = .ok (.ireturn, 1) := by decide +kernel
theorem dX9_repeats_0 : decode cX9_repeats 0 = .ok (.iconst 1, 1) := by decide +kernel
theorem dX9_repeats_1 : decode cX9_repeats 1 = .ok (.istore_n 1, 1) := by decide +kernel
theorem dX9_repeats_2 : decode cX9_repeats 2 = .ok (.iload_n 1, 1) := by decide +kernel
theorem dX9_repeats_3 : decode cX9_repeats 3 = .ok (.bipush 16, 2) := by decide +kernel
theorem dX9_repeats_5 : decode cX9_repeats 5 = .ok (.if_icmp .gt 61, 3) := by decide +kernel
theorem dX9_repeats_8 : decode cX9_repeats 8 = .ok (.iconst 1, 1) := by decide +kernel
theorem dX9_repeats_9 : decode cX9_repeats 9 = .ok (.istore_n 2, 1) := by decide +kernel
theorem dX9_repeats_10 : decode cX9_repeats 10 = .ok (.iload_n 2, 1) := by decide +kernel
theorem dX9_repeats_11 : decode cX9_repeats 11 = .ok (.iconst 4, 1) := by decide +kernel
theorem dX9_repeats_12 : decode cX9_repeats 12 = .ok (.if_icmp .gt 48, 3) := by decide +kernel
theorem dX9_repeats_15 : decode cX9_repeats 15 = .ok (.iload_n 1, 1) := by decide +kernel
theorem dX9_repeats_16 : decode cX9_repeats 16 = .ok (.iload_n 2, 1) := by decide +kernel
theorem dX9_repeats_17 : decode cX9_repeats 17 = .ok (.idiv, 1) := by decide +kernel
theorem dX9_repeats_18 : decode cX9_repeats 18 = .ok (.istore_n 3, 1) := by decide +kernel
theorem dX9_repeats_19 : decode cX9_repeats 19 = .ok (.iload_n 3, 1) := by decide +kernel
theorem dX9_repeats_20 : decode cX9_repeats 20 = .ok (.iload_n 2, 1) := by decide +kernel
theorem dX9_repeats_21 : decode cX9_repeats 21 = .ok (.imul, 1) := by decide +kernel
theorem dX9_repeats_22 : decode cX9_repeats 22 = .ok (.iload_n 1, 1) := by decide +kernel
theorem dX9_repeats_23 : decode cX9_repeats 23 = .ok (.if_icmp .ne 31, 3) := by decide +kernel
theorem dX9_repeats_26 : decode cX9_repeats 26 = .ok (.iload_n 3, 1) := by decide +kernel
theorem dX9_repeats_27 : decode cX9_repeats 27 = .ok (.invokestatic 65, 3) := by decide +kernel
theorem dX9_repeats_30 : decode cX9_repeats 30 = .ok (.ifCond .eq 24, 3) := by decide +kernel
theorem dX9_repeats_33 : decode cX9_repeats 33 = .ok (.aload_n 0, 1) := by decide +kernel
theorem dX9_repeats_34 : decode cX9_repeats 34 = .ok (.iload_n 2, 1) := by decide +kernel
theorem dX9_repeats_35 : decode cX9_repeats 35 = .ok (.iconst 1, 1) := by decide +kernel
theorem dX9_repeats_36 : decode cX9_repeats 36 = .ok (.invokevirtual 70, 3) := by decide +kernel
theorem dX9_repeats_39 : decode cX9_repeats 39 = .ok (.iload_n 3, 1) := by decide +kernel
theorem dX9_repeats_40 : decode cX9_repeats 40 = .ok (.invokevirtual 91, 3) := by decide +kernel
theorem dX9_repeats_43 : decode cX9_repeats 43 = .ok (.iconst (-1), 1) := by decide +kernel
theorem dX9_repeats_44 : decode cX9_repeats 44 = .ok (.if_icmp .eq 10, 3) := by decide +kernel
theorem dX9_repeats_47 : decode cX9_repeats 47 = .ok (.bipush 10, 2) := by decide +kernel
theorem dX9_repeats_49 : decode cX9_repeats 49 = .ok (.iload_n 2, 1) := by decide +kernel
theorem dX9_repeats_50 : decode cX9_repeats 50 = .ok (.imul, 1) := by decide +kernel
theorem dX9_repeats_51 : decode cX9_repeats 51 = .ok (.iload_n 3, 1) := by decide +kernel
theorem dX9_repeats_52 : decode cX9_repeats 52 = .ok (.iadd, 1) := by decide +kernel
theorem dX9_repeats_53 : decode cX9_repeats 53 = .ok (.ireturn, 1) := by decide +kernel
theorem dX9_repeats_54 : decode cX9_repeats 54 = .ok (.iinc 2 1, 3) := by decide +kernel
theorem dX9_repeats_57 : decode cX9_repeats 57 = .ok (.goto (-47), 3) := by decide +kernel
theorem dX9_repeats_60 : decode cX9_repeats 60 = .ok (.iinc 1 1, 3) := by decide +kernel
theorem dX9_repeats_63 : decode cX9_repeats 63 = .ok (.goto (-61), 3) := by decide +kernel
theorem dX9_repeats_66 : decode cX9_repeats 66 = .ok (.iconst (-1), 1) := by decide +kernel
theorem dX9_repeats_67 : decode cX9_repeats 67 = .ok (.ireturn, 1) := by decide +kernel
theorem dX9_radius_0 : decode cX9_radius 0 = .ok (.iconst 1, 1) := by decide +kernel
theorem dX9_radius_1 : decode cX9_radius 1 = .ok (.istore_n 1, 1) := by decide +kernel
theorem dX9_radius_2 : decode cX9_radius 2 = .ok (.iload_n 1, 1) := by decide +kernel
theorem dX9_radius_3 : decode cX9_radius 3 = .ok (.iconst 4, 1) := by decide +kernel
theorem dX9_radius_4 : decode cX9_radius 4 = .ok (.if_icmp .gt 26, 3) := by decide +kernel
theorem dX9_radius_7 : decode cX9_radius 7 = .ok (.aload_n 0, 1) := by decide +kernel
theorem dX9_radius_8 : decode cX9_radius 8 = .ok (.iload_n 1, 1) := by decide +kernel
theorem dX9_radius_9 : decode cX9_radius 9 = .ok (.iconst 0, 1) := by decide +kernel
theorem dX9_radius_10 : decode cX9_radius 10 = .ok (.invokevirtual 70, 3) := by decide +kernel
theorem dX9_radius_13 : decode cX9_radius 13 = .ok (.iload_n 1, 1) := by decide +kernel
theorem dX9_radius_14 : decode cX9_radius 14 = .ok (.invokevirtual 80, 3) := by decide +kernel
theorem dX9_radius_17 : decode cX9_radius 17 = .ok (.lconst 0, 1) := by decide +kernel
theorem dX9_radius_18 : decode cX9_radius 18 = .ok (.lcmp, 1) := by decide +kernel
theorem dX9_radius_19 : decode cX9_radius 19 = .ok (.ifCond .ne 5, 3) := by decide +kernel
theorem dX9_radius_22 : decode cX9_radius 22 = .ok (.iload_n 1, 1) := by decide +kernel
theorem dX9_radius_23 : decode cX9_radius 23 = .ok (.ireturn, 1) := by decide +kernel
theorem dX9_radius_24 : decode cX9_radius 24 = .ok (.iinc 1 1, 3) := by decide +kernel
theorem dX9_radius_27 : decode cX9_radius 27 = .ok (.goto (-25), 3) := by decide +kernel
theorem dX9_radius_30 : decode cX9_radius 30 = .ok (.iconst (-1), 1) := by decide +kernel
theorem dX9_radius_31 : decode cX9_radius 31 = .ok (.ireturn, 1) := by decide +kernel
theorem dX9_middle_0 : decode cX9_middle 0 = .ok (.iload_n 1, 1) := by decide +kernel
theorem dX9_middle_1 : decode cX9_middle 1 = .ok (.iconst 0, 1) := by decide +kernel
theorem dX9_middle_2 : decode cX9_middle 2 = .ok (.aload_n 0, 1) := by decide +kernel
theorem dX9_middle_3 : decode cX9_middle 3 = .ok (.getfield 24, 3) := by decide +kernel
theorem dX9_middle_6 : decode cX9_middle 6 = .ok (.getfield 53, 3) := by decide +kernel
theorem dX9_middle_9 : decode cX9_middle 9 = .ok (.iconst 1, 1) := by decide +kernel
theorem dX9_middle_10 : decode cX9_middle 10 = .ok (.isub, 1) := by decide +kernel
theorem dX9_middle_11 : decode cX9_middle 11 = .ok (.invokestatic 83, 3) := by decide +kernel
theorem dX9_middle_14 : decode cX9_middle 14 = .ok (.ifCond .ne 7, 3) := by decide +kernel
theorem dX9_middle_17 : decode cX9_middle 17 = .ok (.ldc2_w 68, 3) := by decide +kernel
theorem dX9_middle_20 : decode cX9_middle 20 = .ok (.lreturn, 1) := by decide +kernel
theorem dX9_middle_21 : decode cX9_middle 21 = .ok (.aload_n 0, 1) := by decide +kernel
theorem dX9_middle_22 : decode cX9_middle 22 = .ok (.iconst 3, 1) := by decide +kernel
theorem dX9_middle_23 : decode cX9_middle 23 = .ok (.iconst 0, 1) := by decide +kernel
theorem dX9_middle_24 : decode cX9_middle 24 = .ok (.invokevirtual 70, 3) := by decide +kernel
theorem dX9_middle_27 : decode cX9_middle 27 = .ok (.iload_n 1, 1) := by decide +kernel
theorem dX9_middle_28 : decode cX9_middle 28 = .ok (.invokevirtual 95, 3) := by decide +kernel
theorem dX9_middle_31 : decode cX9_middle 31 = .ok (.lreturn, 1) := by decide +kernel
theorem dX9_piece_0 : decode cX9_piece 0 = .ok (.iload_n 1, 1) := by decide +kernel
theorem dX9_piece_1 : decode cX9_piece 1 = .ok (.iconst 1, 1) := by decide +kernel
theorem dX9_piece_2 : decode cX9_piece 2 = .ok (.ldc 98, 2) := by decide +kernel
theorem dX9_piece_4 : decode cX9_piece 4 = .ok (.invokestatic 83, 3) := by decide +kernel
theorem dX9_piece_7 : decode cX9_piece 7 = .ok (.ifCond .ne 6, 3) := by decide +kernel
theorem dX9_piece_10 : decode cX9_piece 10 = .ok (.bipush (-2), 2) := by decide +kernel
theorem dX9_piece_12 : decode cX9_piece 12 = .ok (.ireturn, 1) := by decide +kernel
theorem dX9_piece_13 : decode cX9_piece 13 = .ok (.iload_n 1, 1) := by decide +kernel
theorem dX9_piece_14 : decode cX9_piece 14 = .ok (.invokestatic 99, 3) := by decide +kernel
theorem dX9_piece_17 : decode cX9_piece 17 = .ok (.iconst 5, 1) := by decide +kernel
theorem dX9_piece_18 : decode cX9_piece 18 = .ok (.if_icmp .gt 10, 3) := by decide +kernel
theorem dX9_piece_21 : decode cX9_piece 21 = .ok (.iload_n 1, 1) := by decide +kernel
theorem dX9_piece_22 : decode cX9_piece 22 = .ok (.invokestatic 104, 3) := by decide +kernel
theorem dX9_piece_25 : decode cX9_piece 25 = .ok (.ifCond .ne 6, 3) := by decide +kernel
theorem dX9_piece_28 : decode cX9_piece 28 = .ok (.bipush (-2), 2) := by decide +kernel
theorem dX9_piece_30 : decode cX9_piece 30 = .ok (.ireturn, 1) := by decide +kernel
theorem dX9_piece_31 : decode cX9_piece 31 = .ok (.aload_n 0, 1) := by decide +kernel
theorem dX9_piece_32 : decode cX9_piece 32 = .ok (.getfield 31, 3) := by decide +kernel
theorem dX9_piece_35 : decode cX9_piece 35 = .ok (.getfield 107, 3) := by decide +kernel
theorem dX9_piece_38 : decode cX9_piece 38 = .ok (.bipush 6, 2) := by decide +kernel
theorem dX9_piece_40 : decode cX9_piece 40 = .ok (.if_icmp .lt 8, 3) := by decide +kernel
theorem dX9_piece_43 : decode cX9_piece 43 = .ok (.bipush (-3), 2) := by decide +kernel
theorem dX9_piece_45 : decode cX9_piece 45 = .ok (.goto 11, 3) := by decide +kernel
theorem dX9_piece_48 : decode cX9_piece 48 = .ok (.aload_n 0, 1) := by decide +kernel
theorem dX9_piece_49 : decode cX9_piece 49 = .ok (.getfield 31, 3) := by decide +kernel
theorem dX9_piece_52 : decode cX9_piece 52 = .ok (.iload_n 1, 1) := by decide +kernel
theorem dX9_piece_53 : decode cX9_piece 53 = .ok (.invokevirtual 110, 3) := by decide +kernel
theorem dX9_piece_56 : decode cX9_piece 56 = .ok (.ireturn, 1) := by decide +kernel
theorem dX9_unpiece_0 : decode cX9_unpiece 0 = .ok (.aload_n 0, 1) := by decide +kernel
theorem dX9_unpiece_1 : decode cX9_unpiece 1 = .ok (.getfield 31, 3) := by decide +kernel
theorem dX9_unpiece_4 : decode cX9_unpiece 4 = .ok (.getfield 107, 3) := by decide +kernel
theorem dX9_unpiece_7 : decode cX9_unpiece 7 = .ok (.ifCond .ne 7, 3) := by decide +kernel
theorem dX9_unpiece_10 : decode cX9_unpiece 10 = .ok (.iconst (-1), 1) := by decide +kernel
theorem dX9_unpiece_11 : decode cX9_unpiece 11 = .ok (.goto 10, 3) := by decide +kernel
theorem dX9_unpiece_14 : decode cX9_unpiece 14 = .ok (.aload_n 0, 1) := by decide +kernel
theorem dX9_unpiece_15 : decode cX9_unpiece 15 = .ok (.getfield 31, 3) := by decide +kernel
theorem dX9_unpiece_18 : decode cX9_unpiece 18 = .ok (.invokevirtual 112, 3) := by decide +kernel
theorem dX9_unpiece_21 : decode cX9_unpiece 21 = .ok (.ireturn, 1) := by decide +kernel
theorem dX9_board_0 : decode cX9_board 0 = .ok (.iload_n 1, 1) := by decide +kernel
theorem dX9_board_1 : decode cX9_board 1 = .ok (.iconst 1, 1) := by decide +kernel
theorem dX9_board_2 : decode cX9_board 2 = .ok (.iconst 5, 1) := by decide +kernel
theorem dX9_board_3 : decode cX9_board 3 = .ok (.invokestatic 83, 3) := by decide +kernel
theorem dX9_board_6 : decode cX9_board 6 = .ok (.ifCond .eq 12, 3) := by decide +kernel
theorem dX9_board_9 : decode cX9_board 9 = .ok (.iload_n 2, 1) := by decide +kernel
theorem dX9_board_10 : decode cX9_board 10 = .ok (.iconst 1, 1) := by decide +kernel
theorem dX9_board_11 : decode cX9_board 11 = .ok (.iconst 4, 1) := by decide +kernel
theorem dX9_board_12 : decode cX9_board 12 = .ok (.invokestatic 83, 3) := by decide +kernel
theorem dX9_board_15 : decode cX9_board 15 = .ok (.ifCond .ne 6, 3) := by decide +kernel
theorem dX9_board_18 : decode cX9_board 18 = .ok (.bipush (-2), 2) := by decide +kernel
theorem dX9_board_20 : decode cX9_board 20 = .ok (.ireturn, 1) := by decide +kernel
theorem dX9_board_21 : decode cX9_board 21 = .ok (.iload_n 3, 1) := by decide +kernel
theorem dX9_board_22 : decode cX9_board 22 = .ok (.iconst 0, 1) := by decide +kernel
theorem dX9_board_23 : decode cX9_board 23 = .ok (.iconst 1, 1) := by decide +kernel
theorem dX9_board_24 : decode cX9_board 24 = .ok (.iload_n 1, 1) := by decide +kernel
theorem dX9_board_25 : decode cX9_board 25 = .ok (.iload_n 2, 1) := by decide +kernel
theorem dX9_board_26 : decode cX9_board 26 = .ok (.imul, 1) := by decide +kernel
theorem dX9_board_27 : decode cX9_board 27 = .ok (.ishl, 1) := by decide +kernel
theorem dX9_board_28 : decode cX9_board 28 = .ok (.iconst 1, 1) := by decide +kernel
theorem dX9_board_29 : decode cX9_board 29 = .ok (.isub, 1) := by decide +kernel
theorem dX9_board_30 : decode cX9_board 30 = .ok (.invokestatic 83, 3) := by decide +kernel
theorem dX9_board_33 : decode cX9_board 33 = .ok (.ifCond .ne 6, 3) := by decide +kernel
theorem dX9_board_36 : decode cX9_board 36 = .ok (.bipush (-2), 2) := by decide +kernel
theorem dX9_board_38 : decode cX9_board 38 = .ok (.ireturn, 1) := by decide +kernel
theorem dX9_board_39 : decode cX9_board 39 = .ok (.aload_n 0, 1) := by decide +kernel
theorem dX9_board_40 : decode cX9_board 40 = .ok (.getfield 31, 3) := by decide +kernel
theorem dX9_board_43 : decode cX9_board 43 = .ok (.iload_n 1, 1) := by decide +kernel
theorem dX9_board_44 : decode cX9_board 44 = .ok (.iload_n 2, 1) := by decide +kernel
theorem dX9_board_45 : decode cX9_board 45 = .ok (.iload_n 3, 1) := by decide +kernel
theorem dX9_board_46 : decode cX9_board 46 = .ok (.invokevirtual 113, 3) := by decide +kernel
theorem dX9_board_49 : decode cX9_board 49 = .ok (.iload_n 1, 1) := by decide +kernel
theorem dX9_board_50 : decode cX9_board 50 = .ok (.iload_n 2, 1) := by decide +kernel
theorem dX9_board_51 : decode cX9_board 51 = .ok (.imul, 1) := by decide +kernel
theorem dX9_board_52 : decode cX9_board 52 = .ok (.iload_n 3, 1) := by decide +kernel
theorem dX9_board_53 : decode cX9_board 53 = .ok (.invokestatic 99, 3) := by decide +kernel
theorem dX9_board_56 : decode cX9_board 56 = .ok (.isub, 1) := by decide +kernel
theorem dX9_board_57 : decode cX9_board 57 = .ok (.ireturn, 1) := by decide +kernel
theorem dX9_may_0 : decode cX9_may 0 = .ok (.iload_n 1, 1) := by decide +kernel
theorem dX9_may_1 : decode cX9_may 1 = .ok (.iconst 0, 1) := by decide +kernel
theorem dX9_may_2 : decode cX9_may 2 = .ok (.iconst 1, 1) := by decide +kernel
theorem dX9_may_3 : decode cX9_may 3 = .ok (.invokestatic 83, 3) := by decide +kernel
theorem dX9_may_6 : decode cX9_may 6 = .ok (.ifCond .ne 6, 3) := by decide +kernel
theorem dX9_may_9 : decode cX9_may 9 = .ok (.bipush (-2), 2) := by decide +kernel
theorem dX9_may_11 : decode cX9_may 11 = .ok (.ireturn, 1) := by decide +kernel
theorem dX9_may_12 : decode cX9_may 12 = .ok (.iload_n 1, 1) := by decide +kernel
theorem dX9_may_13 : decode cX9_may 13 = .ok (.ifCond .ne 14, 3) := by decide +kernel
theorem dX9_may_16 : decode cX9_may 16 = .ok (.aload_n 0, 1) := by decide +kernel
theorem dX9_may_17 : decode cX9_may 17 = .ok (.getfield 31, 3) := by decide +kernel
theorem dX9_may_20 : decode cX9_may 20 = .ok (.iload_n 2, 1) := by decide +kernel
theorem dX9_may_21 : decode cX9_may 21 = .ok (.invokevirtual 117, 3) := by decide +kernel
theorem dX9_may_24 : decode cX9_may 24 = .ok (.goto 11, 3) := by decide +kernel
theorem dX9_may_27 : decode cX9_may 27 = .ok (.aload_n 0, 1) := by decide +kernel
theorem dX9_may_28 : decode cX9_may 28 = .ok (.getfield 31, 3) := by decide +kernel
theorem dX9_may_31 : decode cX9_may 31 = .ok (.iload_n 2, 1) := by decide +kernel
theorem dX9_may_32 : decode cX9_may 32 = .ok (.invokevirtual 121, 3) := by decide +kernel
theorem dX9_may_35 : decode cX9_may 35 = .ok (.istore_n 3, 1) := by decide +kernel
theorem dX9_may_36 : decode cX9_may 36 = .ok (.iload_n 3, 1) := by decide +kernel
theorem dX9_may_37 : decode cX9_may 37 = .ok (.ifCond .eq 7, 3) := by decide +kernel
theorem dX9_may_40 : decode cX9_may 40 = .ok (.iconst 1, 1) := by decide +kernel
theorem dX9_may_41 : decode cX9_may 41 = .ok (.goto 4, 3) := by decide +kernel
theorem dX9_may_44 : decode cX9_may 44 = .ok (.iconst 0, 1) := by decide +kernel
theorem dX9_may_45 : decode cX9_may 45 = .ok (.ireturn, 1) := by decide +kernel
theorem dX9_placements_0 : decode cX9_placements 0 = .ok (.iload_n 1, 1) := by decide +kernel
theorem dX9_placements_1 : decode cX9_placements 1 = .ok (.iconst 0, 1) := by decide +kernel
theorem dX9_placements_2 : decode cX9_placements 2 = .ok (.aload_n 0, 1) := by decide +kernel
theorem dX9_placements_3 : decode cX9_placements 3 = .ok (.getfield 31, 3) := by decide +kernel
theorem dX9_placements_6 : decode cX9_placements 6 = .ok (.getfield 107, 3) := by decide +kernel
theorem dX9_placements_9 : decode cX9_placements 9 = .ok (.iconst 1, 1) := by decide +kernel
theorem dX9_placements_10 : decode cX9_placements 10 = .ok (.isub, 1) := by decide +kernel
theorem dX9_placements_11 : decode cX9_placements 11 = .ok (.invokestatic 83, 3) := by decide +kernel
theorem dX9_placements_14 : decode cX9_placements 14 = .ok (.ifCond .eq 14, 3) := by decide +kernel
theorem dX9_placements_17 : decode cX9_placements 17 = .ok (.aload_n 0, 1) := by decide +kernel
theorem dX9_placements_18 : decode cX9_placements 18 = .ok (.getfield 31, 3) := by decide +kernel
theorem dX9_placements_21 : decode cX9_placements 21 = .ok (.iload_n 1, 1) := by decide +kernel
theorem dX9_placements_22 : decode cX9_placements 22 = .ok (.invokevirtual 124, 3) := by decide +kernel
theorem dX9_placements_25 : decode cX9_placements 25 = .ok (.goto 5, 3) := by decide +kernel
theorem dX9_placements_28 : decode cX9_placements 28 = .ok (.bipush (-2), 2) := by decide +kernel
theorem dX9_placements_30 : decode cX9_placements 30 = .ok (.ireturn, 1) := by decide +kernel
theorem dX9_covers_0 : decode cX9_covers 0 = .ok (.iload_n 1, 1) := by decide +kernel
theorem dX9_covers_1 : decode cX9_covers 1 = .ok (.invokestatic 127, 3) := by decide +kernel
theorem dX9_covers_4 : decode cX9_covers 4 = .ok (.ifCond .eq 14, 3) := by decide +kernel
theorem dX9_covers_7 : decode cX9_covers 7 = .ok (.aload_n 0, 1) := by decide +kernel
theorem dX9_covers_8 : decode cX9_covers 8 = .ok (.iload_n 1, 1) := by decide +kernel
theorem dX9_covers_9 : decode cX9_covers 9 = .ok (.invokevirtual 130, 3) := by decide +kernel
theorem dX9_covers_12 : decode cX9_covers 12 = .ok (.invokevirtual 134, 3) := by decide +kernel
theorem dX9_covers_15 : decode cX9_covers 15 = .ok (.goto 6, 3) := by decide +kernel
theorem dX9_covers_18 : decode cX9_covers 18 = .ok (.ldc2_w 68, 3) := by decide +kernel
theorem dX9_covers_21 : decode cX9_covers 21 = .ok (.lreturn, 1) := by decide +kernel
theorem dX9_cover_0 : decode cX9_cover 0 = .ok (.iload_n 1, 1) := by decide +kernel
theorem dX9_cover_1 : decode cX9_cover 1 = .ok (.invokestatic 127, 3) := by decide +kernel
theorem dX9_cover_4 : decode cX9_cover 4 = .ok (.ifCond .eq 13, 3) := by decide +kernel
theorem dX9_cover_7 : decode cX9_cover 7 = .ok (.iload 4, 2) := by decide +kernel
theorem dX9_cover_9 : decode cX9_cover 9 = .ok (.iconst 0, 1) := by decide +kernel
theorem dX9_cover_10 : decode cX9_cover 10 = .ok (.iconst 1, 1) := by decide +kernel
theorem dX9_cover_11 : decode cX9_cover 11 = .ok (.invokestatic 83, 3) := by decide +kernel
theorem dX9_cover_14 : decode cX9_cover 14 = .ok (.ifCond .ne 6, 3) := by decide +kernel
theorem dX9_cover_17 : decode cX9_cover 17 = .ok (.bipush (-2), 2) := by decide +kernel
theorem dX9_cover_19 : decode cX9_cover 19 = .ok (.ireturn, 1) := by decide +kernel
theorem dX9_cover_20 : decode cX9_cover 20 = .ok (.iload_n 2, 1) := by decide +kernel
theorem dX9_cover_21 : decode cX9_cover 21 = .ok (.iconst 0, 1) := by decide +kernel
theorem dX9_cover_22 : decode cX9_cover 22 = .ok (.aload_n 0, 1) := by decide +kernel
theorem dX9_cover_23 : decode cX9_cover 23 = .ok (.getfield 31, 3) := by decide +kernel
theorem dX9_cover_26 : decode cX9_cover 26 = .ok (.getfield 140, 3) := by decide +kernel
theorem dX9_cover_29 : decode cX9_cover 29 = .ok (.iconst 1, 1) := by decide +kernel
theorem dX9_cover_30 : decode cX9_cover 30 = .ok (.isub, 1) := by decide +kernel
theorem dX9_cover_31 : decode cX9_cover 31 = .ok (.invokestatic 83, 3) := by decide +kernel
theorem dX9_cover_34 : decode cX9_cover 34 = .ok (.ifCond .eq 20, 3) := by decide +kernel
theorem dX9_cover_37 : decode cX9_cover 37 = .ok (.iload_n 3, 1) := by decide +kernel
theorem dX9_cover_38 : decode cX9_cover 38 = .ok (.iconst 0, 1) := by decide +kernel
theorem dX9_cover_39 : decode cX9_cover 39 = .ok (.aload_n 0, 1) := by decide +kernel
theorem dX9_cover_40 : decode cX9_cover 40 = .ok (.getfield 31, 3) := by decide +kernel
theorem dX9_cover_43 : decode cX9_cover 43 = .ok (.getfield 143, 3) := by decide +kernel
theorem dX9_cover_46 : decode cX9_cover 46 = .ok (.iconst 1, 1) := by decide +kernel
theorem dX9_cover_47 : decode cX9_cover 47 = .ok (.isub, 1) := by decide +kernel
theorem dX9_cover_48 : decode cX9_cover 48 = .ok (.invokestatic 83, 3) := by decide +kernel
theorem dX9_cover_51 : decode cX9_cover 51 = .ok (.ifCond .ne 6, 3) := by decide +kernel
theorem dX9_cover_54 : decode cX9_cover 54 = .ok (.bipush (-2), 2) := by decide +kernel
theorem dX9_cover_56 : decode cX9_cover 56 = .ok (.ireturn, 1) := by decide +kernel
theorem dX9_cover_57 : decode cX9_cover 57 = .ok (.aload_n 0, 1) := by decide +kernel
theorem dX9_cover_58 : decode cX9_cover 58 = .ok (.iload_n 1, 1) := by decide +kernel
theorem dX9_cover_59 : decode cX9_cover 59 = .ok (.invokevirtual 130, 3) := by decide +kernel
theorem dX9_cover_62 : decode cX9_cover 62 = .ok (.astore 5, 2) := by decide +kernel
theorem dX9_cover_64 : decode cX9_cover 64 = .ok (.aload 5, 2) := by decide +kernel
theorem dX9_cover_66 : decode cX9_cover 66 = .ok (.aload_n 0, 1) := by decide +kernel
theorem dX9_cover_67 : decode cX9_cover 67 = .ok (.getfield 31, 3) := by decide +kernel
theorem dX9_cover_70 : decode cX9_cover 70 = .ok (.getfield 140, 3) := by decide +kernel
theorem dX9_cover_73 : decode cX9_cover 73 = .ok (.iload_n 3, 1) := by decide +kernel
theorem dX9_cover_74 : decode cX9_cover 74 = .ok (.imul, 1) := by decide +kernel
theorem dX9_cover_75 : decode cX9_cover 75 = .ok (.iload_n 2, 1) := by decide +kernel
theorem dX9_cover_76 : decode cX9_cover 76 = .ok (.iadd, 1) := by decide +kernel
theorem dX9_cover_77 : decode cX9_cover 77 = .ok (.invokevirtual 146, 3) := by decide +kernel
theorem dX9_cover_80 : decode cX9_cover 80 = .ok (.ifCond .ne 5, 3) := by decide +kernel
theorem dX9_cover_83 : decode cX9_cover 83 = .ok (.iconst (-1), 1) := by decide +kernel
theorem dX9_cover_84 : decode cX9_cover 84 = .ok (.ireturn, 1) := by decide +kernel
theorem dX9_cover_85 : decode cX9_cover 85 = .ok (.iload 4, 2) := by decide +kernel
theorem dX9_cover_87 : decode cX9_cover 87 = .ok (.ifCond .ne 11, 3) := by decide +kernel
theorem dX9_cover_90 : decode cX9_cover 90 = .ok (.aload 5, 2) := by decide +kernel
theorem dX9_cover_92 : decode cX9_cover 92 = .ok (.getfield 149, 3) := by decide +kernel
theorem dX9_cover_95 : decode cX9_cover 95 = .ok (.goto 8, 3) := by decide +kernel
theorem dX9_cover_98 : decode cX9_cover 98 = .ok (.aload 5, 2) := by decide +kernel
theorem dX9_cover_100 : decode cX9_cover 100 = .ok (.getfield 152, 3) := by decide +kernel
theorem dX9_cover_103 : decode cX9_cover 103 = .ok (.ireturn, 1) := by decide +kernel
theorem dX9_fewest_0 : decode cX9_fewest 0 = .ok (.iload_n 1, 1) := by decide +kernel
theorem dX9_fewest_1 : decode cX9_fewest 1 = .ok (.invokestatic 127, 3) := by decide +kernel
theorem dX9_fewest_4 : decode cX9_fewest 4 = .ok (.ifCond .eq 14, 3) := by decide +kernel
theorem dX9_fewest_7 : decode cX9_fewest 7 = .ok (.aload_n 0, 1) := by decide +kernel
theorem dX9_fewest_8 : decode cX9_fewest 8 = .ok (.iload_n 1, 1) := by decide +kernel
theorem dX9_fewest_9 : decode cX9_fewest 9 = .ok (.invokevirtual 130, 3) := by decide +kernel
theorem dX9_fewest_12 : decode cX9_fewest 12 = .ok (.invokevirtual 155, 3) := by decide +kernel
theorem dX9_fewest_15 : decode cX9_fewest 15 = .ok (.goto 5, 3) := by decide +kernel
theorem dX9_fewest_18 : decode cX9_fewest 18 = .ok (.bipush (-2), 2) := by decide +kernel
theorem dX9_fewest_20 : decode cX9_fewest 20 = .ok (.ireturn, 1) := by decide +kernel
theorem dX9_letters_0 : decode cX9_letters 0 = .ok (.iload_n 1, 1) := by decide +kernel
theorem dX9_letters_1 : decode cX9_letters 1 = .ok (.iconst 1, 1) := by decide +kernel
theorem dX9_letters_2 : decode cX9_letters 2 = .ok (.bipush 6, 2) := by decide +kernel
theorem dX9_letters_4 : decode cX9_letters 4 = .ok (.invokestatic 83, 3) := by decide +kernel
theorem dX9_letters_7 : decode cX9_letters 7 = .ok (.ifCond .eq 12, 3) := by decide +kernel
theorem dX9_letters_10 : decode cX9_letters 10 = .ok (.iload_n 2, 1) := by decide +kernel
theorem dX9_letters_11 : decode cX9_letters 11 = .ok (.iconst 2, 1) := by decide +kernel
theorem dX9_letters_12 : decode cX9_letters 12 = .ok (.iconst 3, 1) := by decide +kernel
theorem dX9_letters_13 : decode cX9_letters 13 = .ok (.invokestatic 83, 3) := by decide +kernel
theorem dX9_letters_16 : decode cX9_letters 16 = .ok (.ifCond .ne 6, 3) := by decide +kernel
theorem dX9_letters_19 : decode cX9_letters 19 = .ok (.bipush (-2), 2) := by decide +kernel
theorem dX9_letters_21 : decode cX9_letters 21 = .ok (.ireturn, 1) := by decide +kernel
theorem dX9_letters_22 : decode cX9_letters 22 = .ok (.aload_n 0, 1) := by decide +kernel
theorem dX9_letters_23 : decode cX9_letters 23 = .ok (.getfield 38, 3) := by decide +kernel
theorem dX9_letters_26 : decode cX9_letters 26 = .ok (.getfield 158, 3) := by decide +kernel
theorem dX9_letters_29 : decode cX9_letters 29 = .ok (.istore_n 3, 1) := by decide +kernel
theorem dX9_letters_30 : decode cX9_letters 30 = .ok (.aload_n 0, 1) := by decide +kernel
theorem dX9_letters_31 : decode cX9_letters 31 = .ok (.getfield 38, 3) := by decide +kernel
theorem dX9_letters_34 : decode cX9_letters 34 = .ok (.iload_n 1, 1) := by decide +kernel
theorem dX9_letters_35 : decode cX9_letters 35 = .ok (.iload_n 2, 1) := by decide +kernel
theorem dX9_letters_36 : decode cX9_letters 36 = .ok (.invokevirtual 161, 3) := by decide +kernel
theorem dX9_letters_39 : decode cX9_letters 39 = .ok (.iload_n 3, 1) := by decide +kernel
theorem dX9_letters_40 : decode cX9_letters 40 = .ok (.ireturn, 1) := by decide +kernel
theorem dX9_block_0 : decode cX9_block 0 = .ok (.aload_n 0, 1) := by decide +kernel
theorem dX9_block_1 : decode cX9_block 1 = .ok (.iload_n 1, 1) := by decide +kernel
theorem dX9_block_2 : decode cX9_block 2 = .ok (.invokevirtual 165, 3) := by decide +kernel
theorem dX9_block_5 : decode cX9_block 5 = .ok (.ifCond .eq 12, 3) := by decide +kernel
theorem dX9_block_8 : decode cX9_block 8 = .ok (.aload_n 0, 1) := by decide +kernel
theorem dX9_block_9 : decode cX9_block 9 = .ok (.iload 4, 2) := by decide +kernel
theorem dX9_block_11 : decode cX9_block 11 = .ok (.invokevirtual 165, 3) := by decide +kernel
theorem dX9_block_14 : decode cX9_block 14 = .ok (.ifCond .ne 6, 3) := by decide +kernel
theorem dX9_block_17 : decode cX9_block 17 = .ok (.bipush (-2), 2) := by decide +kernel
theorem dX9_block_19 : decode cX9_block 19 = .ok (.ireturn, 1) := by decide +kernel
theorem dX9_block_20 : decode cX9_block 20 = .ok (.iload_n 2, 1) := by decide +kernel
theorem dX9_block_21 : decode cX9_block 21 = .ok (.iconst 0, 1) := by decide +kernel
theorem dX9_block_22 : decode cX9_block 22 = .ok (.aload_n 0, 1) := by decide +kernel
theorem dX9_block_23 : decode cX9_block 23 = .ok (.getfield 38, 3) := by decide +kernel
theorem dX9_block_26 : decode cX9_block 26 = .ok (.getfield 168, 3) := by decide +kernel
theorem dX9_block_29 : decode cX9_block 29 = .ok (.iconst 1, 1) := by decide +kernel
theorem dX9_block_30 : decode cX9_block 30 = .ok (.isub, 1) := by decide +kernel
theorem dX9_block_31 : decode cX9_block 31 = .ok (.invokestatic 83, 3) := by decide +kernel
theorem dX9_block_34 : decode cX9_block 34 = .ok (.ifCond .eq 20, 3) := by decide +kernel
theorem dX9_block_37 : decode cX9_block 37 = .ok (.iload_n 3, 1) := by decide +kernel
theorem dX9_block_38 : decode cX9_block 38 = .ok (.iconst 0, 1) := by decide +kernel
theorem dX9_block_39 : decode cX9_block 39 = .ok (.aload_n 0, 1) := by decide +kernel
theorem dX9_block_40 : decode cX9_block 40 = .ok (.getfield 38, 3) := by decide +kernel
theorem dX9_block_43 : decode cX9_block 43 = .ok (.getfield 168, 3) := by decide +kernel
theorem dX9_block_46 : decode cX9_block 46 = .ok (.iconst 1, 1) := by decide +kernel
theorem dX9_block_47 : decode cX9_block 47 = .ok (.isub, 1) := by decide +kernel
theorem dX9_block_48 : decode cX9_block 48 = .ok (.invokestatic 83, 3) := by decide +kernel
theorem dX9_block_51 : decode cX9_block 51 = .ok (.ifCond .ne 6, 3) := by decide +kernel
theorem dX9_block_54 : decode cX9_block 54 = .ok (.bipush (-2), 2) := by decide +kernel
theorem dX9_block_56 : decode cX9_block 56 = .ok (.ireturn, 1) := by decide +kernel
theorem dX9_block_57 : decode cX9_block 57 = .ok (.aload_n 0, 1) := by decide +kernel
theorem dX9_block_58 : decode cX9_block 58 = .ok (.getfield 38, 3) := by decide +kernel
theorem dX9_block_61 : decode cX9_block 61 = .ok (.iload_n 1, 1) := by decide +kernel
theorem dX9_block_62 : decode cX9_block 62 = .ok (.iload_n 2, 1) := by decide +kernel
theorem dX9_block_63 : decode cX9_block 63 = .ok (.iload_n 3, 1) := by decide +kernel
theorem dX9_block_64 : decode cX9_block 64 = .ok (.iload 4, 2) := by decide +kernel
theorem dX9_block_66 : decode cX9_block 66 = .ok (.invokevirtual 171, 3) := by decide +kernel
theorem dX9_block_69 : decode cX9_block 69 = .ok (.ireturn, 1) := by decide +kernel
theorem dX9_letter_0 : decode cX9_letter 0 = .ok (.aload_n 0, 1) := by decide +kernel
theorem dX9_letter_1 : decode cX9_letter 1 = .ok (.iload_n 1, 1) := by decide +kernel
theorem dX9_letter_2 : decode cX9_letter 2 = .ok (.invokevirtual 165, 3) := by decide +kernel
theorem dX9_letter_5 : decode cX9_letter 5 = .ok (.ifCond .eq 13, 3) := by decide +kernel
theorem dX9_letter_8 : decode cX9_letter 8 = .ok (.iload_n 2, 1) := by decide +kernel
theorem dX9_letter_9 : decode cX9_letter 9 = .ok (.iconst 0, 1) := by decide +kernel
theorem dX9_letter_10 : decode cX9_letter 10 = .ok (.bipush 12, 2) := by decide +kernel
theorem dX9_letter_12 : decode cX9_letter 12 = .ok (.invokestatic 83, 3) := by decide +kernel
theorem dX9_letter_15 : decode cX9_letter 15 = .ok (.ifCond .ne 6, 3) := by decide +kernel
theorem dX9_letter_18 : decode cX9_letter 18 = .ok (.bipush (-2), 2) := by decide +kernel
theorem dX9_letter_20 : decode cX9_letter 20 = .ok (.ireturn, 1) := by decide +kernel
theorem dX9_letter_21 : decode cX9_letter 21 = .ok (.aload_n 0, 1) := by decide +kernel
theorem dX9_letter_22 : decode cX9_letter 22 = .ok (.getfield 38, 3) := by decide +kernel
theorem dX9_letter_25 : decode cX9_letter 25 = .ok (.getfield 168, 3) := by decide +kernel
theorem dX9_letter_28 : decode cX9_letter 28 = .ok (.iload_n 2, 1) := by decide +kernel
theorem dX9_letter_29 : decode cX9_letter 29 = .ok (.invokestatic 174, 3) := by decide +kernel
theorem dX9_letter_32 : decode cX9_letter 32 = .ok (.iconst 1, 1) := by decide +kernel
theorem dX9_letter_33 : decode cX9_letter 33 = .ok (.isub, 1) := by decide +kernel
theorem dX9_letter_34 : decode cX9_letter 34 = .ok (.istore 5, 2) := by decide +kernel
theorem dX9_letter_36 : decode cX9_letter 36 = .ok (.iload_n 3, 1) := by decide +kernel
theorem dX9_letter_37 : decode cX9_letter 37 = .ok (.iconst 0, 1) := by decide +kernel
theorem dX9_letter_38 : decode cX9_letter 38 = .ok (.iload 5, 2) := by decide +kernel
theorem dX9_letter_40 : decode cX9_letter 40 = .ok (.invokestatic 83, 3) := by decide +kernel
theorem dX9_letter_43 : decode cX9_letter 43 = .ok (.ifCond .eq 14, 3) := by decide +kernel
theorem dX9_letter_46 : decode cX9_letter 46 = .ok (.iload 4, 2) := by decide +kernel
theorem dX9_letter_48 : decode cX9_letter 48 = .ok (.iconst 0, 1) := by decide +kernel
theorem dX9_letter_49 : decode cX9_letter 49 = .ok (.iload 5, 2) := by decide +kernel
theorem dX9_letter_51 : decode cX9_letter 51 = .ok (.invokestatic 83, 3) := by decide +kernel
theorem dX9_letter_54 : decode cX9_letter 54 = .ok (.ifCond .ne 6, 3) := by decide +kernel
theorem dX9_letter_57 : decode cX9_letter 57 = .ok (.bipush (-2), 2) := by decide +kernel
theorem dX9_letter_59 : decode cX9_letter 59 = .ok (.ireturn, 1) := by decide +kernel
theorem dX9_letter_60 : decode cX9_letter 60 = .ok (.aload_n 0, 1) := by decide +kernel
theorem dX9_letter_61 : decode cX9_letter 61 = .ok (.getfield 38, 3) := by decide +kernel
theorem dX9_letter_64 : decode cX9_letter 64 = .ok (.iload_n 1, 1) := by decide +kernel
theorem dX9_letter_65 : decode cX9_letter 65 = .ok (.iload_n 2, 1) := by decide +kernel
theorem dX9_letter_66 : decode cX9_letter 66 = .ok (.iload_n 3, 1) := by decide +kernel
theorem dX9_letter_67 : decode cX9_letter 67 = .ok (.iload 4, 2) := by decide +kernel
theorem dX9_letter_69 : decode cX9_letter 69 = .ok (.invokevirtual 178, 3) := by decide +kernel
theorem dX9_letter_72 : decode cX9_letter 72 = .ok (.ireturn, 1) := by decide +kernel
theorem dX9_many_0 : decode cX9_many 0 = .ok (.aload_n 0, 1) := by decide +kernel
theorem dX9_many_1 : decode cX9_many 1 = .ok (.iload_n 1, 1) := by decide +kernel
theorem dX9_many_2 : decode cX9_many 2 = .ok (.invokevirtual 165, 3) := by decide +kernel
theorem dX9_many_5 : decode cX9_many 5 = .ok (.ifCond .eq 21, 3) := by decide +kernel
theorem dX9_many_8 : decode cX9_many 8 = .ok (.aload_n 0, 1) := by decide +kernel
theorem dX9_many_9 : decode cX9_many 9 = .ok (.iload_n 3, 1) := by decide +kernel
theorem dX9_many_10 : decode cX9_many 10 = .ok (.invokevirtual 165, 3) := by decide +kernel
theorem dX9_many_13 : decode cX9_many 13 = .ok (.ifCond .eq 13, 3) := by decide +kernel
theorem dX9_many_16 : decode cX9_many 16 = .ok (.iload_n 2, 1) := by decide +kernel
theorem dX9_many_17 : decode cX9_many 17 = .ok (.iconst 0, 1) := by decide +kernel
theorem dX9_many_18 : decode cX9_many 18 = .ok (.bipush 18, 2) := by decide +kernel
theorem dX9_many_20 : decode cX9_many 20 = .ok (.invokestatic 83, 3) := by decide +kernel
theorem dX9_many_23 : decode cX9_many 23 = .ok (.ifCond .ne 7, 3) := by decide +kernel
theorem dX9_many_26 : decode cX9_many 26 = .ok (.ldc2_w 68, 3) := by decide +kernel
theorem dX9_many_29 : decode cX9_many 29 = .ok (.lreturn, 1) := by decide +kernel
theorem dX9_many_30 : decode cX9_many 30 = .ok (.aload_n 0, 1) := by decide +kernel
theorem dX9_many_31 : decode cX9_many 31 = .ok (.getfield 38, 3) := by decide +kernel
theorem dX9_many_34 : decode cX9_many 34 = .ok (.iload_n 1, 1) := by decide +kernel
theorem dX9_many_35 : decode cX9_many 35 = .ok (.iload_n 2, 1) := by decide +kernel
theorem dX9_many_36 : decode cX9_many 36 = .ok (.iload_n 3, 1) := by decide +kernel
theorem dX9_many_37 : decode cX9_many 37 = .ok (.invokevirtual 181, 3) := by decide +kernel
theorem dX9_many_40 : decode cX9_many 40 = .ok (.lreturn, 1) := by decide +kernel
theorem dX9_beside_0 : decode cX9_beside 0 = .ok (.aload_n 0, 1) := by decide +kernel
theorem dX9_beside_1 : decode cX9_beside 1 = .ok (.iload_n 1, 1) := by decide +kernel
theorem dX9_beside_2 : decode cX9_beside 2 = .ok (.invokevirtual 165, 3) := by decide +kernel
theorem dX9_beside_5 : decode cX9_beside 5 = .ok (.ifCond .eq 29, 3) := by decide +kernel
theorem dX9_beside_8 : decode cX9_beside 8 = .ok (.aload_n 0, 1) := by decide +kernel
theorem dX9_beside_9 : decode cX9_beside 9 = .ok (.iload_n 2, 1) := by decide +kernel
theorem dX9_beside_10 : decode cX9_beside 10 = .ok (.invokevirtual 165, 3) := by decide +kernel
theorem dX9_beside_13 : decode cX9_beside 13 = .ok (.ifCond .eq 21, 3) := by decide +kernel
theorem dX9_beside_16 : decode cX9_beside 16 = .ok (.aload_n 0, 1) := by decide +kernel
theorem dX9_beside_17 : decode cX9_beside 17 = .ok (.iload_n 3, 1) := by decide +kernel
theorem dX9_beside_18 : decode cX9_beside 18 = .ok (.invokevirtual 165, 3) := by decide +kernel
theorem dX9_beside_21 : decode cX9_beside 21 = .ok (.ifCond .eq 13, 3) := by decide +kernel
theorem dX9_beside_24 : decode cX9_beside 24 = .ok (.iload 4, 2) := by decide +kernel
theorem dX9_beside_26 : decode cX9_beside 26 = .ok (.iconst 0, 1) := by decide +kernel
theorem dX9_beside_27 : decode cX9_beside 27 = .ok (.iconst 1, 1) := by decide +kernel
theorem dX9_beside_28 : decode cX9_beside 28 = .ok (.invokestatic 83, 3) := by decide +kernel
theorem dX9_beside_31 : decode cX9_beside 31 = .ok (.ifCond .ne 6, 3) := by decide +kernel
theorem dX9_beside_34 : decode cX9_beside 34 = .ok (.bipush (-2), 2) := by decide +kernel
theorem dX9_beside_36 : decode cX9_beside 36 = .ok (.ireturn, 1) := by decide +kernel
theorem dX9_beside_37 : decode cX9_beside 37 = .ok (.aload_n 0, 1) := by decide +kernel
theorem dX9_beside_38 : decode cX9_beside 38 = .ok (.iload_n 1, 1) := by decide +kernel
theorem dX9_beside_39 : decode cX9_beside 39 = .ok (.invokevirtual 185, 3) := by decide +kernel
theorem dX9_beside_42 : decode cX9_beside 42 = .ok (.iload_n 2, 1) := by decide +kernel
theorem dX9_beside_43 : decode cX9_beside 43 = .ok (.iload_n 3, 1) := by decide +kernel
theorem dX9_beside_44 : decode cX9_beside 44 = .ok (.iload 4, 2) := by decide +kernel
theorem dX9_beside_46 : decode cX9_beside 46 = .ok (.invokevirtual 189, 3) := by decide +kernel
theorem dX9_beside_49 : decode cX9_beside 49 = .ok (.ireturn, 1) := by decide +kernel
theorem dX9_mixes_0 : decode cX9_mixes 0 = .ok (.aload_n 0, 1) := by decide +kernel
theorem dX9_mixes_1 : decode cX9_mixes 1 = .ok (.getfield 38, 3) := by decide +kernel
theorem dX9_mixes_4 : decode cX9_mixes 4 = .ok (.invokevirtual 194, 3) := by decide +kernel
theorem dX9_mixes_7 : decode cX9_mixes 7 = .ok (.ireturn, 1) := by decide +kernel
theorem dX9_squares_0 : decode cX9_squares 0 = .ok (.aload_n 0, 1) := by decide +kernel
theorem dX9_squares_1 : decode cX9_squares 1 = .ok (.iload_n 1, 1) := by decide +kernel
theorem dX9_squares_2 : decode cX9_squares 2 = .ok (.invokevirtual 165, 3) := by decide +kernel
theorem dX9_squares_5 : decode cX9_squares 5 = .ok (.ifCond .eq 12, 3) := by decide +kernel
theorem dX9_squares_8 : decode cX9_squares 8 = .ok (.iload_n 2, 1) := by decide +kernel
theorem dX9_squares_9 : decode cX9_squares 9 = .ok (.iconst 0, 1) := by decide +kernel
theorem dX9_squares_10 : decode cX9_squares 10 = .ok (.iconst 5, 1) := by decide +kernel
theorem dX9_squares_11 : decode cX9_squares 11 = .ok (.invokestatic 83, 3) := by decide +kernel
theorem dX9_squares_14 : decode cX9_squares 14 = .ok (.ifCond .ne 6, 3) := by decide +kernel
theorem dX9_squares_17 : decode cX9_squares 17 = .ok (.bipush (-2), 2) := by decide +kernel
theorem dX9_squares_19 : decode cX9_squares 19 = .ok (.ireturn, 1) := by decide +kernel
theorem dX9_squares_20 : decode cX9_squares 20 = .ok (.aload_n 0, 1) := by decide +kernel
theorem dX9_squares_21 : decode cX9_squares 21 = .ok (.iload_n 1, 1) := by decide +kernel
theorem dX9_squares_22 : decode cX9_squares 22 = .ok (.invokevirtual 185, 3) := by decide +kernel
theorem dX9_squares_25 : decode cX9_squares 25 = .ok (.iload_n 2, 1) := by decide +kernel
theorem dX9_squares_26 : decode cX9_squares 26 = .ok (.invokevirtual 197, 3) := by decide +kernel
theorem dX9_squares_29 : decode cX9_squares 29 = .ok (.ireturn, 1) := by decide +kernel
theorem dX9_turn_0 : decode cX9_turn 0 = .ok (.iload_n 1, 1) := by decide +kernel
theorem dX9_turn_1 : decode cX9_turn 1 = .ok (.iconst 1, 1) := by decide +kernel
theorem dX9_turn_2 : decode cX9_turn 2 = .ok (.bipush 18, 2) := by decide +kernel
theorem dX9_turn_4 : decode cX9_turn 4 = .ok (.invokestatic 83, 3) := by decide +kernel
theorem dX9_turn_7 : decode cX9_turn 7 = .ok (.ifCond .ne 6, 3) := by decide +kernel
theorem dX9_turn_10 : decode cX9_turn 10 = .ok (.bipush (-2), 2) := by decide +kernel
theorem dX9_turn_12 : decode cX9_turn 12 = .ok (.ireturn, 1) := by decide +kernel
theorem dX9_turn_13 : decode cX9_turn 13 = .ok (.aload_n 0, 1) := by decide +kernel
theorem dX9_turn_14 : decode cX9_turn 14 = .ok (.getfield 45, 3) := by decide +kernel
theorem dX9_turn_17 : decode cX9_turn 17 = .ok (.getfield 200, 3) := by decide +kernel
theorem dX9_turn_20 : decode cX9_turn 20 = .ok (.istore_n 2, 1) := by decide +kernel
theorem dX9_turn_21 : decode cX9_turn 21 = .ok (.aload_n 0, 1) := by decide +kernel
theorem dX9_turn_22 : decode cX9_turn 22 = .ok (.getfield 45, 3) := by decide +kernel
theorem dX9_turn_25 : decode cX9_turn 25 = .ok (.iload_n 1, 1) := by decide +kernel
theorem dX9_turn_26 : decode cX9_turn 26 = .ok (.putfield 200, 3) := by decide +kernel
theorem dX9_turn_29 : decode cX9_turn 29 = .ok (.iload_n 2, 1) := by decide +kernel
theorem dX9_turn_30 : decode cX9_turn 30 = .ok (.ireturn, 1) := by decide +kernel
theorem dX9_corner_0 : decode cX9_corner 0 = .ok (.iload_n 1, 1) := by decide +kernel
theorem dX9_corner_1 : decode cX9_corner 1 = .ok (.iconst 1, 1) := by decide +kernel
theorem dX9_corner_2 : decode cX9_corner 2 = .ok (.bipush 18, 2) := by decide +kernel
theorem dX9_corner_4 : decode cX9_corner 4 = .ok (.invokestatic 83, 3) := by decide +kernel
theorem dX9_corner_7 : decode cX9_corner 7 = .ok (.ifCond .ne 6, 3) := by decide +kernel
theorem dX9_corner_10 : decode cX9_corner 10 = .ok (.bipush (-2), 2) := by decide +kernel
theorem dX9_corner_12 : decode cX9_corner 12 = .ok (.ireturn, 1) := by decide +kernel
theorem dX9_corner_13 : decode cX9_corner 13 = .ok (.aload_n 0, 1) := by decide +kernel
theorem dX9_corner_14 : decode cX9_corner 14 = .ok (.getfield 45, 3) := by decide +kernel
theorem dX9_corner_17 : decode cX9_corner 17 = .ok (.iload_n 1, 1) := by decide +kernel
theorem dX9_corner_18 : decode cX9_corner 18 = .ok (.invokevirtual 203, 3) := by decide +kernel
theorem dX9_corner_21 : decode cX9_corner 21 = .ok (.ifCond .eq 6, 3) := by decide +kernel
theorem dX9_corner_24 : decode cX9_corner 24 = .ok (.bipush (-4), 2) := by decide +kernel
theorem dX9_corner_26 : decode cX9_corner 26 = .ok (.ireturn, 1) := by decide +kernel
theorem dX9_corner_27 : decode cX9_corner 27 = .ok (.aload_n 0, 1) := by decide +kernel
theorem dX9_corner_28 : decode cX9_corner 28 = .ok (.getfield 45, 3) := by decide +kernel
theorem dX9_corner_31 : decode cX9_corner 31 = .ok (.getfield 206, 3) := by decide +kernel
theorem dX9_corner_34 : decode cX9_corner 34 = .ok (.bipush 6, 2) := by decide +kernel
theorem dX9_corner_36 : decode cX9_corner 36 = .ok (.if_icmp .lt 8, 3) := by decide +kernel
theorem dX9_corner_39 : decode cX9_corner 39 = .ok (.bipush (-3), 2) := by decide +kernel
theorem dX9_corner_41 : decode cX9_corner 41 = .ok (.goto 11, 3) := by decide +kernel
theorem dX9_corner_44 : decode cX9_corner 44 = .ok (.aload_n 0, 1) := by decide +kernel
theorem dX9_corner_45 : decode cX9_corner 45 = .ok (.getfield 45, 3) := by decide +kernel
theorem dX9_corner_48 : decode cX9_corner 48 = .ok (.iload_n 1, 1) := by decide +kernel
theorem dX9_corner_49 : decode cX9_corner 49 = .ok (.invokevirtual 207, 3) := by decide +kernel
theorem dX9_corner_52 : decode cX9_corner 52 = .ok (.ireturn, 1) := by decide +kernel
theorem dX9_uncorner_0 : decode cX9_uncorner 0 = .ok (.aload_n 0, 1) := by decide +kernel
theorem dX9_uncorner_1 : decode cX9_uncorner 1 = .ok (.getfield 45, 3) := by decide +kernel
theorem dX9_uncorner_4 : decode cX9_uncorner 4 = .ok (.getfield 206, 3) := by decide +kernel
theorem dX9_uncorner_7 : decode cX9_uncorner 7 = .ok (.ifCond .ne 7, 3) := by decide +kernel
theorem dX9_uncorner_10 : decode cX9_uncorner 10 = .ok (.iconst (-1), 1) := by decide +kernel
theorem dX9_uncorner_11 : decode cX9_uncorner 11 = .ok (.goto 10, 3) := by decide +kernel
theorem dX9_uncorner_14 : decode cX9_uncorner 14 = .ok (.aload_n 0, 1) := by decide +kernel
theorem dX9_uncorner_15 : decode cX9_uncorner 15 = .ok (.getfield 45, 3) := by decide +kernel
theorem dX9_uncorner_18 : decode cX9_uncorner 18 = .ok (.invokevirtual 208, 3) := by decide +kernel
theorem dX9_uncorner_21 : decode cX9_uncorner 21 = .ok (.ireturn, 1) := by decide +kernel
theorem dX9_rounds_0 : decode cX9_rounds 0 = .ok (.aload_n 0, 1) := by decide +kernel
theorem dX9_rounds_1 : decode cX9_rounds 1 = .ok (.getfield 45, 3) := by decide +kernel
theorem dX9_rounds_4 : decode cX9_rounds 4 = .ok (.iload_n 1, 1) := by decide +kernel
theorem dX9_rounds_5 : decode cX9_rounds 5 = .ok (.invokevirtual 209, 3) := by decide +kernel
theorem dX9_rounds_8 : decode cX9_rounds 8 = .ok (.ireturn, 1) := by decide +kernel
theorem dX9_round_0 : decode cX9_round 0 = .ok (.iload_n 2, 1) := by decide +kernel
theorem dX9_round_1 : decode cX9_round 1 = .ok (.ifCond .lt 20, 3) := by decide +kernel
theorem dX9_round_4 : decode cX9_round 4 = .ok (.iload_n 3, 1) := by decide +kernel
theorem dX9_round_5 : decode cX9_round 5 = .ok (.iconst (-1), 1) := by decide +kernel
theorem dX9_round_6 : decode cX9_round 6 = .ok (.if_icmp .lt 15, 3) := by decide +kernel
theorem dX9_round_9 : decode cX9_round 9 = .ok (.aload_n 0, 1) := by decide +kernel
theorem dX9_round_10 : decode cX9_round 10 = .ok (.getfield 45, 3) := by decide +kernel
theorem dX9_round_13 : decode cX9_round 13 = .ok (.iload_n 1, 1) := by decide +kernel
theorem dX9_round_14 : decode cX9_round 14 = .ok (.iload_n 2, 1) := by decide +kernel
theorem dX9_round_15 : decode cX9_round 15 = .ok (.invokevirtual 213, 3) := by decide +kernel
theorem dX9_round_18 : decode cX9_round 18 = .ok (.ifCond .ne 5, 3) := by decide +kernel
theorem dX9_round_21 : decode cX9_round 21 = .ok (.iconst (-1), 1) := by decide +kernel
theorem dX9_round_22 : decode cX9_round 22 = .ok (.ireturn, 1) := by decide +kernel
theorem dX9_round_23 : decode cX9_round 23 = .ok (.iload_n 3, 1) := by decide +kernel
theorem dX9_round_24 : decode cX9_round 24 = .ok (.iconst (-1), 1) := by decide +kernel
theorem dX9_round_25 : decode cX9_round 25 = .ok (.if_icmp .ne 11, 3) := by decide +kernel
theorem dX9_round_28 : decode cX9_round 28 = .ok (.aload_n 0, 1) := by decide +kernel
theorem dX9_round_29 : decode cX9_round 29 = .ok (.getfield 45, 3) := by decide +kernel
theorem dX9_round_32 : decode cX9_round 32 = .ok (.getfield 217, 3) := by decide +kernel
theorem dX9_round_35 : decode cX9_round 35 = .ok (.ireturn, 1) := by decide +kernel
theorem dX9_round_36 : decode cX9_round 36 = .ok (.iload_n 3, 1) := by decide +kernel
theorem dX9_round_37 : decode cX9_round 37 = .ok (.aload_n 0, 1) := by decide +kernel
theorem dX9_round_38 : decode cX9_round 38 = .ok (.getfield 45, 3) := by decide +kernel
theorem dX9_round_41 : decode cX9_round 41 = .ok (.getfield 217, 3) := by decide +kernel
theorem dX9_round_44 : decode cX9_round 44 = .ok (.if_icmp .ge 15, 3) := by decide +kernel
theorem dX9_round_47 : decode cX9_round 47 = .ok (.aload_n 0, 1) := by decide +kernel
theorem dX9_round_48 : decode cX9_round 48 = .ok (.getfield 45, 3) := by decide +kernel
theorem dX9_round_51 : decode cX9_round 51 = .ok (.getfield 220, 3) := by decide +kernel
theorem dX9_round_54 : decode cX9_round 54 = .ok (.iload_n 3, 1) := by decide +kernel
theorem dX9_round_55 : decode cX9_round 55 = .ok (.iaload, 1) := by decide +kernel
theorem dX9_round_56 : decode cX9_round 56 = .ok (.goto 4, 3) := by decide +kernel
theorem dX9_round_59 : decode cX9_round 59 = .ok (.iconst (-1), 1) := by decide +kernel
theorem dX9_round_60 : decode cX9_round 60 = .ok (.ireturn, 1) := by decide +kernel
theorem dX9_count_0 : decode cX9_count 0 = .ok (.iload_n 1, 1) := by decide +kernel
theorem dX9_count_1 : decode cX9_count 1 = .ok (.tableswitch 95 0 5 #[39, 47, 55, 63, 71, 87], 39) := by decide +kernel
theorem dX9_count_40 : decode cX9_count 40 = .ok (.aload_n 0, 1) := by decide +kernel
theorem dX9_count_41 : decode cX9_count 41 = .ok (.getfield 24, 3) := by decide +kernel
theorem dX9_count_44 : decode cX9_count 44 = .ok (.getfield 53, 3) := by decide +kernel
theorem dX9_count_47 : decode cX9_count 47 = .ok (.ireturn, 1) := by decide +kernel
theorem dX9_count_48 : decode cX9_count 48 = .ok (.aload_n 0, 1) := by decide +kernel
theorem dX9_count_49 : decode cX9_count 49 = .ok (.getfield 31, 3) := by decide +kernel
theorem dX9_count_52 : decode cX9_count 52 = .ok (.getfield 107, 3) := by decide +kernel
theorem dX9_count_55 : decode cX9_count 55 = .ok (.ireturn, 1) := by decide +kernel
theorem dX9_count_56 : decode cX9_count 56 = .ok (.aload_n 0, 1) := by decide +kernel
theorem dX9_count_57 : decode cX9_count 57 = .ok (.getfield 45, 3) := by decide +kernel
theorem dX9_count_60 : decode cX9_count 60 = .ok (.getfield 206, 3) := by decide +kernel
theorem dX9_count_63 : decode cX9_count 63 = .ok (.ireturn, 1) := by decide +kernel
theorem dX9_count_64 : decode cX9_count 64 = .ok (.aload_n 0, 1) := by decide +kernel
theorem dX9_count_65 : decode cX9_count 65 = .ok (.getfield 38, 3) := by decide +kernel
theorem dX9_count_68 : decode cX9_count 68 = .ok (.getfield 158, 3) := by decide +kernel
theorem dX9_count_71 : decode cX9_count 71 = .ok (.ireturn, 1) := by decide +kernel
theorem dX9_count_72 : decode cX9_count 72 = .ok (.aload_n 0, 1) := by decide +kernel
theorem dX9_count_73 : decode cX9_count 73 = .ok (.getfield 31, 3) := by decide +kernel
theorem dX9_count_76 : decode cX9_count 76 = .ok (.getfield 140, 3) := by decide +kernel
theorem dX9_count_79 : decode cX9_count 79 = .ok (.aload_n 0, 1) := by decide +kernel
theorem dX9_count_80 : decode cX9_count 80 = .ok (.getfield 31, 3) := by decide +kernel
theorem dX9_count_83 : decode cX9_count 83 = .ok (.getfield 143, 3) := by decide +kernel
theorem dX9_count_86 : decode cX9_count 86 = .ok (.imul, 1) := by decide +kernel
theorem dX9_count_87 : decode cX9_count 87 = .ok (.ireturn, 1) := by decide +kernel
theorem dX9_count_88 : decode cX9_count 88 = .ok (.aload_n 0, 1) := by decide +kernel
theorem dX9_count_89 : decode cX9_count 89 = .ok (.getfield 45, 3) := by decide +kernel
theorem dX9_count_92 : decode cX9_count 92 = .ok (.getfield 200, 3) := by decide +kernel
theorem dX9_count_95 : decode cX9_count 95 = .ok (.ireturn, 1) := by decide +kernel
theorem dX9_count_96 : decode cX9_count 96 = .ok (.bipush (-2), 2) := by decide +kernel
theorem dX9_count_98 : decode cX9_count 98 = .ok (.ireturn, 1) := by decide +kernel
theorem dX9_rowsOf_0 : decode cX9_rowsOf 0 = .ok (.aload_n 0, 1) := by decide +kernel
theorem dX9_rowsOf_1 : decode cX9_rowsOf 1 = .ok (.getfield 24, 3) := by decide +kernel
theorem dX9_rowsOf_4 : decode cX9_rowsOf 4 = .ok (.getfield 53, 3) := by decide +kernel
theorem dX9_rowsOf_7 : decode cX9_rowsOf 7 = .ok (.iload_n 1, 1) := by decide +kernel
theorem dX9_rowsOf_8 : decode cX9_rowsOf 8 = .ok (.invokestatic 174, 3) := by decide +kernel
theorem dX9_rowsOf_11 : decode cX9_rowsOf 11 = .ok (.istore_n 3, 1) := by decide +kernel
theorem dX9_rowsOf_12 : decode cX9_rowsOf 12 = .ok (.aload_n 0, 1) := by decide +kernel
theorem dX9_rowsOf_13 : decode cX9_rowsOf 13 = .ok (.getfield 7, 3) := by decide +kernel
theorem dX9_rowsOf_16 : decode cX9_rowsOf 16 = .ok (.ifnull 14, 3) := by decide +kernel
theorem dX9_rowsOf_19 : decode cX9_rowsOf 19 = .ok (.aload_n 0, 1) := by decide +kernel
theorem dX9_rowsOf_20 : decode cX9_rowsOf 20 = .ok (.getfield 7, 3) := by decide +kernel
theorem dX9_rowsOf_23 : decode cX9_rowsOf 23 = .ok (.getfield 224, 3) := by decide +kernel
theorem dX9_rowsOf_26 : decode cX9_rowsOf 26 = .ok (.iload_n 3, 1) := by decide +kernel
theorem dX9_rowsOf_27 : decode cX9_rowsOf 27 = .ok (.if_icmp .ge 19, 3) := by decide +kernel
theorem dX9_rowsOf_30 : decode cX9_rowsOf 30 = .ok (.aload_n 0, 1) := by decide +kernel
theorem dX9_rowsOf_31 : decode cX9_rowsOf 31 = .ok (.new 75, 3) := by decide +kernel
theorem dX9_rowsOf_34 : decode cX9_rowsOf 34 = .ok (.dup, 1) := by decide +kernel
theorem dX9_rowsOf_35 : decode cX9_rowsOf 35 = .ok (.aload_n 0, 1) := by decide +kernel
theorem dX9_rowsOf_36 : decode cX9_rowsOf 36 = .ok (.getfield 24, 3) := by decide +kernel
theorem dX9_rowsOf_39 : decode cX9_rowsOf 39 = .ok (.iload_n 3, 1) := by decide +kernel
theorem dX9_rowsOf_40 : decode cX9_rowsOf 40 = .ok (.invokespecial 227, 3) := by decide +kernel
theorem dX9_rowsOf_43 : decode cX9_rowsOf 43 = .ok (.putfield 7, 3) := by decide +kernel
theorem dX9_rowsOf_46 : decode cX9_rowsOf 46 = .ok (.aload_n 0, 1) := by decide +kernel
theorem dX9_rowsOf_47 : decode cX9_rowsOf 47 = .ok (.getfield 7, 3) := by decide +kernel
theorem dX9_rowsOf_50 : decode cX9_rowsOf 50 = .ok (.iload_n 1, 1) := by decide +kernel
theorem dX9_rowsOf_51 : decode cX9_rowsOf 51 = .ok (.iload_n 2, 1) := by decide +kernel
theorem dX9_rowsOf_52 : decode cX9_rowsOf 52 = .ok (.invokevirtual 230, 3) := by decide +kernel
theorem dX9_rowsOf_55 : decode cX9_rowsOf 55 = .ok (.aload_n 0, 1) := by decide +kernel
theorem dX9_rowsOf_56 : decode cX9_rowsOf 56 = .ok (.getfield 7, 3) := by decide +kernel
theorem dX9_rowsOf_59 : decode cX9_rowsOf 59 = .ok (.areturn, 1) := by decide +kernel
theorem dX9_searchOf_0 : decode cX9_searchOf 0 = .ok (.aload_n 0, 1) := by decide +kernel
theorem dX9_searchOf_1 : decode cX9_searchOf 1 = .ok (.getfield 13, 3) := by decide +kernel
theorem dX9_searchOf_4 : decode cX9_searchOf 4 = .ok (.ifnonnull 18, 3) := by decide +kernel
theorem dX9_searchOf_7 : decode cX9_searchOf 7 = .ok (.aload_n 0, 1) := by decide +kernel
theorem dX9_searchOf_8 : decode cX9_searchOf 8 = .ok (.new 135, 3) := by decide +kernel
theorem dX9_searchOf_11 : decode cX9_searchOf 11 = .ok (.dup, 1) := by decide +kernel
theorem dX9_searchOf_12 : decode cX9_searchOf 12 = .ok (.aload_n 0, 1) := by decide +kernel
theorem dX9_searchOf_13 : decode cX9_searchOf 13 = .ok (.getfield 31, 3) := by decide +kernel
theorem dX9_searchOf_16 : decode cX9_searchOf 16 = .ok (.invokespecial 234, 3) := by decide +kernel
theorem dX9_searchOf_19 : decode cX9_searchOf 19 = .ok (.putfield 13, 3) := by decide +kernel
theorem dX9_searchOf_22 : decode cX9_searchOf 22 = .ok (.aload_n 0, 1) := by decide +kernel
theorem dX9_searchOf_23 : decode cX9_searchOf 23 = .ok (.getfield 13, 3) := by decide +kernel
theorem dX9_searchOf_26 : decode cX9_searchOf 26 = .ok (.iload_n 1, 1) := by decide +kernel
theorem dX9_searchOf_27 : decode cX9_searchOf 27 = .ok (.invokevirtual 237, 3) := by decide +kernel
theorem dX9_searchOf_30 : decode cX9_searchOf 30 = .ok (.aload_n 0, 1) := by decide +kernel
theorem dX9_searchOf_31 : decode cX9_searchOf 31 = .ok (.getfield 13, 3) := by decide +kernel
theorem dX9_searchOf_34 : decode cX9_searchOf 34 = .ok (.areturn, 1) := by decide +kernel
theorem dX9_growthOf_0 : decode cX9_growthOf 0 = .ok (.aload_n 0, 1) := by decide +kernel
theorem dX9_growthOf_1 : decode cX9_growthOf 1 = .ok (.getfield 17, 3) := by decide +kernel
theorem dX9_growthOf_4 : decode cX9_growthOf 4 = .ok (.ifnonnull 18, 3) := by decide +kernel
theorem dX9_growthOf_7 : decode cX9_growthOf 7 = .ok (.aload_n 0, 1) := by decide +kernel
theorem dX9_growthOf_8 : decode cX9_growthOf 8 = .ok (.new 190, 3) := by decide +kernel
theorem dX9_growthOf_11 : decode cX9_growthOf 11 = .ok (.dup, 1) := by decide +kernel
theorem dX9_growthOf_12 : decode cX9_growthOf 12 = .ok (.aload_n 0, 1) := by decide +kernel
theorem dX9_growthOf_13 : decode cX9_growthOf 13 = .ok (.getfield 38, 3) := by decide +kernel
theorem dX9_growthOf_16 : decode cX9_growthOf 16 = .ok (.invokespecial 241, 3) := by decide +kernel
theorem dX9_growthOf_19 : decode cX9_growthOf 19 = .ok (.putfield 17, 3) := by decide +kernel
theorem dX9_growthOf_22 : decode cX9_growthOf 22 = .ok (.aload_n 0, 1) := by decide +kernel
theorem dX9_growthOf_23 : decode cX9_growthOf 23 = .ok (.getfield 17, 3) := by decide +kernel
theorem dX9_growthOf_26 : decode cX9_growthOf 26 = .ok (.iload_n 1, 1) := by decide +kernel
theorem dX9_growthOf_27 : decode cX9_growthOf 27 = .ok (.invokevirtual 244, 3) := by decide +kernel
theorem dX9_growthOf_30 : decode cX9_growthOf 30 = .ok (.aload_n 0, 1) := by decide +kernel
theorem dX9_growthOf_31 : decode cX9_growthOf 31 = .ok (.getfield 17, 3) := by decide +kernel
theorem dX9_growthOf_34 : decode cX9_growthOf 34 = .ok (.areturn, 1) := by decide +kernel
theorem dX9_isLetter_0 : decode cX9_isLetter 0 = .ok (.iload_n 1, 1) := by decide +kernel
theorem dX9_isLetter_1 : decode cX9_isLetter 1 = .ok (.iconst 0, 1) := by decide +kernel
theorem dX9_isLetter_2 : decode cX9_isLetter 2 = .ok (.aload_n 0, 1) := by decide +kernel
theorem dX9_isLetter_3 : decode cX9_isLetter 3 = .ok (.getfield 38, 3) := by decide +kernel
theorem dX9_isLetter_6 : decode cX9_isLetter 6 = .ok (.getfield 158, 3) := by decide +kernel
theorem dX9_isLetter_9 : decode cX9_isLetter 9 = .ok (.iconst 1, 1) := by decide +kernel
theorem dX9_isLetter_10 : decode cX9_isLetter 10 = .ok (.isub, 1) := by decide +kernel
theorem dX9_isLetter_11 : decode cX9_isLetter 11 = .ok (.invokestatic 83, 3) := by decide +kernel
theorem dX9_isLetter_14 : decode cX9_isLetter 14 = .ok (.ireturn, 1) := by decide +kernel
theorem dX9_isColour_0 : decode cX9_isColour 0 = .ok (.iload_n 0, 1) := by decide +kernel
theorem dX9_isColour_1 : decode cX9_isColour 1 = .ok (.iconst 0, 1) := by decide +kernel
theorem dX9_isColour_2 : decode cX9_isColour 2 = .ok (.bipush 9, 2) := by decide +kernel
theorem dX9_isColour_4 : decode cX9_isColour 4 = .ok (.invokestatic 83, 3) := by decide +kernel
theorem dX9_isColour_7 : decode cX9_isColour 7 = .ok (.ireturn, 1) := by decide +kernel
theorem dX9_isSide_0 : decode cX9_isSide 0 = .ok (.iload_n 0, 1) := by decide +kernel
theorem dX9_isSide_1 : decode cX9_isSide 1 = .ok (.iconst 1, 1) := by decide +kernel
theorem dX9_isSide_2 : decode cX9_isSide 2 = .ok (.iconst 4, 1) := by decide +kernel
theorem dX9_isSide_3 : decode cX9_isSide 3 = .ok (.invokestatic 83, 3) := by decide +kernel
theorem dX9_isSide_6 : decode cX9_isSide 6 = .ok (.ireturn, 1) := by decide +kernel
theorem dX9_isMode_0 : decode cX9_isMode 0 = .ok (.iload_n 0, 1) := by decide +kernel
theorem dX9_isMode_1 : decode cX9_isMode 1 = .ok (.iconst 0, 1) := by decide +kernel
theorem dX9_isMode_2 : decode cX9_isMode 2 = .ok (.iconst 2, 1) := by decide +kernel
theorem dX9_isMode_3 : decode cX9_isMode 3 = .ok (.invokestatic 83, 3) := by decide +kernel
theorem dX9_isMode_6 : decode cX9_isMode 6 = .ok (.ireturn, 1) := by decide +kernel
theorem dX9_isBetween_0 : decode cX9_isBetween 0 = .ok (.iload_n 1, 1) := by decide +kernel
theorem dX9_isBetween_1 : decode cX9_isBetween 1 = .ok (.iload_n 0, 1) := by decide +kernel
theorem dX9_isBetween_2 : decode cX9_isBetween 2 = .ok (.if_icmp .gt 12, 3) := by decide +kernel
theorem dX9_isBetween_5 : decode cX9_isBetween 5 = .ok (.iload_n 0, 1) := by decide +kernel
theorem dX9_isBetween_6 : decode cX9_isBetween 6 = .ok (.iload_n 2, 1) := by decide +kernel
theorem dX9_isBetween_7 : decode cX9_isBetween 7 = .ok (.if_icmp .gt 7, 3) := by decide +kernel
theorem dX9_isBetween_10 : decode cX9_isBetween 10 = .ok (.iconst 1, 1) := by decide +kernel
theorem dX9_isBetween_11 : decode cX9_isBetween 11 = .ok (.goto 4, 3) := by decide +kernel
theorem dX9_isBetween_14 : decode cX9_isBetween 14 = .ok (.iconst 0, 1) := by decide +kernel
theorem dX9_isBetween_15 : decode cX9_isBetween 15 = .ok (.ireturn, 1) := by decide +kernel
theorem dX9_power_0 : decode cX9_power 0 = .ok (.iconst 1, 1) := by decide +kernel
theorem dX9_power_1 : decode cX9_power 1 = .ok (.istore_n 2, 1) := by decide +kernel
theorem dX9_power_2 : decode cX9_power 2 = .ok (.iconst 0, 1) := by decide +kernel
theorem dX9_power_3 : decode cX9_power 3 = .ok (.istore_n 3, 1) := by decide +kernel
theorem dX9_power_4 : decode cX9_power 4 = .ok (.iload_n 3, 1) := by decide +kernel
theorem dX9_power_5 : decode cX9_power 5 = .ok (.iload_n 1, 1) := by decide +kernel
theorem dX9_power_6 : decode cX9_power 6 = .ok (.if_icmp .ge 13, 3) := by decide +kernel
theorem dX9_power_9 : decode cX9_power 9 = .ok (.iload_n 2, 1) := by decide +kernel
theorem dX9_power_10 : decode cX9_power 10 = .ok (.iload_n 0, 1) := by decide +kernel
theorem dX9_power_11 : decode cX9_power 11 = .ok (.imul, 1) := by decide +kernel
theorem dX9_power_12 : decode cX9_power 12 = .ok (.istore_n 2, 1) := by decide +kernel
theorem dX9_power_13 : decode cX9_power 13 = .ok (.iinc 3 1, 3) := by decide +kernel
theorem dX9_power_16 : decode cX9_power 16 = .ok (.goto (-12), 3) := by decide +kernel
theorem dX9_power_19 : decode cX9_power 19 = .ok (.iload_n 2, 1) := by decide +kernel
theorem dX9_power_20 : decode cX9_power 20 = .ok (.ireturn, 1) := by decide +kernel
