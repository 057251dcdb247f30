theorem dX3_init_0 : decode cX3_init 0 = .ok (.aload_n 0, 1) := by decide +kernel
theorem dX3_init_1 : decode cX3_init 1 = .ok (.invokespecial 1, 3) := by decide +kernel
theorem dX3_init_4 : decode cX3_init 4 = .ok (.aload_n 0, 1) := by decide +kernel
theorem dX3_init_5 : decode cX3_init 5 = .ok (.sipush 3500, 3) := by decide +kernel
theorem dX3_init_8 : decode cX3_init 8 = .ok (.newarray .int, 2) := by decide +kernel
theorem dX3_init_10 : decode cX3_init 10 = .ok (.putfield 7, 3) := by decide +kernel
theorem dX3_init_13 : decode cX3_init 13 = .ok (.aload_n 0, 1) := by decide +kernel
theorem dX3_init_14 : decode cX3_init 14 = .ok (.bipush 25, 2) := by decide +kernel
theorem dX3_init_16 : decode cX3_init 16 = .ok (.newarray .int, 2) := by decide +kernel
theorem dX3_init_18 : decode cX3_init 18 = .ok (.putfield 13, 3) := by decide +kernel
theorem dX3_init_21 : decode cX3_init 21 = .ok (.aload_n 0, 1) := by decide +kernel
theorem dX3_init_22 : decode cX3_init 22 = .ok (.sipush 280, 3) := by decide +kernel
theorem dX3_init_25 : decode cX3_init 25 = .ok (.newarray .long, 2) := by decide +kernel
theorem dX3_init_27 : decode cX3_init 27 = .ok (.putfield 16, 3) := by decide +kernel
theorem dX3_init_30 : decode cX3_init 30 = .ok (.aload_n 0, 1) := by decide +kernel
theorem dX3_init_31 : decode cX3_init 31 = .ok (.sipush 700, 3) := by decide +kernel
theorem dX3_init_34 : decode cX3_init 34 = .ok (.newarray .int, 2) := by decide +kernel
theorem dX3_init_36 : decode cX3_init 36 = .ok (.putfield 20, 3) := by decide +kernel
theorem dX3_init_39 : decode cX3_init 39 = .ok (.aload_n 0, 1) := by decide +kernel
theorem dX3_init_40 : decode cX3_init 40 = .ok (.bipush 24, 2) := by decide +kernel
theorem dX3_init_42 : decode cX3_init 42 = .ok (.lconst 1, 1) := by decide +kernel
theorem dX3_init_43 : decode cX3_init 43 = .ok (.invokevirtual 23, 3) := by decide +kernel
theorem dX3_init_46 : decode cX3_init 46 = .ok (.aload_n 0, 1) := by decide +kernel
theorem dX3_init_47 : decode cX3_init 47 = .ok (.bipush 17, 2) := by decide +kernel
theorem dX3_init_49 : decode cX3_init 49 = .ok (.ldc2_w 27, 3) := by decide +kernel
theorem dX3_init_52 : decode cX3_init 52 = .ok (.invokevirtual 23, 3) := by decide +kernel
theorem dX3_init_55 : decode cX3_init 55 = .ok (.iconst 0, 1) := by decide +kernel
theorem dX3_init_56 : decode cX3_init 56 = .ok (.istore_n 1, 1) := by decide +kernel
theorem dX3_init_57 : decode cX3_init 57 = .ok (.iload_n 1, 1) := by decide +kernel
theorem dX3_init_58 : decode cX3_init 58 = .ok (.sipush 300, 3) := by decide +kernel
theorem dX3_init_61 : decode cX3_init 61 = .ok (.if_icmp .ge 19, 3) := by decide +kernel
theorem dX3_init_64 : decode cX3_init 64 = .ok (.aload_n 0, 1) := by decide +kernel
theorem dX3_init_65 : decode cX3_init 65 = .ok (.bipush 24, 2) := by decide +kernel
theorem dX3_init_67 : decode cX3_init 67 = .ok (.bipush 24, 2) := by decide +kernel
theorem dX3_init_69 : decode cX3_init 69 = .ok (.bipush 17, 2) := by decide +kernel
theorem dX3_init_71 : decode cX3_init 71 = .ok (.invokevirtual 29, 3) := by decide +kernel
theorem dX3_init_74 : decode cX3_init 74 = .ok (.iinc 1 1, 3) := by decide +kernel
theorem dX3_init_77 : decode cX3_init 77 = .ok (.goto (-20), 3) := by decide +kernel
theorem dX3_init_80 : decode cX3_init 80 = .ok (.return_, 1) := by decide +kernel
theorem dX3_at_0 : decode cX3_at 0 = .ok (.aload_n 0, 1) := by decide +kernel
theorem dX3_at_1 : decode cX3_at 1 = .ok (.getfield 7, 3) := by decide +kernel
theorem dX3_at_4 : decode cX3_at 4 = .ok (.sipush 140, 3) := by decide +kernel
theorem dX3_at_7 : decode cX3_at 7 = .ok (.iload_n 1, 1) := by decide +kernel
theorem dX3_at_8 : decode cX3_at 8 = .ok (.imul, 1) := by decide +kernel
theorem dX3_at_9 : decode cX3_at 9 = .ok (.iload_n 2, 1) := by decide +kernel
theorem dX3_at_10 : decode cX3_at 10 = .ok (.iadd, 1) := by decide +kernel
theorem dX3_at_11 : decode cX3_at 11 = .ok (.iaload, 1) := by decide +kernel
theorem dX3_at_12 : decode cX3_at 12 = .ok (.ireturn, 1) := by decide +kernel
theorem dX3_settle_0 : decode cX3_settle 0 = .ok (.iconst 0, 1) := by decide +kernel
theorem dX3_settle_1 : decode cX3_settle 1 = .ok (.istore_n 3, 1) := by decide +kernel
theorem dX3_settle_2 : decode cX3_settle 2 = .ok (.iconst 0, 1) := by decide +kernel
theorem dX3_settle_3 : decode cX3_settle 3 = .ok (.istore 4, 2) := by decide +kernel
theorem dX3_settle_5 : decode cX3_settle 5 = .ok (.iload 4, 2) := by decide +kernel
theorem dX3_settle_7 : decode cX3_settle 7 = .ok (.sipush 140, 3) := by decide +kernel
theorem dX3_settle_10 : decode cX3_settle 10 = .ok (.if_icmp .ge 29, 3) := by decide +kernel
theorem dX3_settle_13 : decode cX3_settle 13 = .ok (.iload_n 3, 1) := by decide +kernel
theorem dX3_settle_14 : decode cX3_settle 14 = .ok (.ifCond .ne 25, 3) := by decide +kernel
theorem dX3_settle_17 : decode cX3_settle 17 = .ok (.aload_n 0, 1) := by decide +kernel
theorem dX3_settle_18 : decode cX3_settle 18 = .ok (.iload_n 1, 1) := by decide +kernel
theorem dX3_settle_19 : decode cX3_settle 19 = .ok (.iload 4, 2) := by decide +kernel
theorem dX3_settle_21 : decode cX3_settle 21 = .ok (.invokevirtual 33, 3) := by decide +kernel
theorem dX3_settle_24 : decode cX3_settle 24 = .ok (.ifCond .eq 7, 3) := by decide +kernel
theorem dX3_settle_27 : decode cX3_settle 27 = .ok (.iconst 1, 1) := by decide +kernel
theorem dX3_settle_28 : decode cX3_settle 28 = .ok (.goto 4, 3) := by decide +kernel
theorem dX3_settle_31 : decode cX3_settle 31 = .ok (.iconst 0, 1) := by decide +kernel
theorem dX3_settle_32 : decode cX3_settle 32 = .ok (.istore_n 3, 1) := by decide +kernel
theorem dX3_settle_33 : decode cX3_settle 33 = .ok (.iinc 4 1, 3) := by decide +kernel
theorem dX3_settle_36 : decode cX3_settle 36 = .ok (.goto (-31), 3) := by decide +kernel
theorem dX3_settle_39 : decode cX3_settle 39 = .ok (.aload_n 0, 1) := by decide +kernel
theorem dX3_settle_40 : decode cX3_settle 40 = .ok (.getfield 13, 3) := by decide +kernel
theorem dX3_settle_43 : decode cX3_settle 43 = .ok (.iload_n 1, 1) := by decide +kernel
theorem dX3_settle_44 : decode cX3_settle 44 = .ok (.iload_n 3, 1) := by decide +kernel
theorem dX3_settle_45 : decode cX3_settle 45 = .ok (.ifCond .eq 7, 3) := by decide +kernel
theorem dX3_settle_48 : decode cX3_settle 48 = .ok (.iload_n 2, 1) := by decide +kernel
theorem dX3_settle_49 : decode cX3_settle 49 = .ok (.goto 4, 3) := by decide +kernel
theorem dX3_settle_52 : decode cX3_settle 52 = .ok (.iconst 0, 1) := by decide +kernel
theorem dX3_settle_53 : decode cX3_settle 53 = .ok (.iastore, 1) := by decide +kernel
theorem dX3_settle_54 : decode cX3_settle 54 = .ok (.return_, 1) := by decide +kernel
theorem dX3_put_0 : decode cX3_put 0 = .ok (.lload_n 2, 1) := by decide +kernel
theorem dX3_put_1 : decode cX3_put 1 = .ok (.lconst 0, 1) := by decide +kernel
theorem dX3_put_2 : decode cX3_put 2 = .ok (.lcmp, 1) := by decide +kernel
theorem dX3_put_3 : decode cX3_put 3 = .ok (.ifCond .ge 8, 3) := by decide +kernel
theorem dX3_put_6 : decode cX3_put 6 = .ok (.lload_n 2, 1) := by decide +kernel
theorem dX3_put_7 : decode cX3_put 7 = .ok (.lneg, 1) := by decide +kernel
theorem dX3_put_8 : decode cX3_put 8 = .ok (.goto 4, 3) := by decide +kernel
theorem dX3_put_11 : decode cX3_put 11 = .ok (.lload_n 2, 1) := by decide +kernel
theorem dX3_put_12 : decode cX3_put 12 = .ok (.lstore 4, 2) := by decide +kernel
theorem dX3_put_14 : decode cX3_put 14 = .ok (.iconst 0, 1) := by decide +kernel
theorem dX3_put_15 : decode cX3_put 15 = .ok (.istore 6, 2) := by decide +kernel
theorem dX3_put_17 : decode cX3_put 17 = .ok (.iload 6, 2) := by decide +kernel
theorem dX3_put_19 : decode cX3_put 19 = .ok (.sipush 140, 3) := by decide +kernel
theorem dX3_put_22 : decode cX3_put 22 = .ok (.if_icmp .ge 44, 3) := by decide +kernel
theorem dX3_put_25 : decode cX3_put 25 = .ok (.aload_n 0, 1) := by decide +kernel
theorem dX3_put_26 : decode cX3_put 26 = .ok (.getfield 7, 3) := by decide +kernel
theorem dX3_put_29 : decode cX3_put 29 = .ok (.sipush 140, 3) := by decide +kernel
theorem dX3_put_32 : decode cX3_put 32 = .ok (.iload_n 1, 1) := by decide +kernel
theorem dX3_put_33 : decode cX3_put 33 = .ok (.imul, 1) := by decide +kernel
theorem dX3_put_34 : decode cX3_put 34 = .ok (.iload 6, 2) := by decide +kernel
theorem dX3_put_36 : decode cX3_put 36 = .ok (.iadd, 1) := by decide +kernel
theorem dX3_put_37 : decode cX3_put 37 = .ok (.iload 6, 2) := by decide +kernel
theorem dX3_put_39 : decode cX3_put 39 = .ok (.iconst 4, 1) := by decide +kernel
theorem dX3_put_40 : decode cX3_put 40 = .ok (.if_icmp .ge 18, 3) := by decide +kernel
theorem dX3_put_43 : decode cX3_put 43 = .ok (.lload 4, 2) := by decide +kernel
theorem dX3_put_45 : decode cX3_put 45 = .ok (.bipush 16, 2) := by decide +kernel
theorem dX3_put_47 : decode cX3_put 47 = .ok (.iload 6, 2) := by decide +kernel
theorem dX3_put_49 : decode cX3_put 49 = .ok (.imul, 1) := by decide +kernel
theorem dX3_put_50 : decode cX3_put 50 = .ok (.lushr, 1) := by decide +kernel
theorem dX3_put_51 : decode cX3_put 51 = .ok (.l2i, 1) := by decide +kernel
theorem dX3_put_52 : decode cX3_put 52 = .ok (.ldc 37, 2) := by decide +kernel
theorem dX3_put_54 : decode cX3_put 54 = .ok (.iand, 1) := by decide +kernel
theorem dX3_put_55 : decode cX3_put 55 = .ok (.goto 4, 3) := by decide +kernel
theorem dX3_put_58 : decode cX3_put 58 = .ok (.iconst 0, 1) := by decide +kernel
theorem dX3_put_59 : decode cX3_put 59 = .ok (.iastore, 1) := by decide +kernel
theorem dX3_put_60 : decode cX3_put 60 = .ok (.iinc 6 1, 3) := by decide +kernel
theorem dX3_put_63 : decode cX3_put 63 = .ok (.goto (-46), 3) := by decide +kernel
theorem dX3_put_66 : decode cX3_put 66 = .ok (.aload_n 0, 1) := by decide +kernel
theorem dX3_put_67 : decode cX3_put 67 = .ok (.iload_n 1, 1) := by decide +kernel
theorem dX3_put_68 : decode cX3_put 68 = .ok (.lload_n 2, 1) := by decide +kernel
theorem dX3_put_69 : decode cX3_put 69 = .ok (.lconst 0, 1) := by decide +kernel
theorem dX3_put_70 : decode cX3_put 70 = .ok (.lcmp, 1) := by decide +kernel
theorem dX3_put_71 : decode cX3_put 71 = .ok (.ifCond .ge 7, 3) := by decide +kernel
theorem dX3_put_74 : decode cX3_put 74 = .ok (.iconst (-1), 1) := by decide +kernel
theorem dX3_put_75 : decode cX3_put 75 = .ok (.goto 4, 3) := by decide +kernel
theorem dX3_put_78 : decode cX3_put 78 = .ok (.iconst 1, 1) := by decide +kernel
theorem dX3_put_79 : decode cX3_put 79 = .ok (.invokevirtual 38, 3) := by decide +kernel
theorem dX3_put_82 : decode cX3_put 82 = .ok (.return_, 1) := by decide +kernel
theorem dX3_move_0 : decode cX3_move 0 = .ok (.iconst 0, 1) := by decide +kernel
theorem dX3_move_1 : decode cX3_move 1 = .ok (.istore_n 3, 1) := by decide +kernel
theorem dX3_move_2 : decode cX3_move 2 = .ok (.iload_n 3, 1) := by decide +kernel
theorem dX3_move_3 : decode cX3_move 3 = .ok (.sipush 140, 3) := by decide +kernel
theorem dX3_move_6 : decode cX3_move 6 = .ok (.if_icmp .ge 27, 3) := by decide +kernel
theorem dX3_move_9 : decode cX3_move 9 = .ok (.aload_n 0, 1) := by decide +kernel
theorem dX3_move_10 : decode cX3_move 10 = .ok (.getfield 7, 3) := by decide +kernel
theorem dX3_move_13 : decode cX3_move 13 = .ok (.sipush 140, 3) := by decide +kernel
theorem dX3_move_16 : decode cX3_move 16 = .ok (.iload_n 1, 1) := by decide +kernel
theorem dX3_move_17 : decode cX3_move 17 = .ok (.imul, 1) := by decide +kernel
theorem dX3_move_18 : decode cX3_move 18 = .ok (.iload_n 3, 1) := by decide +kernel
theorem dX3_move_19 : decode cX3_move 19 = .ok (.iadd, 1) := by decide +kernel
theorem dX3_move_20 : decode cX3_move 20 = .ok (.aload_n 0, 1) := by decide +kernel
theorem dX3_move_21 : decode cX3_move 21 = .ok (.iload_n 2, 1) := by decide +kernel
theorem dX3_move_22 : decode cX3_move 22 = .ok (.iload_n 3, 1) := by decide +kernel
theorem dX3_move_23 : decode cX3_move 23 = .ok (.invokevirtual 33, 3) := by decide +kernel
theorem dX3_move_26 : decode cX3_move 26 = .ok (.iastore, 1) := by decide +kernel
theorem dX3_move_27 : decode cX3_move 27 = .ok (.iinc 3 1, 3) := by decide +kernel
theorem dX3_move_30 : decode cX3_move 30 = .ok (.goto (-28), 3) := by decide +kernel
theorem dX3_move_33 : decode cX3_move 33 = .ok (.aload_n 0, 1) := by decide +kernel
theorem dX3_move_34 : decode cX3_move 34 = .ok (.getfield 13, 3) := by decide +kernel
theorem dX3_move_37 : decode cX3_move 37 = .ok (.iload_n 1, 1) := by decide +kernel
theorem dX3_move_38 : decode cX3_move 38 = .ok (.aload_n 0, 1) := by decide +kernel
theorem dX3_move_39 : decode cX3_move 39 = .ok (.getfield 13, 3) := by decide +kernel
theorem dX3_move_42 : decode cX3_move 42 = .ok (.iload_n 2, 1) := by decide +kernel
theorem dX3_move_43 : decode cX3_move 43 = .ok (.iaload, 1) := by decide +kernel
theorem dX3_move_44 : decode cX3_move 44 = .ok (.iastore, 1) := by decide +kernel
theorem dX3_move_45 : decode cX3_move 45 = .ok (.return_, 1) := by decide +kernel
theorem dX3_sizes_0 : decode cX3_sizes 0 = .ok (.sipush 139, 3) := by decide +kernel
theorem dX3_sizes_3 : decode cX3_sizes 3 = .ok (.istore_n 3, 1) := by decide +kernel
theorem dX3_sizes_4 : decode cX3_sizes 4 = .ok (.iload_n 3, 1) := by decide +kernel
theorem dX3_sizes_5 : decode cX3_sizes 5 = .ok (.ifCond .le 24, 3) := by decide +kernel
theorem dX3_sizes_8 : decode cX3_sizes 8 = .ok (.aload_n 0, 1) := by decide +kernel
theorem dX3_sizes_9 : decode cX3_sizes 9 = .ok (.iload_n 1, 1) := by decide +kernel
theorem dX3_sizes_10 : decode cX3_sizes 10 = .ok (.iload_n 3, 1) := by decide +kernel
theorem dX3_sizes_11 : decode cX3_sizes 11 = .ok (.invokevirtual 33, 3) := by decide +kernel
theorem dX3_sizes_14 : decode cX3_sizes 14 = .ok (.aload_n 0, 1) := by decide +kernel
theorem dX3_sizes_15 : decode cX3_sizes 15 = .ok (.iload_n 2, 1) := by decide +kernel
theorem dX3_sizes_16 : decode cX3_sizes 16 = .ok (.iload_n 3, 1) := by decide +kernel
theorem dX3_sizes_17 : decode cX3_sizes 17 = .ok (.invokevirtual 33, 3) := by decide +kernel
theorem dX3_sizes_20 : decode cX3_sizes 20 = .ok (.if_icmp .ne 9, 3) := by decide +kernel
theorem dX3_sizes_23 : decode cX3_sizes 23 = .ok (.iinc 3 (-1), 3) := by decide +kernel
theorem dX3_sizes_26 : decode cX3_sizes 26 = .ok (.goto (-22), 3) := by decide +kernel
theorem dX3_sizes_29 : decode cX3_sizes 29 = .ok (.aload_n 0, 1) := by decide +kernel
theorem dX3_sizes_30 : decode cX3_sizes 30 = .ok (.iload_n 1, 1) := by decide +kernel
theorem dX3_sizes_31 : decode cX3_sizes 31 = .ok (.iload_n 3, 1) := by decide +kernel
theorem dX3_sizes_32 : decode cX3_sizes 32 = .ok (.invokevirtual 33, 3) := by decide +kernel
theorem dX3_sizes_35 : decode cX3_sizes 35 = .ok (.aload_n 0, 1) := by decide +kernel
theorem dX3_sizes_36 : decode cX3_sizes 36 = .ok (.iload_n 2, 1) := by decide +kernel
theorem dX3_sizes_37 : decode cX3_sizes 37 = .ok (.iload_n 3, 1) := by decide +kernel
theorem dX3_sizes_38 : decode cX3_sizes 38 = .ok (.invokevirtual 33, 3) := by decide +kernel
theorem dX3_sizes_41 : decode cX3_sizes 41 = .ok (.if_icmp .ge 7, 3) := by decide +kernel
theorem dX3_sizes_44 : decode cX3_sizes 44 = .ok (.iconst (-1), 1) := by decide +kernel
theorem dX3_sizes_45 : decode cX3_sizes 45 = .ok (.goto 23, 3) := by decide +kernel
theorem dX3_sizes_48 : decode cX3_sizes 48 = .ok (.aload_n 0, 1) := by decide +kernel
theorem dX3_sizes_49 : decode cX3_sizes 49 = .ok (.iload_n 1, 1) := by decide +kernel
theorem dX3_sizes_50 : decode cX3_sizes 50 = .ok (.iload_n 3, 1) := by decide +kernel
theorem dX3_sizes_51 : decode cX3_sizes 51 = .ok (.invokevirtual 33, 3) := by decide +kernel
theorem dX3_sizes_54 : decode cX3_sizes 54 = .ok (.aload_n 0, 1) := by decide +kernel
theorem dX3_sizes_55 : decode cX3_sizes 55 = .ok (.iload_n 2, 1) := by decide +kernel
theorem dX3_sizes_56 : decode cX3_sizes 56 = .ok (.iload_n 3, 1) := by decide +kernel
theorem dX3_sizes_57 : decode cX3_sizes 57 = .ok (.invokevirtual 33, 3) := by decide +kernel
theorem dX3_sizes_60 : decode cX3_sizes 60 = .ok (.if_icmp .le 7, 3) := by decide +kernel
theorem dX3_sizes_63 : decode cX3_sizes 63 = .ok (.iconst 1, 1) := by decide +kernel
theorem dX3_sizes_64 : decode cX3_sizes 64 = .ok (.goto 4, 3) := by decide +kernel
theorem dX3_sizes_67 : decode cX3_sizes 67 = .ok (.iconst 0, 1) := by decide +kernel
theorem dX3_sizes_68 : decode cX3_sizes 68 = .ok (.ireturn, 1) := by decide +kernel
theorem dX3_compare_0 : decode cX3_compare 0 = .ok (.aload_n 0, 1) := by decide +kernel
theorem dX3_compare_1 : decode cX3_compare 1 = .ok (.getfield 13, 3) := by decide +kernel
theorem dX3_compare_4 : decode cX3_compare 4 = .ok (.iload_n 1, 1) := by decide +kernel
theorem dX3_compare_5 : decode cX3_compare 5 = .ok (.iaload, 1) := by decide +kernel
theorem dX3_compare_6 : decode cX3_compare 6 = .ok (.aload_n 0, 1) := by decide +kernel
theorem dX3_compare_7 : decode cX3_compare 7 = .ok (.getfield 13, 3) := by decide +kernel
theorem dX3_compare_10 : decode cX3_compare 10 = .ok (.iload_n 2, 1) := by decide +kernel
theorem dX3_compare_11 : decode cX3_compare 11 = .ok (.iaload, 1) := by decide +kernel
theorem dX3_compare_12 : decode cX3_compare 12 = .ok (.if_icmp .eq 26, 3) := by decide +kernel
theorem dX3_compare_15 : decode cX3_compare 15 = .ok (.aload_n 0, 1) := by decide +kernel
theorem dX3_compare_16 : decode cX3_compare 16 = .ok (.getfield 13, 3) := by decide +kernel
theorem dX3_compare_19 : decode cX3_compare 19 = .ok (.iload_n 1, 1) := by decide +kernel
theorem dX3_compare_20 : decode cX3_compare 20 = .ok (.iaload, 1) := by decide +kernel
theorem dX3_compare_21 : decode cX3_compare 21 = .ok (.aload_n 0, 1) := by decide +kernel
theorem dX3_compare_22 : decode cX3_compare 22 = .ok (.getfield 13, 3) := by decide +kernel
theorem dX3_compare_25 : decode cX3_compare 25 = .ok (.iload_n 2, 1) := by decide +kernel
theorem dX3_compare_26 : decode cX3_compare 26 = .ok (.iaload, 1) := by decide +kernel
theorem dX3_compare_27 : decode cX3_compare 27 = .ok (.if_icmp .ge 7, 3) := by decide +kernel
theorem dX3_compare_30 : decode cX3_compare 30 = .ok (.iconst (-1), 1) := by decide +kernel
theorem dX3_compare_31 : decode cX3_compare 31 = .ok (.goto 20, 3) := by decide +kernel
theorem dX3_compare_34 : decode cX3_compare 34 = .ok (.iconst 1, 1) := by decide +kernel
theorem dX3_compare_35 : decode cX3_compare 35 = .ok (.goto 16, 3) := by decide +kernel
theorem dX3_compare_38 : decode cX3_compare 38 = .ok (.aload_n 0, 1) := by decide +kernel
theorem dX3_compare_39 : decode cX3_compare 39 = .ok (.getfield 13, 3) := by decide +kernel
theorem dX3_compare_42 : decode cX3_compare 42 = .ok (.iload_n 1, 1) := by decide +kernel
theorem dX3_compare_43 : decode cX3_compare 43 = .ok (.iaload, 1) := by decide +kernel
theorem dX3_compare_44 : decode cX3_compare 44 = .ok (.aload_n 0, 1) := by decide +kernel
theorem dX3_compare_45 : decode cX3_compare 45 = .ok (.iload_n 1, 1) := by decide +kernel
theorem dX3_compare_46 : decode cX3_compare 46 = .ok (.iload_n 2, 1) := by decide +kernel
theorem dX3_compare_47 : decode cX3_compare 47 = .ok (.invokevirtual 42, 3) := by decide +kernel
theorem dX3_compare_50 : decode cX3_compare 50 = .ok (.imul, 1) := by decide +kernel
theorem dX3_compare_51 : decode cX3_compare 51 = .ok (.ireturn, 1) := by decide +kernel
theorem dX3_addSizes_0 : decode cX3_addSizes 0 = .ok (.iconst 0, 1) := by decide +kernel
theorem dX3_addSizes_1 : decode cX3_addSizes 1 = .ok (.istore 4, 2) := by decide +kernel
theorem dX3_addSizes_3 : decode cX3_addSizes 3 = .ok (.iconst 0, 1) := by decide +kernel
theorem dX3_addSizes_4 : decode cX3_addSizes 4 = .ok (.istore 5, 2) := by decide +kernel
theorem dX3_addSizes_6 : decode cX3_addSizes 6 = .ok (.iload 5, 2) := by decide +kernel
theorem dX3_addSizes_8 : decode cX3_addSizes 8 = .ok (.sipush 140, 3) := by decide +kernel
theorem dX3_addSizes_11 : decode cX3_addSizes 11 = .ok (.if_icmp .ge 54, 3) := by decide +kernel
theorem dX3_addSizes_14 : decode cX3_addSizes 14 = .ok (.iload 4, 2) := by decide +kernel
theorem dX3_addSizes_16 : decode cX3_addSizes 16 = .ok (.aload_n 0, 1) := by decide +kernel
theorem dX3_addSizes_17 : decode cX3_addSizes 17 = .ok (.iload_n 2, 1) := by decide +kernel
theorem dX3_addSizes_18 : decode cX3_addSizes 18 = .ok (.iload 5, 2) := by decide +kernel
theorem dX3_addSizes_20 : decode cX3_addSizes 20 = .ok (.invokevirtual 33, 3) := by decide +kernel
theorem dX3_addSizes_23 : decode cX3_addSizes 23 = .ok (.aload_n 0, 1) := by decide +kernel
theorem dX3_addSizes_24 : decode cX3_addSizes 24 = .ok (.iload_n 3, 1) := by decide +kernel
theorem dX3_addSizes_25 : decode cX3_addSizes 25 = .ok (.iload 5, 2) := by decide +kernel
theorem dX3_addSizes_27 : decode cX3_addSizes 27 = .ok (.invokevirtual 33, 3) := by decide +kernel
theorem dX3_addSizes_30 : decode cX3_addSizes 30 = .ok (.iadd, 1) := by decide +kernel
theorem dX3_addSizes_31 : decode cX3_addSizes 31 = .ok (.iadd, 1) := by decide +kernel
theorem dX3_addSizes_32 : decode cX3_addSizes 32 = .ok (.istore 4, 2) := by decide +kernel
theorem dX3_addSizes_34 : decode cX3_addSizes 34 = .ok (.aload_n 0, 1) := by decide +kernel
theorem dX3_addSizes_35 : decode cX3_addSizes 35 = .ok (.getfield 7, 3) := by decide +kernel
theorem dX3_addSizes_38 : decode cX3_addSizes 38 = .ok (.sipush 140, 3) := by decide +kernel
theorem dX3_addSizes_41 : decode cX3_addSizes 41 = .ok (.iload_n 1, 1) := by decide +kernel
theorem dX3_addSizes_42 : decode cX3_addSizes 42 = .ok (.imul, 1) := by decide +kernel
theorem dX3_addSizes_43 : decode cX3_addSizes 43 = .ok (.iload 5, 2) := by decide +kernel
theorem dX3_addSizes_45 : decode cX3_addSizes 45 = .ok (.iadd, 1) := by decide +kernel
theorem dX3_addSizes_46 : decode cX3_addSizes 46 = .ok (.iload 4, 2) := by decide +kernel
theorem dX3_addSizes_48 : decode cX3_addSizes 48 = .ok (.ldc 37, 2) := by decide +kernel
theorem dX3_addSizes_50 : decode cX3_addSizes 50 = .ok (.iand, 1) := by decide +kernel
theorem dX3_addSizes_51 : decode cX3_addSizes 51 = .ok (.iastore, 1) := by decide +kernel
theorem dX3_addSizes_52 : decode cX3_addSizes 52 = .ok (.iload 4, 2) := by decide +kernel
theorem dX3_addSizes_54 : decode cX3_addSizes 54 = .ok (.bipush 16, 2) := by decide +kernel
theorem dX3_addSizes_56 : decode cX3_addSizes 56 = .ok (.ishr, 1) := by decide +kernel
theorem dX3_addSizes_57 : decode cX3_addSizes 57 = .ok (.istore 4, 2) := by decide +kernel
theorem dX3_addSizes_59 : decode cX3_addSizes 59 = .ok (.iinc 5 1, 3) := by decide +kernel
theorem dX3_addSizes_62 : decode cX3_addSizes 62 = .ok (.goto (-56), 3) := by decide +kernel
theorem dX3_addSizes_65 : decode cX3_addSizes 65 = .ok (.return_, 1) := by decide +kernel
theorem dX3_takeSizes_0 : decode cX3_takeSizes 0 = .ok (.iconst 0, 1) := by decide +kernel
theorem dX3_takeSizes_1 : decode cX3_takeSizes 1 = .ok (.istore 4, 2) := by decide +kernel
theorem dX3_takeSizes_3 : decode cX3_takeSizes 3 = .ok (.iconst 0, 1) := by decide +kernel
theorem dX3_takeSizes_4 : decode cX3_takeSizes 4 = .ok (.istore 5, 2) := by decide +kernel
theorem dX3_takeSizes_6 : decode cX3_takeSizes 6 = .ok (.iload 5, 2) := by decide +kernel
theorem dX3_takeSizes_8 : decode cX3_takeSizes 8 = .ok (.sipush 140, 3) := by decide +kernel
theorem dX3_takeSizes_11 : decode cX3_takeSizes 11 = .ok (.if_icmp .ge 54, 3) := by decide +kernel
theorem dX3_takeSizes_14 : decode cX3_takeSizes 14 = .ok (.iload 4, 2) := by decide +kernel
theorem dX3_takeSizes_16 : decode cX3_takeSizes 16 = .ok (.aload_n 0, 1) := by decide +kernel
theorem dX3_takeSizes_17 : decode cX3_takeSizes 17 = .ok (.iload_n 2, 1) := by decide +kernel
theorem dX3_takeSizes_18 : decode cX3_takeSizes 18 = .ok (.iload 5, 2) := by decide +kernel
theorem dX3_takeSizes_20 : decode cX3_takeSizes 20 = .ok (.invokevirtual 33, 3) := by decide +kernel
theorem dX3_takeSizes_23 : decode cX3_takeSizes 23 = .ok (.aload_n 0, 1) := by decide +kernel
theorem dX3_takeSizes_24 : decode cX3_takeSizes 24 = .ok (.iload_n 3, 1) := by decide +kernel
theorem dX3_takeSizes_25 : decode cX3_takeSizes 25 = .ok (.iload 5, 2) := by decide +kernel
theorem dX3_takeSizes_27 : decode cX3_takeSizes 27 = .ok (.invokevirtual 33, 3) := by decide +kernel
theorem dX3_takeSizes_30 : decode cX3_takeSizes 30 = .ok (.isub, 1) := by decide +kernel
theorem dX3_takeSizes_31 : decode cX3_takeSizes 31 = .ok (.iadd, 1) := by decide +kernel
theorem dX3_takeSizes_32 : decode cX3_takeSizes 32 = .ok (.istore 4, 2) := by decide +kernel
theorem dX3_takeSizes_34 : decode cX3_takeSizes 34 = .ok (.aload_n 0, 1) := by decide +kernel
theorem dX3_takeSizes_35 : decode cX3_takeSizes 35 = .ok (.getfield 7, 3) := by decide +kernel
theorem dX3_takeSizes_38 : decode cX3_takeSizes 38 = .ok (.sipush 140, 3) := by decide +kernel
theorem dX3_takeSizes_41 : decode cX3_takeSizes 41 = .ok (.iload_n 1, 1) := by decide +kernel
theorem dX3_takeSizes_42 : decode cX3_takeSizes 42 = .ok (.imul, 1) := by decide +kernel
theorem dX3_takeSizes_43 : decode cX3_takeSizes 43 = .ok (.iload 5, 2) := by decide +kernel
theorem dX3_takeSizes_45 : decode cX3_takeSizes 45 = .ok (.iadd, 1) := by decide +kernel
theorem dX3_takeSizes_46 : decode cX3_takeSizes 46 = .ok (.iload 4, 2) := by decide +kernel
theorem dX3_takeSizes_48 : decode cX3_takeSizes 48 = .ok (.ldc 37, 2) := by decide +kernel
theorem dX3_takeSizes_50 : decode cX3_takeSizes 50 = .ok (.iand, 1) := by decide +kernel
theorem dX3_takeSizes_51 : decode cX3_takeSizes 51 = .ok (.iastore, 1) := by decide +kernel
theorem dX3_takeSizes_52 : decode cX3_takeSizes 52 = .ok (.iload 4, 2) := by decide +kernel
theorem dX3_takeSizes_54 : decode cX3_takeSizes 54 = .ok (.bipush 16, 2) := by decide +kernel
theorem dX3_takeSizes_56 : decode cX3_takeSizes 56 = .ok (.ishr, 1) := by decide +kernel
theorem dX3_takeSizes_57 : decode cX3_takeSizes 57 = .ok (.istore 4, 2) := by decide +kernel
theorem dX3_takeSizes_59 : decode cX3_takeSizes 59 = .ok (.iinc 5 1, 3) := by decide +kernel
theorem dX3_takeSizes_62 : decode cX3_takeSizes 62 = .ok (.goto (-56), 3) := by decide +kernel
theorem dX3_takeSizes_65 : decode cX3_takeSizes 65 = .ok (.return_, 1) := by decide +kernel
theorem dX3_combine_0 : decode cX3_combine 0 = .ok (.aload_n 0, 1) := by decide +kernel
theorem dX3_combine_1 : decode cX3_combine 1 = .ok (.getfield 13, 3) := by decide +kernel
theorem dX3_combine_4 : decode cX3_combine 4 = .ok (.iload_n 3, 1) := by decide +kernel
theorem dX3_combine_5 : decode cX3_combine 5 = .ok (.iaload, 1) := by decide +kernel
theorem dX3_combine_6 : decode cX3_combine 6 = .ok (.iload 4, 2) := by decide +kernel
theorem dX3_combine_8 : decode cX3_combine 8 = .ok (.imul, 1) := by decide +kernel
theorem dX3_combine_9 : decode cX3_combine 9 = .ok (.istore 5, 2) := by decide +kernel
theorem dX3_combine_11 : decode cX3_combine 11 = .ok (.aload_n 0, 1) := by decide +kernel
theorem dX3_combine_12 : decode cX3_combine 12 = .ok (.getfield 13, 3) := by decide +kernel
theorem dX3_combine_15 : decode cX3_combine 15 = .ok (.iload_n 2, 1) := by decide +kernel
theorem dX3_combine_16 : decode cX3_combine 16 = .ok (.iaload, 1) := by decide +kernel
theorem dX3_combine_17 : decode cX3_combine 17 = .ok (.ifCond .eq 19, 3) := by decide +kernel
theorem dX3_combine_20 : decode cX3_combine 20 = .ok (.iload 5, 2) := by decide +kernel
theorem dX3_combine_22 : decode cX3_combine 22 = .ok (.ifCond .eq 14, 3) := by decide +kernel
theorem dX3_combine_25 : decode cX3_combine 25 = .ok (.aload_n 0, 1) := by decide +kernel
theorem dX3_combine_26 : decode cX3_combine 26 = .ok (.getfield 13, 3) := by decide +kernel
theorem dX3_combine_29 : decode cX3_combine 29 = .ok (.iload_n 2, 1) := by decide +kernel
theorem dX3_combine_30 : decode cX3_combine 30 = .ok (.iaload, 1) := by decide +kernel
theorem dX3_combine_31 : decode cX3_combine 31 = .ok (.iload 5, 2) := by decide +kernel
theorem dX3_combine_33 : decode cX3_combine 33 = .ok (.if_icmp .ne 42, 3) := by decide +kernel
theorem dX3_combine_36 : decode cX3_combine 36 = .ok (.aload_n 0, 1) := by decide +kernel
theorem dX3_combine_37 : decode cX3_combine 37 = .ok (.getfield 13, 3) := by decide +kernel
theorem dX3_combine_40 : decode cX3_combine 40 = .ok (.iload_n 2, 1) := by decide +kernel
theorem dX3_combine_41 : decode cX3_combine 41 = .ok (.iaload, 1) := by decide +kernel
theorem dX3_combine_42 : decode cX3_combine 42 = .ok (.ifCond .ne 8, 3) := by decide +kernel
theorem dX3_combine_45 : decode cX3_combine 45 = .ok (.iload 5, 2) := by decide +kernel
theorem dX3_combine_47 : decode cX3_combine 47 = .ok (.goto 9, 3) := by decide +kernel
theorem dX3_combine_50 : decode cX3_combine 50 = .ok (.aload_n 0, 1) := by decide +kernel
theorem dX3_combine_51 : decode cX3_combine 51 = .ok (.getfield 13, 3) := by decide +kernel
theorem dX3_combine_54 : decode cX3_combine 54 = .ok (.iload_n 2, 1) := by decide +kernel
theorem dX3_combine_55 : decode cX3_combine 55 = .ok (.iaload, 1) := by decide +kernel
theorem dX3_combine_56 : decode cX3_combine 56 = .ok (.istore 6, 2) := by decide +kernel
theorem dX3_combine_58 : decode cX3_combine 58 = .ok (.aload_n 0, 1) := by decide +kernel
theorem dX3_combine_59 : decode cX3_combine 59 = .ok (.iload_n 1, 1) := by decide +kernel
theorem dX3_combine_60 : decode cX3_combine 60 = .ok (.iload_n 2, 1) := by decide +kernel
theorem dX3_combine_61 : decode cX3_combine 61 = .ok (.iload_n 3, 1) := by decide +kernel
theorem dX3_combine_62 : decode cX3_combine 62 = .ok (.invokevirtual 45, 3) := by decide +kernel
theorem dX3_combine_65 : decode cX3_combine 65 = .ok (.aload_n 0, 1) := by decide +kernel
theorem dX3_combine_66 : decode cX3_combine 66 = .ok (.iload_n 1, 1) := by decide +kernel
theorem dX3_combine_67 : decode cX3_combine 67 = .ok (.iload 6, 2) := by decide +kernel
theorem dX3_combine_69 : decode cX3_combine 69 = .ok (.invokevirtual 38, 3) := by decide +kernel
theorem dX3_combine_72 : decode cX3_combine 72 = .ok (.goto 51, 3) := by decide +kernel
theorem dX3_combine_75 : decode cX3_combine 75 = .ok (.aload_n 0, 1) := by decide +kernel
theorem dX3_combine_76 : decode cX3_combine 76 = .ok (.iload_n 2, 1) := by decide +kernel
theorem dX3_combine_77 : decode cX3_combine 77 = .ok (.iload_n 3, 1) := by decide +kernel
theorem dX3_combine_78 : decode cX3_combine 78 = .ok (.invokevirtual 42, 3) := by decide +kernel
theorem dX3_combine_81 : decode cX3_combine 81 = .ok (.ifCond .lt 28, 3) := by decide +kernel
theorem dX3_combine_84 : decode cX3_combine 84 = .ok (.aload_n 0, 1) := by decide +kernel
theorem dX3_combine_85 : decode cX3_combine 85 = .ok (.getfield 13, 3) := by decide +kernel
theorem dX3_combine_88 : decode cX3_combine 88 = .ok (.iload_n 2, 1) := by decide +kernel
theorem dX3_combine_89 : decode cX3_combine 89 = .ok (.iaload, 1) := by decide +kernel
theorem dX3_combine_90 : decode cX3_combine 90 = .ok (.istore 6, 2) := by decide +kernel
theorem dX3_combine_92 : decode cX3_combine 92 = .ok (.aload_n 0, 1) := by decide +kernel
theorem dX3_combine_93 : decode cX3_combine 93 = .ok (.iload_n 1, 1) := by decide +kernel
theorem dX3_combine_94 : decode cX3_combine 94 = .ok (.iload_n 2, 1) := by decide +kernel
theorem dX3_combine_95 : decode cX3_combine 95 = .ok (.iload_n 3, 1) := by decide +kernel
theorem dX3_combine_96 : decode cX3_combine 96 = .ok (.invokevirtual 48, 3) := by decide +kernel
theorem dX3_combine_99 : decode cX3_combine 99 = .ok (.aload_n 0, 1) := by decide +kernel
theorem dX3_combine_100 : decode cX3_combine 100 = .ok (.iload_n 1, 1) := by decide +kernel
theorem dX3_combine_101 : decode cX3_combine 101 = .ok (.iload 6, 2) := by decide +kernel
theorem dX3_combine_103 : decode cX3_combine 103 = .ok (.invokevirtual 38, 3) := by decide +kernel
theorem dX3_combine_106 : decode cX3_combine 106 = .ok (.goto 17, 3) := by decide +kernel
theorem dX3_combine_109 : decode cX3_combine 109 = .ok (.aload_n 0, 1) := by decide +kernel
theorem dX3_combine_110 : decode cX3_combine 110 = .ok (.iload_n 1, 1) := by decide +kernel
theorem dX3_combine_111 : decode cX3_combine 111 = .ok (.iload_n 3, 1) := by decide +kernel
theorem dX3_combine_112 : decode cX3_combine 112 = .ok (.iload_n 2, 1) := by decide +kernel
theorem dX3_combine_113 : decode cX3_combine 113 = .ok (.invokevirtual 48, 3) := by decide +kernel
theorem dX3_combine_116 : decode cX3_combine 116 = .ok (.aload_n 0, 1) := by decide +kernel
theorem dX3_combine_117 : decode cX3_combine 117 = .ok (.iload_n 1, 1) := by decide +kernel
theorem dX3_combine_118 : decode cX3_combine 118 = .ok (.iload 5, 2) := by decide +kernel
theorem dX3_combine_120 : decode cX3_combine 120 = .ok (.invokevirtual 38, 3) := by decide +kernel
theorem dX3_combine_123 : decode cX3_combine 123 = .ok (.return_, 1) := by decide +kernel
theorem dX3_multiply_0 : decode cX3_multiply 0 = .ok (.aload_n 0, 1) := by decide +kernel
theorem dX3_multiply_1 : decode cX3_multiply 1 = .ok (.getfield 13, 3) := by decide +kernel
theorem dX3_multiply_4 : decode cX3_multiply 4 = .ok (.iload_n 2, 1) := by decide +kernel
theorem dX3_multiply_5 : decode cX3_multiply 5 = .ok (.iaload, 1) := by decide +kernel
theorem dX3_multiply_6 : decode cX3_multiply 6 = .ok (.aload_n 0, 1) := by decide +kernel
theorem dX3_multiply_7 : decode cX3_multiply 7 = .ok (.getfield 13, 3) := by decide +kernel
theorem dX3_multiply_10 : decode cX3_multiply 10 = .ok (.iload_n 3, 1) := by decide +kernel
theorem dX3_multiply_11 : decode cX3_multiply 11 = .ok (.iaload, 1) := by decide +kernel
theorem dX3_multiply_12 : decode cX3_multiply 12 = .ok (.imul, 1) := by decide +kernel
theorem dX3_multiply_13 : decode cX3_multiply 13 = .ok (.istore 4, 2) := by decide +kernel
theorem dX3_multiply_15 : decode cX3_multiply 15 = .ok (.iconst 0, 1) := by decide +kernel
theorem dX3_multiply_16 : decode cX3_multiply 16 = .ok (.istore 5, 2) := by decide +kernel
theorem dX3_multiply_18 : decode cX3_multiply 18 = .ok (.iload 5, 2) := by decide +kernel
theorem dX3_multiply_20 : decode cX3_multiply 20 = .ok (.sipush 280, 3) := by decide +kernel
theorem dX3_multiply_23 : decode cX3_multiply 23 = .ok (.if_icmp .ge 17, 3) := by decide +kernel
theorem dX3_multiply_26 : decode cX3_multiply 26 = .ok (.aload_n 0, 1) := by decide +kernel
theorem dX3_multiply_27 : decode cX3_multiply 27 = .ok (.getfield 16, 3) := by decide +kernel
theorem dX3_multiply_30 : decode cX3_multiply 30 = .ok (.iload 5, 2) := by decide +kernel
theorem dX3_multiply_32 : decode cX3_multiply 32 = .ok (.lconst 0, 1) := by decide +kernel
theorem dX3_multiply_33 : decode cX3_multiply 33 = .ok (.lastore, 1) := by decide +kernel
theorem dX3_multiply_34 : decode cX3_multiply 34 = .ok (.iinc 5 1, 3) := by decide +kernel
theorem dX3_multiply_37 : decode cX3_multiply 37 = .ok (.goto (-19), 3) := by decide +kernel
theorem dX3_multiply_40 : decode cX3_multiply 40 = .ok (.iconst 0, 1) := by decide +kernel
theorem dX3_multiply_41 : decode cX3_multiply 41 = .ok (.istore 5, 2) := by decide +kernel
theorem dX3_multiply_43 : decode cX3_multiply 43 = .ok (.iload 5, 2) := by decide +kernel
theorem dX3_multiply_45 : decode cX3_multiply 45 = .ok (.sipush 140, 3) := by decide +kernel
theorem dX3_multiply_48 : decode cX3_multiply 48 = .ok (.if_icmp .ge 66, 3) := by decide +kernel
theorem dX3_multiply_51 : decode cX3_multiply 51 = .ok (.iconst 0, 1) := by decide +kernel
theorem dX3_multiply_52 : decode cX3_multiply 52 = .ok (.istore 6, 2) := by decide +kernel
theorem dX3_multiply_54 : decode cX3_multiply 54 = .ok (.iload 6, 2) := by decide +kernel
theorem dX3_multiply_56 : decode cX3_multiply 56 = .ok (.sipush 140, 3) := by decide +kernel
theorem dX3_multiply_59 : decode cX3_multiply 59 = .ok (.if_icmp .ge 49, 3) := by decide +kernel
theorem dX3_multiply_62 : decode cX3_multiply 62 = .ok (.aload_n 0, 1) := by decide +kernel
theorem dX3_multiply_63 : decode cX3_multiply 63 = .ok (.iload_n 2, 1) := by decide +kernel
theorem dX3_multiply_64 : decode cX3_multiply 64 = .ok (.iload 5, 2) := by decide +kernel
theorem dX3_multiply_66 : decode cX3_multiply 66 = .ok (.invokevirtual 33, 3) := by decide +kernel
theorem dX3_multiply_69 : decode cX3_multiply 69 = .ok (.ifCond .eq 39, 3) := by decide +kernel
theorem dX3_multiply_72 : decode cX3_multiply 72 = .ok (.aload_n 0, 1) := by decide +kernel
theorem dX3_multiply_73 : decode cX3_multiply 73 = .ok (.getfield 16, 3) := by decide +kernel
theorem dX3_multiply_76 : decode cX3_multiply 76 = .ok (.iload 5, 2) := by decide +kernel
theorem dX3_multiply_78 : decode cX3_multiply 78 = .ok (.iload 6, 2) := by decide +kernel
theorem dX3_multiply_80 : decode cX3_multiply 80 = .ok (.iadd, 1) := by decide +kernel
theorem dX3_multiply_81 : decode cX3_multiply 81 = .ok (.dup2, 1) := by decide +kernel
theorem dX3_multiply_82 : decode cX3_multiply 82 = .ok (.laload, 1) := by decide +kernel
theorem dX3_multiply_83 : decode cX3_multiply 83 = .ok (.aload_n 0, 1) := by decide +kernel
theorem dX3_multiply_84 : decode cX3_multiply 84 = .ok (.iload_n 2, 1) := by decide +kernel
theorem dX3_multiply_85 : decode cX3_multiply 85 = .ok (.iload 5, 2) := by decide +kernel
theorem dX3_multiply_87 : decode cX3_multiply 87 = .ok (.invokevirtual 33, 3) := by decide +kernel
theorem dX3_multiply_90 : decode cX3_multiply 90 = .ok (.i2l, 1) := by decide +kernel
theorem dX3_multiply_91 : decode cX3_multiply 91 = .ok (.aload_n 0, 1) := by decide +kernel
theorem dX3_multiply_92 : decode cX3_multiply 92 = .ok (.iload_n 3, 1) := by decide +kernel
theorem dX3_multiply_93 : decode cX3_multiply 93 = .ok (.iload 6, 2) := by decide +kernel
theorem dX3_multiply_95 : decode cX3_multiply 95 = .ok (.invokevirtual 33, 3) := by decide +kernel
theorem dX3_multiply_98 : decode cX3_multiply 98 = .ok (.i2l, 1) := by decide +kernel
theorem dX3_multiply_99 : decode cX3_multiply 99 = .ok (.lmul, 1) := by decide +kernel
theorem dX3_multiply_100 : decode cX3_multiply 100 = .ok (.ladd, 1) := by decide +kernel
theorem dX3_multiply_101 : decode cX3_multiply 101 = .ok (.lastore, 1) := by decide +kernel
theorem dX3_multiply_102 : decode cX3_multiply 102 = .ok (.iinc 6 1, 3) := by decide +kernel
theorem dX3_multiply_105 : decode cX3_multiply 105 = .ok (.goto (-51), 3) := by decide +kernel
theorem dX3_multiply_108 : decode cX3_multiply 108 = .ok (.iinc 5 1, 3) := by decide +kernel
theorem dX3_multiply_111 : decode cX3_multiply 111 = .ok (.goto (-68), 3) := by decide +kernel
theorem dX3_multiply_114 : decode cX3_multiply 114 = .ok (.lconst 0, 1) := by decide +kernel
theorem dX3_multiply_115 : decode cX3_multiply 115 = .ok (.lstore 5, 2) := by decide +kernel
theorem dX3_multiply_117 : decode cX3_multiply 117 = .ok (.iconst 0, 1) := by decide +kernel
theorem dX3_multiply_118 : decode cX3_multiply 118 = .ok (.istore 7, 2) := by decide +kernel
theorem dX3_multiply_120 : decode cX3_multiply 120 = .ok (.iload 7, 2) := by decide +kernel
theorem dX3_multiply_122 : decode cX3_multiply 122 = .ok (.sipush 140, 3) := by decide +kernel
theorem dX3_multiply_125 : decode cX3_multiply 125 = .ok (.if_icmp .ge 48, 3) := by decide +kernel
theorem dX3_multiply_128 : decode cX3_multiply 128 = .ok (.lload 5, 2) := by decide +kernel
theorem dX3_multiply_130 : decode cX3_multiply 130 = .ok (.aload_n 0, 1) := by decide +kernel
theorem dX3_multiply_131 : decode cX3_multiply 131 = .ok (.getfield 16, 3) := by decide +kernel
theorem dX3_multiply_134 : decode cX3_multiply 134 = .ok (.iload 7, 2) := by decide +kernel
theorem dX3_multiply_136 : decode cX3_multiply 136 = .ok (.laload, 1) := by decide +kernel
theorem dX3_multiply_137 : decode cX3_multiply 137 = .ok (.ladd, 1) := by decide +kernel
theorem dX3_multiply_138 : decode cX3_multiply 138 = .ok (.lstore 5, 2) := by decide +kernel
theorem dX3_multiply_140 : decode cX3_multiply 140 = .ok (.aload_n 0, 1) := by decide +kernel
theorem dX3_multiply_141 : decode cX3_multiply 141 = .ok (.getfield 7, 3) := by decide +kernel
theorem dX3_multiply_144 : decode cX3_multiply 144 = .ok (.sipush 140, 3) := by decide +kernel
theorem dX3_multiply_147 : decode cX3_multiply 147 = .ok (.iload_n 1, 1) := by decide +kernel
theorem dX3_multiply_148 : decode cX3_multiply 148 = .ok (.imul, 1) := by decide +kernel
theorem dX3_multiply_149 : decode cX3_multiply 149 = .ok (.iload 7, 2) := by decide +kernel
theorem dX3_multiply_151 : decode cX3_multiply 151 = .ok (.iadd, 1) := by decide +kernel
theorem dX3_multiply_152 : decode cX3_multiply 152 = .ok (.lload 5, 2) := by decide +kernel
theorem dX3_multiply_154 : decode cX3_multiply 154 = .ok (.ldc2_w 51, 3) := by decide +kernel
theorem dX3_multiply_157 : decode cX3_multiply 157 = .ok (.land, 1) := by decide +kernel
theorem dX3_multiply_158 : decode cX3_multiply 158 = .ok (.l2i, 1) := by decide +kernel
theorem dX3_multiply_159 : decode cX3_multiply 159 = .ok (.iastore, 1) := by decide +kernel
theorem dX3_multiply_160 : decode cX3_multiply 160 = .ok (.lload 5, 2) := by decide +kernel
theorem dX3_multiply_162 : decode cX3_multiply 162 = .ok (.bipush 16, 2) := by decide +kernel
theorem dX3_multiply_164 : decode cX3_multiply 164 = .ok (.lshr, 1) := by decide +kernel
theorem dX3_multiply_165 : decode cX3_multiply 165 = .ok (.lstore 5, 2) := by decide +kernel
theorem dX3_multiply_167 : decode cX3_multiply 167 = .ok (.iinc 7 1, 3) := by decide +kernel
theorem dX3_multiply_170 : decode cX3_multiply 170 = .ok (.goto (-50), 3) := by decide +kernel
theorem dX3_multiply_173 : decode cX3_multiply 173 = .ok (.aload_n 0, 1) := by decide +kernel
theorem dX3_multiply_174 : decode cX3_multiply 174 = .ok (.iload_n 1, 1) := by decide +kernel
theorem dX3_multiply_175 : decode cX3_multiply 175 = .ok (.iload 4, 2) := by decide +kernel
theorem dX3_multiply_177 : decode cX3_multiply 177 = .ok (.invokevirtual 38, 3) := by decide +kernel
theorem dX3_multiply_180 : decode cX3_multiply 180 = .ok (.return_, 1) := by decide +kernel
theorem dX3_bit_0 : decode cX3_bit 0 = .ok (.aload_n 0, 1) := by decide +kernel
theorem dX3_bit_1 : decode cX3_bit 1 = .ok (.iload_n 1, 1) := by decide +kernel
theorem dX3_bit_2 : decode cX3_bit 2 = .ok (.iload_n 2, 1) := by decide +kernel
theorem dX3_bit_3 : decode cX3_bit 3 = .ok (.bipush 16, 2) := by decide +kernel
theorem dX3_bit_5 : decode cX3_bit 5 = .ok (.idiv, 1) := by decide +kernel
theorem dX3_bit_6 : decode cX3_bit 6 = .ok (.invokevirtual 33, 3) := by decide +kernel
theorem dX3_bit_9 : decode cX3_bit 9 = .ok (.iload_n 2, 1) := by decide +kernel
theorem dX3_bit_10 : decode cX3_bit 10 = .ok (.bipush 16, 2) := by decide +kernel
theorem dX3_bit_12 : decode cX3_bit 12 = .ok (.irem, 1) := by decide +kernel
theorem dX3_bit_13 : decode cX3_bit 13 = .ok (.ishr, 1) := by decide +kernel
theorem dX3_bit_14 : decode cX3_bit 14 = .ok (.iconst 1, 1) := by decide +kernel
theorem dX3_bit_15 : decode cX3_bit 15 = .ok (.iand, 1) := by decide +kernel
theorem dX3_bit_16 : decode cX3_bit 16 = .ok (.ireturn, 1) := by decide +kernel
theorem dX3_half_0 : decode cX3_half 0 = .ok (.iconst 0, 1) := by decide +kernel
theorem dX3_half_1 : decode cX3_half 1 = .ok (.istore_n 2, 1) := by decide +kernel
theorem dX3_half_2 : decode cX3_half 2 = .ok (.iload_n 2, 1) := by decide +kernel
theorem dX3_half_3 : decode cX3_half 3 = .ok (.sipush 140, 3) := by decide +kernel
theorem dX3_half_6 : decode cX3_half 6 = .ok (.if_icmp .ge 58, 3) := by decide +kernel
theorem dX3_half_9 : decode cX3_half 9 = .ok (.iload_n 2, 1) := by decide +kernel
theorem dX3_half_10 : decode cX3_half 10 = .ok (.iconst 1, 1) := by decide +kernel
theorem dX3_half_11 : decode cX3_half 11 = .ok (.iadd, 1) := by decide +kernel
theorem dX3_half_12 : decode cX3_half 12 = .ok (.sipush 140, 3) := by decide +kernel
theorem dX3_half_15 : decode cX3_half 15 = .ok (.if_icmp .ge 14, 3) := by decide +kernel
theorem dX3_half_18 : decode cX3_half 18 = .ok (.aload_n 0, 1) := by decide +kernel
theorem dX3_half_19 : decode cX3_half 19 = .ok (.iload_n 1, 1) := by decide +kernel
theorem dX3_half_20 : decode cX3_half 20 = .ok (.iload_n 2, 1) := by decide +kernel
theorem dX3_half_21 : decode cX3_half 21 = .ok (.iconst 1, 1) := by decide +kernel
theorem dX3_half_22 : decode cX3_half 22 = .ok (.iadd, 1) := by decide +kernel
theorem dX3_half_23 : decode cX3_half 23 = .ok (.invokevirtual 33, 3) := by decide +kernel
theorem dX3_half_26 : decode cX3_half 26 = .ok (.goto 4, 3) := by decide +kernel
theorem dX3_half_29 : decode cX3_half 29 = .ok (.iconst 0, 1) := by decide +kernel
theorem dX3_half_30 : decode cX3_half 30 = .ok (.istore_n 3, 1) := by decide +kernel
theorem dX3_half_31 : decode cX3_half 31 = .ok (.aload_n 0, 1) := by decide +kernel
theorem dX3_half_32 : decode cX3_half 32 = .ok (.getfield 7, 3) := by decide +kernel
theorem dX3_half_35 : decode cX3_half 35 = .ok (.sipush 140, 3) := by decide +kernel
theorem dX3_half_38 : decode cX3_half 38 = .ok (.iload_n 1, 1) := by decide +kernel
theorem dX3_half_39 : decode cX3_half 39 = .ok (.imul, 1) := by decide +kernel
theorem dX3_half_40 : decode cX3_half 40 = .ok (.iload_n 2, 1) := by decide +kernel
theorem dX3_half_41 : decode cX3_half 41 = .ok (.iadd, 1) := by decide +kernel
theorem dX3_half_42 : decode cX3_half 42 = .ok (.aload_n 0, 1) := by decide +kernel
theorem dX3_half_43 : decode cX3_half 43 = .ok (.iload_n 1, 1) := by decide +kernel
theorem dX3_half_44 : decode cX3_half 44 = .ok (.iload_n 2, 1) := by decide +kernel
theorem dX3_half_45 : decode cX3_half 45 = .ok (.invokevirtual 33, 3) := by decide +kernel
theorem dX3_half_48 : decode cX3_half 48 = .ok (.iconst 1, 1) := by decide +kernel
theorem dX3_half_49 : decode cX3_half 49 = .ok (.ishr, 1) := by decide +kernel
theorem dX3_half_50 : decode cX3_half 50 = .ok (.iload_n 3, 1) := by decide +kernel
theorem dX3_half_51 : decode cX3_half 51 = .ok (.iconst 1, 1) := by decide +kernel
theorem dX3_half_52 : decode cX3_half 52 = .ok (.iand, 1) := by decide +kernel
theorem dX3_half_53 : decode cX3_half 53 = .ok (.bipush 15, 2) := by decide +kernel
theorem dX3_half_55 : decode cX3_half 55 = .ok (.ishl, 1) := by decide +kernel
theorem dX3_half_56 : decode cX3_half 56 = .ok (.ior, 1) := by decide +kernel
theorem dX3_half_57 : decode cX3_half 57 = .ok (.iastore, 1) := by decide +kernel
theorem dX3_half_58 : decode cX3_half 58 = .ok (.iinc 2 1, 3) := by decide +kernel
theorem dX3_half_61 : decode cX3_half 61 = .ok (.goto (-59), 3) := by decide +kernel
theorem dX3_half_64 : decode cX3_half 64 = .ok (.aload_n 0, 1) := by decide +kernel
theorem dX3_half_65 : decode cX3_half 65 = .ok (.iload_n 1, 1) := by decide +kernel
theorem dX3_half_66 : decode cX3_half 66 = .ok (.aload_n 0, 1) := by decide +kernel
theorem dX3_half_67 : decode cX3_half 67 = .ok (.getfield 13, 3) := by decide +kernel
theorem dX3_half_70 : decode cX3_half 70 = .ok (.iload_n 1, 1) := by decide +kernel
theorem dX3_half_71 : decode cX3_half 71 = .ok (.iaload, 1) := by decide +kernel
theorem dX3_half_72 : decode cX3_half 72 = .ok (.invokevirtual 38, 3) := by decide +kernel
theorem dX3_half_75 : decode cX3_half 75 = .ok (.return_, 1) := by decide +kernel
theorem dX3_twice_0 : decode cX3_twice 0 = .ok (.iload_n 2, 1) := by decide +kernel
theorem dX3_twice_1 : decode cX3_twice 1 = .ok (.istore_n 3, 1) := by decide +kernel
theorem dX3_twice_2 : decode cX3_twice 2 = .ok (.iconst 0, 1) := by decide +kernel
theorem dX3_twice_3 : decode cX3_twice 3 = .ok (.istore 4, 2) := by decide +kernel
theorem dX3_twice_5 : decode cX3_twice 5 = .ok (.iload 4, 2) := by decide +kernel
theorem dX3_twice_7 : decode cX3_twice 7 = .ok (.sipush 140, 3) := by decide +kernel
theorem dX3_twice_10 : decode cX3_twice 10 = .ok (.if_icmp .ge 43, 3) := by decide +kernel
theorem dX3_twice_13 : decode cX3_twice 13 = .ok (.iload_n 3, 1) := by decide +kernel
theorem dX3_twice_14 : decode cX3_twice 14 = .ok (.iconst 2, 1) := by decide +kernel
theorem dX3_twice_15 : decode cX3_twice 15 = .ok (.aload_n 0, 1) := by decide +kernel
theorem dX3_twice_16 : decode cX3_twice 16 = .ok (.iload_n 1, 1) := by decide +kernel
theorem dX3_twice_17 : decode cX3_twice 17 = .ok (.iload 4, 2) := by decide +kernel
theorem dX3_twice_19 : decode cX3_twice 19 = .ok (.invokevirtual 33, 3) := by decide +kernel
theorem dX3_twice_22 : decode cX3_twice 22 = .ok (.imul, 1) := by decide +kernel
theorem dX3_twice_23 : decode cX3_twice 23 = .ok (.iadd, 1) := by decide +kernel
theorem dX3_twice_24 : decode cX3_twice 24 = .ok (.istore_n 3, 1) := by decide +kernel
theorem dX3_twice_25 : decode cX3_twice 25 = .ok (.aload_n 0, 1) := by decide +kernel
theorem dX3_twice_26 : decode cX3_twice 26 = .ok (.getfield 7, 3) := by decide +kernel
theorem dX3_twice_29 : decode cX3_twice 29 = .ok (.sipush 140, 3) := by decide +kernel
theorem dX3_twice_32 : decode cX3_twice 32 = .ok (.iload_n 1, 1) := by decide +kernel
theorem dX3_twice_33 : decode cX3_twice 33 = .ok (.imul, 1) := by decide +kernel
theorem dX3_twice_34 : decode cX3_twice 34 = .ok (.iload 4, 2) := by decide +kernel
theorem dX3_twice_36 : decode cX3_twice 36 = .ok (.iadd, 1) := by decide +kernel
theorem dX3_twice_37 : decode cX3_twice 37 = .ok (.iload_n 3, 1) := by decide +kernel
theorem dX3_twice_38 : decode cX3_twice 38 = .ok (.ldc 37, 2) := by decide +kernel
theorem dX3_twice_40 : decode cX3_twice 40 = .ok (.iand, 1) := by decide +kernel
theorem dX3_twice_41 : decode cX3_twice 41 = .ok (.iastore, 1) := by decide +kernel
theorem dX3_twice_42 : decode cX3_twice 42 = .ok (.iload_n 3, 1) := by decide +kernel
theorem dX3_twice_43 : decode cX3_twice 43 = .ok (.bipush 16, 2) := by decide +kernel
theorem dX3_twice_45 : decode cX3_twice 45 = .ok (.ishr, 1) := by decide +kernel
theorem dX3_twice_46 : decode cX3_twice 46 = .ok (.istore_n 3, 1) := by decide +kernel
theorem dX3_twice_47 : decode cX3_twice 47 = .ok (.iinc 4 1, 3) := by decide +kernel
theorem dX3_twice_50 : decode cX3_twice 50 = .ok (.goto (-45), 3) := by decide +kernel
theorem dX3_twice_53 : decode cX3_twice 53 = .ok (.aload_n 0, 1) := by decide +kernel
theorem dX3_twice_54 : decode cX3_twice 54 = .ok (.iload_n 1, 1) := by decide +kernel
theorem dX3_twice_55 : decode cX3_twice 55 = .ok (.iconst 1, 1) := by decide +kernel
theorem dX3_twice_56 : decode cX3_twice 56 = .ok (.invokevirtual 38, 3) := by decide +kernel
theorem dX3_twice_59 : decode cX3_twice 59 = .ok (.return_, 1) := by decide +kernel
theorem dX3_divide_0 : decode cX3_divide 0 = .ok (.aload_n 0, 1) := by decide +kernel
theorem dX3_divide_1 : decode cX3_divide 1 = .ok (.bipush 18, 2) := by decide +kernel
theorem dX3_divide_3 : decode cX3_divide 3 = .ok (.lconst 0, 1) := by decide +kernel
theorem dX3_divide_4 : decode cX3_divide 4 = .ok (.invokevirtual 23, 3) := by decide +kernel
theorem dX3_divide_7 : decode cX3_divide 7 = .ok (.aload_n 0, 1) := by decide +kernel
theorem dX3_divide_8 : decode cX3_divide 8 = .ok (.bipush 19, 2) := by decide +kernel
theorem dX3_divide_10 : decode cX3_divide 10 = .ok (.lconst 0, 1) := by decide +kernel
theorem dX3_divide_11 : decode cX3_divide 11 = .ok (.invokevirtual 23, 3) := by decide +kernel
theorem dX3_divide_14 : decode cX3_divide 14 = .ok (.sipush 2239, 3) := by decide +kernel
theorem dX3_divide_17 : decode cX3_divide 17 = .ok (.istore_n 3, 1) := by decide +kernel
theorem dX3_divide_18 : decode cX3_divide 18 = .ok (.iload_n 3, 1) := by decide +kernel
theorem dX3_divide_19 : decode cX3_divide 19 = .ok (.ifCond .lt 101, 3) := by decide +kernel
theorem dX3_divide_22 : decode cX3_divide 22 = .ok (.aload_n 0, 1) := by decide +kernel
theorem dX3_divide_23 : decode cX3_divide 23 = .ok (.getfield 13, 3) := by decide +kernel
theorem dX3_divide_26 : decode cX3_divide 26 = .ok (.bipush 19, 2) := by decide +kernel
theorem dX3_divide_28 : decode cX3_divide 28 = .ok (.iaload, 1) := by decide +kernel
theorem dX3_divide_29 : decode cX3_divide 29 = .ok (.ifCond .ne 13, 3) := by decide +kernel
theorem dX3_divide_32 : decode cX3_divide 32 = .ok (.aload_n 0, 1) := by decide +kernel
theorem dX3_divide_33 : decode cX3_divide 33 = .ok (.iload_n 1, 1) := by decide +kernel
theorem dX3_divide_34 : decode cX3_divide 34 = .ok (.iload_n 3, 1) := by decide +kernel
theorem dX3_divide_35 : decode cX3_divide 35 = .ok (.invokevirtual 53, 3) := by decide +kernel
theorem dX3_divide_38 : decode cX3_divide 38 = .ok (.iconst 1, 1) := by decide +kernel
theorem dX3_divide_39 : decode cX3_divide 39 = .ok (.if_icmp .ne 7, 3) := by decide +kernel
theorem dX3_divide_42 : decode cX3_divide 42 = .ok (.iconst 1, 1) := by decide +kernel
theorem dX3_divide_43 : decode cX3_divide 43 = .ok (.goto 4, 3) := by decide +kernel
theorem dX3_divide_46 : decode cX3_divide 46 = .ok (.iconst 0, 1) := by decide +kernel
theorem dX3_divide_47 : decode cX3_divide 47 = .ok (.istore 4, 2) := by decide +kernel
theorem dX3_divide_49 : decode cX3_divide 49 = .ok (.iload 4, 2) := by decide +kernel
theorem dX3_divide_51 : decode cX3_divide 51 = .ok (.ifCond .eq 63, 3) := by decide +kernel
theorem dX3_divide_54 : decode cX3_divide 54 = .ok (.aload_n 0, 1) := by decide +kernel
theorem dX3_divide_55 : decode cX3_divide 55 = .ok (.bipush 19, 2) := by decide +kernel
theorem dX3_divide_57 : decode cX3_divide 57 = .ok (.aload_n 0, 1) := by decide +kernel
theorem dX3_divide_58 : decode cX3_divide 58 = .ok (.iload_n 1, 1) := by decide +kernel
theorem dX3_divide_59 : decode cX3_divide 59 = .ok (.iload_n 3, 1) := by decide +kernel
theorem dX3_divide_60 : decode cX3_divide 60 = .ok (.invokevirtual 53, 3) := by decide +kernel
theorem dX3_divide_63 : decode cX3_divide 63 = .ok (.invokevirtual 56, 3) := by decide +kernel
theorem dX3_divide_66 : decode cX3_divide 66 = .ok (.aload_n 0, 1) := by decide +kernel
theorem dX3_divide_67 : decode cX3_divide 67 = .ok (.bipush 19, 2) := by decide +kernel
theorem dX3_divide_69 : decode cX3_divide 69 = .ok (.iload_n 2, 1) := by decide +kernel
theorem dX3_divide_70 : decode cX3_divide 70 = .ok (.invokevirtual 42, 3) := by decide +kernel
theorem dX3_divide_73 : decode cX3_divide 73 = .ok (.ifCond .lt 41, 3) := by decide +kernel
theorem dX3_divide_76 : decode cX3_divide 76 = .ok (.aload_n 0, 1) := by decide +kernel
theorem dX3_divide_77 : decode cX3_divide 77 = .ok (.bipush 19, 2) := by decide +kernel
theorem dX3_divide_79 : decode cX3_divide 79 = .ok (.bipush 19, 2) := by decide +kernel
theorem dX3_divide_81 : decode cX3_divide 81 = .ok (.iload_n 2, 1) := by decide +kernel
theorem dX3_divide_82 : decode cX3_divide 82 = .ok (.invokevirtual 48, 3) := by decide +kernel
theorem dX3_divide_85 : decode cX3_divide 85 = .ok (.aload_n 0, 1) := by decide +kernel
theorem dX3_divide_86 : decode cX3_divide 86 = .ok (.bipush 19, 2) := by decide +kernel
theorem dX3_divide_88 : decode cX3_divide 88 = .ok (.iconst 1, 1) := by decide +kernel
theorem dX3_divide_89 : decode cX3_divide 89 = .ok (.invokevirtual 38, 3) := by decide +kernel
theorem dX3_divide_92 : decode cX3_divide 92 = .ok (.aload_n 0, 1) := by decide +kernel
theorem dX3_divide_93 : decode cX3_divide 93 = .ok (.getfield 7, 3) := by decide +kernel
theorem dX3_divide_96 : decode cX3_divide 96 = .ok (.sipush 2520, 3) := by decide +kernel
theorem dX3_divide_99 : decode cX3_divide 99 = .ok (.iload_n 3, 1) := by decide +kernel
theorem dX3_divide_100 : decode cX3_divide 100 = .ok (.bipush 16, 2) := by decide +kernel
theorem dX3_divide_102 : decode cX3_divide 102 = .ok (.idiv, 1) := by decide +kernel
theorem dX3_divide_103 : decode cX3_divide 103 = .ok (.iadd, 1) := by decide +kernel
theorem dX3_divide_104 : decode cX3_divide 104 = .ok (.dup2, 1) := by decide +kernel
theorem dX3_divide_105 : decode cX3_divide 105 = .ok (.iaload, 1) := by decide +kernel
theorem dX3_divide_106 : decode cX3_divide 106 = .ok (.iconst 1, 1) := by decide +kernel
theorem dX3_divide_107 : decode cX3_divide 107 = .ok (.iload_n 3, 1) := by decide +kernel
theorem dX3_divide_108 : decode cX3_divide 108 = .ok (.bipush 16, 2) := by decide +kernel
theorem dX3_divide_110 : decode cX3_divide 110 = .ok (.irem, 1) := by decide +kernel
theorem dX3_divide_111 : decode cX3_divide 111 = .ok (.ishl, 1) := by decide +kernel
theorem dX3_divide_112 : decode cX3_divide 112 = .ok (.ior, 1) := by decide +kernel
theorem dX3_divide_113 : decode cX3_divide 113 = .ok (.iastore, 1) := by decide +kernel
theorem dX3_divide_114 : decode cX3_divide 114 = .ok (.iinc 3 (-1), 3) := by decide +kernel
theorem dX3_divide_117 : decode cX3_divide 117 = .ok (.goto (-99), 3) := by decide +kernel
theorem dX3_divide_120 : decode cX3_divide 120 = .ok (.aload_n 0, 1) := by decide +kernel
theorem dX3_divide_121 : decode cX3_divide 121 = .ok (.bipush 18, 2) := by decide +kernel
theorem dX3_divide_123 : decode cX3_divide 123 = .ok (.aload_n 0, 1) := by decide +kernel
theorem dX3_divide_124 : decode cX3_divide 124 = .ok (.getfield 13, 3) := by decide +kernel
theorem dX3_divide_127 : decode cX3_divide 127 = .ok (.iload_n 1, 1) := by decide +kernel
theorem dX3_divide_128 : decode cX3_divide 128 = .ok (.iaload, 1) := by decide +kernel
theorem dX3_divide_129 : decode cX3_divide 129 = .ok (.aload_n 0, 1) := by decide +kernel
theorem dX3_divide_130 : decode cX3_divide 130 = .ok (.getfield 13, 3) := by decide +kernel
theorem dX3_divide_133 : decode cX3_divide 133 = .ok (.iload_n 2, 1) := by decide +kernel
theorem dX3_divide_134 : decode cX3_divide 134 = .ok (.iaload, 1) := by decide +kernel
theorem dX3_divide_135 : decode cX3_divide 135 = .ok (.imul, 1) := by decide +kernel
theorem dX3_divide_136 : decode cX3_divide 136 = .ok (.invokevirtual 38, 3) := by decide +kernel
theorem dX3_divide_139 : decode cX3_divide 139 = .ok (.aload_n 0, 1) := by decide +kernel
theorem dX3_divide_140 : decode cX3_divide 140 = .ok (.bipush 19, 2) := by decide +kernel
theorem dX3_divide_142 : decode cX3_divide 142 = .ok (.aload_n 0, 1) := by decide +kernel
theorem dX3_divide_143 : decode cX3_divide 143 = .ok (.getfield 13, 3) := by decide +kernel
theorem dX3_divide_146 : decode cX3_divide 146 = .ok (.iload_n 1, 1) := by decide +kernel
theorem dX3_divide_147 : decode cX3_divide 147 = .ok (.iaload, 1) := by decide +kernel
theorem dX3_divide_148 : decode cX3_divide 148 = .ok (.invokevirtual 38, 3) := by decide +kernel
theorem dX3_divide_151 : decode cX3_divide 151 = .ok (.return_, 1) := by decide +kernel
theorem dX3_size_0 : decode cX3_size 0 = .ok (.aload_n 0, 1) := by decide +kernel
theorem dX3_size_1 : decode cX3_size 1 = .ok (.iload_n 1, 1) := by decide +kernel
theorem dX3_size_2 : decode cX3_size 2 = .ok (.iload_n 2, 1) := by decide +kernel
theorem dX3_size_3 : decode cX3_size 3 = .ok (.invokevirtual 59, 3) := by decide +kernel
theorem dX3_size_6 : decode cX3_size 6 = .ok (.aload_n 0, 1) := by decide +kernel
theorem dX3_size_7 : decode cX3_size 7 = .ok (.getfield 13, 3) := by decide +kernel
theorem dX3_size_10 : decode cX3_size 10 = .ok (.iload_n 1, 1) := by decide +kernel
theorem dX3_size_11 : decode cX3_size 11 = .ok (.aload_n 0, 1) := by decide +kernel
theorem dX3_size_12 : decode cX3_size 12 = .ok (.getfield 13, 3) := by decide +kernel
theorem dX3_size_15 : decode cX3_size 15 = .ok (.iload_n 2, 1) := by decide +kernel
theorem dX3_size_16 : decode cX3_size 16 = .ok (.iaload, 1) := by decide +kernel
theorem dX3_size_17 : decode cX3_size 17 = .ok (.ifCond .ne 7, 3) := by decide +kernel
theorem dX3_size_20 : decode cX3_size 20 = .ok (.iconst 0, 1) := by decide +kernel
theorem dX3_size_21 : decode cX3_size 21 = .ok (.goto 4, 3) := by decide +kernel
theorem dX3_size_24 : decode cX3_size 24 = .ok (.iconst 1, 1) := by decide +kernel
theorem dX3_size_25 : decode cX3_size 25 = .ok (.iastore, 1) := by decide +kernel
theorem dX3_size_26 : decode cX3_size 26 = .ok (.return_, 1) := by decide +kernel
theorem dX3_common_0 : decode cX3_common 0 = .ok (.aload_n 0, 1) := by decide +kernel
theorem dX3_common_1 : decode cX3_common 1 = .ok (.bipush 20, 2) := by decide +kernel
theorem dX3_common_3 : decode cX3_common 3 = .ok (.iload_n 1, 1) := by decide +kernel
theorem dX3_common_4 : decode cX3_common 4 = .ok (.invokevirtual 62, 3) := by decide +kernel
theorem dX3_common_7 : decode cX3_common 7 = .ok (.aload_n 0, 1) := by decide +kernel
theorem dX3_common_8 : decode cX3_common 8 = .ok (.bipush 21, 2) := by decide +kernel
theorem dX3_common_10 : decode cX3_common 10 = .ok (.iload_n 2, 1) := by decide +kernel
theorem dX3_common_11 : decode cX3_common 11 = .ok (.invokevirtual 62, 3) := by decide +kernel
theorem dX3_common_14 : decode cX3_common 14 = .ok (.aload_n 0, 1) := by decide +kernel
theorem dX3_common_15 : decode cX3_common 15 = .ok (.getfield 13, 3) := by decide +kernel
theorem dX3_common_18 : decode cX3_common 18 = .ok (.bipush 20, 2) := by decide +kernel
theorem dX3_common_20 : decode cX3_common 20 = .ok (.iaload, 1) := by decide +kernel
theorem dX3_common_21 : decode cX3_common 21 = .ok (.ifCond .eq 13, 3) := by decide +kernel
theorem dX3_common_24 : decode cX3_common 24 = .ok (.aload_n 0, 1) := by decide +kernel
theorem dX3_common_25 : decode cX3_common 25 = .ok (.getfield 13, 3) := by decide +kernel
theorem dX3_common_28 : decode cX3_common 28 = .ok (.bipush 21, 2) := by decide +kernel
theorem dX3_common_30 : decode cX3_common 30 = .ok (.iaload, 1) := by decide +kernel
theorem dX3_common_31 : decode cX3_common 31 = .ok (.ifCond .ne 22, 3) := by decide +kernel
theorem dX3_common_34 : decode cX3_common 34 = .ok (.aload_n 0, 1) := by decide +kernel
theorem dX3_common_35 : decode cX3_common 35 = .ok (.getfield 13, 3) := by decide +kernel
theorem dX3_common_38 : decode cX3_common 38 = .ok (.bipush 20, 2) := by decide +kernel
theorem dX3_common_40 : decode cX3_common 40 = .ok (.iaload, 1) := by decide +kernel
theorem dX3_common_41 : decode cX3_common 41 = .ok (.ifCond .ne 11, 3) := by decide +kernel
theorem dX3_common_44 : decode cX3_common 44 = .ok (.aload_n 0, 1) := by decide +kernel
theorem dX3_common_45 : decode cX3_common 45 = .ok (.bipush 20, 2) := by decide +kernel
theorem dX3_common_47 : decode cX3_common 47 = .ok (.bipush 21, 2) := by decide +kernel
theorem dX3_common_49 : decode cX3_common 49 = .ok (.invokevirtual 59, 3) := by decide +kernel
theorem dX3_common_52 : decode cX3_common 52 = .ok (.return_, 1) := by decide +kernel
theorem dX3_common_53 : decode cX3_common 53 = .ok (.iconst 0, 1) := by decide +kernel
theorem dX3_common_54 : decode cX3_common 54 = .ok (.istore_n 3, 1) := by decide +kernel
theorem dX3_common_55 : decode cX3_common 55 = .ok (.aload_n 0, 1) := by decide +kernel
theorem dX3_common_56 : decode cX3_common 56 = .ok (.bipush 20, 2) := by decide +kernel
theorem dX3_common_58 : decode cX3_common 58 = .ok (.iconst 0, 1) := by decide +kernel
theorem dX3_common_59 : decode cX3_common 59 = .ok (.invokevirtual 53, 3) := by decide +kernel
theorem dX3_common_62 : decode cX3_common 62 = .ok (.ifCond .ne 31, 3) := by decide +kernel
theorem dX3_common_65 : decode cX3_common 65 = .ok (.aload_n 0, 1) := by decide +kernel
theorem dX3_common_66 : decode cX3_common 66 = .ok (.bipush 21, 2) := by decide +kernel
theorem dX3_common_68 : decode cX3_common 68 = .ok (.iconst 0, 1) := by decide +kernel
theorem dX3_common_69 : decode cX3_common 69 = .ok (.invokevirtual 53, 3) := by decide +kernel
theorem dX3_common_72 : decode cX3_common 72 = .ok (.ifCond .ne 21, 3) := by decide +kernel
theorem dX3_common_75 : decode cX3_common 75 = .ok (.aload_n 0, 1) := by decide +kernel
theorem dX3_common_76 : decode cX3_common 76 = .ok (.bipush 20, 2) := by decide +kernel
theorem dX3_common_78 : decode cX3_common 78 = .ok (.invokevirtual 65, 3) := by decide +kernel
theorem dX3_common_81 : decode cX3_common 81 = .ok (.aload_n 0, 1) := by decide +kernel
theorem dX3_common_82 : decode cX3_common 82 = .ok (.bipush 21, 2) := by decide +kernel
theorem dX3_common_84 : decode cX3_common 84 = .ok (.invokevirtual 65, 3) := by decide +kernel
theorem dX3_common_87 : decode cX3_common 87 = .ok (.iinc 3 1, 3) := by decide +kernel
theorem dX3_common_90 : decode cX3_common 90 = .ok (.goto (-35), 3) := by decide +kernel
theorem dX3_common_93 : decode cX3_common 93 = .ok (.aload_n 0, 1) := by decide +kernel
theorem dX3_common_94 : decode cX3_common 94 = .ok (.getfield 13, 3) := by decide +kernel
theorem dX3_common_97 : decode cX3_common 97 = .ok (.bipush 21, 2) := by decide +kernel
theorem dX3_common_99 : decode cX3_common 99 = .ok (.iaload, 1) := by decide +kernel
theorem dX3_common_100 : decode cX3_common 100 = .ok (.ifCond .eq 92, 3) := by decide +kernel
theorem dX3_common_103 : decode cX3_common 103 = .ok (.aload_n 0, 1) := by decide +kernel
theorem dX3_common_104 : decode cX3_common 104 = .ok (.bipush 20, 2) := by decide +kernel
theorem dX3_common_106 : decode cX3_common 106 = .ok (.iconst 0, 1) := by decide +kernel
theorem dX3_common_107 : decode cX3_common 107 = .ok (.invokevirtual 53, 3) := by decide +kernel
theorem dX3_common_110 : decode cX3_common 110 = .ok (.ifCond .ne 12, 3) := by decide +kernel
theorem dX3_common_113 : decode cX3_common 113 = .ok (.aload_n 0, 1) := by decide +kernel
theorem dX3_common_114 : decode cX3_common 114 = .ok (.bipush 20, 2) := by decide +kernel
theorem dX3_common_116 : decode cX3_common 116 = .ok (.invokevirtual 65, 3) := by decide +kernel
theorem dX3_common_119 : decode cX3_common 119 = .ok (.goto (-26), 3) := by decide +kernel
theorem dX3_common_122 : decode cX3_common 122 = .ok (.aload_n 0, 1) := by decide +kernel
theorem dX3_common_123 : decode cX3_common 123 = .ok (.bipush 21, 2) := by decide +kernel
theorem dX3_common_125 : decode cX3_common 125 = .ok (.iconst 0, 1) := by decide +kernel
theorem dX3_common_126 : decode cX3_common 126 = .ok (.invokevirtual 53, 3) := by decide +kernel
theorem dX3_common_129 : decode cX3_common 129 = .ok (.ifCond .ne 12, 3) := by decide +kernel
theorem dX3_common_132 : decode cX3_common 132 = .ok (.aload_n 0, 1) := by decide +kernel
theorem dX3_common_133 : decode cX3_common 133 = .ok (.bipush 21, 2) := by decide +kernel
theorem dX3_common_135 : decode cX3_common 135 = .ok (.invokevirtual 65, 3) := by decide +kernel
theorem dX3_common_138 : decode cX3_common 138 = .ok (.goto (-45), 3) := by decide +kernel
theorem dX3_common_141 : decode cX3_common 141 = .ok (.aload_n 0, 1) := by decide +kernel
theorem dX3_common_142 : decode cX3_common 142 = .ok (.bipush 20, 2) := by decide +kernel
theorem dX3_common_144 : decode cX3_common 144 = .ok (.bipush 21, 2) := by decide +kernel
theorem dX3_common_146 : decode cX3_common 146 = .ok (.invokevirtual 42, 3) := by decide +kernel
theorem dX3_common_149 : decode cX3_common 149 = .ok (.ifCond .le 23, 3) := by decide +kernel
theorem dX3_common_152 : decode cX3_common 152 = .ok (.aload_n 0, 1) := by decide +kernel
theorem dX3_common_153 : decode cX3_common 153 = .ok (.bipush 20, 2) := by decide +kernel
theorem dX3_common_155 : decode cX3_common 155 = .ok (.bipush 20, 2) := by decide +kernel
theorem dX3_common_157 : decode cX3_common 157 = .ok (.bipush 21, 2) := by decide +kernel
theorem dX3_common_159 : decode cX3_common 159 = .ok (.invokevirtual 48, 3) := by decide +kernel
theorem dX3_common_162 : decode cX3_common 162 = .ok (.aload_n 0, 1) := by decide +kernel
theorem dX3_common_163 : decode cX3_common 163 = .ok (.bipush 20, 2) := by decide +kernel
theorem dX3_common_165 : decode cX3_common 165 = .ok (.iconst 1, 1) := by decide +kernel
theorem dX3_common_166 : decode cX3_common 166 = .ok (.invokevirtual 38, 3) := by decide +kernel
theorem dX3_common_169 : decode cX3_common 169 = .ok (.goto (-76), 3) := by decide +kernel
theorem dX3_common_172 : decode cX3_common 172 = .ok (.aload_n 0, 1) := by decide +kernel
theorem dX3_common_173 : decode cX3_common 173 = .ok (.bipush 21, 2) := by decide +kernel
theorem dX3_common_175 : decode cX3_common 175 = .ok (.bipush 21, 2) := by decide +kernel
theorem dX3_common_177 : decode cX3_common 177 = .ok (.bipush 20, 2) := by decide +kernel
theorem dX3_common_179 : decode cX3_common 179 = .ok (.invokevirtual 48, 3) := by decide +kernel
theorem dX3_common_182 : decode cX3_common 182 = .ok (.aload_n 0, 1) := by decide +kernel
theorem dX3_common_183 : decode cX3_common 183 = .ok (.bipush 21, 2) := by decide +kernel
theorem dX3_common_185 : decode cX3_common 185 = .ok (.iconst 1, 1) := by decide +kernel
theorem dX3_common_186 : decode cX3_common 186 = .ok (.invokevirtual 38, 3) := by decide +kernel
theorem dX3_common_189 : decode cX3_common 189 = .ok (.goto (-96), 3) := by decide +kernel
theorem dX3_common_192 : decode cX3_common 192 = .ok (.iconst 0, 1) := by decide +kernel
theorem dX3_common_193 : decode cX3_common 193 = .ok (.istore 4, 2) := by decide +kernel
theorem dX3_common_195 : decode cX3_common 195 = .ok (.iload 4, 2) := by decide +kernel
theorem dX3_common_197 : decode cX3_common 197 = .ok (.iload_n 3, 1) := by decide +kernel
theorem dX3_common_198 : decode cX3_common 198 = .ok (.if_icmp .ge 16, 3) := by decide +kernel
theorem dX3_common_201 : decode cX3_common 201 = .ok (.aload_n 0, 1) := by decide +kernel
theorem dX3_common_202 : decode cX3_common 202 = .ok (.bipush 20, 2) := by decide +kernel
theorem dX3_common_204 : decode cX3_common 204 = .ok (.iconst 0, 1) := by decide +kernel
theorem dX3_common_205 : decode cX3_common 205 = .ok (.invokevirtual 56, 3) := by decide +kernel
theorem dX3_common_208 : decode cX3_common 208 = .ok (.iinc 4 1, 3) := by decide +kernel
theorem dX3_common_211 : decode cX3_common 211 = .ok (.goto (-16), 3) := by decide +kernel
theorem dX3_common_214 : decode cX3_common 214 = .ok (.return_, 1) := by decide +kernel
theorem dX3_isSlot_0 : decode cX3_isSlot 0 = .ok (.iload_n 0, 1) := by decide +kernel
theorem dX3_isSlot_1 : decode cX3_isSlot 1 = .ok (.ifCond .lt 13, 3) := by decide +kernel
theorem dX3_isSlot_4 : decode cX3_isSlot 4 = .ok (.iload_n 0, 1) := by decide +kernel
theorem dX3_isSlot_5 : decode cX3_isSlot 5 = .ok (.bipush 16, 2) := by decide +kernel
theorem dX3_isSlot_7 : decode cX3_isSlot 7 = .ok (.if_icmp .ge 7, 3) := by decide +kernel
theorem dX3_isSlot_10 : decode cX3_isSlot 10 = .ok (.iconst 1, 1) := by decide +kernel
theorem dX3_isSlot_11 : decode cX3_isSlot 11 = .ok (.goto 4, 3) := by decide +kernel
theorem dX3_isSlot_14 : decode cX3_isSlot 14 = .ok (.iconst 0, 1) := by decide +kernel
theorem dX3_isSlot_15 : decode cX3_isSlot 15 = .ok (.ireturn, 1) := by decide +kernel
theorem dX3_are_0 : decode cX3_are 0 = .ok (.iload_n 0, 1) := by decide +kernel
theorem dX3_are_1 : decode cX3_are 1 = .ok (.invokestatic 69, 3) := by decide +kernel
theorem dX3_are_4 : decode cX3_are 4 = .ok (.ifCond .eq 21, 3) := by decide +kernel
theorem dX3_are_7 : decode cX3_are 7 = .ok (.iload_n 1, 1) := by decide +kernel
theorem dX3_are_8 : decode cX3_are 8 = .ok (.invokestatic 69, 3) := by decide +kernel
theorem dX3_are_11 : decode cX3_are 11 = .ok (.ifCond .eq 14, 3) := by decide +kernel
theorem dX3_are_14 : decode cX3_are 14 = .ok (.iload_n 2, 1) := by decide +kernel
theorem dX3_are_15 : decode cX3_are 15 = .ok (.invokestatic 69, 3) := by decide +kernel
theorem dX3_are_18 : decode cX3_are 18 = .ok (.ifCond .eq 7, 3) := by decide +kernel
theorem dX3_are_21 : decode cX3_are 21 = .ok (.iconst 1, 1) := by decide +kernel
theorem dX3_are_22 : decode cX3_are 22 = .ok (.goto 4, 3) := by decide +kernel
theorem dX3_are_25 : decode cX3_are 25 = .ok (.iconst 0, 1) := by decide +kernel
theorem dX3_are_26 : decode cX3_are 26 = .ok (.ireturn, 1) := by decide +kernel
theorem dX3_isLong_0 : decode cX3_isLong 0 = .ok (.aload_n 0, 1) := by decide +kernel
theorem dX3_isLong_1 : decode cX3_isLong 1 = .ok (.iload_n 1, 1) := by decide +kernel
theorem dX3_isLong_2 : decode cX3_isLong 2 = .ok (.bipush 24, 2) := by decide +kernel
theorem dX3_isLong_4 : decode cX3_isLong 4 = .ok (.invokevirtual 42, 3) := by decide +kernel
theorem dX3_isLong_7 : decode cX3_isLong 7 = .ok (.ifCond .lt 7, 3) := by decide +kernel
theorem dX3_isLong_10 : decode cX3_isLong 10 = .ok (.iconst 1, 1) := by decide +kernel
theorem dX3_isLong_11 : decode cX3_isLong 11 = .ok (.goto 4, 3) := by decide +kernel
theorem dX3_isLong_14 : decode cX3_isLong 14 = .ok (.iconst 0, 1) := by decide +kernel
theorem dX3_isLong_15 : decode cX3_isLong 15 = .ok (.ireturn, 1) := by decide +kernel
theorem dX3_keep_0 : decode cX3_keep 0 = .ok (.aload_n 0, 1) := by decide +kernel
theorem dX3_keep_1 : decode cX3_keep 1 = .ok (.iload_n 2, 1) := by decide +kernel
theorem dX3_keep_2 : decode cX3_keep 2 = .ok (.invokevirtual 73, 3) := by decide +kernel
theorem dX3_keep_5 : decode cX3_keep 5 = .ok (.ifCond .eq 5, 3) := by decide +kernel
theorem dX3_keep_8 : decode cX3_keep 8 = .ok (.iconst (-1), 1) := by decide +kernel
theorem dX3_keep_9 : decode cX3_keep 9 = .ok (.ireturn, 1) := by decide +kernel
theorem dX3_keep_10 : decode cX3_keep 10 = .ok (.aload_n 0, 1) := by decide +kernel
theorem dX3_keep_11 : decode cX3_keep 11 = .ok (.iload_n 1, 1) := by decide +kernel
theorem dX3_keep_12 : decode cX3_keep 12 = .ok (.iload_n 2, 1) := by decide +kernel
theorem dX3_keep_13 : decode cX3_keep 13 = .ok (.invokevirtual 59, 3) := by decide +kernel
theorem dX3_keep_16 : decode cX3_keep 16 = .ok (.iconst 1, 1) := by decide +kernel
theorem dX3_keep_17 : decode cX3_keep 17 = .ok (.ireturn, 1) := by decide +kernel
theorem dX3_set_0 : decode cX3_set 0 = .ok (.iload_n 1, 1) := by decide +kernel
theorem dX3_set_1 : decode cX3_set 1 = .ok (.invokestatic 69, 3) := by decide +kernel
theorem dX3_set_4 : decode cX3_set 4 = .ok (.ifCond .ne 5, 3) := by decide +kernel
theorem dX3_set_7 : decode cX3_set 7 = .ok (.iconst (-1), 1) := by decide +kernel
theorem dX3_set_8 : decode cX3_set 8 = .ok (.ireturn, 1) := by decide +kernel
theorem dX3_set_9 : decode cX3_set 9 = .ok (.aload_n 0, 1) := by decide +kernel
theorem dX3_set_10 : decode cX3_set 10 = .ok (.iload_n 1, 1) := by decide +kernel
theorem dX3_set_11 : decode cX3_set 11 = .ok (.lload_n 2, 1) := by decide +kernel
theorem dX3_set_12 : decode cX3_set 12 = .ok (.invokevirtual 23, 3) := by decide +kernel
theorem dX3_set_15 : decode cX3_set 15 = .ok (.iconst 1, 1) := by decide +kernel
theorem dX3_set_16 : decode cX3_set 16 = .ok (.ireturn, 1) := by decide +kernel
theorem dX3_digit_0 : decode cX3_digit 0 = .ok (.iload_n 1, 1) := by decide +kernel
theorem dX3_digit_1 : decode cX3_digit 1 = .ok (.invokestatic 69, 3) := by decide +kernel
theorem dX3_digit_4 : decode cX3_digit 4 = .ok (.ifCond .eq 13, 3) := by decide +kernel
theorem dX3_digit_7 : decode cX3_digit 7 = .ok (.iload_n 2, 1) := by decide +kernel
theorem dX3_digit_8 : decode cX3_digit 8 = .ok (.ifCond .lt 9, 3) := by decide +kernel
theorem dX3_digit_11 : decode cX3_digit 11 = .ok (.iload_n 2, 1) := by decide +kernel
theorem dX3_digit_12 : decode cX3_digit 12 = .ok (.bipush 9, 2) := by decide +kernel
theorem dX3_digit_14 : decode cX3_digit 14 = .ok (.if_icmp .le 5, 3) := by decide +kernel
theorem dX3_digit_17 : decode cX3_digit 17 = .ok (.iconst (-1), 1) := by decide +kernel
theorem dX3_digit_18 : decode cX3_digit 18 = .ok (.ireturn, 1) := by decide +kernel
theorem dX3_digit_19 : decode cX3_digit 19 = .ok (.aload_n 0, 1) := by decide +kernel
theorem dX3_digit_20 : decode cX3_digit 20 = .ok (.bipush 17, 2) := by decide +kernel
theorem dX3_digit_22 : decode cX3_digit 22 = .ok (.ldc2_w 27, 3) := by decide +kernel
theorem dX3_digit_25 : decode cX3_digit 25 = .ok (.invokevirtual 23, 3) := by decide +kernel
theorem dX3_digit_28 : decode cX3_digit 28 = .ok (.aload_n 0, 1) := by decide +kernel
theorem dX3_digit_29 : decode cX3_digit 29 = .ok (.bipush 16, 2) := by decide +kernel
theorem dX3_digit_31 : decode cX3_digit 31 = .ok (.iload_n 1, 1) := by decide +kernel
theorem dX3_digit_32 : decode cX3_digit 32 = .ok (.bipush 17, 2) := by decide +kernel
theorem dX3_digit_34 : decode cX3_digit 34 = .ok (.invokevirtual 29, 3) := by decide +kernel
theorem dX3_digit_37 : decode cX3_digit 37 = .ok (.aload_n 0, 1) := by decide +kernel
theorem dX3_digit_38 : decode cX3_digit 38 = .ok (.bipush 17, 2) := by decide +kernel
theorem dX3_digit_40 : decode cX3_digit 40 = .ok (.iload_n 2, 1) := by decide +kernel
theorem dX3_digit_41 : decode cX3_digit 41 = .ok (.i2l, 1) := by decide +kernel
theorem dX3_digit_42 : decode cX3_digit 42 = .ok (.invokevirtual 23, 3) := by decide +kernel
theorem dX3_digit_45 : decode cX3_digit 45 = .ok (.aload_n 0, 1) := by decide +kernel
theorem dX3_digit_46 : decode cX3_digit 46 = .ok (.bipush 16, 2) := by decide +kernel
theorem dX3_digit_48 : decode cX3_digit 48 = .ok (.bipush 16, 2) := by decide +kernel
theorem dX3_digit_50 : decode cX3_digit 50 = .ok (.bipush 17, 2) := by decide +kernel
theorem dX3_digit_52 : decode cX3_digit 52 = .ok (.iconst 1, 1) := by decide +kernel
theorem dX3_digit_53 : decode cX3_digit 53 = .ok (.invokevirtual 76, 3) := by decide +kernel
theorem dX3_digit_56 : decode cX3_digit 56 = .ok (.aload_n 0, 1) := by decide +kernel
theorem dX3_digit_57 : decode cX3_digit 57 = .ok (.iload_n 1, 1) := by decide +kernel
theorem dX3_digit_58 : decode cX3_digit 58 = .ok (.bipush 16, 2) := by decide +kernel
theorem dX3_digit_60 : decode cX3_digit 60 = .ok (.invokevirtual 80, 3) := by decide +kernel
theorem dX3_digit_63 : decode cX3_digit 63 = .ok (.ireturn, 1) := by decide +kernel
theorem dX3_copy_0 : decode cX3_copy 0 = .ok (.iload_n 1, 1) := by decide +kernel
theorem dX3_copy_1 : decode cX3_copy 1 = .ok (.invokestatic 69, 3) := by decide +kernel
theorem dX3_copy_4 : decode cX3_copy 4 = .ok (.ifCond .eq 19, 3) := by decide +kernel
theorem dX3_copy_7 : decode cX3_copy 7 = .ok (.iload_n 2, 1) := by decide +kernel
theorem dX3_copy_8 : decode cX3_copy 8 = .ok (.invokestatic 69, 3) := by decide +kernel
theorem dX3_copy_11 : decode cX3_copy 11 = .ok (.ifCond .eq 12, 3) := by decide +kernel
theorem dX3_copy_14 : decode cX3_copy 14 = .ok (.aload_n 0, 1) := by decide +kernel
theorem dX3_copy_15 : decode cX3_copy 15 = .ok (.iload_n 2, 1) := by decide +kernel
theorem dX3_copy_16 : decode cX3_copy 16 = .ok (.iload_n 1, 1) := by decide +kernel
theorem dX3_copy_17 : decode cX3_copy 17 = .ok (.invokevirtual 80, 3) := by decide +kernel
theorem dX3_copy_20 : decode cX3_copy 20 = .ok (.goto 4, 3) := by decide +kernel
theorem dX3_copy_23 : decode cX3_copy 23 = .ok (.iconst (-1), 1) := by decide +kernel
theorem dX3_copy_24 : decode cX3_copy 24 = .ok (.ireturn, 1) := by decide +kernel
theorem dX3_sum_0 : decode cX3_sum 0 = .ok (.iload_n 1, 1) := by decide +kernel
theorem dX3_sum_1 : decode cX3_sum 1 = .ok (.iload_n 2, 1) := by decide +kernel
theorem dX3_sum_2 : decode cX3_sum 2 = .ok (.iload_n 3, 1) := by decide +kernel
theorem dX3_sum_3 : decode cX3_sum 3 = .ok (.invokestatic 83, 3) := by decide +kernel
theorem dX3_sum_6 : decode cX3_sum 6 = .ok (.ifCond .ne 5, 3) := by decide +kernel
theorem dX3_sum_9 : decode cX3_sum 9 = .ok (.iconst (-1), 1) := by decide +kernel
theorem dX3_sum_10 : decode cX3_sum 10 = .ok (.ireturn, 1) := by decide +kernel
theorem dX3_sum_11 : decode cX3_sum 11 = .ok (.aload_n 0, 1) := by decide +kernel
theorem dX3_sum_12 : decode cX3_sum 12 = .ok (.bipush 16, 2) := by decide +kernel
theorem dX3_sum_14 : decode cX3_sum 14 = .ok (.iload_n 1, 1) := by decide +kernel
theorem dX3_sum_15 : decode cX3_sum 15 = .ok (.iload_n 2, 1) := by decide +kernel
theorem dX3_sum_16 : decode cX3_sum 16 = .ok (.iconst 1, 1) := by decide +kernel
theorem dX3_sum_17 : decode cX3_sum 17 = .ok (.invokevirtual 76, 3) := by decide +kernel
theorem dX3_sum_20 : decode cX3_sum 20 = .ok (.aload_n 0, 1) := by decide +kernel
theorem dX3_sum_21 : decode cX3_sum 21 = .ok (.iload_n 3, 1) := by decide +kernel
theorem dX3_sum_22 : decode cX3_sum 22 = .ok (.bipush 16, 2) := by decide +kernel
theorem dX3_sum_24 : decode cX3_sum 24 = .ok (.invokevirtual 80, 3) := by decide +kernel
theorem dX3_sum_27 : decode cX3_sum 27 = .ok (.ireturn, 1) := by decide +kernel
theorem dX3_less_0 : decode cX3_less 0 = .ok (.iload_n 1, 1) := by decide +kernel
theorem dX3_less_1 : decode cX3_less 1 = .ok (.iload_n 2, 1) := by decide +kernel
theorem dX3_less_2 : decode cX3_less 2 = .ok (.iload_n 3, 1) := by decide +kernel
theorem dX3_less_3 : decode cX3_less 3 = .ok (.invokestatic 83, 3) := by decide +kernel
theorem dX3_less_6 : decode cX3_less 6 = .ok (.ifCond .ne 5, 3) := by decide +kernel
theorem dX3_less_9 : decode cX3_less 9 = .ok (.iconst (-1), 1) := by decide +kernel
theorem dX3_less_10 : decode cX3_less 10 = .ok (.ireturn, 1) := by decide +kernel
theorem dX3_less_11 : decode cX3_less 11 = .ok (.aload_n 0, 1) := by decide +kernel
theorem dX3_less_12 : decode cX3_less 12 = .ok (.bipush 16, 2) := by decide +kernel
theorem dX3_less_14 : decode cX3_less 14 = .ok (.iload_n 1, 1) := by decide +kernel
theorem dX3_less_15 : decode cX3_less 15 = .ok (.iload_n 2, 1) := by decide +kernel
theorem dX3_less_16 : decode cX3_less 16 = .ok (.iconst (-1), 1) := by decide +kernel
theorem dX3_less_17 : decode cX3_less 17 = .ok (.invokevirtual 76, 3) := by decide +kernel
theorem dX3_less_20 : decode cX3_less 20 = .ok (.aload_n 0, 1) := by decide +kernel
theorem dX3_less_21 : decode cX3_less 21 = .ok (.iload_n 3, 1) := by decide +kernel
theorem dX3_less_22 : decode cX3_less 22 = .ok (.bipush 16, 2) := by decide +kernel
theorem dX3_less_24 : decode cX3_less 24 = .ok (.invokevirtual 80, 3) := by decide +kernel
theorem dX3_less_27 : decode cX3_less 27 = .ok (.ireturn, 1) := by decide +kernel
theorem dX3_product_0 : decode cX3_product 0 = .ok (.iload_n 1, 1) := by decide +kernel
theorem dX3_product_1 : decode cX3_product 1 = .ok (.iload_n 2, 1) := by decide +kernel
theorem dX3_product_2 : decode cX3_product 2 = .ok (.iload_n 3, 1) := by decide +kernel
theorem dX3_product_3 : decode cX3_product 3 = .ok (.invokestatic 83, 3) := by decide +kernel
theorem dX3_product_6 : decode cX3_product 6 = .ok (.ifCond .ne 5, 3) := by decide +kernel
theorem dX3_product_9 : decode cX3_product 9 = .ok (.iconst (-1), 1) := by decide +kernel
theorem dX3_product_10 : decode cX3_product 10 = .ok (.ireturn, 1) := by decide +kernel
theorem dX3_product_11 : decode cX3_product 11 = .ok (.aload_n 0, 1) := by decide +kernel
theorem dX3_product_12 : decode cX3_product 12 = .ok (.bipush 16, 2) := by decide +kernel
theorem dX3_product_14 : decode cX3_product 14 = .ok (.iload_n 1, 1) := by decide +kernel
theorem dX3_product_15 : decode cX3_product 15 = .ok (.iload_n 2, 1) := by decide +kernel
theorem dX3_product_16 : decode cX3_product 16 = .ok (.invokevirtual 29, 3) := by decide +kernel
theorem dX3_product_19 : decode cX3_product 19 = .ok (.aload_n 0, 1) := by decide +kernel
theorem dX3_product_20 : decode cX3_product 20 = .ok (.iload_n 3, 1) := by decide +kernel
theorem dX3_product_21 : decode cX3_product 21 = .ok (.bipush 16, 2) := by decide +kernel
theorem dX3_product_23 : decode cX3_product 23 = .ok (.invokevirtual 80, 3) := by decide +kernel
theorem dX3_product_26 : decode cX3_product 26 = .ok (.ireturn, 1) := by decide +kernel
theorem dX3_over_0 : decode cX3_over 0 = .ok (.iload_n 1, 1) := by decide +kernel
theorem dX3_over_1 : decode cX3_over 1 = .ok (.iload_n 2, 1) := by decide +kernel
theorem dX3_over_2 : decode cX3_over 2 = .ok (.iload_n 3, 1) := by decide +kernel
theorem dX3_over_3 : decode cX3_over 3 = .ok (.invokestatic 83, 3) := by decide +kernel
theorem dX3_over_6 : decode cX3_over 6 = .ok (.ifCond .eq 12, 3) := by decide +kernel
theorem dX3_over_9 : decode cX3_over 9 = .ok (.aload_n 0, 1) := by decide +kernel
theorem dX3_over_10 : decode cX3_over 10 = .ok (.getfield 13, 3) := by decide +kernel
theorem dX3_over_13 : decode cX3_over 13 = .ok (.iload_n 2, 1) := by decide +kernel
theorem dX3_over_14 : decode cX3_over 14 = .ok (.iaload, 1) := by decide +kernel
theorem dX3_over_15 : decode cX3_over 15 = .ok (.ifCond .ne 5, 3) := by decide +kernel
theorem dX3_over_18 : decode cX3_over 18 = .ok (.iconst (-1), 1) := by decide +kernel
theorem dX3_over_19 : decode cX3_over 19 = .ok (.ireturn, 1) := by decide +kernel
theorem dX3_over_20 : decode cX3_over 20 = .ok (.aload_n 0, 1) := by decide +kernel
theorem dX3_over_21 : decode cX3_over 21 = .ok (.iload_n 1, 1) := by decide +kernel
theorem dX3_over_22 : decode cX3_over 22 = .ok (.iload_n 2, 1) := by decide +kernel
theorem dX3_over_23 : decode cX3_over 23 = .ok (.invokevirtual 87, 3) := by decide +kernel
theorem dX3_over_26 : decode cX3_over 26 = .ok (.aload_n 0, 1) := by decide +kernel
theorem dX3_over_27 : decode cX3_over 27 = .ok (.iload_n 3, 1) := by decide +kernel
theorem dX3_over_28 : decode cX3_over 28 = .ok (.bipush 18, 2) := by decide +kernel
theorem dX3_over_30 : decode cX3_over 30 = .ok (.invokevirtual 80, 3) := by decide +kernel
theorem dX3_over_33 : decode cX3_over 33 = .ok (.ireturn, 1) := by decide +kernel
theorem dX3_left_0 : decode cX3_left 0 = .ok (.iload_n 1, 1) := by decide +kernel
theorem dX3_left_1 : decode cX3_left 1 = .ok (.iload_n 2, 1) := by decide +kernel
theorem dX3_left_2 : decode cX3_left 2 = .ok (.iload_n 3, 1) := by decide +kernel
theorem dX3_left_3 : decode cX3_left 3 = .ok (.invokestatic 83, 3) := by decide +kernel
theorem dX3_left_6 : decode cX3_left 6 = .ok (.ifCond .eq 12, 3) := by decide +kernel
theorem dX3_left_9 : decode cX3_left 9 = .ok (.aload_n 0, 1) := by decide +kernel
theorem dX3_left_10 : decode cX3_left 10 = .ok (.getfield 13, 3) := by decide +kernel
theorem dX3_left_13 : decode cX3_left 13 = .ok (.iload_n 2, 1) := by decide +kernel
theorem dX3_left_14 : decode cX3_left 14 = .ok (.iaload, 1) := by decide +kernel
theorem dX3_left_15 : decode cX3_left 15 = .ok (.ifCond .ne 5, 3) := by decide +kernel
theorem dX3_left_18 : decode cX3_left 18 = .ok (.iconst (-1), 1) := by decide +kernel
theorem dX3_left_19 : decode cX3_left 19 = .ok (.ireturn, 1) := by decide +kernel
theorem dX3_left_20 : decode cX3_left 20 = .ok (.aload_n 0, 1) := by decide +kernel
theorem dX3_left_21 : decode cX3_left 21 = .ok (.iload_n 1, 1) := by decide +kernel
theorem dX3_left_22 : decode cX3_left 22 = .ok (.iload_n 2, 1) := by decide +kernel
theorem dX3_left_23 : decode cX3_left 23 = .ok (.invokevirtual 87, 3) := by decide +kernel
theorem dX3_left_26 : decode cX3_left 26 = .ok (.aload_n 0, 1) := by decide +kernel
theorem dX3_left_27 : decode cX3_left 27 = .ok (.iload_n 3, 1) := by decide +kernel
theorem dX3_left_28 : decode cX3_left 28 = .ok (.bipush 19, 2) := by decide +kernel
theorem dX3_left_30 : decode cX3_left 30 = .ok (.invokevirtual 80, 3) := by decide +kernel
theorem dX3_left_33 : decode cX3_left 33 = .ok (.ireturn, 1) := by decide +kernel
theorem dX3_divisor_0 : decode cX3_divisor 0 = .ok (.iload_n 1, 1) := by decide +kernel
theorem dX3_divisor_1 : decode cX3_divisor 1 = .ok (.iload_n 2, 1) := by decide +kernel
theorem dX3_divisor_2 : decode cX3_divisor 2 = .ok (.iload_n 3, 1) := by decide +kernel
theorem dX3_divisor_3 : decode cX3_divisor 3 = .ok (.invokestatic 83, 3) := by decide +kernel
theorem dX3_divisor_6 : decode cX3_divisor 6 = .ok (.ifCond .ne 5, 3) := by decide +kernel
theorem dX3_divisor_9 : decode cX3_divisor 9 = .ok (.iconst (-1), 1) := by decide +kernel
theorem dX3_divisor_10 : decode cX3_divisor 10 = .ok (.ireturn, 1) := by decide +kernel
theorem dX3_divisor_11 : decode cX3_divisor 11 = .ok (.aload_n 0, 1) := by decide +kernel
theorem dX3_divisor_12 : decode cX3_divisor 12 = .ok (.iload_n 1, 1) := by decide +kernel
theorem dX3_divisor_13 : decode cX3_divisor 13 = .ok (.iload_n 2, 1) := by decide +kernel
theorem dX3_divisor_14 : decode cX3_divisor 14 = .ok (.invokevirtual 90, 3) := by decide +kernel
theorem dX3_divisor_17 : decode cX3_divisor 17 = .ok (.aload_n 0, 1) := by decide +kernel
theorem dX3_divisor_18 : decode cX3_divisor 18 = .ok (.iload_n 3, 1) := by decide +kernel
theorem dX3_divisor_19 : decode cX3_divisor 19 = .ok (.bipush 20, 2) := by decide +kernel
theorem dX3_divisor_21 : decode cX3_divisor 21 = .ok (.invokevirtual 80, 3) := by decide +kernel
theorem dX3_divisor_24 : decode cX3_divisor 24 = .ok (.ireturn, 1) := by decide +kernel
theorem dX3_root_0 : decode cX3_root 0 = .ok (.iload_n 1, 1) := by decide +kernel
theorem dX3_root_1 : decode cX3_root 1 = .ok (.invokestatic 69, 3) := by decide +kernel
theorem dX3_root_4 : decode cX3_root 4 = .ok (.ifCond .eq 19, 3) := by decide +kernel
theorem dX3_root_7 : decode cX3_root 7 = .ok (.iload_n 2, 1) := by decide +kernel
theorem dX3_root_8 : decode cX3_root 8 = .ok (.invokestatic 69, 3) := by decide +kernel
theorem dX3_root_11 : decode cX3_root 11 = .ok (.ifCond .eq 12, 3) := by decide +kernel
theorem dX3_root_14 : decode cX3_root 14 = .ok (.aload_n 0, 1) := by decide +kernel
theorem dX3_root_15 : decode cX3_root 15 = .ok (.getfield 13, 3) := by decide +kernel
theorem dX3_root_18 : decode cX3_root 18 = .ok (.iload_n 1, 1) := by decide +kernel
theorem dX3_root_19 : decode cX3_root 19 = .ok (.iaload, 1) := by decide +kernel
theorem dX3_root_20 : decode cX3_root 20 = .ok (.ifCond .ge 5, 3) := by decide +kernel
theorem dX3_root_23 : decode cX3_root 23 = .ok (.iconst (-1), 1) := by decide +kernel
theorem dX3_root_24 : decode cX3_root 24 = .ok (.ireturn, 1) := by decide +kernel
theorem dX3_root_25 : decode cX3_root 25 = .ok (.aload_n 0, 1) := by decide +kernel
theorem dX3_root_26 : decode cX3_root 26 = .ok (.bipush 16, 2) := by decide +kernel
theorem dX3_root_28 : decode cX3_root 28 = .ok (.lconst 0, 1) := by decide +kernel
theorem dX3_root_29 : decode cX3_root 29 = .ok (.invokevirtual 23, 3) := by decide +kernel
theorem dX3_root_32 : decode cX3_root 32 = .ok (.sipush 511, 3) := by decide +kernel
theorem dX3_root_35 : decode cX3_root 35 = .ok (.istore_n 3, 1) := by decide +kernel
theorem dX3_root_36 : decode cX3_root 36 = .ok (.iload_n 3, 1) := by decide +kernel
theorem dX3_root_37 : decode cX3_root 37 = .ok (.ifCond .lt 81, 3) := by decide +kernel
theorem dX3_root_40 : decode cX3_root 40 = .ok (.aload_n 0, 1) := by decide +kernel
theorem dX3_root_41 : decode cX3_root 41 = .ok (.getfield 7, 3) := by decide +kernel
theorem dX3_root_44 : decode cX3_root 44 = .ok (.sipush 2240, 3) := by decide +kernel
theorem dX3_root_47 : decode cX3_root 47 = .ok (.iload_n 3, 1) := by decide +kernel
theorem dX3_root_48 : decode cX3_root 48 = .ok (.bipush 16, 2) := by decide +kernel
theorem dX3_root_50 : decode cX3_root 50 = .ok (.idiv, 1) := by decide +kernel
theorem dX3_root_51 : decode cX3_root 51 = .ok (.iadd, 1) := by decide +kernel
theorem dX3_root_52 : decode cX3_root 52 = .ok (.dup2, 1) := by decide +kernel
theorem dX3_root_53 : decode cX3_root 53 = .ok (.iaload, 1) := by decide +kernel
theorem dX3_root_54 : decode cX3_root 54 = .ok (.iconst 1, 1) := by decide +kernel
theorem dX3_root_55 : decode cX3_root 55 = .ok (.iload_n 3, 1) := by decide +kernel
theorem dX3_root_56 : decode cX3_root 56 = .ok (.bipush 16, 2) := by decide +kernel
theorem dX3_root_58 : decode cX3_root 58 = .ok (.irem, 1) := by decide +kernel
theorem dX3_root_59 : decode cX3_root 59 = .ok (.ishl, 1) := by decide +kernel
theorem dX3_root_60 : decode cX3_root 60 = .ok (.ior, 1) := by decide +kernel
theorem dX3_root_61 : decode cX3_root 61 = .ok (.iastore, 1) := by decide +kernel
theorem dX3_root_62 : decode cX3_root 62 = .ok (.aload_n 0, 1) := by decide +kernel
theorem dX3_root_63 : decode cX3_root 63 = .ok (.getfield 13, 3) := by decide +kernel
theorem dX3_root_66 : decode cX3_root 66 = .ok (.bipush 16, 2) := by decide +kernel
theorem dX3_root_68 : decode cX3_root 68 = .ok (.iconst 1, 1) := by decide +kernel
theorem dX3_root_69 : decode cX3_root 69 = .ok (.iastore, 1) := by decide +kernel
theorem dX3_root_70 : decode cX3_root 70 = .ok (.aload_n 0, 1) := by decide +kernel
theorem dX3_root_71 : decode cX3_root 71 = .ok (.bipush 17, 2) := by decide +kernel
theorem dX3_root_73 : decode cX3_root 73 = .ok (.bipush 16, 2) := by decide +kernel
theorem dX3_root_75 : decode cX3_root 75 = .ok (.bipush 16, 2) := by decide +kernel
theorem dX3_root_77 : decode cX3_root 77 = .ok (.invokevirtual 29, 3) := by decide +kernel
theorem dX3_root_80 : decode cX3_root 80 = .ok (.aload_n 0, 1) := by decide +kernel
theorem dX3_root_81 : decode cX3_root 81 = .ok (.bipush 17, 2) := by decide +kernel
theorem dX3_root_83 : decode cX3_root 83 = .ok (.iload_n 1, 1) := by decide +kernel
theorem dX3_root_84 : decode cX3_root 84 = .ok (.invokevirtual 42, 3) := by decide +kernel
theorem dX3_root_87 : decode cX3_root 87 = .ok (.ifCond .le 25, 3) := by decide +kernel
theorem dX3_root_90 : decode cX3_root 90 = .ok (.aload_n 0, 1) := by decide +kernel
theorem dX3_root_91 : decode cX3_root 91 = .ok (.getfield 7, 3) := by decide +kernel
theorem dX3_root_94 : decode cX3_root 94 = .ok (.sipush 2240, 3) := by decide +kernel
theorem dX3_root_97 : decode cX3_root 97 = .ok (.iload_n 3, 1) := by decide +kernel
theorem dX3_root_98 : decode cX3_root 98 = .ok (.bipush 16, 2) := by decide +kernel
theorem dX3_root_100 : decode cX3_root 100 = .ok (.idiv, 1) := by decide +kernel
theorem dX3_root_101 : decode cX3_root 101 = .ok (.iadd, 1) := by decide +kernel
theorem dX3_root_102 : decode cX3_root 102 = .ok (.dup2, 1) := by decide +kernel
theorem dX3_root_103 : decode cX3_root 103 = .ok (.iaload, 1) := by decide +kernel
theorem dX3_root_104 : decode cX3_root 104 = .ok (.iconst 1, 1) := by decide +kernel
theorem dX3_root_105 : decode cX3_root 105 = .ok (.iload_n 3, 1) := by decide +kernel
theorem dX3_root_106 : decode cX3_root 106 = .ok (.bipush 16, 2) := by decide +kernel
theorem dX3_root_108 : decode cX3_root 108 = .ok (.irem, 1) := by decide +kernel
theorem dX3_root_109 : decode cX3_root 109 = .ok (.ishl, 1) := by decide +kernel
theorem dX3_root_110 : decode cX3_root 110 = .ok (.ixor, 1) := by decide +kernel
theorem dX3_root_111 : decode cX3_root 111 = .ok (.iastore, 1) := by decide +kernel
theorem dX3_root_112 : decode cX3_root 112 = .ok (.iinc 3 (-1), 3) := by decide +kernel
theorem dX3_root_115 : decode cX3_root 115 = .ok (.goto (-79), 3) := by decide +kernel
theorem dX3_root_118 : decode cX3_root 118 = .ok (.aload_n 0, 1) := by decide +kernel
theorem dX3_root_119 : decode cX3_root 119 = .ok (.bipush 16, 2) := by decide +kernel
theorem dX3_root_121 : decode cX3_root 121 = .ok (.iconst 1, 1) := by decide +kernel
theorem dX3_root_122 : decode cX3_root 122 = .ok (.invokevirtual 38, 3) := by decide +kernel
theorem dX3_root_125 : decode cX3_root 125 = .ok (.aload_n 0, 1) := by decide +kernel
theorem dX3_root_126 : decode cX3_root 126 = .ok (.iload_n 2, 1) := by decide +kernel
theorem dX3_root_127 : decode cX3_root 127 = .ok (.bipush 16, 2) := by decide +kernel
theorem dX3_root_129 : decode cX3_root 129 = .ok (.invokevirtual 80, 3) := by decide +kernel
theorem dX3_root_132 : decode cX3_root 132 = .ok (.ireturn, 1) := by decide +kernel
theorem dX3_power_0 : decode cX3_power 0 = .ok (.iload_n 1, 1) := by decide +kernel
theorem dX3_power_1 : decode cX3_power 1 = .ok (.invokestatic 69, 3) := by decide +kernel
theorem dX3_power_4 : decode cX3_power 4 = .ok (.ifCond .eq 21, 3) := by decide +kernel
theorem dX3_power_7 : decode cX3_power 7 = .ok (.iload_n 3, 1) := by decide +kernel
theorem dX3_power_8 : decode cX3_power 8 = .ok (.invokestatic 69, 3) := by decide +kernel
theorem dX3_power_11 : decode cX3_power 11 = .ok (.ifCond .eq 14, 3) := by decide +kernel
theorem dX3_power_14 : decode cX3_power 14 = .ok (.iload_n 2, 1) := by decide +kernel
theorem dX3_power_15 : decode cX3_power 15 = .ok (.ifCond .lt 10, 3) := by decide +kernel
theorem dX3_power_18 : decode cX3_power 18 = .ok (.iload_n 2, 1) := by decide +kernel
theorem dX3_power_19 : decode cX3_power 19 = .ok (.sipush 1000, 3) := by decide +kernel
theorem dX3_power_22 : decode cX3_power 22 = .ok (.if_icmp .le 5, 3) := by decide +kernel
theorem dX3_power_25 : decode cX3_power 25 = .ok (.iconst (-1), 1) := by decide +kernel
theorem dX3_power_26 : decode cX3_power 26 = .ok (.ireturn, 1) := by decide +kernel
theorem dX3_power_27 : decode cX3_power 27 = .ok (.aload_n 0, 1) := by decide +kernel
theorem dX3_power_28 : decode cX3_power 28 = .ok (.bipush 16, 2) := by decide +kernel
theorem dX3_power_30 : decode cX3_power 30 = .ok (.lconst 1, 1) := by decide +kernel
theorem dX3_power_31 : decode cX3_power 31 = .ok (.invokevirtual 23, 3) := by decide +kernel
theorem dX3_power_34 : decode cX3_power 34 = .ok (.iconst 0, 1) := by decide +kernel
theorem dX3_power_35 : decode cX3_power 35 = .ok (.istore 4, 2) := by decide +kernel
theorem dX3_power_37 : decode cX3_power 37 = .ok (.iload 4, 2) := by decide +kernel
theorem dX3_power_39 : decode cX3_power 39 = .ok (.iload_n 2, 1) := by decide +kernel
theorem dX3_power_40 : decode cX3_power 40 = .ok (.if_icmp .ge 27, 3) := by decide +kernel
theorem dX3_power_43 : decode cX3_power 43 = .ok (.aload_n 0, 1) := by decide +kernel
theorem dX3_power_44 : decode cX3_power 44 = .ok (.bipush 16, 2) := by decide +kernel
theorem dX3_power_46 : decode cX3_power 46 = .ok (.invokevirtual 73, 3) := by decide +kernel
theorem dX3_power_49 : decode cX3_power 49 = .ok (.ifCond .ne 18, 3) := by decide +kernel
theorem dX3_power_52 : decode cX3_power 52 = .ok (.aload_n 0, 1) := by decide +kernel
theorem dX3_power_53 : decode cX3_power 53 = .ok (.bipush 16, 2) := by decide +kernel
theorem dX3_power_55 : decode cX3_power 55 = .ok (.bipush 16, 2) := by decide +kernel
theorem dX3_power_57 : decode cX3_power 57 = .ok (.iload_n 1, 1) := by decide +kernel
theorem dX3_power_58 : decode cX3_power 58 = .ok (.invokevirtual 29, 3) := by decide +kernel
theorem dX3_power_61 : decode cX3_power 61 = .ok (.iinc 4 1, 3) := by decide +kernel
theorem dX3_power_64 : decode cX3_power 64 = .ok (.goto (-27), 3) := by decide +kernel
theorem dX3_power_67 : decode cX3_power 67 = .ok (.aload_n 0, 1) := by decide +kernel
theorem dX3_power_68 : decode cX3_power 68 = .ok (.iload_n 3, 1) := by decide +kernel
theorem dX3_power_69 : decode cX3_power 69 = .ok (.bipush 16, 2) := by decide +kernel
theorem dX3_power_71 : decode cX3_power 71 = .ok (.invokevirtual 80, 3) := by decide +kernel
theorem dX3_power_74 : decode cX3_power 74 = .ok (.ireturn, 1) := by decide +kernel
theorem dX3_keepFraction_0 : decode cX3_keepFraction 0 = .ok (.aload_n 0, 1) := by decide +kernel
theorem dX3_keepFraction_1 : decode cX3_keepFraction 1 = .ok (.bipush 22, 2) := by decide +kernel
theorem dX3_keepFraction_3 : decode cX3_keepFraction 3 = .ok (.bipush 23, 2) := by decide +kernel
theorem dX3_keepFraction_5 : decode cX3_keepFraction 5 = .ok (.invokevirtual 90, 3) := by decide +kernel
theorem dX3_keepFraction_8 : decode cX3_keepFraction 8 = .ok (.aload_n 0, 1) := by decide +kernel
theorem dX3_keepFraction_9 : decode cX3_keepFraction 9 = .ok (.bipush 16, 2) := by decide +kernel
theorem dX3_keepFraction_11 : decode cX3_keepFraction 11 = .ok (.bipush 20, 2) := by decide +kernel
theorem dX3_keepFraction_13 : decode cX3_keepFraction 13 = .ok (.invokevirtual 59, 3) := by decide +kernel
theorem dX3_keepFraction_16 : decode cX3_keepFraction 16 = .ok (.aload_n 0, 1) := by decide +kernel
theorem dX3_keepFraction_17 : decode cX3_keepFraction 17 = .ok (.bipush 22, 2) := by decide +kernel
theorem dX3_keepFraction_19 : decode cX3_keepFraction 19 = .ok (.bipush 16, 2) := by decide +kernel
theorem dX3_keepFraction_21 : decode cX3_keepFraction 21 = .ok (.invokevirtual 87, 3) := by decide +kernel
theorem dX3_keepFraction_24 : decode cX3_keepFraction 24 = .ok (.aload_n 0, 1) := by decide +kernel
theorem dX3_keepFraction_25 : decode cX3_keepFraction 25 = .ok (.getfield 13, 3) := by decide +kernel
theorem dX3_keepFraction_28 : decode cX3_keepFraction 28 = .ok (.bipush 22, 2) := by decide +kernel
theorem dX3_keepFraction_30 : decode cX3_keepFraction 30 = .ok (.iaload, 1) := by decide +kernel
theorem dX3_keepFraction_31 : decode cX3_keepFraction 31 = .ok (.aload_n 0, 1) := by decide +kernel
theorem dX3_keepFraction_32 : decode cX3_keepFraction 32 = .ok (.getfield 13, 3) := by decide +kernel
theorem dX3_keepFraction_35 : decode cX3_keepFraction 35 = .ok (.bipush 23, 2) := by decide +kernel
theorem dX3_keepFraction_37 : decode cX3_keepFraction 37 = .ok (.iaload, 1) := by decide +kernel
theorem dX3_keepFraction_38 : decode cX3_keepFraction 38 = .ok (.imul, 1) := by decide +kernel
theorem dX3_keepFraction_39 : decode cX3_keepFraction 39 = .ok (.istore_n 3, 1) := by decide +kernel
theorem dX3_keepFraction_40 : decode cX3_keepFraction 40 = .ok (.aload_n 0, 1) := by decide +kernel
theorem dX3_keepFraction_41 : decode cX3_keepFraction 41 = .ok (.bipush 17, 2) := by decide +kernel
theorem dX3_keepFraction_43 : decode cX3_keepFraction 43 = .ok (.bipush 18, 2) := by decide +kernel
theorem dX3_keepFraction_45 : decode cX3_keepFraction 45 = .ok (.invokevirtual 59, 3) := by decide +kernel
theorem dX3_keepFraction_48 : decode cX3_keepFraction 48 = .ok (.aload_n 0, 1) := by decide +kernel
theorem dX3_keepFraction_49 : decode cX3_keepFraction 49 = .ok (.getfield 13, 3) := by decide +kernel
theorem dX3_keepFraction_52 : decode cX3_keepFraction 52 = .ok (.bipush 17, 2) := by decide +kernel
theorem dX3_keepFraction_54 : decode cX3_keepFraction 54 = .ok (.iload_n 3, 1) := by decide +kernel
theorem dX3_keepFraction_55 : decode cX3_keepFraction 55 = .ok (.iastore, 1) := by decide +kernel
theorem dX3_keepFraction_56 : decode cX3_keepFraction 56 = .ok (.aload_n 0, 1) := by decide +kernel
theorem dX3_keepFraction_57 : decode cX3_keepFraction 57 = .ok (.bipush 23, 2) := by decide +kernel
theorem dX3_keepFraction_59 : decode cX3_keepFraction 59 = .ok (.bipush 16, 2) := by decide +kernel
theorem dX3_keepFraction_61 : decode cX3_keepFraction 61 = .ok (.invokevirtual 87, 3) := by decide +kernel
theorem dX3_keepFraction_64 : decode cX3_keepFraction 64 = .ok (.aload_n 0, 1) := by decide +kernel
theorem dX3_keepFraction_65 : decode cX3_keepFraction 65 = .ok (.bipush 16, 2) := by decide +kernel
theorem dX3_keepFraction_67 : decode cX3_keepFraction 67 = .ok (.bipush 18, 2) := by decide +kernel
theorem dX3_keepFraction_69 : decode cX3_keepFraction 69 = .ok (.invokevirtual 62, 3) := by decide +kernel
theorem dX3_keepFraction_72 : decode cX3_keepFraction 72 = .ok (.aload_n 0, 1) := by decide +kernel
theorem dX3_keepFraction_73 : decode cX3_keepFraction 73 = .ok (.bipush 16, 2) := by decide +kernel
theorem dX3_keepFraction_75 : decode cX3_keepFraction 75 = .ok (.invokevirtual 73, 3) := by decide +kernel
theorem dX3_keepFraction_78 : decode cX3_keepFraction 78 = .ok (.ifCond .ne 12, 3) := by decide +kernel
theorem dX3_keepFraction_81 : decode cX3_keepFraction 81 = .ok (.aload_n 0, 1) := by decide +kernel
theorem dX3_keepFraction_82 : decode cX3_keepFraction 82 = .ok (.bipush 17, 2) := by decide +kernel
theorem dX3_keepFraction_84 : decode cX3_keepFraction 84 = .ok (.invokevirtual 73, 3) := by decide +kernel
theorem dX3_keepFraction_87 : decode cX3_keepFraction 87 = .ok (.ifCond .eq 5, 3) := by decide +kernel
theorem dX3_keepFraction_90 : decode cX3_keepFraction 90 = .ok (.iconst (-1), 1) := by decide +kernel
theorem dX3_keepFraction_91 : decode cX3_keepFraction 91 = .ok (.ireturn, 1) := by decide +kernel
theorem dX3_keepFraction_92 : decode cX3_keepFraction 92 = .ok (.aload_n 0, 1) := by decide +kernel
theorem dX3_keepFraction_93 : decode cX3_keepFraction 93 = .ok (.iload_n 1, 1) := by decide +kernel
theorem dX3_keepFraction_94 : decode cX3_keepFraction 94 = .ok (.bipush 17, 2) := by decide +kernel
theorem dX3_keepFraction_96 : decode cX3_keepFraction 96 = .ok (.invokevirtual 59, 3) := by decide +kernel
theorem dX3_keepFraction_99 : decode cX3_keepFraction 99 = .ok (.aload_n 0, 1) := by decide +kernel
theorem dX3_keepFraction_100 : decode cX3_keepFraction 100 = .ok (.iload_n 2, 1) := by decide +kernel
theorem dX3_keepFraction_101 : decode cX3_keepFraction 101 = .ok (.bipush 16, 2) := by decide +kernel
theorem dX3_keepFraction_103 : decode cX3_keepFraction 103 = .ok (.invokevirtual 59, 3) := by decide +kernel
theorem dX3_keepFraction_106 : decode cX3_keepFraction 106 = .ok (.iconst 1, 1) := by decide +kernel
theorem dX3_keepFraction_107 : decode cX3_keepFraction 107 = .ok (.ireturn, 1) := by decide +kernel
theorem dX3_lowest_0 : decode cX3_lowest 0 = .ok (.iload_n 1, 1) := by decide +kernel
theorem dX3_lowest_1 : decode cX3_lowest 1 = .ok (.invokestatic 69, 3) := by decide +kernel
theorem dX3_lowest_4 : decode cX3_lowest 4 = .ok (.ifCond .eq 24, 3) := by decide +kernel
theorem dX3_lowest_7 : decode cX3_lowest 7 = .ok (.iload_n 2, 1) := by decide +kernel
theorem dX3_lowest_8 : decode cX3_lowest 8 = .ok (.invokestatic 69, 3) := by decide +kernel
theorem dX3_lowest_11 : decode cX3_lowest 11 = .ok (.ifCond .eq 17, 3) := by decide +kernel
theorem dX3_lowest_14 : decode cX3_lowest 14 = .ok (.iload_n 1, 1) := by decide +kernel
theorem dX3_lowest_15 : decode cX3_lowest 15 = .ok (.iload_n 2, 1) := by decide +kernel
theorem dX3_lowest_16 : decode cX3_lowest 16 = .ok (.if_icmp .eq 12, 3) := by decide +kernel
theorem dX3_lowest_19 : decode cX3_lowest 19 = .ok (.aload_n 0, 1) := by decide +kernel
theorem dX3_lowest_20 : decode cX3_lowest 20 = .ok (.getfield 13, 3) := by decide +kernel
theorem dX3_lowest_23 : decode cX3_lowest 23 = .ok (.iload_n 2, 1) := by decide +kernel
theorem dX3_lowest_24 : decode cX3_lowest 24 = .ok (.iaload, 1) := by decide +kernel
theorem dX3_lowest_25 : decode cX3_lowest 25 = .ok (.ifCond .ne 5, 3) := by decide +kernel
theorem dX3_lowest_28 : decode cX3_lowest 28 = .ok (.iconst (-1), 1) := by decide +kernel
theorem dX3_lowest_29 : decode cX3_lowest 29 = .ok (.ireturn, 1) := by decide +kernel
theorem dX3_lowest_30 : decode cX3_lowest 30 = .ok (.aload_n 0, 1) := by decide +kernel
theorem dX3_lowest_31 : decode cX3_lowest 31 = .ok (.bipush 22, 2) := by decide +kernel
theorem dX3_lowest_33 : decode cX3_lowest 33 = .ok (.iload_n 1, 1) := by decide +kernel
theorem dX3_lowest_34 : decode cX3_lowest 34 = .ok (.invokevirtual 62, 3) := by decide +kernel
theorem dX3_lowest_37 : decode cX3_lowest 37 = .ok (.aload_n 0, 1) := by decide +kernel
theorem dX3_lowest_38 : decode cX3_lowest 38 = .ok (.bipush 23, 2) := by decide +kernel
theorem dX3_lowest_40 : decode cX3_lowest 40 = .ok (.iload_n 2, 1) := by decide +kernel
theorem dX3_lowest_41 : decode cX3_lowest 41 = .ok (.invokevirtual 62, 3) := by decide +kernel
theorem dX3_lowest_44 : decode cX3_lowest 44 = .ok (.aload_n 0, 1) := by decide +kernel
theorem dX3_lowest_45 : decode cX3_lowest 45 = .ok (.getfield 13, 3) := by decide +kernel
theorem dX3_lowest_48 : decode cX3_lowest 48 = .ok (.bipush 22, 2) := by decide +kernel
theorem dX3_lowest_50 : decode cX3_lowest 50 = .ok (.aload_n 0, 1) := by decide +kernel
theorem dX3_lowest_51 : decode cX3_lowest 51 = .ok (.getfield 13, 3) := by decide +kernel
theorem dX3_lowest_54 : decode cX3_lowest 54 = .ok (.iload_n 1, 1) := by decide +kernel
theorem dX3_lowest_55 : decode cX3_lowest 55 = .ok (.iaload, 1) := by decide +kernel
theorem dX3_lowest_56 : decode cX3_lowest 56 = .ok (.iastore, 1) := by decide +kernel
theorem dX3_lowest_57 : decode cX3_lowest 57 = .ok (.aload_n 0, 1) := by decide +kernel
theorem dX3_lowest_58 : decode cX3_lowest 58 = .ok (.getfield 13, 3) := by decide +kernel
theorem dX3_lowest_61 : decode cX3_lowest 61 = .ok (.bipush 23, 2) := by decide +kernel
theorem dX3_lowest_63 : decode cX3_lowest 63 = .ok (.aload_n 0, 1) := by decide +kernel
theorem dX3_lowest_64 : decode cX3_lowest 64 = .ok (.getfield 13, 3) := by decide +kernel
theorem dX3_lowest_67 : decode cX3_lowest 67 = .ok (.iload_n 2, 1) := by decide +kernel
theorem dX3_lowest_68 : decode cX3_lowest 68 = .ok (.iaload, 1) := by decide +kernel
theorem dX3_lowest_69 : decode cX3_lowest 69 = .ok (.iastore, 1) := by decide +kernel
theorem dX3_lowest_70 : decode cX3_lowest 70 = .ok (.aload_n 0, 1) := by decide +kernel
theorem dX3_lowest_71 : decode cX3_lowest 71 = .ok (.iload_n 1, 1) := by decide +kernel
theorem dX3_lowest_72 : decode cX3_lowest 72 = .ok (.iload_n 2, 1) := by decide +kernel
theorem dX3_lowest_73 : decode cX3_lowest 73 = .ok (.invokevirtual 93, 3) := by decide +kernel
theorem dX3_lowest_76 : decode cX3_lowest 76 = .ok (.ireturn, 1) := by decide +kernel
theorem dX3_fraction_0 : decode cX3_fraction 0 = .ok (.iload_n 1, 1) := by decide +kernel
theorem dX3_fraction_1 : decode cX3_fraction 1 = .ok (.iload_n 2, 1) := by decide +kernel
theorem dX3_fraction_2 : decode cX3_fraction 2 = .ok (.iload_n 3, 1) := by decide +kernel
theorem dX3_fraction_3 : decode cX3_fraction 3 = .ok (.invokestatic 83, 3) := by decide +kernel
theorem dX3_fraction_6 : decode cX3_fraction 6 = .ok (.ifCond .eq 35, 3) := by decide +kernel
theorem dX3_fraction_9 : decode cX3_fraction 9 = .ok (.iload 4, 2) := by decide +kernel
theorem dX3_fraction_11 : decode cX3_fraction 11 = .ok (.invokestatic 69, 3) := by decide +kernel
theorem dX3_fraction_14 : decode cX3_fraction 14 = .ok (.ifCond .eq 27, 3) := by decide +kernel
theorem dX3_fraction_17 : decode cX3_fraction 17 = .ok (.iload_n 1, 1) := by decide +kernel
theorem dX3_fraction_18 : decode cX3_fraction 18 = .ok (.iload_n 2, 1) := by decide +kernel
theorem dX3_fraction_19 : decode cX3_fraction 19 = .ok (.if_icmp .eq 22, 3) := by decide +kernel
theorem dX3_fraction_22 : decode cX3_fraction 22 = .ok (.aload_n 0, 1) := by decide +kernel
theorem dX3_fraction_23 : decode cX3_fraction 23 = .ok (.getfield 13, 3) := by decide +kernel
theorem dX3_fraction_26 : decode cX3_fraction 26 = .ok (.iload_n 2, 1) := by decide +kernel
theorem dX3_fraction_27 : decode cX3_fraction 27 = .ok (.iaload, 1) := by decide +kernel
theorem dX3_fraction_28 : decode cX3_fraction 28 = .ok (.ifCond .eq 13, 3) := by decide +kernel
theorem dX3_fraction_31 : decode cX3_fraction 31 = .ok (.aload_n 0, 1) := by decide +kernel
theorem dX3_fraction_32 : decode cX3_fraction 32 = .ok (.getfield 13, 3) := by decide +kernel
theorem dX3_fraction_35 : decode cX3_fraction 35 = .ok (.iload 4, 2) := by decide +kernel
theorem dX3_fraction_37 : decode cX3_fraction 37 = .ok (.iaload, 1) := by decide +kernel
theorem dX3_fraction_38 : decode cX3_fraction 38 = .ok (.ifCond .ne 5, 3) := by decide +kernel
theorem dX3_fraction_41 : decode cX3_fraction 41 = .ok (.iconst (-1), 1) := by decide +kernel
theorem dX3_fraction_42 : decode cX3_fraction 42 = .ok (.ireturn, 1) := by decide +kernel
theorem dX3_fraction_43 : decode cX3_fraction 43 = .ok (.aload_n 0, 1) := by decide +kernel
theorem dX3_fraction_44 : decode cX3_fraction 44 = .ok (.bipush 16, 2) := by decide +kernel
theorem dX3_fraction_46 : decode cX3_fraction 46 = .ok (.iload_n 1, 1) := by decide +kernel
theorem dX3_fraction_47 : decode cX3_fraction 47 = .ok (.iload 4, 2) := by decide +kernel
theorem dX3_fraction_49 : decode cX3_fraction 49 = .ok (.invokevirtual 29, 3) := by decide +kernel
theorem dX3_fraction_52 : decode cX3_fraction 52 = .ok (.aload_n 0, 1) := by decide +kernel
theorem dX3_fraction_53 : decode cX3_fraction 53 = .ok (.bipush 17, 2) := by decide +kernel
theorem dX3_fraction_55 : decode cX3_fraction 55 = .ok (.iload_n 3, 1) := by decide +kernel
theorem dX3_fraction_56 : decode cX3_fraction 56 = .ok (.iload_n 2, 1) := by decide +kernel
theorem dX3_fraction_57 : decode cX3_fraction 57 = .ok (.invokevirtual 29, 3) := by decide +kernel
theorem dX3_fraction_60 : decode cX3_fraction 60 = .ok (.aload_n 0, 1) := by decide +kernel
theorem dX3_fraction_61 : decode cX3_fraction 61 = .ok (.bipush 22, 2) := by decide +kernel
theorem dX3_fraction_63 : decode cX3_fraction 63 = .ok (.bipush 16, 2) := by decide +kernel
theorem dX3_fraction_65 : decode cX3_fraction 65 = .ok (.bipush 17, 2) := by decide +kernel
theorem dX3_fraction_67 : decode cX3_fraction 67 = .ok (.iconst 1, 1) := by decide +kernel
theorem dX3_fraction_68 : decode cX3_fraction 68 = .ok (.invokevirtual 76, 3) := by decide +kernel
theorem dX3_fraction_71 : decode cX3_fraction 71 = .ok (.aload_n 0, 1) := by decide +kernel
theorem dX3_fraction_72 : decode cX3_fraction 72 = .ok (.bipush 23, 2) := by decide +kernel
theorem dX3_fraction_74 : decode cX3_fraction 74 = .ok (.iload_n 2, 1) := by decide +kernel
theorem dX3_fraction_75 : decode cX3_fraction 75 = .ok (.iload 4, 2) := by decide +kernel
theorem dX3_fraction_77 : decode cX3_fraction 77 = .ok (.invokevirtual 29, 3) := by decide +kernel
theorem dX3_fraction_80 : decode cX3_fraction 80 = .ok (.aload_n 0, 1) := by decide +kernel
theorem dX3_fraction_81 : decode cX3_fraction 81 = .ok (.iload_n 1, 1) := by decide +kernel
theorem dX3_fraction_82 : decode cX3_fraction 82 = .ok (.iload_n 2, 1) := by decide +kernel
theorem dX3_fraction_83 : decode cX3_fraction 83 = .ok (.invokevirtual 93, 3) := by decide +kernel
theorem dX3_fraction_86 : decode cX3_fraction 86 = .ok (.ireturn, 1) := by decide +kernel
theorem dX3_order_0 : decode cX3_order 0 = .ok (.iload_n 1, 1) := by decide +kernel
theorem dX3_order_1 : decode cX3_order 1 = .ok (.invokestatic 69, 3) := by decide +kernel
theorem dX3_order_4 : decode cX3_order 4 = .ok (.ifCond .eq 21, 3) := by decide +kernel
theorem dX3_order_7 : decode cX3_order 7 = .ok (.iload_n 2, 1) := by decide +kernel
theorem dX3_order_8 : decode cX3_order 8 = .ok (.invokestatic 69, 3) := by decide +kernel
theorem dX3_order_11 : decode cX3_order 11 = .ok (.ifCond .eq 14, 3) := by decide +kernel
theorem dX3_order_14 : decode cX3_order 14 = .ok (.iconst 1, 1) := by decide +kernel
theorem dX3_order_15 : decode cX3_order 15 = .ok (.aload_n 0, 1) := by decide +kernel
theorem dX3_order_16 : decode cX3_order 16 = .ok (.iload_n 1, 1) := by decide +kernel
theorem dX3_order_17 : decode cX3_order 17 = .ok (.iload_n 2, 1) := by decide +kernel
theorem dX3_order_18 : decode cX3_order 18 = .ok (.invokevirtual 96, 3) := by decide +kernel
theorem dX3_order_21 : decode cX3_order 21 = .ok (.iadd, 1) := by decide +kernel
theorem dX3_order_22 : decode cX3_order 22 = .ok (.goto 4, 3) := by decide +kernel
theorem dX3_order_25 : decode cX3_order 25 = .ok (.iconst (-1), 1) := by decide +kernel
theorem dX3_order_26 : decode cX3_order 26 = .ok (.ireturn, 1) := by decide +kernel
theorem dX3_ratio_0 : decode cX3_ratio 0 = .ok (.iload_n 1, 1) := by decide +kernel
theorem dX3_ratio_1 : decode cX3_ratio 1 = .ok (.iload_n 2, 1) := by decide +kernel
theorem dX3_ratio_2 : decode cX3_ratio 2 = .ok (.iload_n 3, 1) := by decide +kernel
theorem dX3_ratio_3 : decode cX3_ratio 3 = .ok (.invokestatic 83, 3) := by decide +kernel
theorem dX3_ratio_6 : decode cX3_ratio 6 = .ok (.ifCond .eq 30, 3) := by decide +kernel
theorem dX3_ratio_9 : decode cX3_ratio 9 = .ok (.iload 4, 2) := by decide +kernel
theorem dX3_ratio_11 : decode cX3_ratio 11 = .ok (.invokestatic 69, 3) := by decide +kernel
theorem dX3_ratio_14 : decode cX3_ratio 14 = .ok (.ifCond .eq 22, 3) := by decide +kernel
theorem dX3_ratio_17 : decode cX3_ratio 17 = .ok (.aload_n 0, 1) := by decide +kernel
theorem dX3_ratio_18 : decode cX3_ratio 18 = .ok (.getfield 13, 3) := by decide +kernel
theorem dX3_ratio_21 : decode cX3_ratio 21 = .ok (.iload_n 2, 1) := by decide +kernel
theorem dX3_ratio_22 : decode cX3_ratio 22 = .ok (.iaload, 1) := by decide +kernel
theorem dX3_ratio_23 : decode cX3_ratio 23 = .ok (.ifCond .eq 13, 3) := by decide +kernel
theorem dX3_ratio_26 : decode cX3_ratio 26 = .ok (.aload_n 0, 1) := by decide +kernel
theorem dX3_ratio_27 : decode cX3_ratio 27 = .ok (.getfield 13, 3) := by decide +kernel
theorem dX3_ratio_30 : decode cX3_ratio 30 = .ok (.iload 4, 2) := by decide +kernel
theorem dX3_ratio_32 : decode cX3_ratio 32 = .ok (.iaload, 1) := by decide +kernel
theorem dX3_ratio_33 : decode cX3_ratio 33 = .ok (.ifCond .ne 5, 3) := by decide +kernel
theorem dX3_ratio_36 : decode cX3_ratio 36 = .ok (.iconst (-1), 1) := by decide +kernel
theorem dX3_ratio_37 : decode cX3_ratio 37 = .ok (.ireturn, 1) := by decide +kernel
theorem dX3_ratio_38 : decode cX3_ratio 38 = .ok (.aload_n 0, 1) := by decide +kernel
theorem dX3_ratio_39 : decode cX3_ratio 39 = .ok (.bipush 16, 2) := by decide +kernel
theorem dX3_ratio_41 : decode cX3_ratio 41 = .ok (.iload_n 1, 1) := by decide +kernel
theorem dX3_ratio_42 : decode cX3_ratio 42 = .ok (.iload 4, 2) := by decide +kernel
theorem dX3_ratio_44 : decode cX3_ratio 44 = .ok (.invokevirtual 29, 3) := by decide +kernel
theorem dX3_ratio_47 : decode cX3_ratio 47 = .ok (.aload_n 0, 1) := by decide +kernel
theorem dX3_ratio_48 : decode cX3_ratio 48 = .ok (.bipush 17, 2) := by decide +kernel
theorem dX3_ratio_50 : decode cX3_ratio 50 = .ok (.iload_n 3, 1) := by decide +kernel
theorem dX3_ratio_51 : decode cX3_ratio 51 = .ok (.iload_n 2, 1) := by decide +kernel
theorem dX3_ratio_52 : decode cX3_ratio 52 = .ok (.invokevirtual 29, 3) := by decide +kernel
theorem dX3_ratio_55 : decode cX3_ratio 55 = .ok (.iconst 1, 1) := by decide +kernel
theorem dX3_ratio_56 : decode cX3_ratio 56 = .ok (.aload_n 0, 1) := by decide +kernel
theorem dX3_ratio_57 : decode cX3_ratio 57 = .ok (.bipush 16, 2) := by decide +kernel
theorem dX3_ratio_59 : decode cX3_ratio 59 = .ok (.bipush 17, 2) := by decide +kernel
theorem dX3_ratio_61 : decode cX3_ratio 61 = .ok (.invokevirtual 96, 3) := by decide +kernel
theorem dX3_ratio_64 : decode cX3_ratio 64 = .ok (.aload_n 0, 1) := by decide +kernel
theorem dX3_ratio_65 : decode cX3_ratio 65 = .ok (.getfield 13, 3) := by decide +kernel
theorem dX3_ratio_68 : decode cX3_ratio 68 = .ok (.iload_n 2, 1) := by decide +kernel
theorem dX3_ratio_69 : decode cX3_ratio 69 = .ok (.iaload, 1) := by decide +kernel
theorem dX3_ratio_70 : decode cX3_ratio 70 = .ok (.imul, 1) := by decide +kernel
theorem dX3_ratio_71 : decode cX3_ratio 71 = .ok (.aload_n 0, 1) := by decide +kernel
theorem dX3_ratio_72 : decode cX3_ratio 72 = .ok (.getfield 13, 3) := by decide +kernel
theorem dX3_ratio_75 : decode cX3_ratio 75 = .ok (.iload 4, 2) := by decide +kernel
theorem dX3_ratio_77 : decode cX3_ratio 77 = .ok (.iaload, 1) := by decide +kernel
theorem dX3_ratio_78 : decode cX3_ratio 78 = .ok (.imul, 1) := by decide +kernel
theorem dX3_ratio_79 : decode cX3_ratio 79 = .ok (.iadd, 1) := by decide +kernel
theorem dX3_ratio_80 : decode cX3_ratio 80 = .ok (.ireturn, 1) := by decide +kernel
theorem dX3_sign_0 : decode cX3_sign 0 = .ok (.iload_n 1, 1) := by decide +kernel
theorem dX3_sign_1 : decode cX3_sign 1 = .ok (.invokestatic 69, 3) := by decide +kernel
theorem dX3_sign_4 : decode cX3_sign 4 = .ok (.ifCond .eq 14, 3) := by decide +kernel
theorem dX3_sign_7 : decode cX3_sign 7 = .ok (.iconst 1, 1) := by decide +kernel
theorem dX3_sign_8 : decode cX3_sign 8 = .ok (.aload_n 0, 1) := by decide +kernel
theorem dX3_sign_9 : decode cX3_sign 9 = .ok (.getfield 13, 3) := by decide +kernel
theorem dX3_sign_12 : decode cX3_sign 12 = .ok (.iload_n 1, 1) := by decide +kernel
theorem dX3_sign_13 : decode cX3_sign 13 = .ok (.iaload, 1) := by decide +kernel
theorem dX3_sign_14 : decode cX3_sign 14 = .ok (.iadd, 1) := by decide +kernel
theorem dX3_sign_15 : decode cX3_sign 15 = .ok (.goto 4, 3) := by decide +kernel
theorem dX3_sign_18 : decode cX3_sign 18 = .ok (.iconst (-1), 1) := by decide +kernel
theorem dX3_sign_19 : decode cX3_sign 19 = .ok (.ireturn, 1) := by decide +kernel
theorem dX3_spell_0 : decode cX3_spell 0 = .ok (.iconst 0, 1) := by decide +kernel
theorem dX3_spell_1 : decode cX3_spell 1 = .ok (.istore_n 2, 1) := by decide +kernel
theorem dX3_spell_2 : decode cX3_spell 2 = .ok (.aload_n 0, 1) := by decide +kernel
theorem dX3_spell_3 : decode cX3_spell 3 = .ok (.bipush 16, 2) := by decide +kernel
theorem dX3_spell_5 : decode cX3_spell 5 = .ok (.iload_n 1, 1) := by decide +kernel
theorem dX3_spell_6 : decode cX3_spell 6 = .ok (.invokevirtual 59, 3) := by decide +kernel
theorem dX3_spell_9 : decode cX3_spell 9 = .ok (.iload_n 2, 1) := by decide +kernel
theorem dX3_spell_10 : decode cX3_spell 10 = .ok (.ifCond .eq 13, 3) := by decide +kernel
theorem dX3_spell_13 : decode cX3_spell 13 = .ok (.aload_n 0, 1) := by decide +kernel
theorem dX3_spell_14 : decode cX3_spell 14 = .ok (.getfield 13, 3) := by decide +kernel
theorem dX3_spell_17 : decode cX3_spell 17 = .ok (.bipush 16, 2) := by decide +kernel
theorem dX3_spell_19 : decode cX3_spell 19 = .ok (.iaload, 1) := by decide +kernel
theorem dX3_spell_20 : decode cX3_spell 20 = .ok (.ifCond .eq 75, 3) := by decide +kernel
theorem dX3_spell_23 : decode cX3_spell 23 = .ok (.iconst 0, 1) := by decide +kernel
theorem dX3_spell_24 : decode cX3_spell 24 = .ok (.istore_n 3, 1) := by decide +kernel
theorem dX3_spell_25 : decode cX3_spell 25 = .ok (.sipush 139, 3) := by decide +kernel
theorem dX3_spell_28 : decode cX3_spell 28 = .ok (.istore 4, 2) := by decide +kernel
theorem dX3_spell_30 : decode cX3_spell 30 = .ok (.iload 4, 2) := by decide +kernel
theorem dX3_spell_32 : decode cX3_spell 32 = .ok (.ifCond .lt 43, 3) := by decide +kernel
theorem dX3_spell_35 : decode cX3_spell 35 = .ok (.iload_n 3, 1) := by decide +kernel
theorem dX3_spell_36 : decode cX3_spell 36 = .ok (.bipush 16, 2) := by decide +kernel
theorem dX3_spell_38 : decode cX3_spell 38 = .ok (.ishl, 1) := by decide +kernel
theorem dX3_spell_39 : decode cX3_spell 39 = .ok (.aload_n 0, 1) := by decide +kernel
theorem dX3_spell_40 : decode cX3_spell 40 = .ok (.bipush 16, 2) := by decide +kernel
theorem dX3_spell_42 : decode cX3_spell 42 = .ok (.iload 4, 2) := by decide +kernel
theorem dX3_spell_44 : decode cX3_spell 44 = .ok (.invokevirtual 33, 3) := by decide +kernel
theorem dX3_spell_47 : decode cX3_spell 47 = .ok (.ior, 1) := by decide +kernel
theorem dX3_spell_48 : decode cX3_spell 48 = .ok (.istore_n 3, 1) := by decide +kernel
theorem dX3_spell_49 : decode cX3_spell 49 = .ok (.aload_n 0, 1) := by decide +kernel
theorem dX3_spell_50 : decode cX3_spell 50 = .ok (.getfield 7, 3) := by decide +kernel
theorem dX3_spell_53 : decode cX3_spell 53 = .ok (.sipush 2240, 3) := by decide +kernel
theorem dX3_spell_56 : decode cX3_spell 56 = .ok (.iload 4, 2) := by decide +kernel
theorem dX3_spell_58 : decode cX3_spell 58 = .ok (.iadd, 1) := by decide +kernel
theorem dX3_spell_59 : decode cX3_spell 59 = .ok (.iload_n 3, 1) := by decide +kernel
theorem dX3_spell_60 : decode cX3_spell 60 = .ok (.bipush 10, 2) := by decide +kernel
theorem dX3_spell_62 : decode cX3_spell 62 = .ok (.idiv, 1) := by decide +kernel
theorem dX3_spell_63 : decode cX3_spell 63 = .ok (.iastore, 1) := by decide +kernel
theorem dX3_spell_64 : decode cX3_spell 64 = .ok (.iload_n 3, 1) := by decide +kernel
theorem dX3_spell_65 : decode cX3_spell 65 = .ok (.bipush 10, 2) := by decide +kernel
theorem dX3_spell_67 : decode cX3_spell 67 = .ok (.irem, 1) := by decide +kernel
theorem dX3_spell_68 : decode cX3_spell 68 = .ok (.istore_n 3, 1) := by decide +kernel
theorem dX3_spell_69 : decode cX3_spell 69 = .ok (.iinc 4 (-1), 3) := by decide +kernel
theorem dX3_spell_72 : decode cX3_spell 72 = .ok (.goto (-42), 3) := by decide +kernel
theorem dX3_spell_75 : decode cX3_spell 75 = .ok (.aload_n 0, 1) := by decide +kernel
theorem dX3_spell_76 : decode cX3_spell 76 = .ok (.bipush 16, 2) := by decide +kernel
theorem dX3_spell_78 : decode cX3_spell 78 = .ok (.iconst 1, 1) := by decide +kernel
theorem dX3_spell_79 : decode cX3_spell 79 = .ok (.invokevirtual 38, 3) := by decide +kernel
theorem dX3_spell_82 : decode cX3_spell 82 = .ok (.aload_n 0, 1) := by decide +kernel
theorem dX3_spell_83 : decode cX3_spell 83 = .ok (.getfield 20, 3) := by decide +kernel
theorem dX3_spell_86 : decode cX3_spell 86 = .ok (.iload_n 2, 1) := by decide +kernel
theorem dX3_spell_87 : decode cX3_spell 87 = .ok (.iload_n 3, 1) := by decide +kernel
theorem dX3_spell_88 : decode cX3_spell 88 = .ok (.iastore, 1) := by decide +kernel
theorem dX3_spell_89 : decode cX3_spell 89 = .ok (.iinc 2 1, 3) := by decide +kernel
theorem dX3_spell_92 : decode cX3_spell 92 = .ok (.goto (-83), 3) := by decide +kernel
theorem dX3_spell_95 : decode cX3_spell 95 = .ok (.iload_n 2, 1) := by decide +kernel
theorem dX3_spell_96 : decode cX3_spell 96 = .ok (.ireturn, 1) := by decide +kernel
theorem dX3_digits_0 : decode cX3_digits 0 = .ok (.iload_n 1, 1) := by decide +kernel
theorem dX3_digits_1 : decode cX3_digits 1 = .ok (.invokestatic 69, 3) := by decide +kernel
theorem dX3_digits_4 : decode cX3_digits 4 = .ok (.ifCond .eq 11, 3) := by decide +kernel
theorem dX3_digits_7 : decode cX3_digits 7 = .ok (.aload_n 0, 1) := by decide +kernel
theorem dX3_digits_8 : decode cX3_digits 8 = .ok (.iload_n 1, 1) := by decide +kernel
theorem dX3_digits_9 : decode cX3_digits 9 = .ok (.invokevirtual 99, 3) := by decide +kernel
theorem dX3_digits_12 : decode cX3_digits 12 = .ok (.goto 4, 3) := by decide +kernel
theorem dX3_digits_15 : decode cX3_digits 15 = .ok (.iconst (-1), 1) := by decide +kernel
theorem dX3_digits_16 : decode cX3_digits 16 = .ok (.ireturn, 1) := by decide +kernel
theorem dX3_digitAt_0 : decode cX3_digitAt 0 = .ok (.iload_n 1, 1) := by decide +kernel
theorem dX3_digitAt_1 : decode cX3_digitAt 1 = .ok (.invokestatic 69, 3) := by decide +kernel
theorem dX3_digitAt_4 : decode cX3_digitAt 4 = .ok (.ifCond .ne 5, 3) := by decide +kernel
theorem dX3_digitAt_7 : decode cX3_digitAt 7 = .ok (.iconst (-1), 1) := by decide +kernel
theorem dX3_digitAt_8 : decode cX3_digitAt 8 = .ok (.ireturn, 1) := by decide +kernel
theorem dX3_digitAt_9 : decode cX3_digitAt 9 = .ok (.aload_n 0, 1) := by decide +kernel
theorem dX3_digitAt_10 : decode cX3_digitAt 10 = .ok (.iload_n 1, 1) := by decide +kernel
theorem dX3_digitAt_11 : decode cX3_digitAt 11 = .ok (.invokevirtual 99, 3) := by decide +kernel
theorem dX3_digitAt_14 : decode cX3_digitAt 14 = .ok (.istore_n 3, 1) := by decide +kernel
theorem dX3_digitAt_15 : decode cX3_digitAt 15 = .ok (.iload_n 2, 1) := by decide +kernel
theorem dX3_digitAt_16 : decode cX3_digitAt 16 = .ok (.ifCond .lt 8, 3) := by decide +kernel
theorem dX3_digitAt_19 : decode cX3_digitAt 19 = .ok (.iload_n 2, 1) := by decide +kernel
theorem dX3_digitAt_20 : decode cX3_digitAt 20 = .ok (.iload_n 3, 1) := by decide +kernel
theorem dX3_digitAt_21 : decode cX3_digitAt 21 = .ok (.if_icmp .lt 7, 3) := by decide +kernel
theorem dX3_digitAt_24 : decode cX3_digitAt 24 = .ok (.iconst (-1), 1) := by decide +kernel
theorem dX3_digitAt_25 : decode cX3_digitAt 25 = .ok (.goto 13, 3) := by decide +kernel
theorem dX3_digitAt_28 : decode cX3_digitAt 28 = .ok (.aload_n 0, 1) := by decide +kernel
theorem dX3_digitAt_29 : decode cX3_digitAt 29 = .ok (.getfield 20, 3) := by decide +kernel
theorem dX3_digitAt_32 : decode cX3_digitAt 32 = .ok (.iload_n 3, 1) := by decide +kernel
theorem dX3_digitAt_33 : decode cX3_digitAt 33 = .ok (.iconst 1, 1) := by decide +kernel
theorem dX3_digitAt_34 : decode cX3_digitAt 34 = .ok (.isub, 1) := by decide +kernel
theorem dX3_digitAt_35 : decode cX3_digitAt 35 = .ok (.iload_n 2, 1) := by decide +kernel
theorem dX3_digitAt_36 : decode cX3_digitAt 36 = .ok (.isub, 1) := by decide +kernel
theorem dX3_digitAt_37 : decode cX3_digitAt 37 = .ok (.iaload, 1) := by decide +kernel
theorem dX3_digitAt_38 : decode cX3_digitAt 38 = .ok (.ireturn, 1) := by decide +kernel
theorem dX3_modulo_0 : decode cX3_modulo 0 = .ok (.iload_n 1, 1) := by decide +kernel
theorem dX3_modulo_1 : decode cX3_modulo 1 = .ok (.invokestatic 69, 3) := by decide +kernel
theorem dX3_modulo_4 : decode cX3_modulo 4 = .ok (.ifCond .eq 17, 3) := by decide +kernel
theorem dX3_modulo_7 : decode cX3_modulo 7 = .ok (.lload_n 2, 1) := by decide +kernel
theorem dX3_modulo_8 : decode cX3_modulo 8 = .ok (.lconst 1, 1) := by decide +kernel
theorem dX3_modulo_9 : decode cX3_modulo 9 = .ok (.lcmp, 1) := by decide +kernel
theorem dX3_modulo_10 : decode cX3_modulo 10 = .ok (.ifCond .lt 11, 3) := by decide +kernel
theorem dX3_modulo_13 : decode cX3_modulo 13 = .ok (.lload_n 2, 1) := by decide +kernel
theorem dX3_modulo_14 : decode cX3_modulo 14 = .ok (.ldc2_w 103, 3) := by decide +kernel
theorem dX3_modulo_17 : decode cX3_modulo 17 = .ok (.lcmp, 1) := by decide +kernel
theorem dX3_modulo_18 : decode cX3_modulo 18 = .ok (.ifCond .le 7, 3) := by decide +kernel
theorem dX3_modulo_21 : decode cX3_modulo 21 = .ok (.ldc2_w 105, 3) := by decide +kernel
theorem dX3_modulo_24 : decode cX3_modulo 24 = .ok (.lreturn, 1) := by decide +kernel
theorem dX3_modulo_25 : decode cX3_modulo 25 = .ok (.lconst 0, 1) := by decide +kernel
theorem dX3_modulo_26 : decode cX3_modulo 26 = .ok (.lstore 4, 2) := by decide +kernel
theorem dX3_modulo_28 : decode cX3_modulo 28 = .ok (.sipush 2239, 3) := by decide +kernel
theorem dX3_modulo_31 : decode cX3_modulo 31 = .ok (.istore 6, 2) := by decide +kernel
theorem dX3_modulo_33 : decode cX3_modulo 33 = .ok (.iload 6, 2) := by decide +kernel
theorem dX3_modulo_35 : decode cX3_modulo 35 = .ok (.ifCond .lt 28, 3) := by decide +kernel
theorem dX3_modulo_38 : decode cX3_modulo 38 = .ok (.ldc2_w 107, 3) := by decide +kernel
theorem dX3_modulo_41 : decode cX3_modulo 41 = .ok (.lload 4, 2) := by decide +kernel
theorem dX3_modulo_43 : decode cX3_modulo 43 = .ok (.lmul, 1) := by decide +kernel
theorem dX3_modulo_44 : decode cX3_modulo 44 = .ok (.aload_n 0, 1) := by decide +kernel
theorem dX3_modulo_45 : decode cX3_modulo 45 = .ok (.iload_n 1, 1) := by decide +kernel
theorem dX3_modulo_46 : decode cX3_modulo 46 = .ok (.iload 6, 2) := by decide +kernel
theorem dX3_modulo_48 : decode cX3_modulo 48 = .ok (.invokevirtual 53, 3) := by decide +kernel
theorem dX3_modulo_51 : decode cX3_modulo 51 = .ok (.i2l, 1) := by decide +kernel
theorem dX3_modulo_52 : decode cX3_modulo 52 = .ok (.ladd, 1) := by decide +kernel
theorem dX3_modulo_53 : decode cX3_modulo 53 = .ok (.lload_n 2, 1) := by decide +kernel
theorem dX3_modulo_54 : decode cX3_modulo 54 = .ok (.lrem, 1) := by decide +kernel
theorem dX3_modulo_55 : decode cX3_modulo 55 = .ok (.lstore 4, 2) := by decide +kernel
theorem dX3_modulo_57 : decode cX3_modulo 57 = .ok (.iinc 6 (-1), 3) := by decide +kernel
theorem dX3_modulo_60 : decode cX3_modulo 60 = .ok (.goto (-27), 3) := by decide +kernel
theorem dX3_modulo_63 : decode cX3_modulo 63 = .ok (.aload_n 0, 1) := by decide +kernel
theorem dX3_modulo_64 : decode cX3_modulo 64 = .ok (.getfield 13, 3) := by decide +kernel
theorem dX3_modulo_67 : decode cX3_modulo 67 = .ok (.iload_n 1, 1) := by decide +kernel
theorem dX3_modulo_68 : decode cX3_modulo 68 = .ok (.iaload, 1) := by decide +kernel
theorem dX3_modulo_69 : decode cX3_modulo 69 = .ok (.ifCond .ge 12, 3) := by decide +kernel
theorem dX3_modulo_72 : decode cX3_modulo 72 = .ok (.lload_n 2, 1) := by decide +kernel
theorem dX3_modulo_73 : decode cX3_modulo 73 = .ok (.lload 4, 2) := by decide +kernel
theorem dX3_modulo_75 : decode cX3_modulo 75 = .ok (.lsub, 1) := by decide +kernel
theorem dX3_modulo_76 : decode cX3_modulo 76 = .ok (.lload_n 2, 1) := by decide +kernel
theorem dX3_modulo_77 : decode cX3_modulo 77 = .ok (.lrem, 1) := by decide +kernel
theorem dX3_modulo_78 : decode cX3_modulo 78 = .ok (.goto 5, 3) := by decide +kernel
theorem dX3_modulo_81 : decode cX3_modulo 81 = .ok (.lload 4, 2) := by decide +kernel
theorem dX3_modulo_83 : decode cX3_modulo 83 = .ok (.lreturn, 1) := by decide +kernel
theorem dX3_low_0 : decode cX3_low 0 = .ok (.iload_n 1, 1) := by decide +kernel
theorem dX3_low_1 : decode cX3_low 1 = .ok (.invokestatic 69, 3) := by decide +kernel
theorem dX3_low_4 : decode cX3_low 4 = .ok (.ifCond .ne 5, 3) := by decide +kernel
theorem dX3_low_7 : decode cX3_low 7 = .ok (.lconst 0, 1) := by decide +kernel
theorem dX3_low_8 : decode cX3_low 8 = .ok (.lreturn, 1) := by decide +kernel
theorem dX3_low_9 : decode cX3_low 9 = .ok (.lconst 0, 1) := by decide +kernel
theorem dX3_low_10 : decode cX3_low 10 = .ok (.lstore_n 2, 1) := by decide +kernel
theorem dX3_low_11 : decode cX3_low 11 = .ok (.iconst 3, 1) := by decide +kernel
theorem dX3_low_12 : decode cX3_low 12 = .ok (.istore 4, 2) := by decide +kernel
theorem dX3_low_14 : decode cX3_low 14 = .ok (.iload 4, 2) := by decide +kernel
theorem dX3_low_16 : decode cX3_low 16 = .ok (.ifCond .lt 23, 3) := by decide +kernel
theorem dX3_low_19 : decode cX3_low 19 = .ok (.lload_n 2, 1) := by decide +kernel
theorem dX3_low_20 : decode cX3_low 20 = .ok (.bipush 16, 2) := by decide +kernel
theorem dX3_low_22 : decode cX3_low 22 = .ok (.lshl, 1) := by decide +kernel
theorem dX3_low_23 : decode cX3_low 23 = .ok (.aload_n 0, 1) := by decide +kernel
theorem dX3_low_24 : decode cX3_low 24 = .ok (.iload_n 1, 1) := by decide +kernel
theorem dX3_low_25 : decode cX3_low 25 = .ok (.iload 4, 2) := by decide +kernel
theorem dX3_low_27 : decode cX3_low 27 = .ok (.invokevirtual 33, 3) := by decide +kernel
theorem dX3_low_30 : decode cX3_low 30 = .ok (.i2l, 1) := by decide +kernel
theorem dX3_low_31 : decode cX3_low 31 = .ok (.lor, 1) := by decide +kernel
theorem dX3_low_32 : decode cX3_low 32 = .ok (.lstore_n 2, 1) := by decide +kernel
theorem dX3_low_33 : decode cX3_low 33 = .ok (.iinc 4 (-1), 3) := by decide +kernel
theorem dX3_low_36 : decode cX3_low 36 = .ok (.goto (-22), 3) := by decide +kernel
theorem dX3_low_39 : decode cX3_low 39 = .ok (.aload_n 0, 1) := by decide +kernel
theorem dX3_low_40 : decode cX3_low 40 = .ok (.getfield 13, 3) := by decide +kernel
theorem dX3_low_43 : decode cX3_low 43 = .ok (.iload_n 1, 1) := by decide +kernel
theorem dX3_low_44 : decode cX3_low 44 = .ok (.iaload, 1) := by decide +kernel
theorem dX3_low_45 : decode cX3_low 45 = .ok (.ifCond .ge 8, 3) := by decide +kernel
theorem dX3_low_48 : decode cX3_low 48 = .ok (.lload_n 2, 1) := by decide +kernel
theorem dX3_low_49 : decode cX3_low 49 = .ok (.lneg, 1) := by decide +kernel
theorem dX3_low_50 : decode cX3_low 50 = .ok (.goto 4, 3) := by decide +kernel
theorem dX3_low_53 : decode cX3_low 53 = .ok (.lload_n 2, 1) := by decide +kernel
theorem dX3_low_54 : decode cX3_low 54 = .ok (.lreturn, 1) := by decide +kernel
