theorem dX1_init_0 : decode cX1_init 0 = .ok (.aload_n 0, 1) := by decide +kernel
theorem dX1_init_1 : decode cX1_init 1 = .ok (.invokespecial 3, 3) := by decide +kernel
theorem dX1_init_4 : decode cX1_init 4 = .ok (.aload_n 0, 1) := by decide +kernel
theorem dX1_init_5 : decode cX1_init 5 = .ok (.bipush 104, 2) := by decide +kernel
theorem dX1_init_7 : decode cX1_init 7 = .ok (.newarray .int, 2) := by decide +kernel
theorem dX1_init_9 : decode cX1_init 9 = .ok (.putfield 9, 3) := by decide +kernel
theorem dX1_init_12 : decode cX1_init 12 = .ok (.aload_n 0, 1) := by decide +kernel
theorem dX1_init_13 : decode cX1_init 13 = .ok (.iconst 0, 1) := by decide +kernel
theorem dX1_init_14 : decode cX1_init 14 = .ok (.putfield 15, 3) := by decide +kernel
theorem dX1_init_17 : decode cX1_init 17 = .ok (.aload_n 0, 1) := by decide +kernel
theorem dX1_init_18 : decode cX1_init 18 = .ok (.iconst 0, 1) := by decide +kernel
theorem dX1_init_19 : decode cX1_init 19 = .ok (.putfield 19, 3) := by decide +kernel
theorem dX1_init_22 : decode cX1_init 22 = .ok (.return_, 1) := by decide +kernel
theorem dX1_isZero_0 : decode cX1_isZero 0 = .ok (.aload_n 0, 1) := by decide +kernel
theorem dX1_isZero_1 : decode cX1_isZero 1 = .ok (.getfield 15, 3) := by decide +kernel
theorem dX1_isZero_4 : decode cX1_isZero 4 = .ok (.ifCond .ne 7, 3) := by decide +kernel
theorem dX1_isZero_7 : decode cX1_isZero 7 = .ok (.iconst 1, 1) := by decide +kernel
theorem dX1_isZero_8 : decode cX1_isZero 8 = .ok (.goto 4, 3) := by decide +kernel
theorem dX1_isZero_11 : decode cX1_isZero 11 = .ok (.iconst 0, 1) := by decide +kernel
theorem dX1_isZero_12 : decode cX1_isZero 12 = .ok (.ireturn, 1) := by decide +kernel
theorem dX1_isTooLong_0 : decode cX1_isTooLong 0 = .ok (.aload_n 0, 1) := by decide +kernel
theorem dX1_isTooLong_1 : decode cX1_isTooLong 1 = .ok (.getfield 15, 3) := by decide +kernel
theorem dX1_isTooLong_4 : decode cX1_isTooLong 4 = .ok (.bipush 50, 2) := by decide +kernel
theorem dX1_isTooLong_6 : decode cX1_isTooLong 6 = .ok (.if_icmp .le 7, 3) := by decide +kernel
theorem dX1_isTooLong_9 : decode cX1_isTooLong 9 = .ok (.iconst 1, 1) := by decide +kernel
theorem dX1_isTooLong_10 : decode cX1_isTooLong 10 = .ok (.goto 4, 3) := by decide +kernel
theorem dX1_isTooLong_13 : decode cX1_isTooLong 13 = .ok (.iconst 0, 1) := by decide +kernel
theorem dX1_isTooLong_14 : decode cX1_isTooLong 14 = .ok (.ireturn, 1) := by decide +kernel
theorem dX1_turnSign_0 : decode cX1_turnSign 0 = .ok (.aload_n 0, 1) := by decide +kernel
theorem dX1_turnSign_1 : decode cX1_turnSign 1 = .ok (.aload_n 0, 1) := by decide +kernel
theorem dX1_turnSign_2 : decode cX1_turnSign 2 = .ok (.getfield 19, 3) := by decide +kernel
theorem dX1_turnSign_5 : decode cX1_turnSign 5 = .ok (.ifCond .ne 14, 3) := by decide +kernel
theorem dX1_turnSign_8 : decode cX1_turnSign 8 = .ok (.aload_n 0, 1) := by decide +kernel
theorem dX1_turnSign_9 : decode cX1_turnSign 9 = .ok (.getfield 15, 3) := by decide +kernel
theorem dX1_turnSign_12 : decode cX1_turnSign 12 = .ok (.ifCond .le 7, 3) := by decide +kernel
theorem dX1_turnSign_15 : decode cX1_turnSign 15 = .ok (.iconst 1, 1) := by decide +kernel
theorem dX1_turnSign_16 : decode cX1_turnSign 16 = .ok (.goto 4, 3) := by decide +kernel
theorem dX1_turnSign_19 : decode cX1_turnSign 19 = .ok (.iconst 0, 1) := by decide +kernel
theorem dX1_turnSign_20 : decode cX1_turnSign 20 = .ok (.putfield 19, 3) := by decide +kernel
theorem dX1_turnSign_23 : decode cX1_turnSign 23 = .ok (.return_, 1) := by decide +kernel
theorem dX1_trimTo_0 : decode cX1_trimTo 0 = .ok (.iload_n 1, 1) := by decide +kernel
theorem dX1_trimTo_1 : decode cX1_trimTo 1 = .ok (.istore_n 2, 1) := by decide +kernel
theorem dX1_trimTo_2 : decode cX1_trimTo 2 = .ok (.iload_n 2, 1) := by decide +kernel
theorem dX1_trimTo_3 : decode cX1_trimTo 3 = .ok (.ifCond .le 20, 3) := by decide +kernel
theorem dX1_trimTo_6 : decode cX1_trimTo 6 = .ok (.aload_n 0, 1) := by decide +kernel
theorem dX1_trimTo_7 : decode cX1_trimTo 7 = .ok (.getfield 9, 3) := by decide +kernel
theorem dX1_trimTo_10 : decode cX1_trimTo 10 = .ok (.iload_n 2, 1) := by decide +kernel
theorem dX1_trimTo_11 : decode cX1_trimTo 11 = .ok (.iconst 1, 1) := by decide +kernel
theorem dX1_trimTo_12 : decode cX1_trimTo 12 = .ok (.isub, 1) := by decide +kernel
theorem dX1_trimTo_13 : decode cX1_trimTo 13 = .ok (.iaload, 1) := by decide +kernel
theorem dX1_trimTo_14 : decode cX1_trimTo 14 = .ok (.ifCond .ne 9, 3) := by decide +kernel
theorem dX1_trimTo_17 : decode cX1_trimTo 17 = .ok (.iinc 2 (-1), 3) := by decide +kernel
theorem dX1_trimTo_20 : decode cX1_trimTo 20 = .ok (.goto (-18), 3) := by decide +kernel
theorem dX1_trimTo_23 : decode cX1_trimTo 23 = .ok (.aload_n 0, 1) := by decide +kernel
theorem dX1_trimTo_24 : decode cX1_trimTo 24 = .ok (.iload_n 2, 1) := by decide +kernel
theorem dX1_trimTo_25 : decode cX1_trimTo 25 = .ok (.putfield 15, 3) := by decide +kernel
theorem dX1_trimTo_28 : decode cX1_trimTo 28 = .ok (.iload_n 2, 1) := by decide +kernel
theorem dX1_trimTo_29 : decode cX1_trimTo 29 = .ok (.ifCond .ne 8, 3) := by decide +kernel
theorem dX1_trimTo_32 : decode cX1_trimTo 32 = .ok (.aload_n 0, 1) := by decide +kernel
theorem dX1_trimTo_33 : decode cX1_trimTo 33 = .ok (.iconst 0, 1) := by decide +kernel
theorem dX1_trimTo_34 : decode cX1_trimTo 34 = .ok (.putfield 19, 3) := by decide +kernel
theorem dX1_trimTo_37 : decode cX1_trimTo 37 = .ok (.return_, 1) := by decide +kernel
theorem dX1_clearParts_0 : decode cX1_clearParts 0 = .ok (.iload_n 1, 1) := by decide +kernel
theorem dX1_clearParts_1 : decode cX1_clearParts 1 = .ok (.istore_n 3, 1) := by decide +kernel
theorem dX1_clearParts_2 : decode cX1_clearParts 2 = .ok (.iload_n 3, 1) := by decide +kernel
theorem dX1_clearParts_3 : decode cX1_clearParts 3 = .ok (.iload_n 2, 1) := by decide +kernel
theorem dX1_clearParts_4 : decode cX1_clearParts 4 = .ok (.if_icmp .ge 16, 3) := by decide +kernel
theorem dX1_clearParts_7 : decode cX1_clearParts 7 = .ok (.aload_n 0, 1) := by decide +kernel
theorem dX1_clearParts_8 : decode cX1_clearParts 8 = .ok (.getfield 9, 3) := by decide +kernel
theorem dX1_clearParts_11 : decode cX1_clearParts 11 = .ok (.iload_n 3, 1) := by decide +kernel
theorem dX1_clearParts_12 : decode cX1_clearParts 12 = .ok (.iconst 0, 1) := by decide +kernel
theorem dX1_clearParts_13 : decode cX1_clearParts 13 = .ok (.iastore, 1) := by decide +kernel
theorem dX1_clearParts_14 : decode cX1_clearParts 14 = .ok (.iinc 3 1, 3) := by decide +kernel
theorem dX1_clearParts_17 : decode cX1_clearParts 17 = .ok (.goto (-15), 3) := by decide +kernel
theorem dX1_clearParts_20 : decode cX1_clearParts 20 = .ok (.return_, 1) := by decide +kernel
theorem dX1_partOrZero_0 : decode cX1_partOrZero 0 = .ok (.iload_n 1, 1) := by decide +kernel
theorem dX1_partOrZero_1 : decode cX1_partOrZero 1 = .ok (.ifCond .lt 20, 3) := by decide +kernel
theorem dX1_partOrZero_4 : decode cX1_partOrZero 4 = .ok (.iload_n 1, 1) := by decide +kernel
theorem dX1_partOrZero_5 : decode cX1_partOrZero 5 = .ok (.aload_n 0, 1) := by decide +kernel
theorem dX1_partOrZero_6 : decode cX1_partOrZero 6 = .ok (.getfield 15, 3) := by decide +kernel
theorem dX1_partOrZero_9 : decode cX1_partOrZero 9 = .ok (.if_icmp .ge 12, 3) := by decide +kernel
theorem dX1_partOrZero_12 : decode cX1_partOrZero 12 = .ok (.aload_n 0, 1) := by decide +kernel
theorem dX1_partOrZero_13 : decode cX1_partOrZero 13 = .ok (.getfield 9, 3) := by decide +kernel
theorem dX1_partOrZero_16 : decode cX1_partOrZero 16 = .ok (.iload_n 1, 1) := by decide +kernel
theorem dX1_partOrZero_17 : decode cX1_partOrZero 17 = .ok (.iaload, 1) := by decide +kernel
theorem dX1_partOrZero_18 : decode cX1_partOrZero 18 = .ok (.goto 4, 3) := by decide +kernel
theorem dX1_partOrZero_21 : decode cX1_partOrZero 21 = .ok (.iconst 0, 1) := by decide +kernel
theorem dX1_partOrZero_22 : decode cX1_partOrZero 22 = .ok (.ireturn, 1) := by decide +kernel
theorem dX1_load_0 : decode cX1_load 0 = .ok (.lload_n 1, 1) := by decide +kernel
theorem dX1_load_1 : decode cX1_load 1 = .ok (.lstore_n 3, 1) := by decide +kernel
theorem dX1_load_2 : decode cX1_load 2 = .ok (.iconst 0, 1) := by decide +kernel
theorem dX1_load_3 : decode cX1_load 3 = .ok (.istore 5, 2) := by decide +kernel
theorem dX1_load_5 : decode cX1_load 5 = .ok (.iload 5, 2) := by decide +kernel
theorem dX1_load_7 : decode cX1_load 7 = .ok (.iconst 4, 1) := by decide +kernel
theorem dX1_load_8 : decode cX1_load 8 = .ok (.if_icmp .ge 31, 3) := by decide +kernel
theorem dX1_load_11 : decode cX1_load 11 = .ok (.aload_n 0, 1) := by decide +kernel
theorem dX1_load_12 : decode cX1_load 12 = .ok (.getfield 9, 3) := by decide +kernel
theorem dX1_load_15 : decode cX1_load 15 = .ok (.iload 5, 2) := by decide +kernel
theorem dX1_load_17 : decode cX1_load 17 = .ok (.lload_n 3, 1) := by decide +kernel
theorem dX1_load_18 : decode cX1_load 18 = .ok (.ldc2_w 23, 3) := by decide +kernel
theorem dX1_load_21 : decode cX1_load 21 = .ok (.lrem, 1) := by decide +kernel
theorem dX1_load_22 : decode cX1_load 22 = .ok (.invokestatic 25, 3) := by decide +kernel
theorem dX1_load_25 : decode cX1_load 25 = .ok (.l2i, 1) := by decide +kernel
theorem dX1_load_26 : decode cX1_load 26 = .ok (.iastore, 1) := by decide +kernel
theorem dX1_load_27 : decode cX1_load 27 = .ok (.lload_n 3, 1) := by decide +kernel
theorem dX1_load_28 : decode cX1_load 28 = .ok (.ldc2_w 23, 3) := by decide +kernel
theorem dX1_load_31 : decode cX1_load 31 = .ok (.ldiv, 1) := by decide +kernel
theorem dX1_load_32 : decode cX1_load 32 = .ok (.lstore_n 3, 1) := by decide +kernel
theorem dX1_load_33 : decode cX1_load 33 = .ok (.iinc 5 1, 3) := by decide +kernel
theorem dX1_load_36 : decode cX1_load 36 = .ok (.goto (-31), 3) := by decide +kernel
theorem dX1_load_39 : decode cX1_load 39 = .ok (.aload_n 0, 1) := by decide +kernel
theorem dX1_load_40 : decode cX1_load 40 = .ok (.lload_n 1, 1) := by decide +kernel
theorem dX1_load_41 : decode cX1_load 41 = .ok (.lconst 0, 1) := by decide +kernel
theorem dX1_load_42 : decode cX1_load 42 = .ok (.lcmp, 1) := by decide +kernel
theorem dX1_load_43 : decode cX1_load 43 = .ok (.ifCond .ge 7, 3) := by decide +kernel
theorem dX1_load_46 : decode cX1_load 46 = .ok (.iconst 1, 1) := by decide +kernel
theorem dX1_load_47 : decode cX1_load 47 = .ok (.goto 4, 3) := by decide +kernel
theorem dX1_load_50 : decode cX1_load 50 = .ok (.iconst 0, 1) := by decide +kernel
theorem dX1_load_51 : decode cX1_load 51 = .ok (.putfield 19, 3) := by decide +kernel
theorem dX1_load_54 : decode cX1_load 54 = .ok (.aload_n 0, 1) := by decide +kernel
theorem dX1_load_55 : decode cX1_load 55 = .ok (.iconst 4, 1) := by decide +kernel
theorem dX1_load_56 : decode cX1_load 56 = .ok (.invokevirtual 31, 3) := by decide +kernel
theorem dX1_load_59 : decode cX1_load 59 = .ok (.return_, 1) := by decide +kernel
theorem dX1_take_0 : decode cX1_take 0 = .ok (.aload_n 1, 1) := by decide +kernel
theorem dX1_take_1 : decode cX1_take 1 = .ok (.getfield 9, 3) := by decide +kernel
theorem dX1_take_4 : decode cX1_take 4 = .ok (.iconst 0, 1) := by decide +kernel
theorem dX1_take_5 : decode cX1_take 5 = .ok (.aload_n 0, 1) := by decide +kernel
theorem dX1_take_6 : decode cX1_take 6 = .ok (.getfield 9, 3) := by decide +kernel
theorem dX1_take_9 : decode cX1_take 9 = .ok (.iconst 0, 1) := by decide +kernel
theorem dX1_take_10 : decode cX1_take 10 = .ok (.aload_n 1, 1) := by decide +kernel
theorem dX1_take_11 : decode cX1_take 11 = .ok (.getfield 15, 3) := by decide +kernel
theorem dX1_take_14 : decode cX1_take 14 = .ok (.invokestatic 35, 3) := by decide +kernel
theorem dX1_take_17 : decode cX1_take 17 = .ok (.aload_n 0, 1) := by decide +kernel
theorem dX1_take_18 : decode cX1_take 18 = .ok (.aload_n 1, 1) := by decide +kernel
theorem dX1_take_19 : decode cX1_take 19 = .ok (.getfield 15, 3) := by decide +kernel
theorem dX1_take_22 : decode cX1_take 22 = .ok (.putfield 15, 3) := by decide +kernel
theorem dX1_take_25 : decode cX1_take 25 = .ok (.aload_n 0, 1) := by decide +kernel
theorem dX1_take_26 : decode cX1_take 26 = .ok (.aload_n 1, 1) := by decide +kernel
theorem dX1_take_27 : decode cX1_take 27 = .ok (.getfield 19, 3) := by decide +kernel
theorem dX1_take_30 : decode cX1_take 30 = .ok (.putfield 19, 3) := by decide +kernel
theorem dX1_take_33 : decode cX1_take 33 = .ok (.return_, 1) := by decide +kernel
theorem dX1_takeSum_0 : decode cX1_takeSum 0 = .ok (.aload_n 2, 1) := by decide +kernel
theorem dX1_takeSum_1 : decode cX1_takeSum 1 = .ok (.getfield 19, 3) := by decide +kernel
theorem dX1_takeSum_4 : decode cX1_takeSum 4 = .ok (.iload_n 3, 1) := by decide +kernel
theorem dX1_takeSum_5 : decode cX1_takeSum 5 = .ok (.if_icmp .eq 7, 3) := by decide +kernel
theorem dX1_takeSum_8 : decode cX1_takeSum 8 = .ok (.iconst 1, 1) := by decide +kernel
theorem dX1_takeSum_9 : decode cX1_takeSum 9 = .ok (.goto 4, 3) := by decide +kernel
theorem dX1_takeSum_12 : decode cX1_takeSum 12 = .ok (.iconst 0, 1) := by decide +kernel
theorem dX1_takeSum_13 : decode cX1_takeSum 13 = .ok (.istore 4, 2) := by decide +kernel
theorem dX1_takeSum_15 : decode cX1_takeSum 15 = .ok (.aload_n 1, 1) := by decide +kernel
theorem dX1_takeSum_16 : decode cX1_takeSum 16 = .ok (.aload_n 2, 1) := by decide +kernel
theorem dX1_takeSum_17 : decode cX1_takeSum 17 = .ok (.invokevirtual 41, 3) := by decide +kernel
theorem dX1_takeSum_20 : decode cX1_takeSum 20 = .ok (.ifCond .lt 7, 3) := by decide +kernel
theorem dX1_takeSum_23 : decode cX1_takeSum 23 = .ok (.iconst 1, 1) := by decide +kernel
theorem dX1_takeSum_24 : decode cX1_takeSum 24 = .ok (.goto 4, 3) := by decide +kernel
theorem dX1_takeSum_27 : decode cX1_takeSum 27 = .ok (.iconst 0, 1) := by decide +kernel
theorem dX1_takeSum_28 : decode cX1_takeSum 28 = .ok (.istore 5, 2) := by decide +kernel
theorem dX1_takeSum_30 : decode cX1_takeSum 30 = .ok (.aload_n 0, 1) := by decide +kernel
theorem dX1_takeSum_31 : decode cX1_takeSum 31 = .ok (.iload 5, 2) := by decide +kernel
theorem dX1_takeSum_33 : decode cX1_takeSum 33 = .ok (.ifCond .eq 10, 3) := by decide +kernel
theorem dX1_takeSum_36 : decode cX1_takeSum 36 = .ok (.aload_n 1, 1) := by decide +kernel
theorem dX1_takeSum_37 : decode cX1_takeSum 37 = .ok (.getfield 19, 3) := by decide +kernel
theorem dX1_takeSum_40 : decode cX1_takeSum 40 = .ok (.goto 5, 3) := by decide +kernel
theorem dX1_takeSum_43 : decode cX1_takeSum 43 = .ok (.iload 4, 2) := by decide +kernel
theorem dX1_takeSum_45 : decode cX1_takeSum 45 = .ok (.putfield 19, 3) := by decide +kernel
theorem dX1_takeSum_48 : decode cX1_takeSum 48 = .ok (.aload_n 1, 1) := by decide +kernel
theorem dX1_takeSum_49 : decode cX1_takeSum 49 = .ok (.getfield 19, 3) := by decide +kernel
theorem dX1_takeSum_52 : decode cX1_takeSum 52 = .ok (.iload 4, 2) := by decide +kernel
theorem dX1_takeSum_54 : decode cX1_takeSum 54 = .ok (.if_icmp .ne 12, 3) := by decide +kernel
theorem dX1_takeSum_57 : decode cX1_takeSum 57 = .ok (.aload_n 0, 1) := by decide +kernel
theorem dX1_takeSum_58 : decode cX1_takeSum 58 = .ok (.aload_n 1, 1) := by decide +kernel
theorem dX1_takeSum_59 : decode cX1_takeSum 59 = .ok (.aload_n 2, 1) := by decide +kernel
theorem dX1_takeSum_60 : decode cX1_takeSum 60 = .ok (.invokevirtual 45, 3) := by decide +kernel
theorem dX1_takeSum_63 : decode cX1_takeSum 63 = .ok (.goto 23, 3) := by decide +kernel
theorem dX1_takeSum_66 : decode cX1_takeSum 66 = .ok (.iload 5, 2) := by decide +kernel
theorem dX1_takeSum_68 : decode cX1_takeSum 68 = .ok (.ifCond .eq 12, 3) := by decide +kernel
theorem dX1_takeSum_71 : decode cX1_takeSum 71 = .ok (.aload_n 0, 1) := by decide +kernel
theorem dX1_takeSum_72 : decode cX1_takeSum 72 = .ok (.aload_n 1, 1) := by decide +kernel
theorem dX1_takeSum_73 : decode cX1_takeSum 73 = .ok (.aload_n 2, 1) := by decide +kernel
theorem dX1_takeSum_74 : decode cX1_takeSum 74 = .ok (.invokevirtual 49, 3) := by decide +kernel
theorem dX1_takeSum_77 : decode cX1_takeSum 77 = .ok (.goto 9, 3) := by decide +kernel
theorem dX1_takeSum_80 : decode cX1_takeSum 80 = .ok (.aload_n 0, 1) := by decide +kernel
theorem dX1_takeSum_81 : decode cX1_takeSum 81 = .ok (.aload_n 2, 1) := by decide +kernel
theorem dX1_takeSum_82 : decode cX1_takeSum 82 = .ok (.aload_n 1, 1) := by decide +kernel
theorem dX1_takeSum_83 : decode cX1_takeSum 83 = .ok (.invokevirtual 49, 3) := by decide +kernel
theorem dX1_takeSum_86 : decode cX1_takeSum 86 = .ok (.return_, 1) := by decide +kernel
theorem dX1_addParts_0 : decode cX1_addParts 0 = .ok (.aload_n 1, 1) := by decide +kernel
theorem dX1_addParts_1 : decode cX1_addParts 1 = .ok (.getfield 15, 3) := by decide +kernel
theorem dX1_addParts_4 : decode cX1_addParts 4 = .ok (.aload_n 2, 1) := by decide +kernel
theorem dX1_addParts_5 : decode cX1_addParts 5 = .ok (.getfield 15, 3) := by decide +kernel
theorem dX1_addParts_8 : decode cX1_addParts 8 = .ok (.invokestatic 52, 3) := by decide +kernel
theorem dX1_addParts_11 : decode cX1_addParts 11 = .ok (.bipush 103, 2) := by decide +kernel
theorem dX1_addParts_13 : decode cX1_addParts 13 = .ok (.invokestatic 56, 3) := by decide +kernel
theorem dX1_addParts_16 : decode cX1_addParts 16 = .ok (.istore_n 3, 1) := by decide +kernel
theorem dX1_addParts_17 : decode cX1_addParts 17 = .ok (.iconst 0, 1) := by decide +kernel
theorem dX1_addParts_18 : decode cX1_addParts 18 = .ok (.istore 4, 2) := by decide +kernel
theorem dX1_addParts_20 : decode cX1_addParts 20 = .ok (.iconst 0, 1) := by decide +kernel
theorem dX1_addParts_21 : decode cX1_addParts 21 = .ok (.istore 5, 2) := by decide +kernel
theorem dX1_addParts_23 : decode cX1_addParts 23 = .ok (.iload 5, 2) := by decide +kernel
theorem dX1_addParts_25 : decode cX1_addParts 25 = .ok (.iload_n 3, 1) := by decide +kernel
theorem dX1_addParts_26 : decode cX1_addParts 26 = .ok (.if_icmp .ge 56, 3) := by decide +kernel
theorem dX1_addParts_29 : decode cX1_addParts 29 = .ok (.aload_n 1, 1) := by decide +kernel
theorem dX1_addParts_30 : decode cX1_addParts 30 = .ok (.iload 5, 2) := by decide +kernel
theorem dX1_addParts_32 : decode cX1_addParts 32 = .ok (.invokevirtual 59, 3) := by decide +kernel
theorem dX1_addParts_35 : decode cX1_addParts 35 = .ok (.aload_n 2, 1) := by decide +kernel
theorem dX1_addParts_36 : decode cX1_addParts 36 = .ok (.iload 5, 2) := by decide +kernel
theorem dX1_addParts_38 : decode cX1_addParts 38 = .ok (.invokevirtual 59, 3) := by decide +kernel
theorem dX1_addParts_41 : decode cX1_addParts 41 = .ok (.iadd, 1) := by decide +kernel
theorem dX1_addParts_42 : decode cX1_addParts 42 = .ok (.iload 4, 2) := by decide +kernel
theorem dX1_addParts_44 : decode cX1_addParts 44 = .ok (.iadd, 1) := by decide +kernel
theorem dX1_addParts_45 : decode cX1_addParts 45 = .ok (.istore 6, 2) := by decide +kernel
theorem dX1_addParts_47 : decode cX1_addParts 47 = .ok (.iload 6, 2) := by decide +kernel
theorem dX1_addParts_49 : decode cX1_addParts 49 = .ok (.ldc 63, 2) := by decide +kernel
theorem dX1_addParts_51 : decode cX1_addParts 51 = .ok (.if_icmp .lt 7, 3) := by decide +kernel
theorem dX1_addParts_54 : decode cX1_addParts 54 = .ok (.iconst 1, 1) := by decide +kernel
theorem dX1_addParts_55 : decode cX1_addParts 55 = .ok (.goto 4, 3) := by decide +kernel
theorem dX1_addParts_58 : decode cX1_addParts 58 = .ok (.iconst 0, 1) := by decide +kernel
theorem dX1_addParts_59 : decode cX1_addParts 59 = .ok (.istore 4, 2) := by decide +kernel
theorem dX1_addParts_61 : decode cX1_addParts 61 = .ok (.aload_n 0, 1) := by decide +kernel
theorem dX1_addParts_62 : decode cX1_addParts 62 = .ok (.getfield 9, 3) := by decide +kernel
theorem dX1_addParts_65 : decode cX1_addParts 65 = .ok (.iload 5, 2) := by decide +kernel
theorem dX1_addParts_67 : decode cX1_addParts 67 = .ok (.iload 6, 2) := by decide +kernel
theorem dX1_addParts_69 : decode cX1_addParts 69 = .ok (.iload 4, 2) := by decide +kernel
theorem dX1_addParts_71 : decode cX1_addParts 71 = .ok (.ldc 63, 2) := by decide +kernel
theorem dX1_addParts_73 : decode cX1_addParts 73 = .ok (.imul, 1) := by decide +kernel
theorem dX1_addParts_74 : decode cX1_addParts 74 = .ok (.isub, 1) := by decide +kernel
theorem dX1_addParts_75 : decode cX1_addParts 75 = .ok (.iastore, 1) := by decide +kernel
theorem dX1_addParts_76 : decode cX1_addParts 76 = .ok (.iinc 5 1, 3) := by decide +kernel
theorem dX1_addParts_79 : decode cX1_addParts 79 = .ok (.goto (-56), 3) := by decide +kernel
theorem dX1_addParts_82 : decode cX1_addParts 82 = .ok (.aload_n 0, 1) := by decide +kernel
theorem dX1_addParts_83 : decode cX1_addParts 83 = .ok (.getfield 9, 3) := by decide +kernel
theorem dX1_addParts_86 : decode cX1_addParts 86 = .ok (.iload_n 3, 1) := by decide +kernel
theorem dX1_addParts_87 : decode cX1_addParts 87 = .ok (.iload 4, 2) := by decide +kernel
theorem dX1_addParts_89 : decode cX1_addParts 89 = .ok (.iastore, 1) := by decide +kernel
theorem dX1_addParts_90 : decode cX1_addParts 90 = .ok (.aload_n 0, 1) := by decide +kernel
theorem dX1_addParts_91 : decode cX1_addParts 91 = .ok (.iload_n 3, 1) := by decide +kernel
theorem dX1_addParts_92 : decode cX1_addParts 92 = .ok (.iconst 1, 1) := by decide +kernel
theorem dX1_addParts_93 : decode cX1_addParts 93 = .ok (.iadd, 1) := by decide +kernel
theorem dX1_addParts_94 : decode cX1_addParts 94 = .ok (.invokevirtual 31, 3) := by decide +kernel
theorem dX1_addParts_97 : decode cX1_addParts 97 = .ok (.return_, 1) := by decide +kernel
theorem dX1_subtractParts_0 : decode cX1_subtractParts 0 = .ok (.iconst 0, 1) := by decide +kernel
theorem dX1_subtractParts_1 : decode cX1_subtractParts 1 = .ok (.istore_n 3, 1) := by decide +kernel
theorem dX1_subtractParts_2 : decode cX1_subtractParts 2 = .ok (.iconst 0, 1) := by decide +kernel
theorem dX1_subtractParts_3 : decode cX1_subtractParts 3 = .ok (.istore 4, 2) := by decide +kernel
theorem dX1_subtractParts_5 : decode cX1_subtractParts 5 = .ok (.iload 4, 2) := by decide +kernel
theorem dX1_subtractParts_7 : decode cX1_subtractParts 7 = .ok (.aload_n 1, 1) := by decide +kernel
theorem dX1_subtractParts_8 : decode cX1_subtractParts 8 = .ok (.getfield 15, 3) := by decide +kernel
theorem dX1_subtractParts_11 : decode cX1_subtractParts 11 = .ok (.if_icmp .ge 52, 3) := by decide +kernel
theorem dX1_subtractParts_14 : decode cX1_subtractParts 14 = .ok (.aload_n 1, 1) := by decide +kernel
theorem dX1_subtractParts_15 : decode cX1_subtractParts 15 = .ok (.getfield 9, 3) := by decide +kernel
theorem dX1_subtractParts_18 : decode cX1_subtractParts 18 = .ok (.iload 4, 2) := by decide +kernel
theorem dX1_subtractParts_20 : decode cX1_subtractParts 20 = .ok (.iaload, 1) := by decide +kernel
theorem dX1_subtractParts_21 : decode cX1_subtractParts 21 = .ok (.aload_n 2, 1) := by decide +kernel
theorem dX1_subtractParts_22 : decode cX1_subtractParts 22 = .ok (.iload 4, 2) := by decide +kernel
theorem dX1_subtractParts_24 : decode cX1_subtractParts 24 = .ok (.invokevirtual 59, 3) := by decide +kernel
theorem dX1_subtractParts_27 : decode cX1_subtractParts 27 = .ok (.isub, 1) := by decide +kernel
theorem dX1_subtractParts_28 : decode cX1_subtractParts 28 = .ok (.iload_n 3, 1) := by decide +kernel
theorem dX1_subtractParts_29 : decode cX1_subtractParts 29 = .ok (.isub, 1) := by decide +kernel
theorem dX1_subtractParts_30 : decode cX1_subtractParts 30 = .ok (.istore 5, 2) := by decide +kernel
theorem dX1_subtractParts_32 : decode cX1_subtractParts 32 = .ok (.iload 5, 2) := by decide +kernel
theorem dX1_subtractParts_34 : decode cX1_subtractParts 34 = .ok (.ifCond .ge 7, 3) := by decide +kernel
theorem dX1_subtractParts_37 : decode cX1_subtractParts 37 = .ok (.iconst 1, 1) := by decide +kernel
theorem dX1_subtractParts_38 : decode cX1_subtractParts 38 = .ok (.goto 4, 3) := by decide +kernel
theorem dX1_subtractParts_41 : decode cX1_subtractParts 41 = .ok (.iconst 0, 1) := by decide +kernel
theorem dX1_subtractParts_42 : decode cX1_subtractParts 42 = .ok (.istore_n 3, 1) := by decide +kernel
theorem dX1_subtractParts_43 : decode cX1_subtractParts 43 = .ok (.aload_n 0, 1) := by decide +kernel
theorem dX1_subtractParts_44 : decode cX1_subtractParts 44 = .ok (.getfield 9, 3) := by decide +kernel
theorem dX1_subtractParts_47 : decode cX1_subtractParts 47 = .ok (.iload 4, 2) := by decide +kernel
theorem dX1_subtractParts_49 : decode cX1_subtractParts 49 = .ok (.iload 5, 2) := by decide +kernel
theorem dX1_subtractParts_51 : decode cX1_subtractParts 51 = .ok (.iload_n 3, 1) := by decide +kernel
theorem dX1_subtractParts_52 : decode cX1_subtractParts 52 = .ok (.ldc 63, 2) := by decide +kernel
theorem dX1_subtractParts_54 : decode cX1_subtractParts 54 = .ok (.imul, 1) := by decide +kernel
theorem dX1_subtractParts_55 : decode cX1_subtractParts 55 = .ok (.iadd, 1) := by decide +kernel
theorem dX1_subtractParts_56 : decode cX1_subtractParts 56 = .ok (.iastore, 1) := by decide +kernel
theorem dX1_subtractParts_57 : decode cX1_subtractParts 57 = .ok (.iinc 4 1, 3) := by decide +kernel
theorem dX1_subtractParts_60 : decode cX1_subtractParts 60 = .ok (.goto (-55), 3) := by decide +kernel
theorem dX1_subtractParts_63 : decode cX1_subtractParts 63 = .ok (.aload_n 0, 1) := by decide +kernel
theorem dX1_subtractParts_64 : decode cX1_subtractParts 64 = .ok (.aload_n 1, 1) := by decide +kernel
theorem dX1_subtractParts_65 : decode cX1_subtractParts 65 = .ok (.getfield 15, 3) := by decide +kernel
theorem dX1_subtractParts_68 : decode cX1_subtractParts 68 = .ok (.invokevirtual 31, 3) := by decide +kernel
theorem dX1_subtractParts_71 : decode cX1_subtractParts 71 = .ok (.return_, 1) := by decide +kernel
theorem dX1_takeProduct_0 : decode cX1_takeProduct 0 = .ok (.aload_n 1, 1) := by decide +kernel
theorem dX1_takeProduct_1 : decode cX1_takeProduct 1 = .ok (.getfield 15, 3) := by decide +kernel
theorem dX1_takeProduct_4 : decode cX1_takeProduct 4 = .ok (.aload_n 2, 1) := by decide +kernel
theorem dX1_takeProduct_5 : decode cX1_takeProduct 5 = .ok (.getfield 15, 3) := by decide +kernel
theorem dX1_takeProduct_8 : decode cX1_takeProduct 8 = .ok (.iadd, 1) := by decide +kernel
theorem dX1_takeProduct_9 : decode cX1_takeProduct 9 = .ok (.bipush 104, 2) := by decide +kernel
theorem dX1_takeProduct_11 : decode cX1_takeProduct 11 = .ok (.invokestatic 56, 3) := by decide +kernel
theorem dX1_takeProduct_14 : decode cX1_takeProduct 14 = .ok (.istore_n 3, 1) := by decide +kernel
theorem dX1_takeProduct_15 : decode cX1_takeProduct 15 = .ok (.aload_n 1, 1) := by decide +kernel
theorem dX1_takeProduct_16 : decode cX1_takeProduct 16 = .ok (.getfield 9, 3) := by decide +kernel
theorem dX1_takeProduct_19 : decode cX1_takeProduct 19 = .ok (.astore 4, 2) := by decide +kernel
theorem dX1_takeProduct_21 : decode cX1_takeProduct 21 = .ok (.aload_n 2, 1) := by decide +kernel
theorem dX1_takeProduct_22 : decode cX1_takeProduct 22 = .ok (.getfield 9, 3) := by decide +kernel
theorem dX1_takeProduct_25 : decode cX1_takeProduct 25 = .ok (.astore 5, 2) := by decide +kernel
theorem dX1_takeProduct_27 : decode cX1_takeProduct 27 = .ok (.lconst 0, 1) := by decide +kernel
theorem dX1_takeProduct_28 : decode cX1_takeProduct 28 = .ok (.lstore 6, 2) := by decide +kernel
theorem dX1_takeProduct_30 : decode cX1_takeProduct 30 = .ok (.iconst 0, 1) := by decide +kernel
theorem dX1_takeProduct_31 : decode cX1_takeProduct 31 = .ok (.istore 8, 2) := by decide +kernel
theorem dX1_takeProduct_33 : decode cX1_takeProduct 33 = .ok (.iload 8, 2) := by decide +kernel
theorem dX1_takeProduct_35 : decode cX1_takeProduct 35 = .ok (.iload_n 3, 1) := by decide +kernel
theorem dX1_takeProduct_36 : decode cX1_takeProduct 36 = .ok (.if_icmp .ge 93, 3) := by decide +kernel
theorem dX1_takeProduct_39 : decode cX1_takeProduct 39 = .ok (.iload 8, 2) := by decide +kernel
theorem dX1_takeProduct_41 : decode cX1_takeProduct 41 = .ok (.iconst 1, 1) := by decide +kernel
theorem dX1_takeProduct_42 : decode cX1_takeProduct 42 = .ok (.iadd, 1) := by decide +kernel
theorem dX1_takeProduct_43 : decode cX1_takeProduct 43 = .ok (.aload_n 1, 1) := by decide +kernel
theorem dX1_takeProduct_44 : decode cX1_takeProduct 44 = .ok (.getfield 15, 3) := by decide +kernel
theorem dX1_takeProduct_47 : decode cX1_takeProduct 47 = .ok (.invokestatic 56, 3) := by decide +kernel
theorem dX1_takeProduct_50 : decode cX1_takeProduct 50 = .ok (.istore 9, 2) := by decide +kernel
theorem dX1_takeProduct_52 : decode cX1_takeProduct 52 = .ok (.iconst 0, 1) := by decide +kernel
theorem dX1_takeProduct_53 : decode cX1_takeProduct 53 = .ok (.iload 8, 2) := by decide +kernel
theorem dX1_takeProduct_55 : decode cX1_takeProduct 55 = .ok (.aload_n 2, 1) := by decide +kernel
theorem dX1_takeProduct_56 : decode cX1_takeProduct 56 = .ok (.getfield 15, 3) := by decide +kernel
theorem dX1_takeProduct_59 : decode cX1_takeProduct 59 = .ok (.isub, 1) := by decide +kernel
theorem dX1_takeProduct_60 : decode cX1_takeProduct 60 = .ok (.iconst 1, 1) := by decide +kernel
theorem dX1_takeProduct_61 : decode cX1_takeProduct 61 = .ok (.iadd, 1) := by decide +kernel
theorem dX1_takeProduct_62 : decode cX1_takeProduct 62 = .ok (.invokestatic 52, 3) := by decide +kernel
theorem dX1_takeProduct_65 : decode cX1_takeProduct 65 = .ok (.istore 10, 2) := by decide +kernel
theorem dX1_takeProduct_67 : decode cX1_takeProduct 67 = .ok (.iload 10, 2) := by decide +kernel
theorem dX1_takeProduct_69 : decode cX1_takeProduct 69 = .ok (.iload 9, 2) := by decide +kernel
theorem dX1_takeProduct_71 : decode cX1_takeProduct 71 = .ok (.if_icmp .ge 30, 3) := by decide +kernel
theorem dX1_takeProduct_74 : decode cX1_takeProduct 74 = .ok (.lload 6, 2) := by decide +kernel
theorem dX1_takeProduct_76 : decode cX1_takeProduct 76 = .ok (.aload 4, 2) := by decide +kernel
theorem dX1_takeProduct_78 : decode cX1_takeProduct 78 = .ok (.iload 10, 2) := by decide +kernel
theorem dX1_takeProduct_80 : decode cX1_takeProduct 80 = .ok (.iaload, 1) := by decide +kernel
theorem dX1_takeProduct_81 : decode cX1_takeProduct 81 = .ok (.i2l, 1) := by decide +kernel
theorem dX1_takeProduct_82 : decode cX1_takeProduct 82 = .ok (.aload 5, 2) := by decide +kernel
theorem dX1_takeProduct_84 : decode cX1_takeProduct 84 = .ok (.iload 8, 2) := by decide +kernel
theorem dX1_takeProduct_86 : decode cX1_takeProduct 86 = .ok (.iload 10, 2) := by decide +kernel
theorem dX1_takeProduct_88 : decode cX1_takeProduct 88 = .ok (.isub, 1) := by decide +kernel
theorem dX1_takeProduct_89 : decode cX1_takeProduct 89 = .ok (.iaload, 1) := by decide +kernel
theorem dX1_takeProduct_90 : decode cX1_takeProduct 90 = .ok (.i2l, 1) := by decide +kernel
theorem dX1_takeProduct_91 : decode cX1_takeProduct 91 = .ok (.lmul, 1) := by decide +kernel
theorem dX1_takeProduct_92 : decode cX1_takeProduct 92 = .ok (.ladd, 1) := by decide +kernel
theorem dX1_takeProduct_93 : decode cX1_takeProduct 93 = .ok (.lstore 6, 2) := by decide +kernel
theorem dX1_takeProduct_95 : decode cX1_takeProduct 95 = .ok (.iinc 10 1, 3) := by decide +kernel
theorem dX1_takeProduct_98 : decode cX1_takeProduct 98 = .ok (.goto (-31), 3) := by decide +kernel
theorem dX1_takeProduct_101 : decode cX1_takeProduct 101 = .ok (.aload_n 0, 1) := by decide +kernel
theorem dX1_takeProduct_102 : decode cX1_takeProduct 102 = .ok (.getfield 9, 3) := by decide +kernel
theorem dX1_takeProduct_105 : decode cX1_takeProduct 105 = .ok (.iload 8, 2) := by decide +kernel
theorem dX1_takeProduct_107 : decode cX1_takeProduct 107 = .ok (.lload 6, 2) := by decide +kernel
theorem dX1_takeProduct_109 : decode cX1_takeProduct 109 = .ok (.ldc2_w 23, 3) := by decide +kernel
theorem dX1_takeProduct_112 : decode cX1_takeProduct 112 = .ok (.lrem, 1) := by decide +kernel
theorem dX1_takeProduct_113 : decode cX1_takeProduct 113 = .ok (.l2i, 1) := by decide +kernel
theorem dX1_takeProduct_114 : decode cX1_takeProduct 114 = .ok (.iastore, 1) := by decide +kernel
theorem dX1_takeProduct_115 : decode cX1_takeProduct 115 = .ok (.lload 6, 2) := by decide +kernel
theorem dX1_takeProduct_117 : decode cX1_takeProduct 117 = .ok (.ldc2_w 23, 3) := by decide +kernel
theorem dX1_takeProduct_120 : decode cX1_takeProduct 120 = .ok (.ldiv, 1) := by decide +kernel
theorem dX1_takeProduct_121 : decode cX1_takeProduct 121 = .ok (.lstore 6, 2) := by decide +kernel
theorem dX1_takeProduct_123 : decode cX1_takeProduct 123 = .ok (.iinc 8 1, 3) := by decide +kernel
theorem dX1_takeProduct_126 : decode cX1_takeProduct 126 = .ok (.goto (-93), 3) := by decide +kernel
theorem dX1_takeProduct_129 : decode cX1_takeProduct 129 = .ok (.aload_n 0, 1) := by decide +kernel
theorem dX1_takeProduct_130 : decode cX1_takeProduct 130 = .ok (.aload_n 1, 1) := by decide +kernel
theorem dX1_takeProduct_131 : decode cX1_takeProduct 131 = .ok (.getfield 19, 3) := by decide +kernel
theorem dX1_takeProduct_134 : decode cX1_takeProduct 134 = .ok (.aload_n 2, 1) := by decide +kernel
theorem dX1_takeProduct_135 : decode cX1_takeProduct 135 = .ok (.getfield 19, 3) := by decide +kernel
theorem dX1_takeProduct_138 : decode cX1_takeProduct 138 = .ok (.if_icmp .eq 7, 3) := by decide +kernel
theorem dX1_takeProduct_141 : decode cX1_takeProduct 141 = .ok (.iconst 1, 1) := by decide +kernel
theorem dX1_takeProduct_142 : decode cX1_takeProduct 142 = .ok (.goto 4, 3) := by decide +kernel
theorem dX1_takeProduct_145 : decode cX1_takeProduct 145 = .ok (.iconst 0, 1) := by decide +kernel
theorem dX1_takeProduct_146 : decode cX1_takeProduct 146 = .ok (.putfield 19, 3) := by decide +kernel
theorem dX1_takeProduct_149 : decode cX1_takeProduct 149 = .ok (.aload_n 0, 1) := by decide +kernel
theorem dX1_takeProduct_150 : decode cX1_takeProduct 150 = .ok (.iload_n 3, 1) := by decide +kernel
theorem dX1_takeProduct_151 : decode cX1_takeProduct 151 = .ok (.invokevirtual 31, 3) := by decide +kernel
theorem dX1_takeProduct_154 : decode cX1_takeProduct 154 = .ok (.return_, 1) := by decide +kernel
theorem dX1_halve_0 : decode cX1_halve 0 = .ok (.iconst 0, 1) := by decide +kernel
theorem dX1_halve_1 : decode cX1_halve 1 = .ok (.istore_n 1, 1) := by decide +kernel
theorem dX1_halve_2 : decode cX1_halve 2 = .ok (.aload_n 0, 1) := by decide +kernel
theorem dX1_halve_3 : decode cX1_halve 3 = .ok (.getfield 15, 3) := by decide +kernel
theorem dX1_halve_6 : decode cX1_halve 6 = .ok (.iconst 1, 1) := by decide +kernel
theorem dX1_halve_7 : decode cX1_halve 7 = .ok (.isub, 1) := by decide +kernel
theorem dX1_halve_8 : decode cX1_halve 8 = .ok (.istore_n 2, 1) := by decide +kernel
theorem dX1_halve_9 : decode cX1_halve 9 = .ok (.iload_n 2, 1) := by decide +kernel
theorem dX1_halve_10 : decode cX1_halve 10 = .ok (.ifCond .lt 34, 3) := by decide +kernel
theorem dX1_halve_13 : decode cX1_halve 13 = .ok (.iload_n 1, 1) := by decide +kernel
theorem dX1_halve_14 : decode cX1_halve 14 = .ok (.ldc 63, 2) := by decide +kernel
theorem dX1_halve_16 : decode cX1_halve 16 = .ok (.imul, 1) := by decide +kernel
theorem dX1_halve_17 : decode cX1_halve 17 = .ok (.aload_n 0, 1) := by decide +kernel
theorem dX1_halve_18 : decode cX1_halve 18 = .ok (.getfield 9, 3) := by decide +kernel
theorem dX1_halve_21 : decode cX1_halve 21 = .ok (.iload_n 2, 1) := by decide +kernel
theorem dX1_halve_22 : decode cX1_halve 22 = .ok (.iaload, 1) := by decide +kernel
theorem dX1_halve_23 : decode cX1_halve 23 = .ok (.iadd, 1) := by decide +kernel
theorem dX1_halve_24 : decode cX1_halve 24 = .ok (.istore_n 3, 1) := by decide +kernel
theorem dX1_halve_25 : decode cX1_halve 25 = .ok (.aload_n 0, 1) := by decide +kernel
theorem dX1_halve_26 : decode cX1_halve 26 = .ok (.getfield 9, 3) := by decide +kernel
theorem dX1_halve_29 : decode cX1_halve 29 = .ok (.iload_n 2, 1) := by decide +kernel
theorem dX1_halve_30 : decode cX1_halve 30 = .ok (.iload_n 3, 1) := by decide +kernel
theorem dX1_halve_31 : decode cX1_halve 31 = .ok (.iconst 2, 1) := by decide +kernel
theorem dX1_halve_32 : decode cX1_halve 32 = .ok (.idiv, 1) := by decide +kernel
theorem dX1_halve_33 : decode cX1_halve 33 = .ok (.iastore, 1) := by decide +kernel
theorem dX1_halve_34 : decode cX1_halve 34 = .ok (.iload_n 3, 1) := by decide +kernel
theorem dX1_halve_35 : decode cX1_halve 35 = .ok (.iconst 2, 1) := by decide +kernel
theorem dX1_halve_36 : decode cX1_halve 36 = .ok (.irem, 1) := by decide +kernel
theorem dX1_halve_37 : decode cX1_halve 37 = .ok (.istore_n 1, 1) := by decide +kernel
theorem dX1_halve_38 : decode cX1_halve 38 = .ok (.iinc 2 (-1), 3) := by decide +kernel
theorem dX1_halve_41 : decode cX1_halve 41 = .ok (.goto (-32), 3) := by decide +kernel
theorem dX1_halve_44 : decode cX1_halve 44 = .ok (.aload_n 0, 1) := by decide +kernel
theorem dX1_halve_45 : decode cX1_halve 45 = .ok (.aload_n 0, 1) := by decide +kernel
theorem dX1_halve_46 : decode cX1_halve 46 = .ok (.getfield 15, 3) := by decide +kernel
theorem dX1_halve_49 : decode cX1_halve 49 = .ok (.invokevirtual 31, 3) := by decide +kernel
theorem dX1_halve_52 : decode cX1_halve 52 = .ok (.return_, 1) := by decide +kernel
theorem dX1_compareParts_0 : decode cX1_compareParts 0 = .ok (.aload_n 0, 1) := by decide +kernel
theorem dX1_compareParts_1 : decode cX1_compareParts 1 = .ok (.getfield 15, 3) := by decide +kernel
theorem dX1_compareParts_4 : decode cX1_compareParts 4 = .ok (.aload_n 1, 1) := by decide +kernel
theorem dX1_compareParts_5 : decode cX1_compareParts 5 = .ok (.getfield 15, 3) := by decide +kernel
theorem dX1_compareParts_8 : decode cX1_compareParts 8 = .ok (.if_icmp .eq 20, 3) := by decide +kernel
theorem dX1_compareParts_11 : decode cX1_compareParts 11 = .ok (.aload_n 0, 1) := by decide +kernel
theorem dX1_compareParts_12 : decode cX1_compareParts 12 = .ok (.getfield 15, 3) := by decide +kernel
theorem dX1_compareParts_15 : decode cX1_compareParts 15 = .ok (.aload_n 1, 1) := by decide +kernel
theorem dX1_compareParts_16 : decode cX1_compareParts 16 = .ok (.getfield 15, 3) := by decide +kernel
theorem dX1_compareParts_19 : decode cX1_compareParts 19 = .ok (.if_icmp .ge 7, 3) := by decide +kernel
theorem dX1_compareParts_22 : decode cX1_compareParts 22 = .ok (.iconst (-1), 1) := by decide +kernel
theorem dX1_compareParts_23 : decode cX1_compareParts 23 = .ok (.goto 4, 3) := by decide +kernel
theorem dX1_compareParts_26 : decode cX1_compareParts 26 = .ok (.iconst 1, 1) := by decide +kernel
theorem dX1_compareParts_27 : decode cX1_compareParts 27 = .ok (.ireturn, 1) := by decide +kernel
theorem dX1_compareParts_28 : decode cX1_compareParts 28 = .ok (.aload_n 0, 1) := by decide +kernel
theorem dX1_compareParts_29 : decode cX1_compareParts 29 = .ok (.getfield 15, 3) := by decide +kernel
theorem dX1_compareParts_32 : decode cX1_compareParts 32 = .ok (.iconst 1, 1) := by decide +kernel
theorem dX1_compareParts_33 : decode cX1_compareParts 33 = .ok (.isub, 1) := by decide +kernel
theorem dX1_compareParts_34 : decode cX1_compareParts 34 = .ok (.istore_n 2, 1) := by decide +kernel
theorem dX1_compareParts_35 : decode cX1_compareParts 35 = .ok (.iload_n 2, 1) := by decide +kernel
theorem dX1_compareParts_36 : decode cX1_compareParts 36 = .ok (.ifCond .lt 45, 3) := by decide +kernel
theorem dX1_compareParts_39 : decode cX1_compareParts 39 = .ok (.aload_n 0, 1) := by decide +kernel
theorem dX1_compareParts_40 : decode cX1_compareParts 40 = .ok (.getfield 9, 3) := by decide +kernel
theorem dX1_compareParts_43 : decode cX1_compareParts 43 = .ok (.iload_n 2, 1) := by decide +kernel
theorem dX1_compareParts_44 : decode cX1_compareParts 44 = .ok (.iaload, 1) := by decide +kernel
theorem dX1_compareParts_45 : decode cX1_compareParts 45 = .ok (.aload_n 1, 1) := by decide +kernel
theorem dX1_compareParts_46 : decode cX1_compareParts 46 = .ok (.getfield 9, 3) := by decide +kernel
theorem dX1_compareParts_49 : decode cX1_compareParts 49 = .ok (.iload_n 2, 1) := by decide +kernel
theorem dX1_compareParts_50 : decode cX1_compareParts 50 = .ok (.iaload, 1) := by decide +kernel
theorem dX1_compareParts_51 : decode cX1_compareParts 51 = .ok (.if_icmp .eq 24, 3) := by decide +kernel
theorem dX1_compareParts_54 : decode cX1_compareParts 54 = .ok (.aload_n 0, 1) := by decide +kernel
theorem dX1_compareParts_55 : decode cX1_compareParts 55 = .ok (.getfield 9, 3) := by decide +kernel
theorem dX1_compareParts_58 : decode cX1_compareParts 58 = .ok (.iload_n 2, 1) := by decide +kernel
theorem dX1_compareParts_59 : decode cX1_compareParts 59 = .ok (.iaload, 1) := by decide +kernel
theorem dX1_compareParts_60 : decode cX1_compareParts 60 = .ok (.aload_n 1, 1) := by decide +kernel
theorem dX1_compareParts_61 : decode cX1_compareParts 61 = .ok (.getfield 9, 3) := by decide +kernel
theorem dX1_compareParts_64 : decode cX1_compareParts 64 = .ok (.iload_n 2, 1) := by decide +kernel
theorem dX1_compareParts_65 : decode cX1_compareParts 65 = .ok (.iaload, 1) := by decide +kernel
theorem dX1_compareParts_66 : decode cX1_compareParts 66 = .ok (.if_icmp .ge 7, 3) := by decide +kernel
theorem dX1_compareParts_69 : decode cX1_compareParts 69 = .ok (.iconst (-1), 1) := by decide +kernel
theorem dX1_compareParts_70 : decode cX1_compareParts 70 = .ok (.goto 4, 3) := by decide +kernel
theorem dX1_compareParts_73 : decode cX1_compareParts 73 = .ok (.iconst 1, 1) := by decide +kernel
theorem dX1_compareParts_74 : decode cX1_compareParts 74 = .ok (.ireturn, 1) := by decide +kernel
theorem dX1_compareParts_75 : decode cX1_compareParts 75 = .ok (.iinc 2 (-1), 3) := by decide +kernel
theorem dX1_compareParts_78 : decode cX1_compareParts 78 = .ok (.goto (-43), 3) := by decide +kernel
theorem dX1_compareParts_81 : decode cX1_compareParts 81 = .ok (.iconst 0, 1) := by decide +kernel
theorem dX1_compareParts_82 : decode cX1_compareParts 82 = .ok (.ireturn, 1) := by decide +kernel
theorem dX1_compareWhole_0 : decode cX1_compareWhole 0 = .ok (.aload_n 0, 1) := by decide +kernel
theorem dX1_compareWhole_1 : decode cX1_compareWhole 1 = .ok (.getfield 19, 3) := by decide +kernel
theorem dX1_compareWhole_4 : decode cX1_compareWhole 4 = .ok (.aload_n 1, 1) := by decide +kernel
theorem dX1_compareWhole_5 : decode cX1_compareWhole 5 = .ok (.getfield 19, 3) := by decide +kernel
theorem dX1_compareWhole_8 : decode cX1_compareWhole 8 = .ok (.if_icmp .eq 16, 3) := by decide +kernel
theorem dX1_compareWhole_11 : decode cX1_compareWhole 11 = .ok (.aload_n 0, 1) := by decide +kernel
theorem dX1_compareWhole_12 : decode cX1_compareWhole 12 = .ok (.getfield 19, 3) := by decide +kernel
theorem dX1_compareWhole_15 : decode cX1_compareWhole 15 = .ok (.ifCond .eq 7, 3) := by decide +kernel
theorem dX1_compareWhole_18 : decode cX1_compareWhole 18 = .ok (.iconst (-1), 1) := by decide +kernel
theorem dX1_compareWhole_19 : decode cX1_compareWhole 19 = .ok (.goto 4, 3) := by decide +kernel
theorem dX1_compareWhole_22 : decode cX1_compareWhole 22 = .ok (.iconst 1, 1) := by decide +kernel
theorem dX1_compareWhole_23 : decode cX1_compareWhole 23 = .ok (.ireturn, 1) := by decide +kernel
theorem dX1_compareWhole_24 : decode cX1_compareWhole 24 = .ok (.aload_n 0, 1) := by decide +kernel
theorem dX1_compareWhole_25 : decode cX1_compareWhole 25 = .ok (.getfield 19, 3) := by decide +kernel
theorem dX1_compareWhole_28 : decode cX1_compareWhole 28 = .ok (.ifCond .eq 11, 3) := by decide +kernel
theorem dX1_compareWhole_31 : decode cX1_compareWhole 31 = .ok (.aload_n 1, 1) := by decide +kernel
theorem dX1_compareWhole_32 : decode cX1_compareWhole 32 = .ok (.aload_n 0, 1) := by decide +kernel
theorem dX1_compareWhole_33 : decode cX1_compareWhole 33 = .ok (.invokevirtual 41, 3) := by decide +kernel
theorem dX1_compareWhole_36 : decode cX1_compareWhole 36 = .ok (.goto 8, 3) := by decide +kernel
theorem dX1_compareWhole_39 : decode cX1_compareWhole 39 = .ok (.aload_n 0, 1) := by decide +kernel
theorem dX1_compareWhole_40 : decode cX1_compareWhole 40 = .ok (.aload_n 1, 1) := by decide +kernel
theorem dX1_compareWhole_41 : decode cX1_compareWhole 41 = .ok (.invokevirtual 41, 3) := by decide +kernel
theorem dX1_compareWhole_44 : decode cX1_compareWhole 44 = .ok (.ireturn, 1) := by decide +kernel
theorem dX1_divideBy_0 : decode cX1_divideBy 0 = .ok (.aload_n 0, 1) := by decide +kernel
theorem dX1_divideBy_1 : decode cX1_divideBy 1 = .ok (.getfield 15, 3) := by decide +kernel
theorem dX1_divideBy_4 : decode cX1_divideBy 4 = .ok (.aload_n 1, 1) := by decide +kernel
theorem dX1_divideBy_5 : decode cX1_divideBy 5 = .ok (.getfield 15, 3) := by decide +kernel
theorem dX1_divideBy_8 : decode cX1_divideBy 8 = .ok (.isub, 1) := by decide +kernel
theorem dX1_divideBy_9 : decode cX1_divideBy 9 = .ok (.iconst 1, 1) := by decide +kernel
theorem dX1_divideBy_10 : decode cX1_divideBy 10 = .ok (.iadd, 1) := by decide +kernel
theorem dX1_divideBy_11 : decode cX1_divideBy 11 = .ok (.istore_n 3, 1) := by decide +kernel
theorem dX1_divideBy_12 : decode cX1_divideBy 12 = .ok (.aload_n 1, 1) := by decide +kernel
theorem dX1_divideBy_13 : decode cX1_divideBy 13 = .ok (.invokevirtual 64, 3) := by decide +kernel
theorem dX1_divideBy_16 : decode cX1_divideBy 16 = .ok (.lstore 4, 2) := by decide +kernel
theorem dX1_divideBy_18 : decode cX1_divideBy 18 = .ok (.lload 4, 2) := by decide +kernel
theorem dX1_divideBy_20 : decode cX1_divideBy 20 = .ok (.lconst 0, 1) := by decide +kernel
theorem dX1_divideBy_21 : decode cX1_divideBy 21 = .ok (.lcmp, 1) := by decide +kernel
theorem dX1_divideBy_22 : decode cX1_divideBy 22 = .ok (.ifCond .eq 16, 3) := by decide +kernel
theorem dX1_divideBy_25 : decode cX1_divideBy 25 = .ok (.iload_n 3, 1) := by decide +kernel
theorem dX1_divideBy_26 : decode cX1_divideBy 26 = .ok (.ifCond .le 12, 3) := by decide +kernel
theorem dX1_divideBy_29 : decode cX1_divideBy 29 = .ok (.aload_n 0, 1) := by decide +kernel
theorem dX1_divideBy_30 : decode cX1_divideBy 30 = .ok (.getfield 15, 3) := by decide +kernel
theorem dX1_divideBy_33 : decode cX1_divideBy 33 = .ok (.bipush 104, 2) := by decide +kernel
theorem dX1_divideBy_35 : decode cX1_divideBy 35 = .ok (.if_icmp .lt 9, 3) := by decide +kernel
theorem dX1_divideBy_38 : decode cX1_divideBy 38 = .ok (.aload_n 2, 1) := by decide +kernel
theorem dX1_divideBy_39 : decode cX1_divideBy 39 = .ok (.lconst 0, 1) := by decide +kernel
theorem dX1_divideBy_40 : decode cX1_divideBy 40 = .ok (.invokevirtual 68, 3) := by decide +kernel
theorem dX1_divideBy_43 : decode cX1_divideBy 43 = .ok (.return_, 1) := by decide +kernel
theorem dX1_divideBy_44 : decode cX1_divideBy 44 = .ok (.aload_n 0, 1) := by decide +kernel
theorem dX1_divideBy_45 : decode cX1_divideBy 45 = .ok (.getfield 9, 3) := by decide +kernel
theorem dX1_divideBy_48 : decode cX1_divideBy 48 = .ok (.aload_n 0, 1) := by decide +kernel
theorem dX1_divideBy_49 : decode cX1_divideBy 49 = .ok (.getfield 15, 3) := by decide +kernel
theorem dX1_divideBy_52 : decode cX1_divideBy 52 = .ok (.iconst 0, 1) := by decide +kernel
theorem dX1_divideBy_53 : decode cX1_divideBy 53 = .ok (.iastore, 1) := by decide +kernel
theorem dX1_divideBy_54 : decode cX1_divideBy 54 = .ok (.iload_n 3, 1) := by decide +kernel
theorem dX1_divideBy_55 : decode cX1_divideBy 55 = .ok (.iconst 1, 1) := by decide +kernel
theorem dX1_divideBy_56 : decode cX1_divideBy 56 = .ok (.isub, 1) := by decide +kernel
theorem dX1_divideBy_57 : decode cX1_divideBy 57 = .ok (.istore 6, 2) := by decide +kernel
theorem dX1_divideBy_59 : decode cX1_divideBy 59 = .ok (.iload 6, 2) := by decide +kernel
theorem dX1_divideBy_61 : decode cX1_divideBy 61 = .ok (.ifCond .lt 25, 3) := by decide +kernel
theorem dX1_divideBy_64 : decode cX1_divideBy 64 = .ok (.aload_n 2, 1) := by decide +kernel
theorem dX1_divideBy_65 : decode cX1_divideBy 65 = .ok (.getfield 9, 3) := by decide +kernel
theorem dX1_divideBy_68 : decode cX1_divideBy 68 = .ok (.iload 6, 2) := by decide +kernel
theorem dX1_divideBy_70 : decode cX1_divideBy 70 = .ok (.aload_n 0, 1) := by decide +kernel
theorem dX1_divideBy_71 : decode cX1_divideBy 71 = .ok (.aload_n 1, 1) := by decide +kernel
theorem dX1_divideBy_72 : decode cX1_divideBy 72 = .ok (.lload 4, 2) := by decide +kernel
theorem dX1_divideBy_74 : decode cX1_divideBy 74 = .ok (.iload 6, 2) := by decide +kernel
theorem dX1_divideBy_76 : decode cX1_divideBy 76 = .ok (.invokevirtual 72, 3) := by decide +kernel
theorem dX1_divideBy_79 : decode cX1_divideBy 79 = .ok (.iastore, 1) := by decide +kernel
theorem dX1_divideBy_80 : decode cX1_divideBy 80 = .ok (.iinc 6 (-1), 3) := by decide +kernel
theorem dX1_divideBy_83 : decode cX1_divideBy 83 = .ok (.goto (-24), 3) := by decide +kernel
theorem dX1_divideBy_86 : decode cX1_divideBy 86 = .ok (.aload_n 2, 1) := by decide +kernel
theorem dX1_divideBy_87 : decode cX1_divideBy 87 = .ok (.aload_n 0, 1) := by decide +kernel
theorem dX1_divideBy_88 : decode cX1_divideBy 88 = .ok (.getfield 19, 3) := by decide +kernel
theorem dX1_divideBy_91 : decode cX1_divideBy 91 = .ok (.aload_n 1, 1) := by decide +kernel
theorem dX1_divideBy_92 : decode cX1_divideBy 92 = .ok (.getfield 19, 3) := by decide +kernel
theorem dX1_divideBy_95 : decode cX1_divideBy 95 = .ok (.if_icmp .eq 7, 3) := by decide +kernel
theorem dX1_divideBy_98 : decode cX1_divideBy 98 = .ok (.iconst 1, 1) := by decide +kernel
theorem dX1_divideBy_99 : decode cX1_divideBy 99 = .ok (.goto 4, 3) := by decide +kernel
theorem dX1_divideBy_102 : decode cX1_divideBy 102 = .ok (.iconst 0, 1) := by decide +kernel
theorem dX1_divideBy_103 : decode cX1_divideBy 103 = .ok (.putfield 19, 3) := by decide +kernel
theorem dX1_divideBy_106 : decode cX1_divideBy 106 = .ok (.aload_n 2, 1) := by decide +kernel
theorem dX1_divideBy_107 : decode cX1_divideBy 107 = .ok (.iload_n 3, 1) := by decide +kernel
theorem dX1_divideBy_108 : decode cX1_divideBy 108 = .ok (.invokevirtual 31, 3) := by decide +kernel
theorem dX1_divideBy_111 : decode cX1_divideBy 111 = .ok (.aload_n 0, 1) := by decide +kernel
theorem dX1_divideBy_112 : decode cX1_divideBy 112 = .ok (.aload_n 1, 1) := by decide +kernel
theorem dX1_divideBy_113 : decode cX1_divideBy 113 = .ok (.getfield 15, 3) := by decide +kernel
theorem dX1_divideBy_116 : decode cX1_divideBy 116 = .ok (.invokevirtual 31, 3) := by decide +kernel
theorem dX1_divideBy_119 : decode cX1_divideBy 119 = .ok (.return_, 1) := by decide +kernel
theorem dX1_leadOfTwo_0 : decode cX1_leadOfTwo 0 = .ok (.aload_n 0, 1) := by decide +kernel
theorem dX1_leadOfTwo_1 : decode cX1_leadOfTwo 1 = .ok (.aload_n 0, 1) := by decide +kernel
theorem dX1_leadOfTwo_2 : decode cX1_leadOfTwo 2 = .ok (.getfield 15, 3) := by decide +kernel
theorem dX1_leadOfTwo_5 : decode cX1_leadOfTwo 5 = .ok (.iconst 1, 1) := by decide +kernel
theorem dX1_leadOfTwo_6 : decode cX1_leadOfTwo 6 = .ok (.isub, 1) := by decide +kernel
theorem dX1_leadOfTwo_7 : decode cX1_leadOfTwo 7 = .ok (.invokevirtual 59, 3) := by decide +kernel
theorem dX1_leadOfTwo_10 : decode cX1_leadOfTwo 10 = .ok (.i2l, 1) := by decide +kernel
theorem dX1_leadOfTwo_11 : decode cX1_leadOfTwo 11 = .ok (.ldc2_w 23, 3) := by decide +kernel
theorem dX1_leadOfTwo_14 : decode cX1_leadOfTwo 14 = .ok (.lmul, 1) := by decide +kernel
theorem dX1_leadOfTwo_15 : decode cX1_leadOfTwo 15 = .ok (.aload_n 0, 1) := by decide +kernel
theorem dX1_leadOfTwo_16 : decode cX1_leadOfTwo 16 = .ok (.aload_n 0, 1) := by decide +kernel
theorem dX1_leadOfTwo_17 : decode cX1_leadOfTwo 17 = .ok (.getfield 15, 3) := by decide +kernel
theorem dX1_leadOfTwo_20 : decode cX1_leadOfTwo 20 = .ok (.iconst 2, 1) := by decide +kernel
theorem dX1_leadOfTwo_21 : decode cX1_leadOfTwo 21 = .ok (.isub, 1) := by decide +kernel
theorem dX1_leadOfTwo_22 : decode cX1_leadOfTwo 22 = .ok (.invokevirtual 59, 3) := by decide +kernel
theorem dX1_leadOfTwo_25 : decode cX1_leadOfTwo 25 = .ok (.i2l, 1) := by decide +kernel
theorem dX1_leadOfTwo_26 : decode cX1_leadOfTwo 26 = .ok (.ladd, 1) := by decide +kernel
theorem dX1_leadOfTwo_27 : decode cX1_leadOfTwo 27 = .ok (.lreturn, 1) := by decide +kernel
theorem dX1_takeAway_0 : decode cX1_takeAway 0 = .ok (.iload 4, 2) := by decide +kernel
theorem dX1_takeAway_2 : decode cX1_takeAway 2 = .ok (.aload_n 1, 1) := by decide +kernel
theorem dX1_takeAway_3 : decode cX1_takeAway 3 = .ok (.getfield 15, 3) := by decide +kernel
theorem dX1_takeAway_6 : decode cX1_takeAway 6 = .ok (.iadd, 1) := by decide +kernel
theorem dX1_takeAway_7 : decode cX1_takeAway 7 = .ok (.istore 5, 2) := by decide +kernel
theorem dX1_takeAway_9 : decode cX1_takeAway 9 = .ok (.iload 5, 2) := by decide +kernel
theorem dX1_takeAway_11 : decode cX1_takeAway 11 = .ok (.iconst 2, 1) := by decide +kernel
theorem dX1_takeAway_12 : decode cX1_takeAway 12 = .ok (.if_icmp .lt 16, 3) := by decide +kernel
theorem dX1_takeAway_15 : decode cX1_takeAway 15 = .ok (.aload_n 0, 1) := by decide +kernel
theorem dX1_takeAway_16 : decode cX1_takeAway 16 = .ok (.getfield 9, 3) := by decide +kernel
theorem dX1_takeAway_19 : decode cX1_takeAway 19 = .ok (.iload 5, 2) := by decide +kernel
theorem dX1_takeAway_21 : decode cX1_takeAway 21 = .ok (.iconst 2, 1) := by decide +kernel
theorem dX1_takeAway_22 : decode cX1_takeAway 22 = .ok (.isub, 1) := by decide +kernel
theorem dX1_takeAway_23 : decode cX1_takeAway 23 = .ok (.iaload, 1) := by decide +kernel
theorem dX1_takeAway_24 : decode cX1_takeAway 24 = .ok (.i2l, 1) := by decide +kernel
theorem dX1_takeAway_25 : decode cX1_takeAway 25 = .ok (.goto 4, 3) := by decide +kernel
theorem dX1_takeAway_28 : decode cX1_takeAway 28 = .ok (.lconst 0, 1) := by decide +kernel
theorem dX1_takeAway_29 : decode cX1_takeAway 29 = .ok (.lstore 6, 2) := by decide +kernel
theorem dX1_takeAway_31 : decode cX1_takeAway 31 = .ok (.aload_n 0, 1) := by decide +kernel
theorem dX1_takeAway_32 : decode cX1_takeAway 32 = .ok (.getfield 9, 3) := by decide +kernel
theorem dX1_takeAway_35 : decode cX1_takeAway 35 = .ok (.iload 5, 2) := by decide +kernel
theorem dX1_takeAway_37 : decode cX1_takeAway 37 = .ok (.iaload, 1) := by decide +kernel
theorem dX1_takeAway_38 : decode cX1_takeAway 38 = .ok (.i2l, 1) := by decide +kernel
theorem dX1_takeAway_39 : decode cX1_takeAway 39 = .ok (.ldc2_w 23, 3) := by decide +kernel
theorem dX1_takeAway_42 : decode cX1_takeAway 42 = .ok (.lmul, 1) := by decide +kernel
theorem dX1_takeAway_43 : decode cX1_takeAway 43 = .ok (.aload_n 0, 1) := by decide +kernel
theorem dX1_takeAway_44 : decode cX1_takeAway 44 = .ok (.getfield 9, 3) := by decide +kernel
theorem dX1_takeAway_47 : decode cX1_takeAway 47 = .ok (.iload 5, 2) := by decide +kernel
theorem dX1_takeAway_49 : decode cX1_takeAway 49 = .ok (.iconst 1, 1) := by decide +kernel
theorem dX1_takeAway_50 : decode cX1_takeAway 50 = .ok (.isub, 1) := by decide +kernel
theorem dX1_takeAway_51 : decode cX1_takeAway 51 = .ok (.iaload, 1) := by decide +kernel
theorem dX1_takeAway_52 : decode cX1_takeAway 52 = .ok (.i2l, 1) := by decide +kernel
theorem dX1_takeAway_53 : decode cX1_takeAway 53 = .ok (.ladd, 1) := by decide +kernel
theorem dX1_takeAway_54 : decode cX1_takeAway 54 = .ok (.ldc2_w 23, 3) := by decide +kernel
theorem dX1_takeAway_57 : decode cX1_takeAway 57 = .ok (.lmul, 1) := by decide +kernel
theorem dX1_takeAway_58 : decode cX1_takeAway 58 = .ok (.lload 6, 2) := by decide +kernel
theorem dX1_takeAway_60 : decode cX1_takeAway 60 = .ok (.ladd, 1) := by decide +kernel
theorem dX1_takeAway_61 : decode cX1_takeAway 61 = .ok (.lstore 8, 2) := by decide +kernel
theorem dX1_takeAway_63 : decode cX1_takeAway 63 = .ok (.lload_n 2, 1) := by decide +kernel
theorem dX1_takeAway_64 : decode cX1_takeAway 64 = .ok (.lconst 0, 1) := by decide +kernel
theorem dX1_takeAway_65 : decode cX1_takeAway 65 = .ok (.lcmp, 1) := by decide +kernel
theorem dX1_takeAway_66 : decode cX1_takeAway 66 = .ok (.ifCond .ne 7, 3) := by decide +kernel
theorem dX1_takeAway_69 : decode cX1_takeAway 69 = .ok (.iconst 0, 1) := by decide +kernel
theorem dX1_takeAway_70 : decode cX1_takeAway 70 = .ok (.goto 8, 3) := by decide +kernel
theorem dX1_takeAway_73 : decode cX1_takeAway 73 = .ok (.lload 8, 2) := by decide +kernel
theorem dX1_takeAway_75 : decode cX1_takeAway 75 = .ok (.lload_n 2, 1) := by decide +kernel
theorem dX1_takeAway_76 : decode cX1_takeAway 76 = .ok (.ldiv, 1) := by decide +kernel
theorem dX1_takeAway_77 : decode cX1_takeAway 77 = .ok (.l2i, 1) := by decide +kernel
theorem dX1_takeAway_78 : decode cX1_takeAway 78 = .ok (.istore 10, 2) := by decide +kernel
theorem dX1_takeAway_80 : decode cX1_takeAway 80 = .ok (.iload 10, 2) := by decide +kernel
theorem dX1_takeAway_82 : decode cX1_takeAway 82 = .ok (.ifCond .ne 5, 3) := by decide +kernel
theorem dX1_takeAway_85 : decode cX1_takeAway 85 = .ok (.iconst 0, 1) := by decide +kernel
theorem dX1_takeAway_86 : decode cX1_takeAway 86 = .ok (.ireturn, 1) := by decide +kernel
theorem dX1_takeAway_87 : decode cX1_takeAway 87 = .ok (.aload_n 0, 1) := by decide +kernel
theorem dX1_takeAway_88 : decode cX1_takeAway 88 = .ok (.aload_n 1, 1) := by decide +kernel
theorem dX1_takeAway_89 : decode cX1_takeAway 89 = .ok (.iload 10, 2) := by decide +kernel
theorem dX1_takeAway_91 : decode cX1_takeAway 91 = .ok (.iload 4, 2) := by decide +kernel
theorem dX1_takeAway_93 : decode cX1_takeAway 93 = .ok (.invokevirtual 76, 3) := by decide +kernel
theorem dX1_takeAway_96 : decode cX1_takeAway 96 = .ok (.aload_n 0, 1) := by decide +kernel
theorem dX1_takeAway_97 : decode cX1_takeAway 97 = .ok (.getfield 9, 3) := by decide +kernel
theorem dX1_takeAway_100 : decode cX1_takeAway 100 = .ok (.iload 5, 2) := by decide +kernel
theorem dX1_takeAway_102 : decode cX1_takeAway 102 = .ok (.iaload, 1) := by decide +kernel
theorem dX1_takeAway_103 : decode cX1_takeAway 103 = .ok (.ifCond .ge 13, 3) := by decide +kernel
theorem dX1_takeAway_106 : decode cX1_takeAway 106 = .ok (.aload_n 0, 1) := by decide +kernel
theorem dX1_takeAway_107 : decode cX1_takeAway 107 = .ok (.aload_n 1, 1) := by decide +kernel
theorem dX1_takeAway_108 : decode cX1_takeAway 108 = .ok (.iload 4, 2) := by decide +kernel
theorem dX1_takeAway_110 : decode cX1_takeAway 110 = .ok (.invokevirtual 80, 3) := by decide +kernel
theorem dX1_takeAway_113 : decode cX1_takeAway 113 = .ok (.iinc 10 (-1), 3) := by decide +kernel
theorem dX1_takeAway_116 : decode cX1_takeAway 116 = .ok (.iload 10, 2) := by decide +kernel
theorem dX1_takeAway_118 : decode cX1_takeAway 118 = .ok (.ireturn, 1) := by decide +kernel
theorem dX1_subtractTimes_0 : decode cX1_subtractTimes 0 = .ok (.lconst 0, 1) := by decide +kernel
theorem dX1_subtractTimes_1 : decode cX1_subtractTimes 1 = .ok (.lstore 4, 2) := by decide +kernel
theorem dX1_subtractTimes_3 : decode cX1_subtractTimes 3 = .ok (.iconst 0, 1) := by decide +kernel
theorem dX1_subtractTimes_4 : decode cX1_subtractTimes 4 = .ok (.istore 6, 2) := by decide +kernel
theorem dX1_subtractTimes_6 : decode cX1_subtractTimes 6 = .ok (.iload 6, 2) := by decide +kernel
theorem dX1_subtractTimes_8 : decode cX1_subtractTimes 8 = .ok (.aload_n 1, 1) := by decide +kernel
theorem dX1_subtractTimes_9 : decode cX1_subtractTimes 9 = .ok (.getfield 15, 3) := by decide +kernel
theorem dX1_subtractTimes_12 : decode cX1_subtractTimes 12 = .ok (.if_icmp .ge 84, 3) := by decide +kernel
theorem dX1_subtractTimes_15 : decode cX1_subtractTimes 15 = .ok (.iload_n 2, 1) := by decide +kernel
theorem dX1_subtractTimes_16 : decode cX1_subtractTimes 16 = .ok (.i2l, 1) := by decide +kernel
theorem dX1_subtractTimes_17 : decode cX1_subtractTimes 17 = .ok (.aload_n 1, 1) := by decide +kernel
theorem dX1_subtractTimes_18 : decode cX1_subtractTimes 18 = .ok (.getfield 9, 3) := by decide +kernel
theorem dX1_subtractTimes_21 : decode cX1_subtractTimes 21 = .ok (.iload 6, 2) := by decide +kernel
theorem dX1_subtractTimes_23 : decode cX1_subtractTimes 23 = .ok (.iaload, 1) := by decide +kernel
theorem dX1_subtractTimes_24 : decode cX1_subtractTimes 24 = .ok (.i2l, 1) := by decide +kernel
theorem dX1_subtractTimes_25 : decode cX1_subtractTimes 25 = .ok (.lmul, 1) := by decide +kernel
theorem dX1_subtractTimes_26 : decode cX1_subtractTimes 26 = .ok (.lload 4, 2) := by decide +kernel
theorem dX1_subtractTimes_28 : decode cX1_subtractTimes 28 = .ok (.ladd, 1) := by decide +kernel
theorem dX1_subtractTimes_29 : decode cX1_subtractTimes 29 = .ok (.lstore 7, 2) := by decide +kernel
theorem dX1_subtractTimes_31 : decode cX1_subtractTimes 31 = .ok (.lload 7, 2) := by decide +kernel
theorem dX1_subtractTimes_33 : decode cX1_subtractTimes 33 = .ok (.ldc2_w 23, 3) := by decide +kernel
theorem dX1_subtractTimes_36 : decode cX1_subtractTimes 36 = .ok (.ldiv, 1) := by decide +kernel
theorem dX1_subtractTimes_37 : decode cX1_subtractTimes 37 = .ok (.lstore 4, 2) := by decide +kernel
theorem dX1_subtractTimes_39 : decode cX1_subtractTimes 39 = .ok (.aload_n 0, 1) := by decide +kernel
theorem dX1_subtractTimes_40 : decode cX1_subtractTimes 40 = .ok (.getfield 9, 3) := by decide +kernel
theorem dX1_subtractTimes_43 : decode cX1_subtractTimes 43 = .ok (.iload_n 3, 1) := by decide +kernel
theorem dX1_subtractTimes_44 : decode cX1_subtractTimes 44 = .ok (.iload 6, 2) := by decide +kernel
theorem dX1_subtractTimes_46 : decode cX1_subtractTimes 46 = .ok (.iadd, 1) := by decide +kernel
theorem dX1_subtractTimes_47 : decode cX1_subtractTimes 47 = .ok (.iaload, 1) := by decide +kernel
theorem dX1_subtractTimes_48 : decode cX1_subtractTimes 48 = .ok (.lload 7, 2) := by decide +kernel
theorem dX1_subtractTimes_50 : decode cX1_subtractTimes 50 = .ok (.lload 4, 2) := by decide +kernel
theorem dX1_subtractTimes_52 : decode cX1_subtractTimes 52 = .ok (.ldc2_w 23, 3) := by decide +kernel
theorem dX1_subtractTimes_55 : decode cX1_subtractTimes 55 = .ok (.lmul, 1) := by decide +kernel
theorem dX1_subtractTimes_56 : decode cX1_subtractTimes 56 = .ok (.lsub, 1) := by decide +kernel
theorem dX1_subtractTimes_57 : decode cX1_subtractTimes 57 = .ok (.l2i, 1) := by decide +kernel
theorem dX1_subtractTimes_58 : decode cX1_subtractTimes 58 = .ok (.isub, 1) := by decide +kernel
theorem dX1_subtractTimes_59 : decode cX1_subtractTimes 59 = .ok (.istore 9, 2) := by decide +kernel
theorem dX1_subtractTimes_61 : decode cX1_subtractTimes 61 = .ok (.iload 9, 2) := by decide +kernel
theorem dX1_subtractTimes_63 : decode cX1_subtractTimes 63 = .ok (.ifCond .ge 16, 3) := by decide +kernel
theorem dX1_subtractTimes_66 : decode cX1_subtractTimes 66 = .ok (.iload 9, 2) := by decide +kernel
theorem dX1_subtractTimes_68 : decode cX1_subtractTimes 68 = .ok (.ldc 63, 2) := by decide +kernel
theorem dX1_subtractTimes_70 : decode cX1_subtractTimes 70 = .ok (.iadd, 1) := by decide +kernel
theorem dX1_subtractTimes_71 : decode cX1_subtractTimes 71 = .ok (.istore 9, 2) := by decide +kernel
theorem dX1_subtractTimes_73 : decode cX1_subtractTimes 73 = .ok (.lload 4, 2) := by decide +kernel
theorem dX1_subtractTimes_75 : decode cX1_subtractTimes 75 = .ok (.lconst 1, 1) := by decide +kernel
theorem dX1_subtractTimes_76 : decode cX1_subtractTimes 76 = .ok (.ladd, 1) := by decide +kernel
theorem dX1_subtractTimes_77 : decode cX1_subtractTimes 77 = .ok (.lstore 4, 2) := by decide +kernel
theorem dX1_subtractTimes_79 : decode cX1_subtractTimes 79 = .ok (.aload_n 0, 1) := by decide +kernel
theorem dX1_subtractTimes_80 : decode cX1_subtractTimes 80 = .ok (.getfield 9, 3) := by decide +kernel
theorem dX1_subtractTimes_83 : decode cX1_subtractTimes 83 = .ok (.iload_n 3, 1) := by decide +kernel
theorem dX1_subtractTimes_84 : decode cX1_subtractTimes 84 = .ok (.iload 6, 2) := by decide +kernel
theorem dX1_subtractTimes_86 : decode cX1_subtractTimes 86 = .ok (.iadd, 1) := by decide +kernel
theorem dX1_subtractTimes_87 : decode cX1_subtractTimes 87 = .ok (.iload 9, 2) := by decide +kernel
theorem dX1_subtractTimes_89 : decode cX1_subtractTimes 89 = .ok (.iastore, 1) := by decide +kernel
theorem dX1_subtractTimes_90 : decode cX1_subtractTimes 90 = .ok (.iinc 6 1, 3) := by decide +kernel
theorem dX1_subtractTimes_93 : decode cX1_subtractTimes 93 = .ok (.goto (-87), 3) := by decide +kernel
theorem dX1_subtractTimes_96 : decode cX1_subtractTimes 96 = .ok (.aload_n 0, 1) := by decide +kernel
theorem dX1_subtractTimes_97 : decode cX1_subtractTimes 97 = .ok (.getfield 9, 3) := by decide +kernel
theorem dX1_subtractTimes_100 : decode cX1_subtractTimes 100 = .ok (.iload_n 3, 1) := by decide +kernel
theorem dX1_subtractTimes_101 : decode cX1_subtractTimes 101 = .ok (.aload_n 1, 1) := by decide +kernel
theorem dX1_subtractTimes_102 : decode cX1_subtractTimes 102 = .ok (.getfield 15, 3) := by decide +kernel
theorem dX1_subtractTimes_105 : decode cX1_subtractTimes 105 = .ok (.iadd, 1) := by decide +kernel
theorem dX1_subtractTimes_106 : decode cX1_subtractTimes 106 = .ok (.dup2, 1) := by decide +kernel
theorem dX1_subtractTimes_107 : decode cX1_subtractTimes 107 = .ok (.iaload, 1) := by decide +kernel
theorem dX1_subtractTimes_108 : decode cX1_subtractTimes 108 = .ok (.lload 4, 2) := by decide +kernel
theorem dX1_subtractTimes_110 : decode cX1_subtractTimes 110 = .ok (.l2i, 1) := by decide +kernel
theorem dX1_subtractTimes_111 : decode cX1_subtractTimes 111 = .ok (.isub, 1) := by decide +kernel
theorem dX1_subtractTimes_112 : decode cX1_subtractTimes 112 = .ok (.iastore, 1) := by decide +kernel
theorem dX1_subtractTimes_113 : decode cX1_subtractTimes 113 = .ok (.return_, 1) := by decide +kernel
theorem dX1_addBack_0 : decode cX1_addBack 0 = .ok (.iconst 0, 1) := by decide +kernel
theorem dX1_addBack_1 : decode cX1_addBack 1 = .ok (.istore_n 3, 1) := by decide +kernel
theorem dX1_addBack_2 : decode cX1_addBack 2 = .ok (.iconst 0, 1) := by decide +kernel
theorem dX1_addBack_3 : decode cX1_addBack 3 = .ok (.istore 4, 2) := by decide +kernel
theorem dX1_addBack_5 : decode cX1_addBack 5 = .ok (.iload 4, 2) := by decide +kernel
theorem dX1_addBack_7 : decode cX1_addBack 7 = .ok (.aload_n 1, 1) := by decide +kernel
theorem dX1_addBack_8 : decode cX1_addBack 8 = .ok (.getfield 15, 3) := by decide +kernel
theorem dX1_addBack_11 : decode cX1_addBack 11 = .ok (.if_icmp .ge 59, 3) := by decide +kernel
theorem dX1_addBack_14 : decode cX1_addBack 14 = .ok (.aload_n 0, 1) := by decide +kernel
theorem dX1_addBack_15 : decode cX1_addBack 15 = .ok (.getfield 9, 3) := by decide +kernel
theorem dX1_addBack_18 : decode cX1_addBack 18 = .ok (.iload_n 2, 1) := by decide +kernel
theorem dX1_addBack_19 : decode cX1_addBack 19 = .ok (.iload 4, 2) := by decide +kernel
theorem dX1_addBack_21 : decode cX1_addBack 21 = .ok (.iadd, 1) := by decide +kernel
theorem dX1_addBack_22 : decode cX1_addBack 22 = .ok (.iaload, 1) := by decide +kernel
theorem dX1_addBack_23 : decode cX1_addBack 23 = .ok (.aload_n 1, 1) := by decide +kernel
theorem dX1_addBack_24 : decode cX1_addBack 24 = .ok (.getfield 9, 3) := by decide +kernel
theorem dX1_addBack_27 : decode cX1_addBack 27 = .ok (.iload 4, 2) := by decide +kernel
theorem dX1_addBack_29 : decode cX1_addBack 29 = .ok (.iaload, 1) := by decide +kernel
theorem dX1_addBack_30 : decode cX1_addBack 30 = .ok (.iadd, 1) := by decide +kernel
theorem dX1_addBack_31 : decode cX1_addBack 31 = .ok (.iload_n 3, 1) := by decide +kernel
theorem dX1_addBack_32 : decode cX1_addBack 32 = .ok (.iadd, 1) := by decide +kernel
theorem dX1_addBack_33 : decode cX1_addBack 33 = .ok (.istore 5, 2) := by decide +kernel
theorem dX1_addBack_35 : decode cX1_addBack 35 = .ok (.iload 5, 2) := by decide +kernel
theorem dX1_addBack_37 : decode cX1_addBack 37 = .ok (.ldc 63, 2) := by decide +kernel
theorem dX1_addBack_39 : decode cX1_addBack 39 = .ok (.if_icmp .lt 7, 3) := by decide +kernel
theorem dX1_addBack_42 : decode cX1_addBack 42 = .ok (.iconst 1, 1) := by decide +kernel
theorem dX1_addBack_43 : decode cX1_addBack 43 = .ok (.goto 4, 3) := by decide +kernel
theorem dX1_addBack_46 : decode cX1_addBack 46 = .ok (.iconst 0, 1) := by decide +kernel
theorem dX1_addBack_47 : decode cX1_addBack 47 = .ok (.istore_n 3, 1) := by decide +kernel
theorem dX1_addBack_48 : decode cX1_addBack 48 = .ok (.aload_n 0, 1) := by decide +kernel
theorem dX1_addBack_49 : decode cX1_addBack 49 = .ok (.getfield 9, 3) := by decide +kernel
theorem dX1_addBack_52 : decode cX1_addBack 52 = .ok (.iload_n 2, 1) := by decide +kernel
theorem dX1_addBack_53 : decode cX1_addBack 53 = .ok (.iload 4, 2) := by decide +kernel
theorem dX1_addBack_55 : decode cX1_addBack 55 = .ok (.iadd, 1) := by decide +kernel
theorem dX1_addBack_56 : decode cX1_addBack 56 = .ok (.iload 5, 2) := by decide +kernel
theorem dX1_addBack_58 : decode cX1_addBack 58 = .ok (.iload_n 3, 1) := by decide +kernel
theorem dX1_addBack_59 : decode cX1_addBack 59 = .ok (.ldc 63, 2) := by decide +kernel
theorem dX1_addBack_61 : decode cX1_addBack 61 = .ok (.imul, 1) := by decide +kernel
theorem dX1_addBack_62 : decode cX1_addBack 62 = .ok (.isub, 1) := by decide +kernel
theorem dX1_addBack_63 : decode cX1_addBack 63 = .ok (.iastore, 1) := by decide +kernel
theorem dX1_addBack_64 : decode cX1_addBack 64 = .ok (.iinc 4 1, 3) := by decide +kernel
theorem dX1_addBack_67 : decode cX1_addBack 67 = .ok (.goto (-62), 3) := by decide +kernel
theorem dX1_addBack_70 : decode cX1_addBack 70 = .ok (.aload_n 0, 1) := by decide +kernel
theorem dX1_addBack_71 : decode cX1_addBack 71 = .ok (.getfield 9, 3) := by decide +kernel
theorem dX1_addBack_74 : decode cX1_addBack 74 = .ok (.iload_n 2, 1) := by decide +kernel
theorem dX1_addBack_75 : decode cX1_addBack 75 = .ok (.aload_n 1, 1) := by decide +kernel
theorem dX1_addBack_76 : decode cX1_addBack 76 = .ok (.getfield 15, 3) := by decide +kernel
theorem dX1_addBack_79 : decode cX1_addBack 79 = .ok (.iadd, 1) := by decide +kernel
theorem dX1_addBack_80 : decode cX1_addBack 80 = .ok (.dup2, 1) := by decide +kernel
theorem dX1_addBack_81 : decode cX1_addBack 81 = .ok (.iaload, 1) := by decide +kernel
theorem dX1_addBack_82 : decode cX1_addBack 82 = .ok (.iload_n 3, 1) := by decide +kernel
theorem dX1_addBack_83 : decode cX1_addBack 83 = .ok (.iadd, 1) := by decide +kernel
theorem dX1_addBack_84 : decode cX1_addBack 84 = .ok (.iastore, 1) := by decide +kernel
theorem dX1_addBack_85 : decode cX1_addBack 85 = .ok (.return_, 1) := by decide +kernel
theorem dX1_loadAboveRoot_0 : decode cX1_loadAboveRoot 0 = .ok (.aload_n 1, 1) := by decide +kernel
theorem dX1_loadAboveRoot_1 : decode cX1_loadAboveRoot 1 = .ok (.getfield 15, 3) := by decide +kernel
theorem dX1_loadAboveRoot_4 : decode cX1_loadAboveRoot 4 = .ok (.iconst 2, 1) := by decide +kernel
theorem dX1_loadAboveRoot_5 : decode cX1_loadAboveRoot 5 = .ok (.if_icmp .ge 7, 3) := by decide +kernel
theorem dX1_loadAboveRoot_8 : decode cX1_loadAboveRoot 8 = .ok (.iconst 0, 1) := by decide +kernel
theorem dX1_loadAboveRoot_9 : decode cX1_loadAboveRoot 9 = .ok (.goto 13, 3) := by decide +kernel
theorem dX1_loadAboveRoot_12 : decode cX1_loadAboveRoot 12 = .ok (.aload_n 1, 1) := by decide +kernel
theorem dX1_loadAboveRoot_13 : decode cX1_loadAboveRoot 13 = .ok (.getfield 15, 3) := by decide +kernel
theorem dX1_loadAboveRoot_16 : decode cX1_loadAboveRoot 16 = .ok (.iconst 2, 1) := by decide +kernel
theorem dX1_loadAboveRoot_17 : decode cX1_loadAboveRoot 17 = .ok (.isub, 1) := by decide +kernel
theorem dX1_loadAboveRoot_18 : decode cX1_loadAboveRoot 18 = .ok (.iconst 2, 1) := by decide +kernel
theorem dX1_loadAboveRoot_19 : decode cX1_loadAboveRoot 19 = .ok (.idiv, 1) := by decide +kernel
theorem dX1_loadAboveRoot_20 : decode cX1_loadAboveRoot 20 = .ok (.iconst 2, 1) := by decide +kernel
theorem dX1_loadAboveRoot_21 : decode cX1_loadAboveRoot 21 = .ok (.imul, 1) := by decide +kernel
theorem dX1_loadAboveRoot_22 : decode cX1_loadAboveRoot 22 = .ok (.istore_n 2, 1) := by decide +kernel
theorem dX1_loadAboveRoot_23 : decode cX1_loadAboveRoot 23 = .ok (.lconst 0, 1) := by decide +kernel
theorem dX1_loadAboveRoot_24 : decode cX1_loadAboveRoot 24 = .ok (.lstore_n 3, 1) := by decide +kernel
theorem dX1_loadAboveRoot_25 : decode cX1_loadAboveRoot 25 = .ok (.aload_n 1, 1) := by decide +kernel
theorem dX1_loadAboveRoot_26 : decode cX1_loadAboveRoot 26 = .ok (.getfield 15, 3) := by decide +kernel
theorem dX1_loadAboveRoot_29 : decode cX1_loadAboveRoot 29 = .ok (.iconst 1, 1) := by decide +kernel
theorem dX1_loadAboveRoot_30 : decode cX1_loadAboveRoot 30 = .ok (.isub, 1) := by decide +kernel
theorem dX1_loadAboveRoot_31 : decode cX1_loadAboveRoot 31 = .ok (.istore 5, 2) := by decide +kernel
theorem dX1_loadAboveRoot_33 : decode cX1_loadAboveRoot 33 = .ok (.iload 5, 2) := by decide +kernel
theorem dX1_loadAboveRoot_35 : decode cX1_loadAboveRoot 35 = .ok (.iload_n 2, 1) := by decide +kernel
theorem dX1_loadAboveRoot_36 : decode cX1_loadAboveRoot 36 = .ok (.if_icmp .lt 24, 3) := by decide +kernel
theorem dX1_loadAboveRoot_39 : decode cX1_loadAboveRoot 39 = .ok (.lload_n 3, 1) := by decide +kernel
theorem dX1_loadAboveRoot_40 : decode cX1_loadAboveRoot 40 = .ok (.ldc2_w 23, 3) := by decide +kernel
theorem dX1_loadAboveRoot_43 : decode cX1_loadAboveRoot 43 = .ok (.lmul, 1) := by decide +kernel
theorem dX1_loadAboveRoot_44 : decode cX1_loadAboveRoot 44 = .ok (.aload_n 1, 1) := by decide +kernel
theorem dX1_loadAboveRoot_45 : decode cX1_loadAboveRoot 45 = .ok (.getfield 9, 3) := by decide +kernel
theorem dX1_loadAboveRoot_48 : decode cX1_loadAboveRoot 48 = .ok (.iload 5, 2) := by decide +kernel
theorem dX1_loadAboveRoot_50 : decode cX1_loadAboveRoot 50 = .ok (.iaload, 1) := by decide +kernel
theorem dX1_loadAboveRoot_51 : decode cX1_loadAboveRoot 51 = .ok (.i2l, 1) := by decide +kernel
theorem dX1_loadAboveRoot_52 : decode cX1_loadAboveRoot 52 = .ok (.ladd, 1) := by decide +kernel
theorem dX1_loadAboveRoot_53 : decode cX1_loadAboveRoot 53 = .ok (.lstore_n 3, 1) := by decide +kernel
theorem dX1_loadAboveRoot_54 : decode cX1_loadAboveRoot 54 = .ok (.iinc 5 (-1), 3) := by decide +kernel
theorem dX1_loadAboveRoot_57 : decode cX1_loadAboveRoot 57 = .ok (.goto (-24), 3) := by decide +kernel
theorem dX1_loadAboveRoot_60 : decode cX1_loadAboveRoot 60 = .ok (.lload_n 3, 1) := by decide +kernel
theorem dX1_loadAboveRoot_61 : decode cX1_loadAboveRoot 61 = .ok (.invokestatic 84, 3) := by decide +kernel
theorem dX1_loadAboveRoot_64 : decode cX1_loadAboveRoot 64 = .ok (.lconst 1, 1) := by decide +kernel
theorem dX1_loadAboveRoot_65 : decode cX1_loadAboveRoot 65 = .ok (.ladd, 1) := by decide +kernel
theorem dX1_loadAboveRoot_66 : decode cX1_loadAboveRoot 66 = .ok (.lstore 5, 2) := by decide +kernel
theorem dX1_loadAboveRoot_68 : decode cX1_loadAboveRoot 68 = .ok (.iload_n 2, 1) := by decide +kernel
theorem dX1_loadAboveRoot_69 : decode cX1_loadAboveRoot 69 = .ok (.iconst 2, 1) := by decide +kernel
theorem dX1_loadAboveRoot_70 : decode cX1_loadAboveRoot 70 = .ok (.idiv, 1) := by decide +kernel
theorem dX1_loadAboveRoot_71 : decode cX1_loadAboveRoot 71 = .ok (.istore 7, 2) := by decide +kernel
theorem dX1_loadAboveRoot_73 : decode cX1_loadAboveRoot 73 = .ok (.aload_n 0, 1) := by decide +kernel
theorem dX1_loadAboveRoot_74 : decode cX1_loadAboveRoot 74 = .ok (.iconst 0, 1) := by decide +kernel
theorem dX1_loadAboveRoot_75 : decode cX1_loadAboveRoot 75 = .ok (.iload 7, 2) := by decide +kernel
theorem dX1_loadAboveRoot_77 : decode cX1_loadAboveRoot 77 = .ok (.invokevirtual 87, 3) := by decide +kernel
theorem dX1_loadAboveRoot_80 : decode cX1_loadAboveRoot 80 = .ok (.aload_n 0, 1) := by decide +kernel
theorem dX1_loadAboveRoot_81 : decode cX1_loadAboveRoot 81 = .ok (.getfield 9, 3) := by decide +kernel
theorem dX1_loadAboveRoot_84 : decode cX1_loadAboveRoot 84 = .ok (.iload 7, 2) := by decide +kernel
theorem dX1_loadAboveRoot_86 : decode cX1_loadAboveRoot 86 = .ok (.lload 5, 2) := by decide +kernel
theorem dX1_loadAboveRoot_88 : decode cX1_loadAboveRoot 88 = .ok (.ldc2_w 23, 3) := by decide +kernel
theorem dX1_loadAboveRoot_91 : decode cX1_loadAboveRoot 91 = .ok (.lrem, 1) := by decide +kernel
theorem dX1_loadAboveRoot_92 : decode cX1_loadAboveRoot 92 = .ok (.l2i, 1) := by decide +kernel
theorem dX1_loadAboveRoot_93 : decode cX1_loadAboveRoot 93 = .ok (.iastore, 1) := by decide +kernel
theorem dX1_loadAboveRoot_94 : decode cX1_loadAboveRoot 94 = .ok (.aload_n 0, 1) := by decide +kernel
theorem dX1_loadAboveRoot_95 : decode cX1_loadAboveRoot 95 = .ok (.getfield 9, 3) := by decide +kernel
theorem dX1_loadAboveRoot_98 : decode cX1_loadAboveRoot 98 = .ok (.iload 7, 2) := by decide +kernel
theorem dX1_loadAboveRoot_100 : decode cX1_loadAboveRoot 100 = .ok (.iconst 1, 1) := by decide +kernel
theorem dX1_loadAboveRoot_101 : decode cX1_loadAboveRoot 101 = .ok (.iadd, 1) := by decide +kernel
theorem dX1_loadAboveRoot_102 : decode cX1_loadAboveRoot 102 = .ok (.lload 5, 2) := by decide +kernel
theorem dX1_loadAboveRoot_104 : decode cX1_loadAboveRoot 104 = .ok (.ldc2_w 23, 3) := by decide +kernel
theorem dX1_loadAboveRoot_107 : decode cX1_loadAboveRoot 107 = .ok (.ldiv, 1) := by decide +kernel
theorem dX1_loadAboveRoot_108 : decode cX1_loadAboveRoot 108 = .ok (.l2i, 1) := by decide +kernel
theorem dX1_loadAboveRoot_109 : decode cX1_loadAboveRoot 109 = .ok (.iastore, 1) := by decide +kernel
theorem dX1_loadAboveRoot_110 : decode cX1_loadAboveRoot 110 = .ok (.aload_n 0, 1) := by decide +kernel
theorem dX1_loadAboveRoot_111 : decode cX1_loadAboveRoot 111 = .ok (.iconst 0, 1) := by decide +kernel
theorem dX1_loadAboveRoot_112 : decode cX1_loadAboveRoot 112 = .ok (.putfield 19, 3) := by decide +kernel
theorem dX1_loadAboveRoot_115 : decode cX1_loadAboveRoot 115 = .ok (.aload_n 0, 1) := by decide +kernel
theorem dX1_loadAboveRoot_116 : decode cX1_loadAboveRoot 116 = .ok (.iload 7, 2) := by decide +kernel
theorem dX1_loadAboveRoot_118 : decode cX1_loadAboveRoot 118 = .ok (.iconst 2, 1) := by decide +kernel
theorem dX1_loadAboveRoot_119 : decode cX1_loadAboveRoot 119 = .ok (.iadd, 1) := by decide +kernel
theorem dX1_loadAboveRoot_120 : decode cX1_loadAboveRoot 120 = .ok (.invokevirtual 31, 3) := by decide +kernel
theorem dX1_loadAboveRoot_123 : decode cX1_loadAboveRoot 123 = .ok (.return_, 1) := by decide +kernel
theorem dX1_rootOfLong_0 : decode cX1_rootOfLong 0 = .ok (.lconst 0, 1) := by decide +kernel
theorem dX1_rootOfLong_1 : decode cX1_rootOfLong 1 = .ok (.lstore_n 2, 1) := by decide +kernel
theorem dX1_rootOfLong_2 : decode cX1_rootOfLong 2 = .ok (.ldc2_w 91, 3) := by decide +kernel
theorem dX1_rootOfLong_5 : decode cX1_rootOfLong 5 = .ok (.lstore 4, 2) := by decide +kernel
theorem dX1_rootOfLong_7 : decode cX1_rootOfLong 7 = .ok (.lload 4, 2) := by decide +kernel
theorem dX1_rootOfLong_9 : decode cX1_rootOfLong 9 = .ok (.lconst 0, 1) := by decide +kernel
theorem dX1_rootOfLong_10 : decode cX1_rootOfLong 10 = .ok (.lcmp, 1) := by decide +kernel
theorem dX1_rootOfLong_11 : decode cX1_rootOfLong 11 = .ok (.ifCond .le 31, 3) := by decide +kernel
theorem dX1_rootOfLong_14 : decode cX1_rootOfLong 14 = .ok (.lload_n 2, 1) := by decide +kernel
theorem dX1_rootOfLong_15 : decode cX1_rootOfLong 15 = .ok (.lload 4, 2) := by decide +kernel
theorem dX1_rootOfLong_17 : decode cX1_rootOfLong 17 = .ok (.ladd, 1) := by decide +kernel
theorem dX1_rootOfLong_18 : decode cX1_rootOfLong 18 = .ok (.lstore 6, 2) := by decide +kernel
theorem dX1_rootOfLong_20 : decode cX1_rootOfLong 20 = .ok (.lload 6, 2) := by decide +kernel
theorem dX1_rootOfLong_22 : decode cX1_rootOfLong 22 = .ok (.lload 6, 2) := by decide +kernel
theorem dX1_rootOfLong_24 : decode cX1_rootOfLong 24 = .ok (.lmul, 1) := by decide +kernel
theorem dX1_rootOfLong_25 : decode cX1_rootOfLong 25 = .ok (.lload_n 0, 1) := by decide +kernel
theorem dX1_rootOfLong_26 : decode cX1_rootOfLong 26 = .ok (.lcmp, 1) := by decide +kernel
theorem dX1_rootOfLong_27 : decode cX1_rootOfLong 27 = .ok (.ifCond .gt 6, 3) := by decide +kernel
theorem dX1_rootOfLong_30 : decode cX1_rootOfLong 30 = .ok (.lload 6, 2) := by decide +kernel
theorem dX1_rootOfLong_32 : decode cX1_rootOfLong 32 = .ok (.lstore_n 2, 1) := by decide +kernel
theorem dX1_rootOfLong_33 : decode cX1_rootOfLong 33 = .ok (.lload 4, 2) := by decide +kernel
theorem dX1_rootOfLong_35 : decode cX1_rootOfLong 35 = .ok (.iconst 1, 1) := by decide +kernel
theorem dX1_rootOfLong_36 : decode cX1_rootOfLong 36 = .ok (.lshr, 1) := by decide +kernel
theorem dX1_rootOfLong_37 : decode cX1_rootOfLong 37 = .ok (.lstore 4, 2) := by decide +kernel
theorem dX1_rootOfLong_39 : decode cX1_rootOfLong 39 = .ok (.goto (-32), 3) := by decide +kernel
theorem dX1_rootOfLong_42 : decode cX1_rootOfLong 42 = .ok (.lload_n 2, 1) := by decide +kernel
theorem dX1_rootOfLong_43 : decode cX1_rootOfLong 43 = .ok (.lreturn, 1) := by decide +kernel
theorem dX1_countDigits_0 : decode cX1_countDigits 0 = .ok (.aload_n 0, 1) := by decide +kernel
theorem dX1_countDigits_1 : decode cX1_countDigits 1 = .ok (.getfield 15, 3) := by decide +kernel
theorem dX1_countDigits_4 : decode cX1_countDigits 4 = .ok (.ifCond .ne 5, 3) := by decide +kernel
theorem dX1_countDigits_7 : decode cX1_countDigits 7 = .ok (.iconst 1, 1) := by decide +kernel
theorem dX1_countDigits_8 : decode cX1_countDigits 8 = .ok (.ireturn, 1) := by decide +kernel
theorem dX1_countDigits_9 : decode cX1_countDigits 9 = .ok (.aload_n 0, 1) := by decide +kernel
theorem dX1_countDigits_10 : decode cX1_countDigits 10 = .ok (.getfield 9, 3) := by decide +kernel
theorem dX1_countDigits_13 : decode cX1_countDigits 13 = .ok (.aload_n 0, 1) := by decide +kernel
theorem dX1_countDigits_14 : decode cX1_countDigits 14 = .ok (.getfield 15, 3) := by decide +kernel
theorem dX1_countDigits_17 : decode cX1_countDigits 17 = .ok (.iconst 1, 1) := by decide +kernel
theorem dX1_countDigits_18 : decode cX1_countDigits 18 = .ok (.isub, 1) := by decide +kernel
theorem dX1_countDigits_19 : decode cX1_countDigits 19 = .ok (.iaload, 1) := by decide +kernel
theorem dX1_countDigits_20 : decode cX1_countDigits 20 = .ok (.istore_n 1, 1) := by decide +kernel
theorem dX1_countDigits_21 : decode cX1_countDigits 21 = .ok (.iconst 1, 1) := by decide +kernel
theorem dX1_countDigits_22 : decode cX1_countDigits 22 = .ok (.istore_n 2, 1) := by decide +kernel
theorem dX1_countDigits_23 : decode cX1_countDigits 23 = .ok (.iload_n 2, 1) := by decide +kernel
theorem dX1_countDigits_24 : decode cX1_countDigits 24 = .ok (.bipush 6, 2) := by decide +kernel
theorem dX1_countDigits_26 : decode cX1_countDigits 26 = .ok (.if_icmp .ge 18, 3) := by decide +kernel
theorem dX1_countDigits_29 : decode cX1_countDigits 29 = .ok (.iload_n 1, 1) := by decide +kernel
theorem dX1_countDigits_30 : decode cX1_countDigits 30 = .ok (.getstatic 93, 3) := by decide +kernel
theorem dX1_countDigits_33 : decode cX1_countDigits 33 = .ok (.iload_n 2, 1) := by decide +kernel
theorem dX1_countDigits_34 : decode cX1_countDigits 34 = .ok (.iaload, 1) := by decide +kernel
theorem dX1_countDigits_35 : decode cX1_countDigits 35 = .ok (.if_icmp .lt 9, 3) := by decide +kernel
theorem dX1_countDigits_38 : decode cX1_countDigits 38 = .ok (.iinc 2 1, 3) := by decide +kernel
theorem dX1_countDigits_41 : decode cX1_countDigits 41 = .ok (.goto (-18), 3) := by decide +kernel
theorem dX1_countDigits_44 : decode cX1_countDigits 44 = .ok (.aload_n 0, 1) := by decide +kernel
theorem dX1_countDigits_45 : decode cX1_countDigits 45 = .ok (.getfield 15, 3) := by decide +kernel
theorem dX1_countDigits_48 : decode cX1_countDigits 48 = .ok (.iconst 1, 1) := by decide +kernel
theorem dX1_countDigits_49 : decode cX1_countDigits 49 = .ok (.isub, 1) := by decide +kernel
theorem dX1_countDigits_50 : decode cX1_countDigits 50 = .ok (.bipush 6, 2) := by decide +kernel
theorem dX1_countDigits_52 : decode cX1_countDigits 52 = .ok (.imul, 1) := by decide +kernel
theorem dX1_countDigits_53 : decode cX1_countDigits 53 = .ok (.iload_n 2, 1) := by decide +kernel
theorem dX1_countDigits_54 : decode cX1_countDigits 54 = .ok (.iadd, 1) := by decide +kernel
theorem dX1_countDigits_55 : decode cX1_countDigits 55 = .ok (.ireturn, 1) := by decide +kernel
theorem dX1_digitOfPlace_0 : decode cX1_digitOfPlace 0 = .ok (.aload_n 0, 1) := by decide +kernel
theorem dX1_digitOfPlace_1 : decode cX1_digitOfPlace 1 = .ok (.iload_n 1, 1) := by decide +kernel
theorem dX1_digitOfPlace_2 : decode cX1_digitOfPlace 2 = .ok (.bipush 6, 2) := by decide +kernel
theorem dX1_digitOfPlace_4 : decode cX1_digitOfPlace 4 = .ok (.idiv, 1) := by decide +kernel
theorem dX1_digitOfPlace_5 : decode cX1_digitOfPlace 5 = .ok (.invokevirtual 59, 3) := by decide +kernel
theorem dX1_digitOfPlace_8 : decode cX1_digitOfPlace 8 = .ok (.getstatic 93, 3) := by decide +kernel
theorem dX1_digitOfPlace_11 : decode cX1_digitOfPlace 11 = .ok (.iload_n 1, 1) := by decide +kernel
theorem dX1_digitOfPlace_12 : decode cX1_digitOfPlace 12 = .ok (.bipush 6, 2) := by decide +kernel
theorem dX1_digitOfPlace_14 : decode cX1_digitOfPlace 14 = .ok (.irem, 1) := by decide +kernel
theorem dX1_digitOfPlace_15 : decode cX1_digitOfPlace 15 = .ok (.iaload, 1) := by decide +kernel
theorem dX1_digitOfPlace_16 : decode cX1_digitOfPlace 16 = .ok (.idiv, 1) := by decide +kernel
theorem dX1_digitOfPlace_17 : decode cX1_digitOfPlace 17 = .ok (.bipush 10, 2) := by decide +kernel
theorem dX1_digitOfPlace_19 : decode cX1_digitOfPlace 19 = .ok (.irem, 1) := by decide +kernel
theorem dX1_digitOfPlace_20 : decode cX1_digitOfPlace 20 = .ok (.ireturn, 1) := by decide +kernel
theorem dX1_remainder_0 : decode cX1_remainder 0 = .ok (.lconst 0, 1) := by decide +kernel
theorem dX1_remainder_1 : decode cX1_remainder 1 = .ok (.lstore_n 3, 1) := by decide +kernel
theorem dX1_remainder_2 : decode cX1_remainder 2 = .ok (.aload_n 0, 1) := by decide +kernel
theorem dX1_remainder_3 : decode cX1_remainder 3 = .ok (.getfield 15, 3) := by decide +kernel
theorem dX1_remainder_6 : decode cX1_remainder 6 = .ok (.iconst 1, 1) := by decide +kernel
theorem dX1_remainder_7 : decode cX1_remainder 7 = .ok (.isub, 1) := by decide +kernel
theorem dX1_remainder_8 : decode cX1_remainder 8 = .ok (.istore 5, 2) := by decide +kernel
theorem dX1_remainder_10 : decode cX1_remainder 10 = .ok (.iload 5, 2) := by decide +kernel
theorem dX1_remainder_12 : decode cX1_remainder 12 = .ok (.ifCond .lt 63, 3) := by decide +kernel
theorem dX1_remainder_15 : decode cX1_remainder 15 = .ok (.getstatic 96, 3) := by decide +kernel
theorem dX1_remainder_18 : decode cX1_remainder 18 = .ok (.astore 6, 2) := by decide +kernel
theorem dX1_remainder_20 : decode cX1_remainder 20 = .ok (.aload 6, 2) := by decide +kernel
theorem dX1_remainder_22 : decode cX1_remainder 22 = .ok (.arraylength, 1) := by decide +kernel
theorem dX1_remainder_23 : decode cX1_remainder 23 = .ok (.istore 7, 2) := by decide +kernel
theorem dX1_remainder_25 : decode cX1_remainder 25 = .ok (.iconst 0, 1) := by decide +kernel
theorem dX1_remainder_26 : decode cX1_remainder 26 = .ok (.istore 8, 2) := by decide +kernel
theorem dX1_remainder_28 : decode cX1_remainder 28 = .ok (.iload 8, 2) := by decide +kernel
theorem dX1_remainder_30 : decode cX1_remainder 30 = .ok (.iload 7, 2) := by decide +kernel
theorem dX1_remainder_32 : decode cX1_remainder 32 = .ok (.if_icmp .ge 24, 3) := by decide +kernel
theorem dX1_remainder_35 : decode cX1_remainder 35 = .ok (.aload 6, 2) := by decide +kernel
theorem dX1_remainder_37 : decode cX1_remainder 37 = .ok (.iload 8, 2) := by decide +kernel
theorem dX1_remainder_39 : decode cX1_remainder 39 = .ok (.iaload, 1) := by decide +kernel
theorem dX1_remainder_40 : decode cX1_remainder 40 = .ok (.istore 9, 2) := by decide +kernel
theorem dX1_remainder_42 : decode cX1_remainder 42 = .ok (.lload_n 3, 1) := by decide +kernel
theorem dX1_remainder_43 : decode cX1_remainder 43 = .ok (.iload 9, 2) := by decide +kernel
theorem dX1_remainder_45 : decode cX1_remainder 45 = .ok (.i2l, 1) := by decide +kernel
theorem dX1_remainder_46 : decode cX1_remainder 46 = .ok (.lmul, 1) := by decide +kernel
theorem dX1_remainder_47 : decode cX1_remainder 47 = .ok (.lload_n 1, 1) := by decide +kernel
theorem dX1_remainder_48 : decode cX1_remainder 48 = .ok (.lrem, 1) := by decide +kernel
theorem dX1_remainder_49 : decode cX1_remainder 49 = .ok (.lstore_n 3, 1) := by decide +kernel
theorem dX1_remainder_50 : decode cX1_remainder 50 = .ok (.iinc 8 1, 3) := by decide +kernel
theorem dX1_remainder_53 : decode cX1_remainder 53 = .ok (.goto (-25), 3) := by decide +kernel
theorem dX1_remainder_56 : decode cX1_remainder 56 = .ok (.lload_n 3, 1) := by decide +kernel
theorem dX1_remainder_57 : decode cX1_remainder 57 = .ok (.aload_n 0, 1) := by decide +kernel
theorem dX1_remainder_58 : decode cX1_remainder 58 = .ok (.getfield 9, 3) := by decide +kernel
theorem dX1_remainder_61 : decode cX1_remainder 61 = .ok (.iload 5, 2) := by decide +kernel
theorem dX1_remainder_63 : decode cX1_remainder 63 = .ok (.iaload, 1) := by decide +kernel
theorem dX1_remainder_64 : decode cX1_remainder 64 = .ok (.i2l, 1) := by decide +kernel
theorem dX1_remainder_65 : decode cX1_remainder 65 = .ok (.ladd, 1) := by decide +kernel
theorem dX1_remainder_66 : decode cX1_remainder 66 = .ok (.lload_n 1, 1) := by decide +kernel
theorem dX1_remainder_67 : decode cX1_remainder 67 = .ok (.lrem, 1) := by decide +kernel
theorem dX1_remainder_68 : decode cX1_remainder 68 = .ok (.lstore_n 3, 1) := by decide +kernel
theorem dX1_remainder_69 : decode cX1_remainder 69 = .ok (.iinc 5 (-1), 3) := by decide +kernel
theorem dX1_remainder_72 : decode cX1_remainder 72 = .ok (.goto (-62), 3) := by decide +kernel
theorem dX1_remainder_75 : decode cX1_remainder 75 = .ok (.aload_n 0, 1) := by decide +kernel
theorem dX1_remainder_76 : decode cX1_remainder 76 = .ok (.getfield 19, 3) := by decide +kernel
theorem dX1_remainder_79 : decode cX1_remainder 79 = .ok (.ifCond .eq 15, 3) := by decide +kernel
theorem dX1_remainder_82 : decode cX1_remainder 82 = .ok (.lload_n 3, 1) := by decide +kernel
theorem dX1_remainder_83 : decode cX1_remainder 83 = .ok (.lconst 0, 1) := by decide +kernel
theorem dX1_remainder_84 : decode cX1_remainder 84 = .ok (.lcmp, 1) := by decide +kernel
theorem dX1_remainder_85 : decode cX1_remainder 85 = .ok (.ifCond .eq 9, 3) := by decide +kernel
theorem dX1_remainder_88 : decode cX1_remainder 88 = .ok (.lload_n 1, 1) := by decide +kernel
theorem dX1_remainder_89 : decode cX1_remainder 89 = .ok (.lload_n 3, 1) := by decide +kernel
theorem dX1_remainder_90 : decode cX1_remainder 90 = .ok (.lsub, 1) := by decide +kernel
theorem dX1_remainder_91 : decode cX1_remainder 91 = .ok (.goto 4, 3) := by decide +kernel
theorem dX1_remainder_94 : decode cX1_remainder 94 = .ok (.lload_n 3, 1) := by decide +kernel
theorem dX1_remainder_95 : decode cX1_remainder 95 = .ok (.lreturn, 1) := by decide +kernel
theorem dX1_lowBits_0 : decode cX1_lowBits 0 = .ok (.lconst 0, 1) := by decide +kernel
theorem dX1_lowBits_1 : decode cX1_lowBits 1 = .ok (.lstore_n 1, 1) := by decide +kernel
theorem dX1_lowBits_2 : decode cX1_lowBits 2 = .ok (.aload_n 0, 1) := by decide +kernel
theorem dX1_lowBits_3 : decode cX1_lowBits 3 = .ok (.getfield 15, 3) := by decide +kernel
theorem dX1_lowBits_6 : decode cX1_lowBits 6 = .ok (.iconst 1, 1) := by decide +kernel
theorem dX1_lowBits_7 : decode cX1_lowBits 7 = .ok (.isub, 1) := by decide +kernel
theorem dX1_lowBits_8 : decode cX1_lowBits 8 = .ok (.istore_n 3, 1) := by decide +kernel
theorem dX1_lowBits_9 : decode cX1_lowBits 9 = .ok (.iload_n 3, 1) := by decide +kernel
theorem dX1_lowBits_10 : decode cX1_lowBits 10 = .ok (.ifCond .lt 23, 3) := by decide +kernel
theorem dX1_lowBits_13 : decode cX1_lowBits 13 = .ok (.lload_n 1, 1) := by decide +kernel
theorem dX1_lowBits_14 : decode cX1_lowBits 14 = .ok (.ldc2_w 23, 3) := by decide +kernel
theorem dX1_lowBits_17 : decode cX1_lowBits 17 = .ok (.lmul, 1) := by decide +kernel
theorem dX1_lowBits_18 : decode cX1_lowBits 18 = .ok (.aload_n 0, 1) := by decide +kernel
theorem dX1_lowBits_19 : decode cX1_lowBits 19 = .ok (.getfield 9, 3) := by decide +kernel
theorem dX1_lowBits_22 : decode cX1_lowBits 22 = .ok (.iload_n 3, 1) := by decide +kernel
theorem dX1_lowBits_23 : decode cX1_lowBits 23 = .ok (.iaload, 1) := by decide +kernel
theorem dX1_lowBits_24 : decode cX1_lowBits 24 = .ok (.i2l, 1) := by decide +kernel
theorem dX1_lowBits_25 : decode cX1_lowBits 25 = .ok (.ladd, 1) := by decide +kernel
theorem dX1_lowBits_26 : decode cX1_lowBits 26 = .ok (.lstore_n 1, 1) := by decide +kernel
theorem dX1_lowBits_27 : decode cX1_lowBits 27 = .ok (.iinc 3 (-1), 3) := by decide +kernel
theorem dX1_lowBits_30 : decode cX1_lowBits 30 = .ok (.goto (-21), 3) := by decide +kernel
theorem dX1_lowBits_33 : decode cX1_lowBits 33 = .ok (.aload_n 0, 1) := by decide +kernel
theorem dX1_lowBits_34 : decode cX1_lowBits 34 = .ok (.getfield 19, 3) := by decide +kernel
theorem dX1_lowBits_37 : decode cX1_lowBits 37 = .ok (.ifCond .eq 8, 3) := by decide +kernel
theorem dX1_lowBits_40 : decode cX1_lowBits 40 = .ok (.lload_n 1, 1) := by decide +kernel
theorem dX1_lowBits_41 : decode cX1_lowBits 41 = .ok (.lneg, 1) := by decide +kernel
theorem dX1_lowBits_42 : decode cX1_lowBits 42 = .ok (.goto 4, 3) := by decide +kernel
theorem dX1_lowBits_45 : decode cX1_lowBits 45 = .ok (.lload_n 1, 1) := by decide +kernel
theorem dX1_lowBits_46 : decode cX1_lowBits 46 = .ok (.lreturn, 1) := by decide +kernel
