theorem dX0_init_0 : decode cX0_init 0 = .ok (.aload_n 0, 1) := by decide +kernel
theorem dX0_init_1 : decode cX0_init 1 = .ok (.invokespecial 3, 3) := by decide +kernel
theorem dX0_init_4 : decode cX0_init 4 = .ok (.aload_n 0, 1) := by decide +kernel
theorem dX0_init_5 : decode cX0_init 5 = .ok (.new 9, 3) := by decide +kernel
theorem dX0_init_8 : decode cX0_init 8 = .ok (.dup, 1) := by decide +kernel
theorem dX0_init_9 : decode cX0_init 9 = .ok (.invokespecial 11, 3) := by decide +kernel
theorem dX0_init_12 : decode cX0_init 12 = .ok (.putfield 12, 3) := by decide +kernel
theorem dX0_init_15 : decode cX0_init 15 = .ok (.aload_n 0, 1) := by decide +kernel
theorem dX0_init_16 : decode cX0_init 16 = .ok (.new 9, 3) := by decide +kernel
theorem dX0_init_19 : decode cX0_init 19 = .ok (.dup, 1) := by decide +kernel
theorem dX0_init_20 : decode cX0_init 20 = .ok (.invokespecial 11, 3) := by decide +kernel
theorem dX0_init_23 : decode cX0_init 23 = .ok (.putfield 18, 3) := by decide +kernel
theorem dX0_init_26 : decode cX0_init 26 = .ok (.aload_n 0, 1) := by decide +kernel
theorem dX0_init_27 : decode cX0_init 27 = .ok (.new 9, 3) := by decide +kernel
theorem dX0_init_30 : decode cX0_init 30 = .ok (.dup, 1) := by decide +kernel
theorem dX0_init_31 : decode cX0_init 31 = .ok (.invokespecial 11, 3) := by decide +kernel
theorem dX0_init_34 : decode cX0_init 34 = .ok (.putfield 21, 3) := by decide +kernel
theorem dX0_init_37 : decode cX0_init 37 = .ok (.return_, 1) := by decide +kernel
theorem dX0_commonDivisor_0 : decode cX0_commonDivisor 0 = .ok (.aload_n 0, 1) := by decide +kernel
theorem dX0_commonDivisor_1 : decode cX0_commonDivisor 1 = .ok (.getfield 18, 3) := by decide +kernel
theorem dX0_commonDivisor_4 : decode cX0_commonDivisor 4 = .ok (.aload_n 1, 1) := by decide +kernel
theorem dX0_commonDivisor_5 : decode cX0_commonDivisor 5 = .ok (.invokevirtual 24, 3) := by decide +kernel
theorem dX0_commonDivisor_8 : decode cX0_commonDivisor 8 = .ok (.aload_n 0, 1) := by decide +kernel
theorem dX0_commonDivisor_9 : decode cX0_commonDivisor 9 = .ok (.getfield 21, 3) := by decide +kernel
theorem dX0_commonDivisor_12 : decode cX0_commonDivisor 12 = .ok (.aload_n 2, 1) := by decide +kernel
theorem dX0_commonDivisor_13 : decode cX0_commonDivisor 13 = .ok (.invokevirtual 24, 3) := by decide +kernel
theorem dX0_commonDivisor_16 : decode cX0_commonDivisor 16 = .ok (.aload_n 0, 1) := by decide +kernel
theorem dX0_commonDivisor_17 : decode cX0_commonDivisor 17 = .ok (.getfield 18, 3) := by decide +kernel
theorem dX0_commonDivisor_20 : decode cX0_commonDivisor 20 = .ok (.iconst 0, 1) := by decide +kernel
theorem dX0_commonDivisor_21 : decode cX0_commonDivisor 21 = .ok (.putfield 28, 3) := by decide +kernel
theorem dX0_commonDivisor_24 : decode cX0_commonDivisor 24 = .ok (.aload_n 0, 1) := by decide +kernel
theorem dX0_commonDivisor_25 : decode cX0_commonDivisor 25 = .ok (.getfield 21, 3) := by decide +kernel
theorem dX0_commonDivisor_28 : decode cX0_commonDivisor 28 = .ok (.iconst 0, 1) := by decide +kernel
theorem dX0_commonDivisor_29 : decode cX0_commonDivisor 29 = .ok (.putfield 28, 3) := by decide +kernel
theorem dX0_commonDivisor_32 : decode cX0_commonDivisor 32 = .ok (.aload_n 0, 1) := by decide +kernel
theorem dX0_commonDivisor_33 : decode cX0_commonDivisor 33 = .ok (.getfield 18, 3) := by decide +kernel
theorem dX0_commonDivisor_36 : decode cX0_commonDivisor 36 = .ok (.aload_n 0, 1) := by decide +kernel
theorem dX0_commonDivisor_37 : decode cX0_commonDivisor 37 = .ok (.getfield 21, 3) := by decide +kernel
theorem dX0_commonDivisor_40 : decode cX0_commonDivisor 40 = .ok (.invokevirtual 32, 3) := by decide +kernel
theorem dX0_commonDivisor_43 : decode cX0_commonDivisor 43 = .ok (.ifCond .ge 7, 3) := by decide +kernel
theorem dX0_commonDivisor_46 : decode cX0_commonDivisor 46 = .ok (.aload_n 0, 1) := by decide +kernel
theorem dX0_commonDivisor_47 : decode cX0_commonDivisor 47 = .ok (.invokevirtual 36, 3) := by decide +kernel
theorem dX0_commonDivisor_50 : decode cX0_commonDivisor 50 = .ok (.iconst 0, 1) := by decide +kernel
theorem dX0_commonDivisor_51 : decode cX0_commonDivisor 51 = .ok (.istore_n 3, 1) := by decide +kernel
theorem dX0_commonDivisor_52 : decode cX0_commonDivisor 52 = .ok (.iload_n 3, 1) := by decide +kernel
theorem dX0_commonDivisor_53 : decode cX0_commonDivisor 53 = .ok (.sipush 10000, 3) := by decide +kernel
theorem dX0_commonDivisor_56 : decode cX0_commonDivisor 56 = .ok (.if_icmp .ge 58, 3) := by decide +kernel
theorem dX0_commonDivisor_59 : decode cX0_commonDivisor 59 = .ok (.aload_n 0, 1) := by decide +kernel
theorem dX0_commonDivisor_60 : decode cX0_commonDivisor 60 = .ok (.getfield 21, 3) := by decide +kernel
theorem dX0_commonDivisor_63 : decode cX0_commonDivisor 63 = .ok (.invokevirtual 39, 3) := by decide +kernel
theorem dX0_commonDivisor_66 : decode cX0_commonDivisor 66 = .ok (.ifCond .ne 48, 3) := by decide +kernel
theorem dX0_commonDivisor_69 : decode cX0_commonDivisor 69 = .ok (.aload_n 0, 1) := by decide +kernel
theorem dX0_commonDivisor_70 : decode cX0_commonDivisor 70 = .ok (.invokevirtual 43, 3) := by decide +kernel
theorem dX0_commonDivisor_73 : decode cX0_commonDivisor 73 = .ok (.aload_n 0, 1) := by decide +kernel
theorem dX0_commonDivisor_74 : decode cX0_commonDivisor 74 = .ok (.getfield 46, 3) := by decide +kernel
theorem dX0_commonDivisor_77 : decode cX0_commonDivisor 77 = .ok (.lconst 0, 1) := by decide +kernel
theorem dX0_commonDivisor_78 : decode cX0_commonDivisor 78 = .ok (.lcmp, 1) := by decide +kernel
theorem dX0_commonDivisor_79 : decode cX0_commonDivisor 79 = .ok (.ifCond .ne 25, 3) := by decide +kernel
theorem dX0_commonDivisor_82 : decode cX0_commonDivisor 82 = .ok (.aload_n 0, 1) := by decide +kernel
theorem dX0_commonDivisor_83 : decode cX0_commonDivisor 83 = .ok (.getfield 18, 3) := by decide +kernel
theorem dX0_commonDivisor_86 : decode cX0_commonDivisor 86 = .ok (.aload_n 0, 1) := by decide +kernel
theorem dX0_commonDivisor_87 : decode cX0_commonDivisor 87 = .ok (.getfield 21, 3) := by decide +kernel
theorem dX0_commonDivisor_90 : decode cX0_commonDivisor 90 = .ok (.aload_n 0, 1) := by decide +kernel
theorem dX0_commonDivisor_91 : decode cX0_commonDivisor 91 = .ok (.getfield 12, 3) := by decide +kernel
theorem dX0_commonDivisor_94 : decode cX0_commonDivisor 94 = .ok (.invokevirtual 50, 3) := by decide +kernel
theorem dX0_commonDivisor_97 : decode cX0_commonDivisor 97 = .ok (.aload_n 0, 1) := by decide +kernel
theorem dX0_commonDivisor_98 : decode cX0_commonDivisor 98 = .ok (.invokevirtual 36, 3) := by decide +kernel
theorem dX0_commonDivisor_101 : decode cX0_commonDivisor 101 = .ok (.goto 7, 3) := by decide +kernel
theorem dX0_commonDivisor_104 : decode cX0_commonDivisor 104 = .ok (.aload_n 0, 1) := by decide +kernel
theorem dX0_commonDivisor_105 : decode cX0_commonDivisor 105 = .ok (.invokevirtual 54, 3) := by decide +kernel
theorem dX0_commonDivisor_108 : decode cX0_commonDivisor 108 = .ok (.iinc 3 1, 3) := by decide +kernel
theorem dX0_commonDivisor_111 : decode cX0_commonDivisor 111 = .ok (.goto (-59), 3) := by decide +kernel
theorem dX0_commonDivisor_114 : decode cX0_commonDivisor 114 = .ok (.aload_n 0, 1) := by decide +kernel
theorem dX0_commonDivisor_115 : decode cX0_commonDivisor 115 = .ok (.getfield 18, 3) := by decide +kernel
theorem dX0_commonDivisor_118 : decode cX0_commonDivisor 118 = .ok (.areturn, 1) := by decide +kernel
theorem dX0_change_0 : decode cX0_change 0 = .ok (.aload_n 0, 1) := by decide +kernel
theorem dX0_change_1 : decode cX0_change 1 = .ok (.getfield 18, 3) := by decide +kernel
theorem dX0_change_4 : decode cX0_change 4 = .ok (.astore_n 1, 1) := by decide +kernel
theorem dX0_change_5 : decode cX0_change 5 = .ok (.aload_n 0, 1) := by decide +kernel
theorem dX0_change_6 : decode cX0_change 6 = .ok (.aload_n 0, 1) := by decide +kernel
theorem dX0_change_7 : decode cX0_change 7 = .ok (.getfield 21, 3) := by decide +kernel
theorem dX0_change_10 : decode cX0_change 10 = .ok (.putfield 18, 3) := by decide +kernel
theorem dX0_change_13 : decode cX0_change 13 = .ok (.aload_n 0, 1) := by decide +kernel
theorem dX0_change_14 : decode cX0_change 14 = .ok (.aload_n 1, 1) := by decide +kernel
theorem dX0_change_15 : decode cX0_change 15 = .ok (.putfield 21, 3) := by decide +kernel
theorem dX0_change_18 : decode cX0_change 18 = .ok (.return_, 1) := by decide +kernel
theorem dX0_foretellSteps_0 : decode cX0_foretellSteps 0 = .ok (.aload_n 0, 1) := by decide +kernel
theorem dX0_foretellSteps_1 : decode cX0_foretellSteps 1 = .ok (.aload_n 0, 1) := by decide +kernel
theorem dX0_foretellSteps_2 : decode cX0_foretellSteps 2 = .ok (.getfield 18, 3) := by decide +kernel
theorem dX0_foretellSteps_5 : decode cX0_foretellSteps 5 = .ok (.invokevirtual 57, 3) := by decide +kernel
theorem dX0_foretellSteps_8 : decode cX0_foretellSteps 8 = .ok (.lstore_n 1, 1) := by decide +kernel
theorem dX0_foretellSteps_9 : decode cX0_foretellSteps 9 = .ok (.aload_n 0, 1) := by decide +kernel
theorem dX0_foretellSteps_10 : decode cX0_foretellSteps 10 = .ok (.aload_n 0, 1) := by decide +kernel
theorem dX0_foretellSteps_11 : decode cX0_foretellSteps 11 = .ok (.getfield 21, 3) := by decide +kernel
theorem dX0_foretellSteps_14 : decode cX0_foretellSteps 14 = .ok (.invokevirtual 57, 3) := by decide +kernel
theorem dX0_foretellSteps_17 : decode cX0_foretellSteps 17 = .ok (.lstore_n 3, 1) := by decide +kernel
theorem dX0_foretellSteps_18 : decode cX0_foretellSteps 18 = .ok (.aload_n 0, 1) := by decide +kernel
theorem dX0_foretellSteps_19 : decode cX0_foretellSteps 19 = .ok (.lconst 1, 1) := by decide +kernel
theorem dX0_foretellSteps_20 : decode cX0_foretellSteps 20 = .ok (.putfield 61, 3) := by decide +kernel
theorem dX0_foretellSteps_23 : decode cX0_foretellSteps 23 = .ok (.aload_n 0, 1) := by decide +kernel
theorem dX0_foretellSteps_24 : decode cX0_foretellSteps 24 = .ok (.lconst 0, 1) := by decide +kernel
theorem dX0_foretellSteps_25 : decode cX0_foretellSteps 25 = .ok (.putfield 46, 3) := by decide +kernel
theorem dX0_foretellSteps_28 : decode cX0_foretellSteps 28 = .ok (.aload_n 0, 1) := by decide +kernel
theorem dX0_foretellSteps_29 : decode cX0_foretellSteps 29 = .ok (.lconst 0, 1) := by decide +kernel
theorem dX0_foretellSteps_30 : decode cX0_foretellSteps 30 = .ok (.putfield 64, 3) := by decide +kernel
theorem dX0_foretellSteps_33 : decode cX0_foretellSteps 33 = .ok (.aload_n 0, 1) := by decide +kernel
theorem dX0_foretellSteps_34 : decode cX0_foretellSteps 34 = .ok (.lconst 1, 1) := by decide +kernel
theorem dX0_foretellSteps_35 : decode cX0_foretellSteps 35 = .ok (.putfield 67, 3) := by decide +kernel
theorem dX0_foretellSteps_38 : decode cX0_foretellSteps 38 = .ok (.iconst 0, 1) := by decide +kernel
theorem dX0_foretellSteps_39 : decode cX0_foretellSteps 39 = .ok (.istore 5, 2) := by decide +kernel
theorem dX0_foretellSteps_41 : decode cX0_foretellSteps 41 = .ok (.iload 5, 2) := by decide +kernel
theorem dX0_foretellSteps_43 : decode cX0_foretellSteps 43 = .ok (.bipush 64, 2) := by decide +kernel
theorem dX0_foretellSteps_45 : decode cX0_foretellSteps 45 = .ok (.if_icmp .ge 136, 3) := by decide +kernel
theorem dX0_foretellSteps_48 : decode cX0_foretellSteps 48 = .ok (.lload_n 3, 1) := by decide +kernel
theorem dX0_foretellSteps_49 : decode cX0_foretellSteps 49 = .ok (.aload_n 0, 1) := by decide +kernel
theorem dX0_foretellSteps_50 : decode cX0_foretellSteps 50 = .ok (.getfield 64, 3) := by decide +kernel
theorem dX0_foretellSteps_53 : decode cX0_foretellSteps 53 = .ok (.ladd, 1) := by decide +kernel
theorem dX0_foretellSteps_54 : decode cX0_foretellSteps 54 = .ok (.lstore 6, 2) := by decide +kernel
theorem dX0_foretellSteps_56 : decode cX0_foretellSteps 56 = .ok (.lload_n 3, 1) := by decide +kernel
theorem dX0_foretellSteps_57 : decode cX0_foretellSteps 57 = .ok (.aload_n 0, 1) := by decide +kernel
theorem dX0_foretellSteps_58 : decode cX0_foretellSteps 58 = .ok (.getfield 67, 3) := by decide +kernel
theorem dX0_foretellSteps_61 : decode cX0_foretellSteps 61 = .ok (.ladd, 1) := by decide +kernel
theorem dX0_foretellSteps_62 : decode cX0_foretellSteps 62 = .ok (.lstore 8, 2) := by decide +kernel
theorem dX0_foretellSteps_64 : decode cX0_foretellSteps 64 = .ok (.lload 6, 2) := by decide +kernel
theorem dX0_foretellSteps_66 : decode cX0_foretellSteps 66 = .ok (.lconst 0, 1) := by decide +kernel
theorem dX0_foretellSteps_67 : decode cX0_foretellSteps 67 = .ok (.lcmp, 1) := by decide +kernel
theorem dX0_foretellSteps_68 : decode cX0_foretellSteps 68 = .ok (.ifCond .le 10, 3) := by decide +kernel
theorem dX0_foretellSteps_71 : decode cX0_foretellSteps 71 = .ok (.lload 8, 2) := by decide +kernel
theorem dX0_foretellSteps_73 : decode cX0_foretellSteps 73 = .ok (.lconst 0, 1) := by decide +kernel
theorem dX0_foretellSteps_74 : decode cX0_foretellSteps 74 = .ok (.lcmp, 1) := by decide +kernel
theorem dX0_foretellSteps_75 : decode cX0_foretellSteps 75 = .ok (.ifCond .gt 4, 3) := by decide +kernel
theorem dX0_foretellSteps_78 : decode cX0_foretellSteps 78 = .ok (.return_, 1) := by decide +kernel
theorem dX0_foretellSteps_79 : decode cX0_foretellSteps 79 = .ok (.lload_n 1, 1) := by decide +kernel
theorem dX0_foretellSteps_80 : decode cX0_foretellSteps 80 = .ok (.aload_n 0, 1) := by decide +kernel
theorem dX0_foretellSteps_81 : decode cX0_foretellSteps 81 = .ok (.getfield 61, 3) := by decide +kernel
theorem dX0_foretellSteps_84 : decode cX0_foretellSteps 84 = .ok (.ladd, 1) := by decide +kernel
theorem dX0_foretellSteps_85 : decode cX0_foretellSteps 85 = .ok (.lload 6, 2) := by decide +kernel
theorem dX0_foretellSteps_87 : decode cX0_foretellSteps 87 = .ok (.ldiv, 1) := by decide +kernel
theorem dX0_foretellSteps_88 : decode cX0_foretellSteps 88 = .ok (.lstore 10, 2) := by decide +kernel
theorem dX0_foretellSteps_90 : decode cX0_foretellSteps 90 = .ok (.lload 10, 2) := by decide +kernel
theorem dX0_foretellSteps_92 : decode cX0_foretellSteps 92 = .ok (.lload_n 1, 1) := by decide +kernel
theorem dX0_foretellSteps_93 : decode cX0_foretellSteps 93 = .ok (.aload_n 0, 1) := by decide +kernel
theorem dX0_foretellSteps_94 : decode cX0_foretellSteps 94 = .ok (.getfield 46, 3) := by decide +kernel
theorem dX0_foretellSteps_97 : decode cX0_foretellSteps 97 = .ok (.ladd, 1) := by decide +kernel
theorem dX0_foretellSteps_98 : decode cX0_foretellSteps 98 = .ok (.lload 8, 2) := by decide +kernel
theorem dX0_foretellSteps_100 : decode cX0_foretellSteps 100 = .ok (.ldiv, 1) := by decide +kernel
theorem dX0_foretellSteps_101 : decode cX0_foretellSteps 101 = .ok (.lcmp, 1) := by decide +kernel
theorem dX0_foretellSteps_102 : decode cX0_foretellSteps 102 = .ok (.ifCond .eq 4, 3) := by decide +kernel
theorem dX0_foretellSteps_105 : decode cX0_foretellSteps 105 = .ok (.return_, 1) := by decide +kernel
theorem dX0_foretellSteps_106 : decode cX0_foretellSteps 106 = .ok (.lload_n 1, 1) := by decide +kernel
theorem dX0_foretellSteps_107 : decode cX0_foretellSteps 107 = .ok (.lload 10, 2) := by decide +kernel
theorem dX0_foretellSteps_109 : decode cX0_foretellSteps 109 = .ok (.lload_n 3, 1) := by decide +kernel
theorem dX0_foretellSteps_110 : decode cX0_foretellSteps 110 = .ok (.lmul, 1) := by decide +kernel
theorem dX0_foretellSteps_111 : decode cX0_foretellSteps 111 = .ok (.lsub, 1) := by decide +kernel
theorem dX0_foretellSteps_112 : decode cX0_foretellSteps 112 = .ok (.lstore 12, 2) := by decide +kernel
theorem dX0_foretellSteps_114 : decode cX0_foretellSteps 114 = .ok (.lload_n 3, 1) := by decide +kernel
theorem dX0_foretellSteps_115 : decode cX0_foretellSteps 115 = .ok (.lstore_n 1, 1) := by decide +kernel
theorem dX0_foretellSteps_116 : decode cX0_foretellSteps 116 = .ok (.lload 12, 2) := by decide +kernel
theorem dX0_foretellSteps_118 : decode cX0_foretellSteps 118 = .ok (.lstore_n 3, 1) := by decide +kernel
theorem dX0_foretellSteps_119 : decode cX0_foretellSteps 119 = .ok (.aload_n 0, 1) := by decide +kernel
theorem dX0_foretellSteps_120 : decode cX0_foretellSteps 120 = .ok (.getfield 61, 3) := by decide +kernel
theorem dX0_foretellSteps_123 : decode cX0_foretellSteps 123 = .ok (.lload 10, 2) := by decide +kernel
theorem dX0_foretellSteps_125 : decode cX0_foretellSteps 125 = .ok (.aload_n 0, 1) := by decide +kernel
theorem dX0_foretellSteps_126 : decode cX0_foretellSteps 126 = .ok (.getfield 64, 3) := by decide +kernel
theorem dX0_foretellSteps_129 : decode cX0_foretellSteps 129 = .ok (.lmul, 1) := by decide +kernel
theorem dX0_foretellSteps_130 : decode cX0_foretellSteps 130 = .ok (.lsub, 1) := by decide +kernel
theorem dX0_foretellSteps_131 : decode cX0_foretellSteps 131 = .ok (.lstore 12, 2) := by decide +kernel
theorem dX0_foretellSteps_133 : decode cX0_foretellSteps 133 = .ok (.aload_n 0, 1) := by decide +kernel
theorem dX0_foretellSteps_134 : decode cX0_foretellSteps 134 = .ok (.aload_n 0, 1) := by decide +kernel
theorem dX0_foretellSteps_135 : decode cX0_foretellSteps 135 = .ok (.getfield 64, 3) := by decide +kernel
theorem dX0_foretellSteps_138 : decode cX0_foretellSteps 138 = .ok (.putfield 61, 3) := by decide +kernel
theorem dX0_foretellSteps_141 : decode cX0_foretellSteps 141 = .ok (.aload_n 0, 1) := by decide +kernel
theorem dX0_foretellSteps_142 : decode cX0_foretellSteps 142 = .ok (.lload 12, 2) := by decide +kernel
theorem dX0_foretellSteps_144 : decode cX0_foretellSteps 144 = .ok (.putfield 64, 3) := by decide +kernel
theorem dX0_foretellSteps_147 : decode cX0_foretellSteps 147 = .ok (.aload_n 0, 1) := by decide +kernel
theorem dX0_foretellSteps_148 : decode cX0_foretellSteps 148 = .ok (.getfield 46, 3) := by decide +kernel
theorem dX0_foretellSteps_151 : decode cX0_foretellSteps 151 = .ok (.lload 10, 2) := by decide +kernel
theorem dX0_foretellSteps_153 : decode cX0_foretellSteps 153 = .ok (.aload_n 0, 1) := by decide +kernel
theorem dX0_foretellSteps_154 : decode cX0_foretellSteps 154 = .ok (.getfield 67, 3) := by decide +kernel
theorem dX0_foretellSteps_157 : decode cX0_foretellSteps 157 = .ok (.lmul, 1) := by decide +kernel
theorem dX0_foretellSteps_158 : decode cX0_foretellSteps 158 = .ok (.lsub, 1) := by decide +kernel
theorem dX0_foretellSteps_159 : decode cX0_foretellSteps 159 = .ok (.lstore 12, 2) := by decide +kernel
theorem dX0_foretellSteps_161 : decode cX0_foretellSteps 161 = .ok (.aload_n 0, 1) := by decide +kernel
theorem dX0_foretellSteps_162 : decode cX0_foretellSteps 162 = .ok (.aload_n 0, 1) := by decide +kernel
theorem dX0_foretellSteps_163 : decode cX0_foretellSteps 163 = .ok (.getfield 67, 3) := by decide +kernel
theorem dX0_foretellSteps_166 : decode cX0_foretellSteps 166 = .ok (.putfield 46, 3) := by decide +kernel
theorem dX0_foretellSteps_169 : decode cX0_foretellSteps 169 = .ok (.aload_n 0, 1) := by decide +kernel
theorem dX0_foretellSteps_170 : decode cX0_foretellSteps 170 = .ok (.lload 12, 2) := by decide +kernel
theorem dX0_foretellSteps_172 : decode cX0_foretellSteps 172 = .ok (.putfield 67, 3) := by decide +kernel
theorem dX0_foretellSteps_175 : decode cX0_foretellSteps 175 = .ok (.iinc 5 1, 3) := by decide +kernel
theorem dX0_foretellSteps_178 : decode cX0_foretellSteps 178 = .ok (.goto (-137), 3) := by decide +kernel
theorem dX0_foretellSteps_181 : decode cX0_foretellSteps 181 = .ok (.return_, 1) := by decide +kernel
theorem dX0_leadOfThree_0 : decode cX0_leadOfThree 0 = .ok (.aload_n 0, 1) := by decide +kernel
theorem dX0_leadOfThree_1 : decode cX0_leadOfThree 1 = .ok (.getfield 18, 3) := by decide +kernel
theorem dX0_leadOfThree_4 : decode cX0_leadOfThree 4 = .ok (.getfield 70, 3) := by decide +kernel
theorem dX0_leadOfThree_7 : decode cX0_leadOfThree 7 = .ok (.iconst 1, 1) := by decide +kernel
theorem dX0_leadOfThree_8 : decode cX0_leadOfThree 8 = .ok (.isub, 1) := by decide +kernel
theorem dX0_leadOfThree_9 : decode cX0_leadOfThree 9 = .ok (.istore_n 2, 1) := by decide +kernel
theorem dX0_leadOfThree_10 : decode cX0_leadOfThree 10 = .ok (.aload_n 1, 1) := by decide +kernel
theorem dX0_leadOfThree_11 : decode cX0_leadOfThree 11 = .ok (.iload_n 2, 1) := by decide +kernel
theorem dX0_leadOfThree_12 : decode cX0_leadOfThree 12 = .ok (.invokevirtual 74, 3) := by decide +kernel
theorem dX0_leadOfThree_15 : decode cX0_leadOfThree 15 = .ok (.i2l, 1) := by decide +kernel
theorem dX0_leadOfThree_16 : decode cX0_leadOfThree 16 = .ok (.ldc2_w 78, 3) := by decide +kernel
theorem dX0_leadOfThree_19 : decode cX0_leadOfThree 19 = .ok (.lmul, 1) := by decide +kernel
theorem dX0_leadOfThree_20 : decode cX0_leadOfThree 20 = .ok (.aload_n 1, 1) := by decide +kernel
theorem dX0_leadOfThree_21 : decode cX0_leadOfThree 21 = .ok (.iload_n 2, 1) := by decide +kernel
theorem dX0_leadOfThree_22 : decode cX0_leadOfThree 22 = .ok (.iconst 1, 1) := by decide +kernel
theorem dX0_leadOfThree_23 : decode cX0_leadOfThree 23 = .ok (.isub, 1) := by decide +kernel
theorem dX0_leadOfThree_24 : decode cX0_leadOfThree 24 = .ok (.invokevirtual 74, 3) := by decide +kernel
theorem dX0_leadOfThree_27 : decode cX0_leadOfThree 27 = .ok (.i2l, 1) := by decide +kernel
theorem dX0_leadOfThree_28 : decode cX0_leadOfThree 28 = .ok (.ladd, 1) := by decide +kernel
theorem dX0_leadOfThree_29 : decode cX0_leadOfThree 29 = .ok (.lstore_n 3, 1) := by decide +kernel
theorem dX0_leadOfThree_30 : decode cX0_leadOfThree 30 = .ok (.lload_n 3, 1) := by decide +kernel
theorem dX0_leadOfThree_31 : decode cX0_leadOfThree 31 = .ok (.ldc2_w 78, 3) := by decide +kernel
theorem dX0_leadOfThree_34 : decode cX0_leadOfThree 34 = .ok (.lmul, 1) := by decide +kernel
theorem dX0_leadOfThree_35 : decode cX0_leadOfThree 35 = .ok (.aload_n 1, 1) := by decide +kernel
theorem dX0_leadOfThree_36 : decode cX0_leadOfThree 36 = .ok (.iload_n 2, 1) := by decide +kernel
theorem dX0_leadOfThree_37 : decode cX0_leadOfThree 37 = .ok (.iconst 2, 1) := by decide +kernel
theorem dX0_leadOfThree_38 : decode cX0_leadOfThree 38 = .ok (.isub, 1) := by decide +kernel
theorem dX0_leadOfThree_39 : decode cX0_leadOfThree 39 = .ok (.invokevirtual 74, 3) := by decide +kernel
theorem dX0_leadOfThree_42 : decode cX0_leadOfThree 42 = .ok (.i2l, 1) := by decide +kernel
theorem dX0_leadOfThree_43 : decode cX0_leadOfThree 43 = .ok (.ladd, 1) := by decide +kernel
theorem dX0_leadOfThree_44 : decode cX0_leadOfThree 44 = .ok (.lreturn, 1) := by decide +kernel
theorem dX0_takeForetoldSteps_0 : decode cX0_takeForetoldSteps 0 = .ok (.aload_n 0, 1) := by decide +kernel
theorem dX0_takeForetoldSteps_1 : decode cX0_takeForetoldSteps 1 = .ok (.getfield 18, 3) := by decide +kernel
theorem dX0_takeForetoldSteps_4 : decode cX0_takeForetoldSteps 4 = .ok (.getfield 70, 3) := by decide +kernel
theorem dX0_takeForetoldSteps_7 : decode cX0_takeForetoldSteps 7 = .ok (.istore_n 1, 1) := by decide +kernel
theorem dX0_takeForetoldSteps_8 : decode cX0_takeForetoldSteps 8 = .ok (.aload_n 0, 1) := by decide +kernel
theorem dX0_takeForetoldSteps_9 : decode cX0_takeForetoldSteps 9 = .ok (.getfield 18, 3) := by decide +kernel
theorem dX0_takeForetoldSteps_12 : decode cX0_takeForetoldSteps 12 = .ok (.getfield 80, 3) := by decide +kernel
theorem dX0_takeForetoldSteps_15 : decode cX0_takeForetoldSteps 15 = .ok (.astore_n 2, 1) := by decide +kernel
theorem dX0_takeForetoldSteps_16 : decode cX0_takeForetoldSteps 16 = .ok (.aload_n 0, 1) := by decide +kernel
theorem dX0_takeForetoldSteps_17 : decode cX0_takeForetoldSteps 17 = .ok (.getfield 21, 3) := by decide +kernel
theorem dX0_takeForetoldSteps_20 : decode cX0_takeForetoldSteps 20 = .ok (.getfield 80, 3) := by decide +kernel
theorem dX0_takeForetoldSteps_23 : decode cX0_takeForetoldSteps 23 = .ok (.astore_n 3, 1) := by decide +kernel
theorem dX0_takeForetoldSteps_24 : decode cX0_takeForetoldSteps 24 = .ok (.lconst 0, 1) := by decide +kernel
theorem dX0_takeForetoldSteps_25 : decode cX0_takeForetoldSteps 25 = .ok (.lstore 4, 2) := by decide +kernel
theorem dX0_takeForetoldSteps_27 : decode cX0_takeForetoldSteps 27 = .ok (.lconst 0, 1) := by decide +kernel
theorem dX0_takeForetoldSteps_28 : decode cX0_takeForetoldSteps 28 = .ok (.lstore 6, 2) := by decide +kernel
theorem dX0_takeForetoldSteps_30 : decode cX0_takeForetoldSteps 30 = .ok (.aload_n 0, 1) := by decide +kernel
theorem dX0_takeForetoldSteps_31 : decode cX0_takeForetoldSteps 31 = .ok (.getfield 21, 3) := by decide +kernel
theorem dX0_takeForetoldSteps_34 : decode cX0_takeForetoldSteps 34 = .ok (.aload_n 0, 1) := by decide +kernel
theorem dX0_takeForetoldSteps_35 : decode cX0_takeForetoldSteps 35 = .ok (.getfield 21, 3) := by decide +kernel
theorem dX0_takeForetoldSteps_38 : decode cX0_takeForetoldSteps 38 = .ok (.getfield 70, 3) := by decide +kernel
theorem dX0_takeForetoldSteps_41 : decode cX0_takeForetoldSteps 41 = .ok (.iload_n 1, 1) := by decide +kernel
theorem dX0_takeForetoldSteps_42 : decode cX0_takeForetoldSteps 42 = .ok (.invokevirtual 84, 3) := by decide +kernel
theorem dX0_takeForetoldSteps_45 : decode cX0_takeForetoldSteps 45 = .ok (.iconst 0, 1) := by decide +kernel
theorem dX0_takeForetoldSteps_46 : decode cX0_takeForetoldSteps 46 = .ok (.istore 8, 2) := by decide +kernel
theorem dX0_takeForetoldSteps_48 : decode cX0_takeForetoldSteps 48 = .ok (.iload 8, 2) := by decide +kernel
theorem dX0_takeForetoldSteps_50 : decode cX0_takeForetoldSteps 50 = .ok (.iload_n 1, 1) := by decide +kernel
theorem dX0_takeForetoldSteps_51 : decode cX0_takeForetoldSteps 51 = .ok (.if_icmp .ge 117, 3) := by decide +kernel
theorem dX0_takeForetoldSteps_54 : decode cX0_takeForetoldSteps 54 = .ok (.aload_n 2, 1) := by decide +kernel
theorem dX0_takeForetoldSteps_55 : decode cX0_takeForetoldSteps 55 = .ok (.iload 8, 2) := by decide +kernel
theorem dX0_takeForetoldSteps_57 : decode cX0_takeForetoldSteps 57 = .ok (.iaload, 1) := by decide +kernel
theorem dX0_takeForetoldSteps_58 : decode cX0_takeForetoldSteps 58 = .ok (.i2l, 1) := by decide +kernel
theorem dX0_takeForetoldSteps_59 : decode cX0_takeForetoldSteps 59 = .ok (.lstore 9, 2) := by decide +kernel
theorem dX0_takeForetoldSteps_61 : decode cX0_takeForetoldSteps 61 = .ok (.aload_n 3, 1) := by decide +kernel
theorem dX0_takeForetoldSteps_62 : decode cX0_takeForetoldSteps 62 = .ok (.iload 8, 2) := by decide +kernel
theorem dX0_takeForetoldSteps_64 : decode cX0_takeForetoldSteps 64 = .ok (.iaload, 1) := by decide +kernel
theorem dX0_takeForetoldSteps_65 : decode cX0_takeForetoldSteps 65 = .ok (.i2l, 1) := by decide +kernel
theorem dX0_takeForetoldSteps_66 : decode cX0_takeForetoldSteps 66 = .ok (.lstore 11, 2) := by decide +kernel
theorem dX0_takeForetoldSteps_68 : decode cX0_takeForetoldSteps 68 = .ok (.aload_n 0, 1) := by decide +kernel
theorem dX0_takeForetoldSteps_69 : decode cX0_takeForetoldSteps 69 = .ok (.getfield 61, 3) := by decide +kernel
theorem dX0_takeForetoldSteps_72 : decode cX0_takeForetoldSteps 72 = .ok (.lload 9, 2) := by decide +kernel
theorem dX0_takeForetoldSteps_74 : decode cX0_takeForetoldSteps 74 = .ok (.lmul, 1) := by decide +kernel
theorem dX0_takeForetoldSteps_75 : decode cX0_takeForetoldSteps 75 = .ok (.aload_n 0, 1) := by decide +kernel
theorem dX0_takeForetoldSteps_76 : decode cX0_takeForetoldSteps 76 = .ok (.getfield 46, 3) := by decide +kernel
theorem dX0_takeForetoldSteps_79 : decode cX0_takeForetoldSteps 79 = .ok (.lload 11, 2) := by decide +kernel
theorem dX0_takeForetoldSteps_81 : decode cX0_takeForetoldSteps 81 = .ok (.lmul, 1) := by decide +kernel
theorem dX0_takeForetoldSteps_82 : decode cX0_takeForetoldSteps 82 = .ok (.ladd, 1) := by decide +kernel
theorem dX0_takeForetoldSteps_83 : decode cX0_takeForetoldSteps 83 = .ok (.lload 4, 2) := by decide +kernel
theorem dX0_takeForetoldSteps_85 : decode cX0_takeForetoldSteps 85 = .ok (.ladd, 1) := by decide +kernel
theorem dX0_takeForetoldSteps_86 : decode cX0_takeForetoldSteps 86 = .ok (.ldc2_w 88, 3) := by decide +kernel
theorem dX0_takeForetoldSteps_89 : decode cX0_takeForetoldSteps 89 = .ok (.ladd, 1) := by decide +kernel
theorem dX0_takeForetoldSteps_90 : decode cX0_takeForetoldSteps 90 = .ok (.lstore 13, 2) := by decide +kernel
theorem dX0_takeForetoldSteps_92 : decode cX0_takeForetoldSteps 92 = .ok (.aload_n 0, 1) := by decide +kernel
theorem dX0_takeForetoldSteps_93 : decode cX0_takeForetoldSteps 93 = .ok (.getfield 64, 3) := by decide +kernel
theorem dX0_takeForetoldSteps_96 : decode cX0_takeForetoldSteps 96 = .ok (.lload 9, 2) := by decide +kernel
theorem dX0_takeForetoldSteps_98 : decode cX0_takeForetoldSteps 98 = .ok (.lmul, 1) := by decide +kernel
theorem dX0_takeForetoldSteps_99 : decode cX0_takeForetoldSteps 99 = .ok (.aload_n 0, 1) := by decide +kernel
theorem dX0_takeForetoldSteps_100 : decode cX0_takeForetoldSteps 100 = .ok (.getfield 67, 3) := by decide +kernel
theorem dX0_takeForetoldSteps_103 : decode cX0_takeForetoldSteps 103 = .ok (.lload 11, 2) := by decide +kernel
theorem dX0_takeForetoldSteps_105 : decode cX0_takeForetoldSteps 105 = .ok (.lmul, 1) := by decide +kernel
theorem dX0_takeForetoldSteps_106 : decode cX0_takeForetoldSteps 106 = .ok (.ladd, 1) := by decide +kernel
theorem dX0_takeForetoldSteps_107 : decode cX0_takeForetoldSteps 107 = .ok (.lload 6, 2) := by decide +kernel
theorem dX0_takeForetoldSteps_109 : decode cX0_takeForetoldSteps 109 = .ok (.ladd, 1) := by decide +kernel
theorem dX0_takeForetoldSteps_110 : decode cX0_takeForetoldSteps 110 = .ok (.ldc2_w 88, 3) := by decide +kernel
theorem dX0_takeForetoldSteps_113 : decode cX0_takeForetoldSteps 113 = .ok (.ladd, 1) := by decide +kernel
theorem dX0_takeForetoldSteps_114 : decode cX0_takeForetoldSteps 114 = .ok (.lstore 15, 2) := by decide +kernel
theorem dX0_takeForetoldSteps_116 : decode cX0_takeForetoldSteps 116 = .ok (.lload 13, 2) := by decide +kernel
theorem dX0_takeForetoldSteps_118 : decode cX0_takeForetoldSteps 118 = .ok (.ldc2_w 78, 3) := by decide +kernel
theorem dX0_takeForetoldSteps_121 : decode cX0_takeForetoldSteps 121 = .ok (.ldiv, 1) := by decide +kernel
theorem dX0_takeForetoldSteps_122 : decode cX0_takeForetoldSteps 122 = .ok (.ldc2_w 90, 3) := by decide +kernel
theorem dX0_takeForetoldSteps_125 : decode cX0_takeForetoldSteps 125 = .ok (.lsub, 1) := by decide +kernel
theorem dX0_takeForetoldSteps_126 : decode cX0_takeForetoldSteps 126 = .ok (.lstore 4, 2) := by decide +kernel
theorem dX0_takeForetoldSteps_128 : decode cX0_takeForetoldSteps 128 = .ok (.lload 15, 2) := by decide +kernel
theorem dX0_takeForetoldSteps_130 : decode cX0_takeForetoldSteps 130 = .ok (.ldc2_w 78, 3) := by decide +kernel
theorem dX0_takeForetoldSteps_133 : decode cX0_takeForetoldSteps 133 = .ok (.ldiv, 1) := by decide +kernel
theorem dX0_takeForetoldSteps_134 : decode cX0_takeForetoldSteps 134 = .ok (.ldc2_w 90, 3) := by decide +kernel
theorem dX0_takeForetoldSteps_137 : decode cX0_takeForetoldSteps 137 = .ok (.lsub, 1) := by decide +kernel
theorem dX0_takeForetoldSteps_138 : decode cX0_takeForetoldSteps 138 = .ok (.lstore 6, 2) := by decide +kernel
theorem dX0_takeForetoldSteps_140 : decode cX0_takeForetoldSteps 140 = .ok (.aload_n 2, 1) := by decide +kernel
theorem dX0_takeForetoldSteps_141 : decode cX0_takeForetoldSteps 141 = .ok (.iload 8, 2) := by decide +kernel
theorem dX0_takeForetoldSteps_143 : decode cX0_takeForetoldSteps 143 = .ok (.lload 13, 2) := by decide +kernel
theorem dX0_takeForetoldSteps_145 : decode cX0_takeForetoldSteps 145 = .ok (.ldc2_w 78, 3) := by decide +kernel
theorem dX0_takeForetoldSteps_148 : decode cX0_takeForetoldSteps 148 = .ok (.lrem, 1) := by decide +kernel
theorem dX0_takeForetoldSteps_149 : decode cX0_takeForetoldSteps 149 = .ok (.l2i, 1) := by decide +kernel
theorem dX0_takeForetoldSteps_150 : decode cX0_takeForetoldSteps 150 = .ok (.iastore, 1) := by decide +kernel
theorem dX0_takeForetoldSteps_151 : decode cX0_takeForetoldSteps 151 = .ok (.aload_n 3, 1) := by decide +kernel
theorem dX0_takeForetoldSteps_152 : decode cX0_takeForetoldSteps 152 = .ok (.iload 8, 2) := by decide +kernel
theorem dX0_takeForetoldSteps_154 : decode cX0_takeForetoldSteps 154 = .ok (.lload 15, 2) := by decide +kernel
theorem dX0_takeForetoldSteps_156 : decode cX0_takeForetoldSteps 156 = .ok (.ldc2_w 78, 3) := by decide +kernel
theorem dX0_takeForetoldSteps_159 : decode cX0_takeForetoldSteps 159 = .ok (.lrem, 1) := by decide +kernel
theorem dX0_takeForetoldSteps_160 : decode cX0_takeForetoldSteps 160 = .ok (.l2i, 1) := by decide +kernel
theorem dX0_takeForetoldSteps_161 : decode cX0_takeForetoldSteps 161 = .ok (.iastore, 1) := by decide +kernel
theorem dX0_takeForetoldSteps_162 : decode cX0_takeForetoldSteps 162 = .ok (.iinc 8 1, 3) := by decide +kernel
theorem dX0_takeForetoldSteps_165 : decode cX0_takeForetoldSteps 165 = .ok (.goto (-117), 3) := by decide +kernel
theorem dX0_takeForetoldSteps_168 : decode cX0_takeForetoldSteps 168 = .ok (.aload_n 0, 1) := by decide +kernel
theorem dX0_takeForetoldSteps_169 : decode cX0_takeForetoldSteps 169 = .ok (.getfield 18, 3) := by decide +kernel
theorem dX0_takeForetoldSteps_172 : decode cX0_takeForetoldSteps 172 = .ok (.iload_n 1, 1) := by decide +kernel
theorem dX0_takeForetoldSteps_173 : decode cX0_takeForetoldSteps 173 = .ok (.invokevirtual 92, 3) := by decide +kernel
theorem dX0_takeForetoldSteps_176 : decode cX0_takeForetoldSteps 176 = .ok (.aload_n 0, 1) := by decide +kernel
theorem dX0_takeForetoldSteps_177 : decode cX0_takeForetoldSteps 177 = .ok (.getfield 21, 3) := by decide +kernel
theorem dX0_takeForetoldSteps_180 : decode cX0_takeForetoldSteps 180 = .ok (.iload_n 1, 1) := by decide +kernel
theorem dX0_takeForetoldSteps_181 : decode cX0_takeForetoldSteps 181 = .ok (.invokevirtual 92, 3) := by decide +kernel
theorem dX0_takeForetoldSteps_184 : decode cX0_takeForetoldSteps 184 = .ok (.return_, 1) := by decide +kernel
theorem dX2_init_0 : decode cX2_init 0 = .ok (.aload_n 0, 1) := by decide +kernel
theorem dX2_init_1 : decode cX2_init 1 = .ok (.invokespecial 1, 3) := by decide +kernel
theorem dX2_init_4 : decode cX2_init 4 = .ok (.aload_n 0, 1) := by decide +kernel
theorem dX2_init_5 : decode cX2_init 5 = .ok (.bipush 16, 2) := by decide +kernel
theorem dX2_init_7 : decode cX2_init 7 = .ok (.anewarray 9, 3) := by decide +kernel
theorem dX2_init_10 : decode cX2_init 10 = .ok (.putfield 11, 3) := by decide +kernel
theorem dX2_init_13 : decode cX2_init 13 = .ok (.iconst 0, 1) := by decide +kernel
theorem dX2_init_14 : decode cX2_init 14 = .ok (.istore_n 1, 1) := by decide +kernel
theorem dX2_init_15 : decode cX2_init 15 = .ok (.iload_n 1, 1) := by decide +kernel
theorem dX2_init_16 : decode cX2_init 16 = .ok (.bipush 16, 2) := by decide +kernel
theorem dX2_init_18 : decode cX2_init 18 = .ok (.if_icmp .ge 22, 3) := by decide +kernel
theorem dX2_init_21 : decode cX2_init 21 = .ok (.aload_n 0, 1) := by decide +kernel
theorem dX2_init_22 : decode cX2_init 22 = .ok (.getfield 11, 3) := by decide +kernel
theorem dX2_init_25 : decode cX2_init 25 = .ok (.iload_n 1, 1) := by decide +kernel
theorem dX2_init_26 : decode cX2_init 26 = .ok (.new 9, 3) := by decide +kernel
theorem dX2_init_29 : decode cX2_init 29 = .ok (.dup, 1) := by decide +kernel
theorem dX2_init_30 : decode cX2_init 30 = .ok (.invokespecial 15, 3) := by decide +kernel
theorem dX2_init_33 : decode cX2_init 33 = .ok (.aastore, 1) := by decide +kernel
theorem dX2_init_34 : decode cX2_init 34 = .ok (.iinc 1 1, 3) := by decide +kernel
theorem dX2_init_37 : decode cX2_init 37 = .ok (.goto (-22), 3) := by decide +kernel
theorem dX2_init_40 : decode cX2_init 40 = .ok (.aload_n 0, 1) := by decide +kernel
theorem dX2_init_41 : decode cX2_init 41 = .ok (.new 9, 3) := by decide +kernel
theorem dX2_init_44 : decode cX2_init 44 = .ok (.dup, 1) := by decide +kernel
theorem dX2_init_45 : decode cX2_init 45 = .ok (.invokespecial 15, 3) := by decide +kernel
theorem dX2_init_48 : decode cX2_init 48 = .ok (.putfield 16, 3) := by decide +kernel
theorem dX2_init_51 : decode cX2_init 51 = .ok (.aload_n 0, 1) := by decide +kernel
theorem dX2_init_52 : decode cX2_init 52 = .ok (.new 9, 3) := by decide +kernel
theorem dX2_init_55 : decode cX2_init 55 = .ok (.dup, 1) := by decide +kernel
theorem dX2_init_56 : decode cX2_init 56 = .ok (.invokespecial 15, 3) := by decide +kernel
theorem dX2_init_59 : decode cX2_init 59 = .ok (.putfield 20, 3) := by decide +kernel
theorem dX2_init_62 : decode cX2_init 62 = .ok (.aload_n 0, 1) := by decide +kernel
theorem dX2_init_63 : decode cX2_init 63 = .ok (.new 9, 3) := by decide +kernel
theorem dX2_init_66 : decode cX2_init 66 = .ok (.dup, 1) := by decide +kernel
theorem dX2_init_67 : decode cX2_init 67 = .ok (.invokespecial 15, 3) := by decide +kernel
theorem dX2_init_70 : decode cX2_init 70 = .ok (.putfield 23, 3) := by decide +kernel
theorem dX2_init_73 : decode cX2_init 73 = .ok (.aload_n 0, 1) := by decide +kernel
theorem dX2_init_74 : decode cX2_init 74 = .ok (.new 9, 3) := by decide +kernel
theorem dX2_init_77 : decode cX2_init 77 = .ok (.dup, 1) := by decide +kernel
theorem dX2_init_78 : decode cX2_init 78 = .ok (.invokespecial 15, 3) := by decide +kernel
theorem dX2_init_81 : decode cX2_init 81 = .ok (.putfield 26, 3) := by decide +kernel
theorem dX2_init_84 : decode cX2_init 84 = .ok (.aload_n 0, 1) := by decide +kernel
theorem dX2_init_85 : decode cX2_init 85 = .ok (.new 9, 3) := by decide +kernel
theorem dX2_init_88 : decode cX2_init 88 = .ok (.dup, 1) := by decide +kernel
theorem dX2_init_89 : decode cX2_init 89 = .ok (.invokespecial 15, 3) := by decide +kernel
theorem dX2_init_92 : decode cX2_init 92 = .ok (.putfield 29, 3) := by decide +kernel
theorem dX2_init_95 : decode cX2_init 95 = .ok (.aload_n 0, 1) := by decide +kernel
theorem dX2_init_96 : decode cX2_init 96 = .ok (.new 32, 3) := by decide +kernel
theorem dX2_init_99 : decode cX2_init 99 = .ok (.dup, 1) := by decide +kernel
theorem dX2_init_100 : decode cX2_init 100 = .ok (.invokespecial 34, 3) := by decide +kernel
theorem dX2_init_103 : decode cX2_init 103 = .ok (.putfield 35, 3) := by decide +kernel
theorem dX2_init_106 : decode cX2_init 106 = .ok (.return_, 1) := by decide +kernel
theorem dX2_set_0 : decode cX2_set 0 = .ok (.iload_n 1, 1) := by decide +kernel
theorem dX2_set_1 : decode cX2_set 1 = .ok (.invokestatic 39, 3) := by decide +kernel
theorem dX2_set_4 : decode cX2_set 4 = .ok (.ifCond .ne 5, 3) := by decide +kernel
theorem dX2_set_7 : decode cX2_set 7 = .ok (.iconst (-1), 1) := by decide +kernel
theorem dX2_set_8 : decode cX2_set 8 = .ok (.ireturn, 1) := by decide +kernel
theorem dX2_set_9 : decode cX2_set 9 = .ok (.aload_n 0, 1) := by decide +kernel
theorem dX2_set_10 : decode cX2_set 10 = .ok (.getfield 11, 3) := by decide +kernel
theorem dX2_set_13 : decode cX2_set 13 = .ok (.iload_n 1, 1) := by decide +kernel
theorem dX2_set_14 : decode cX2_set 14 = .ok (.aaload, 1) := by decide +kernel
theorem dX2_set_15 : decode cX2_set 15 = .ok (.lload_n 2, 1) := by decide +kernel
theorem dX2_set_16 : decode cX2_set 16 = .ok (.invokevirtual 43, 3) := by decide +kernel
theorem dX2_set_19 : decode cX2_set 19 = .ok (.iconst 1, 1) := by decide +kernel
theorem dX2_set_20 : decode cX2_set 20 = .ok (.ireturn, 1) := by decide +kernel
theorem dX2_digit_0 : decode cX2_digit 0 = .ok (.iload_n 1, 1) := by decide +kernel
theorem dX2_digit_1 : decode cX2_digit 1 = .ok (.invokestatic 39, 3) := by decide +kernel
theorem dX2_digit_4 : decode cX2_digit 4 = .ok (.ifCond .eq 13, 3) := by decide +kernel
theorem dX2_digit_7 : decode cX2_digit 7 = .ok (.iload_n 2, 1) := by decide +kernel
theorem dX2_digit_8 : decode cX2_digit 8 = .ok (.ifCond .lt 9, 3) := by decide +kernel
theorem dX2_digit_11 : decode cX2_digit 11 = .ok (.iload_n 2, 1) := by decide +kernel
theorem dX2_digit_12 : decode cX2_digit 12 = .ok (.bipush 9, 2) := by decide +kernel
theorem dX2_digit_14 : decode cX2_digit 14 = .ok (.if_icmp .le 5, 3) := by decide +kernel
theorem dX2_digit_17 : decode cX2_digit 17 = .ok (.iconst (-1), 1) := by decide +kernel
theorem dX2_digit_18 : decode cX2_digit 18 = .ok (.ireturn, 1) := by decide +kernel
theorem dX2_digit_19 : decode cX2_digit 19 = .ok (.aload_n 0, 1) := by decide +kernel
theorem dX2_digit_20 : decode cX2_digit 20 = .ok (.getfield 26, 3) := by decide +kernel
theorem dX2_digit_23 : decode cX2_digit 23 = .ok (.ldc2_w 47, 3) := by decide +kernel
theorem dX2_digit_26 : decode cX2_digit 26 = .ok (.invokevirtual 43, 3) := by decide +kernel
theorem dX2_digit_29 : decode cX2_digit 29 = .ok (.aload_n 0, 1) := by decide +kernel
theorem dX2_digit_30 : decode cX2_digit 30 = .ok (.getfield 23, 3) := by decide +kernel
theorem dX2_digit_33 : decode cX2_digit 33 = .ok (.aload_n 0, 1) := by decide +kernel
theorem dX2_digit_34 : decode cX2_digit 34 = .ok (.getfield 11, 3) := by decide +kernel
theorem dX2_digit_37 : decode cX2_digit 37 = .ok (.iload_n 1, 1) := by decide +kernel
theorem dX2_digit_38 : decode cX2_digit 38 = .ok (.aaload, 1) := by decide +kernel
theorem dX2_digit_39 : decode cX2_digit 39 = .ok (.aload_n 0, 1) := by decide +kernel
theorem dX2_digit_40 : decode cX2_digit 40 = .ok (.getfield 26, 3) := by decide +kernel
theorem dX2_digit_43 : decode cX2_digit 43 = .ok (.invokevirtual 49, 3) := by decide +kernel
theorem dX2_digit_46 : decode cX2_digit 46 = .ok (.aload_n 0, 1) := by decide +kernel
theorem dX2_digit_47 : decode cX2_digit 47 = .ok (.getfield 26, 3) := by decide +kernel
theorem dX2_digit_50 : decode cX2_digit 50 = .ok (.iload_n 2, 1) := by decide +kernel
theorem dX2_digit_51 : decode cX2_digit 51 = .ok (.i2l, 1) := by decide +kernel
theorem dX2_digit_52 : decode cX2_digit 52 = .ok (.invokevirtual 43, 3) := by decide +kernel
theorem dX2_digit_55 : decode cX2_digit 55 = .ok (.aload_n 0, 1) := by decide +kernel
theorem dX2_digit_56 : decode cX2_digit 56 = .ok (.getfield 16, 3) := by decide +kernel
theorem dX2_digit_59 : decode cX2_digit 59 = .ok (.aload_n 0, 1) := by decide +kernel
theorem dX2_digit_60 : decode cX2_digit 60 = .ok (.getfield 23, 3) := by decide +kernel
theorem dX2_digit_63 : decode cX2_digit 63 = .ok (.aload_n 0, 1) := by decide +kernel
theorem dX2_digit_64 : decode cX2_digit 64 = .ok (.getfield 26, 3) := by decide +kernel
theorem dX2_digit_67 : decode cX2_digit 67 = .ok (.iconst 0, 1) := by decide +kernel
theorem dX2_digit_68 : decode cX2_digit 68 = .ok (.invokevirtual 53, 3) := by decide +kernel
theorem dX2_digit_71 : decode cX2_digit 71 = .ok (.aload_n 0, 1) := by decide +kernel
theorem dX2_digit_72 : decode cX2_digit 72 = .ok (.aload_n 0, 1) := by decide +kernel
theorem dX2_digit_73 : decode cX2_digit 73 = .ok (.getfield 16, 3) := by decide +kernel
theorem dX2_digit_76 : decode cX2_digit 76 = .ok (.iload_n 1, 1) := by decide +kernel
theorem dX2_digit_77 : decode cX2_digit 77 = .ok (.invokevirtual 57, 3) := by decide +kernel
theorem dX2_digit_80 : decode cX2_digit 80 = .ok (.ireturn, 1) := by decide +kernel
theorem dX2_copy_0 : decode cX2_copy 0 = .ok (.iload_n 1, 1) := by decide +kernel
theorem dX2_copy_1 : decode cX2_copy 1 = .ok (.iload_n 2, 1) := by decide +kernel
theorem dX2_copy_2 : decode cX2_copy 2 = .ok (.invokestatic 61, 3) := by decide +kernel
theorem dX2_copy_5 : decode cX2_copy 5 = .ok (.ifCond .ne 5, 3) := by decide +kernel
theorem dX2_copy_8 : decode cX2_copy 8 = .ok (.iconst (-1), 1) := by decide +kernel
theorem dX2_copy_9 : decode cX2_copy 9 = .ok (.ireturn, 1) := by decide +kernel
theorem dX2_copy_10 : decode cX2_copy 10 = .ok (.aload_n 0, 1) := by decide +kernel
theorem dX2_copy_11 : decode cX2_copy 11 = .ok (.aload_n 0, 1) := by decide +kernel
theorem dX2_copy_12 : decode cX2_copy 12 = .ok (.getfield 11, 3) := by decide +kernel
theorem dX2_copy_15 : decode cX2_copy 15 = .ok (.iload_n 1, 1) := by decide +kernel
theorem dX2_copy_16 : decode cX2_copy 16 = .ok (.aaload, 1) := by decide +kernel
theorem dX2_copy_17 : decode cX2_copy 17 = .ok (.iload_n 2, 1) := by decide +kernel
theorem dX2_copy_18 : decode cX2_copy 18 = .ok (.invokevirtual 57, 3) := by decide +kernel
theorem dX2_copy_21 : decode cX2_copy 21 = .ok (.ireturn, 1) := by decide +kernel
theorem dX2_sum_0 : decode cX2_sum 0 = .ok (.aload_n 0, 1) := by decide +kernel
theorem dX2_sum_1 : decode cX2_sum 1 = .ok (.iload_n 1, 1) := by decide +kernel
theorem dX2_sum_2 : decode cX2_sum 2 = .ok (.iload_n 2, 1) := by decide +kernel
theorem dX2_sum_3 : decode cX2_sum 3 = .ok (.iload_n 3, 1) := by decide +kernel
theorem dX2_sum_4 : decode cX2_sum 4 = .ok (.iconst 0, 1) := by decide +kernel
theorem dX2_sum_5 : decode cX2_sum 5 = .ok (.invokevirtual 65, 3) := by decide +kernel
theorem dX2_sum_8 : decode cX2_sum 8 = .ok (.ireturn, 1) := by decide +kernel
theorem dX2_less_0 : decode cX2_less 0 = .ok (.aload_n 0, 1) := by decide +kernel
theorem dX2_less_1 : decode cX2_less 1 = .ok (.iload_n 1, 1) := by decide +kernel
theorem dX2_less_2 : decode cX2_less 2 = .ok (.iload_n 2, 1) := by decide +kernel
theorem dX2_less_3 : decode cX2_less 3 = .ok (.iload_n 3, 1) := by decide +kernel
theorem dX2_less_4 : decode cX2_less 4 = .ok (.iconst 1, 1) := by decide +kernel
theorem dX2_less_5 : decode cX2_less 5 = .ok (.invokevirtual 65, 3) := by decide +kernel
theorem dX2_less_8 : decode cX2_less 8 = .ok (.ireturn, 1) := by decide +kernel
theorem dX2_product_0 : decode cX2_product 0 = .ok (.iload_n 1, 1) := by decide +kernel
theorem dX2_product_1 : decode cX2_product 1 = .ok (.iload_n 2, 1) := by decide +kernel
theorem dX2_product_2 : decode cX2_product 2 = .ok (.invokestatic 61, 3) := by decide +kernel
theorem dX2_product_5 : decode cX2_product 5 = .ok (.ifCond .eq 10, 3) := by decide +kernel
theorem dX2_product_8 : decode cX2_product 8 = .ok (.iload_n 3, 1) := by decide +kernel
theorem dX2_product_9 : decode cX2_product 9 = .ok (.invokestatic 39, 3) := by decide +kernel
theorem dX2_product_12 : decode cX2_product 12 = .ok (.ifCond .ne 5, 3) := by decide +kernel
theorem dX2_product_15 : decode cX2_product 15 = .ok (.iconst (-1), 1) := by decide +kernel
theorem dX2_product_16 : decode cX2_product 16 = .ok (.ireturn, 1) := by decide +kernel
theorem dX2_product_17 : decode cX2_product 17 = .ok (.aload_n 0, 1) := by decide +kernel
theorem dX2_product_18 : decode cX2_product 18 = .ok (.getfield 16, 3) := by decide +kernel
theorem dX2_product_21 : decode cX2_product 21 = .ok (.aload_n 0, 1) := by decide +kernel
theorem dX2_product_22 : decode cX2_product 22 = .ok (.getfield 11, 3) := by decide +kernel
theorem dX2_product_25 : decode cX2_product 25 = .ok (.iload_n 1, 1) := by decide +kernel
theorem dX2_product_26 : decode cX2_product 26 = .ok (.aaload, 1) := by decide +kernel
theorem dX2_product_27 : decode cX2_product 27 = .ok (.aload_n 0, 1) := by decide +kernel
theorem dX2_product_28 : decode cX2_product 28 = .ok (.getfield 11, 3) := by decide +kernel
theorem dX2_product_31 : decode cX2_product 31 = .ok (.iload_n 2, 1) := by decide +kernel
theorem dX2_product_32 : decode cX2_product 32 = .ok (.aaload, 1) := by decide +kernel
theorem dX2_product_33 : decode cX2_product 33 = .ok (.invokevirtual 49, 3) := by decide +kernel
theorem dX2_product_36 : decode cX2_product 36 = .ok (.aload_n 0, 1) := by decide +kernel
theorem dX2_product_37 : decode cX2_product 37 = .ok (.aload_n 0, 1) := by decide +kernel
theorem dX2_product_38 : decode cX2_product 38 = .ok (.getfield 16, 3) := by decide +kernel
theorem dX2_product_41 : decode cX2_product 41 = .ok (.iload_n 3, 1) := by decide +kernel
theorem dX2_product_42 : decode cX2_product 42 = .ok (.invokevirtual 57, 3) := by decide +kernel
theorem dX2_product_45 : decode cX2_product 45 = .ok (.ireturn, 1) := by decide +kernel
theorem dX2_over_0 : decode cX2_over 0 = .ok (.iload_n 3, 1) := by decide +kernel
theorem dX2_over_1 : decode cX2_over 1 = .ok (.invokestatic 39, 3) := by decide +kernel
theorem dX2_over_4 : decode cX2_over 4 = .ok (.ifCond .eq 12, 3) := by decide +kernel
theorem dX2_over_7 : decode cX2_over 7 = .ok (.aload_n 0, 1) := by decide +kernel
theorem dX2_over_8 : decode cX2_over 8 = .ok (.iload_n 1, 1) := by decide +kernel
theorem dX2_over_9 : decode cX2_over 9 = .ok (.iload_n 2, 1) := by decide +kernel
theorem dX2_over_10 : decode cX2_over 10 = .ok (.invokevirtual 69, 3) := by decide +kernel
theorem dX2_over_13 : decode cX2_over 13 = .ok (.ifCond .ne 5, 3) := by decide +kernel
theorem dX2_over_16 : decode cX2_over 16 = .ok (.iconst (-1), 1) := by decide +kernel
theorem dX2_over_17 : decode cX2_over 17 = .ok (.ireturn, 1) := by decide +kernel
theorem dX2_over_18 : decode cX2_over 18 = .ok (.aload_n 0, 1) := by decide +kernel
theorem dX2_over_19 : decode cX2_over 19 = .ok (.aload_n 0, 1) := by decide +kernel
theorem dX2_over_20 : decode cX2_over 20 = .ok (.getfield 29, 3) := by decide +kernel
theorem dX2_over_23 : decode cX2_over 23 = .ok (.iload_n 3, 1) := by decide +kernel
theorem dX2_over_24 : decode cX2_over 24 = .ok (.invokevirtual 57, 3) := by decide +kernel
theorem dX2_over_27 : decode cX2_over 27 = .ok (.ireturn, 1) := by decide +kernel
theorem dX2_left_0 : decode cX2_left 0 = .ok (.iload_n 3, 1) := by decide +kernel
theorem dX2_left_1 : decode cX2_left 1 = .ok (.invokestatic 39, 3) := by decide +kernel
theorem dX2_left_4 : decode cX2_left 4 = .ok (.ifCond .eq 12, 3) := by decide +kernel
theorem dX2_left_7 : decode cX2_left 7 = .ok (.aload_n 0, 1) := by decide +kernel
theorem dX2_left_8 : decode cX2_left 8 = .ok (.iload_n 1, 1) := by decide +kernel
theorem dX2_left_9 : decode cX2_left 9 = .ok (.iload_n 2, 1) := by decide +kernel
theorem dX2_left_10 : decode cX2_left 10 = .ok (.invokevirtual 69, 3) := by decide +kernel
theorem dX2_left_13 : decode cX2_left 13 = .ok (.ifCond .ne 5, 3) := by decide +kernel
theorem dX2_left_16 : decode cX2_left 16 = .ok (.iconst (-1), 1) := by decide +kernel
theorem dX2_left_17 : decode cX2_left 17 = .ok (.ireturn, 1) := by decide +kernel
theorem dX2_left_18 : decode cX2_left 18 = .ok (.aload_n 0, 1) := by decide +kernel
theorem dX2_left_19 : decode cX2_left 19 = .ok (.aload_n 0, 1) := by decide +kernel
theorem dX2_left_20 : decode cX2_left 20 = .ok (.getfield 16, 3) := by decide +kernel
theorem dX2_left_23 : decode cX2_left 23 = .ok (.iload_n 3, 1) := by decide +kernel
theorem dX2_left_24 : decode cX2_left 24 = .ok (.invokevirtual 57, 3) := by decide +kernel
theorem dX2_left_27 : decode cX2_left 27 = .ok (.ireturn, 1) := by decide +kernel
theorem dX2_divisor_0 : decode cX2_divisor 0 = .ok (.iload_n 1, 1) := by decide +kernel
theorem dX2_divisor_1 : decode cX2_divisor 1 = .ok (.iload_n 2, 1) := by decide +kernel
theorem dX2_divisor_2 : decode cX2_divisor 2 = .ok (.invokestatic 61, 3) := by decide +kernel
theorem dX2_divisor_5 : decode cX2_divisor 5 = .ok (.ifCond .eq 10, 3) := by decide +kernel
theorem dX2_divisor_8 : decode cX2_divisor 8 = .ok (.iload_n 3, 1) := by decide +kernel
theorem dX2_divisor_9 : decode cX2_divisor 9 = .ok (.invokestatic 39, 3) := by decide +kernel
theorem dX2_divisor_12 : decode cX2_divisor 12 = .ok (.ifCond .ne 5, 3) := by decide +kernel
theorem dX2_divisor_15 : decode cX2_divisor 15 = .ok (.iconst (-1), 1) := by decide +kernel
theorem dX2_divisor_16 : decode cX2_divisor 16 = .ok (.ireturn, 1) := by decide +kernel
theorem dX2_divisor_17 : decode cX2_divisor 17 = .ok (.aload_n 0, 1) := by decide +kernel
theorem dX2_divisor_18 : decode cX2_divisor 18 = .ok (.aload_n 0, 1) := by decide +kernel
theorem dX2_divisor_19 : decode cX2_divisor 19 = .ok (.getfield 35, 3) := by decide +kernel
theorem dX2_divisor_22 : decode cX2_divisor 22 = .ok (.aload_n 0, 1) := by decide +kernel
theorem dX2_divisor_23 : decode cX2_divisor 23 = .ok (.getfield 11, 3) := by decide +kernel
theorem dX2_divisor_26 : decode cX2_divisor 26 = .ok (.iload_n 1, 1) := by decide +kernel
theorem dX2_divisor_27 : decode cX2_divisor 27 = .ok (.aaload, 1) := by decide +kernel
theorem dX2_divisor_28 : decode cX2_divisor 28 = .ok (.aload_n 0, 1) := by decide +kernel
theorem dX2_divisor_29 : decode cX2_divisor 29 = .ok (.getfield 11, 3) := by decide +kernel
theorem dX2_divisor_32 : decode cX2_divisor 32 = .ok (.iload_n 2, 1) := by decide +kernel
theorem dX2_divisor_33 : decode cX2_divisor 33 = .ok (.aaload, 1) := by decide +kernel
theorem dX2_divisor_34 : decode cX2_divisor 34 = .ok (.invokevirtual 72, 3) := by decide +kernel
theorem dX2_divisor_37 : decode cX2_divisor 37 = .ok (.iload_n 3, 1) := by decide +kernel
theorem dX2_divisor_38 : decode cX2_divisor 38 = .ok (.invokevirtual 57, 3) := by decide +kernel
theorem dX2_divisor_41 : decode cX2_divisor 41 = .ok (.ireturn, 1) := by decide +kernel
theorem dX2_root_0 : decode cX2_root 0 = .ok (.iload_n 1, 1) := by decide +kernel
theorem dX2_root_1 : decode cX2_root 1 = .ok (.iload_n 2, 1) := by decide +kernel
theorem dX2_root_2 : decode cX2_root 2 = .ok (.invokestatic 61, 3) := by decide +kernel
theorem dX2_root_5 : decode cX2_root 5 = .ok (.ifCond .eq 15, 3) := by decide +kernel
theorem dX2_root_8 : decode cX2_root 8 = .ok (.aload_n 0, 1) := by decide +kernel
theorem dX2_root_9 : decode cX2_root 9 = .ok (.getfield 11, 3) := by decide +kernel
theorem dX2_root_12 : decode cX2_root 12 = .ok (.iload_n 1, 1) := by decide +kernel
theorem dX2_root_13 : decode cX2_root 13 = .ok (.aaload, 1) := by decide +kernel
theorem dX2_root_14 : decode cX2_root 14 = .ok (.getfield 76, 3) := by decide +kernel
theorem dX2_root_17 : decode cX2_root 17 = .ok (.ifCond .eq 5, 3) := by decide +kernel
theorem dX2_root_20 : decode cX2_root 20 = .ok (.iconst (-1), 1) := by decide +kernel
theorem dX2_root_21 : decode cX2_root 21 = .ok (.ireturn, 1) := by decide +kernel
theorem dX2_root_22 : decode cX2_root 22 = .ok (.aload_n 0, 1) := by decide +kernel
theorem dX2_root_23 : decode cX2_root 23 = .ok (.aload_n 0, 1) := by decide +kernel
theorem dX2_root_24 : decode cX2_root 24 = .ok (.aload_n 0, 1) := by decide +kernel
theorem dX2_root_25 : decode cX2_root 25 = .ok (.getfield 11, 3) := by decide +kernel
theorem dX2_root_28 : decode cX2_root 28 = .ok (.iload_n 1, 1) := by decide +kernel
theorem dX2_root_29 : decode cX2_root 29 = .ok (.aaload, 1) := by decide +kernel
theorem dX2_root_30 : decode cX2_root 30 = .ok (.invokevirtual 80, 3) := by decide +kernel
theorem dX2_root_33 : decode cX2_root 33 = .ok (.iload_n 2, 1) := by decide +kernel
theorem dX2_root_34 : decode cX2_root 34 = .ok (.invokevirtual 57, 3) := by decide +kernel
theorem dX2_root_37 : decode cX2_root 37 = .ok (.ireturn, 1) := by decide +kernel
theorem dX2_power_0 : decode cX2_power 0 = .ok (.iload_n 1, 1) := by decide +kernel
theorem dX2_power_1 : decode cX2_power 1 = .ok (.iload_n 3, 1) := by decide +kernel
theorem dX2_power_2 : decode cX2_power 2 = .ok (.invokestatic 61, 3) := by decide +kernel
theorem dX2_power_5 : decode cX2_power 5 = .ok (.ifCond .eq 14, 3) := by decide +kernel
theorem dX2_power_8 : decode cX2_power 8 = .ok (.iload_n 2, 1) := by decide +kernel
theorem dX2_power_9 : decode cX2_power 9 = .ok (.ifCond .lt 10, 3) := by decide +kernel
theorem dX2_power_12 : decode cX2_power 12 = .ok (.iload_n 2, 1) := by decide +kernel
theorem dX2_power_13 : decode cX2_power 13 = .ok (.sipush 1000, 3) := by decide +kernel
theorem dX2_power_16 : decode cX2_power 16 = .ok (.if_icmp .le 5, 3) := by decide +kernel
theorem dX2_power_19 : decode cX2_power 19 = .ok (.iconst (-1), 1) := by decide +kernel
theorem dX2_power_20 : decode cX2_power 20 = .ok (.ireturn, 1) := by decide +kernel
theorem dX2_power_21 : decode cX2_power 21 = .ok (.aload_n 0, 1) := by decide +kernel
theorem dX2_power_22 : decode cX2_power 22 = .ok (.getfield 23, 3) := by decide +kernel
theorem dX2_power_25 : decode cX2_power 25 = .ok (.astore 4, 2) := by decide +kernel
theorem dX2_power_27 : decode cX2_power 27 = .ok (.aload_n 0, 1) := by decide +kernel
theorem dX2_power_28 : decode cX2_power 28 = .ok (.getfield 26, 3) := by decide +kernel
theorem dX2_power_31 : decode cX2_power 31 = .ok (.astore 5, 2) := by decide +kernel
theorem dX2_power_33 : decode cX2_power 33 = .ok (.aload 4, 2) := by decide +kernel
theorem dX2_power_35 : decode cX2_power 35 = .ok (.lconst 1, 1) := by decide +kernel
theorem dX2_power_36 : decode cX2_power 36 = .ok (.invokevirtual 43, 3) := by decide +kernel
theorem dX2_power_39 : decode cX2_power 39 = .ok (.sipush 512, 3) := by decide +kernel
theorem dX2_power_42 : decode cX2_power 42 = .ok (.istore 6, 2) := by decide +kernel
theorem dX2_power_44 : decode cX2_power 44 = .ok (.iload 6, 2) := by decide +kernel
theorem dX2_power_46 : decode cX2_power 46 = .ok (.ifCond .le 76, 3) := by decide +kernel
theorem dX2_power_49 : decode cX2_power 49 = .ok (.aload 5, 2) := by decide +kernel
theorem dX2_power_51 : decode cX2_power 51 = .ok (.aload 4, 2) := by decide +kernel
theorem dX2_power_53 : decode cX2_power 53 = .ok (.aload 4, 2) := by decide +kernel
theorem dX2_power_55 : decode cX2_power 55 = .ok (.invokevirtual 49, 3) := by decide +kernel
theorem dX2_power_58 : decode cX2_power 58 = .ok (.aload 5, 2) := by decide +kernel
theorem dX2_power_60 : decode cX2_power 60 = .ok (.invokevirtual 84, 3) := by decide +kernel
theorem dX2_power_63 : decode cX2_power 63 = .ok (.ifCond .eq 5, 3) := by decide +kernel
theorem dX2_power_66 : decode cX2_power 66 = .ok (.iconst (-1), 1) := by decide +kernel
theorem dX2_power_67 : decode cX2_power 67 = .ok (.ireturn, 1) := by decide +kernel
theorem dX2_power_68 : decode cX2_power 68 = .ok (.iload_n 2, 1) := by decide +kernel
theorem dX2_power_69 : decode cX2_power 69 = .ok (.iload 6, 2) := by decide +kernel
theorem dX2_power_71 : decode cX2_power 71 = .ok (.iand, 1) := by decide +kernel
theorem dX2_power_72 : decode cX2_power 72 = .ok (.ifCond .ne 18, 3) := by decide +kernel
theorem dX2_power_75 : decode cX2_power 75 = .ok (.aload 4, 2) := by decide +kernel
theorem dX2_power_77 : decode cX2_power 77 = .ok (.astore 7, 2) := by decide +kernel
theorem dX2_power_79 : decode cX2_power 79 = .ok (.aload 5, 2) := by decide +kernel
theorem dX2_power_81 : decode cX2_power 81 = .ok (.astore 4, 2) := by decide +kernel
theorem dX2_power_83 : decode cX2_power 83 = .ok (.aload 7, 2) := by decide +kernel
theorem dX2_power_85 : decode cX2_power 85 = .ok (.astore 5, 2) := by decide +kernel
theorem dX2_power_87 : decode cX2_power 87 = .ok (.goto 16, 3) := by decide +kernel
theorem dX2_power_90 : decode cX2_power 90 = .ok (.aload 4, 2) := by decide +kernel
theorem dX2_power_92 : decode cX2_power 92 = .ok (.aload 5, 2) := by decide +kernel
theorem dX2_power_94 : decode cX2_power 94 = .ok (.aload_n 0, 1) := by decide +kernel
theorem dX2_power_95 : decode cX2_power 95 = .ok (.getfield 11, 3) := by decide +kernel
theorem dX2_power_98 : decode cX2_power 98 = .ok (.iload_n 1, 1) := by decide +kernel
theorem dX2_power_99 : decode cX2_power 99 = .ok (.aaload, 1) := by decide +kernel
theorem dX2_power_100 : decode cX2_power 100 = .ok (.invokevirtual 49, 3) := by decide +kernel
theorem dX2_power_103 : decode cX2_power 103 = .ok (.aload 4, 2) := by decide +kernel
theorem dX2_power_105 : decode cX2_power 105 = .ok (.invokevirtual 84, 3) := by decide +kernel
theorem dX2_power_108 : decode cX2_power 108 = .ok (.ifCond .eq 5, 3) := by decide +kernel
theorem dX2_power_111 : decode cX2_power 111 = .ok (.iconst (-1), 1) := by decide +kernel
theorem dX2_power_112 : decode cX2_power 112 = .ok (.ireturn, 1) := by decide +kernel
theorem dX2_power_113 : decode cX2_power 113 = .ok (.iload 6, 2) := by decide +kernel
theorem dX2_power_115 : decode cX2_power 115 = .ok (.iconst 1, 1) := by decide +kernel
theorem dX2_power_116 : decode cX2_power 116 = .ok (.ishr, 1) := by decide +kernel
theorem dX2_power_117 : decode cX2_power 117 = .ok (.istore 6, 2) := by decide +kernel
theorem dX2_power_119 : decode cX2_power 119 = .ok (.goto (-75), 3) := by decide +kernel
theorem dX2_power_122 : decode cX2_power 122 = .ok (.aload_n 0, 1) := by decide +kernel
theorem dX2_power_123 : decode cX2_power 123 = .ok (.aload 4, 2) := by decide +kernel
theorem dX2_power_125 : decode cX2_power 125 = .ok (.iload_n 3, 1) := by decide +kernel
theorem dX2_power_126 : decode cX2_power 126 = .ok (.invokevirtual 57, 3) := by decide +kernel
theorem dX2_power_129 : decode cX2_power 129 = .ok (.ireturn, 1) := by decide +kernel
theorem dX2_lowest_0 : decode cX2_lowest 0 = .ok (.iload_n 1, 1) := by decide +kernel
theorem dX2_lowest_1 : decode cX2_lowest 1 = .ok (.iload_n 2, 1) := by decide +kernel
theorem dX2_lowest_2 : decode cX2_lowest 2 = .ok (.invokestatic 61, 3) := by decide +kernel
theorem dX2_lowest_5 : decode cX2_lowest 5 = .ok (.ifCond .eq 20, 3) := by decide +kernel
theorem dX2_lowest_8 : decode cX2_lowest 8 = .ok (.iload_n 1, 1) := by decide +kernel
theorem dX2_lowest_9 : decode cX2_lowest 9 = .ok (.iload_n 2, 1) := by decide +kernel
theorem dX2_lowest_10 : decode cX2_lowest 10 = .ok (.if_icmp .eq 15, 3) := by decide +kernel
theorem dX2_lowest_13 : decode cX2_lowest 13 = .ok (.aload_n 0, 1) := by decide +kernel
theorem dX2_lowest_14 : decode cX2_lowest 14 = .ok (.getfield 11, 3) := by decide +kernel
theorem dX2_lowest_17 : decode cX2_lowest 17 = .ok (.iload_n 2, 1) := by decide +kernel
theorem dX2_lowest_18 : decode cX2_lowest 18 = .ok (.aaload, 1) := by decide +kernel
theorem dX2_lowest_19 : decode cX2_lowest 19 = .ok (.invokevirtual 88, 3) := by decide +kernel
theorem dX2_lowest_22 : decode cX2_lowest 22 = .ok (.ifCond .eq 5, 3) := by decide +kernel
theorem dX2_lowest_25 : decode cX2_lowest 25 = .ok (.iconst (-1), 1) := by decide +kernel
theorem dX2_lowest_26 : decode cX2_lowest 26 = .ok (.ireturn, 1) := by decide +kernel
theorem dX2_lowest_27 : decode cX2_lowest 27 = .ok (.aload_n 0, 1) := by decide +kernel
theorem dX2_lowest_28 : decode cX2_lowest 28 = .ok (.getfield 16, 3) := by decide +kernel
theorem dX2_lowest_31 : decode cX2_lowest 31 = .ok (.aload_n 0, 1) := by decide +kernel
theorem dX2_lowest_32 : decode cX2_lowest 32 = .ok (.getfield 11, 3) := by decide +kernel
theorem dX2_lowest_35 : decode cX2_lowest 35 = .ok (.iload_n 1, 1) := by decide +kernel
theorem dX2_lowest_36 : decode cX2_lowest 36 = .ok (.aaload, 1) := by decide +kernel
theorem dX2_lowest_37 : decode cX2_lowest 37 = .ok (.invokevirtual 91, 3) := by decide +kernel
theorem dX2_lowest_40 : decode cX2_lowest 40 = .ok (.aload_n 0, 1) := by decide +kernel
theorem dX2_lowest_41 : decode cX2_lowest 41 = .ok (.getfield 20, 3) := by decide +kernel
theorem dX2_lowest_44 : decode cX2_lowest 44 = .ok (.aload_n 0, 1) := by decide +kernel
theorem dX2_lowest_45 : decode cX2_lowest 45 = .ok (.getfield 11, 3) := by decide +kernel
theorem dX2_lowest_48 : decode cX2_lowest 48 = .ok (.iload_n 2, 1) := by decide +kernel
theorem dX2_lowest_49 : decode cX2_lowest 49 = .ok (.aaload, 1) := by decide +kernel
theorem dX2_lowest_50 : decode cX2_lowest 50 = .ok (.invokevirtual 91, 3) := by decide +kernel
theorem dX2_lowest_53 : decode cX2_lowest 53 = .ok (.aload_n 0, 1) := by decide +kernel
theorem dX2_lowest_54 : decode cX2_lowest 54 = .ok (.iload_n 1, 1) := by decide +kernel
theorem dX2_lowest_55 : decode cX2_lowest 55 = .ok (.iload_n 2, 1) := by decide +kernel
theorem dX2_lowest_56 : decode cX2_lowest 56 = .ok (.invokevirtual 95, 3) := by decide +kernel
theorem dX2_lowest_59 : decode cX2_lowest 59 = .ok (.ireturn, 1) := by decide +kernel
theorem dX2_fraction_0 : decode cX2_fraction 0 = .ok (.aload_n 0, 1) := by decide +kernel
theorem dX2_fraction_1 : decode cX2_fraction 1 = .ok (.iload_n 1, 1) := by decide +kernel
theorem dX2_fraction_2 : decode cX2_fraction 2 = .ok (.iload_n 2, 1) := by decide +kernel
theorem dX2_fraction_3 : decode cX2_fraction 3 = .ok (.iload_n 3, 1) := by decide +kernel
theorem dX2_fraction_4 : decode cX2_fraction 4 = .ok (.iload 4, 2) := by decide +kernel
theorem dX2_fraction_6 : decode cX2_fraction 6 = .ok (.invokevirtual 99, 3) := by decide +kernel
theorem dX2_fraction_9 : decode cX2_fraction 9 = .ok (.ifCond .eq 8, 3) := by decide +kernel
theorem dX2_fraction_12 : decode cX2_fraction 12 = .ok (.iload_n 1, 1) := by decide +kernel
theorem dX2_fraction_13 : decode cX2_fraction 13 = .ok (.iload_n 2, 1) := by decide +kernel
theorem dX2_fraction_14 : decode cX2_fraction 14 = .ok (.if_icmp .ne 5, 3) := by decide +kernel
theorem dX2_fraction_17 : decode cX2_fraction 17 = .ok (.iconst (-1), 1) := by decide +kernel
theorem dX2_fraction_18 : decode cX2_fraction 18 = .ok (.ireturn, 1) := by decide +kernel
theorem dX2_fraction_19 : decode cX2_fraction 19 = .ok (.aload_n 0, 1) := by decide +kernel
theorem dX2_fraction_20 : decode cX2_fraction 20 = .ok (.getfield 23, 3) := by decide +kernel
theorem dX2_fraction_23 : decode cX2_fraction 23 = .ok (.aload_n 0, 1) := by decide +kernel
theorem dX2_fraction_24 : decode cX2_fraction 24 = .ok (.getfield 11, 3) := by decide +kernel
theorem dX2_fraction_27 : decode cX2_fraction 27 = .ok (.iload_n 1, 1) := by decide +kernel
theorem dX2_fraction_28 : decode cX2_fraction 28 = .ok (.aaload, 1) := by decide +kernel
theorem dX2_fraction_29 : decode cX2_fraction 29 = .ok (.aload_n 0, 1) := by decide +kernel
theorem dX2_fraction_30 : decode cX2_fraction 30 = .ok (.getfield 11, 3) := by decide +kernel
theorem dX2_fraction_33 : decode cX2_fraction 33 = .ok (.iload 4, 2) := by decide +kernel
theorem dX2_fraction_35 : decode cX2_fraction 35 = .ok (.aaload, 1) := by decide +kernel
theorem dX2_fraction_36 : decode cX2_fraction 36 = .ok (.invokevirtual 49, 3) := by decide +kernel
theorem dX2_fraction_39 : decode cX2_fraction 39 = .ok (.aload_n 0, 1) := by decide +kernel
theorem dX2_fraction_40 : decode cX2_fraction 40 = .ok (.getfield 26, 3) := by decide +kernel
theorem dX2_fraction_43 : decode cX2_fraction 43 = .ok (.aload_n 0, 1) := by decide +kernel
theorem dX2_fraction_44 : decode cX2_fraction 44 = .ok (.getfield 11, 3) := by decide +kernel
theorem dX2_fraction_47 : decode cX2_fraction 47 = .ok (.iload_n 3, 1) := by decide +kernel
theorem dX2_fraction_48 : decode cX2_fraction 48 = .ok (.aaload, 1) := by decide +kernel
theorem dX2_fraction_49 : decode cX2_fraction 49 = .ok (.aload_n 0, 1) := by decide +kernel
theorem dX2_fraction_50 : decode cX2_fraction 50 = .ok (.getfield 11, 3) := by decide +kernel
theorem dX2_fraction_53 : decode cX2_fraction 53 = .ok (.iload_n 2, 1) := by decide +kernel
theorem dX2_fraction_54 : decode cX2_fraction 54 = .ok (.aaload, 1) := by decide +kernel
theorem dX2_fraction_55 : decode cX2_fraction 55 = .ok (.invokevirtual 49, 3) := by decide +kernel
theorem dX2_fraction_58 : decode cX2_fraction 58 = .ok (.aload_n 0, 1) := by decide +kernel
theorem dX2_fraction_59 : decode cX2_fraction 59 = .ok (.getfield 16, 3) := by decide +kernel
theorem dX2_fraction_62 : decode cX2_fraction 62 = .ok (.aload_n 0, 1) := by decide +kernel
theorem dX2_fraction_63 : decode cX2_fraction 63 = .ok (.getfield 23, 3) := by decide +kernel
theorem dX2_fraction_66 : decode cX2_fraction 66 = .ok (.aload_n 0, 1) := by decide +kernel
theorem dX2_fraction_67 : decode cX2_fraction 67 = .ok (.getfield 26, 3) := by decide +kernel
theorem dX2_fraction_70 : decode cX2_fraction 70 = .ok (.iconst 0, 1) := by decide +kernel
theorem dX2_fraction_71 : decode cX2_fraction 71 = .ok (.invokevirtual 53, 3) := by decide +kernel
theorem dX2_fraction_74 : decode cX2_fraction 74 = .ok (.aload_n 0, 1) := by decide +kernel
theorem dX2_fraction_75 : decode cX2_fraction 75 = .ok (.getfield 20, 3) := by decide +kernel
theorem dX2_fraction_78 : decode cX2_fraction 78 = .ok (.aload_n 0, 1) := by decide +kernel
theorem dX2_fraction_79 : decode cX2_fraction 79 = .ok (.getfield 11, 3) := by decide +kernel
theorem dX2_fraction_82 : decode cX2_fraction 82 = .ok (.iload_n 2, 1) := by decide +kernel
theorem dX2_fraction_83 : decode cX2_fraction 83 = .ok (.aaload, 1) := by decide +kernel
theorem dX2_fraction_84 : decode cX2_fraction 84 = .ok (.aload_n 0, 1) := by decide +kernel
theorem dX2_fraction_85 : decode cX2_fraction 85 = .ok (.getfield 11, 3) := by decide +kernel
theorem dX2_fraction_88 : decode cX2_fraction 88 = .ok (.iload 4, 2) := by decide +kernel
theorem dX2_fraction_90 : decode cX2_fraction 90 = .ok (.aaload, 1) := by decide +kernel
theorem dX2_fraction_91 : decode cX2_fraction 91 = .ok (.invokevirtual 49, 3) := by decide +kernel
theorem dX2_fraction_94 : decode cX2_fraction 94 = .ok (.aload_n 0, 1) := by decide +kernel
theorem dX2_fraction_95 : decode cX2_fraction 95 = .ok (.iload_n 1, 1) := by decide +kernel
theorem dX2_fraction_96 : decode cX2_fraction 96 = .ok (.iload_n 2, 1) := by decide +kernel
theorem dX2_fraction_97 : decode cX2_fraction 97 = .ok (.invokevirtual 95, 3) := by decide +kernel
theorem dX2_fraction_100 : decode cX2_fraction 100 = .ok (.ireturn, 1) := by decide +kernel
theorem dX2_order_0 : decode cX2_order 0 = .ok (.iload_n 1, 1) := by decide +kernel
theorem dX2_order_1 : decode cX2_order 1 = .ok (.iload_n 2, 1) := by decide +kernel
theorem dX2_order_2 : decode cX2_order 2 = .ok (.invokestatic 61, 3) := by decide +kernel
theorem dX2_order_5 : decode cX2_order 5 = .ok (.ifCond .ne 5, 3) := by decide +kernel
theorem dX2_order_8 : decode cX2_order 8 = .ok (.iconst (-1), 1) := by decide +kernel
theorem dX2_order_9 : decode cX2_order 9 = .ok (.ireturn, 1) := by decide +kernel
theorem dX2_order_10 : decode cX2_order 10 = .ok (.iconst 1, 1) := by decide +kernel
theorem dX2_order_11 : decode cX2_order 11 = .ok (.aload_n 0, 1) := by decide +kernel
theorem dX2_order_12 : decode cX2_order 12 = .ok (.getfield 11, 3) := by decide +kernel
theorem dX2_order_15 : decode cX2_order 15 = .ok (.iload_n 1, 1) := by decide +kernel
theorem dX2_order_16 : decode cX2_order 16 = .ok (.aaload, 1) := by decide +kernel
theorem dX2_order_17 : decode cX2_order 17 = .ok (.aload_n 0, 1) := by decide +kernel
theorem dX2_order_18 : decode cX2_order 18 = .ok (.getfield 11, 3) := by decide +kernel
theorem dX2_order_21 : decode cX2_order 21 = .ok (.iload_n 2, 1) := by decide +kernel
theorem dX2_order_22 : decode cX2_order 22 = .ok (.aaload, 1) := by decide +kernel
theorem dX2_order_23 : decode cX2_order 23 = .ok (.invokevirtual 103, 3) := by decide +kernel
theorem dX2_order_26 : decode cX2_order 26 = .ok (.iadd, 1) := by decide +kernel
theorem dX2_order_27 : decode cX2_order 27 = .ok (.ireturn, 1) := by decide +kernel
theorem dX2_ratio_0 : decode cX2_ratio 0 = .ok (.aload_n 0, 1) := by decide +kernel
theorem dX2_ratio_1 : decode cX2_ratio 1 = .ok (.iload_n 1, 1) := by decide +kernel
theorem dX2_ratio_2 : decode cX2_ratio 2 = .ok (.iload_n 2, 1) := by decide +kernel
theorem dX2_ratio_3 : decode cX2_ratio 3 = .ok (.iload_n 3, 1) := by decide +kernel
theorem dX2_ratio_4 : decode cX2_ratio 4 = .ok (.iload 4, 2) := by decide +kernel
theorem dX2_ratio_6 : decode cX2_ratio 6 = .ok (.invokevirtual 99, 3) := by decide +kernel
theorem dX2_ratio_9 : decode cX2_ratio 9 = .ok (.ifCond .ne 5, 3) := by decide +kernel
theorem dX2_ratio_12 : decode cX2_ratio 12 = .ok (.iconst (-1), 1) := by decide +kernel
theorem dX2_ratio_13 : decode cX2_ratio 13 = .ok (.ireturn, 1) := by decide +kernel
theorem dX2_ratio_14 : decode cX2_ratio 14 = .ok (.aload_n 0, 1) := by decide +kernel
theorem dX2_ratio_15 : decode cX2_ratio 15 = .ok (.getfield 23, 3) := by decide +kernel
theorem dX2_ratio_18 : decode cX2_ratio 18 = .ok (.aload_n 0, 1) := by decide +kernel
theorem dX2_ratio_19 : decode cX2_ratio 19 = .ok (.getfield 11, 3) := by decide +kernel
theorem dX2_ratio_22 : decode cX2_ratio 22 = .ok (.iload_n 1, 1) := by decide +kernel
theorem dX2_ratio_23 : decode cX2_ratio 23 = .ok (.aaload, 1) := by decide +kernel
theorem dX2_ratio_24 : decode cX2_ratio 24 = .ok (.aload_n 0, 1) := by decide +kernel
theorem dX2_ratio_25 : decode cX2_ratio 25 = .ok (.getfield 11, 3) := by decide +kernel
theorem dX2_ratio_28 : decode cX2_ratio 28 = .ok (.iload 4, 2) := by decide +kernel
theorem dX2_ratio_30 : decode cX2_ratio 30 = .ok (.aaload, 1) := by decide +kernel
theorem dX2_ratio_31 : decode cX2_ratio 31 = .ok (.invokevirtual 49, 3) := by decide +kernel
theorem dX2_ratio_34 : decode cX2_ratio 34 = .ok (.aload_n 0, 1) := by decide +kernel
theorem dX2_ratio_35 : decode cX2_ratio 35 = .ok (.getfield 26, 3) := by decide +kernel
theorem dX2_ratio_38 : decode cX2_ratio 38 = .ok (.aload_n 0, 1) := by decide +kernel
theorem dX2_ratio_39 : decode cX2_ratio 39 = .ok (.getfield 11, 3) := by decide +kernel
theorem dX2_ratio_42 : decode cX2_ratio 42 = .ok (.iload_n 3, 1) := by decide +kernel
theorem dX2_ratio_43 : decode cX2_ratio 43 = .ok (.aaload, 1) := by decide +kernel
theorem dX2_ratio_44 : decode cX2_ratio 44 = .ok (.aload_n 0, 1) := by decide +kernel
theorem dX2_ratio_45 : decode cX2_ratio 45 = .ok (.getfield 11, 3) := by decide +kernel
theorem dX2_ratio_48 : decode cX2_ratio 48 = .ok (.iload_n 2, 1) := by decide +kernel
theorem dX2_ratio_49 : decode cX2_ratio 49 = .ok (.aaload, 1) := by decide +kernel
theorem dX2_ratio_50 : decode cX2_ratio 50 = .ok (.invokevirtual 49, 3) := by decide +kernel
theorem dX2_ratio_53 : decode cX2_ratio 53 = .ok (.aload_n 0, 1) := by decide +kernel
theorem dX2_ratio_54 : decode cX2_ratio 54 = .ok (.getfield 11, 3) := by decide +kernel
theorem dX2_ratio_57 : decode cX2_ratio 57 = .ok (.iload_n 2, 1) := by decide +kernel
theorem dX2_ratio_58 : decode cX2_ratio 58 = .ok (.aaload, 1) := by decide +kernel
theorem dX2_ratio_59 : decode cX2_ratio 59 = .ok (.getfield 76, 3) := by decide +kernel
theorem dX2_ratio_62 : decode cX2_ratio 62 = .ok (.aload_n 0, 1) := by decide +kernel
theorem dX2_ratio_63 : decode cX2_ratio 63 = .ok (.getfield 11, 3) := by decide +kernel
theorem dX2_ratio_66 : decode cX2_ratio 66 = .ok (.iload 4, 2) := by decide +kernel
theorem dX2_ratio_68 : decode cX2_ratio 68 = .ok (.aaload, 1) := by decide +kernel
theorem dX2_ratio_69 : decode cX2_ratio 69 = .ok (.getfield 76, 3) := by decide +kernel
theorem dX2_ratio_72 : decode cX2_ratio 72 = .ok (.if_icmp .eq 7, 3) := by decide +kernel
theorem dX2_ratio_75 : decode cX2_ratio 75 = .ok (.iconst 1, 1) := by decide +kernel
theorem dX2_ratio_76 : decode cX2_ratio 76 = .ok (.goto 4, 3) := by decide +kernel
theorem dX2_ratio_79 : decode cX2_ratio 79 = .ok (.iconst 0, 1) := by decide +kernel
theorem dX2_ratio_80 : decode cX2_ratio 80 = .ok (.istore 5, 2) := by decide +kernel
theorem dX2_ratio_82 : decode cX2_ratio 82 = .ok (.iconst 1, 1) := by decide +kernel
theorem dX2_ratio_83 : decode cX2_ratio 83 = .ok (.iload 5, 2) := by decide +kernel
theorem dX2_ratio_85 : decode cX2_ratio 85 = .ok (.ifCond .eq 17, 3) := by decide +kernel
theorem dX2_ratio_88 : decode cX2_ratio 88 = .ok (.aload_n 0, 1) := by decide +kernel
theorem dX2_ratio_89 : decode cX2_ratio 89 = .ok (.getfield 26, 3) := by decide +kernel
theorem dX2_ratio_92 : decode cX2_ratio 92 = .ok (.aload_n 0, 1) := by decide +kernel
theorem dX2_ratio_93 : decode cX2_ratio 93 = .ok (.getfield 23, 3) := by decide +kernel
theorem dX2_ratio_96 : decode cX2_ratio 96 = .ok (.invokevirtual 103, 3) := by decide +kernel
theorem dX2_ratio_99 : decode cX2_ratio 99 = .ok (.goto 14, 3) := by decide +kernel
theorem dX2_ratio_102 : decode cX2_ratio 102 = .ok (.aload_n 0, 1) := by decide +kernel
theorem dX2_ratio_103 : decode cX2_ratio 103 = .ok (.getfield 23, 3) := by decide +kernel
theorem dX2_ratio_106 : decode cX2_ratio 106 = .ok (.aload_n 0, 1) := by decide +kernel
theorem dX2_ratio_107 : decode cX2_ratio 107 = .ok (.getfield 26, 3) := by decide +kernel
theorem dX2_ratio_110 : decode cX2_ratio 110 = .ok (.invokevirtual 103, 3) := by decide +kernel
theorem dX2_ratio_113 : decode cX2_ratio 113 = .ok (.iadd, 1) := by decide +kernel
theorem dX2_ratio_114 : decode cX2_ratio 114 = .ok (.ireturn, 1) := by decide +kernel
theorem dX2_sign_0 : decode cX2_sign 0 = .ok (.iload_n 1, 1) := by decide +kernel
theorem dX2_sign_1 : decode cX2_sign 1 = .ok (.invokestatic 39, 3) := by decide +kernel
theorem dX2_sign_4 : decode cX2_sign 4 = .ok (.ifCond .ne 5, 3) := by decide +kernel
theorem dX2_sign_7 : decode cX2_sign 7 = .ok (.iconst (-1), 1) := by decide +kernel
theorem dX2_sign_8 : decode cX2_sign 8 = .ok (.ireturn, 1) := by decide +kernel
theorem dX2_sign_9 : decode cX2_sign 9 = .ok (.aload_n 0, 1) := by decide +kernel
theorem dX2_sign_10 : decode cX2_sign 10 = .ok (.getfield 11, 3) := by decide +kernel
theorem dX2_sign_13 : decode cX2_sign 13 = .ok (.iload_n 1, 1) := by decide +kernel
theorem dX2_sign_14 : decode cX2_sign 14 = .ok (.aaload, 1) := by decide +kernel
theorem dX2_sign_15 : decode cX2_sign 15 = .ok (.invokevirtual 88, 3) := by decide +kernel
theorem dX2_sign_18 : decode cX2_sign 18 = .ok (.ifCond .eq 5, 3) := by decide +kernel
theorem dX2_sign_21 : decode cX2_sign 21 = .ok (.iconst 1, 1) := by decide +kernel
theorem dX2_sign_22 : decode cX2_sign 22 = .ok (.ireturn, 1) := by decide +kernel
theorem dX2_sign_23 : decode cX2_sign 23 = .ok (.aload_n 0, 1) := by decide +kernel
theorem dX2_sign_24 : decode cX2_sign 24 = .ok (.getfield 11, 3) := by decide +kernel
theorem dX2_sign_27 : decode cX2_sign 27 = .ok (.iload_n 1, 1) := by decide +kernel
theorem dX2_sign_28 : decode cX2_sign 28 = .ok (.aaload, 1) := by decide +kernel
theorem dX2_sign_29 : decode cX2_sign 29 = .ok (.getfield 76, 3) := by decide +kernel
theorem dX2_sign_32 : decode cX2_sign 32 = .ok (.ifCond .eq 7, 3) := by decide +kernel
theorem dX2_sign_35 : decode cX2_sign 35 = .ok (.iconst 0, 1) := by decide +kernel
theorem dX2_sign_36 : decode cX2_sign 36 = .ok (.goto 4, 3) := by decide +kernel
theorem dX2_sign_39 : decode cX2_sign 39 = .ok (.iconst 2, 1) := by decide +kernel
theorem dX2_sign_40 : decode cX2_sign 40 = .ok (.ireturn, 1) := by decide +kernel
theorem dX2_digits_0 : decode cX2_digits 0 = .ok (.iload_n 1, 1) := by decide +kernel
theorem dX2_digits_1 : decode cX2_digits 1 = .ok (.invokestatic 39, 3) := by decide +kernel
theorem dX2_digits_4 : decode cX2_digits 4 = .ok (.ifCond .ne 5, 3) := by decide +kernel
theorem dX2_digits_7 : decode cX2_digits 7 = .ok (.iconst (-1), 1) := by decide +kernel
theorem dX2_digits_8 : decode cX2_digits 8 = .ok (.ireturn, 1) := by decide +kernel
theorem dX2_digits_9 : decode cX2_digits 9 = .ok (.aload_n 0, 1) := by decide +kernel
theorem dX2_digits_10 : decode cX2_digits 10 = .ok (.getfield 11, 3) := by decide +kernel
theorem dX2_digits_13 : decode cX2_digits 13 = .ok (.iload_n 1, 1) := by decide +kernel
theorem dX2_digits_14 : decode cX2_digits 14 = .ok (.aaload, 1) := by decide +kernel
theorem dX2_digits_15 : decode cX2_digits 15 = .ok (.invokevirtual 107, 3) := by decide +kernel
theorem dX2_digits_18 : decode cX2_digits 18 = .ok (.ireturn, 1) := by decide +kernel
theorem dX2_digitAt_0 : decode cX2_digitAt 0 = .ok (.iload_n 1, 1) := by decide +kernel
theorem dX2_digitAt_1 : decode cX2_digitAt 1 = .ok (.invokestatic 39, 3) := by decide +kernel
theorem dX2_digitAt_4 : decode cX2_digitAt 4 = .ok (.ifCond .eq 20, 3) := by decide +kernel
theorem dX2_digitAt_7 : decode cX2_digitAt 7 = .ok (.iload_n 2, 1) := by decide +kernel
theorem dX2_digitAt_8 : decode cX2_digitAt 8 = .ok (.ifCond .lt 16, 3) := by decide +kernel
theorem dX2_digitAt_11 : decode cX2_digitAt 11 = .ok (.iload_n 2, 1) := by decide +kernel
theorem dX2_digitAt_12 : decode cX2_digitAt 12 = .ok (.aload_n 0, 1) := by decide +kernel
theorem dX2_digitAt_13 : decode cX2_digitAt 13 = .ok (.getfield 11, 3) := by decide +kernel
theorem dX2_digitAt_16 : decode cX2_digitAt 16 = .ok (.iload_n 1, 1) := by decide +kernel
theorem dX2_digitAt_17 : decode cX2_digitAt 17 = .ok (.aaload, 1) := by decide +kernel
theorem dX2_digitAt_18 : decode cX2_digitAt 18 = .ok (.invokevirtual 107, 3) := by decide +kernel
theorem dX2_digitAt_21 : decode cX2_digitAt 21 = .ok (.if_icmp .lt 5, 3) := by decide +kernel
theorem dX2_digitAt_24 : decode cX2_digitAt 24 = .ok (.iconst (-1), 1) := by decide +kernel
theorem dX2_digitAt_25 : decode cX2_digitAt 25 = .ok (.ireturn, 1) := by decide +kernel
theorem dX2_digitAt_26 : decode cX2_digitAt 26 = .ok (.aload_n 0, 1) := by decide +kernel
theorem dX2_digitAt_27 : decode cX2_digitAt 27 = .ok (.getfield 11, 3) := by decide +kernel
theorem dX2_digitAt_30 : decode cX2_digitAt 30 = .ok (.iload_n 1, 1) := by decide +kernel
theorem dX2_digitAt_31 : decode cX2_digitAt 31 = .ok (.aaload, 1) := by decide +kernel
theorem dX2_digitAt_32 : decode cX2_digitAt 32 = .ok (.aload_n 0, 1) := by decide +kernel
theorem dX2_digitAt_33 : decode cX2_digitAt 33 = .ok (.getfield 11, 3) := by decide +kernel
theorem dX2_digitAt_36 : decode cX2_digitAt 36 = .ok (.iload_n 1, 1) := by decide +kernel
theorem dX2_digitAt_37 : decode cX2_digitAt 37 = .ok (.aaload, 1) := by decide +kernel
theorem dX2_digitAt_38 : decode cX2_digitAt 38 = .ok (.invokevirtual 107, 3) := by decide +kernel
theorem dX2_digitAt_41 : decode cX2_digitAt 41 = .ok (.iconst 1, 1) := by decide +kernel
theorem dX2_digitAt_42 : decode cX2_digitAt 42 = .ok (.isub, 1) := by decide +kernel
theorem dX2_digitAt_43 : decode cX2_digitAt 43 = .ok (.iload_n 2, 1) := by decide +kernel
theorem dX2_digitAt_44 : decode cX2_digitAt 44 = .ok (.isub, 1) := by decide +kernel
theorem dX2_digitAt_45 : decode cX2_digitAt 45 = .ok (.invokevirtual 111, 3) := by decide +kernel
theorem dX2_digitAt_48 : decode cX2_digitAt 48 = .ok (.ireturn, 1) := by decide +kernel
theorem dX2_modulo_0 : decode cX2_modulo 0 = .ok (.iload_n 1, 1) := by decide +kernel
theorem dX2_modulo_1 : decode cX2_modulo 1 = .ok (.invokestatic 39, 3) := by decide +kernel
theorem dX2_modulo_4 : decode cX2_modulo 4 = .ok (.ifCond .eq 17, 3) := by decide +kernel
theorem dX2_modulo_7 : decode cX2_modulo 7 = .ok (.lload_n 2, 1) := by decide +kernel
theorem dX2_modulo_8 : decode cX2_modulo 8 = .ok (.lconst 1, 1) := by decide +kernel
theorem dX2_modulo_9 : decode cX2_modulo 9 = .ok (.lcmp, 1) := by decide +kernel
theorem dX2_modulo_10 : decode cX2_modulo 10 = .ok (.ifCond .lt 11, 3) := by decide +kernel
theorem dX2_modulo_13 : decode cX2_modulo 13 = .ok (.lload_n 2, 1) := by decide +kernel
theorem dX2_modulo_14 : decode cX2_modulo 14 = .ok (.ldc2_w 115, 3) := by decide +kernel
theorem dX2_modulo_17 : decode cX2_modulo 17 = .ok (.lcmp, 1) := by decide +kernel
theorem dX2_modulo_18 : decode cX2_modulo 18 = .ok (.ifCond .le 7, 3) := by decide +kernel
theorem dX2_modulo_21 : decode cX2_modulo 21 = .ok (.ldc2_w 117, 3) := by decide +kernel
theorem dX2_modulo_24 : decode cX2_modulo 24 = .ok (.lreturn, 1) := by decide +kernel
theorem dX2_modulo_25 : decode cX2_modulo 25 = .ok (.aload_n 0, 1) := by decide +kernel
theorem dX2_modulo_26 : decode cX2_modulo 26 = .ok (.getfield 11, 3) := by decide +kernel
theorem dX2_modulo_29 : decode cX2_modulo 29 = .ok (.iload_n 1, 1) := by decide +kernel
theorem dX2_modulo_30 : decode cX2_modulo 30 = .ok (.aaload, 1) := by decide +kernel
theorem dX2_modulo_31 : decode cX2_modulo 31 = .ok (.lload_n 2, 1) := by decide +kernel
theorem dX2_modulo_32 : decode cX2_modulo 32 = .ok (.invokevirtual 119, 3) := by decide +kernel
theorem dX2_modulo_35 : decode cX2_modulo 35 = .ok (.lreturn, 1) := by decide +kernel
theorem dX2_low_0 : decode cX2_low 0 = .ok (.iload_n 1, 1) := by decide +kernel
theorem dX2_low_1 : decode cX2_low 1 = .ok (.invokestatic 39, 3) := by decide +kernel
theorem dX2_low_4 : decode cX2_low 4 = .ok (.ifCond .ne 5, 3) := by decide +kernel
theorem dX2_low_7 : decode cX2_low 7 = .ok (.lconst 0, 1) := by decide +kernel
theorem dX2_low_8 : decode cX2_low 8 = .ok (.lreturn, 1) := by decide +kernel
theorem dX2_low_9 : decode cX2_low 9 = .ok (.aload_n 0, 1) := by decide +kernel
theorem dX2_low_10 : decode cX2_low 10 = .ok (.getfield 11, 3) := by decide +kernel
theorem dX2_low_13 : decode cX2_low 13 = .ok (.iload_n 1, 1) := by decide +kernel
theorem dX2_low_14 : decode cX2_low 14 = .ok (.aaload, 1) := by decide +kernel
theorem dX2_low_15 : decode cX2_low 15 = .ok (.invokevirtual 123, 3) := by decide +kernel
theorem dX2_low_18 : decode cX2_low 18 = .ok (.lreturn, 1) := by decide +kernel
theorem dX2_isSlot_0 : decode cX2_isSlot 0 = .ok (.iload_n 0, 1) := by decide +kernel
theorem dX2_isSlot_1 : decode cX2_isSlot 1 = .ok (.ifCond .lt 13, 3) := by decide +kernel
theorem dX2_isSlot_4 : decode cX2_isSlot 4 = .ok (.iload_n 0, 1) := by decide +kernel
theorem dX2_isSlot_5 : decode cX2_isSlot 5 = .ok (.bipush 16, 2) := by decide +kernel
theorem dX2_isSlot_7 : decode cX2_isSlot 7 = .ok (.if_icmp .ge 7, 3) := by decide +kernel
theorem dX2_isSlot_10 : decode cX2_isSlot 10 = .ok (.iconst 1, 1) := by decide +kernel
theorem dX2_isSlot_11 : decode cX2_isSlot 11 = .ok (.goto 4, 3) := by decide +kernel
theorem dX2_isSlot_14 : decode cX2_isSlot 14 = .ok (.iconst 0, 1) := by decide +kernel
theorem dX2_isSlot_15 : decode cX2_isSlot 15 = .ok (.ireturn, 1) := by decide +kernel
theorem dX2_areSlots_0 : decode cX2_areSlots 0 = .ok (.iload_n 0, 1) := by decide +kernel
theorem dX2_areSlots_1 : decode cX2_areSlots 1 = .ok (.invokestatic 39, 3) := by decide +kernel
theorem dX2_areSlots_4 : decode cX2_areSlots 4 = .ok (.ifCond .eq 14, 3) := by decide +kernel
theorem dX2_areSlots_7 : decode cX2_areSlots 7 = .ok (.iload_n 1, 1) := by decide +kernel
theorem dX2_areSlots_8 : decode cX2_areSlots 8 = .ok (.invokestatic 39, 3) := by decide +kernel
theorem dX2_areSlots_11 : decode cX2_areSlots 11 = .ok (.ifCond .eq 7, 3) := by decide +kernel
theorem dX2_areSlots_14 : decode cX2_areSlots 14 = .ok (.iconst 1, 1) := by decide +kernel
theorem dX2_areSlots_15 : decode cX2_areSlots 15 = .ok (.goto 4, 3) := by decide +kernel
theorem dX2_areSlots_18 : decode cX2_areSlots 18 = .ok (.iconst 0, 1) := by decide +kernel
theorem dX2_areSlots_19 : decode cX2_areSlots 19 = .ok (.ireturn, 1) := by decide +kernel
theorem dX2_areFractions_0 : decode cX2_areFractions 0 = .ok (.iload_n 1, 1) := by decide +kernel
theorem dX2_areFractions_1 : decode cX2_areFractions 1 = .ok (.iload_n 2, 1) := by decide +kernel
theorem dX2_areFractions_2 : decode cX2_areFractions 2 = .ok (.invokestatic 61, 3) := by decide +kernel
theorem dX2_areFractions_5 : decode cX2_areFractions 5 = .ok (.ifCond .eq 41, 3) := by decide +kernel
theorem dX2_areFractions_8 : decode cX2_areFractions 8 = .ok (.iload_n 3, 1) := by decide +kernel
theorem dX2_areFractions_9 : decode cX2_areFractions 9 = .ok (.iload 4, 2) := by decide +kernel
theorem dX2_areFractions_11 : decode cX2_areFractions 11 = .ok (.invokestatic 61, 3) := by decide +kernel
theorem dX2_areFractions_14 : decode cX2_areFractions 14 = .ok (.ifCond .eq 32, 3) := by decide +kernel
theorem dX2_areFractions_17 : decode cX2_areFractions 17 = .ok (.aload_n 0, 1) := by decide +kernel
theorem dX2_areFractions_18 : decode cX2_areFractions 18 = .ok (.getfield 11, 3) := by decide +kernel
theorem dX2_areFractions_21 : decode cX2_areFractions 21 = .ok (.iload_n 2, 1) := by decide +kernel
theorem dX2_areFractions_22 : decode cX2_areFractions 22 = .ok (.aaload, 1) := by decide +kernel
theorem dX2_areFractions_23 : decode cX2_areFractions 23 = .ok (.invokevirtual 88, 3) := by decide +kernel
theorem dX2_areFractions_26 : decode cX2_areFractions 26 = .ok (.ifCond .ne 20, 3) := by decide +kernel
theorem dX2_areFractions_29 : decode cX2_areFractions 29 = .ok (.aload_n 0, 1) := by decide +kernel
theorem dX2_areFractions_30 : decode cX2_areFractions 30 = .ok (.getfield 11, 3) := by decide +kernel
theorem dX2_areFractions_33 : decode cX2_areFractions 33 = .ok (.iload 4, 2) := by decide +kernel
theorem dX2_areFractions_35 : decode cX2_areFractions 35 = .ok (.aaload, 1) := by decide +kernel
theorem dX2_areFractions_36 : decode cX2_areFractions 36 = .ok (.invokevirtual 88, 3) := by decide +kernel
theorem dX2_areFractions_39 : decode cX2_areFractions 39 = .ok (.ifCond .ne 7, 3) := by decide +kernel
theorem dX2_areFractions_42 : decode cX2_areFractions 42 = .ok (.iconst 1, 1) := by decide +kernel
theorem dX2_areFractions_43 : decode cX2_areFractions 43 = .ok (.goto 4, 3) := by decide +kernel
theorem dX2_areFractions_46 : decode cX2_areFractions 46 = .ok (.iconst 0, 1) := by decide +kernel
theorem dX2_areFractions_47 : decode cX2_areFractions 47 = .ok (.ireturn, 1) := by decide +kernel
theorem dX2_keep_0 : decode cX2_keep 0 = .ok (.aload_n 1, 1) := by decide +kernel
theorem dX2_keep_1 : decode cX2_keep 1 = .ok (.invokevirtual 84, 3) := by decide +kernel
theorem dX2_keep_4 : decode cX2_keep 4 = .ok (.ifCond .eq 5, 3) := by decide +kernel
theorem dX2_keep_7 : decode cX2_keep 7 = .ok (.iconst (-1), 1) := by decide +kernel
theorem dX2_keep_8 : decode cX2_keep 8 = .ok (.ireturn, 1) := by decide +kernel
theorem dX2_keep_9 : decode cX2_keep 9 = .ok (.aload_n 0, 1) := by decide +kernel
theorem dX2_keep_10 : decode cX2_keep 10 = .ok (.getfield 11, 3) := by decide +kernel
theorem dX2_keep_13 : decode cX2_keep 13 = .ok (.iload_n 2, 1) := by decide +kernel
theorem dX2_keep_14 : decode cX2_keep 14 = .ok (.aaload, 1) := by decide +kernel
theorem dX2_keep_15 : decode cX2_keep 15 = .ok (.aload_n 1, 1) := by decide +kernel
theorem dX2_keep_16 : decode cX2_keep 16 = .ok (.invokevirtual 91, 3) := by decide +kernel
theorem dX2_keep_19 : decode cX2_keep 19 = .ok (.iconst 1, 1) := by decide +kernel
theorem dX2_keep_20 : decode cX2_keep 20 = .ok (.ireturn, 1) := by decide +kernel
theorem dX2_addOrTakeAway_0 : decode cX2_addOrTakeAway 0 = .ok (.iload_n 1, 1) := by decide +kernel
theorem dX2_addOrTakeAway_1 : decode cX2_addOrTakeAway 1 = .ok (.iload_n 2, 1) := by decide +kernel
theorem dX2_addOrTakeAway_2 : decode cX2_addOrTakeAway 2 = .ok (.invokestatic 61, 3) := by decide +kernel
theorem dX2_addOrTakeAway_5 : decode cX2_addOrTakeAway 5 = .ok (.ifCond .eq 10, 3) := by decide +kernel
theorem dX2_addOrTakeAway_8 : decode cX2_addOrTakeAway 8 = .ok (.iload_n 3, 1) := by decide +kernel
theorem dX2_addOrTakeAway_9 : decode cX2_addOrTakeAway 9 = .ok (.invokestatic 39, 3) := by decide +kernel
theorem dX2_addOrTakeAway_12 : decode cX2_addOrTakeAway 12 = .ok (.ifCond .ne 5, 3) := by decide +kernel
theorem dX2_addOrTakeAway_15 : decode cX2_addOrTakeAway 15 = .ok (.iconst (-1), 1) := by decide +kernel
theorem dX2_addOrTakeAway_16 : decode cX2_addOrTakeAway 16 = .ok (.ireturn, 1) := by decide +kernel
theorem dX2_addOrTakeAway_17 : decode cX2_addOrTakeAway 17 = .ok (.aload_n 0, 1) := by decide +kernel
theorem dX2_addOrTakeAway_18 : decode cX2_addOrTakeAway 18 = .ok (.getfield 16, 3) := by decide +kernel
theorem dX2_addOrTakeAway_21 : decode cX2_addOrTakeAway 21 = .ok (.aload_n 0, 1) := by decide +kernel
theorem dX2_addOrTakeAway_22 : decode cX2_addOrTakeAway 22 = .ok (.getfield 11, 3) := by decide +kernel
theorem dX2_addOrTakeAway_25 : decode cX2_addOrTakeAway 25 = .ok (.iload_n 1, 1) := by decide +kernel
theorem dX2_addOrTakeAway_26 : decode cX2_addOrTakeAway 26 = .ok (.aaload, 1) := by decide +kernel
theorem dX2_addOrTakeAway_27 : decode cX2_addOrTakeAway 27 = .ok (.aload_n 0, 1) := by decide +kernel
theorem dX2_addOrTakeAway_28 : decode cX2_addOrTakeAway 28 = .ok (.getfield 11, 3) := by decide +kernel
theorem dX2_addOrTakeAway_31 : decode cX2_addOrTakeAway 31 = .ok (.iload_n 2, 1) := by decide +kernel
theorem dX2_addOrTakeAway_32 : decode cX2_addOrTakeAway 32 = .ok (.aaload, 1) := by decide +kernel
theorem dX2_addOrTakeAway_33 : decode cX2_addOrTakeAway 33 = .ok (.iload 4, 2) := by decide +kernel
theorem dX2_addOrTakeAway_35 : decode cX2_addOrTakeAway 35 = .ok (.invokevirtual 53, 3) := by decide +kernel
theorem dX2_addOrTakeAway_38 : decode cX2_addOrTakeAway 38 = .ok (.aload_n 0, 1) := by decide +kernel
theorem dX2_addOrTakeAway_39 : decode cX2_addOrTakeAway 39 = .ok (.aload_n 0, 1) := by decide +kernel
theorem dX2_addOrTakeAway_40 : decode cX2_addOrTakeAway 40 = .ok (.getfield 16, 3) := by decide +kernel
theorem dX2_addOrTakeAway_43 : decode cX2_addOrTakeAway 43 = .ok (.iload_n 3, 1) := by decide +kernel
theorem dX2_addOrTakeAway_44 : decode cX2_addOrTakeAway 44 = .ok (.invokevirtual 57, 3) := by decide +kernel
theorem dX2_addOrTakeAway_47 : decode cX2_addOrTakeAway 47 = .ok (.ireturn, 1) := by decide +kernel
theorem dX2_divideSlots_0 : decode cX2_divideSlots 0 = .ok (.iload_n 1, 1) := by decide +kernel
theorem dX2_divideSlots_1 : decode cX2_divideSlots 1 = .ok (.iload_n 2, 1) := by decide +kernel
theorem dX2_divideSlots_2 : decode cX2_divideSlots 2 = .ok (.invokestatic 61, 3) := by decide +kernel
theorem dX2_divideSlots_5 : decode cX2_divideSlots 5 = .ok (.ifCond .eq 15, 3) := by decide +kernel
theorem dX2_divideSlots_8 : decode cX2_divideSlots 8 = .ok (.aload_n 0, 1) := by decide +kernel
theorem dX2_divideSlots_9 : decode cX2_divideSlots 9 = .ok (.getfield 11, 3) := by decide +kernel
theorem dX2_divideSlots_12 : decode cX2_divideSlots 12 = .ok (.iload_n 2, 1) := by decide +kernel
theorem dX2_divideSlots_13 : decode cX2_divideSlots 13 = .ok (.aaload, 1) := by decide +kernel
theorem dX2_divideSlots_14 : decode cX2_divideSlots 14 = .ok (.invokevirtual 88, 3) := by decide +kernel
theorem dX2_divideSlots_17 : decode cX2_divideSlots 17 = .ok (.ifCond .eq 5, 3) := by decide +kernel
theorem dX2_divideSlots_20 : decode cX2_divideSlots 20 = .ok (.iconst 0, 1) := by decide +kernel
theorem dX2_divideSlots_21 : decode cX2_divideSlots 21 = .ok (.ireturn, 1) := by decide +kernel
theorem dX2_divideSlots_22 : decode cX2_divideSlots 22 = .ok (.aload_n 0, 1) := by decide +kernel
theorem dX2_divideSlots_23 : decode cX2_divideSlots 23 = .ok (.getfield 16, 3) := by decide +kernel
theorem dX2_divideSlots_26 : decode cX2_divideSlots 26 = .ok (.aload_n 0, 1) := by decide +kernel
theorem dX2_divideSlots_27 : decode cX2_divideSlots 27 = .ok (.getfield 11, 3) := by decide +kernel
theorem dX2_divideSlots_30 : decode cX2_divideSlots 30 = .ok (.iload_n 1, 1) := by decide +kernel
theorem dX2_divideSlots_31 : decode cX2_divideSlots 31 = .ok (.aaload, 1) := by decide +kernel
theorem dX2_divideSlots_32 : decode cX2_divideSlots 32 = .ok (.invokevirtual 91, 3) := by decide +kernel
theorem dX2_divideSlots_35 : decode cX2_divideSlots 35 = .ok (.aload_n 0, 1) := by decide +kernel
theorem dX2_divideSlots_36 : decode cX2_divideSlots 36 = .ok (.getfield 16, 3) := by decide +kernel
theorem dX2_divideSlots_39 : decode cX2_divideSlots 39 = .ok (.aload_n 0, 1) := by decide +kernel
theorem dX2_divideSlots_40 : decode cX2_divideSlots 40 = .ok (.getfield 11, 3) := by decide +kernel
theorem dX2_divideSlots_43 : decode cX2_divideSlots 43 = .ok (.iload_n 2, 1) := by decide +kernel
theorem dX2_divideSlots_44 : decode cX2_divideSlots 44 = .ok (.aaload, 1) := by decide +kernel
theorem dX2_divideSlots_45 : decode cX2_divideSlots 45 = .ok (.aload_n 0, 1) := by decide +kernel
theorem dX2_divideSlots_46 : decode cX2_divideSlots 46 = .ok (.getfield 29, 3) := by decide +kernel
theorem dX2_divideSlots_49 : decode cX2_divideSlots 49 = .ok (.invokevirtual 127, 3) := by decide +kernel
theorem dX2_divideSlots_52 : decode cX2_divideSlots 52 = .ok (.iconst 1, 1) := by decide +kernel
theorem dX2_divideSlots_53 : decode cX2_divideSlots 53 = .ok (.ireturn, 1) := by decide +kernel
theorem dX2_squareRoot_0 : decode cX2_squareRoot 0 = .ok (.aload_n 0, 1) := by decide +kernel
theorem dX2_squareRoot_1 : decode cX2_squareRoot 1 = .ok (.getfield 23, 3) := by decide +kernel
theorem dX2_squareRoot_4 : decode cX2_squareRoot 4 = .ok (.astore_n 2, 1) := by decide +kernel
theorem dX2_squareRoot_5 : decode cX2_squareRoot 5 = .ok (.aload_n 0, 1) := by decide +kernel
theorem dX2_squareRoot_6 : decode cX2_squareRoot 6 = .ok (.getfield 26, 3) := by decide +kernel
theorem dX2_squareRoot_9 : decode cX2_squareRoot 9 = .ok (.astore_n 3, 1) := by decide +kernel
theorem dX2_squareRoot_10 : decode cX2_squareRoot 10 = .ok (.aload_n 1, 1) := by decide +kernel
theorem dX2_squareRoot_11 : decode cX2_squareRoot 11 = .ok (.invokevirtual 88, 3) := by decide +kernel
theorem dX2_squareRoot_14 : decode cX2_squareRoot 14 = .ok (.ifCond .eq 5, 3) := by decide +kernel
theorem dX2_squareRoot_17 : decode cX2_squareRoot 17 = .ok (.aload_n 1, 1) := by decide +kernel
theorem dX2_squareRoot_18 : decode cX2_squareRoot 18 = .ok (.areturn, 1) := by decide +kernel
theorem dX2_squareRoot_19 : decode cX2_squareRoot 19 = .ok (.aload_n 2, 1) := by decide +kernel
theorem dX2_squareRoot_20 : decode cX2_squareRoot 20 = .ok (.aload_n 1, 1) := by decide +kernel
theorem dX2_squareRoot_21 : decode cX2_squareRoot 21 = .ok (.invokevirtual 130, 3) := by decide +kernel
theorem dX2_squareRoot_24 : decode cX2_squareRoot 24 = .ok (.iconst 0, 1) := by decide +kernel
theorem dX2_squareRoot_25 : decode cX2_squareRoot 25 = .ok (.istore 4, 2) := by decide +kernel
theorem dX2_squareRoot_27 : decode cX2_squareRoot 27 = .ok (.iload 4, 2) := by decide +kernel
theorem dX2_squareRoot_29 : decode cX2_squareRoot 29 = .ok (.bipush 64, 2) := by decide +kernel
theorem dX2_squareRoot_31 : decode cX2_squareRoot 31 = .ok (.if_icmp .ge 61, 3) := by decide +kernel
theorem dX2_squareRoot_34 : decode cX2_squareRoot 34 = .ok (.aload_n 0, 1) := by decide +kernel
theorem dX2_squareRoot_35 : decode cX2_squareRoot 35 = .ok (.getfield 16, 3) := by decide +kernel
theorem dX2_squareRoot_38 : decode cX2_squareRoot 38 = .ok (.aload_n 1, 1) := by decide +kernel
theorem dX2_squareRoot_39 : decode cX2_squareRoot 39 = .ok (.invokevirtual 91, 3) := by decide +kernel
theorem dX2_squareRoot_42 : decode cX2_squareRoot 42 = .ok (.aload_n 0, 1) := by decide +kernel
theorem dX2_squareRoot_43 : decode cX2_squareRoot 43 = .ok (.getfield 16, 3) := by decide +kernel
theorem dX2_squareRoot_46 : decode cX2_squareRoot 46 = .ok (.aload_n 2, 1) := by decide +kernel
theorem dX2_squareRoot_47 : decode cX2_squareRoot 47 = .ok (.aload_n 0, 1) := by decide +kernel
theorem dX2_squareRoot_48 : decode cX2_squareRoot 48 = .ok (.getfield 29, 3) := by decide +kernel
theorem dX2_squareRoot_51 : decode cX2_squareRoot 51 = .ok (.invokevirtual 127, 3) := by decide +kernel
theorem dX2_squareRoot_54 : decode cX2_squareRoot 54 = .ok (.aload_n 3, 1) := by decide +kernel
theorem dX2_squareRoot_55 : decode cX2_squareRoot 55 = .ok (.aload_n 2, 1) := by decide +kernel
theorem dX2_squareRoot_56 : decode cX2_squareRoot 56 = .ok (.aload_n 0, 1) := by decide +kernel
theorem dX2_squareRoot_57 : decode cX2_squareRoot 57 = .ok (.getfield 29, 3) := by decide +kernel
theorem dX2_squareRoot_60 : decode cX2_squareRoot 60 = .ok (.iconst 0, 1) := by decide +kernel
theorem dX2_squareRoot_61 : decode cX2_squareRoot 61 = .ok (.invokevirtual 53, 3) := by decide +kernel
theorem dX2_squareRoot_64 : decode cX2_squareRoot 64 = .ok (.aload_n 3, 1) := by decide +kernel
theorem dX2_squareRoot_65 : decode cX2_squareRoot 65 = .ok (.invokevirtual 133, 3) := by decide +kernel
theorem dX2_squareRoot_68 : decode cX2_squareRoot 68 = .ok (.aload_n 3, 1) := by decide +kernel
theorem dX2_squareRoot_69 : decode cX2_squareRoot 69 = .ok (.aload_n 2, 1) := by decide +kernel
theorem dX2_squareRoot_70 : decode cX2_squareRoot 70 = .ok (.invokevirtual 136, 3) := by decide +kernel
theorem dX2_squareRoot_73 : decode cX2_squareRoot 73 = .ok (.ifCond .lt 5, 3) := by decide +kernel
theorem dX2_squareRoot_76 : decode cX2_squareRoot 76 = .ok (.aload_n 2, 1) := by decide +kernel
theorem dX2_squareRoot_77 : decode cX2_squareRoot 77 = .ok (.areturn, 1) := by decide +kernel
theorem dX2_squareRoot_78 : decode cX2_squareRoot 78 = .ok (.aload_n 2, 1) := by decide +kernel
theorem dX2_squareRoot_79 : decode cX2_squareRoot 79 = .ok (.astore 5, 2) := by decide +kernel
theorem dX2_squareRoot_81 : decode cX2_squareRoot 81 = .ok (.aload_n 3, 1) := by decide +kernel
theorem dX2_squareRoot_82 : decode cX2_squareRoot 82 = .ok (.astore_n 2, 1) := by decide +kernel
theorem dX2_squareRoot_83 : decode cX2_squareRoot 83 = .ok (.aload 5, 2) := by decide +kernel
theorem dX2_squareRoot_85 : decode cX2_squareRoot 85 = .ok (.astore_n 3, 1) := by decide +kernel
theorem dX2_squareRoot_86 : decode cX2_squareRoot 86 = .ok (.iinc 4 1, 3) := by decide +kernel
theorem dX2_squareRoot_89 : decode cX2_squareRoot 89 = .ok (.goto (-62), 3) := by decide +kernel
theorem dX2_squareRoot_92 : decode cX2_squareRoot 92 = .ok (.aload_n 2, 1) := by decide +kernel
theorem dX2_squareRoot_93 : decode cX2_squareRoot 93 = .ok (.areturn, 1) := by decide +kernel
theorem dX2_keepLowest_0 : decode cX2_keepLowest 0 = .ok (.aload_n 0, 1) := by decide +kernel
theorem dX2_keepLowest_1 : decode cX2_keepLowest 1 = .ok (.getfield 35, 3) := by decide +kernel
theorem dX2_keepLowest_4 : decode cX2_keepLowest 4 = .ok (.aload_n 0, 1) := by decide +kernel
theorem dX2_keepLowest_5 : decode cX2_keepLowest 5 = .ok (.getfield 16, 3) := by decide +kernel
theorem dX2_keepLowest_8 : decode cX2_keepLowest 8 = .ok (.aload_n 0, 1) := by decide +kernel
theorem dX2_keepLowest_9 : decode cX2_keepLowest 9 = .ok (.getfield 20, 3) := by decide +kernel
theorem dX2_keepLowest_12 : decode cX2_keepLowest 12 = .ok (.invokevirtual 72, 3) := by decide +kernel
theorem dX2_keepLowest_15 : decode cX2_keepLowest 15 = .ok (.astore_n 3, 1) := by decide +kernel
theorem dX2_keepLowest_16 : decode cX2_keepLowest 16 = .ok (.aload_n 0, 1) := by decide +kernel
theorem dX2_keepLowest_17 : decode cX2_keepLowest 17 = .ok (.getfield 16, 3) := by decide +kernel
theorem dX2_keepLowest_20 : decode cX2_keepLowest 20 = .ok (.aload_n 3, 1) := by decide +kernel
theorem dX2_keepLowest_21 : decode cX2_keepLowest 21 = .ok (.aload_n 0, 1) := by decide +kernel
theorem dX2_keepLowest_22 : decode cX2_keepLowest 22 = .ok (.getfield 23, 3) := by decide +kernel
theorem dX2_keepLowest_25 : decode cX2_keepLowest 25 = .ok (.invokevirtual 127, 3) := by decide +kernel
theorem dX2_keepLowest_28 : decode cX2_keepLowest 28 = .ok (.aload_n 0, 1) := by decide +kernel
theorem dX2_keepLowest_29 : decode cX2_keepLowest 29 = .ok (.getfield 20, 3) := by decide +kernel
theorem dX2_keepLowest_32 : decode cX2_keepLowest 32 = .ok (.aload_n 3, 1) := by decide +kernel
theorem dX2_keepLowest_33 : decode cX2_keepLowest 33 = .ok (.aload_n 0, 1) := by decide +kernel
theorem dX2_keepLowest_34 : decode cX2_keepLowest 34 = .ok (.getfield 26, 3) := by decide +kernel
theorem dX2_keepLowest_37 : decode cX2_keepLowest 37 = .ok (.invokevirtual 127, 3) := by decide +kernel
theorem dX2_keepLowest_40 : decode cX2_keepLowest 40 = .ok (.aload_n 0, 1) := by decide +kernel
theorem dX2_keepLowest_41 : decode cX2_keepLowest 41 = .ok (.getfield 26, 3) := by decide +kernel
theorem dX2_keepLowest_44 : decode cX2_keepLowest 44 = .ok (.getfield 76, 3) := by decide +kernel
theorem dX2_keepLowest_47 : decode cX2_keepLowest 47 = .ok (.ifCond .eq 17, 3) := by decide +kernel
theorem dX2_keepLowest_50 : decode cX2_keepLowest 50 = .ok (.aload_n 0, 1) := by decide +kernel
theorem dX2_keepLowest_51 : decode cX2_keepLowest 51 = .ok (.getfield 23, 3) := by decide +kernel
theorem dX2_keepLowest_54 : decode cX2_keepLowest 54 = .ok (.invokevirtual 139, 3) := by decide +kernel
theorem dX2_keepLowest_57 : decode cX2_keepLowest 57 = .ok (.aload_n 0, 1) := by decide +kernel
theorem dX2_keepLowest_58 : decode cX2_keepLowest 58 = .ok (.getfield 26, 3) := by decide +kernel
theorem dX2_keepLowest_61 : decode cX2_keepLowest 61 = .ok (.invokevirtual 139, 3) := by decide +kernel
theorem dX2_keepLowest_64 : decode cX2_keepLowest 64 = .ok (.aload_n 0, 1) := by decide +kernel
theorem dX2_keepLowest_65 : decode cX2_keepLowest 65 = .ok (.getfield 23, 3) := by decide +kernel
theorem dX2_keepLowest_68 : decode cX2_keepLowest 68 = .ok (.invokevirtual 84, 3) := by decide +kernel
theorem dX2_keepLowest_71 : decode cX2_keepLowest 71 = .ok (.ifCond .ne 13, 3) := by decide +kernel
theorem dX2_keepLowest_74 : decode cX2_keepLowest 74 = .ok (.aload_n 0, 1) := by decide +kernel
theorem dX2_keepLowest_75 : decode cX2_keepLowest 75 = .ok (.getfield 26, 3) := by decide +kernel
theorem dX2_keepLowest_78 : decode cX2_keepLowest 78 = .ok (.invokevirtual 84, 3) := by decide +kernel
theorem dX2_keepLowest_81 : decode cX2_keepLowest 81 = .ok (.ifCond .eq 5, 3) := by decide +kernel
theorem dX2_keepLowest_84 : decode cX2_keepLowest 84 = .ok (.iconst (-1), 1) := by decide +kernel
theorem dX2_keepLowest_85 : decode cX2_keepLowest 85 = .ok (.ireturn, 1) := by decide +kernel
theorem dX2_keepLowest_86 : decode cX2_keepLowest 86 = .ok (.aload_n 0, 1) := by decide +kernel
theorem dX2_keepLowest_87 : decode cX2_keepLowest 87 = .ok (.getfield 11, 3) := by decide +kernel
theorem dX2_keepLowest_90 : decode cX2_keepLowest 90 = .ok (.iload_n 1, 1) := by decide +kernel
theorem dX2_keepLowest_91 : decode cX2_keepLowest 91 = .ok (.aaload, 1) := by decide +kernel
theorem dX2_keepLowest_92 : decode cX2_keepLowest 92 = .ok (.aload_n 0, 1) := by decide +kernel
theorem dX2_keepLowest_93 : decode cX2_keepLowest 93 = .ok (.getfield 23, 3) := by decide +kernel
theorem dX2_keepLowest_96 : decode cX2_keepLowest 96 = .ok (.invokevirtual 91, 3) := by decide +kernel
theorem dX2_keepLowest_99 : decode cX2_keepLowest 99 = .ok (.aload_n 0, 1) := by decide +kernel
theorem dX2_keepLowest_100 : decode cX2_keepLowest 100 = .ok (.getfield 11, 3) := by decide +kernel
theorem dX2_keepLowest_103 : decode cX2_keepLowest 103 = .ok (.iload_n 2, 1) := by decide +kernel
theorem dX2_keepLowest_104 : decode cX2_keepLowest 104 = .ok (.aaload, 1) := by decide +kernel
theorem dX2_keepLowest_105 : decode cX2_keepLowest 105 = .ok (.aload_n 0, 1) := by decide +kernel
theorem dX2_keepLowest_106 : decode cX2_keepLowest 106 = .ok (.getfield 26, 3) := by decide +kernel
theorem dX2_keepLowest_109 : decode cX2_keepLowest 109 = .ok (.invokevirtual 91, 3) := by decide +kernel
theorem dX2_keepLowest_112 : decode cX2_keepLowest 112 = .ok (.iconst 1, 1) := by decide +kernel
theorem dX2_keepLowest_113 : decode cX2_keepLowest 113 = .ok (.ireturn, 1) := by decide +kernel
