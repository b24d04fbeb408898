theorem dX0_init_0 : decode cX0_init 0 = .ok (.aload_n 0, 1) := by decide +kernel
theorem dX0_init_1 : decode cX0_init 1 = .ok (.invokespecial 3, 3) := by decide +kernel
theorem dX0_init_4 : decode cX0_init 4 = .ok (.aload_n 0, 1) := by decide +kernel
theorem dX0_init_5 : decode cX0_init 5 = .ok (.iconst 0, 1) := by decide +kernel
theorem dX0_init_6 : decode cX0_init 6 = .ok (.putfield 9, 3) := by decide +kernel
theorem dX0_init_9 : decode cX0_init 9 = .ok (.aload_n 0, 1) := by decide +kernel
theorem dX0_init_10 : decode cX0_init 10 = .ok (.iconst 0, 1) := by decide +kernel
theorem dX0_init_11 : decode cX0_init 11 = .ok (.putfield 15, 3) := by decide +kernel
theorem dX0_init_14 : decode cX0_init 14 = .ok (.aload_n 0, 1) := by decide +kernel
theorem dX0_init_15 : decode cX0_init 15 = .ok (.sipush 300, 3) := by decide +kernel
theorem dX0_init_18 : decode cX0_init 18 = .ok (.newarray .int, 2) := by decide +kernel
theorem dX0_init_20 : decode cX0_init 20 = .ok (.putfield 19, 3) := by decide +kernel
theorem dX0_init_23 : decode cX0_init 23 = .ok (.aload_n 0, 1) := by decide +kernel
theorem dX0_init_24 : decode cX0_init 24 = .ok (.sipush 300, 3) := by decide +kernel
theorem dX0_init_27 : decode cX0_init 27 = .ok (.newarray .int, 2) := by decide +kernel
theorem dX0_init_29 : decode cX0_init 29 = .ok (.putfield 23, 3) := by decide +kernel
theorem dX0_init_32 : decode cX0_init 32 = .ok (.aload_n 0, 1) := by decide +kernel
theorem dX0_init_33 : decode cX0_init 33 = .ok (.sipush 300, 3) := by decide +kernel
theorem dX0_init_36 : decode cX0_init 36 = .ok (.newarray .int, 2) := by decide +kernel
theorem dX0_init_38 : decode cX0_init 38 = .ok (.putfield 26, 3) := by decide +kernel
theorem dX0_init_41 : decode cX0_init 41 = .ok (.aload_n 0, 1) := by decide +kernel
theorem dX0_init_42 : decode cX0_init 42 = .ok (.sipush 300, 3) := by decide +kernel
theorem dX0_init_45 : decode cX0_init 45 = .ok (.newarray .int, 2) := by decide +kernel
theorem dX0_init_47 : decode cX0_init 47 = .ok (.putfield 29, 3) := by decide +kernel
theorem dX0_init_50 : decode cX0_init 50 = .ok (.aload_n 0, 1) := by decide +kernel
theorem dX0_init_51 : decode cX0_init 51 = .ok (.sipush 300, 3) := by decide +kernel
theorem dX0_init_54 : decode cX0_init 54 = .ok (.newarray .long, 2) := by decide +kernel
theorem dX0_init_56 : decode cX0_init 56 = .ok (.putfield 32, 3) := by decide +kernel
theorem dX0_init_59 : decode cX0_init 59 = .ok (.return_, 1) := by decide +kernel
theorem dX0_gather_0 : decode cX0_gather 0 = .ok (.aload_n 0, 1) := by decide +kernel
theorem dX0_gather_1 : decode cX0_gather 1 = .ok (.iconst 0, 1) := by decide +kernel
theorem dX0_gather_2 : decode cX0_gather 2 = .ok (.putfield 9, 3) := by decide +kernel
theorem dX0_gather_5 : decode cX0_gather 5 = .ok (.aload_n 0, 1) := by decide +kernel
theorem dX0_gather_6 : decode cX0_gather 6 = .ok (.iconst 1, 1) := by decide +kernel
theorem dX0_gather_7 : decode cX0_gather 7 = .ok (.putfield 15, 3) := by decide +kernel
theorem dX0_gather_10 : decode cX0_gather 10 = .ok (.iconst 0, 1) := by decide +kernel
theorem dX0_gather_11 : decode cX0_gather 11 = .ok (.istore 4, 2) := by decide +kernel
theorem dX0_gather_13 : decode cX0_gather 13 = .ok (.iload 4, 2) := by decide +kernel
theorem dX0_gather_15 : decode cX0_gather 15 = .ok (.aload_n 1, 1) := by decide +kernel
theorem dX0_gather_16 : decode cX0_gather 16 = .ok (.invokevirtual 36, 3) := by decide +kernel
theorem dX0_gather_19 : decode cX0_gather 19 = .ok (.if_icmp .ge 132, 3) := by decide +kernel
theorem dX0_gather_22 : decode cX0_gather 22 = .ok (.aload_n 1, 1) := by decide +kernel
theorem dX0_gather_23 : decode cX0_gather 23 = .ok (.getfield 42, 3) := by decide +kernel
theorem dX0_gather_26 : decode cX0_gather 26 = .ok (.iload 4, 2) := by decide +kernel
theorem dX0_gather_28 : decode cX0_gather 28 = .ok (.iaload, 1) := by decide +kernel
theorem dX0_gather_29 : decode cX0_gather 29 = .ok (.iload_n 3, 1) := by decide +kernel
theorem dX0_gather_30 : decode cX0_gather 30 = .ok (.if_icmp .ne 115, 3) := by decide +kernel
theorem dX0_gather_33 : decode cX0_gather 33 = .ok (.aload_n 2, 1) := by decide +kernel
theorem dX0_gather_34 : decode cX0_gather 34 = .ok (.aload_n 1, 1) := by decide +kernel
theorem dX0_gather_35 : decode cX0_gather 35 = .ok (.iload 4, 2) := by decide +kernel
theorem dX0_gather_37 : decode cX0_gather 37 = .ok (.invokevirtual 45, 3) := by decide +kernel
theorem dX0_gather_40 : decode cX0_gather 40 = .ok (.istore 5, 2) := by decide +kernel
theorem dX0_gather_42 : decode cX0_gather 42 = .ok (.aload_n 0, 1) := by decide +kernel
theorem dX0_gather_43 : decode cX0_gather 43 = .ok (.aload_n 0, 1) := by decide +kernel
theorem dX0_gather_44 : decode cX0_gather 44 = .ok (.getfield 15, 3) := by decide +kernel
theorem dX0_gather_47 : decode cX0_gather 47 = .ok (.ifCond .eq 13, 3) := by decide +kernel
theorem dX0_gather_50 : decode cX0_gather 50 = .ok (.iload 5, 2) := by decide +kernel
theorem dX0_gather_52 : decode cX0_gather 52 = .ok (.iconst (-1), 1) := by decide +kernel
theorem dX0_gather_53 : decode cX0_gather 53 = .ok (.if_icmp .eq 7, 3) := by decide +kernel
theorem dX0_gather_56 : decode cX0_gather 56 = .ok (.iconst 1, 1) := by decide +kernel
theorem dX0_gather_57 : decode cX0_gather 57 = .ok (.goto 4, 3) := by decide +kernel
theorem dX0_gather_60 : decode cX0_gather 60 = .ok (.iconst 0, 1) := by decide +kernel
theorem dX0_gather_61 : decode cX0_gather 61 = .ok (.putfield 15, 3) := by decide +kernel
theorem dX0_gather_64 : decode cX0_gather 64 = .ok (.aload_n 2, 1) := by decide +kernel
theorem dX0_gather_65 : decode cX0_gather 65 = .ok (.getfield 51, 3) := by decide +kernel
theorem dX0_gather_68 : decode cX0_gather 68 = .ok (.iload 4, 2) := by decide +kernel
theorem dX0_gather_70 : decode cX0_gather 70 = .ok (.baload, 1) := by decide +kernel
theorem dX0_gather_71 : decode cX0_gather 71 = .ok (.ifCond .eq 74, 3) := by decide +kernel
theorem dX0_gather_74 : decode cX0_gather 74 = .ok (.aload_n 0, 1) := by decide +kernel
theorem dX0_gather_75 : decode cX0_gather 75 = .ok (.getfield 19, 3) := by decide +kernel
theorem dX0_gather_78 : decode cX0_gather 78 = .ok (.aload_n 0, 1) := by decide +kernel
theorem dX0_gather_79 : decode cX0_gather 79 = .ok (.getfield 9, 3) := by decide +kernel
theorem dX0_gather_82 : decode cX0_gather 82 = .ok (.iload 5, 2) := by decide +kernel
theorem dX0_gather_84 : decode cX0_gather 84 = .ok (.iastore, 1) := by decide +kernel
theorem dX0_gather_85 : decode cX0_gather 85 = .ok (.aload_n 0, 1) := by decide +kernel
theorem dX0_gather_86 : decode cX0_gather 86 = .ok (.getfield 23, 3) := by decide +kernel
theorem dX0_gather_89 : decode cX0_gather 89 = .ok (.aload_n 0, 1) := by decide +kernel
theorem dX0_gather_90 : decode cX0_gather 90 = .ok (.getfield 9, 3) := by decide +kernel
theorem dX0_gather_93 : decode cX0_gather 93 = .ok (.aload_n 2, 1) := by decide +kernel
theorem dX0_gather_94 : decode cX0_gather 94 = .ok (.getfield 55, 3) := by decide +kernel
theorem dX0_gather_97 : decode cX0_gather 97 = .ok (.iload 4, 2) := by decide +kernel
theorem dX0_gather_99 : decode cX0_gather 99 = .ok (.iaload, 1) := by decide +kernel
theorem dX0_gather_100 : decode cX0_gather 100 = .ok (.iastore, 1) := by decide +kernel
theorem dX0_gather_101 : decode cX0_gather 101 = .ok (.aload_n 0, 1) := by decide +kernel
theorem dX0_gather_102 : decode cX0_gather 102 = .ok (.getfield 26, 3) := by decide +kernel
theorem dX0_gather_105 : decode cX0_gather 105 = .ok (.aload_n 0, 1) := by decide +kernel
theorem dX0_gather_106 : decode cX0_gather 106 = .ok (.getfield 9, 3) := by decide +kernel
theorem dX0_gather_109 : decode cX0_gather 109 = .ok (.aload_n 2, 1) := by decide +kernel
theorem dX0_gather_110 : decode cX0_gather 110 = .ok (.getfield 56, 3) := by decide +kernel
theorem dX0_gather_113 : decode cX0_gather 113 = .ok (.iload 4, 2) := by decide +kernel
theorem dX0_gather_115 : decode cX0_gather 115 = .ok (.iaload, 1) := by decide +kernel
theorem dX0_gather_116 : decode cX0_gather 116 = .ok (.iastore, 1) := by decide +kernel
theorem dX0_gather_117 : decode cX0_gather 117 = .ok (.aload_n 0, 1) := by decide +kernel
theorem dX0_gather_118 : decode cX0_gather 118 = .ok (.getfield 29, 3) := by decide +kernel
theorem dX0_gather_121 : decode cX0_gather 121 = .ok (.aload_n 0, 1) := by decide +kernel
theorem dX0_gather_122 : decode cX0_gather 122 = .ok (.getfield 9, 3) := by decide +kernel
theorem dX0_gather_125 : decode cX0_gather 125 = .ok (.aload_n 1, 1) := by decide +kernel
theorem dX0_gather_126 : decode cX0_gather 126 = .ok (.getfield 57, 3) := by decide +kernel
theorem dX0_gather_129 : decode cX0_gather 129 = .ok (.iload 4, 2) := by decide +kernel
theorem dX0_gather_131 : decode cX0_gather 131 = .ok (.iconst 5, 1) := by decide +kernel
theorem dX0_gather_132 : decode cX0_gather 132 = .ok (.idiv, 1) := by decide +kernel
theorem dX0_gather_133 : decode cX0_gather 133 = .ok (.iaload, 1) := by decide +kernel
theorem dX0_gather_134 : decode cX0_gather 134 = .ok (.iastore, 1) := by decide +kernel
theorem dX0_gather_135 : decode cX0_gather 135 = .ok (.aload_n 0, 1) := by decide +kernel
theorem dX0_gather_136 : decode cX0_gather 136 = .ok (.dup, 1) := by decide +kernel
theorem dX0_gather_137 : decode cX0_gather 137 = .ok (.getfield 9, 3) := by decide +kernel
theorem dX0_gather_140 : decode cX0_gather 140 = .ok (.iconst 1, 1) := by decide +kernel
theorem dX0_gather_141 : decode cX0_gather 141 = .ok (.iadd, 1) := by decide +kernel
theorem dX0_gather_142 : decode cX0_gather 142 = .ok (.putfield 9, 3) := by decide +kernel
theorem dX0_gather_145 : decode cX0_gather 145 = .ok (.iinc 4 1, 3) := by decide +kernel
theorem dX0_gather_148 : decode cX0_gather 148 = .ok (.goto (-135), 3) := by decide +kernel
theorem dX0_gather_151 : decode cX0_gather 151 = .ok (.return_, 1) := by decide +kernel
theorem dX0_mostAtOnce_0 : decode cX0_mostAtOnce 0 = .ok (.iconst 0, 1) := by decide +kernel
theorem dX0_mostAtOnce_1 : decode cX0_mostAtOnce 1 = .ok (.istore_n 1, 1) := by decide +kernel
theorem dX0_mostAtOnce_2 : decode cX0_mostAtOnce 2 = .ok (.iconst 0, 1) := by decide +kernel
theorem dX0_mostAtOnce_3 : decode cX0_mostAtOnce 3 = .ok (.istore_n 2, 1) := by decide +kernel
theorem dX0_mostAtOnce_4 : decode cX0_mostAtOnce 4 = .ok (.iload_n 2, 1) := by decide +kernel
theorem dX0_mostAtOnce_5 : decode cX0_mostAtOnce 5 = .ok (.aload_n 0, 1) := by decide +kernel
theorem dX0_mostAtOnce_6 : decode cX0_mostAtOnce 6 = .ok (.getfield 9, 3) := by decide +kernel
theorem dX0_mostAtOnce_9 : decode cX0_mostAtOnce 9 = .ok (.if_icmp .ge 24, 3) := by decide +kernel
theorem dX0_mostAtOnce_12 : decode cX0_mostAtOnce 12 = .ok (.iload_n 1, 1) := by decide +kernel
theorem dX0_mostAtOnce_13 : decode cX0_mostAtOnce 13 = .ok (.aload_n 0, 1) := by decide +kernel
theorem dX0_mostAtOnce_14 : decode cX0_mostAtOnce 14 = .ok (.aload_n 0, 1) := by decide +kernel
theorem dX0_mostAtOnce_15 : decode cX0_mostAtOnce 15 = .ok (.getfield 23, 3) := by decide +kernel
theorem dX0_mostAtOnce_18 : decode cX0_mostAtOnce 18 = .ok (.iload_n 2, 1) := by decide +kernel
theorem dX0_mostAtOnce_19 : decode cX0_mostAtOnce 19 = .ok (.iaload, 1) := by decide +kernel
theorem dX0_mostAtOnce_20 : decode cX0_mostAtOnce 20 = .ok (.invokevirtual 58, 3) := by decide +kernel
theorem dX0_mostAtOnce_23 : decode cX0_mostAtOnce 23 = .ok (.invokestatic 62, 3) := by decide +kernel
theorem dX0_mostAtOnce_26 : decode cX0_mostAtOnce 26 = .ok (.istore_n 1, 1) := by decide +kernel
theorem dX0_mostAtOnce_27 : decode cX0_mostAtOnce 27 = .ok (.iinc 2 1, 3) := by decide +kernel
theorem dX0_mostAtOnce_30 : decode cX0_mostAtOnce 30 = .ok (.goto (-26), 3) := by decide +kernel
theorem dX0_mostAtOnce_33 : decode cX0_mostAtOnce 33 = .ok (.iload_n 1, 1) := by decide +kernel
theorem dX0_mostAtOnce_34 : decode cX0_mostAtOnce 34 = .ok (.ireturn, 1) := by decide +kernel
theorem dX0_leastHelpers_0 : decode cX0_leastHelpers 0 = .ok (.aload_n 0, 1) := by decide +kernel
theorem dX0_leastHelpers_1 : decode cX0_leastHelpers 1 = .ok (.invokevirtual 68, 3) := by decide +kernel
theorem dX0_leastHelpers_4 : decode cX0_leastHelpers 4 = .ok (.iconst (-1), 1) := by decide +kernel
theorem dX0_leastHelpers_5 : decode cX0_leastHelpers 5 = .ok (.if_icmp .ne 7, 3) := by decide +kernel
theorem dX0_leastHelpers_8 : decode cX0_leastHelpers 8 = .ok (.iconst (-1), 1) := by decide +kernel
theorem dX0_leastHelpers_9 : decode cX0_leastHelpers 9 = .ok (.goto 7, 3) := by decide +kernel
theorem dX0_leastHelpers_12 : decode cX0_leastHelpers 12 = .ok (.aload_n 0, 1) := by decide +kernel
theorem dX0_leastHelpers_13 : decode cX0_leastHelpers 13 = .ok (.invokevirtual 71, 3) := by decide +kernel
theorem dX0_leastHelpers_16 : decode cX0_leastHelpers 16 = .ok (.ireturn, 1) := by decide +kernel
theorem dX0_firstRule_0 : decode cX0_firstRule 0 = .ok (.aload_n 0, 1) := by decide +kernel
theorem dX0_firstRule_1 : decode cX0_firstRule 1 = .ok (.getfield 15, 3) := by decide +kernel
theorem dX0_firstRule_4 : decode cX0_firstRule 4 = .ok (.ifCond .eq 21, 3) := by decide +kernel
theorem dX0_firstRule_7 : decode cX0_firstRule 7 = .ok (.aload_n 0, 1) := by decide +kernel
theorem dX0_firstRule_8 : decode cX0_firstRule 8 = .ok (.getfield 9, 3) := by decide +kernel
theorem dX0_firstRule_11 : decode cX0_firstRule 11 = .ok (.ifCond .eq 14, 3) := by decide +kernel
theorem dX0_firstRule_14 : decode cX0_firstRule 14 = .ok (.aload_n 0, 1) := by decide +kernel
theorem dX0_firstRule_15 : decode cX0_firstRule 15 = .ok (.aload_n 0, 1) := by decide +kernel
theorem dX0_firstRule_16 : decode cX0_firstRule 16 = .ok (.invokevirtual 71, 3) := by decide +kernel
theorem dX0_firstRule_19 : decode cX0_firstRule 19 = .ok (.invokevirtual 74, 3) := by decide +kernel
theorem dX0_firstRule_22 : decode cX0_firstRule 22 = .ok (.ifCond .ne 5, 3) := by decide +kernel
theorem dX0_firstRule_25 : decode cX0_firstRule 25 = .ok (.iconst (-1), 1) := by decide +kernel
theorem dX0_firstRule_26 : decode cX0_firstRule 26 = .ok (.ireturn, 1) := by decide +kernel
theorem dX0_firstRule_27 : decode cX0_firstRule 27 = .ok (.iconst 0, 1) := by decide +kernel
theorem dX0_firstRule_28 : decode cX0_firstRule 28 = .ok (.istore_n 1, 1) := by decide +kernel
theorem dX0_firstRule_29 : decode cX0_firstRule 29 = .ok (.iload_n 1, 1) := by decide +kernel
theorem dX0_firstRule_30 : decode cX0_firstRule 30 = .ok (.iconst 3, 1) := by decide +kernel
theorem dX0_firstRule_31 : decode cX0_firstRule 31 = .ok (.if_icmp .gt 19, 3) := by decide +kernel
theorem dX0_firstRule_34 : decode cX0_firstRule 34 = .ok (.aload_n 0, 1) := by decide +kernel
theorem dX0_firstRule_35 : decode cX0_firstRule 35 = .ok (.iload_n 1, 1) := by decide +kernel
theorem dX0_firstRule_36 : decode cX0_firstRule 36 = .ok (.invokevirtual 78, 3) := by decide +kernel
theorem dX0_firstRule_39 : decode cX0_firstRule 39 = .ok (.ifCond .eq 5, 3) := by decide +kernel
theorem dX0_firstRule_42 : decode cX0_firstRule 42 = .ok (.iload_n 1, 1) := by decide +kernel
theorem dX0_firstRule_43 : decode cX0_firstRule 43 = .ok (.ireturn, 1) := by decide +kernel
theorem dX0_firstRule_44 : decode cX0_firstRule 44 = .ok (.iinc 1 1, 3) := by decide +kernel
theorem dX0_firstRule_47 : decode cX0_firstRule 47 = .ok (.goto (-18), 3) := by decide +kernel
theorem dX0_firstRule_50 : decode cX0_firstRule 50 = .ok (.iconst (-1), 1) := by decide +kernel
theorem dX0_firstRule_51 : decode cX0_firstRule 51 = .ok (.ireturn, 1) := by decide +kernel
theorem dX0_isPossible_0 : decode cX0_isPossible 0 = .ok (.iload_n 1, 1) := by decide +kernel
theorem dX0_isPossible_1 : decode cX0_isPossible 1 = .ok (.bipush 8, 2) := by decide +kernel
theorem dX0_isPossible_3 : decode cX0_isPossible 3 = .ok (.if_icmp .le 5, 3) := by decide +kernel
theorem dX0_isPossible_6 : decode cX0_isPossible 6 = .ok (.iconst 0, 1) := by decide +kernel
theorem dX0_isPossible_7 : decode cX0_isPossible 7 = .ok (.ireturn, 1) := by decide +kernel
theorem dX0_isPossible_8 : decode cX0_isPossible 8 = .ok (.iconst 0, 1) := by decide +kernel
theorem dX0_isPossible_9 : decode cX0_isPossible 9 = .ok (.istore_n 2, 1) := by decide +kernel
theorem dX0_isPossible_10 : decode cX0_isPossible 10 = .ok (.iload_n 2, 1) := by decide +kernel
theorem dX0_isPossible_11 : decode cX0_isPossible 11 = .ok (.aload_n 0, 1) := by decide +kernel
theorem dX0_isPossible_12 : decode cX0_isPossible 12 = .ok (.getfield 9, 3) := by decide +kernel
theorem dX0_isPossible_15 : decode cX0_isPossible 15 = .ok (.if_icmp .ge 54, 3) := by decide +kernel
theorem dX0_isPossible_18 : decode cX0_isPossible 18 = .ok (.aload_n 0, 1) := by decide +kernel
theorem dX0_isPossible_19 : decode cX0_isPossible 19 = .ok (.getfield 23, 3) := by decide +kernel
theorem dX0_isPossible_22 : decode cX0_isPossible 22 = .ok (.iload_n 2, 1) := by decide +kernel
theorem dX0_isPossible_23 : decode cX0_isPossible 23 = .ok (.iaload, 1) := by decide +kernel
theorem dX0_isPossible_24 : decode cX0_isPossible 24 = .ok (.aload_n 0, 1) := by decide +kernel
theorem dX0_isPossible_25 : decode cX0_isPossible 25 = .ok (.getfield 19, 3) := by decide +kernel
theorem dX0_isPossible_28 : decode cX0_isPossible 28 = .ok (.iload_n 2, 1) := by decide +kernel
theorem dX0_isPossible_29 : decode cX0_isPossible 29 = .ok (.iaload, 1) := by decide +kernel
theorem dX0_isPossible_30 : decode cX0_isPossible 30 = .ok (.if_icmp .lt 31, 3) := by decide +kernel
theorem dX0_isPossible_33 : decode cX0_isPossible 33 = .ok (.aload_n 0, 1) := by decide +kernel
theorem dX0_isPossible_34 : decode cX0_isPossible 34 = .ok (.aload_n 0, 1) := by decide +kernel
theorem dX0_isPossible_35 : decode cX0_isPossible 35 = .ok (.getfield 19, 3) := by decide +kernel
theorem dX0_isPossible_38 : decode cX0_isPossible 38 = .ok (.iload_n 2, 1) := by decide +kernel
theorem dX0_isPossible_39 : decode cX0_isPossible 39 = .ok (.iaload, 1) := by decide +kernel
theorem dX0_isPossible_40 : decode cX0_isPossible 40 = .ok (.iload_n 1, 1) := by decide +kernel
theorem dX0_isPossible_41 : decode cX0_isPossible 41 = .ok (.invokevirtual 81, 3) := by decide +kernel
theorem dX0_isPossible_44 : decode cX0_isPossible 44 = .ok (.ifCond .ne 17, 3) := by decide +kernel
theorem dX0_isPossible_47 : decode cX0_isPossible 47 = .ok (.aload_n 0, 1) := by decide +kernel
theorem dX0_isPossible_48 : decode cX0_isPossible 48 = .ok (.aload_n 0, 1) := by decide +kernel
theorem dX0_isPossible_49 : decode cX0_isPossible 49 = .ok (.getfield 26, 3) := by decide +kernel
theorem dX0_isPossible_52 : decode cX0_isPossible 52 = .ok (.iload_n 2, 1) := by decide +kernel
theorem dX0_isPossible_53 : decode cX0_isPossible 53 = .ok (.iaload, 1) := by decide +kernel
theorem dX0_isPossible_54 : decode cX0_isPossible 54 = .ok (.iload_n 1, 1) := by decide +kernel
theorem dX0_isPossible_55 : decode cX0_isPossible 55 = .ok (.invokevirtual 81, 3) := by decide +kernel
theorem dX0_isPossible_58 : decode cX0_isPossible 58 = .ok (.ifCond .eq 5, 3) := by decide +kernel
theorem dX0_isPossible_61 : decode cX0_isPossible 61 = .ok (.iconst 0, 1) := by decide +kernel
theorem dX0_isPossible_62 : decode cX0_isPossible 62 = .ok (.ireturn, 1) := by decide +kernel
theorem dX0_isPossible_63 : decode cX0_isPossible 63 = .ok (.iinc 2 1, 3) := by decide +kernel
theorem dX0_isPossible_66 : decode cX0_isPossible 66 = .ok (.goto (-56), 3) := by decide +kernel
theorem dX0_isPossible_69 : decode cX0_isPossible 69 = .ok (.iconst 1, 1) := by decide +kernel
theorem dX0_isPossible_70 : decode cX0_isPossible 70 = .ok (.ireturn, 1) := by decide +kernel
theorem dX0_isIdleAt_0 : decode cX0_isIdleAt 0 = .ok (.iconst 0, 1) := by decide +kernel
theorem dX0_isIdleAt_1 : decode cX0_isIdleAt 1 = .ok (.istore_n 3, 1) := by decide +kernel
theorem dX0_isIdleAt_2 : decode cX0_isIdleAt 2 = .ok (.iload_n 3, 1) := by decide +kernel
theorem dX0_isIdleAt_3 : decode cX0_isIdleAt 3 = .ok (.aload_n 0, 1) := by decide +kernel
theorem dX0_isIdleAt_4 : decode cX0_isIdleAt 4 = .ok (.getfield 9, 3) := by decide +kernel
theorem dX0_isIdleAt_7 : decode cX0_isIdleAt 7 = .ok (.if_icmp .ge 33, 3) := by decide +kernel
theorem dX0_isIdleAt_10 : decode cX0_isIdleAt 10 = .ok (.aload_n 0, 1) := by decide +kernel
theorem dX0_isIdleAt_11 : decode cX0_isIdleAt 11 = .ok (.iload_n 3, 1) := by decide +kernel
theorem dX0_isIdleAt_12 : decode cX0_isIdleAt 12 = .ok (.iload_n 1, 1) := by decide +kernel
theorem dX0_isIdleAt_13 : decode cX0_isIdleAt 13 = .ok (.invokevirtual 85, 3) := by decide +kernel
theorem dX0_isIdleAt_16 : decode cX0_isIdleAt 16 = .ok (.ifCond .eq 18, 3) := by decide +kernel
theorem dX0_isIdleAt_19 : decode cX0_isIdleAt 19 = .ok (.aload_n 0, 1) := by decide +kernel
theorem dX0_isIdleAt_20 : decode cX0_isIdleAt 20 = .ok (.iload_n 1, 1) := by decide +kernel
theorem dX0_isIdleAt_21 : decode cX0_isIdleAt 21 = .ok (.invokevirtual 58, 3) := by decide +kernel
theorem dX0_isIdleAt_24 : decode cX0_isIdleAt 24 = .ok (.iload_n 2, 1) := by decide +kernel
theorem dX0_isIdleAt_25 : decode cX0_isIdleAt 25 = .ok (.if_icmp .ge 7, 3) := by decide +kernel
theorem dX0_isIdleAt_28 : decode cX0_isIdleAt 28 = .ok (.iconst 1, 1) := by decide +kernel
theorem dX0_isIdleAt_29 : decode cX0_isIdleAt 29 = .ok (.goto 4, 3) := by decide +kernel
theorem dX0_isIdleAt_32 : decode cX0_isIdleAt 32 = .ok (.iconst 0, 1) := by decide +kernel
theorem dX0_isIdleAt_33 : decode cX0_isIdleAt 33 = .ok (.ireturn, 1) := by decide +kernel
theorem dX0_isIdleAt_34 : decode cX0_isIdleAt 34 = .ok (.iinc 3 1, 3) := by decide +kernel
theorem dX0_isIdleAt_37 : decode cX0_isIdleAt 37 = .ok (.goto (-35), 3) := by decide +kernel
theorem dX0_isIdleAt_40 : decode cX0_isIdleAt 40 = .ok (.iconst 0, 1) := by decide +kernel
theorem dX0_isIdleAt_41 : decode cX0_isIdleAt 41 = .ok (.ireturn, 1) := by decide +kernel
theorem dX0_isLeftAt_0 : decode cX0_isLeftAt 0 = .ok (.aload_n 0, 1) := by decide +kernel
theorem dX0_isLeftAt_1 : decode cX0_isLeftAt 1 = .ok (.getfield 19, 3) := by decide +kernel
theorem dX0_isLeftAt_4 : decode cX0_isLeftAt 4 = .ok (.iload_n 1, 1) := by decide +kernel
theorem dX0_isLeftAt_5 : decode cX0_isLeftAt 5 = .ok (.iaload, 1) := by decide +kernel
theorem dX0_isLeftAt_6 : decode cX0_isLeftAt 6 = .ok (.iload_n 2, 1) := by decide +kernel
theorem dX0_isLeftAt_7 : decode cX0_isLeftAt 7 = .ok (.if_icmp .gt 17, 3) := by decide +kernel
theorem dX0_isLeftAt_10 : decode cX0_isLeftAt 10 = .ok (.aload_n 0, 1) := by decide +kernel
theorem dX0_isLeftAt_11 : decode cX0_isLeftAt 11 = .ok (.getfield 23, 3) := by decide +kernel
theorem dX0_isLeftAt_14 : decode cX0_isLeftAt 14 = .ok (.iload_n 1, 1) := by decide +kernel
theorem dX0_isLeftAt_15 : decode cX0_isLeftAt 15 = .ok (.iaload, 1) := by decide +kernel
theorem dX0_isLeftAt_16 : decode cX0_isLeftAt 16 = .ok (.iload_n 2, 1) := by decide +kernel
theorem dX0_isLeftAt_17 : decode cX0_isLeftAt 17 = .ok (.if_icmp .le 7, 3) := by decide +kernel
theorem dX0_isLeftAt_20 : decode cX0_isLeftAt 20 = .ok (.iconst 1, 1) := by decide +kernel
theorem dX0_isLeftAt_21 : decode cX0_isLeftAt 21 = .ok (.goto 4, 3) := by decide +kernel
theorem dX0_isLeftAt_24 : decode cX0_isLeftAt 24 = .ok (.iconst 0, 1) := by decide +kernel
theorem dX0_isLeftAt_25 : decode cX0_isLeftAt 25 = .ok (.ireturn, 1) := by decide +kernel
theorem dX0_helpedAt_0 : decode cX0_helpedAt 0 = .ok (.iconst 0, 1) := by decide +kernel
theorem dX0_helpedAt_1 : decode cX0_helpedAt 1 = .ok (.istore_n 2, 1) := by decide +kernel
theorem dX0_helpedAt_2 : decode cX0_helpedAt 2 = .ok (.iconst 0, 1) := by decide +kernel
theorem dX0_helpedAt_3 : decode cX0_helpedAt 3 = .ok (.istore_n 3, 1) := by decide +kernel
theorem dX0_helpedAt_4 : decode cX0_helpedAt 4 = .ok (.iload_n 3, 1) := by decide +kernel
theorem dX0_helpedAt_5 : decode cX0_helpedAt 5 = .ok (.aload_n 0, 1) := by decide +kernel
theorem dX0_helpedAt_6 : decode cX0_helpedAt 6 = .ok (.getfield 9, 3) := by decide +kernel
theorem dX0_helpedAt_9 : decode cX0_helpedAt 9 = .ok (.if_icmp .ge 32, 3) := by decide +kernel
theorem dX0_helpedAt_12 : decode cX0_helpedAt 12 = .ok (.aload_n 0, 1) := by decide +kernel
theorem dX0_helpedAt_13 : decode cX0_helpedAt 13 = .ok (.getfield 23, 3) := by decide +kernel
theorem dX0_helpedAt_16 : decode cX0_helpedAt 16 = .ok (.iload_n 3, 1) := by decide +kernel
theorem dX0_helpedAt_17 : decode cX0_helpedAt 17 = .ok (.iaload, 1) := by decide +kernel
theorem dX0_helpedAt_18 : decode cX0_helpedAt 18 = .ok (.iload_n 1, 1) := by decide +kernel
theorem dX0_helpedAt_19 : decode cX0_helpedAt 19 = .ok (.if_icmp .gt 16, 3) := by decide +kernel
theorem dX0_helpedAt_22 : decode cX0_helpedAt 22 = .ok (.aload_n 0, 1) := by decide +kernel
theorem dX0_helpedAt_23 : decode cX0_helpedAt 23 = .ok (.getfield 26, 3) := by decide +kernel
theorem dX0_helpedAt_26 : decode cX0_helpedAt 26 = .ok (.iload_n 3, 1) := by decide +kernel
theorem dX0_helpedAt_27 : decode cX0_helpedAt 27 = .ok (.iaload, 1) := by decide +kernel
theorem dX0_helpedAt_28 : decode cX0_helpedAt 28 = .ok (.iload_n 1, 1) := by decide +kernel
theorem dX0_helpedAt_29 : decode cX0_helpedAt 29 = .ok (.if_icmp .le 6, 3) := by decide +kernel
theorem dX0_helpedAt_32 : decode cX0_helpedAt 32 = .ok (.iinc 2 1, 3) := by decide +kernel
theorem dX0_helpedAt_35 : decode cX0_helpedAt 35 = .ok (.iinc 3 1, 3) := by decide +kernel
theorem dX0_helpedAt_38 : decode cX0_helpedAt 38 = .ok (.goto (-34), 3) := by decide +kernel
theorem dX0_helpedAt_41 : decode cX0_helpedAt 41 = .ok (.iload_n 2, 1) := by decide +kernel
theorem dX0_helpedAt_42 : decode cX0_helpedAt 42 = .ok (.ireturn, 1) := by decide +kernel
theorem dX0_isOrderedBy_0 : decode cX0_isOrderedBy 0 = .ok (.iconst 0, 1) := by decide +kernel
theorem dX0_isOrderedBy_1 : decode cX0_isOrderedBy 1 = .ok (.istore_n 2, 1) := by decide +kernel
theorem dX0_isOrderedBy_2 : decode cX0_isOrderedBy 2 = .ok (.iload_n 2, 1) := by decide +kernel
theorem dX0_isOrderedBy_3 : decode cX0_isOrderedBy 3 = .ok (.aload_n 0, 1) := by decide +kernel
theorem dX0_isOrderedBy_4 : decode cX0_isOrderedBy 4 = .ok (.getfield 9, 3) := by decide +kernel
theorem dX0_isOrderedBy_7 : decode cX0_isOrderedBy 7 = .ok (.if_icmp .ge 44, 3) := by decide +kernel
theorem dX0_isOrderedBy_10 : decode cX0_isOrderedBy 10 = .ok (.aload_n 0, 1) := by decide +kernel
theorem dX0_isOrderedBy_11 : decode cX0_isOrderedBy 11 = .ok (.getfield 32, 3) := by decide +kernel
theorem dX0_isOrderedBy_14 : decode cX0_isOrderedBy 14 = .ok (.iload_n 2, 1) := by decide +kernel
theorem dX0_isOrderedBy_15 : decode cX0_isOrderedBy 15 = .ok (.iload_n 1, 1) := by decide +kernel
theorem dX0_isOrderedBy_16 : decode cX0_isOrderedBy 16 = .ok (.aload_n 0, 1) := by decide +kernel
theorem dX0_isOrderedBy_17 : decode cX0_isOrderedBy 17 = .ok (.getfield 19, 3) := by decide +kernel
theorem dX0_isOrderedBy_20 : decode cX0_isOrderedBy 20 = .ok (.iload_n 2, 1) := by decide +kernel
theorem dX0_isOrderedBy_21 : decode cX0_isOrderedBy 21 = .ok (.iaload, 1) := by decide +kernel
theorem dX0_isOrderedBy_22 : decode cX0_isOrderedBy 22 = .ok (.aload_n 0, 1) := by decide +kernel
theorem dX0_isOrderedBy_23 : decode cX0_isOrderedBy 23 = .ok (.getfield 26, 3) := by decide +kernel
theorem dX0_isOrderedBy_26 : decode cX0_isOrderedBy 26 = .ok (.iload_n 2, 1) := by decide +kernel
theorem dX0_isOrderedBy_27 : decode cX0_isOrderedBy 27 = .ok (.iaload, 1) := by decide +kernel
theorem dX0_isOrderedBy_28 : decode cX0_isOrderedBy 28 = .ok (.aload_n 0, 1) := by decide +kernel
theorem dX0_isOrderedBy_29 : decode cX0_isOrderedBy 29 = .ok (.getfield 23, 3) := by decide +kernel
theorem dX0_isOrderedBy_32 : decode cX0_isOrderedBy 32 = .ok (.iload_n 2, 1) := by decide +kernel
theorem dX0_isOrderedBy_33 : decode cX0_isOrderedBy 33 = .ok (.iaload, 1) := by decide +kernel
theorem dX0_isOrderedBy_34 : decode cX0_isOrderedBy 34 = .ok (.isub, 1) := by decide +kernel
theorem dX0_isOrderedBy_35 : decode cX0_isOrderedBy 35 = .ok (.aload_n 0, 1) := by decide +kernel
theorem dX0_isOrderedBy_36 : decode cX0_isOrderedBy 36 = .ok (.getfield 29, 3) := by decide +kernel
theorem dX0_isOrderedBy_39 : decode cX0_isOrderedBy 39 = .ok (.iload_n 2, 1) := by decide +kernel
theorem dX0_isOrderedBy_40 : decode cX0_isOrderedBy 40 = .ok (.iaload, 1) := by decide +kernel
theorem dX0_isOrderedBy_41 : decode cX0_isOrderedBy 41 = .ok (.invokestatic 88, 3) := by decide +kernel
theorem dX0_isOrderedBy_44 : decode cX0_isOrderedBy 44 = .ok (.lastore, 1) := by decide +kernel
theorem dX0_isOrderedBy_45 : decode cX0_isOrderedBy 45 = .ok (.iinc 2 1, 3) := by decide +kernel
theorem dX0_isOrderedBy_48 : decode cX0_isOrderedBy 48 = .ok (.goto (-46), 3) := by decide +kernel
theorem dX0_isOrderedBy_51 : decode cX0_isOrderedBy 51 = .ok (.iconst 0, 1) := by decide +kernel
theorem dX0_isOrderedBy_52 : decode cX0_isOrderedBy 52 = .ok (.istore_n 2, 1) := by decide +kernel
theorem dX0_isOrderedBy_53 : decode cX0_isOrderedBy 53 = .ok (.iload_n 2, 1) := by decide +kernel
theorem dX0_isOrderedBy_54 : decode cX0_isOrderedBy 54 = .ok (.aload_n 0, 1) := by decide +kernel
theorem dX0_isOrderedBy_55 : decode cX0_isOrderedBy 55 = .ok (.getfield 9, 3) := by decide +kernel
theorem dX0_isOrderedBy_58 : decode cX0_isOrderedBy 58 = .ok (.if_icmp .ge 50, 3) := by decide +kernel
theorem dX0_isOrderedBy_61 : decode cX0_isOrderedBy 61 = .ok (.iconst 0, 1) := by decide +kernel
theorem dX0_isOrderedBy_62 : decode cX0_isOrderedBy 62 = .ok (.istore_n 3, 1) := by decide +kernel
theorem dX0_isOrderedBy_63 : decode cX0_isOrderedBy 63 = .ok (.iload_n 3, 1) := by decide +kernel
theorem dX0_isOrderedBy_64 : decode cX0_isOrderedBy 64 = .ok (.aload_n 0, 1) := by decide +kernel
theorem dX0_isOrderedBy_65 : decode cX0_isOrderedBy 65 = .ok (.getfield 9, 3) := by decide +kernel
theorem dX0_isOrderedBy_68 : decode cX0_isOrderedBy 68 = .ok (.if_icmp .ge 34, 3) := by decide +kernel
theorem dX0_isOrderedBy_71 : decode cX0_isOrderedBy 71 = .ok (.aload_n 0, 1) := by decide +kernel
theorem dX0_isOrderedBy_72 : decode cX0_isOrderedBy 72 = .ok (.iload_n 3, 1) := by decide +kernel
theorem dX0_isOrderedBy_73 : decode cX0_isOrderedBy 73 = .ok (.aload_n 0, 1) := by decide +kernel
theorem dX0_isOrderedBy_74 : decode cX0_isOrderedBy 74 = .ok (.getfield 23, 3) := by decide +kernel
theorem dX0_isOrderedBy_77 : decode cX0_isOrderedBy 77 = .ok (.iload_n 2, 1) := by decide +kernel
theorem dX0_isOrderedBy_78 : decode cX0_isOrderedBy 78 = .ok (.iaload, 1) := by decide +kernel
theorem dX0_isOrderedBy_79 : decode cX0_isOrderedBy 79 = .ok (.invokevirtual 85, 3) := by decide +kernel
theorem dX0_isOrderedBy_82 : decode cX0_isOrderedBy 82 = .ok (.ifCond .eq 14, 3) := by decide +kernel
theorem dX0_isOrderedBy_85 : decode cX0_isOrderedBy 85 = .ok (.aload_n 0, 1) := by decide +kernel
theorem dX0_isOrderedBy_86 : decode cX0_isOrderedBy 86 = .ok (.iload_n 3, 1) := by decide +kernel
theorem dX0_isOrderedBy_87 : decode cX0_isOrderedBy 87 = .ok (.iload_n 2, 1) := by decide +kernel
theorem dX0_isOrderedBy_88 : decode cX0_isOrderedBy 88 = .ok (.invokevirtual 92, 3) := by decide +kernel
theorem dX0_isOrderedBy_91 : decode cX0_isOrderedBy 91 = .ok (.ifCond .eq 5, 3) := by decide +kernel
theorem dX0_isOrderedBy_94 : decode cX0_isOrderedBy 94 = .ok (.iconst 0, 1) := by decide +kernel
theorem dX0_isOrderedBy_95 : decode cX0_isOrderedBy 95 = .ok (.ireturn, 1) := by decide +kernel
theorem dX0_isOrderedBy_96 : decode cX0_isOrderedBy 96 = .ok (.iinc 3 1, 3) := by decide +kernel
theorem dX0_isOrderedBy_99 : decode cX0_isOrderedBy 99 = .ok (.goto (-36), 3) := by decide +kernel
theorem dX0_isOrderedBy_102 : decode cX0_isOrderedBy 102 = .ok (.iinc 2 1, 3) := by decide +kernel
theorem dX0_isOrderedBy_105 : decode cX0_isOrderedBy 105 = .ok (.goto (-52), 3) := by decide +kernel
theorem dX0_isOrderedBy_108 : decode cX0_isOrderedBy 108 = .ok (.iconst 1, 1) := by decide +kernel
theorem dX0_isOrderedBy_109 : decode cX0_isOrderedBy 109 = .ok (.ireturn, 1) := by decide +kernel
theorem dX0_isAhead_0 : decode cX0_isAhead 0 = .ok (.aload_n 0, 1) := by decide +kernel
theorem dX0_isAhead_1 : decode cX0_isAhead 1 = .ok (.getfield 32, 3) := by decide +kernel
theorem dX0_isAhead_4 : decode cX0_isAhead 4 = .ok (.iload_n 1, 1) := by decide +kernel
theorem dX0_isAhead_5 : decode cX0_isAhead 5 = .ok (.laload, 1) := by decide +kernel
theorem dX0_isAhead_6 : decode cX0_isAhead 6 = .ok (.aload_n 0, 1) := by decide +kernel
theorem dX0_isAhead_7 : decode cX0_isAhead 7 = .ok (.getfield 32, 3) := by decide +kernel
theorem dX0_isAhead_10 : decode cX0_isAhead 10 = .ok (.iload_n 2, 1) := by decide +kernel
theorem dX0_isAhead_11 : decode cX0_isAhead 11 = .ok (.laload, 1) := by decide +kernel
theorem dX0_isAhead_12 : decode cX0_isAhead 12 = .ok (.lcmp, 1) := by decide +kernel
theorem dX0_isAhead_13 : decode cX0_isAhead 13 = .ok (.ifCond .lt 24, 3) := by decide +kernel
theorem dX0_isAhead_16 : decode cX0_isAhead 16 = .ok (.aload_n 0, 1) := by decide +kernel
theorem dX0_isAhead_17 : decode cX0_isAhead 17 = .ok (.getfield 32, 3) := by decide +kernel
theorem dX0_isAhead_20 : decode cX0_isAhead 20 = .ok (.iload_n 1, 1) := by decide +kernel
theorem dX0_isAhead_21 : decode cX0_isAhead 21 = .ok (.laload, 1) := by decide +kernel
theorem dX0_isAhead_22 : decode cX0_isAhead 22 = .ok (.aload_n 0, 1) := by decide +kernel
theorem dX0_isAhead_23 : decode cX0_isAhead 23 = .ok (.getfield 32, 3) := by decide +kernel
theorem dX0_isAhead_26 : decode cX0_isAhead 26 = .ok (.iload_n 2, 1) := by decide +kernel
theorem dX0_isAhead_27 : decode cX0_isAhead 27 = .ok (.laload, 1) := by decide +kernel
theorem dX0_isAhead_28 : decode cX0_isAhead 28 = .ok (.lcmp, 1) := by decide +kernel
theorem dX0_isAhead_29 : decode cX0_isAhead 29 = .ok (.ifCond .ne 12, 3) := by decide +kernel
theorem dX0_isAhead_32 : decode cX0_isAhead 32 = .ok (.iload_n 1, 1) := by decide +kernel
theorem dX0_isAhead_33 : decode cX0_isAhead 33 = .ok (.iload_n 2, 1) := by decide +kernel
theorem dX0_isAhead_34 : decode cX0_isAhead 34 = .ok (.if_icmp .ge 7, 3) := by decide +kernel
theorem dX0_isAhead_37 : decode cX0_isAhead 37 = .ok (.iconst 1, 1) := by decide +kernel
theorem dX0_isAhead_38 : decode cX0_isAhead 38 = .ok (.goto 4, 3) := by decide +kernel
theorem dX0_isAhead_41 : decode cX0_isAhead 41 = .ok (.iconst 0, 1) := by decide +kernel
theorem dX0_isAhead_42 : decode cX0_isAhead 42 = .ok (.ireturn, 1) := by decide +kernel
theorem dX1_init_0 : decode cX1_init 0 = .ok (.aload_n 0, 1) := by decide +kernel
theorem dX1_init_1 : decode cX1_init 1 = .ok (.invokespecial 3, 3) := by decide +kernel
theorem dX1_init_4 : decode cX1_init 4 = .ok (.aload_n 0, 1) := by decide +kernel
theorem dX1_init_5 : decode cX1_init 5 = .ok (.iconst 0, 1) := by decide +kernel
theorem dX1_init_6 : decode cX1_init 6 = .ok (.putfield 9, 3) := by decide +kernel
theorem dX1_init_9 : decode cX1_init 9 = .ok (.aload_n 0, 1) := by decide +kernel
theorem dX1_init_10 : decode cX1_init 10 = .ok (.iconst 0, 1) := by decide +kernel
theorem dX1_init_11 : decode cX1_init 11 = .ok (.putfield 15, 3) := by decide +kernel
theorem dX1_init_14 : decode cX1_init 14 = .ok (.aload_n 0, 1) := by decide +kernel
theorem dX1_init_15 : decode cX1_init 15 = .ok (.iconst 0, 1) := by decide +kernel
theorem dX1_init_16 : decode cX1_init 16 = .ok (.putfield 18, 3) := by decide +kernel
theorem dX1_init_19 : decode cX1_init 19 = .ok (.aload_n 0, 1) := by decide +kernel
theorem dX1_init_20 : decode cX1_init 20 = .ok (.iconst 5, 1) := by decide +kernel
theorem dX1_init_21 : decode cX1_init 21 = .ok (.newarray .int, 2) := by decide +kernel
theorem dX1_init_23 : decode cX1_init 23 = .ok (.putfield 21, 3) := by decide +kernel
theorem dX1_init_26 : decode cX1_init 26 = .ok (.aload_n 0, 1) := by decide +kernel
theorem dX1_init_27 : decode cX1_init 27 = .ok (.iconst 5, 1) := by decide +kernel
theorem dX1_init_28 : decode cX1_init 28 = .ok (.newarray .int, 2) := by decide +kernel
theorem dX1_init_30 : decode cX1_init 30 = .ok (.putfield 25, 3) := by decide +kernel
theorem dX1_init_33 : decode cX1_init 33 = .ok (.aload_n 0, 1) := by decide +kernel
theorem dX1_init_34 : decode cX1_init 34 = .ok (.iconst 5, 1) := by decide +kernel
theorem dX1_init_35 : decode cX1_init 35 = .ok (.newarray .int, 2) := by decide +kernel
theorem dX1_init_37 : decode cX1_init 37 = .ok (.putfield 28, 3) := by decide +kernel
theorem dX1_init_40 : decode cX1_init 40 = .ok (.aload_n 0, 1) := by decide +kernel
theorem dX1_init_41 : decode cX1_init 41 = .ok (.bipush 60, 2) := by decide +kernel
theorem dX1_init_43 : decode cX1_init 43 = .ok (.newarray .int, 2) := by decide +kernel
theorem dX1_init_45 : decode cX1_init 45 = .ok (.putfield 31, 3) := by decide +kernel
theorem dX1_init_48 : decode cX1_init 48 = .ok (.aload_n 0, 1) := by decide +kernel
theorem dX1_init_49 : decode cX1_init 49 = .ok (.bipush 60, 2) := by decide +kernel
theorem dX1_init_51 : decode cX1_init 51 = .ok (.newarray .int, 2) := by decide +kernel
theorem dX1_init_53 : decode cX1_init 53 = .ok (.putfield 34, 3) := by decide +kernel
theorem dX1_init_56 : decode cX1_init 56 = .ok (.aload_n 0, 1) := by decide +kernel
theorem dX1_init_57 : decode cX1_init 57 = .ok (.bipush 60, 2) := by decide +kernel
theorem dX1_init_59 : decode cX1_init 59 = .ok (.newarray .int, 2) := by decide +kernel
theorem dX1_init_61 : decode cX1_init 61 = .ok (.putfield 37, 3) := by decide +kernel
theorem dX1_init_64 : decode cX1_init 64 = .ok (.aload_n 0, 1) := by decide +kernel
theorem dX1_init_65 : decode cX1_init 65 = .ok (.sipush 300, 3) := by decide +kernel
theorem dX1_init_68 : decode cX1_init 68 = .ok (.newarray .int, 2) := by decide +kernel
theorem dX1_init_70 : decode cX1_init 70 = .ok (.putfield 40, 3) := by decide +kernel
theorem dX1_init_73 : decode cX1_init 73 = .ok (.aload_n 0, 1) := by decide +kernel
theorem dX1_init_74 : decode cX1_init 74 = .ok (.sipush 300, 3) := by decide +kernel
theorem dX1_init_77 : decode cX1_init 77 = .ok (.newarray .int, 2) := by decide +kernel
theorem dX1_init_79 : decode cX1_init 79 = .ok (.putfield 43, 3) := by decide +kernel
theorem dX1_init_82 : decode cX1_init 82 = .ok (.aload_n 0, 1) := by decide +kernel
theorem dX1_init_83 : decode cX1_init 83 = .ok (.getfield 40, 3) := by decide +kernel
theorem dX1_init_86 : decode cX1_init 86 = .ok (.iconst (-1), 1) := by decide +kernel
theorem dX1_init_87 : decode cX1_init 87 = .ok (.invokestatic 46, 3) := by decide +kernel
theorem dX1_init_90 : decode cX1_init 90 = .ok (.return_, 1) := by decide +kernel
theorem dX1_setPlace_0 : decode cX1_setPlace 0 = .ok (.aload_n 0, 1) := by decide +kernel
theorem dX1_setPlace_1 : decode cX1_setPlace 1 = .ok (.getfield 21, 3) := by decide +kernel
theorem dX1_setPlace_4 : decode cX1_setPlace 4 = .ok (.iload_n 1, 1) := by decide +kernel
theorem dX1_setPlace_5 : decode cX1_setPlace 5 = .ok (.iload_n 2, 1) := by decide +kernel
theorem dX1_setPlace_6 : decode cX1_setPlace 6 = .ok (.iastore, 1) := by decide +kernel
theorem dX1_setPlace_7 : decode cX1_setPlace 7 = .ok (.aload_n 0, 1) := by decide +kernel
theorem dX1_setPlace_8 : decode cX1_setPlace 8 = .ok (.getfield 25, 3) := by decide +kernel
theorem dX1_setPlace_11 : decode cX1_setPlace 11 = .ok (.iload_n 1, 1) := by decide +kernel
theorem dX1_setPlace_12 : decode cX1_setPlace 12 = .ok (.iload_n 3, 1) := by decide +kernel
theorem dX1_setPlace_13 : decode cX1_setPlace 13 = .ok (.iastore, 1) := by decide +kernel
theorem dX1_setPlace_14 : decode cX1_setPlace 14 = .ok (.aload_n 0, 1) := by decide +kernel
theorem dX1_setPlace_15 : decode cX1_setPlace 15 = .ok (.getfield 28, 3) := by decide +kernel
theorem dX1_setPlace_18 : decode cX1_setPlace 18 = .ok (.iload_n 1, 1) := by decide +kernel
theorem dX1_setPlace_19 : decode cX1_setPlace 19 = .ok (.iload 4, 2) := by decide +kernel
theorem dX1_setPlace_21 : decode cX1_setPlace 21 = .ok (.iastore, 1) := by decide +kernel
theorem dX1_setPlace_22 : decode cX1_setPlace 22 = .ok (.return_, 1) := by decide +kernel
theorem dX1_addStep_0 : decode cX1_addStep 0 = .ok (.aload_n 0, 1) := by decide +kernel
theorem dX1_addStep_1 : decode cX1_addStep 1 = .ok (.getfield 37, 3) := by decide +kernel
theorem dX1_addStep_4 : decode cX1_addStep 4 = .ok (.iload_n 1, 1) := by decide +kernel
theorem dX1_addStep_5 : decode cX1_addStep 5 = .ok (.iaload, 1) := by decide +kernel
theorem dX1_addStep_6 : decode cX1_addStep 6 = .ok (.istore 4, 2) := by decide +kernel
theorem dX1_addStep_8 : decode cX1_addStep 8 = .ok (.aload_n 0, 1) := by decide +kernel
theorem dX1_addStep_9 : decode cX1_addStep 9 = .ok (.iload_n 1, 1) := by decide +kernel
theorem dX1_addStep_10 : decode cX1_addStep 10 = .ok (.invokevirtual 52, 3) := by decide +kernel
theorem dX1_addStep_13 : decode cX1_addStep 13 = .ok (.iload 4, 2) := by decide +kernel
theorem dX1_addStep_15 : decode cX1_addStep 15 = .ok (.iadd, 1) := by decide +kernel
theorem dX1_addStep_16 : decode cX1_addStep 16 = .ok (.istore 5, 2) := by decide +kernel
theorem dX1_addStep_18 : decode cX1_addStep 18 = .ok (.aload_n 0, 1) := by decide +kernel
theorem dX1_addStep_19 : decode cX1_addStep 19 = .ok (.getfield 40, 3) := by decide +kernel
theorem dX1_addStep_22 : decode cX1_addStep 22 = .ok (.iload 5, 2) := by decide +kernel
theorem dX1_addStep_24 : decode cX1_addStep 24 = .ok (.iload_n 2, 1) := by decide +kernel
theorem dX1_addStep_25 : decode cX1_addStep 25 = .ok (.iastore, 1) := by decide +kernel
theorem dX1_addStep_26 : decode cX1_addStep 26 = .ok (.aload_n 0, 1) := by decide +kernel
theorem dX1_addStep_27 : decode cX1_addStep 27 = .ok (.getfield 43, 3) := by decide +kernel
theorem dX1_addStep_30 : decode cX1_addStep 30 = .ok (.iload 5, 2) := by decide +kernel
theorem dX1_addStep_32 : decode cX1_addStep 32 = .ok (.iload_n 3, 1) := by decide +kernel
theorem dX1_addStep_33 : decode cX1_addStep 33 = .ok (.iastore, 1) := by decide +kernel
theorem dX1_addStep_34 : decode cX1_addStep 34 = .ok (.aload_n 0, 1) := by decide +kernel
theorem dX1_addStep_35 : decode cX1_addStep 35 = .ok (.getfield 37, 3) := by decide +kernel
theorem dX1_addStep_38 : decode cX1_addStep 38 = .ok (.iload_n 1, 1) := by decide +kernel
theorem dX1_addStep_39 : decode cX1_addStep 39 = .ok (.iload 4, 2) := by decide +kernel
theorem dX1_addStep_41 : decode cX1_addStep 41 = .ok (.iconst 1, 1) := by decide +kernel
theorem dX1_addStep_42 : decode cX1_addStep 42 = .ok (.iadd, 1) := by decide +kernel
theorem dX1_addStep_43 : decode cX1_addStep 43 = .ok (.iastore, 1) := by decide +kernel
theorem dX1_addStep_44 : decode cX1_addStep 44 = .ok (.aload_n 0, 1) := by decide +kernel
theorem dX1_addStep_45 : decode cX1_addStep 45 = .ok (.dup, 1) := by decide +kernel
theorem dX1_addStep_46 : decode cX1_addStep 46 = .ok (.getfield 18, 3) := by decide +kernel
theorem dX1_addStep_49 : decode cX1_addStep 49 = .ok (.iconst 1, 1) := by decide +kernel
theorem dX1_addStep_50 : decode cX1_addStep 50 = .ok (.iadd, 1) := by decide +kernel
theorem dX1_addStep_51 : decode cX1_addStep 51 = .ok (.putfield 18, 3) := by decide +kernel
theorem dX1_addStep_54 : decode cX1_addStep 54 = .ok (.iload 4, 2) := by decide +kernel
theorem dX1_addStep_56 : decode cX1_addStep 56 = .ok (.ireturn, 1) := by decide +kernel
theorem dX1_rowsEnd_0 : decode cX1_rowsEnd 0 = .ok (.aload_n 0, 1) := by decide +kernel
theorem dX1_rowsEnd_1 : decode cX1_rowsEnd 1 = .ok (.getfield 15, 3) := by decide +kernel
theorem dX1_rowsEnd_4 : decode cX1_rowsEnd 4 = .ok (.iconst 5, 1) := by decide +kernel
theorem dX1_rowsEnd_5 : decode cX1_rowsEnd 5 = .ok (.imul, 1) := by decide +kernel
theorem dX1_rowsEnd_6 : decode cX1_rowsEnd 6 = .ok (.ireturn, 1) := by decide +kernel
theorem dX1_firstRow_0 : decode cX1_firstRow 0 = .ok (.iload_n 1, 1) := by decide +kernel
theorem dX1_firstRow_1 : decode cX1_firstRow 1 = .ok (.iconst 5, 1) := by decide +kernel
theorem dX1_firstRow_2 : decode cX1_firstRow 2 = .ok (.imul, 1) := by decide +kernel
theorem dX1_firstRow_3 : decode cX1_firstRow 3 = .ok (.ireturn, 1) := by decide +kernel
theorem dX1_lastRow_0 : decode cX1_lastRow 0 = .ok (.aload_n 0, 1) := by decide +kernel
theorem dX1_lastRow_1 : decode cX1_lastRow 1 = .ok (.iload_n 1, 1) := by decide +kernel
theorem dX1_lastRow_2 : decode cX1_lastRow 2 = .ok (.invokevirtual 52, 3) := by decide +kernel
theorem dX1_lastRow_5 : decode cX1_lastRow 5 = .ok (.aload_n 0, 1) := by decide +kernel
theorem dX1_lastRow_6 : decode cX1_lastRow 6 = .ok (.getfield 37, 3) := by decide +kernel
theorem dX1_lastRow_9 : decode cX1_lastRow 9 = .ok (.iload_n 1, 1) := by decide +kernel
theorem dX1_lastRow_10 : decode cX1_lastRow 10 = .ok (.iaload, 1) := by decide +kernel
theorem dX1_lastRow_11 : decode cX1_lastRow 11 = .ok (.iadd, 1) := by decide +kernel
theorem dX1_lastRow_12 : decode cX1_lastRow 12 = .ok (.iconst 1, 1) := by decide +kernel
theorem dX1_lastRow_13 : decode cX1_lastRow 13 = .ok (.isub, 1) := by decide +kernel
theorem dX1_lastRow_14 : decode cX1_lastRow 14 = .ok (.ireturn, 1) := by decide +kernel
theorem dX1_isStep_0 : decode cX1_isStep 0 = .ok (.aload_n 0, 1) := by decide +kernel
theorem dX1_isStep_1 : decode cX1_isStep 1 = .ok (.getfield 40, 3) := by decide +kernel
theorem dX1_isStep_4 : decode cX1_isStep 4 = .ok (.iload_n 1, 1) := by decide +kernel
theorem dX1_isStep_5 : decode cX1_isStep 5 = .ok (.iaload, 1) := by decide +kernel
theorem dX1_isStep_6 : decode cX1_isStep 6 = .ok (.iconst (-1), 1) := by decide +kernel
theorem dX1_isStep_7 : decode cX1_isStep 7 = .ok (.if_icmp .eq 7, 3) := by decide +kernel
theorem dX1_isStep_10 : decode cX1_isStep 10 = .ok (.iconst 1, 1) := by decide +kernel
theorem dX1_isStep_11 : decode cX1_isStep 11 = .ok (.goto 4, 3) := by decide +kernel
theorem dX1_isStep_14 : decode cX1_isStep 14 = .ok (.iconst 0, 1) := by decide +kernel
theorem dX1_isStep_15 : decode cX1_isStep 15 = .ok (.ireturn, 1) := by decide +kernel
theorem dX2_init_0 : decode cX2_init 0 = .ok (.aload_n 0, 1) := by decide +kernel
theorem dX2_init_1 : decode cX2_init 1 = .ok (.invokespecial 3, 3) := by decide +kernel
theorem dX2_init_4 : decode cX2_init 4 = .ok (.aload_n 0, 1) := by decide +kernel
theorem dX2_init_5 : decode cX2_init 5 = .ok (.sipush 300, 3) := by decide +kernel
theorem dX2_init_8 : decode cX2_init 8 = .ok (.newarray .int, 2) := by decide +kernel
theorem dX2_init_10 : decode cX2_init 10 = .ok (.putfield 9, 3) := by decide +kernel
theorem dX2_init_13 : decode cX2_init 13 = .ok (.aload_n 0, 1) := by decide +kernel
theorem dX2_init_14 : decode cX2_init 14 = .ok (.sipush 300, 3) := by decide +kernel
theorem dX2_init_17 : decode cX2_init 17 = .ok (.newarray .int, 2) := by decide +kernel
theorem dX2_init_19 : decode cX2_init 19 = .ok (.putfield 15, 3) := by decide +kernel
theorem dX2_init_22 : decode cX2_init 22 = .ok (.aload_n 0, 1) := by decide +kernel
theorem dX2_init_23 : decode cX2_init 23 = .ok (.sipush 300, 3) := by decide +kernel
theorem dX2_init_26 : decode cX2_init 26 = .ok (.newarray .int, 2) := by decide +kernel
theorem dX2_init_28 : decode cX2_init 28 = .ok (.putfield 18, 3) := by decide +kernel
theorem dX2_init_31 : decode cX2_init 31 = .ok (.aload_n 0, 1) := by decide +kernel
theorem dX2_init_32 : decode cX2_init 32 = .ok (.bipush 60, 2) := by decide +kernel
theorem dX2_init_34 : decode cX2_init 34 = .ok (.newarray .int, 2) := by decide +kernel
theorem dX2_init_36 : decode cX2_init 36 = .ok (.putfield 21, 3) := by decide +kernel
theorem dX2_init_39 : decode cX2_init 39 = .ok (.aload_n 0, 1) := by decide +kernel
theorem dX2_init_40 : decode cX2_init 40 = .ok (.bipush 60, 2) := by decide +kernel
theorem dX2_init_42 : decode cX2_init 42 = .ok (.newarray .int, 2) := by decide +kernel
theorem dX2_init_44 : decode cX2_init 44 = .ok (.putfield 24, 3) := by decide +kernel
theorem dX2_init_47 : decode cX2_init 47 = .ok (.aload_n 0, 1) := by decide +kernel
theorem dX2_init_48 : decode cX2_init 48 = .ok (.bipush 60, 2) := by decide +kernel
theorem dX2_init_50 : decode cX2_init 50 = .ok (.newarray .int, 2) := by decide +kernel
theorem dX2_init_52 : decode cX2_init 52 = .ok (.putfield 27, 3) := by decide +kernel
theorem dX2_init_55 : decode cX2_init 55 = .ok (.aload_n 0, 1) := by decide +kernel
theorem dX2_init_56 : decode cX2_init 56 = .ok (.iconst 5, 1) := by decide +kernel
theorem dX2_init_57 : decode cX2_init 57 = .ok (.newarray .int, 2) := by decide +kernel
theorem dX2_init_59 : decode cX2_init 59 = .ok (.putfield 30, 3) := by decide +kernel
theorem dX2_init_62 : decode cX2_init 62 = .ok (.aload_n 0, 1) := by decide +kernel
theorem dX2_init_63 : decode cX2_init 63 = .ok (.iconst 5, 1) := by decide +kernel
theorem dX2_init_64 : decode cX2_init 64 = .ok (.newarray .int, 2) := by decide +kernel
theorem dX2_init_66 : decode cX2_init 66 = .ok (.putfield 33, 3) := by decide +kernel
theorem dX2_init_69 : decode cX2_init 69 = .ok (.return_, 1) := by decide +kernel
theorem dX2_run_0 : decode cX2_run 0 = .ok (.aload_n 0, 1) := by decide +kernel
theorem dX2_run_1 : decode cX2_run 1 = .ok (.aload_n 1, 1) := by decide +kernel
theorem dX2_run_2 : decode cX2_run 2 = .ok (.iload_n 2, 1) := by decide +kernel
theorem dX2_run_3 : decode cX2_run 3 = .ok (.invokevirtual 36, 3) := by decide +kernel
theorem dX2_run_6 : decode cX2_run 6 = .ok (.iconst 0, 1) := by decide +kernel
theorem dX2_run_7 : decode cX2_run 7 = .ok (.istore_n 3, 1) := by decide +kernel
theorem dX2_run_8 : decode cX2_run 8 = .ok (.iload_n 3, 1) := by decide +kernel
theorem dX2_run_9 : decode cX2_run 9 = .ok (.sipush 600, 3) := by decide +kernel
theorem dX2_run_12 : decode cX2_run 12 = .ok (.if_icmp .ge 58, 3) := by decide +kernel
theorem dX2_run_15 : decode cX2_run 15 = .ok (.aload_n 0, 1) := by decide +kernel
theorem dX2_run_16 : decode cX2_run 16 = .ok (.aload_n 1, 1) := by decide +kernel
theorem dX2_run_17 : decode cX2_run 17 = .ok (.invokevirtual 40, 3) := by decide +kernel
theorem dX2_run_20 : decode cX2_run 20 = .ok (.istore 4, 2) := by decide +kernel
theorem dX2_run_22 : decode cX2_run 22 = .ok (.iload 4, 2) := by decide +kernel
theorem dX2_run_24 : decode cX2_run 24 = .ok (.ldc 44, 2) := by decide +kernel
theorem dX2_run_26 : decode cX2_run 26 = .ok (.if_icmp .ne 4, 3) := by decide +kernel
theorem dX2_run_29 : decode cX2_run 29 = .ok (.return_, 1) := by decide +kernel
theorem dX2_run_30 : decode cX2_run 30 = .ok (.aload_n 0, 1) := by decide +kernel
theorem dX2_run_31 : decode cX2_run 31 = .ok (.aload_n 1, 1) := by decide +kernel
theorem dX2_run_32 : decode cX2_run 32 = .ok (.iload 4, 2) := by decide +kernel
theorem dX2_run_34 : decode cX2_run 34 = .ok (.invokevirtual 45, 3) := by decide +kernel
theorem dX2_run_37 : decode cX2_run 37 = .ok (.iconst 0, 1) := by decide +kernel
theorem dX2_run_38 : decode cX2_run 38 = .ok (.istore 5, 2) := by decide +kernel
theorem dX2_run_40 : decode cX2_run 40 = .ok (.iload 5, 2) := by decide +kernel
theorem dX2_run_42 : decode cX2_run 42 = .ok (.aload_n 1, 1) := by decide +kernel
theorem dX2_run_43 : decode cX2_run 43 = .ok (.getfield 48, 3) := by decide +kernel
theorem dX2_run_46 : decode cX2_run 46 = .ok (.if_icmp .ge 18, 3) := by decide +kernel
theorem dX2_run_49 : decode cX2_run 49 = .ok (.aload_n 0, 1) := by decide +kernel
theorem dX2_run_50 : decode cX2_run 50 = .ok (.aload_n 1, 1) := by decide +kernel
theorem dX2_run_51 : decode cX2_run 51 = .ok (.iload 5, 2) := by decide +kernel
theorem dX2_run_53 : decode cX2_run 53 = .ok (.iload 4, 2) := by decide +kernel
theorem dX2_run_55 : decode cX2_run 55 = .ok (.invokevirtual 54, 3) := by decide +kernel
theorem dX2_run_58 : decode cX2_run 58 = .ok (.iinc 5 1, 3) := by decide +kernel
theorem dX2_run_61 : decode cX2_run 61 = .ok (.goto (-21), 3) := by decide +kernel
theorem dX2_run_64 : decode cX2_run 64 = .ok (.iinc 3 1, 3) := by decide +kernel
theorem dX2_run_67 : decode cX2_run 67 = .ok (.goto (-59), 3) := by decide +kernel
theorem dX2_run_70 : decode cX2_run 70 = .ok (.return_, 1) := by decide +kernel
theorem dX2_sumOfTimes_0 : decode cX2_sumOfTimes 0 = .ok (.lconst 0, 1) := by decide +kernel
theorem dX2_sumOfTimes_1 : decode cX2_sumOfTimes 1 = .ok (.lstore_n 2, 1) := by decide +kernel
theorem dX2_sumOfTimes_2 : decode cX2_sumOfTimes 2 = .ok (.iconst 0, 1) := by decide +kernel
theorem dX2_sumOfTimes_3 : decode cX2_sumOfTimes 3 = .ok (.istore 4, 2) := by decide +kernel
theorem dX2_sumOfTimes_5 : decode cX2_sumOfTimes 5 = .ok (.iload 4, 2) := by decide +kernel
theorem dX2_sumOfTimes_7 : decode cX2_sumOfTimes 7 = .ok (.aload_n 1, 1) := by decide +kernel
theorem dX2_sumOfTimes_8 : decode cX2_sumOfTimes 8 = .ok (.getfield 58, 3) := by decide +kernel
theorem dX2_sumOfTimes_11 : decode cX2_sumOfTimes 11 = .ok (.if_icmp .ge 32, 3) := by decide +kernel
theorem dX2_sumOfTimes_14 : decode cX2_sumOfTimes 14 = .ok (.lload_n 2, 1) := by decide +kernel
theorem dX2_sumOfTimes_15 : decode cX2_sumOfTimes 15 = .ok (.aload_n 0, 1) := by decide +kernel
theorem dX2_sumOfTimes_16 : decode cX2_sumOfTimes 16 = .ok (.getfield 18, 3) := by decide +kernel
theorem dX2_sumOfTimes_19 : decode cX2_sumOfTimes 19 = .ok (.aload_n 1, 1) := by decide +kernel
theorem dX2_sumOfTimes_20 : decode cX2_sumOfTimes 20 = .ok (.iload 4, 2) := by decide +kernel
theorem dX2_sumOfTimes_22 : decode cX2_sumOfTimes 22 = .ok (.invokevirtual 61, 3) := by decide +kernel
theorem dX2_sumOfTimes_25 : decode cX2_sumOfTimes 25 = .ok (.iaload, 1) := by decide +kernel
theorem dX2_sumOfTimes_26 : decode cX2_sumOfTimes 26 = .ok (.aload_n 1, 1) := by decide +kernel
theorem dX2_sumOfTimes_27 : decode cX2_sumOfTimes 27 = .ok (.getfield 65, 3) := by decide +kernel
theorem dX2_sumOfTimes_30 : decode cX2_sumOfTimes 30 = .ok (.iload 4, 2) := by decide +kernel
theorem dX2_sumOfTimes_32 : decode cX2_sumOfTimes 32 = .ok (.iaload, 1) := by decide +kernel
theorem dX2_sumOfTimes_33 : decode cX2_sumOfTimes 33 = .ok (.isub, 1) := by decide +kernel
theorem dX2_sumOfTimes_34 : decode cX2_sumOfTimes 34 = .ok (.i2l, 1) := by decide +kernel
theorem dX2_sumOfTimes_35 : decode cX2_sumOfTimes 35 = .ok (.ladd, 1) := by decide +kernel
theorem dX2_sumOfTimes_36 : decode cX2_sumOfTimes 36 = .ok (.lstore_n 2, 1) := by decide +kernel
theorem dX2_sumOfTimes_37 : decode cX2_sumOfTimes 37 = .ok (.iinc 4 1, 3) := by decide +kernel
theorem dX2_sumOfTimes_40 : decode cX2_sumOfTimes 40 = .ok (.goto (-35), 3) := by decide +kernel
theorem dX2_sumOfTimes_43 : decode cX2_sumOfTimes 43 = .ok (.lload_n 2, 1) := by decide +kernel
theorem dX2_sumOfTimes_44 : decode cX2_sumOfTimes 44 = .ok (.lreturn, 1) := by decide +kernel
theorem dX2_end_0 : decode cX2_end 0 = .ok (.iconst 0, 1) := by decide +kernel
theorem dX2_end_1 : decode cX2_end 1 = .ok (.istore_n 2, 1) := by decide +kernel
theorem dX2_end_2 : decode cX2_end 2 = .ok (.iconst 0, 1) := by decide +kernel
theorem dX2_end_3 : decode cX2_end 3 = .ok (.istore_n 3, 1) := by decide +kernel
theorem dX2_end_4 : decode cX2_end 4 = .ok (.iload_n 3, 1) := by decide +kernel
theorem dX2_end_5 : decode cX2_end 5 = .ok (.aload_n 1, 1) := by decide +kernel
theorem dX2_end_6 : decode cX2_end 6 = .ok (.getfield 58, 3) := by decide +kernel
theorem dX2_end_9 : decode cX2_end 9 = .ok (.if_icmp .ge 24, 3) := by decide +kernel
theorem dX2_end_12 : decode cX2_end 12 = .ok (.iload_n 2, 1) := by decide +kernel
theorem dX2_end_13 : decode cX2_end 13 = .ok (.aload_n 0, 1) := by decide +kernel
theorem dX2_end_14 : decode cX2_end 14 = .ok (.getfield 18, 3) := by decide +kernel
theorem dX2_end_17 : decode cX2_end 17 = .ok (.aload_n 1, 1) := by decide +kernel
theorem dX2_end_18 : decode cX2_end 18 = .ok (.iload_n 3, 1) := by decide +kernel
theorem dX2_end_19 : decode cX2_end 19 = .ok (.invokevirtual 61, 3) := by decide +kernel
theorem dX2_end_22 : decode cX2_end 22 = .ok (.iaload, 1) := by decide +kernel
theorem dX2_end_23 : decode cX2_end 23 = .ok (.invokestatic 68, 3) := by decide +kernel
theorem dX2_end_26 : decode cX2_end 26 = .ok (.istore_n 2, 1) := by decide +kernel
theorem dX2_end_27 : decode cX2_end 27 = .ok (.iinc 3 1, 3) := by decide +kernel
theorem dX2_end_30 : decode cX2_end 30 = .ok (.goto (-26), 3) := by decide +kernel
theorem dX2_end_33 : decode cX2_end 33 = .ok (.iload_n 2, 1) := by decide +kernel
theorem dX2_end_34 : decode cX2_end 34 = .ok (.ireturn, 1) := by decide +kernel
theorem dX2_open_0 : decode cX2_open 0 = .ok (.iconst 0, 1) := by decide +kernel
theorem dX2_open_1 : decode cX2_open 1 = .ok (.istore_n 3, 1) := by decide +kernel
theorem dX2_open_2 : decode cX2_open 2 = .ok (.iload_n 3, 1) := by decide +kernel
theorem dX2_open_3 : decode cX2_open 3 = .ok (.aload_n 1, 1) := by decide +kernel
theorem dX2_open_4 : decode cX2_open 4 = .ok (.getfield 48, 3) := by decide +kernel
theorem dX2_open_7 : decode cX2_open 7 = .ok (.if_icmp .ge 44, 3) := by decide +kernel
theorem dX2_open_10 : decode cX2_open 10 = .ok (.aload_n 0, 1) := by decide +kernel
theorem dX2_open_11 : decode cX2_open 11 = .ok (.getfield 30, 3) := by decide +kernel
theorem dX2_open_14 : decode cX2_open 14 = .ok (.iload_n 3, 1) := by decide +kernel
theorem dX2_open_15 : decode cX2_open 15 = .ok (.iload_n 3, 1) := by decide +kernel
theorem dX2_open_16 : decode cX2_open 16 = .ok (.iload_n 2, 1) := by decide +kernel
theorem dX2_open_17 : decode cX2_open 17 = .ok (.if_icmp .ne 14, 3) := by decide +kernel
theorem dX2_open_20 : decode cX2_open 20 = .ok (.aload_n 1, 1) := by decide +kernel
theorem dX2_open_21 : decode cX2_open 21 = .ok (.getfield 74, 3) := by decide +kernel
theorem dX2_open_24 : decode cX2_open 24 = .ok (.iload_n 3, 1) := by decide +kernel
theorem dX2_open_25 : decode cX2_open 25 = .ok (.iaload, 1) := by decide +kernel
theorem dX2_open_26 : decode cX2_open 26 = .ok (.iconst 1, 1) := by decide +kernel
theorem dX2_open_27 : decode cX2_open 27 = .ok (.iadd, 1) := by decide +kernel
theorem dX2_open_28 : decode cX2_open 28 = .ok (.goto 9, 3) := by decide +kernel
theorem dX2_open_31 : decode cX2_open 31 = .ok (.aload_n 1, 1) := by decide +kernel
theorem dX2_open_32 : decode cX2_open 32 = .ok (.getfield 74, 3) := by decide +kernel
theorem dX2_open_35 : decode cX2_open 35 = .ok (.iload_n 3, 1) := by decide +kernel
theorem dX2_open_36 : decode cX2_open 36 = .ok (.iaload, 1) := by decide +kernel
theorem dX2_open_37 : decode cX2_open 37 = .ok (.iastore, 1) := by decide +kernel
theorem dX2_open_38 : decode cX2_open 38 = .ok (.aload_n 0, 1) := by decide +kernel
theorem dX2_open_39 : decode cX2_open 39 = .ok (.getfield 33, 3) := by decide +kernel
theorem dX2_open_42 : decode cX2_open 42 = .ok (.iload_n 3, 1) := by decide +kernel
theorem dX2_open_43 : decode cX2_open 43 = .ok (.iconst 0, 1) := by decide +kernel
theorem dX2_open_44 : decode cX2_open 44 = .ok (.iastore, 1) := by decide +kernel
theorem dX2_open_45 : decode cX2_open 45 = .ok (.iinc 3 1, 3) := by decide +kernel
theorem dX2_open_48 : decode cX2_open 48 = .ok (.goto (-46), 3) := by decide +kernel
theorem dX2_open_51 : decode cX2_open 51 = .ok (.iconst 0, 1) := by decide +kernel
theorem dX2_open_52 : decode cX2_open 52 = .ok (.istore_n 3, 1) := by decide +kernel
theorem dX2_open_53 : decode cX2_open 53 = .ok (.iload_n 3, 1) := by decide +kernel
theorem dX2_open_54 : decode cX2_open 54 = .ok (.aload_n 1, 1) := by decide +kernel
theorem dX2_open_55 : decode cX2_open 55 = .ok (.getfield 58, 3) := by decide +kernel
theorem dX2_open_58 : decode cX2_open 58 = .ok (.if_icmp .ge 39, 3) := by decide +kernel
theorem dX2_open_61 : decode cX2_open 61 = .ok (.aload_n 0, 1) := by decide +kernel
theorem dX2_open_62 : decode cX2_open 62 = .ok (.getfield 21, 3) := by decide +kernel
theorem dX2_open_65 : decode cX2_open 65 = .ok (.iload_n 3, 1) := by decide +kernel
theorem dX2_open_66 : decode cX2_open 66 = .ok (.iconst 0, 1) := by decide +kernel
theorem dX2_open_67 : decode cX2_open 67 = .ok (.iastore, 1) := by decide +kernel
theorem dX2_open_68 : decode cX2_open 68 = .ok (.aload_n 0, 1) := by decide +kernel
theorem dX2_open_69 : decode cX2_open 69 = .ok (.getfield 24, 3) := by decide +kernel
theorem dX2_open_72 : decode cX2_open 72 = .ok (.iload_n 3, 1) := by decide +kernel
theorem dX2_open_73 : decode cX2_open 73 = .ok (.aload_n 1, 1) := by decide +kernel
theorem dX2_open_74 : decode cX2_open 74 = .ok (.iload_n 3, 1) := by decide +kernel
theorem dX2_open_75 : decode cX2_open 75 = .ok (.invokevirtual 77, 3) := by decide +kernel
theorem dX2_open_78 : decode cX2_open 78 = .ok (.iastore, 1) := by decide +kernel
theorem dX2_open_79 : decode cX2_open 79 = .ok (.aload_n 0, 1) := by decide +kernel
theorem dX2_open_80 : decode cX2_open 80 = .ok (.getfield 27, 3) := by decide +kernel
theorem dX2_open_83 : decode cX2_open 83 = .ok (.iload_n 3, 1) := by decide +kernel
theorem dX2_open_84 : decode cX2_open 84 = .ok (.aload_n 1, 1) := by decide +kernel
theorem dX2_open_85 : decode cX2_open 85 = .ok (.getfield 65, 3) := by decide +kernel
theorem dX2_open_88 : decode cX2_open 88 = .ok (.iload_n 3, 1) := by decide +kernel
theorem dX2_open_89 : decode cX2_open 89 = .ok (.iaload, 1) := by decide +kernel
theorem dX2_open_90 : decode cX2_open 90 = .ok (.iastore, 1) := by decide +kernel
theorem dX2_open_91 : decode cX2_open 91 = .ok (.iinc 3 1, 3) := by decide +kernel
theorem dX2_open_94 : decode cX2_open 94 = .ok (.goto (-41), 3) := by decide +kernel
theorem dX2_open_97 : decode cX2_open 97 = .ok (.return_, 1) := by decide +kernel
theorem dX2_nextTick_0 : decode cX2_nextTick 0 = .ok (.ldc 44, 2) := by decide +kernel
theorem dX2_nextTick_2 : decode cX2_nextTick 2 = .ok (.istore_n 2, 1) := by decide +kernel
theorem dX2_nextTick_3 : decode cX2_nextTick 3 = .ok (.iconst 0, 1) := by decide +kernel
theorem dX2_nextTick_4 : decode cX2_nextTick 4 = .ok (.istore_n 3, 1) := by decide +kernel
theorem dX2_nextTick_5 : decode cX2_nextTick 5 = .ok (.iload_n 3, 1) := by decide +kernel
theorem dX2_nextTick_6 : decode cX2_nextTick 6 = .ok (.aload_n 1, 1) := by decide +kernel
theorem dX2_nextTick_7 : decode cX2_nextTick 7 = .ok (.getfield 58, 3) := by decide +kernel
theorem dX2_nextTick_10 : decode cX2_nextTick 10 = .ok (.if_icmp .ge 20, 3) := by decide +kernel
theorem dX2_nextTick_13 : decode cX2_nextTick 13 = .ok (.iload_n 2, 1) := by decide +kernel
theorem dX2_nextTick_14 : decode cX2_nextTick 14 = .ok (.aload_n 0, 1) := by decide +kernel
theorem dX2_nextTick_15 : decode cX2_nextTick 15 = .ok (.getfield 27, 3) := by decide +kernel
theorem dX2_nextTick_18 : decode cX2_nextTick 18 = .ok (.iload_n 3, 1) := by decide +kernel
theorem dX2_nextTick_19 : decode cX2_nextTick 19 = .ok (.iaload, 1) := by decide +kernel
theorem dX2_nextTick_20 : decode cX2_nextTick 20 = .ok (.invokestatic 80, 3) := by decide +kernel
theorem dX2_nextTick_23 : decode cX2_nextTick 23 = .ok (.istore_n 2, 1) := by decide +kernel
theorem dX2_nextTick_24 : decode cX2_nextTick 24 = .ok (.iinc 3 1, 3) := by decide +kernel
theorem dX2_nextTick_27 : decode cX2_nextTick 27 = .ok (.goto (-22), 3) := by decide +kernel
theorem dX2_nextTick_30 : decode cX2_nextTick 30 = .ok (.iload_n 2, 1) := by decide +kernel
theorem dX2_nextTick_31 : decode cX2_nextTick 31 = .ok (.ireturn, 1) := by decide +kernel
theorem dX2_advance_0 : decode cX2_advance 0 = .ok (.iconst 0, 1) := by decide +kernel
theorem dX2_advance_1 : decode cX2_advance 1 = .ok (.istore_n 3, 1) := by decide +kernel
theorem dX2_advance_2 : decode cX2_advance 2 = .ok (.iload_n 3, 1) := by decide +kernel
theorem dX2_advance_3 : decode cX2_advance 3 = .ok (.aload_n 1, 1) := by decide +kernel
theorem dX2_advance_4 : decode cX2_advance 4 = .ok (.getfield 58, 3) := by decide +kernel
theorem dX2_advance_7 : decode cX2_advance 7 = .ok (.if_icmp .ge 46, 3) := by decide +kernel
theorem dX2_advance_10 : decode cX2_advance 10 = .ok (.aload_n 0, 1) := by decide +kernel
theorem dX2_advance_11 : decode cX2_advance 11 = .ok (.getfield 27, 3) := by decide +kernel
theorem dX2_advance_14 : decode cX2_advance 14 = .ok (.iload_n 3, 1) := by decide +kernel
theorem dX2_advance_15 : decode cX2_advance 15 = .ok (.iaload, 1) := by decide +kernel
theorem dX2_advance_16 : decode cX2_advance 16 = .ok (.iload_n 2, 1) := by decide +kernel
theorem dX2_advance_17 : decode cX2_advance 17 = .ok (.if_icmp .ne 30, 3) := by decide +kernel
theorem dX2_advance_20 : decode cX2_advance 20 = .ok (.aload_n 0, 1) := by decide +kernel
theorem dX2_advance_21 : decode cX2_advance 21 = .ok (.getfield 21, 3) := by decide +kernel
theorem dX2_advance_24 : decode cX2_advance 24 = .ok (.iload_n 3, 1) := by decide +kernel
theorem dX2_advance_25 : decode cX2_advance 25 = .ok (.iaload, 1) := by decide +kernel
theorem dX2_advance_26 : decode cX2_advance 26 = .ok (.iconst 2, 1) := by decide +kernel
theorem dX2_advance_27 : decode cX2_advance 27 = .ok (.if_icmp .ne 13, 3) := by decide +kernel
theorem dX2_advance_30 : decode cX2_advance 30 = .ok (.aload_n 0, 1) := by decide +kernel
theorem dX2_advance_31 : decode cX2_advance 31 = .ok (.aload_n 1, 1) := by decide +kernel
theorem dX2_advance_32 : decode cX2_advance 32 = .ok (.iload_n 3, 1) := by decide +kernel
theorem dX2_advance_33 : decode cX2_advance 33 = .ok (.iload_n 2, 1) := by decide +kernel
theorem dX2_advance_34 : decode cX2_advance 34 = .ok (.invokevirtual 83, 3) := by decide +kernel
theorem dX2_advance_37 : decode cX2_advance 37 = .ok (.goto 10, 3) := by decide +kernel
theorem dX2_advance_40 : decode cX2_advance 40 = .ok (.aload_n 0, 1) := by decide +kernel
theorem dX2_advance_41 : decode cX2_advance 41 = .ok (.aload_n 1, 1) := by decide +kernel
theorem dX2_advance_42 : decode cX2_advance 42 = .ok (.iload_n 3, 1) := by decide +kernel
theorem dX2_advance_43 : decode cX2_advance 43 = .ok (.iload_n 2, 1) := by decide +kernel
theorem dX2_advance_44 : decode cX2_advance 44 = .ok (.invokevirtual 86, 3) := by decide +kernel
theorem dX2_advance_47 : decode cX2_advance 47 = .ok (.iinc 3 1, 3) := by decide +kernel
theorem dX2_advance_50 : decode cX2_advance 50 = .ok (.goto (-48), 3) := by decide +kernel
theorem dX2_advance_53 : decode cX2_advance 53 = .ok (.return_, 1) := by decide +kernel
theorem dX2_finish_0 : decode cX2_finish 0 = .ok (.aload_n 0, 1) := by decide +kernel
theorem dX2_finish_1 : decode cX2_finish 1 = .ok (.getfield 24, 3) := by decide +kernel
theorem dX2_finish_4 : decode cX2_finish 4 = .ok (.iload_n 2, 1) := by decide +kernel
theorem dX2_finish_5 : decode cX2_finish 5 = .ok (.iaload, 1) := by decide +kernel
theorem dX2_finish_6 : decode cX2_finish 6 = .ok (.istore 4, 2) := by decide +kernel
theorem dX2_finish_8 : decode cX2_finish 8 = .ok (.aload_n 1, 1) := by decide +kernel
theorem dX2_finish_9 : decode cX2_finish 9 = .ok (.getfield 89, 3) := by decide +kernel
theorem dX2_finish_12 : decode cX2_finish 12 = .ok (.iload 4, 2) := by decide +kernel
theorem dX2_finish_14 : decode cX2_finish 14 = .ok (.iaload, 1) := by decide +kernel
theorem dX2_finish_15 : decode cX2_finish 15 = .ok (.istore 5, 2) := by decide +kernel
theorem dX2_finish_17 : decode cX2_finish 17 = .ok (.aload_n 0, 1) := by decide +kernel
theorem dX2_finish_18 : decode cX2_finish 18 = .ok (.getfield 30, 3) := by decide +kernel
theorem dX2_finish_21 : decode cX2_finish 21 = .ok (.iload 5, 2) := by decide +kernel
theorem dX2_finish_23 : decode cX2_finish 23 = .ok (.dup2, 1) := by decide +kernel
theorem dX2_finish_24 : decode cX2_finish 24 = .ok (.iaload, 1) := by decide +kernel
theorem dX2_finish_25 : decode cX2_finish 25 = .ok (.iconst 1, 1) := by decide +kernel
theorem dX2_finish_26 : decode cX2_finish 26 = .ok (.iadd, 1) := by decide +kernel
theorem dX2_finish_27 : decode cX2_finish 27 = .ok (.iastore, 1) := by decide +kernel
theorem dX2_finish_28 : decode cX2_finish 28 = .ok (.iload 4, 2) := by decide +kernel
theorem dX2_finish_30 : decode cX2_finish 30 = .ok (.aload_n 1, 1) := by decide +kernel
theorem dX2_finish_31 : decode cX2_finish 31 = .ok (.iload_n 2, 1) := by decide +kernel
theorem dX2_finish_32 : decode cX2_finish 32 = .ok (.invokevirtual 61, 3) := by decide +kernel
theorem dX2_finish_35 : decode cX2_finish 35 = .ok (.if_icmp .ne 19, 3) := by decide +kernel
theorem dX2_finish_38 : decode cX2_finish 38 = .ok (.aload_n 0, 1) := by decide +kernel
theorem dX2_finish_39 : decode cX2_finish 39 = .ok (.getfield 21, 3) := by decide +kernel
theorem dX2_finish_42 : decode cX2_finish 42 = .ok (.iload_n 2, 1) := by decide +kernel
theorem dX2_finish_43 : decode cX2_finish 43 = .ok (.iconst 3, 1) := by decide +kernel
theorem dX2_finish_44 : decode cX2_finish 44 = .ok (.iastore, 1) := by decide +kernel
theorem dX2_finish_45 : decode cX2_finish 45 = .ok (.aload_n 0, 1) := by decide +kernel
theorem dX2_finish_46 : decode cX2_finish 46 = .ok (.getfield 27, 3) := by decide +kernel
theorem dX2_finish_49 : decode cX2_finish 49 = .ok (.iload_n 2, 1) := by decide +kernel
theorem dX2_finish_50 : decode cX2_finish 50 = .ok (.ldc 44, 2) := by decide +kernel
theorem dX2_finish_52 : decode cX2_finish 52 = .ok (.iastore, 1) := by decide +kernel
theorem dX2_finish_53 : decode cX2_finish 53 = .ok (.return_, 1) := by decide +kernel
theorem dX2_finish_54 : decode cX2_finish 54 = .ok (.aload_n 0, 1) := by decide +kernel
theorem dX2_finish_55 : decode cX2_finish 55 = .ok (.getfield 24, 3) := by decide +kernel
theorem dX2_finish_58 : decode cX2_finish 58 = .ok (.iload_n 2, 1) := by decide +kernel
theorem dX2_finish_59 : decode cX2_finish 59 = .ok (.iload 4, 2) := by decide +kernel
theorem dX2_finish_61 : decode cX2_finish 61 = .ok (.iconst 1, 1) := by decide +kernel
theorem dX2_finish_62 : decode cX2_finish 62 = .ok (.iadd, 1) := by decide +kernel
theorem dX2_finish_63 : decode cX2_finish 63 = .ok (.iastore, 1) := by decide +kernel
theorem dX2_finish_64 : decode cX2_finish 64 = .ok (.aload_n 0, 1) := by decide +kernel
theorem dX2_finish_65 : decode cX2_finish 65 = .ok (.getfield 21, 3) := by decide +kernel
theorem dX2_finish_68 : decode cX2_finish 68 = .ok (.iload_n 2, 1) := by decide +kernel
theorem dX2_finish_69 : decode cX2_finish 69 = .ok (.iconst 0, 1) := by decide +kernel
theorem dX2_finish_70 : decode cX2_finish 70 = .ok (.iastore, 1) := by decide +kernel
theorem dX2_finish_71 : decode cX2_finish 71 = .ok (.aload_n 0, 1) := by decide +kernel
theorem dX2_finish_72 : decode cX2_finish 72 = .ok (.getfield 27, 3) := by decide +kernel
theorem dX2_finish_75 : decode cX2_finish 75 = .ok (.iload_n 2, 1) := by decide +kernel
theorem dX2_finish_76 : decode cX2_finish 76 = .ok (.iload_n 3, 1) := by decide +kernel
theorem dX2_finish_77 : decode cX2_finish 77 = .ok (.aload_n 1, 1) := by decide +kernel
theorem dX2_finish_78 : decode cX2_finish 78 = .ok (.getfield 92, 3) := by decide +kernel
theorem dX2_finish_81 : decode cX2_finish 81 = .ok (.iload 5, 2) := by decide +kernel
theorem dX2_finish_83 : decode cX2_finish 83 = .ok (.iaload, 1) := by decide +kernel
theorem dX2_finish_84 : decode cX2_finish 84 = .ok (.iadd, 1) := by decide +kernel
theorem dX2_finish_85 : decode cX2_finish 85 = .ok (.iastore, 1) := by decide +kernel
theorem dX2_finish_86 : decode cX2_finish 86 = .ok (.aload_n 1, 1) := by decide +kernel
theorem dX2_finish_87 : decode cX2_finish 87 = .ok (.getfield 92, 3) := by decide +kernel
theorem dX2_finish_90 : decode cX2_finish 90 = .ok (.iload 5, 2) := by decide +kernel
theorem dX2_finish_92 : decode cX2_finish 92 = .ok (.iaload, 1) := by decide +kernel
theorem dX2_finish_93 : decode cX2_finish 93 = .ok (.ifCond .ne 10, 3) := by decide +kernel
theorem dX2_finish_96 : decode cX2_finish 96 = .ok (.aload_n 0, 1) := by decide +kernel
theorem dX2_finish_97 : decode cX2_finish 97 = .ok (.aload_n 1, 1) := by decide +kernel
theorem dX2_finish_98 : decode cX2_finish 98 = .ok (.iload_n 2, 1) := by decide +kernel
theorem dX2_finish_99 : decode cX2_finish 99 = .ok (.iload_n 3, 1) := by decide +kernel
theorem dX2_finish_100 : decode cX2_finish 100 = .ok (.invokevirtual 86, 3) := by decide +kernel
theorem dX2_finish_103 : decode cX2_finish 103 = .ok (.return_, 1) := by decide +kernel
theorem dX2_arrive_0 : decode cX2_arrive 0 = .ok (.aload_n 0, 1) := by decide +kernel
theorem dX2_arrive_1 : decode cX2_arrive 1 = .ok (.getfield 24, 3) := by decide +kernel
theorem dX2_arrive_4 : decode cX2_arrive 4 = .ok (.iload_n 2, 1) := by decide +kernel
theorem dX2_arrive_5 : decode cX2_arrive 5 = .ok (.iaload, 1) := by decide +kernel
theorem dX2_arrive_6 : decode cX2_arrive 6 = .ok (.istore 4, 2) := by decide +kernel
theorem dX2_arrive_8 : decode cX2_arrive 8 = .ok (.aload_n 0, 1) := by decide +kernel
theorem dX2_arrive_9 : decode cX2_arrive 9 = .ok (.getfield 9, 3) := by decide +kernel
theorem dX2_arrive_12 : decode cX2_arrive 12 = .ok (.iload 4, 2) := by decide +kernel
theorem dX2_arrive_14 : decode cX2_arrive 14 = .ok (.iload_n 3, 1) := by decide +kernel
theorem dX2_arrive_15 : decode cX2_arrive 15 = .ok (.iastore, 1) := by decide +kernel
theorem dX2_arrive_16 : decode cX2_arrive 16 = .ok (.aload_n 0, 1) := by decide +kernel
theorem dX2_arrive_17 : decode cX2_arrive 17 = .ok (.getfield 21, 3) := by decide +kernel
theorem dX2_arrive_20 : decode cX2_arrive 20 = .ok (.iload_n 2, 1) := by decide +kernel
theorem dX2_arrive_21 : decode cX2_arrive 21 = .ok (.iconst 1, 1) := by decide +kernel
theorem dX2_arrive_22 : decode cX2_arrive 22 = .ok (.iastore, 1) := by decide +kernel
theorem dX2_arrive_23 : decode cX2_arrive 23 = .ok (.aload_n 0, 1) := by decide +kernel
theorem dX2_arrive_24 : decode cX2_arrive 24 = .ok (.getfield 27, 3) := by decide +kernel
theorem dX2_arrive_27 : decode cX2_arrive 27 = .ok (.iload_n 2, 1) := by decide +kernel
theorem dX2_arrive_28 : decode cX2_arrive 28 = .ok (.ldc 44, 2) := by decide +kernel
theorem dX2_arrive_30 : decode cX2_arrive 30 = .ok (.iastore, 1) := by decide +kernel
theorem dX2_arrive_31 : decode cX2_arrive 31 = .ok (.aload_n 0, 1) := by decide +kernel
theorem dX2_arrive_32 : decode cX2_arrive 32 = .ok (.getfield 33, 3) := by decide +kernel
theorem dX2_arrive_35 : decode cX2_arrive 35 = .ok (.aload_n 1, 1) := by decide +kernel
theorem dX2_arrive_36 : decode cX2_arrive 36 = .ok (.getfield 89, 3) := by decide +kernel
theorem dX2_arrive_39 : decode cX2_arrive 39 = .ok (.iload 4, 2) := by decide +kernel
theorem dX2_arrive_41 : decode cX2_arrive 41 = .ok (.iaload, 1) := by decide +kernel
theorem dX2_arrive_42 : decode cX2_arrive 42 = .ok (.dup2, 1) := by decide +kernel
theorem dX2_arrive_43 : decode cX2_arrive 43 = .ok (.iaload, 1) := by decide +kernel
theorem dX2_arrive_44 : decode cX2_arrive 44 = .ok (.iconst 1, 1) := by decide +kernel
theorem dX2_arrive_45 : decode cX2_arrive 45 = .ok (.iadd, 1) := by decide +kernel
theorem dX2_arrive_46 : decode cX2_arrive 46 = .ok (.iastore, 1) := by decide +kernel
theorem dX2_arrive_47 : decode cX2_arrive 47 = .ok (.return_, 1) := by decide +kernel
theorem dX2_beginAt_0 : decode cX2_beginAt 0 = .ok (.iconst 0, 1) := by decide +kernel
theorem dX2_beginAt_1 : decode cX2_beginAt 1 = .ok (.istore 4, 2) := by decide +kernel
theorem dX2_beginAt_3 : decode cX2_beginAt 3 = .ok (.iload 4, 2) := by decide +kernel
theorem dX2_beginAt_5 : decode cX2_beginAt 5 = .ok (.bipush 60, 2) := by decide +kernel
theorem dX2_beginAt_7 : decode cX2_beginAt 7 = .ok (.if_icmp .ge 117, 3) := by decide +kernel
theorem dX2_beginAt_10 : decode cX2_beginAt 10 = .ok (.aload_n 0, 1) := by decide +kernel
theorem dX2_beginAt_11 : decode cX2_beginAt 11 = .ok (.getfield 30, 3) := by decide +kernel
theorem dX2_beginAt_14 : decode cX2_beginAt 14 = .ok (.iload_n 2, 1) := by decide +kernel
theorem dX2_beginAt_15 : decode cX2_beginAt 15 = .ok (.iaload, 1) := by decide +kernel
theorem dX2_beginAt_16 : decode cX2_beginAt 16 = .ok (.ifCond .le 108, 3) := by decide +kernel
theorem dX2_beginAt_19 : decode cX2_beginAt 19 = .ok (.aload_n 0, 1) := by decide +kernel
theorem dX2_beginAt_20 : decode cX2_beginAt 20 = .ok (.getfield 33, 3) := by decide +kernel
theorem dX2_beginAt_23 : decode cX2_beginAt 23 = .ok (.iload_n 2, 1) := by decide +kernel
theorem dX2_beginAt_24 : decode cX2_beginAt 24 = .ok (.iaload, 1) := by decide +kernel
theorem dX2_beginAt_25 : decode cX2_beginAt 25 = .ok (.ifCond .le 99, 3) := by decide +kernel
theorem dX2_beginAt_28 : decode cX2_beginAt 28 = .ok (.aload_n 0, 1) := by decide +kernel
theorem dX2_beginAt_29 : decode cX2_beginAt 29 = .ok (.aload_n 1, 1) := by decide +kernel
theorem dX2_beginAt_30 : decode cX2_beginAt 30 = .ok (.iload_n 2, 1) := by decide +kernel
theorem dX2_beginAt_31 : decode cX2_beginAt 31 = .ok (.invokevirtual 95, 3) := by decide +kernel
theorem dX2_beginAt_34 : decode cX2_beginAt 34 = .ok (.istore 5, 2) := by decide +kernel
theorem dX2_beginAt_36 : decode cX2_beginAt 36 = .ok (.iload 5, 2) := by decide +kernel
theorem dX2_beginAt_38 : decode cX2_beginAt 38 = .ok (.iconst (-1), 1) := by decide +kernel
theorem dX2_beginAt_39 : decode cX2_beginAt 39 = .ok (.if_icmp .ne 4, 3) := by decide +kernel
theorem dX2_beginAt_42 : decode cX2_beginAt 42 = .ok (.return_, 1) := by decide +kernel
theorem dX2_beginAt_43 : decode cX2_beginAt 43 = .ok (.aload_n 0, 1) := by decide +kernel
theorem dX2_beginAt_44 : decode cX2_beginAt 44 = .ok (.getfield 24, 3) := by decide +kernel
theorem dX2_beginAt_47 : decode cX2_beginAt 47 = .ok (.iload 5, 2) := by decide +kernel
theorem dX2_beginAt_49 : decode cX2_beginAt 49 = .ok (.iaload, 1) := by decide +kernel
theorem dX2_beginAt_50 : decode cX2_beginAt 50 = .ok (.istore 6, 2) := by decide +kernel
theorem dX2_beginAt_52 : decode cX2_beginAt 52 = .ok (.aload_n 0, 1) := by decide +kernel
theorem dX2_beginAt_53 : decode cX2_beginAt 53 = .ok (.getfield 15, 3) := by decide +kernel
theorem dX2_beginAt_56 : decode cX2_beginAt 56 = .ok (.iload 6, 2) := by decide +kernel
theorem dX2_beginAt_58 : decode cX2_beginAt 58 = .ok (.iload_n 3, 1) := by decide +kernel
theorem dX2_beginAt_59 : decode cX2_beginAt 59 = .ok (.iastore, 1) := by decide +kernel
theorem dX2_beginAt_60 : decode cX2_beginAt 60 = .ok (.aload_n 0, 1) := by decide +kernel
theorem dX2_beginAt_61 : decode cX2_beginAt 61 = .ok (.getfield 18, 3) := by decide +kernel
theorem dX2_beginAt_64 : decode cX2_beginAt 64 = .ok (.iload 6, 2) := by decide +kernel
theorem dX2_beginAt_66 : decode cX2_beginAt 66 = .ok (.iload_n 3, 1) := by decide +kernel
theorem dX2_beginAt_67 : decode cX2_beginAt 67 = .ok (.aload_n 1, 1) := by decide +kernel
theorem dX2_beginAt_68 : decode cX2_beginAt 68 = .ok (.getfield 99, 3) := by decide +kernel
theorem dX2_beginAt_71 : decode cX2_beginAt 71 = .ok (.iload 6, 2) := by decide +kernel
theorem dX2_beginAt_73 : decode cX2_beginAt 73 = .ok (.iaload, 1) := by decide +kernel
theorem dX2_beginAt_74 : decode cX2_beginAt 74 = .ok (.iadd, 1) := by decide +kernel
theorem dX2_beginAt_75 : decode cX2_beginAt 75 = .ok (.iastore, 1) := by decide +kernel
theorem dX2_beginAt_76 : decode cX2_beginAt 76 = .ok (.aload_n 0, 1) := by decide +kernel
theorem dX2_beginAt_77 : decode cX2_beginAt 77 = .ok (.getfield 21, 3) := by decide +kernel
theorem dX2_beginAt_80 : decode cX2_beginAt 80 = .ok (.iload 5, 2) := by decide +kernel
theorem dX2_beginAt_82 : decode cX2_beginAt 82 = .ok (.iconst 2, 1) := by decide +kernel
theorem dX2_beginAt_83 : decode cX2_beginAt 83 = .ok (.iastore, 1) := by decide +kernel
theorem dX2_beginAt_84 : decode cX2_beginAt 84 = .ok (.aload_n 0, 1) := by decide +kernel
theorem dX2_beginAt_85 : decode cX2_beginAt 85 = .ok (.getfield 27, 3) := by decide +kernel
theorem dX2_beginAt_88 : decode cX2_beginAt 88 = .ok (.iload 5, 2) := by decide +kernel
theorem dX2_beginAt_90 : decode cX2_beginAt 90 = .ok (.aload_n 0, 1) := by decide +kernel
theorem dX2_beginAt_91 : decode cX2_beginAt 91 = .ok (.getfield 18, 3) := by decide +kernel
theorem dX2_beginAt_94 : decode cX2_beginAt 94 = .ok (.iload 6, 2) := by decide +kernel
theorem dX2_beginAt_96 : decode cX2_beginAt 96 = .ok (.iaload, 1) := by decide +kernel
theorem dX2_beginAt_97 : decode cX2_beginAt 97 = .ok (.iastore, 1) := by decide +kernel
theorem dX2_beginAt_98 : decode cX2_beginAt 98 = .ok (.aload_n 0, 1) := by decide +kernel
theorem dX2_beginAt_99 : decode cX2_beginAt 99 = .ok (.getfield 30, 3) := by decide +kernel
theorem dX2_beginAt_102 : decode cX2_beginAt 102 = .ok (.iload_n 2, 1) := by decide +kernel
theorem dX2_beginAt_103 : decode cX2_beginAt 103 = .ok (.dup2, 1) := by decide +kernel
theorem dX2_beginAt_104 : decode cX2_beginAt 104 = .ok (.iaload, 1) := by decide +kernel
theorem dX2_beginAt_105 : decode cX2_beginAt 105 = .ok (.iconst 1, 1) := by decide +kernel
theorem dX2_beginAt_106 : decode cX2_beginAt 106 = .ok (.isub, 1) := by decide +kernel
theorem dX2_beginAt_107 : decode cX2_beginAt 107 = .ok (.iastore, 1) := by decide +kernel
theorem dX2_beginAt_108 : decode cX2_beginAt 108 = .ok (.aload_n 0, 1) := by decide +kernel
theorem dX2_beginAt_109 : decode cX2_beginAt 109 = .ok (.getfield 33, 3) := by decide +kernel
theorem dX2_beginAt_112 : decode cX2_beginAt 112 = .ok (.iload_n 2, 1) := by decide +kernel
theorem dX2_beginAt_113 : decode cX2_beginAt 113 = .ok (.dup2, 1) := by decide +kernel
theorem dX2_beginAt_114 : decode cX2_beginAt 114 = .ok (.iaload, 1) := by decide +kernel
theorem dX2_beginAt_115 : decode cX2_beginAt 115 = .ok (.iconst 1, 1) := by decide +kernel
theorem dX2_beginAt_116 : decode cX2_beginAt 116 = .ok (.isub, 1) := by decide +kernel
theorem dX2_beginAt_117 : decode cX2_beginAt 117 = .ok (.iastore, 1) := by decide +kernel
theorem dX2_beginAt_118 : decode cX2_beginAt 118 = .ok (.iinc 4 1, 3) := by decide +kernel
theorem dX2_beginAt_121 : decode cX2_beginAt 121 = .ok (.goto (-118), 3) := by decide +kernel
theorem dX2_beginAt_124 : decode cX2_beginAt 124 = .ok (.return_, 1) := by decide +kernel
theorem dX2_firstWaiting_0 : decode cX2_firstWaiting 0 = .ok (.iconst (-1), 1) := by decide +kernel
theorem dX2_firstWaiting_1 : decode cX2_firstWaiting 1 = .ok (.istore_n 3, 1) := by decide +kernel
theorem dX2_firstWaiting_2 : decode cX2_firstWaiting 2 = .ok (.lconst 0, 1) := by decide +kernel
theorem dX2_firstWaiting_3 : decode cX2_firstWaiting 3 = .ok (.lstore 4, 2) := by decide +kernel
theorem dX2_firstWaiting_5 : decode cX2_firstWaiting 5 = .ok (.iconst 0, 1) := by decide +kernel
theorem dX2_firstWaiting_6 : decode cX2_firstWaiting 6 = .ok (.istore 6, 2) := by decide +kernel
theorem dX2_firstWaiting_8 : decode cX2_firstWaiting 8 = .ok (.iload 6, 2) := by decide +kernel
theorem dX2_firstWaiting_10 : decode cX2_firstWaiting 10 = .ok (.aload_n 1, 1) := by decide +kernel
theorem dX2_firstWaiting_11 : decode cX2_firstWaiting 11 = .ok (.getfield 58, 3) := by decide +kernel
theorem dX2_firstWaiting_14 : decode cX2_firstWaiting 14 = .ok (.if_icmp .ge 92, 3) := by decide +kernel
theorem dX2_firstWaiting_17 : decode cX2_firstWaiting 17 = .ok (.aload_n 0, 1) := by decide +kernel
theorem dX2_firstWaiting_18 : decode cX2_firstWaiting 18 = .ok (.getfield 24, 3) := by decide +kernel
theorem dX2_firstWaiting_21 : decode cX2_firstWaiting 21 = .ok (.iload 6, 2) := by decide +kernel
theorem dX2_firstWaiting_23 : decode cX2_firstWaiting 23 = .ok (.iaload, 1) := by decide +kernel
theorem dX2_firstWaiting_24 : decode cX2_firstWaiting 24 = .ok (.istore 7, 2) := by decide +kernel
theorem dX2_firstWaiting_26 : decode cX2_firstWaiting 26 = .ok (.aload_n 0, 1) := by decide +kernel
theorem dX2_firstWaiting_27 : decode cX2_firstWaiting 27 = .ok (.getfield 21, 3) := by decide +kernel
theorem dX2_firstWaiting_30 : decode cX2_firstWaiting 30 = .ok (.iload 6, 2) := by decide +kernel
theorem dX2_firstWaiting_32 : decode cX2_firstWaiting 32 = .ok (.iaload, 1) := by decide +kernel
theorem dX2_firstWaiting_33 : decode cX2_firstWaiting 33 = .ok (.iconst 1, 1) := by decide +kernel
theorem dX2_firstWaiting_34 : decode cX2_firstWaiting 34 = .ok (.if_icmp .ne 66, 3) := by decide +kernel
theorem dX2_firstWaiting_37 : decode cX2_firstWaiting 37 = .ok (.aload_n 1, 1) := by decide +kernel
theorem dX2_firstWaiting_38 : decode cX2_firstWaiting 38 = .ok (.getfield 89, 3) := by decide +kernel
theorem dX2_firstWaiting_41 : decode cX2_firstWaiting 41 = .ok (.iload 7, 2) := by decide +kernel
theorem dX2_firstWaiting_43 : decode cX2_firstWaiting 43 = .ok (.iaload, 1) := by decide +kernel
theorem dX2_firstWaiting_44 : decode cX2_firstWaiting 44 = .ok (.iload_n 2, 1) := by decide +kernel
theorem dX2_firstWaiting_45 : decode cX2_firstWaiting 45 = .ok (.if_icmp .ne 55, 3) := by decide +kernel
theorem dX2_firstWaiting_48 : decode cX2_firstWaiting 48 = .ok (.aload_n 1, 1) := by decide +kernel
theorem dX2_firstWaiting_49 : decode cX2_firstWaiting 49 = .ok (.getfield 102, 3) := by decide +kernel
theorem dX2_firstWaiting_52 : decode cX2_firstWaiting 52 = .ok (.iload_n 2, 1) := by decide +kernel
theorem dX2_firstWaiting_53 : decode cX2_firstWaiting 53 = .ok (.iaload, 1) := by decide +kernel
theorem dX2_firstWaiting_54 : decode cX2_firstWaiting 54 = .ok (.aload_n 0, 1) := by decide +kernel
theorem dX2_firstWaiting_55 : decode cX2_firstWaiting 55 = .ok (.getfield 9, 3) := by decide +kernel
theorem dX2_firstWaiting_58 : decode cX2_firstWaiting 58 = .ok (.iload 7, 2) := by decide +kernel
theorem dX2_firstWaiting_60 : decode cX2_firstWaiting 60 = .ok (.iaload, 1) := by decide +kernel
theorem dX2_firstWaiting_61 : decode cX2_firstWaiting 61 = .ok (.aload_n 1, 1) := by decide +kernel
theorem dX2_firstWaiting_62 : decode cX2_firstWaiting 62 = .ok (.getfield 99, 3) := by decide +kernel
theorem dX2_firstWaiting_65 : decode cX2_firstWaiting 65 = .ok (.iload 7, 2) := by decide +kernel
theorem dX2_firstWaiting_67 : decode cX2_firstWaiting 67 = .ok (.iaload, 1) := by decide +kernel
theorem dX2_firstWaiting_68 : decode cX2_firstWaiting 68 = .ok (.aload_n 1, 1) := by decide +kernel
theorem dX2_firstWaiting_69 : decode cX2_firstWaiting 69 = .ok (.getfield 105, 3) := by decide +kernel
theorem dX2_firstWaiting_72 : decode cX2_firstWaiting 72 = .ok (.iload 6, 2) := by decide +kernel
theorem dX2_firstWaiting_74 : decode cX2_firstWaiting 74 = .ok (.iaload, 1) := by decide +kernel
theorem dX2_firstWaiting_75 : decode cX2_firstWaiting 75 = .ok (.invokestatic 108, 3) := by decide +kernel
theorem dX2_firstWaiting_78 : decode cX2_firstWaiting 78 = .ok (.lstore 8, 2) := by decide +kernel
theorem dX2_firstWaiting_80 : decode cX2_firstWaiting 80 = .ok (.iload_n 3, 1) := by decide +kernel
theorem dX2_firstWaiting_81 : decode cX2_firstWaiting 81 = .ok (.iconst (-1), 1) := by decide +kernel
theorem dX2_firstWaiting_82 : decode cX2_firstWaiting 82 = .ok (.if_icmp .eq 11, 3) := by decide +kernel
theorem dX2_firstWaiting_85 : decode cX2_firstWaiting 85 = .ok (.lload 8, 2) := by decide +kernel
theorem dX2_firstWaiting_87 : decode cX2_firstWaiting 87 = .ok (.lload 4, 2) := by decide +kernel
theorem dX2_firstWaiting_89 : decode cX2_firstWaiting 89 = .ok (.lcmp, 1) := by decide +kernel
theorem dX2_firstWaiting_90 : decode cX2_firstWaiting 90 = .ok (.ifCond .ge 10, 3) := by decide +kernel
theorem dX2_firstWaiting_93 : decode cX2_firstWaiting 93 = .ok (.iload 6, 2) := by decide +kernel
theorem dX2_firstWaiting_95 : decode cX2_firstWaiting 95 = .ok (.istore_n 3, 1) := by decide +kernel
theorem dX2_firstWaiting_96 : decode cX2_firstWaiting 96 = .ok (.lload 8, 2) := by decide +kernel
theorem dX2_firstWaiting_98 : decode cX2_firstWaiting 98 = .ok (.lstore 4, 2) := by decide +kernel
theorem dX2_firstWaiting_100 : decode cX2_firstWaiting 100 = .ok (.iinc 6 1, 3) := by decide +kernel
theorem dX2_firstWaiting_103 : decode cX2_firstWaiting 103 = .ok (.goto (-95), 3) := by decide +kernel
theorem dX2_firstWaiting_106 : decode cX2_firstWaiting 106 = .ok (.iload_n 3, 1) := by decide +kernel
theorem dX2_firstWaiting_107 : decode cX2_firstWaiting 107 = .ok (.ireturn, 1) := by decide +kernel
theorem dX3_init_0 : decode cX3_init 0 = .ok (.aload_n 0, 1) := by decide +kernel
theorem dX3_init_1 : decode cX3_init 1 = .ok (.invokespecial 3, 3) := by decide +kernel
theorem dX3_init_4 : decode cX3_init 4 = .ok (.aload_n 0, 1) := by decide +kernel
theorem dX3_init_5 : decode cX3_init 5 = .ok (.sipush 300, 3) := by decide +kernel
theorem dX3_init_8 : decode cX3_init 8 = .ok (.newarray .boolean, 2) := by decide +kernel
theorem dX3_init_10 : decode cX3_init 10 = .ok (.putfield 9, 3) := by decide +kernel
theorem dX3_init_13 : decode cX3_init 13 = .ok (.aload_n 0, 1) := by decide +kernel
theorem dX3_init_14 : decode cX3_init 14 = .ok (.sipush 300, 3) := by decide +kernel
theorem dX3_init_17 : decode cX3_init 17 = .ok (.newarray .int, 2) := by decide +kernel
theorem dX3_init_19 : decode cX3_init 19 = .ok (.putfield 15, 3) := by decide +kernel
theorem dX3_init_22 : decode cX3_init 22 = .ok (.aload_n 0, 1) := by decide +kernel
theorem dX3_init_23 : decode cX3_init 23 = .ok (.sipush 300, 3) := by decide +kernel
theorem dX3_init_26 : decode cX3_init 26 = .ok (.newarray .int, 2) := by decide +kernel
theorem dX3_init_28 : decode cX3_init 28 = .ok (.putfield 19, 3) := by decide +kernel
theorem dX3_init_31 : decode cX3_init 31 = .ok (.return_, 1) := by decide +kernel
theorem dX3_tell_0 : decode cX3_tell 0 = .ok (.aload_n 0, 1) := by decide +kernel
theorem dX3_tell_1 : decode cX3_tell 1 = .ok (.getfield 9, 3) := by decide +kernel
theorem dX3_tell_4 : decode cX3_tell 4 = .ok (.iload_n 1, 1) := by decide +kernel
theorem dX3_tell_5 : decode cX3_tell 5 = .ok (.iconst 1, 1) := by decide +kernel
theorem dX3_tell_6 : decode cX3_tell 6 = .ok (.bastore, 1) := by decide +kernel
theorem dX3_tell_7 : decode cX3_tell 7 = .ok (.aload_n 0, 1) := by decide +kernel
theorem dX3_tell_8 : decode cX3_tell 8 = .ok (.getfield 15, 3) := by decide +kernel
theorem dX3_tell_11 : decode cX3_tell 11 = .ok (.iload_n 1, 1) := by decide +kernel
theorem dX3_tell_12 : decode cX3_tell 12 = .ok (.iload_n 2, 1) := by decide +kernel
theorem dX3_tell_13 : decode cX3_tell 13 = .ok (.iastore, 1) := by decide +kernel
theorem dX3_tell_14 : decode cX3_tell 14 = .ok (.aload_n 0, 1) := by decide +kernel
theorem dX3_tell_15 : decode cX3_tell 15 = .ok (.getfield 19, 3) := by decide +kernel
theorem dX3_tell_18 : decode cX3_tell 18 = .ok (.iload_n 1, 1) := by decide +kernel
theorem dX3_tell_19 : decode cX3_tell 19 = .ok (.iload_n 3, 1) := by decide +kernel
theorem dX3_tell_20 : decode cX3_tell 20 = .ok (.iastore, 1) := by decide +kernel
theorem dX3_tell_21 : decode cX3_tell 21 = .ok (.return_, 1) := by decide +kernel
theorem dX3_size_0 : decode cX3_size 0 = .ok (.iconst 0, 1) := by decide +kernel
theorem dX3_size_1 : decode cX3_size 1 = .ok (.istore_n 2, 1) := by decide +kernel
theorem dX3_size_2 : decode cX3_size 2 = .ok (.iconst 0, 1) := by decide +kernel
theorem dX3_size_3 : decode cX3_size 3 = .ok (.istore_n 3, 1) := by decide +kernel
theorem dX3_size_4 : decode cX3_size 4 = .ok (.iload_n 3, 1) := by decide +kernel
theorem dX3_size_5 : decode cX3_size 5 = .ok (.aload_n 1, 1) := by decide +kernel
theorem dX3_size_6 : decode cX3_size 6 = .ok (.invokevirtual 22, 3) := by decide +kernel
theorem dX3_size_9 : decode cX3_size 9 = .ok (.if_icmp .ge 21, 3) := by decide +kernel
theorem dX3_size_12 : decode cX3_size 12 = .ok (.aload_n 0, 1) := by decide +kernel
theorem dX3_size_13 : decode cX3_size 13 = .ok (.getfield 9, 3) := by decide +kernel
theorem dX3_size_16 : decode cX3_size 16 = .ok (.iload_n 3, 1) := by decide +kernel
theorem dX3_size_17 : decode cX3_size 17 = .ok (.baload, 1) := by decide +kernel
theorem dX3_size_18 : decode cX3_size 18 = .ok (.ifCond .eq 6, 3) := by decide +kernel
theorem dX3_size_21 : decode cX3_size 21 = .ok (.iinc 2 1, 3) := by decide +kernel
theorem dX3_size_24 : decode cX3_size 24 = .ok (.iinc 3 1, 3) := by decide +kernel
theorem dX3_size_27 : decode cX3_size 27 = .ok (.goto (-23), 3) := by decide +kernel
theorem dX3_size_30 : decode cX3_size 30 = .ok (.iload_n 2, 1) := by decide +kernel
theorem dX3_size_31 : decode cX3_size 31 = .ok (.ireturn, 1) := by decide +kernel
theorem dX3_cameOf_0 : decode cX3_cameOf 0 = .ok (.aload_n 0, 1) := by decide +kernel
theorem dX3_cameOf_1 : decode cX3_cameOf 1 = .ok (.getfield 9, 3) := by decide +kernel
theorem dX3_cameOf_4 : decode cX3_cameOf 4 = .ok (.iload_n 2, 1) := by decide +kernel
theorem dX3_cameOf_5 : decode cX3_cameOf 5 = .ok (.baload, 1) := by decide +kernel
theorem dX3_cameOf_6 : decode cX3_cameOf 6 = .ok (.ifCond .ne 5, 3) := by decide +kernel
theorem dX3_cameOf_9 : decode cX3_cameOf 9 = .ok (.iconst (-1), 1) := by decide +kernel
theorem dX3_cameOf_10 : decode cX3_cameOf 10 = .ok (.ireturn, 1) := by decide +kernel
theorem dX3_cameOf_11 : decode cX3_cameOf 11 = .ok (.iload_n 2, 1) := by decide +kernel
theorem dX3_cameOf_12 : decode cX3_cameOf 12 = .ok (.iconst 5, 1) := by decide +kernel
theorem dX3_cameOf_13 : decode cX3_cameOf 13 = .ok (.irem, 1) := by decide +kernel
theorem dX3_cameOf_14 : decode cX3_cameOf 14 = .ok (.ifCond .ne 12, 3) := by decide +kernel
theorem dX3_cameOf_17 : decode cX3_cameOf 17 = .ok (.aload_n 1, 1) := by decide +kernel
theorem dX3_cameOf_18 : decode cX3_cameOf 18 = .ok (.getfield 28, 3) := by decide +kernel
theorem dX3_cameOf_21 : decode cX3_cameOf 21 = .ok (.iload_n 2, 1) := by decide +kernel
theorem dX3_cameOf_22 : decode cX3_cameOf 22 = .ok (.iconst 5, 1) := by decide +kernel
theorem dX3_cameOf_23 : decode cX3_cameOf 23 = .ok (.idiv, 1) := by decide +kernel
theorem dX3_cameOf_24 : decode cX3_cameOf 24 = .ok (.iaload, 1) := by decide +kernel
theorem dX3_cameOf_25 : decode cX3_cameOf 25 = .ok (.ireturn, 1) := by decide +kernel
theorem dX3_cameOf_26 : decode cX3_cameOf 26 = .ok (.iload_n 2, 1) := by decide +kernel
theorem dX3_cameOf_27 : decode cX3_cameOf 27 = .ok (.iconst 1, 1) := by decide +kernel
theorem dX3_cameOf_28 : decode cX3_cameOf 28 = .ok (.isub, 1) := by decide +kernel
theorem dX3_cameOf_29 : decode cX3_cameOf 29 = .ok (.istore_n 3, 1) := by decide +kernel
theorem dX3_cameOf_30 : decode cX3_cameOf 30 = .ok (.aload_n 0, 1) := by decide +kernel
theorem dX3_cameOf_31 : decode cX3_cameOf 31 = .ok (.getfield 9, 3) := by decide +kernel
theorem dX3_cameOf_34 : decode cX3_cameOf 34 = .ok (.iload_n 3, 1) := by decide +kernel
theorem dX3_cameOf_35 : decode cX3_cameOf 35 = .ok (.baload, 1) := by decide +kernel
theorem dX3_cameOf_36 : decode cX3_cameOf 36 = .ok (.ifCond .eq 24, 3) := by decide +kernel
theorem dX3_cameOf_39 : decode cX3_cameOf 39 = .ok (.aload_n 0, 1) := by decide +kernel
theorem dX3_cameOf_40 : decode cX3_cameOf 40 = .ok (.getfield 19, 3) := by decide +kernel
theorem dX3_cameOf_43 : decode cX3_cameOf 43 = .ok (.iload_n 3, 1) := by decide +kernel
theorem dX3_cameOf_44 : decode cX3_cameOf 44 = .ok (.iaload, 1) := by decide +kernel
theorem dX3_cameOf_45 : decode cX3_cameOf 45 = .ok (.aload_n 1, 1) := by decide +kernel
theorem dX3_cameOf_46 : decode cX3_cameOf 46 = .ok (.getfield 31, 3) := by decide +kernel
theorem dX3_cameOf_49 : decode cX3_cameOf 49 = .ok (.aload_n 1, 1) := by decide +kernel
theorem dX3_cameOf_50 : decode cX3_cameOf 50 = .ok (.getfield 34, 3) := by decide +kernel
theorem dX3_cameOf_53 : decode cX3_cameOf 53 = .ok (.iload_n 3, 1) := by decide +kernel
theorem dX3_cameOf_54 : decode cX3_cameOf 54 = .ok (.iaload, 1) := by decide +kernel
theorem dX3_cameOf_55 : decode cX3_cameOf 55 = .ok (.iaload, 1) := by decide +kernel
theorem dX3_cameOf_56 : decode cX3_cameOf 56 = .ok (.iadd, 1) := by decide +kernel
theorem dX3_cameOf_57 : decode cX3_cameOf 57 = .ok (.goto 4, 3) := by decide +kernel
theorem dX3_cameOf_60 : decode cX3_cameOf 60 = .ok (.iconst (-1), 1) := by decide +kernel
theorem dX3_cameOf_61 : decode cX3_cameOf 61 = .ok (.ireturn, 1) := by decide +kernel
theorem dX4_init_0 : decode cX4_init 0 = .ok (.aload_n 0, 1) := by decide +kernel
theorem dX4_init_1 : decode cX4_init 1 = .ok (.invokespecial 3, 3) := by decide +kernel
theorem dX4_init_4 : decode cX4_init 4 = .ok (.aload_n 0, 1) := by decide +kernel
theorem dX4_init_5 : decode cX4_init 5 = .ok (.new 9, 3) := by decide +kernel
theorem dX4_init_8 : decode cX4_init 8 = .ok (.dup, 1) := by decide +kernel
theorem dX4_init_9 : decode cX4_init 9 = .ok (.invokespecial 11, 3) := by decide +kernel
theorem dX4_init_12 : decode cX4_init 12 = .ok (.putfield 12, 3) := by decide +kernel
theorem dX4_init_15 : decode cX4_init 15 = .ok (.aload_n 0, 1) := by decide +kernel
theorem dX4_init_16 : decode cX4_init 16 = .ok (.new 16, 3) := by decide +kernel
theorem dX4_init_19 : decode cX4_init 19 = .ok (.dup, 1) := by decide +kernel
theorem dX4_init_20 : decode cX4_init 20 = .ok (.invokespecial 18, 3) := by decide +kernel
theorem dX4_init_23 : decode cX4_init 23 = .ok (.putfield 19, 3) := by decide +kernel
theorem dX4_init_26 : decode cX4_init 26 = .ok (.aload_n 0, 1) := by decide +kernel
theorem dX4_init_27 : decode cX4_init 27 = .ok (.new 23, 3) := by decide +kernel
theorem dX4_init_30 : decode cX4_init 30 = .ok (.dup, 1) := by decide +kernel
theorem dX4_init_31 : decode cX4_init 31 = .ok (.invokespecial 25, 3) := by decide +kernel
theorem dX4_init_34 : decode cX4_init 34 = .ok (.putfield 26, 3) := by decide +kernel
theorem dX4_init_37 : decode cX4_init 37 = .ok (.aload_n 0, 1) := by decide +kernel
theorem dX4_init_38 : decode cX4_init 38 = .ok (.new 30, 3) := by decide +kernel
theorem dX4_init_41 : decode cX4_init 41 = .ok (.dup, 1) := by decide +kernel
theorem dX4_init_42 : decode cX4_init 42 = .ok (.invokespecial 32, 3) := by decide +kernel
theorem dX4_init_45 : decode cX4_init 45 = .ok (.putfield 33, 3) := by decide +kernel
theorem dX4_init_48 : decode cX4_init 48 = .ok (.aload_n 0, 1) := by decide +kernel
theorem dX4_init_49 : decode cX4_init 49 = .ok (.new 30, 3) := by decide +kernel
theorem dX4_init_52 : decode cX4_init 52 = .ok (.dup, 1) := by decide +kernel
theorem dX4_init_53 : decode cX4_init 53 = .ok (.invokespecial 32, 3) := by decide +kernel
theorem dX4_init_56 : decode cX4_init 56 = .ok (.putfield 37, 3) := by decide +kernel
theorem dX4_init_59 : decode cX4_init 59 = .ok (.aload_n 0, 1) := by decide +kernel
theorem dX4_init_60 : decode cX4_init 60 = .ok (.iconst 0, 1) := by decide +kernel
theorem dX4_init_61 : decode cX4_init 61 = .ok (.putfield 40, 3) := by decide +kernel
theorem dX4_init_64 : decode cX4_init 64 = .ok (.return_, 1) := by decide +kernel
theorem dX4_place_0 : decode cX4_place 0 = .ok (.iload_n 1, 1) := by decide +kernel
theorem dX4_place_1 : decode cX4_place 1 = .ok (.iload_n 2, 1) := by decide +kernel
theorem dX4_place_2 : decode cX4_place 2 = .ok (.iload_n 3, 1) := by decide +kernel
theorem dX4_place_3 : decode cX4_place 3 = .ok (.invokestatic 44, 3) := by decide +kernel
theorem dX4_place_6 : decode cX4_place 6 = .ok (.aload_n 0, 1) := by decide +kernel
theorem dX4_place_7 : decode cX4_place 7 = .ok (.getfield 12, 3) := by decide +kernel
theorem dX4_place_10 : decode cX4_place 10 = .ok (.getfield 48, 3) := by decide +kernel
theorem dX4_place_13 : decode cX4_place 13 = .ok (.iconst 5, 1) := by decide +kernel
theorem dX4_place_14 : decode cX4_place 14 = .ok (.if_icmp .lt 13, 3) := by decide +kernel
theorem dX4_place_17 : decode cX4_place 17 = .ok (.new 52, 3) := by decide +kernel
theorem dX4_place_20 : decode cX4_place 20 = .ok (.dup, 1) := by decide +kernel
theorem dX4_place_21 : decode cX4_place 21 = .ok (.ldc 54, 2) := by decide +kernel
theorem dX4_place_23 : decode cX4_place 23 = .ok (.invokespecial 56, 3) := by decide +kernel
theorem dX4_place_26 : decode cX4_place 26 = .ok (.athrow, 1) := by decide +kernel
theorem dX4_place_27 : decode cX4_place 27 = .ok (.aload_n 0, 1) := by decide +kernel
theorem dX4_place_28 : decode cX4_place 28 = .ok (.getfield 12, 3) := by decide +kernel
theorem dX4_place_31 : decode cX4_place 31 = .ok (.getfield 48, 3) := by decide +kernel
theorem dX4_place_34 : decode cX4_place 34 = .ok (.istore 4, 2) := by decide +kernel
theorem dX4_place_36 : decode cX4_place 36 = .ok (.aload_n 0, 1) := by decide +kernel
theorem dX4_place_37 : decode cX4_place 37 = .ok (.getfield 12, 3) := by decide +kernel
theorem dX4_place_40 : decode cX4_place 40 = .ok (.dup, 1) := by decide +kernel
theorem dX4_place_41 : decode cX4_place 41 = .ok (.getfield 48, 3) := by decide +kernel
theorem dX4_place_44 : decode cX4_place 44 = .ok (.iconst 1, 1) := by decide +kernel
theorem dX4_place_45 : decode cX4_place 45 = .ok (.iadd, 1) := by decide +kernel
theorem dX4_place_46 : decode cX4_place 46 = .ok (.putfield 48, 3) := by decide +kernel
theorem dX4_place_49 : decode cX4_place 49 = .ok (.aload_n 0, 1) := by decide +kernel
theorem dX4_place_50 : decode cX4_place 50 = .ok (.getfield 12, 3) := by decide +kernel
theorem dX4_place_53 : decode cX4_place 53 = .ok (.iload 4, 2) := by decide +kernel
theorem dX4_place_55 : decode cX4_place 55 = .ok (.iload_n 1, 1) := by decide +kernel
theorem dX4_place_56 : decode cX4_place 56 = .ok (.iload_n 2, 1) := by decide +kernel
theorem dX4_place_57 : decode cX4_place 57 = .ok (.iload_n 3, 1) := by decide +kernel
theorem dX4_place_58 : decode cX4_place 58 = .ok (.invokevirtual 59, 3) := by decide +kernel
theorem dX4_place_61 : decode cX4_place 61 = .ok (.aload_n 0, 1) := by decide +kernel
theorem dX4_place_62 : decode cX4_place 62 = .ok (.iconst 0, 1) := by decide +kernel
theorem dX4_place_63 : decode cX4_place 63 = .ok (.putfield 40, 3) := by decide +kernel
theorem dX4_place_66 : decode cX4_place 66 = .ok (.iload 4, 2) := by decide +kernel
theorem dX4_place_68 : decode cX4_place 68 = .ok (.ireturn, 1) := by decide +kernel
theorem dX4_change_0 : decode cX4_change 0 = .ok (.aload_n 0, 1) := by decide +kernel
theorem dX4_change_1 : decode cX4_change 1 = .ok (.iload_n 1, 1) := by decide +kernel
theorem dX4_change_2 : decode cX4_change 2 = .ok (.invokevirtual 63, 3) := by decide +kernel
theorem dX4_change_5 : decode cX4_change 5 = .ok (.iload_n 2, 1) := by decide +kernel
theorem dX4_change_6 : decode cX4_change 6 = .ok (.iload_n 3, 1) := by decide +kernel
theorem dX4_change_7 : decode cX4_change 7 = .ok (.iload 4, 2) := by decide +kernel
theorem dX4_change_9 : decode cX4_change 9 = .ok (.invokestatic 44, 3) := by decide +kernel
theorem dX4_change_12 : decode cX4_change 12 = .ok (.aload_n 0, 1) := by decide +kernel
theorem dX4_change_13 : decode cX4_change 13 = .ok (.getfield 12, 3) := by decide +kernel
theorem dX4_change_16 : decode cX4_change 16 = .ok (.iload_n 1, 1) := by decide +kernel
theorem dX4_change_17 : decode cX4_change 17 = .ok (.iload_n 2, 1) := by decide +kernel
theorem dX4_change_18 : decode cX4_change 18 = .ok (.iload_n 3, 1) := by decide +kernel
theorem dX4_change_19 : decode cX4_change 19 = .ok (.iload 4, 2) := by decide +kernel
theorem dX4_change_21 : decode cX4_change 21 = .ok (.invokevirtual 59, 3) := by decide +kernel
theorem dX4_change_24 : decode cX4_change 24 = .ok (.aload_n 0, 1) := by decide +kernel
theorem dX4_change_25 : decode cX4_change 25 = .ok (.iconst 0, 1) := by decide +kernel
theorem dX4_change_26 : decode cX4_change 26 = .ok (.putfield 40, 3) := by decide +kernel
theorem dX4_change_29 : decode cX4_change 29 = .ok (.return_, 1) := by decide +kernel
theorem dX4_ask_0 : decode cX4_ask 0 = .ok (.aload_n 0, 1) := by decide +kernel
theorem dX4_ask_1 : decode cX4_ask 1 = .ok (.iload_n 3, 1) := by decide +kernel
theorem dX4_ask_2 : decode cX4_ask 2 = .ok (.invokevirtual 63, 3) := by decide +kernel
theorem dX4_ask_5 : decode cX4_ask 5 = .ok (.iload_n 1, 1) := by decide +kernel
theorem dX4_ask_6 : decode cX4_ask 6 = .ok (.iconst 0, 1) := by decide +kernel
theorem dX4_ask_7 : decode cX4_ask 7 = .ok (.iconst 3, 1) := by decide +kernel
theorem dX4_ask_8 : decode cX4_ask 8 = .ok (.invokestatic 67, 3) := by decide +kernel
theorem dX4_ask_11 : decode cX4_ask 11 = .ok (.iload_n 2, 1) := by decide +kernel
theorem dX4_ask_12 : decode cX4_ask 12 = .ok (.iconst 0, 1) := by decide +kernel
theorem dX4_ask_13 : decode cX4_ask 13 = .ok (.ldc 70, 2) := by decide +kernel
theorem dX4_ask_15 : decode cX4_ask 15 = .ok (.invokestatic 67, 3) := by decide +kernel
theorem dX4_ask_18 : decode cX4_ask 18 = .ok (.iload 4, 2) := by decide +kernel
theorem dX4_ask_20 : decode cX4_ask 20 = .ok (.iconst 1, 1) := by decide +kernel
theorem dX4_ask_21 : decode cX4_ask 21 = .ok (.sipush 1000, 3) := by decide +kernel
theorem dX4_ask_24 : decode cX4_ask 24 = .ok (.invokestatic 67, 3) := by decide +kernel
theorem dX4_ask_27 : decode cX4_ask 27 = .ok (.aload_n 0, 1) := by decide +kernel
theorem dX4_ask_28 : decode cX4_ask 28 = .ok (.getfield 12, 3) := by decide +kernel
theorem dX4_ask_31 : decode cX4_ask 31 = .ok (.getfield 71, 3) := by decide +kernel
theorem dX4_ask_34 : decode cX4_ask 34 = .ok (.bipush 60, 2) := by decide +kernel
theorem dX4_ask_36 : decode cX4_ask 36 = .ok (.if_icmp .lt 13, 3) := by decide +kernel
theorem dX4_ask_39 : decode cX4_ask 39 = .ok (.new 52, 3) := by decide +kernel
theorem dX4_ask_42 : decode cX4_ask 42 = .ok (.dup, 1) := by decide +kernel
theorem dX4_ask_43 : decode cX4_ask 43 = .ok (.ldc 74, 2) := by decide +kernel
theorem dX4_ask_45 : decode cX4_ask 45 = .ok (.invokespecial 56, 3) := by decide +kernel
theorem dX4_ask_48 : decode cX4_ask 48 = .ok (.athrow, 1) := by decide +kernel
theorem dX4_ask_49 : decode cX4_ask 49 = .ok (.aload_n 0, 1) := by decide +kernel
theorem dX4_ask_50 : decode cX4_ask 50 = .ok (.getfield 12, 3) := by decide +kernel
theorem dX4_ask_53 : decode cX4_ask 53 = .ok (.getfield 71, 3) := by decide +kernel
theorem dX4_ask_56 : decode cX4_ask 56 = .ok (.istore 5, 2) := by decide +kernel
theorem dX4_ask_58 : decode cX4_ask 58 = .ok (.aload_n 0, 1) := by decide +kernel
theorem dX4_ask_59 : decode cX4_ask 59 = .ok (.getfield 12, 3) := by decide +kernel
theorem dX4_ask_62 : decode cX4_ask 62 = .ok (.dup, 1) := by decide +kernel
theorem dX4_ask_63 : decode cX4_ask 63 = .ok (.getfield 71, 3) := by decide +kernel
theorem dX4_ask_66 : decode cX4_ask 66 = .ok (.iconst 1, 1) := by decide +kernel
theorem dX4_ask_67 : decode cX4_ask 67 = .ok (.iadd, 1) := by decide +kernel
theorem dX4_ask_68 : decode cX4_ask 68 = .ok (.putfield 71, 3) := by decide +kernel
theorem dX4_ask_71 : decode cX4_ask 71 = .ok (.aload_n 0, 1) := by decide +kernel
theorem dX4_ask_72 : decode cX4_ask 72 = .ok (.getfield 12, 3) := by decide +kernel
theorem dX4_ask_75 : decode cX4_ask 75 = .ok (.getfield 76, 3) := by decide +kernel
theorem dX4_ask_78 : decode cX4_ask 78 = .ok (.iload 5, 2) := by decide +kernel
theorem dX4_ask_80 : decode cX4_ask 80 = .ok (.iload_n 1, 1) := by decide +kernel
theorem dX4_ask_81 : decode cX4_ask 81 = .ok (.iastore, 1) := by decide +kernel
theorem dX4_ask_82 : decode cX4_ask 82 = .ok (.aload_n 0, 1) := by decide +kernel
theorem dX4_ask_83 : decode cX4_ask 83 = .ok (.getfield 12, 3) := by decide +kernel
theorem dX4_ask_86 : decode cX4_ask 86 = .ok (.getfield 80, 3) := by decide +kernel
theorem dX4_ask_89 : decode cX4_ask 89 = .ok (.iload 5, 2) := by decide +kernel
theorem dX4_ask_91 : decode cX4_ask 91 = .ok (.iload_n 2, 1) := by decide +kernel
theorem dX4_ask_92 : decode cX4_ask 92 = .ok (.iastore, 1) := by decide +kernel
theorem dX4_ask_93 : decode cX4_ask 93 = .ok (.aload_n 0, 1) := by decide +kernel
theorem dX4_ask_94 : decode cX4_ask 94 = .ok (.getfield 12, 3) := by decide +kernel
theorem dX4_ask_97 : decode cX4_ask 97 = .ok (.iload 5, 2) := by decide +kernel
theorem dX4_ask_99 : decode cX4_ask 99 = .ok (.iload_n 3, 1) := by decide +kernel
theorem dX4_ask_100 : decode cX4_ask 100 = .ok (.iload 4, 2) := by decide +kernel
theorem dX4_ask_102 : decode cX4_ask 102 = .ok (.invokevirtual 83, 3) := by decide +kernel
theorem dX4_ask_105 : decode cX4_ask 105 = .ok (.pop, 1) := by decide +kernel
theorem dX4_ask_106 : decode cX4_ask 106 = .ok (.aload_n 0, 1) := by decide +kernel
theorem dX4_ask_107 : decode cX4_ask 107 = .ok (.iconst 0, 1) := by decide +kernel
theorem dX4_ask_108 : decode cX4_ask 108 = .ok (.putfield 40, 3) := by decide +kernel
theorem dX4_ask_111 : decode cX4_ask 111 = .ok (.iload 5, 2) := by decide +kernel
theorem dX4_ask_113 : decode cX4_ask 113 = .ok (.ireturn, 1) := by decide +kernel
theorem dX4_step_0 : decode cX4_step 0 = .ok (.aload_n 0, 1) := by decide +kernel
theorem dX4_step_1 : decode cX4_step 1 = .ok (.iload_n 1, 1) := by decide +kernel
theorem dX4_step_2 : decode cX4_step 2 = .ok (.invokevirtual 87, 3) := by decide +kernel
theorem dX4_step_5 : decode cX4_step 5 = .ok (.aload_n 0, 1) := by decide +kernel
theorem dX4_step_6 : decode cX4_step 6 = .ok (.iload_n 2, 1) := by decide +kernel
theorem dX4_step_7 : decode cX4_step 7 = .ok (.invokevirtual 63, 3) := by decide +kernel
theorem dX4_step_10 : decode cX4_step 10 = .ok (.iload_n 3, 1) := by decide +kernel
theorem dX4_step_11 : decode cX4_step 11 = .ok (.iconst 1, 1) := by decide +kernel
theorem dX4_step_12 : decode cX4_step 12 = .ok (.sipush 1000, 3) := by decide +kernel
theorem dX4_step_15 : decode cX4_step 15 = .ok (.invokestatic 67, 3) := by decide +kernel
theorem dX4_step_18 : decode cX4_step 18 = .ok (.aload_n 0, 1) := by decide +kernel
theorem dX4_step_19 : decode cX4_step 19 = .ok (.getfield 12, 3) := by decide +kernel
theorem dX4_step_22 : decode cX4_step 22 = .ok (.getfield 90, 3) := by decide +kernel
theorem dX4_step_25 : decode cX4_step 25 = .ok (.iload_n 1, 1) := by decide +kernel
theorem dX4_step_26 : decode cX4_step 26 = .ok (.iaload, 1) := by decide +kernel
theorem dX4_step_27 : decode cX4_step 27 = .ok (.iconst 5, 1) := by decide +kernel
theorem dX4_step_28 : decode cX4_step 28 = .ok (.if_icmp .lt 5, 3) := by decide +kernel
theorem dX4_step_31 : decode cX4_step 31 = .ok (.iconst (-1), 1) := by decide +kernel
theorem dX4_step_32 : decode cX4_step 32 = .ok (.ireturn, 1) := by decide +kernel
theorem dX4_step_33 : decode cX4_step 33 = .ok (.aload_n 0, 1) := by decide +kernel
theorem dX4_step_34 : decode cX4_step 34 = .ok (.iconst 0, 1) := by decide +kernel
theorem dX4_step_35 : decode cX4_step 35 = .ok (.putfield 40, 3) := by decide +kernel
theorem dX4_step_38 : decode cX4_step 38 = .ok (.aload_n 0, 1) := by decide +kernel
theorem dX4_step_39 : decode cX4_step 39 = .ok (.getfield 12, 3) := by decide +kernel
theorem dX4_step_42 : decode cX4_step 42 = .ok (.iload_n 1, 1) := by decide +kernel
theorem dX4_step_43 : decode cX4_step 43 = .ok (.iload_n 2, 1) := by decide +kernel
theorem dX4_step_44 : decode cX4_step 44 = .ok (.iload_n 3, 1) := by decide +kernel
theorem dX4_step_45 : decode cX4_step 45 = .ok (.invokevirtual 83, 3) := by decide +kernel
theorem dX4_step_48 : decode cX4_step 48 = .ok (.ireturn, 1) := by decide +kernel
theorem dX4_seen_0 : decode cX4_seen 0 = .ok (.aload_n 0, 1) := by decide +kernel
theorem dX4_seen_1 : decode cX4_seen 1 = .ok (.iload_n 1, 1) := by decide +kernel
theorem dX4_seen_2 : decode cX4_seen 2 = .ok (.iload_n 2, 1) := by decide +kernel
theorem dX4_seen_3 : decode cX4_seen 3 = .ok (.invokevirtual 93, 3) := by decide +kernel
theorem dX4_seen_6 : decode cX4_seen 6 = .ok (.istore 5, 2) := by decide +kernel
theorem dX4_seen_8 : decode cX4_seen 8 = .ok (.iload_n 3, 1) := by decide +kernel
theorem dX4_seen_9 : decode cX4_seen 9 = .ok (.iconst 0, 1) := by decide +kernel
theorem dX4_seen_10 : decode cX4_seen 10 = .ok (.ldc 97, 2) := by decide +kernel
theorem dX4_seen_12 : decode cX4_seen 12 = .ok (.invokestatic 67, 3) := by decide +kernel
theorem dX4_seen_15 : decode cX4_seen 15 = .ok (.iload 4, 2) := by decide +kernel
theorem dX4_seen_17 : decode cX4_seen 17 = .ok (.iconst 0, 1) := by decide +kernel
theorem dX4_seen_18 : decode cX4_seen 18 = .ok (.ldc 97, 2) := by decide +kernel
theorem dX4_seen_20 : decode cX4_seen 20 = .ok (.invokestatic 67, 3) := by decide +kernel
theorem dX4_seen_23 : decode cX4_seen 23 = .ok (.iload 4, 2) := by decide +kernel
theorem dX4_seen_25 : decode cX4_seen 25 = .ok (.iload_n 3, 1) := by decide +kernel
theorem dX4_seen_26 : decode cX4_seen 26 = .ok (.if_icmp .gt 13, 3) := by decide +kernel
theorem dX4_seen_29 : decode cX4_seen 29 = .ok (.new 98, 3) := by decide +kernel
theorem dX4_seen_32 : decode cX4_seen 32 = .ok (.dup, 1) := by decide +kernel
theorem dX4_seen_33 : decode cX4_seen 33 = .ok (.ldc 100, 2) := by decide +kernel
theorem dX4_seen_35 : decode cX4_seen 35 = .ok (.invokespecial 102, 3) := by decide +kernel
theorem dX4_seen_38 : decode cX4_seen 38 = .ok (.athrow, 1) := by decide +kernel
theorem dX4_seen_39 : decode cX4_seen 39 = .ok (.aload_n 0, 1) := by decide +kernel
theorem dX4_seen_40 : decode cX4_seen 40 = .ok (.getfield 19, 3) := by decide +kernel
theorem dX4_seen_43 : decode cX4_seen 43 = .ok (.iload 5, 2) := by decide +kernel
theorem dX4_seen_45 : decode cX4_seen 45 = .ok (.iload_n 3, 1) := by decide +kernel
theorem dX4_seen_46 : decode cX4_seen 46 = .ok (.iload 4, 2) := by decide +kernel
theorem dX4_seen_48 : decode cX4_seen 48 = .ok (.invokevirtual 103, 3) := by decide +kernel
theorem dX4_seen_51 : decode cX4_seen 51 = .ok (.return_, 1) := by decide +kernel
theorem dX4_unsee_0 : decode cX4_unsee 0 = .ok (.aload_n 0, 1) := by decide +kernel
theorem dX4_unsee_1 : decode cX4_unsee 1 = .ok (.iload_n 1, 1) := by decide +kernel
theorem dX4_unsee_2 : decode cX4_unsee 2 = .ok (.iload_n 2, 1) := by decide +kernel
theorem dX4_unsee_3 : decode cX4_unsee 3 = .ok (.invokevirtual 93, 3) := by decide +kernel
theorem dX4_unsee_6 : decode cX4_unsee 6 = .ok (.istore_n 3, 1) := by decide +kernel
theorem dX4_unsee_7 : decode cX4_unsee 7 = .ok (.aload_n 0, 1) := by decide +kernel
theorem dX4_unsee_8 : decode cX4_unsee 8 = .ok (.getfield 19, 3) := by decide +kernel
theorem dX4_unsee_11 : decode cX4_unsee 11 = .ok (.getfield 106, 3) := by decide +kernel
theorem dX4_unsee_14 : decode cX4_unsee 14 = .ok (.iload_n 3, 1) := by decide +kernel
theorem dX4_unsee_15 : decode cX4_unsee 15 = .ok (.baload, 1) := by decide +kernel
theorem dX4_unsee_16 : decode cX4_unsee 16 = .ok (.istore 4, 2) := by decide +kernel
theorem dX4_unsee_18 : decode cX4_unsee 18 = .ok (.aload_n 0, 1) := by decide +kernel
theorem dX4_unsee_19 : decode cX4_unsee 19 = .ok (.getfield 19, 3) := by decide +kernel
theorem dX4_unsee_22 : decode cX4_unsee 22 = .ok (.getfield 106, 3) := by decide +kernel
theorem dX4_unsee_25 : decode cX4_unsee 25 = .ok (.iload_n 3, 1) := by decide +kernel
theorem dX4_unsee_26 : decode cX4_unsee 26 = .ok (.iconst 0, 1) := by decide +kernel
theorem dX4_unsee_27 : decode cX4_unsee 27 = .ok (.bastore, 1) := by decide +kernel
theorem dX4_unsee_28 : decode cX4_unsee 28 = .ok (.iload 4, 2) := by decide +kernel
theorem dX4_unsee_30 : decode cX4_unsee 30 = .ok (.ireturn, 1) := by decide +kernel
theorem dX4_played_0 : decode cX4_played 0 = .ok (.aload_n 0, 1) := by decide +kernel
theorem dX4_played_1 : decode cX4_played 1 = .ok (.iload_n 1, 1) := by decide +kernel
theorem dX4_played_2 : decode cX4_played 2 = .ok (.iload_n 2, 1) := by decide +kernel
theorem dX4_played_3 : decode cX4_played 3 = .ok (.invokevirtual 93, 3) := by decide +kernel
theorem dX4_played_6 : decode cX4_played 6 = .ok (.istore 4, 2) := by decide +kernel
theorem dX4_played_8 : decode cX4_played 8 = .ok (.iload_n 3, 1) := by decide +kernel
theorem dX4_played_9 : decode cX4_played 9 = .ok (.iconst 2, 1) := by decide +kernel
theorem dX4_played_10 : decode cX4_played 10 = .ok (.invokestatic 110, 3) := by decide +kernel
theorem dX4_played_13 : decode cX4_played 13 = .ok (.aload_n 0, 1) := by decide +kernel
theorem dX4_played_14 : decode cX4_played 14 = .ok (.invokevirtual 114, 3) := by decide +kernel
theorem dX4_played_17 : decode cX4_played 17 = .ok (.iload_n 3, 1) := by decide +kernel
theorem dX4_played_18 : decode cX4_played 18 = .ok (.ifCond .ne 14, 3) := by decide +kernel
theorem dX4_played_21 : decode cX4_played 21 = .ok (.aload_n 0, 1) := by decide +kernel
theorem dX4_played_22 : decode cX4_played 22 = .ok (.getfield 33, 3) := by decide +kernel
theorem dX4_played_25 : decode cX4_played 25 = .ok (.getfield 117, 3) := by decide +kernel
theorem dX4_played_28 : decode cX4_played 28 = .ok (.iload 4, 2) := by decide +kernel
theorem dX4_played_30 : decode cX4_played 30 = .ok (.iaload, 1) := by decide +kernel
theorem dX4_played_31 : decode cX4_played 31 = .ok (.ireturn, 1) := by decide +kernel
theorem dX4_played_32 : decode cX4_played 32 = .ok (.iload_n 3, 1) := by decide +kernel
theorem dX4_played_33 : decode cX4_played 33 = .ok (.iconst 1, 1) := by decide +kernel
theorem dX4_played_34 : decode cX4_played 34 = .ok (.if_icmp .ne 16, 3) := by decide +kernel
theorem dX4_played_37 : decode cX4_played 37 = .ok (.aload_n 0, 1) := by decide +kernel
theorem dX4_played_38 : decode cX4_played 38 = .ok (.getfield 33, 3) := by decide +kernel
