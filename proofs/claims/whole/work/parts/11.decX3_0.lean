theorem dX3_init_0 : decode cX3_init 0 = .ok (.aload_n 0, 1) := by decide +kernel
theorem dX3_init_1 : decode cX3_init 1 = .ok (.invokespecial 3, 3) := by decide +kernel
theorem dX3_init_4 : decode cX3_init 4 = .ok (.aload_n 0, 1) := by decide +kernel
theorem dX3_init_5 : decode cX3_init 5 = .ok (.bipush 6, 2) := by decide +kernel
theorem dX3_init_7 : decode cX3_init 7 = .ok (.newarray .int, 2) := by decide +kernel
theorem dX3_init_9 : decode cX3_init 9 = .ok (.putfield 9, 3) := by decide +kernel
theorem dX3_init_12 : decode cX3_init 12 = .ok (.return_, 1) := by decide +kernel
theorem dX3_readPairs_0 : decode cX3_readPairs 0 = .ok (.aload_n 0, 1) := by decide +kernel
theorem dX3_readPairs_1 : decode cX3_readPairs 1 = .ok (.lconst 0, 1) := by decide +kernel
theorem dX3_readPairs_2 : decode cX3_readPairs 2 = .ok (.putfield 15, 3) := by decide +kernel
theorem dX3_readPairs_5 : decode cX3_readPairs 5 = .ok (.aload_n 0, 1) := by decide +kernel
theorem dX3_readPairs_6 : decode cX3_readPairs 6 = .ok (.iconst 0, 1) := by decide +kernel
theorem dX3_readPairs_7 : decode cX3_readPairs 7 = .ok (.putfield 19, 3) := by decide +kernel
theorem dX3_readPairs_10 : decode cX3_readPairs 10 = .ok (.aload_n 0, 1) := by decide +kernel
theorem dX3_readPairs_11 : decode cX3_readPairs 11 = .ok (.iconst 0, 1) := by decide +kernel
theorem dX3_readPairs_12 : decode cX3_readPairs 12 = .ok (.putfield 23, 3) := by decide +kernel
theorem dX3_readPairs_15 : decode cX3_readPairs 15 = .ok (.iconst 0, 1) := by decide +kernel
theorem dX3_readPairs_16 : decode cX3_readPairs 16 = .ok (.istore_n 3, 1) := by decide +kernel
theorem dX3_readPairs_17 : decode cX3_readPairs 17 = .ok (.iload_n 3, 1) := by decide +kernel
theorem dX3_readPairs_18 : decode cX3_readPairs 18 = .ok (.sipush 400, 3) := by decide +kernel
theorem dX3_readPairs_21 : decode cX3_readPairs 21 = .ok (.if_icmp .ge 27, 3) := by decide +kernel
theorem dX3_readPairs_24 : decode cX3_readPairs 24 = .ok (.aload_n 1, 1) := by decide +kernel
theorem dX3_readPairs_25 : decode cX3_readPairs 25 = .ok (.getfield 26, 3) := by decide +kernel
theorem dX3_readPairs_28 : decode cX3_readPairs 28 = .ok (.ifCond .eq 20, 3) := by decide +kernel
theorem dX3_readPairs_31 : decode cX3_readPairs 31 = .ok (.aload_n 0, 1) := by decide +kernel
theorem dX3_readPairs_32 : decode cX3_readPairs 32 = .ok (.aload_n 1, 1) := by decide +kernel
theorem dX3_readPairs_33 : decode cX3_readPairs 33 = .ok (.aload_n 2, 1) := by decide +kernel
theorem dX3_readPairs_34 : decode cX3_readPairs 34 = .ok (.invokevirtual 31, 3) := by decide +kernel
theorem dX3_readPairs_37 : decode cX3_readPairs 37 = .ok (.ifCond .ne 5, 3) := by decide +kernel
theorem dX3_readPairs_40 : decode cX3_readPairs 40 = .ok (.iconst 0, 1) := by decide +kernel
theorem dX3_readPairs_41 : decode cX3_readPairs 41 = .ok (.ireturn, 1) := by decide +kernel
theorem dX3_readPairs_42 : decode cX3_readPairs 42 = .ok (.iinc 3 1, 3) := by decide +kernel
theorem dX3_readPairs_45 : decode cX3_readPairs 45 = .ok (.goto (-28), 3) := by decide +kernel
theorem dX3_readPairs_48 : decode cX3_readPairs 48 = .ok (.iconst 1, 1) := by decide +kernel
theorem dX3_readPairs_49 : decode cX3_readPairs 49 = .ok (.ireturn, 1) := by decide +kernel
theorem dX3_readOnePair_0 : decode cX3_readOnePair 0 = .ok (.aload_n 0, 1) := by decide +kernel
theorem dX3_readOnePair_1 : decode cX3_readOnePair 1 = .ok (.aload_n 1, 1) := by decide +kernel
theorem dX3_readOnePair_2 : decode cX3_readOnePair 2 = .ok (.aload_n 2, 1) := by decide +kernel
theorem dX3_readOnePair_3 : decode cX3_readOnePair 3 = .ok (.getfield 35, 3) := by decide +kernel
theorem dX3_readOnePair_6 : decode cX3_readOnePair 6 = .ok (.invokevirtual 40, 3) := by decide +kernel
theorem dX3_readOnePair_9 : decode cX3_readOnePair 9 = .ok (.ifCond .ne 5, 3) := by decide +kernel
theorem dX3_readOnePair_12 : decode cX3_readOnePair 12 = .ok (.iconst 0, 1) := by decide +kernel
theorem dX3_readOnePair_13 : decode cX3_readOnePair 13 = .ok (.ireturn, 1) := by decide +kernel
theorem dX3_readOnePair_14 : decode cX3_readOnePair 14 = .ok (.aload_n 1, 1) := by decide +kernel
theorem dX3_readOnePair_15 : decode cX3_readOnePair 15 = .ok (.getfield 44, 3) := by decide +kernel
theorem dX3_readOnePair_18 : decode cX3_readOnePair 18 = .ok (.istore_n 3, 1) := by decide +kernel
theorem dX3_readOnePair_19 : decode cX3_readOnePair 19 = .ok (.aload_n 0, 1) := by decide +kernel
theorem dX3_readOnePair_20 : decode cX3_readOnePair 20 = .ok (.getfield 19, 3) := by decide +kernel
theorem dX3_readOnePair_23 : decode cX3_readOnePair 23 = .ok (.iload_n 3, 1) := by decide +kernel
theorem dX3_readOnePair_24 : decode cX3_readOnePair 24 = .ok (.ishr, 1) := by decide +kernel
theorem dX3_readOnePair_25 : decode cX3_readOnePair 25 = .ok (.iconst 1, 1) := by decide +kernel
theorem dX3_readOnePair_26 : decode cX3_readOnePair 26 = .ok (.iand, 1) := by decide +kernel
theorem dX3_readOnePair_27 : decode cX3_readOnePair 27 = .ok (.ifCond .eq 9, 3) := by decide +kernel
theorem dX3_readOnePair_30 : decode cX3_readOnePair 30 = .ok (.aload_n 1, 1) := by decide +kernel
theorem dX3_readOnePair_31 : decode cX3_readOnePair 31 = .ok (.iconst 5, 1) := by decide +kernel
theorem dX3_readOnePair_32 : decode cX3_readOnePair 32 = .ok (.invokevirtual 47, 3) := by decide +kernel
theorem dX3_readOnePair_35 : decode cX3_readOnePair 35 = .ok (.ireturn, 1) := by decide +kernel
theorem dX3_readOnePair_36 : decode cX3_readOnePair 36 = .ok (.aload_n 0, 1) := by decide +kernel
theorem dX3_readOnePair_37 : decode cX3_readOnePair 37 = .ok (.getfield 23, 3) := by decide +kernel
theorem dX3_readOnePair_40 : decode cX3_readOnePair 40 = .ok (.aload_n 2, 1) := by decide +kernel
theorem dX3_readOnePair_41 : decode cX3_readOnePair 41 = .ok (.getfield 35, 3) := by decide +kernel
theorem dX3_readOnePair_44 : decode cX3_readOnePair 44 = .ok (.iconst 2, 1) := by decide +kernel
theorem dX3_readOnePair_45 : decode cX3_readOnePair 45 = .ok (.idiv, 1) := by decide +kernel
theorem dX3_readOnePair_46 : decode cX3_readOnePair 46 = .ok (.if_icmp .lt 10, 3) := by decide +kernel
theorem dX3_readOnePair_49 : decode cX3_readOnePair 49 = .ok (.aload_n 1, 1) := by decide +kernel
theorem dX3_readOnePair_50 : decode cX3_readOnePair 50 = .ok (.bipush 6, 2) := by decide +kernel
theorem dX3_readOnePair_52 : decode cX3_readOnePair 52 = .ok (.invokevirtual 47, 3) := by decide +kernel
theorem dX3_readOnePair_55 : decode cX3_readOnePair 55 = .ok (.ireturn, 1) := by decide +kernel
theorem dX3_readOnePair_56 : decode cX3_readOnePair 56 = .ok (.aload_n 1, 1) := by decide +kernel
theorem dX3_readOnePair_57 : decode cX3_readOnePair 57 = .ok (.invokevirtual 51, 3) := by decide +kernel
theorem dX3_readOnePair_60 : decode cX3_readOnePair 60 = .ok (.aload_n 1, 1) := by decide +kernel
theorem dX3_readOnePair_61 : decode cX3_readOnePair 61 = .ok (.bipush 45, 2) := by decide +kernel
theorem dX3_readOnePair_63 : decode cX3_readOnePair 63 = .ok (.invokevirtual 54, 3) := by decide +kernel
theorem dX3_readOnePair_66 : decode cX3_readOnePair 66 = .ok (.ifCond .eq 15, 3) := by decide +kernel
theorem dX3_readOnePair_69 : decode cX3_readOnePair 69 = .ok (.aload_n 0, 1) := by decide +kernel
theorem dX3_readOnePair_70 : decode cX3_readOnePair 70 = .ok (.aload_n 1, 1) := by decide +kernel
theorem dX3_readOnePair_71 : decode cX3_readOnePair 71 = .ok (.aload_n 2, 1) := by decide +kernel
theorem dX3_readOnePair_72 : decode cX3_readOnePair 72 = .ok (.getfield 35, 3) := by decide +kernel
theorem dX3_readOnePair_75 : decode cX3_readOnePair 75 = .ok (.invokevirtual 40, 3) := by decide +kernel
theorem dX3_readOnePair_78 : decode cX3_readOnePair 78 = .ok (.ifCond .ne 5, 3) := by decide +kernel
theorem dX3_readOnePair_81 : decode cX3_readOnePair 81 = .ok (.iconst 0, 1) := by decide +kernel
theorem dX3_readOnePair_82 : decode cX3_readOnePair 82 = .ok (.ireturn, 1) := by decide +kernel
theorem dX3_readOnePair_83 : decode cX3_readOnePair 83 = .ok (.aload_n 1, 1) := by decide +kernel
theorem dX3_readOnePair_84 : decode cX3_readOnePair 84 = .ok (.getfield 44, 3) := by decide +kernel
theorem dX3_readOnePair_87 : decode cX3_readOnePair 87 = .ok (.istore 4, 2) := by decide +kernel
theorem dX3_readOnePair_89 : decode cX3_readOnePair 89 = .ok (.aload_n 2, 1) := by decide +kernel
theorem dX3_readOnePair_90 : decode cX3_readOnePair 90 = .ok (.iload_n 3, 1) := by decide +kernel
theorem dX3_readOnePair_91 : decode cX3_readOnePair 91 = .ok (.iload 4, 2) := by decide +kernel
theorem dX3_readOnePair_93 : decode cX3_readOnePair 93 = .ok (.invokevirtual 58, 3) := by decide +kernel
theorem dX3_readOnePair_96 : decode cX3_readOnePair 96 = .ok (.ifCond .ne 9, 3) := by decide +kernel
theorem dX3_readOnePair_99 : decode cX3_readOnePair 99 = .ok (.aload_n 1, 1) := by decide +kernel
theorem dX3_readOnePair_100 : decode cX3_readOnePair 100 = .ok (.iconst 4, 1) := by decide +kernel
theorem dX3_readOnePair_101 : decode cX3_readOnePair 101 = .ok (.invokevirtual 47, 3) := by decide +kernel
theorem dX3_readOnePair_104 : decode cX3_readOnePair 104 = .ok (.ireturn, 1) := by decide +kernel
theorem dX3_readOnePair_105 : decode cX3_readOnePair 105 = .ok (.aload_n 0, 1) := by decide +kernel
theorem dX3_readOnePair_106 : decode cX3_readOnePair 106 = .ok (.getfield 19, 3) := by decide +kernel
theorem dX3_readOnePair_109 : decode cX3_readOnePair 109 = .ok (.iload 4, 2) := by decide +kernel
theorem dX3_readOnePair_111 : decode cX3_readOnePair 111 = .ok (.ishr, 1) := by decide +kernel
theorem dX3_readOnePair_112 : decode cX3_readOnePair 112 = .ok (.iconst 1, 1) := by decide +kernel
theorem dX3_readOnePair_113 : decode cX3_readOnePair 113 = .ok (.iand, 1) := by decide +kernel
theorem dX3_readOnePair_114 : decode cX3_readOnePair 114 = .ok (.ifCond .eq 9, 3) := by decide +kernel
theorem dX3_readOnePair_117 : decode cX3_readOnePair 117 = .ok (.aload_n 1, 1) := by decide +kernel
theorem dX3_readOnePair_118 : decode cX3_readOnePair 118 = .ok (.iconst 5, 1) := by decide +kernel
theorem dX3_readOnePair_119 : decode cX3_readOnePair 119 = .ok (.invokevirtual 47, 3) := by decide +kernel
theorem dX3_readOnePair_122 : decode cX3_readOnePair 122 = .ok (.ireturn, 1) := by decide +kernel
theorem dX3_readOnePair_123 : decode cX3_readOnePair 123 = .ok (.aload_n 1, 1) := by decide +kernel
theorem dX3_readOnePair_124 : decode cX3_readOnePair 124 = .ok (.invokevirtual 51, 3) := by decide +kernel
theorem dX3_readOnePair_127 : decode cX3_readOnePair 127 = .ok (.aload_n 0, 1) := by decide +kernel
theorem dX3_readOnePair_128 : decode cX3_readOnePair 128 = .ok (.dup, 1) := by decide +kernel
theorem dX3_readOnePair_129 : decode cX3_readOnePair 129 = .ok (.getfield 19, 3) := by decide +kernel
theorem dX3_readOnePair_132 : decode cX3_readOnePair 132 = .ok (.iconst 1, 1) := by decide +kernel
theorem dX3_readOnePair_133 : decode cX3_readOnePair 133 = .ok (.iload_n 3, 1) := by decide +kernel
theorem dX3_readOnePair_134 : decode cX3_readOnePair 134 = .ok (.ishl, 1) := by decide +kernel
theorem dX3_readOnePair_135 : decode cX3_readOnePair 135 = .ok (.iconst 1, 1) := by decide +kernel
theorem dX3_readOnePair_136 : decode cX3_readOnePair 136 = .ok (.iload 4, 2) := by decide +kernel
theorem dX3_readOnePair_138 : decode cX3_readOnePair 138 = .ok (.ishl, 1) := by decide +kernel
theorem dX3_readOnePair_139 : decode cX3_readOnePair 139 = .ok (.ior, 1) := by decide +kernel
theorem dX3_readOnePair_140 : decode cX3_readOnePair 140 = .ok (.ior, 1) := by decide +kernel
theorem dX3_readOnePair_141 : decode cX3_readOnePair 141 = .ok (.putfield 19, 3) := by decide +kernel
theorem dX3_readOnePair_144 : decode cX3_readOnePair 144 = .ok (.aload_n 0, 1) := by decide +kernel
theorem dX3_readOnePair_145 : decode cX3_readOnePair 145 = .ok (.dup, 1) := by decide +kernel
theorem dX3_readOnePair_146 : decode cX3_readOnePair 146 = .ok (.getfield 15, 3) := by decide +kernel
theorem dX3_readOnePair_149 : decode cX3_readOnePair 149 = .ok (.iload_n 3, 1) := by decide +kernel
theorem dX3_readOnePair_150 : decode cX3_readOnePair 150 = .ok (.iload 4, 2) := by decide +kernel
theorem dX3_readOnePair_152 : decode cX3_readOnePair 152 = .ok (.invokestatic 62, 3) := by decide +kernel
theorem dX3_readOnePair_155 : decode cX3_readOnePair 155 = .ok (.lor, 1) := by decide +kernel
theorem dX3_readOnePair_156 : decode cX3_readOnePair 156 = .ok (.putfield 15, 3) := by decide +kernel
theorem dX3_readOnePair_159 : decode cX3_readOnePair 159 = .ok (.aload_n 0, 1) := by decide +kernel
theorem dX3_readOnePair_160 : decode cX3_readOnePair 160 = .ok (.dup, 1) := by decide +kernel
theorem dX3_readOnePair_161 : decode cX3_readOnePair 161 = .ok (.getfield 23, 3) := by decide +kernel
theorem dX3_readOnePair_164 : decode cX3_readOnePair 164 = .ok (.iconst 1, 1) := by decide +kernel
theorem dX3_readOnePair_165 : decode cX3_readOnePair 165 = .ok (.iadd, 1) := by decide +kernel
theorem dX3_readOnePair_166 : decode cX3_readOnePair 166 = .ok (.putfield 23, 3) := by decide +kernel
theorem dX3_readOnePair_169 : decode cX3_readOnePair 169 = .ok (.aload_n 1, 1) := by decide +kernel
theorem dX3_readOnePair_170 : decode cX3_readOnePair 170 = .ok (.bipush 59, 2) := by decide +kernel
theorem dX3_readOnePair_172 : decode cX3_readOnePair 172 = .ok (.invokevirtual 54, 3) := by decide +kernel
theorem dX3_readOnePair_175 : decode cX3_readOnePair 175 = .ok (.ireturn, 1) := by decide +kernel
theorem dX3_readNumber_0 : decode cX3_readNumber 0 = .ok (.aload_n 1, 1) := by decide +kernel
theorem dX3_readNumber_1 : decode cX3_readNumber 1 = .ok (.getfield 26, 3) := by decide +kernel
theorem dX3_readNumber_4 : decode cX3_readNumber 4 = .ok (.iconst 3, 1) := by decide +kernel
theorem dX3_readNumber_5 : decode cX3_readNumber 5 = .ok (.if_icmp .eq 8, 3) := by decide +kernel
theorem dX3_readNumber_8 : decode cX3_readNumber 8 = .ok (.aload_n 1, 1) := by decide +kernel
theorem dX3_readNumber_9 : decode cX3_readNumber 9 = .ok (.invokevirtual 68, 3) := by decide +kernel
theorem dX3_readNumber_12 : decode cX3_readNumber 12 = .ok (.ireturn, 1) := by decide +kernel
theorem dX3_readNumber_13 : decode cX3_readNumber 13 = .ok (.aload_n 1, 1) := by decide +kernel
theorem dX3_readNumber_14 : decode cX3_readNumber 14 = .ok (.getfield 44, 3) := by decide +kernel
theorem dX3_readNumber_17 : decode cX3_readNumber 17 = .ok (.iload_n 2, 1) := by decide +kernel
theorem dX3_readNumber_18 : decode cX3_readNumber 18 = .ok (.if_icmp .lt 11, 3) := by decide +kernel
theorem dX3_readNumber_21 : decode cX3_readNumber 21 = .ok (.aload_n 1, 1) := by decide +kernel
theorem dX3_readNumber_22 : decode cX3_readNumber 22 = .ok (.iconst 3, 1) := by decide +kernel
theorem dX3_readNumber_23 : decode cX3_readNumber 23 = .ok (.invokevirtual 47, 3) := by decide +kernel
theorem dX3_readNumber_26 : decode cX3_readNumber 26 = .ok (.ifCond .eq 7, 3) := by decide +kernel
theorem dX3_readNumber_29 : decode cX3_readNumber 29 = .ok (.iconst 1, 1) := by decide +kernel
theorem dX3_readNumber_30 : decode cX3_readNumber 30 = .ok (.goto 4, 3) := by decide +kernel
theorem dX3_readNumber_33 : decode cX3_readNumber 33 = .ok (.iconst 0, 1) := by decide +kernel
theorem dX3_readNumber_34 : decode cX3_readNumber 34 = .ok (.ireturn, 1) := by decide +kernel
theorem dX3_readLines_0 : decode cX3_readLines 0 = .ok (.aload_n 0, 1) := by decide +kernel
theorem dX3_readLines_1 : decode cX3_readLines 1 = .ok (.iconst 0, 1) := by decide +kernel
theorem dX3_readLines_2 : decode cX3_readLines 2 = .ok (.putfield 23, 3) := by decide +kernel
theorem dX3_readLines_5 : decode cX3_readLines 5 = .ok (.iconst 0, 1) := by decide +kernel
theorem dX3_readLines_6 : decode cX3_readLines 6 = .ok (.istore_n 3, 1) := by decide +kernel
theorem dX3_readLines_7 : decode cX3_readLines 7 = .ok (.iload_n 3, 1) := by decide +kernel
theorem dX3_readLines_8 : decode cX3_readLines 8 = .ok (.sipush 400, 3) := by decide +kernel
theorem dX3_readLines_11 : decode cX3_readLines 11 = .ok (.if_icmp .ge 27, 3) := by decide +kernel
theorem dX3_readLines_14 : decode cX3_readLines 14 = .ok (.aload_n 1, 1) := by decide +kernel
theorem dX3_readLines_15 : decode cX3_readLines 15 = .ok (.getfield 26, 3) := by decide +kernel
theorem dX3_readLines_18 : decode cX3_readLines 18 = .ok (.ifCond .eq 20, 3) := by decide +kernel
theorem dX3_readLines_21 : decode cX3_readLines 21 = .ok (.aload_n 0, 1) := by decide +kernel
theorem dX3_readLines_22 : decode cX3_readLines 22 = .ok (.aload_n 1, 1) := by decide +kernel
theorem dX3_readLines_23 : decode cX3_readLines 23 = .ok (.aload_n 2, 1) := by decide +kernel
theorem dX3_readLines_24 : decode cX3_readLines 24 = .ok (.invokevirtual 72, 3) := by decide +kernel
theorem dX3_readLines_27 : decode cX3_readLines 27 = .ok (.ifCond .ne 5, 3) := by decide +kernel
theorem dX3_readLines_30 : decode cX3_readLines 30 = .ok (.iconst 0, 1) := by decide +kernel
theorem dX3_readLines_31 : decode cX3_readLines 31 = .ok (.ireturn, 1) := by decide +kernel
theorem dX3_readLines_32 : decode cX3_readLines 32 = .ok (.iinc 3 1, 3) := by decide +kernel
theorem dX3_readLines_35 : decode cX3_readLines 35 = .ok (.goto (-28), 3) := by decide +kernel
theorem dX3_readLines_38 : decode cX3_readLines 38 = .ok (.iconst 1, 1) := by decide +kernel
theorem dX3_readLines_39 : decode cX3_readLines 39 = .ok (.ireturn, 1) := by decide +kernel
theorem dX3_readOneLine_0 : decode cX3_readOneLine 0 = .ok (.aload_n 0, 1) := by decide +kernel
theorem dX3_readOneLine_1 : decode cX3_readOneLine 1 = .ok (.aload_n 1, 1) := by decide +kernel
theorem dX3_readOneLine_2 : decode cX3_readOneLine 2 = .ok (.aload_n 2, 1) := by decide +kernel
theorem dX3_readOneLine_3 : decode cX3_readOneLine 3 = .ok (.getfield 75, 3) := by decide +kernel
theorem dX3_readOneLine_6 : decode cX3_readOneLine 6 = .ok (.invokevirtual 40, 3) := by decide +kernel
theorem dX3_readOneLine_9 : decode cX3_readOneLine 9 = .ok (.ifCond .ne 5, 3) := by decide +kernel
theorem dX3_readOneLine_12 : decode cX3_readOneLine 12 = .ok (.iconst 0, 1) := by decide +kernel
theorem dX3_readOneLine_13 : decode cX3_readOneLine 13 = .ok (.ireturn, 1) := by decide +kernel
theorem dX3_readOneLine_14 : decode cX3_readOneLine 14 = .ok (.aload_n 1, 1) := by decide +kernel
theorem dX3_readOneLine_15 : decode cX3_readOneLine 15 = .ok (.getfield 44, 3) := by decide +kernel
theorem dX3_readOneLine_18 : decode cX3_readOneLine 18 = .ok (.istore_n 3, 1) := by decide +kernel
theorem dX3_readOneLine_19 : decode cX3_readOneLine 19 = .ok (.aload_n 0, 1) := by decide +kernel
theorem dX3_readOneLine_20 : decode cX3_readOneLine 20 = .ok (.getfield 23, 3) := by decide +kernel
theorem dX3_readOneLine_23 : decode cX3_readOneLine 23 = .ok (.aload_n 2, 1) := by decide +kernel
theorem dX3_readOneLine_24 : decode cX3_readOneLine 24 = .ok (.getfield 35, 3) := by decide +kernel
theorem dX3_readOneLine_27 : decode cX3_readOneLine 27 = .ok (.iconst 2, 1) := by decide +kernel
theorem dX3_readOneLine_28 : decode cX3_readOneLine 28 = .ok (.idiv, 1) := by decide +kernel
theorem dX3_readOneLine_29 : decode cX3_readOneLine 29 = .ok (.if_icmp .ge 12, 3) := by decide +kernel
theorem dX3_readOneLine_32 : decode cX3_readOneLine 32 = .ok (.aload_n 0, 1) := by decide +kernel
theorem dX3_readOneLine_33 : decode cX3_readOneLine 33 = .ok (.getfield 23, 3) := by decide +kernel
theorem dX3_readOneLine_36 : decode cX3_readOneLine 36 = .ok (.bipush 6, 2) := by decide +kernel
theorem dX3_readOneLine_38 : decode cX3_readOneLine 38 = .ok (.if_icmp .lt 10, 3) := by decide +kernel
theorem dX3_readOneLine_41 : decode cX3_readOneLine 41 = .ok (.aload_n 1, 1) := by decide +kernel
theorem dX3_readOneLine_42 : decode cX3_readOneLine 42 = .ok (.bipush 6, 2) := by decide +kernel
theorem dX3_readOneLine_44 : decode cX3_readOneLine 44 = .ok (.invokevirtual 47, 3) := by decide +kernel
theorem dX3_readOneLine_47 : decode cX3_readOneLine 47 = .ok (.ireturn, 1) := by decide +kernel
theorem dX3_readOneLine_48 : decode cX3_readOneLine 48 = .ok (.aload_n 1, 1) := by decide +kernel
theorem dX3_readOneLine_49 : decode cX3_readOneLine 49 = .ok (.invokevirtual 51, 3) := by decide +kernel
theorem dX3_readOneLine_52 : decode cX3_readOneLine 52 = .ok (.aload_n 1, 1) := by decide +kernel
theorem dX3_readOneLine_53 : decode cX3_readOneLine 53 = .ok (.bipush 62, 2) := by decide +kernel
theorem dX3_readOneLine_55 : decode cX3_readOneLine 55 = .ok (.invokevirtual 78, 3) := by decide +kernel
theorem dX3_readOneLine_58 : decode cX3_readOneLine 58 = .ok (.istore 4, 2) := by decide +kernel
theorem dX3_readOneLine_60 : decode cX3_readOneLine 60 = .ok (.iload 4, 2) := by decide +kernel
theorem dX3_readOneLine_62 : decode cX3_readOneLine 62 = .ok (.ifCond .ne 17, 3) := by decide +kernel
theorem dX3_readOneLine_65 : decode cX3_readOneLine 65 = .ok (.aload_n 1, 1) := by decide +kernel
theorem dX3_readOneLine_66 : decode cX3_readOneLine 66 = .ok (.bipush 45, 2) := by decide +kernel
theorem dX3_readOneLine_68 : decode cX3_readOneLine 68 = .ok (.invokevirtual 78, 3) := by decide +kernel
theorem dX3_readOneLine_71 : decode cX3_readOneLine 71 = .ok (.ifCond .ne 8, 3) := by decide +kernel
theorem dX3_readOneLine_74 : decode cX3_readOneLine 74 = .ok (.aload_n 1, 1) := by decide +kernel
theorem dX3_readOneLine_75 : decode cX3_readOneLine 75 = .ok (.invokevirtual 68, 3) := by decide +kernel
theorem dX3_readOneLine_78 : decode cX3_readOneLine 78 = .ok (.ireturn, 1) := by decide +kernel
theorem dX3_readOneLine_79 : decode cX3_readOneLine 79 = .ok (.aload_n 1, 1) := by decide +kernel
theorem dX3_readOneLine_80 : decode cX3_readOneLine 80 = .ok (.invokevirtual 51, 3) := by decide +kernel
theorem dX3_readOneLine_83 : decode cX3_readOneLine 83 = .ok (.aload_n 0, 1) := by decide +kernel
theorem dX3_readOneLine_84 : decode cX3_readOneLine 84 = .ok (.aload_n 1, 1) := by decide +kernel
theorem dX3_readOneLine_85 : decode cX3_readOneLine 85 = .ok (.aload_n 2, 1) := by decide +kernel
theorem dX3_readOneLine_86 : decode cX3_readOneLine 86 = .ok (.getfield 75, 3) := by decide +kernel
theorem dX3_readOneLine_89 : decode cX3_readOneLine 89 = .ok (.invokevirtual 40, 3) := by decide +kernel
theorem dX3_readOneLine_92 : decode cX3_readOneLine 92 = .ok (.ifCond .ne 5, 3) := by decide +kernel
theorem dX3_readOneLine_95 : decode cX3_readOneLine 95 = .ok (.iconst 0, 1) := by decide +kernel
theorem dX3_readOneLine_96 : decode cX3_readOneLine 96 = .ok (.ireturn, 1) := by decide +kernel
theorem dX3_readOneLine_97 : decode cX3_readOneLine 97 = .ok (.aload_n 1, 1) := by decide +kernel
theorem dX3_readOneLine_98 : decode cX3_readOneLine 98 = .ok (.getfield 44, 3) := by decide +kernel
theorem dX3_readOneLine_101 : decode cX3_readOneLine 101 = .ok (.istore 5, 2) := by decide +kernel
theorem dX3_readOneLine_103 : decode cX3_readOneLine 103 = .ok (.aload_n 1, 1) := by decide +kernel
theorem dX3_readOneLine_104 : decode cX3_readOneLine 104 = .ok (.invokevirtual 51, 3) := by decide +kernel
theorem dX3_readOneLine_107 : decode cX3_readOneLine 107 = .ok (.aload_n 0, 1) := by decide +kernel
theorem dX3_readOneLine_108 : decode cX3_readOneLine 108 = .ok (.aload_n 1, 1) := by decide +kernel
theorem dX3_readOneLine_109 : decode cX3_readOneLine 109 = .ok (.aload_n 2, 1) := by decide +kernel
theorem dX3_readOneLine_110 : decode cX3_readOneLine 110 = .ok (.invokevirtual 81, 3) := by decide +kernel
theorem dX3_readOneLine_113 : decode cX3_readOneLine 113 = .ok (.istore 6, 2) := by decide +kernel
theorem dX3_readOneLine_115 : decode cX3_readOneLine 115 = .ok (.iload 6, 2) := by decide +kernel
theorem dX3_readOneLine_117 : decode cX3_readOneLine 117 = .ok (.ifCond .ge 5, 3) := by decide +kernel
theorem dX3_readOneLine_120 : decode cX3_readOneLine 120 = .ok (.iconst 0, 1) := by decide +kernel
theorem dX3_readOneLine_121 : decode cX3_readOneLine 121 = .ok (.ireturn, 1) := by decide +kernel
theorem dX3_readOneLine_122 : decode cX3_readOneLine 122 = .ok (.iload 4, 2) := by decide +kernel
theorem dX3_readOneLine_124 : decode cX3_readOneLine 124 = .ok (.aload_n 2, 1) := by decide +kernel
theorem dX3_readOneLine_125 : decode cX3_readOneLine 125 = .ok (.iload 6, 2) := by decide +kernel
theorem dX3_readOneLine_127 : decode cX3_readOneLine 127 = .ok (.invokevirtual 85, 3) := by decide +kernel
theorem dX3_readOneLine_130 : decode cX3_readOneLine 130 = .ok (.if_icmp .eq 9, 3) := by decide +kernel
theorem dX3_readOneLine_133 : decode cX3_readOneLine 133 = .ok (.aload_n 1, 1) := by decide +kernel
theorem dX3_readOneLine_134 : decode cX3_readOneLine 134 = .ok (.iconst 4, 1) := by decide +kernel
theorem dX3_readOneLine_135 : decode cX3_readOneLine 135 = .ok (.invokevirtual 47, 3) := by decide +kernel
theorem dX3_readOneLine_138 : decode cX3_readOneLine 138 = .ok (.ireturn, 1) := by decide +kernel
theorem dX3_readOneLine_139 : decode cX3_readOneLine 139 = .ok (.aload_n 1, 1) := by decide +kernel
theorem dX3_readOneLine_140 : decode cX3_readOneLine 140 = .ok (.invokevirtual 51, 3) := by decide +kernel
theorem dX3_readOneLine_143 : decode cX3_readOneLine 143 = .ok (.aload_n 0, 1) := by decide +kernel
theorem dX3_readOneLine_144 : decode cX3_readOneLine 144 = .ok (.getfield 9, 3) := by decide +kernel
theorem dX3_readOneLine_147 : decode cX3_readOneLine 147 = .ok (.aload_n 0, 1) := by decide +kernel
theorem dX3_readOneLine_148 : decode cX3_readOneLine 148 = .ok (.getfield 23, 3) := by decide +kernel
theorem dX3_readOneLine_151 : decode cX3_readOneLine 151 = .ok (.aload_n 2, 1) := by decide +kernel
theorem dX3_readOneLine_152 : decode cX3_readOneLine 152 = .ok (.iload_n 3, 1) := by decide +kernel
theorem dX3_readOneLine_153 : decode cX3_readOneLine 153 = .ok (.iload 5, 2) := by decide +kernel
theorem dX3_readOneLine_155 : decode cX3_readOneLine 155 = .ok (.iload 6, 2) := by decide +kernel
theorem dX3_readOneLine_157 : decode cX3_readOneLine 157 = .ok (.invokevirtual 88, 3) := by decide +kernel
theorem dX3_readOneLine_160 : decode cX3_readOneLine 160 = .ok (.iastore, 1) := by decide +kernel
theorem dX3_readOneLine_161 : decode cX3_readOneLine 161 = .ok (.aload_n 0, 1) := by decide +kernel
theorem dX3_readOneLine_162 : decode cX3_readOneLine 162 = .ok (.dup, 1) := by decide +kernel
theorem dX3_readOneLine_163 : decode cX3_readOneLine 163 = .ok (.getfield 23, 3) := by decide +kernel
theorem dX3_readOneLine_166 : decode cX3_readOneLine 166 = .ok (.iconst 1, 1) := by decide +kernel
theorem dX3_readOneLine_167 : decode cX3_readOneLine 167 = .ok (.iadd, 1) := by decide +kernel
theorem dX3_readOneLine_168 : decode cX3_readOneLine 168 = .ok (.putfield 23, 3) := by decide +kernel
theorem dX3_readOneLine_171 : decode cX3_readOneLine 171 = .ok (.aload_n 1, 1) := by decide +kernel
theorem dX3_readOneLine_172 : decode cX3_readOneLine 172 = .ok (.bipush 59, 2) := by decide +kernel
theorem dX3_readOneLine_174 : decode cX3_readOneLine 174 = .ok (.invokevirtual 54, 3) := by decide +kernel
theorem dX3_readOneLine_177 : decode cX3_readOneLine 177 = .ok (.ireturn, 1) := by decide +kernel
theorem dX3_readSort_0 : decode cX3_readSort 0 = .ok (.aload_n 1, 1) := by decide +kernel
theorem dX3_readSort_1 : decode cX3_readSort 1 = .ok (.getfield 26, 3) := by decide +kernel
theorem dX3_readSort_4 : decode cX3_readSort 4 = .ok (.iconst 2, 1) := by decide +kernel
theorem dX3_readSort_5 : decode cX3_readSort 5 = .ok (.if_icmp .eq 10, 3) := by decide +kernel
theorem dX3_readSort_8 : decode cX3_readSort 8 = .ok (.aload_n 1, 1) := by decide +kernel
theorem dX3_readSort_9 : decode cX3_readSort 9 = .ok (.invokevirtual 68, 3) := by decide +kernel
theorem dX3_readSort_12 : decode cX3_readSort 12 = .ok (.pop, 1) := by decide +kernel
theorem dX3_readSort_13 : decode cX3_readSort 13 = .ok (.iconst (-1), 1) := by decide +kernel
theorem dX3_readSort_14 : decode cX3_readSort 14 = .ok (.ireturn, 1) := by decide +kernel
theorem dX3_readSort_15 : decode cX3_readSort 15 = .ok (.iconst (-1), 1) := by decide +kernel
theorem dX3_readSort_16 : decode cX3_readSort 16 = .ok (.istore_n 3, 1) := by decide +kernel
theorem dX3_readSort_17 : decode cX3_readSort 17 = .ok (.aload_n 1, 1) := by decide +kernel
theorem dX3_readSort_18 : decode cX3_readSort 18 = .ok (.invokevirtual 92, 3) := by decide +kernel
theorem dX3_readSort_21 : decode cX3_readSort 21 = .ok (.iconst 1, 1) := by decide +kernel
theorem dX3_readSort_22 : decode cX3_readSort 22 = .ok (.if_icmp .ne 15, 3) := by decide +kernel
theorem dX3_readSort_25 : decode cX3_readSort 25 = .ok (.aload_n 2, 1) := by decide +kernel
theorem dX3_readSort_26 : decode cX3_readSort 26 = .ok (.aload_n 1, 1) := by decide +kernel
theorem dX3_readSort_27 : decode cX3_readSort 27 = .ok (.getfield 44, 3) := by decide +kernel
theorem dX3_readSort_30 : decode cX3_readSort 30 = .ok (.invokevirtual 96, 3) := by decide +kernel
theorem dX3_readSort_33 : decode cX3_readSort 33 = .ok (.istore_n 3, 1) := by decide +kernel
theorem dX3_readSort_34 : decode cX3_readSort 34 = .ok (.goto 42, 3) := by decide +kernel
theorem dX3_readSort_37 : decode cX3_readSort 37 = .ok (.aload_n 1, 1) := by decide +kernel
theorem dX3_readSort_38 : decode cX3_readSort 38 = .ok (.invokevirtual 92, 3) := by decide +kernel
theorem dX3_readSort_41 : decode cX3_readSort 41 = .ok (.iconst 2, 1) := by decide +kernel
theorem dX3_readSort_42 : decode cX3_readSort 42 = .ok (.if_icmp .ne 34, 3) := by decide +kernel
theorem dX3_readSort_45 : decode cX3_readSort 45 = .ok (.aload_n 2, 1) := by decide +kernel
theorem dX3_readSort_46 : decode cX3_readSort 46 = .ok (.aload_n 1, 1) := by decide +kernel
theorem dX3_readSort_47 : decode cX3_readSort 47 = .ok (.iconst 0, 1) := by decide +kernel
theorem dX3_readSort_48 : decode cX3_readSort 48 = .ok (.invokevirtual 100, 3) := by decide +kernel
theorem dX3_readSort_51 : decode cX3_readSort 51 = .ok (.aload_n 1, 1) := by decide +kernel
theorem dX3_readSort_52 : decode cX3_readSort 52 = .ok (.iconst 1, 1) := by decide +kernel
theorem dX3_readSort_53 : decode cX3_readSort 53 = .ok (.invokevirtual 100, 3) := by decide +kernel
theorem dX3_readSort_56 : decode cX3_readSort 56 = .ok (.invokevirtual 103, 3) := by decide +kernel
theorem dX3_readSort_59 : decode cX3_readSort 59 = .ok (.istore 4, 2) := by decide +kernel
theorem dX3_readSort_61 : decode cX3_readSort 61 = .ok (.iload 4, 2) := by decide +kernel
theorem dX3_readSort_63 : decode cX3_readSort 63 = .ok (.ifCond .ge 7, 3) := by decide +kernel
theorem dX3_readSort_66 : decode cX3_readSort 66 = .ok (.iconst (-1), 1) := by decide +kernel
theorem dX3_readSort_67 : decode cX3_readSort 67 = .ok (.goto 8, 3) := by decide +kernel
theorem dX3_readSort_70 : decode cX3_readSort 70 = .ok (.bipush 6, 2) := by decide +kernel
theorem dX3_readSort_72 : decode cX3_readSort 72 = .ok (.iload 4, 2) := by decide +kernel
theorem dX3_readSort_74 : decode cX3_readSort 74 = .ok (.iadd, 1) := by decide +kernel
theorem dX3_readSort_75 : decode cX3_readSort 75 = .ok (.istore_n 3, 1) := by decide +kernel
theorem dX3_readSort_76 : decode cX3_readSort 76 = .ok (.iload_n 3, 1) := by decide +kernel
theorem dX3_readSort_77 : decode cX3_readSort 77 = .ok (.ifCond .ge 9, 3) := by decide +kernel
theorem dX3_readSort_80 : decode cX3_readSort 80 = .ok (.aload_n 1, 1) := by decide +kernel
theorem dX3_readSort_81 : decode cX3_readSort 81 = .ok (.iconst 3, 1) := by decide +kernel
theorem dX3_readSort_82 : decode cX3_readSort 82 = .ok (.invokevirtual 47, 3) := by decide +kernel
theorem dX3_readSort_85 : decode cX3_readSort 85 = .ok (.pop, 1) := by decide +kernel
theorem dX3_readSort_86 : decode cX3_readSort 86 = .ok (.iload_n 3, 1) := by decide +kernel
theorem dX3_readSort_87 : decode cX3_readSort 87 = .ok (.ireturn, 1) := by decide +kernel
theorem dX3_sortedKey_0 : decode cX3_sortedKey 0 = .ok (.aload_n 0, 1) := by decide +kernel
theorem dX3_sortedKey_1 : decode cX3_sortedKey 1 = .ok (.getfield 9, 3) := by decide +kernel
theorem dX3_sortedKey_4 : decode cX3_sortedKey 4 = .ok (.aload_n 0, 1) := by decide +kernel
theorem dX3_sortedKey_5 : decode cX3_sortedKey 5 = .ok (.getfield 23, 3) := by decide +kernel
theorem dX3_sortedKey_8 : decode cX3_sortedKey 8 = .ok (.invokestatic 107, 3) := by decide +kernel
theorem dX3_sortedKey_11 : decode cX3_sortedKey 11 = .ok (.lreturn, 1) := by decide +kernel
