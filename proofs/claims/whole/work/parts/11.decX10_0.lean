theorem dX10_init_0 : decode cX10_init 0 = .ok (.aload_n 0, 1) := by decide +kernel
theorem dX10_init_1 : decode cX10_init 1 = .ok (.invokespecial 3, 3) := by decide +kernel
theorem dX10_init_4 : decode cX10_init 4 = .ok (.aload_n 0, 1) := by decide +kernel
theorem dX10_init_5 : decode cX10_init 5 = .ok (.sipush 4096, 3) := by decide +kernel
theorem dX10_init_8 : decode cX10_init 8 = .ok (.newarray .int, 2) := by decide +kernel
theorem dX10_init_10 : decode cX10_init 10 = .ok (.putfield 9, 3) := by decide +kernel
theorem dX10_init_13 : decode cX10_init 13 = .ok (.return_, 1) := by decide +kernel
theorem dX10_fill_0 : decode cX10_fill 0 = .ok (.aload_n 0, 1) := by decide +kernel
theorem dX10_fill_1 : decode cX10_fill 1 = .ok (.aload_n 1, 1) := by decide +kernel
theorem dX10_fill_2 : decode cX10_fill 2 = .ok (.invokevirtual 15, 3) := by decide +kernel
theorem dX10_fill_5 : decode cX10_fill 5 = .ok (.putfield 21, 3) := by decide +kernel
theorem dX10_fill_8 : decode cX10_fill 8 = .ok (.aload_n 0, 1) := by decide +kernel
theorem dX10_fill_9 : decode cX10_fill 9 = .ok (.getfield 9, 3) := by decide +kernel
theorem dX10_fill_12 : decode cX10_fill 12 = .ok (.iconst 0, 1) := by decide +kernel
theorem dX10_fill_13 : decode cX10_fill 13 = .ok (.iconst 1, 1) := by decide +kernel
theorem dX10_fill_14 : decode cX10_fill 14 = .ok (.iastore, 1) := by decide +kernel
theorem dX10_fill_15 : decode cX10_fill 15 = .ok (.iconst 1, 1) := by decide +kernel
theorem dX10_fill_16 : decode cX10_fill 16 = .ok (.istore_n 2, 1) := by decide +kernel
theorem dX10_fill_17 : decode cX10_fill 17 = .ok (.iload_n 2, 1) := by decide +kernel
theorem dX10_fill_18 : decode cX10_fill 18 = .ok (.aload_n 0, 1) := by decide +kernel
theorem dX10_fill_19 : decode cX10_fill 19 = .ok (.getfield 21, 3) := by decide +kernel
theorem dX10_fill_22 : decode cX10_fill 22 = .ok (.if_icmp .gt 94, 3) := by decide +kernel
theorem dX10_fill_25 : decode cX10_fill 25 = .ok (.iload_n 2, 1) := by decide +kernel
theorem dX10_fill_26 : decode cX10_fill 26 = .ok (.invokestatic 25, 3) := by decide +kernel
theorem dX10_fill_29 : decode cX10_fill 29 = .ok (.istore_n 3, 1) := by decide +kernel
theorem dX10_fill_30 : decode cX10_fill 30 = .ok (.iload_n 2, 1) := by decide +kernel
theorem dX10_fill_31 : decode cX10_fill 31 = .ok (.iload_n 2, 1) := by decide +kernel
theorem dX10_fill_32 : decode cX10_fill 32 = .ok (.iconst 1, 1) := by decide +kernel
theorem dX10_fill_33 : decode cX10_fill 33 = .ok (.isub, 1) := by decide +kernel
theorem dX10_fill_34 : decode cX10_fill 34 = .ok (.iand, 1) := by decide +kernel
theorem dX10_fill_35 : decode cX10_fill 35 = .ok (.istore 4, 2) := by decide +kernel
theorem dX10_fill_37 : decode cX10_fill 37 = .ok (.aload_n 1, 1) := by decide +kernel
theorem dX10_fill_38 : decode cX10_fill 38 = .ok (.getfield 29, 3) := by decide +kernel
theorem dX10_fill_41 : decode cX10_fill 41 = .ok (.iload_n 3, 1) := by decide +kernel
theorem dX10_fill_42 : decode cX10_fill 42 = .ok (.iaload, 1) := by decide +kernel
theorem dX10_fill_43 : decode cX10_fill 43 = .ok (.iload 4, 2) := by decide +kernel
theorem dX10_fill_45 : decode cX10_fill 45 = .ok (.iand, 1) := by decide +kernel
theorem dX10_fill_46 : decode cX10_fill 46 = .ok (.istore 5, 2) := by decide +kernel
theorem dX10_fill_48 : decode cX10_fill 48 = .ok (.iconst 0, 1) := by decide +kernel
theorem dX10_fill_49 : decode cX10_fill 49 = .ok (.istore 6, 2) := by decide +kernel
theorem dX10_fill_51 : decode cX10_fill 51 = .ok (.iconst 0, 1) := by decide +kernel
theorem dX10_fill_52 : decode cX10_fill 52 = .ok (.istore 7, 2) := by decide +kernel
theorem dX10_fill_54 : decode cX10_fill 54 = .ok (.iload 7, 2) := by decide +kernel
theorem dX10_fill_56 : decode cX10_fill 56 = .ok (.bipush 12, 2) := by decide +kernel
theorem dX10_fill_58 : decode cX10_fill 58 = .ok (.if_icmp .ge 44, 3) := by decide +kernel
theorem dX10_fill_61 : decode cX10_fill 61 = .ok (.iload 5, 2) := by decide +kernel
theorem dX10_fill_63 : decode cX10_fill 63 = .ok (.ifCond .eq 39, 3) := by decide +kernel
theorem dX10_fill_66 : decode cX10_fill 66 = .ok (.iload 6, 2) := by decide +kernel
theorem dX10_fill_68 : decode cX10_fill 68 = .ok (.aload_n 0, 1) := by decide +kernel
theorem dX10_fill_69 : decode cX10_fill 69 = .ok (.getfield 9, 3) := by decide +kernel
theorem dX10_fill_72 : decode cX10_fill 72 = .ok (.iload 4, 2) := by decide +kernel
theorem dX10_fill_74 : decode cX10_fill 74 = .ok (.iload 5, 2) := by decide +kernel
theorem dX10_fill_76 : decode cX10_fill 76 = .ok (.iload 5, 2) := by decide +kernel
theorem dX10_fill_78 : decode cX10_fill 78 = .ok (.ineg, 1) := by decide +kernel
theorem dX10_fill_79 : decode cX10_fill 79 = .ok (.iand, 1) := by decide +kernel
theorem dX10_fill_80 : decode cX10_fill 80 = .ok (.iconst (-1), 1) := by decide +kernel
theorem dX10_fill_81 : decode cX10_fill 81 = .ok (.ixor, 1) := by decide +kernel
theorem dX10_fill_82 : decode cX10_fill 82 = .ok (.iand, 1) := by decide +kernel
theorem dX10_fill_83 : decode cX10_fill 83 = .ok (.iaload, 1) := by decide +kernel
theorem dX10_fill_84 : decode cX10_fill 84 = .ok (.iadd, 1) := by decide +kernel
theorem dX10_fill_85 : decode cX10_fill 85 = .ok (.istore 6, 2) := by decide +kernel
theorem dX10_fill_87 : decode cX10_fill 87 = .ok (.iload 5, 2) := by decide +kernel
theorem dX10_fill_89 : decode cX10_fill 89 = .ok (.iload 5, 2) := by decide +kernel
theorem dX10_fill_91 : decode cX10_fill 91 = .ok (.iconst 1, 1) := by decide +kernel
theorem dX10_fill_92 : decode cX10_fill 92 = .ok (.isub, 1) := by decide +kernel
theorem dX10_fill_93 : decode cX10_fill 93 = .ok (.iand, 1) := by decide +kernel
theorem dX10_fill_94 : decode cX10_fill 94 = .ok (.istore 5, 2) := by decide +kernel
theorem dX10_fill_96 : decode cX10_fill 96 = .ok (.iinc 7 1, 3) := by decide +kernel
theorem dX10_fill_99 : decode cX10_fill 99 = .ok (.goto (-45), 3) := by decide +kernel
theorem dX10_fill_102 : decode cX10_fill 102 = .ok (.aload_n 0, 1) := by decide +kernel
theorem dX10_fill_103 : decode cX10_fill 103 = .ok (.getfield 9, 3) := by decide +kernel
theorem dX10_fill_106 : decode cX10_fill 106 = .ok (.iload_n 2, 1) := by decide +kernel
theorem dX10_fill_107 : decode cX10_fill 107 = .ok (.iload 6, 2) := by decide +kernel
theorem dX10_fill_109 : decode cX10_fill 109 = .ok (.iastore, 1) := by decide +kernel
theorem dX10_fill_110 : decode cX10_fill 110 = .ok (.iinc 2 1, 3) := by decide +kernel
theorem dX10_fill_113 : decode cX10_fill 113 = .ok (.goto (-96), 3) := by decide +kernel
theorem dX10_fill_116 : decode cX10_fill 116 = .ok (.aload_n 0, 1) := by decide +kernel
theorem dX10_fill_117 : decode cX10_fill 117 = .ok (.iconst 1, 1) := by decide +kernel
theorem dX10_fill_118 : decode cX10_fill 118 = .ok (.putfield 32, 3) := by decide +kernel
theorem dX10_fill_121 : decode cX10_fill 121 = .ok (.return_, 1) := by decide +kernel
theorem dX10_of_0 : decode cX10_of 0 = .ok (.iload_n 1, 1) := by decide +kernel
theorem dX10_of_1 : decode cX10_of 1 = .ok (.ifCond .lt 20, 3) := by decide +kernel
theorem dX10_of_4 : decode cX10_of 4 = .ok (.iload_n 1, 1) := by decide +kernel
theorem dX10_of_5 : decode cX10_of 5 = .ok (.aload_n 0, 1) := by decide +kernel
theorem dX10_of_6 : decode cX10_of 6 = .ok (.getfield 21, 3) := by decide +kernel
theorem dX10_of_9 : decode cX10_of 9 = .ok (.if_icmp .gt 12, 3) := by decide +kernel
theorem dX10_of_12 : decode cX10_of 12 = .ok (.aload_n 0, 1) := by decide +kernel
theorem dX10_of_13 : decode cX10_of 13 = .ok (.getfield 9, 3) := by decide +kernel
theorem dX10_of_16 : decode cX10_of 16 = .ok (.iload_n 1, 1) := by decide +kernel
theorem dX10_of_17 : decode cX10_of 17 = .ok (.iaload, 1) := by decide +kernel
theorem dX10_of_18 : decode cX10_of 18 = .ok (.goto 4, 3) := by decide +kernel
theorem dX10_of_21 : decode cX10_of 21 = .ok (.iconst 0, 1) := by decide +kernel
theorem dX10_of_22 : decode cX10_of 22 = .ok (.ireturn, 1) := by decide +kernel
theorem dX10_withLines_0 : decode cX10_withLines 0 = .ok (.iconst 0, 1) := by decide +kernel
theorem dX10_withLines_1 : decode cX10_withLines 1 = .ok (.istore_n 2, 1) := by decide +kernel
theorem dX10_withLines_2 : decode cX10_withLines 2 = .ok (.iconst 0, 1) := by decide +kernel
theorem dX10_withLines_3 : decode cX10_withLines 3 = .ok (.istore_n 3, 1) := by decide +kernel
theorem dX10_withLines_4 : decode cX10_withLines 4 = .ok (.iload_n 3, 1) := by decide +kernel
theorem dX10_withLines_5 : decode cX10_withLines 5 = .ok (.aload_n 0, 1) := by decide +kernel
theorem dX10_withLines_6 : decode cX10_withLines 6 = .ok (.getfield 21, 3) := by decide +kernel
theorem dX10_withLines_9 : decode cX10_withLines 9 = .ok (.if_icmp .gt 28, 3) := by decide +kernel
theorem dX10_withLines_12 : decode cX10_withLines 12 = .ok (.iload_n 3, 1) := by decide +kernel
theorem dX10_withLines_13 : decode cX10_withLines 13 = .ok (.invokestatic 36, 3) := by decide +kernel
theorem dX10_withLines_16 : decode cX10_withLines 16 = .ok (.iconst 2, 1) := by decide +kernel
theorem dX10_withLines_17 : decode cX10_withLines 17 = .ok (.iload_n 1, 1) := by decide +kernel
theorem dX10_withLines_18 : decode cX10_withLines 18 = .ok (.imul, 1) := by decide +kernel
theorem dX10_withLines_19 : decode cX10_withLines 19 = .ok (.if_icmp .ne 12, 3) := by decide +kernel
theorem dX10_withLines_22 : decode cX10_withLines 22 = .ok (.iload_n 2, 1) := by decide +kernel
theorem dX10_withLines_23 : decode cX10_withLines 23 = .ok (.aload_n 0, 1) := by decide +kernel
theorem dX10_withLines_24 : decode cX10_withLines 24 = .ok (.getfield 9, 3) := by decide +kernel
theorem dX10_withLines_27 : decode cX10_withLines 27 = .ok (.iload_n 3, 1) := by decide +kernel
theorem dX10_withLines_28 : decode cX10_withLines 28 = .ok (.iaload, 1) := by decide +kernel
theorem dX10_withLines_29 : decode cX10_withLines 29 = .ok (.iadd, 1) := by decide +kernel
theorem dX10_withLines_30 : decode cX10_withLines 30 = .ok (.istore_n 2, 1) := by decide +kernel
theorem dX10_withLines_31 : decode cX10_withLines 31 = .ok (.iinc 3 1, 3) := by decide +kernel
theorem dX10_withLines_34 : decode cX10_withLines 34 = .ok (.goto (-30), 3) := by decide +kernel
theorem dX10_withLines_37 : decode cX10_withLines 37 = .ok (.iload_n 2, 1) := by decide +kernel
theorem dX10_withLines_38 : decode cX10_withLines 38 = .ok (.ireturn, 1) := by decide +kernel
