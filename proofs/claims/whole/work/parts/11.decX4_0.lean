theorem dX4_init_0 : decode cX4_init 0 = .ok (.aload_n 0, 1) := by decide +kernel
theorem dX4_init_1 : decode cX4_init 1 = .ok (.invokespecial 3, 3) := by decide +kernel
theorem dX4_init_4 : decode cX4_init 4 = .ok (.aload_n 0, 1) := by decide +kernel
theorem dX4_init_5 : decode cX4_init 5 = .ok (.bipush 16, 2) := by decide +kernel
theorem dX4_init_7 : decode cX4_init 7 = .ok (.newarray .long, 2) := by decide +kernel
theorem dX4_init_9 : decode cX4_init 9 = .ok (.putfield 9, 3) := by decide +kernel
theorem dX4_init_12 : decode cX4_init 12 = .ok (.aload_n 0, 1) := by decide +kernel
theorem dX4_init_13 : decode cX4_init 13 = .ok (.bipush 16, 2) := by decide +kernel
theorem dX4_init_15 : decode cX4_init 15 = .ok (.newarray .int, 2) := by decide +kernel
theorem dX4_init_17 : decode cX4_init 17 = .ok (.putfield 15, 3) := by decide +kernel
theorem dX4_init_20 : decode cX4_init 20 = .ok (.return_, 1) := by decide +kernel
theorem dX4_fill_0 : decode cX4_fill 0 = .ok (.aload_n 2, 1) := by decide +kernel
theorem dX4_fill_1 : decode cX4_fill 1 = .ok (.iload_n 3, 1) := by decide +kernel
theorem dX4_fill_2 : decode cX4_fill 2 = .ok (.invokevirtual 19, 3) := by decide +kernel
theorem dX4_fill_5 : decode cX4_fill 5 = .ok (.invokestatic 25, 3) := by decide +kernel
theorem dX4_fill_8 : decode cX4_fill 8 = .ok (.istore 4, 2) := by decide +kernel
theorem dX4_fill_10 : decode cX4_fill 10 = .ok (.iload 4, 2) := by decide +kernel
theorem dX4_fill_12 : decode cX4_fill 12 = .ok (.aload_n 0, 1) := by decide +kernel
theorem dX4_fill_13 : decode cX4_fill 13 = .ok (.getfield 9, 3) := by decide +kernel
theorem dX4_fill_16 : decode cX4_fill 16 = .ok (.arraylength, 1) := by decide +kernel
theorem dX4_fill_17 : decode cX4_fill 17 = .ok (.if_icmp .le 19, 3) := by decide +kernel
theorem dX4_fill_20 : decode cX4_fill 20 = .ok (.aload_n 0, 1) := by decide +kernel
theorem dX4_fill_21 : decode cX4_fill 21 = .ok (.iload 4, 2) := by decide +kernel
theorem dX4_fill_23 : decode cX4_fill 23 = .ok (.newarray .long, 2) := by decide +kernel
theorem dX4_fill_25 : decode cX4_fill 25 = .ok (.putfield 9, 3) := by decide +kernel
theorem dX4_fill_28 : decode cX4_fill 28 = .ok (.aload_n 0, 1) := by decide +kernel
theorem dX4_fill_29 : decode cX4_fill 29 = .ok (.iload 4, 2) := by decide +kernel
theorem dX4_fill_31 : decode cX4_fill 31 = .ok (.newarray .int, 2) := by decide +kernel
theorem dX4_fill_33 : decode cX4_fill 33 = .ok (.putfield 15, 3) := by decide +kernel
theorem dX4_fill_36 : decode cX4_fill 36 = .ok (.aload_n 0, 1) := by decide +kernel
theorem dX4_fill_37 : decode cX4_fill 37 = .ok (.iconst 0, 1) := by decide +kernel
theorem dX4_fill_38 : decode cX4_fill 38 = .ok (.putfield 28, 3) := by decide +kernel
theorem dX4_fill_41 : decode cX4_fill 41 = .ok (.aload_n 0, 1) := by decide +kernel
theorem dX4_fill_42 : decode cX4_fill 42 = .ok (.iload_n 3, 1) := by decide +kernel
theorem dX4_fill_43 : decode cX4_fill 43 = .ok (.putfield 32, 3) := by decide +kernel
theorem dX4_fill_46 : decode cX4_fill 46 = .ok (.aload_n 0, 1) := by decide +kernel
theorem dX4_fill_47 : decode cX4_fill 47 = .ok (.aload_n 1, 1) := by decide +kernel
theorem dX4_fill_48 : decode cX4_fill 48 = .ok (.getfield 35, 3) := by decide +kernel
theorem dX4_fill_51 : decode cX4_fill 51 = .ok (.putfield 40, 3) := by decide +kernel
theorem dX4_fill_54 : decode cX4_fill 54 = .ok (.aload_n 0, 1) := by decide +kernel
theorem dX4_fill_55 : decode cX4_fill 55 = .ok (.aload_n 1, 1) := by decide +kernel
theorem dX4_fill_56 : decode cX4_fill 56 = .ok (.aload_n 2, 1) := by decide +kernel
theorem dX4_fill_57 : decode cX4_fill 57 = .ok (.iload_n 3, 1) := by decide +kernel
theorem dX4_fill_58 : decode cX4_fill 58 = .ok (.lconst 0, 1) := by decide +kernel
theorem dX4_fill_59 : decode cX4_fill 59 = .ok (.iconst 0, 1) := by decide +kernel
theorem dX4_fill_60 : decode cX4_fill 60 = .ok (.iconst 0, 1) := by decide +kernel
theorem dX4_fill_61 : decode cX4_fill 61 = .ok (.invokevirtual 41, 3) := by decide +kernel
theorem dX4_fill_64 : decode cX4_fill 64 = .ok (.aload_n 0, 1) := by decide +kernel
theorem dX4_fill_65 : decode cX4_fill 65 = .ok (.iconst 1, 1) := by decide +kernel
theorem dX4_fill_66 : decode cX4_fill 66 = .ok (.putfield 45, 3) := by decide +kernel
theorem dX4_fill_69 : decode cX4_fill 69 = .ok (.aload_n 0, 1) := by decide +kernel
theorem dX4_fill_70 : decode cX4_fill 70 = .ok (.iconst 0, 1) := by decide +kernel
theorem dX4_fill_71 : decode cX4_fill 71 = .ok (.putfield 49, 3) := by decide +kernel
theorem dX4_fill_74 : decode cX4_fill 74 = .ok (.return_, 1) := by decide +kernel
theorem dX4_extend_0 : decode cX4_extend 0 = .ok (.iload_n 3, 1) := by decide +kernel
theorem dX4_extend_1 : decode cX4_extend 1 = .ok (.ifCond .ne 12, 3) := by decide +kernel
theorem dX4_extend_4 : decode cX4_extend 4 = .ok (.aload_n 0, 1) := by decide +kernel
theorem dX4_extend_5 : decode cX4_extend 5 = .ok (.lload 4, 2) := by decide +kernel
theorem dX4_extend_7 : decode cX4_extend 7 = .ok (.iload 6, 2) := by decide +kernel
theorem dX4_extend_9 : decode cX4_extend 9 = .ok (.invokevirtual 52, 3) := by decide +kernel
theorem dX4_extend_12 : decode cX4_extend 12 = .ok (.return_, 1) := by decide +kernel
theorem dX4_extend_13 : decode cX4_extend 13 = .ok (.iload 7, 2) := by decide +kernel
theorem dX4_extend_15 : decode cX4_extend 15 = .ok (.bipush 6, 2) := by decide +kernel
theorem dX4_extend_17 : decode cX4_extend 17 = .ok (.if_icmp .lt 4, 3) := by decide +kernel
theorem dX4_extend_20 : decode cX4_extend 20 = .ok (.return_, 1) := by decide +kernel
theorem dX4_extend_21 : decode cX4_extend 21 = .ok (.iload_n 3, 1) := by decide +kernel
theorem dX4_extend_22 : decode cX4_extend 22 = .ok (.invokestatic 56, 3) := by decide +kernel
theorem dX4_extend_25 : decode cX4_extend 25 = .ok (.istore 8, 2) := by decide +kernel
theorem dX4_extend_27 : decode cX4_extend 27 = .ok (.aload_n 1, 1) := by decide +kernel
theorem dX4_extend_28 : decode cX4_extend 28 = .ok (.getfield 59, 3) := by decide +kernel
theorem dX4_extend_31 : decode cX4_extend 31 = .ok (.iload 8, 2) := by decide +kernel
theorem dX4_extend_33 : decode cX4_extend 33 = .ok (.iaload, 1) := by decide +kernel
theorem dX4_extend_34 : decode cX4_extend 34 = .ok (.iload_n 3, 1) := by decide +kernel
theorem dX4_extend_35 : decode cX4_extend 35 = .ok (.iand, 1) := by decide +kernel
theorem dX4_extend_36 : decode cX4_extend 36 = .ok (.iload_n 3, 1) := by decide +kernel
theorem dX4_extend_37 : decode cX4_extend 37 = .ok (.iconst 1, 1) := by decide +kernel
theorem dX4_extend_38 : decode cX4_extend 38 = .ok (.isub, 1) := by decide +kernel
theorem dX4_extend_39 : decode cX4_extend 39 = .ok (.iand, 1) := by decide +kernel
theorem dX4_extend_40 : decode cX4_extend 40 = .ok (.istore 9, 2) := by decide +kernel
theorem dX4_extend_42 : decode cX4_extend 42 = .ok (.iload 8, 2) := by decide +kernel
theorem dX4_extend_44 : decode cX4_extend 44 = .ok (.iconst 1, 1) := by decide +kernel
theorem dX4_extend_45 : decode cX4_extend 45 = .ok (.iadd, 1) := by decide +kernel
theorem dX4_extend_46 : decode cX4_extend 46 = .ok (.istore 10, 2) := by decide +kernel
theorem dX4_extend_48 : decode cX4_extend 48 = .ok (.iload 10, 2) := by decide +kernel
theorem dX4_extend_50 : decode cX4_extend 50 = .ok (.aload_n 0, 1) := by decide +kernel
theorem dX4_extend_51 : decode cX4_extend 51 = .ok (.getfield 40, 3) := by decide +kernel
theorem dX4_extend_54 : decode cX4_extend 54 = .ok (.if_icmp .ge 87, 3) := by decide +kernel
theorem dX4_extend_57 : decode cX4_extend 57 = .ok (.iload_n 3, 1) := by decide +kernel
theorem dX4_extend_58 : decode cX4_extend 58 = .ok (.iconst 1, 1) := by decide +kernel
theorem dX4_extend_59 : decode cX4_extend 59 = .ok (.iload 8, 2) := by decide +kernel
theorem dX4_extend_61 : decode cX4_extend 61 = .ok (.ishl, 1) := by decide +kernel
theorem dX4_extend_62 : decode cX4_extend 62 = .ok (.iconst 1, 1) := by decide +kernel
theorem dX4_extend_63 : decode cX4_extend 63 = .ok (.iload 10, 2) := by decide +kernel
theorem dX4_extend_65 : decode cX4_extend 65 = .ok (.ishl, 1) := by decide +kernel
theorem dX4_extend_66 : decode cX4_extend 66 = .ok (.ior, 1) := by decide +kernel
theorem dX4_extend_67 : decode cX4_extend 67 = .ok (.iconst (-1), 1) := by decide +kernel
theorem dX4_extend_68 : decode cX4_extend 68 = .ok (.ixor, 1) := by decide +kernel
theorem dX4_extend_69 : decode cX4_extend 69 = .ok (.iand, 1) := by decide +kernel
theorem dX4_extend_70 : decode cX4_extend 70 = .ok (.istore 11, 2) := by decide +kernel
theorem dX4_extend_72 : decode cX4_extend 72 = .ok (.iload 9, 2) := by decide +kernel
theorem dX4_extend_74 : decode cX4_extend 74 = .ok (.iload 10, 2) := by decide +kernel
theorem dX4_extend_76 : decode cX4_extend 76 = .ok (.ishr, 1) := by decide +kernel
theorem dX4_extend_77 : decode cX4_extend 77 = .ok (.iconst 1, 1) := by decide +kernel
theorem dX4_extend_78 : decode cX4_extend 78 = .ok (.iand, 1) := by decide +kernel
theorem dX4_extend_79 : decode cX4_extend 79 = .ok (.ifCond .eq 56, 3) := by decide +kernel
theorem dX4_extend_82 : decode cX4_extend 82 = .ok (.aload_n 2, 1) := by decide +kernel
theorem dX4_extend_83 : decode cX4_extend 83 = .ok (.iload 11, 2) := by decide +kernel
theorem dX4_extend_85 : decode cX4_extend 85 = .ok (.invokevirtual 19, 3) := by decide +kernel
theorem dX4_extend_88 : decode cX4_extend 88 = .ok (.ifCond .le 47, 3) := by decide +kernel
theorem dX4_extend_91 : decode cX4_extend 91 = .ok (.aload_n 1, 1) := by decide +kernel
theorem dX4_extend_92 : decode cX4_extend 92 = .ok (.aload_n 0, 1) := by decide +kernel
theorem dX4_extend_93 : decode cX4_extend 93 = .ok (.getfield 32, 3) := by decide +kernel
theorem dX4_extend_96 : decode cX4_extend 96 = .ok (.iload_n 3, 1) := by decide +kernel
theorem dX4_extend_97 : decode cX4_extend 97 = .ok (.iconst (-1), 1) := by decide +kernel
theorem dX4_extend_98 : decode cX4_extend 98 = .ok (.ixor, 1) := by decide +kernel
theorem dX4_extend_99 : decode cX4_extend 99 = .ok (.iand, 1) := by decide +kernel
theorem dX4_extend_100 : decode cX4_extend 100 = .ok (.iload 8, 2) := by decide +kernel
theorem dX4_extend_102 : decode cX4_extend 102 = .ok (.iload 10, 2) := by decide +kernel
theorem dX4_extend_104 : decode cX4_extend 104 = .ok (.iload 6, 2) := by decide +kernel
theorem dX4_extend_106 : decode cX4_extend 106 = .ok (.invokestatic 62, 3) := by decide +kernel
theorem dX4_extend_109 : decode cX4_extend 109 = .ok (.istore 12, 2) := by decide +kernel
theorem dX4_extend_111 : decode cX4_extend 111 = .ok (.aload_n 0, 1) := by decide +kernel
theorem dX4_extend_112 : decode cX4_extend 112 = .ok (.aload_n 1, 1) := by decide +kernel
theorem dX4_extend_113 : decode cX4_extend 113 = .ok (.aload_n 2, 1) := by decide +kernel
theorem dX4_extend_114 : decode cX4_extend 114 = .ok (.iload 11, 2) := by decide +kernel
theorem dX4_extend_116 : decode cX4_extend 116 = .ok (.lload 4, 2) := by decide +kernel
theorem dX4_extend_118 : decode cX4_extend 118 = .ok (.iload 8, 2) := by decide +kernel
theorem dX4_extend_120 : decode cX4_extend 120 = .ok (.iload 10, 2) := by decide +kernel
theorem dX4_extend_122 : decode cX4_extend 122 = .ok (.invokestatic 66, 3) := by decide +kernel
theorem dX4_extend_125 : decode cX4_extend 125 = .ok (.lor, 1) := by decide +kernel
theorem dX4_extend_126 : decode cX4_extend 126 = .ok (.iload 12, 2) := by decide +kernel
theorem dX4_extend_128 : decode cX4_extend 128 = .ok (.iload 7, 2) := by decide +kernel
theorem dX4_extend_130 : decode cX4_extend 130 = .ok (.iconst 1, 1) := by decide +kernel
theorem dX4_extend_131 : decode cX4_extend 131 = .ok (.iadd, 1) := by decide +kernel
theorem dX4_extend_132 : decode cX4_extend 132 = .ok (.invokevirtual 41, 3) := by decide +kernel
theorem dX4_extend_135 : decode cX4_extend 135 = .ok (.iinc 10 1, 3) := by decide +kernel
theorem dX4_extend_138 : decode cX4_extend 138 = .ok (.goto (-90), 3) := by decide +kernel
theorem dX4_extend_141 : decode cX4_extend 141 = .ok (.return_, 1) := by decide +kernel
theorem dX4_withLine_0 : decode cX4_withLine 0 = .ok (.iload_n 1, 1) := by decide +kernel
theorem dX4_withLine_1 : decode cX4_withLine 1 = .ok (.iconst 1, 1) := by decide +kernel
theorem dX4_withLine_2 : decode cX4_withLine 2 = .ok (.iload_n 3, 1) := by decide +kernel
theorem dX4_withLine_3 : decode cX4_withLine 3 = .ok (.ishl, 1) := by decide +kernel
theorem dX4_withLine_4 : decode cX4_withLine 4 = .ok (.iconst 1, 1) := by decide +kernel
theorem dX4_withLine_5 : decode cX4_withLine 5 = .ok (.isub, 1) := by decide +kernel
theorem dX4_withLine_6 : decode cX4_withLine 6 = .ok (.iand, 1) := by decide +kernel
theorem dX4_withLine_7 : decode cX4_withLine 7 = .ok (.iconst 2, 1) := by decide +kernel
theorem dX4_withLine_8 : decode cX4_withLine 8 = .ok (.iload_n 2, 1) := by decide +kernel
theorem dX4_withLine_9 : decode cX4_withLine 9 = .ok (.ishl, 1) := by decide +kernel
theorem dX4_withLine_10 : decode cX4_withLine 10 = .ok (.iconst 1, 1) := by decide +kernel
theorem dX4_withLine_11 : decode cX4_withLine 11 = .ok (.isub, 1) := by decide +kernel
theorem dX4_withLine_12 : decode cX4_withLine 12 = .ok (.iconst (-1), 1) := by decide +kernel
theorem dX4_withLine_13 : decode cX4_withLine 13 = .ok (.ixor, 1) := by decide +kernel
theorem dX4_withLine_14 : decode cX4_withLine 14 = .ok (.iand, 1) := by decide +kernel
theorem dX4_withLine_15 : decode cX4_withLine 15 = .ok (.istore 5, 2) := by decide +kernel
theorem dX4_withLine_17 : decode cX4_withLine 17 = .ok (.iload 4, 2) := by decide +kernel
theorem dX4_withLine_19 : decode cX4_withLine 19 = .ok (.iload 5, 2) := by decide +kernel
theorem dX4_withLine_21 : decode cX4_withLine 21 = .ok (.invokestatic 70, 3) := by decide +kernel
theorem dX4_withLine_24 : decode cX4_withLine 24 = .ok (.iadd, 1) := by decide +kernel
theorem dX4_withLine_25 : decode cX4_withLine 25 = .ok (.istore 6, 2) := by decide +kernel
theorem dX4_withLine_27 : decode cX4_withLine 27 = .ok (.aload_n 0, 1) := by decide +kernel
theorem dX4_withLine_28 : decode cX4_withLine 28 = .ok (.getfield 75, 3) := by decide +kernel
theorem dX4_withLine_31 : decode cX4_withLine 31 = .ok (.iload_n 2, 1) := by decide +kernel
theorem dX4_withLine_32 : decode cX4_withLine 32 = .ok (.ishr, 1) := by decide +kernel
theorem dX4_withLine_33 : decode cX4_withLine 33 = .ok (.iconst 1, 1) := by decide +kernel
theorem dX4_withLine_34 : decode cX4_withLine 34 = .ok (.iand, 1) := by decide +kernel
theorem dX4_withLine_35 : decode cX4_withLine 35 = .ok (.ifCond .ne 6, 3) := by decide +kernel
theorem dX4_withLine_38 : decode cX4_withLine 38 = .ok (.iload 6, 2) := by decide +kernel
theorem dX4_withLine_40 : decode cX4_withLine 40 = .ok (.ireturn, 1) := by decide +kernel
theorem dX4_withLine_41 : decode cX4_withLine 41 = .ok (.iload 5, 2) := by decide +kernel
theorem dX4_withLine_43 : decode cX4_withLine 43 = .ok (.aload_n 0, 1) := by decide +kernel
theorem dX4_withLine_44 : decode cX4_withLine 44 = .ok (.getfield 75, 3) := by decide +kernel
theorem dX4_withLine_47 : decode cX4_withLine 47 = .ok (.iand, 1) := by decide +kernel
theorem dX4_withLine_48 : decode cX4_withLine 48 = .ok (.invokestatic 70, 3) := by decide +kernel
theorem dX4_withLine_51 : decode cX4_withLine 51 = .ok (.aload_n 0, 1) := by decide +kernel
theorem dX4_withLine_52 : decode cX4_withLine 52 = .ok (.getfield 78, 3) := by decide +kernel
theorem dX4_withLine_55 : decode cX4_withLine 55 = .ok (.iload_n 2, 1) := by decide +kernel
theorem dX4_withLine_56 : decode cX4_withLine 56 = .ok (.iaload, 1) := by decide +kernel
theorem dX4_withLine_57 : decode cX4_withLine 57 = .ok (.iconst 2, 1) := by decide +kernel
theorem dX4_withLine_58 : decode cX4_withLine 58 = .ok (.irem, 1) := by decide +kernel
theorem dX4_withLine_59 : decode cX4_withLine 59 = .ok (.iadd, 1) := by decide +kernel
theorem dX4_withLine_60 : decode cX4_withLine 60 = .ok (.istore 7, 2) := by decide +kernel
theorem dX4_withLine_62 : decode cX4_withLine 62 = .ok (.iload 7, 2) := by decide +kernel
theorem dX4_withLine_64 : decode cX4_withLine 64 = .ok (.iconst 2, 1) := by decide +kernel
theorem dX4_withLine_65 : decode cX4_withLine 65 = .ok (.irem, 1) := by decide +kernel
theorem dX4_withLine_66 : decode cX4_withLine 66 = .ok (.ifCond .ne 8, 3) := by decide +kernel
theorem dX4_withLine_69 : decode cX4_withLine 69 = .ok (.iload 6, 2) := by decide +kernel
theorem dX4_withLine_71 : decode cX4_withLine 71 = .ok (.goto 8, 3) := by decide +kernel
theorem dX4_withLine_74 : decode cX4_withLine 74 = .ok (.iload 6, 2) := by decide +kernel
theorem dX4_withLine_76 : decode cX4_withLine 76 = .ok (.bipush 16, 2) := by decide +kernel
theorem dX4_withLine_78 : decode cX4_withLine 78 = .ok (.ixor, 1) := by decide +kernel
theorem dX4_withLine_79 : decode cX4_withLine 79 = .ok (.ireturn, 1) := by decide +kernel
theorem dX4_store_0 : decode cX4_store 0 = .ok (.aload_n 0, 1) := by decide +kernel
theorem dX4_store_1 : decode cX4_store 1 = .ok (.getfield 28, 3) := by decide +kernel
theorem dX4_store_4 : decode cX4_store 4 = .ok (.aload_n 0, 1) := by decide +kernel
theorem dX4_store_5 : decode cX4_store 5 = .ok (.getfield 9, 3) := by decide +kernel
theorem dX4_store_8 : decode cX4_store 8 = .ok (.arraylength, 1) := by decide +kernel
theorem dX4_store_9 : decode cX4_store 9 = .ok (.if_icmp .ge 33, 3) := by decide +kernel
theorem dX4_store_12 : decode cX4_store 12 = .ok (.aload_n 0, 1) := by decide +kernel
theorem dX4_store_13 : decode cX4_store 13 = .ok (.getfield 9, 3) := by decide +kernel
theorem dX4_store_16 : decode cX4_store 16 = .ok (.aload_n 0, 1) := by decide +kernel
theorem dX4_store_17 : decode cX4_store 17 = .ok (.getfield 28, 3) := by decide +kernel
theorem dX4_store_20 : decode cX4_store 20 = .ok (.lload_n 1, 1) := by decide +kernel
theorem dX4_store_21 : decode cX4_store 21 = .ok (.lastore, 1) := by decide +kernel
theorem dX4_store_22 : decode cX4_store 22 = .ok (.aload_n 0, 1) := by decide +kernel
theorem dX4_store_23 : decode cX4_store 23 = .ok (.getfield 15, 3) := by decide +kernel
theorem dX4_store_26 : decode cX4_store 26 = .ok (.aload_n 0, 1) := by decide +kernel
theorem dX4_store_27 : decode cX4_store 27 = .ok (.getfield 28, 3) := by decide +kernel
theorem dX4_store_30 : decode cX4_store 30 = .ok (.iload_n 3, 1) := by decide +kernel
theorem dX4_store_31 : decode cX4_store 31 = .ok (.iastore, 1) := by decide +kernel
theorem dX4_store_32 : decode cX4_store 32 = .ok (.aload_n 0, 1) := by decide +kernel
theorem dX4_store_33 : decode cX4_store 33 = .ok (.dup, 1) := by decide +kernel
theorem dX4_store_34 : decode cX4_store 34 = .ok (.getfield 28, 3) := by decide +kernel
theorem dX4_store_37 : decode cX4_store 37 = .ok (.iconst 1, 1) := by decide +kernel
theorem dX4_store_38 : decode cX4_store 38 = .ok (.iadd, 1) := by decide +kernel
theorem dX4_store_39 : decode cX4_store 39 = .ok (.putfield 28, 3) := by decide +kernel
theorem dX4_store_42 : decode cX4_store 42 = .ok (.return_, 1) := by decide +kernel
theorem dX4_traceRounds_0 : decode cX4_traceRounds 0 = .ok (.iconst 0, 1) := by decide +kernel
theorem dX4_traceRounds_1 : decode cX4_traceRounds 1 = .ok (.istore_n 1, 1) := by decide +kernel
theorem dX4_traceRounds_2 : decode cX4_traceRounds 2 = .ok (.iload_n 1, 1) := by decide +kernel
theorem dX4_traceRounds_3 : decode cX4_traceRounds 3 = .ok (.aload_n 0, 1) := by decide +kernel
theorem dX4_traceRounds_4 : decode cX4_traceRounds 4 = .ok (.getfield 28, 3) := by decide +kernel
theorem dX4_traceRounds_7 : decode cX4_traceRounds 7 = .ok (.if_icmp .ge 32, 3) := by decide +kernel
theorem dX4_traceRounds_10 : decode cX4_traceRounds 10 = .ok (.aload_n 0, 1) := by decide +kernel
theorem dX4_traceRounds_11 : decode cX4_traceRounds 11 = .ok (.getfield 15, 3) := by decide +kernel
theorem dX4_traceRounds_14 : decode cX4_traceRounds 14 = .ok (.iload_n 1, 1) := by decide +kernel
theorem dX4_traceRounds_15 : decode cX4_traceRounds 15 = .ok (.aload_n 0, 1) := by decide +kernel
theorem dX4_traceRounds_16 : decode cX4_traceRounds 16 = .ok (.getfield 15, 3) := by decide +kernel
theorem dX4_traceRounds_19 : decode cX4_traceRounds 19 = .ok (.iload_n 1, 1) := by decide +kernel
theorem dX4_traceRounds_20 : decode cX4_traceRounds 20 = .ok (.iaload, 1) := by decide +kernel
theorem dX4_traceRounds_21 : decode cX4_traceRounds 21 = .ok (.bipush 31, 2) := by decide +kernel
theorem dX4_traceRounds_23 : decode cX4_traceRounds 23 = .ok (.iand, 1) := by decide +kernel
theorem dX4_traceRounds_24 : decode cX4_traceRounds 24 = .ok (.aload_n 0, 1) := by decide +kernel
theorem dX4_traceRounds_25 : decode cX4_traceRounds 25 = .ok (.iload_n 1, 1) := by decide +kernel
theorem dX4_traceRounds_26 : decode cX4_traceRounds 26 = .ok (.invokevirtual 81, 3) := by decide +kernel
theorem dX4_traceRounds_29 : decode cX4_traceRounds 29 = .ok (.iconst 5, 1) := by decide +kernel
theorem dX4_traceRounds_30 : decode cX4_traceRounds 30 = .ok (.ishl, 1) := by decide +kernel
theorem dX4_traceRounds_31 : decode cX4_traceRounds 31 = .ok (.ior, 1) := by decide +kernel
theorem dX4_traceRounds_32 : decode cX4_traceRounds 32 = .ok (.iastore, 1) := by decide +kernel
theorem dX4_traceRounds_33 : decode cX4_traceRounds 33 = .ok (.iinc 1 1, 3) := by decide +kernel
theorem dX4_traceRounds_36 : decode cX4_traceRounds 36 = .ok (.goto (-34), 3) := by decide +kernel
theorem dX4_traceRounds_39 : decode cX4_traceRounds 39 = .ok (.aload_n 0, 1) := by decide +kernel
theorem dX4_traceRounds_40 : decode cX4_traceRounds 40 = .ok (.iconst 1, 1) := by decide +kernel
theorem dX4_traceRounds_41 : decode cX4_traceRounds 41 = .ok (.putfield 49, 3) := by decide +kernel
theorem dX4_traceRounds_44 : decode cX4_traceRounds 44 = .ok (.return_, 1) := by decide +kernel
theorem dX4_countRounds_0 : decode cX4_countRounds 0 = .ok (.iconst 1, 1) := by decide +kernel
theorem dX4_countRounds_1 : decode cX4_countRounds 1 = .ok (.aload_n 0, 1) := by decide +kernel
theorem dX4_countRounds_2 : decode cX4_countRounds 2 = .ok (.getfield 40, 3) := by decide +kernel
theorem dX4_countRounds_5 : decode cX4_countRounds 5 = .ok (.ishl, 1) := by decide +kernel
theorem dX4_countRounds_6 : decode cX4_countRounds 6 = .ok (.iconst 1, 1) := by decide +kernel
theorem dX4_countRounds_7 : decode cX4_countRounds 7 = .ok (.isub, 1) := by decide +kernel
theorem dX4_countRounds_8 : decode cX4_countRounds 8 = .ok (.istore_n 2, 1) := by decide +kernel
theorem dX4_countRounds_9 : decode cX4_countRounds 9 = .ok (.iconst 0, 1) := by decide +kernel
theorem dX4_countRounds_10 : decode cX4_countRounds 10 = .ok (.istore_n 3, 1) := by decide +kernel
theorem dX4_countRounds_11 : decode cX4_countRounds 11 = .ok (.iconst 0, 1) := by decide +kernel
theorem dX4_countRounds_12 : decode cX4_countRounds 12 = .ok (.istore 4, 2) := by decide +kernel
theorem dX4_countRounds_14 : decode cX4_countRounds 14 = .ok (.iload 4, 2) := by decide +kernel
theorem dX4_countRounds_16 : decode cX4_countRounds 16 = .ok (.bipush 12, 2) := by decide +kernel
theorem dX4_countRounds_18 : decode cX4_countRounds 18 = .ok (.if_icmp .ge 84, 3) := by decide +kernel
theorem dX4_countRounds_21 : decode cX4_countRounds 21 = .ok (.iload_n 2, 1) := by decide +kernel
theorem dX4_countRounds_22 : decode cX4_countRounds 22 = .ok (.ifCond .eq 80, 3) := by decide +kernel
theorem dX4_countRounds_25 : decode cX4_countRounds 25 = .ok (.iload_n 2, 1) := by decide +kernel
theorem dX4_countRounds_26 : decode cX4_countRounds 26 = .ok (.invokestatic 56, 3) := by decide +kernel
theorem dX4_countRounds_29 : decode cX4_countRounds 29 = .ok (.istore 5, 2) := by decide +kernel
theorem dX4_countRounds_31 : decode cX4_countRounds 31 = .ok (.iconst 0, 1) := by decide +kernel
theorem dX4_countRounds_32 : decode cX4_countRounds 32 = .ok (.istore 6, 2) := by decide +kernel
theorem dX4_countRounds_34 : decode cX4_countRounds 34 = .ok (.iload 6, 2) := by decide +kernel
theorem dX4_countRounds_36 : decode cX4_countRounds 36 = .ok (.bipush 12, 2) := by decide +kernel
theorem dX4_countRounds_38 : decode cX4_countRounds 38 = .ok (.if_icmp .ge 55, 3) := by decide +kernel
theorem dX4_countRounds_41 : decode cX4_countRounds 41 = .ok (.iload_n 2, 1) := by decide +kernel
theorem dX4_countRounds_42 : decode cX4_countRounds 42 = .ok (.iload 5, 2) := by decide +kernel
theorem dX4_countRounds_44 : decode cX4_countRounds 44 = .ok (.ishr, 1) := by decide +kernel
theorem dX4_countRounds_45 : decode cX4_countRounds 45 = .ok (.iconst 1, 1) := by decide +kernel
theorem dX4_countRounds_46 : decode cX4_countRounds 46 = .ok (.iand, 1) := by decide +kernel
theorem dX4_countRounds_47 : decode cX4_countRounds 47 = .ok (.ifCond .eq 46, 3) := by decide +kernel
theorem dX4_countRounds_50 : decode cX4_countRounds 50 = .ok (.iload_n 2, 1) := by decide +kernel
theorem dX4_countRounds_51 : decode cX4_countRounds 51 = .ok (.iconst 1, 1) := by decide +kernel
theorem dX4_countRounds_52 : decode cX4_countRounds 52 = .ok (.iload 5, 2) := by decide +kernel
theorem dX4_countRounds_54 : decode cX4_countRounds 54 = .ok (.ishl, 1) := by decide +kernel
theorem dX4_countRounds_55 : decode cX4_countRounds 55 = .ok (.iconst (-1), 1) := by decide +kernel
theorem dX4_countRounds_56 : decode cX4_countRounds 56 = .ok (.ixor, 1) := by decide +kernel
theorem dX4_countRounds_57 : decode cX4_countRounds 57 = .ok (.iand, 1) := by decide +kernel
theorem dX4_countRounds_58 : decode cX4_countRounds 58 = .ok (.istore_n 2, 1) := by decide +kernel
theorem dX4_countRounds_59 : decode cX4_countRounds 59 = .ok (.aload_n 0, 1) := by decide +kernel
theorem dX4_countRounds_60 : decode cX4_countRounds 60 = .ok (.iload_n 1, 1) := by decide +kernel
theorem dX4_countRounds_61 : decode cX4_countRounds 61 = .ok (.iload 5, 2) := by decide +kernel
theorem dX4_countRounds_63 : decode cX4_countRounds 63 = .ok (.invokevirtual 84, 3) := by decide +kernel
theorem dX4_countRounds_66 : decode cX4_countRounds 66 = .ok (.iconst 1, 1) := by decide +kernel
theorem dX4_countRounds_67 : decode cX4_countRounds 67 = .ok (.iadd, 1) := by decide +kernel
theorem dX4_countRounds_68 : decode cX4_countRounds 68 = .ok (.istore 7, 2) := by decide +kernel
theorem dX4_countRounds_70 : decode cX4_countRounds 70 = .ok (.iload 7, 2) := by decide +kernel
theorem dX4_countRounds_72 : decode cX4_countRounds 72 = .ok (.aload_n 0, 1) := by decide +kernel
theorem dX4_countRounds_73 : decode cX4_countRounds 73 = .ok (.getfield 40, 3) := by decide +kernel
theorem dX4_countRounds_76 : decode cX4_countRounds 76 = .ok (.if_icmp .ge 8, 3) := by decide +kernel
theorem dX4_countRounds_79 : decode cX4_countRounds 79 = .ok (.iload 7, 2) := by decide +kernel
theorem dX4_countRounds_81 : decode cX4_countRounds 81 = .ok (.goto 4, 3) := by decide +kernel
theorem dX4_countRounds_84 : decode cX4_countRounds 84 = .ok (.iconst 0, 1) := by decide +kernel
theorem dX4_countRounds_85 : decode cX4_countRounds 85 = .ok (.istore 5, 2) := by decide +kernel
theorem dX4_countRounds_87 : decode cX4_countRounds 87 = .ok (.iinc 6 1, 3) := by decide +kernel
theorem dX4_countRounds_90 : decode cX4_countRounds 90 = .ok (.goto (-56), 3) := by decide +kernel
theorem dX4_countRounds_93 : decode cX4_countRounds 93 = .ok (.iinc 3 1, 3) := by decide +kernel
theorem dX4_countRounds_96 : decode cX4_countRounds 96 = .ok (.iinc 4 1, 3) := by decide +kernel
theorem dX4_countRounds_99 : decode cX4_countRounds 99 = .ok (.goto (-85), 3) := by decide +kernel
theorem dX4_countRounds_102 : decode cX4_countRounds 102 = .ok (.iload_n 3, 1) := by decide +kernel
theorem dX4_countRounds_103 : decode cX4_countRounds 103 = .ok (.ireturn, 1) := by decide +kernel
theorem dX4_packed_0 : decode cX4_packed 0 = .ok (.iload_n 1, 1) := by decide +kernel
theorem dX4_packed_1 : decode cX4_packed 1 = .ok (.i2l, 1) := by decide +kernel
theorem dX4_packed_2 : decode cX4_packed 2 = .ok (.bipush 44, 2) := by decide +kernel
theorem dX4_packed_4 : decode cX4_packed 4 = .ok (.iconst 4, 1) := by decide +kernel
theorem dX4_packed_5 : decode cX4_packed 5 = .ok (.iload_n 0, 1) := by decide +kernel
theorem dX4_packed_6 : decode cX4_packed 6 = .ok (.imul, 1) := by decide +kernel
theorem dX4_packed_7 : decode cX4_packed 7 = .ok (.isub, 1) := by decide +kernel
theorem dX4_packed_8 : decode cX4_packed 8 = .ok (.lshl, 1) := by decide +kernel
theorem dX4_packed_9 : decode cX4_packed 9 = .ok (.iload_n 0, 1) := by decide +kernel
theorem dX4_packed_10 : decode cX4_packed 10 = .ok (.i2l, 1) := by decide +kernel
theorem dX4_packed_11 : decode cX4_packed 11 = .ok (.bipush 44, 2) := by decide +kernel
theorem dX4_packed_13 : decode cX4_packed 13 = .ok (.iconst 4, 1) := by decide +kernel
theorem dX4_packed_14 : decode cX4_packed 14 = .ok (.iload_n 1, 1) := by decide +kernel
theorem dX4_packed_15 : decode cX4_packed 15 = .ok (.imul, 1) := by decide +kernel
theorem dX4_packed_16 : decode cX4_packed 16 = .ok (.isub, 1) := by decide +kernel
theorem dX4_packed_17 : decode cX4_packed 17 = .ok (.lshl, 1) := by decide +kernel
theorem dX4_packed_18 : decode cX4_packed 18 = .ok (.lor, 1) := by decide +kernel
theorem dX4_packed_19 : decode cX4_packed 19 = .ok (.lreturn, 1) := by decide +kernel
theorem dX4_mateOf_0 : decode cX4_mateOf 0 = .ok (.aload_n 0, 1) := by decide +kernel
theorem dX4_mateOf_1 : decode cX4_mateOf 1 = .ok (.getfield 9, 3) := by decide +kernel
theorem dX4_mateOf_4 : decode cX4_mateOf 4 = .ok (.iload_n 1, 1) := by decide +kernel
theorem dX4_mateOf_5 : decode cX4_mateOf 5 = .ok (.laload, 1) := by decide +kernel
theorem dX4_mateOf_6 : decode cX4_mateOf 6 = .ok (.bipush 44, 2) := by decide +kernel
theorem dX4_mateOf_8 : decode cX4_mateOf 8 = .ok (.iconst 4, 1) := by decide +kernel
theorem dX4_mateOf_9 : decode cX4_mateOf 9 = .ok (.iload_n 2, 1) := by decide +kernel
theorem dX4_mateOf_10 : decode cX4_mateOf 10 = .ok (.imul, 1) := by decide +kernel
theorem dX4_mateOf_11 : decode cX4_mateOf 11 = .ok (.isub, 1) := by decide +kernel
theorem dX4_mateOf_12 : decode cX4_mateOf 12 = .ok (.lushr, 1) := by decide +kernel
theorem dX4_mateOf_13 : decode cX4_mateOf 13 = .ok (.l2i, 1) := by decide +kernel
theorem dX4_mateOf_14 : decode cX4_mateOf 14 = .ok (.bipush 15, 2) := by decide +kernel
theorem dX4_mateOf_16 : decode cX4_mateOf 16 = .ok (.iand, 1) := by decide +kernel
theorem dX4_mateOf_17 : decode cX4_mateOf 17 = .ok (.ireturn, 1) := by decide +kernel
theorem dX4_crossings_0 : decode cX4_crossings 0 = .ok (.aload_n 0, 1) := by decide +kernel
theorem dX4_crossings_1 : decode cX4_crossings 1 = .ok (.getfield 15, 3) := by decide +kernel
theorem dX4_crossings_4 : decode cX4_crossings 4 = .ok (.iload_n 1, 1) := by decide +kernel
theorem dX4_crossings_5 : decode cX4_crossings 5 = .ok (.iaload, 1) := by decide +kernel
theorem dX4_crossings_6 : decode cX4_crossings 6 = .ok (.bipush 15, 2) := by decide +kernel
theorem dX4_crossings_8 : decode cX4_crossings 8 = .ok (.iand, 1) := by decide +kernel
theorem dX4_crossings_9 : decode cX4_crossings 9 = .ok (.ireturn, 1) := by decide +kernel
theorem dX4_sign_0 : decode cX4_sign 0 = .ok (.aload_n 0, 1) := by decide +kernel
theorem dX4_sign_1 : decode cX4_sign 1 = .ok (.getfield 15, 3) := by decide +kernel
theorem dX4_sign_4 : decode cX4_sign 4 = .ok (.iload_n 1, 1) := by decide +kernel
theorem dX4_sign_5 : decode cX4_sign 5 = .ok (.iaload, 1) := by decide +kernel
theorem dX4_sign_6 : decode cX4_sign 6 = .ok (.bipush 16, 2) := by decide +kernel
theorem dX4_sign_8 : decode cX4_sign 8 = .ok (.iand, 1) := by decide +kernel
theorem dX4_sign_9 : decode cX4_sign 9 = .ok (.ifCond .ne 7, 3) := by decide +kernel
theorem dX4_sign_12 : decode cX4_sign 12 = .ok (.iconst 1, 1) := by decide +kernel
theorem dX4_sign_13 : decode cX4_sign 13 = .ok (.goto 4, 3) := by decide +kernel
theorem dX4_sign_16 : decode cX4_sign 16 = .ok (.iconst (-1), 1) := by decide +kernel
theorem dX4_sign_17 : decode cX4_sign 17 = .ok (.ireturn, 1) := by decide +kernel
theorem dX4_rounds_0 : decode cX4_rounds 0 = .ok (.aload_n 0, 1) := by decide +kernel
theorem dX4_rounds_1 : decode cX4_rounds 1 = .ok (.getfield 15, 3) := by decide +kernel
theorem dX4_rounds_4 : decode cX4_rounds 4 = .ok (.iload_n 1, 1) := by decide +kernel
theorem dX4_rounds_5 : decode cX4_rounds 5 = .ok (.iaload, 1) := by decide +kernel
theorem dX4_rounds_6 : decode cX4_rounds 6 = .ok (.iconst 5, 1) := by decide +kernel
theorem dX4_rounds_7 : decode cX4_rounds 7 = .ok (.ishr, 1) := by decide +kernel
theorem dX4_rounds_8 : decode cX4_rounds 8 = .ok (.ireturn, 1) := by decide +kernel
theorem dX4_holesOf_0 : decode cX4_holesOf 0 = .ok (.aload_n 0, 1) := by decide +kernel
theorem dX4_holesOf_1 : decode cX4_holesOf 1 = .ok (.getfield 40, 3) := by decide +kernel
theorem dX4_holesOf_4 : decode cX4_holesOf 4 = .ok (.ifCond .ne 7, 3) := by decide +kernel
theorem dX4_holesOf_7 : decode cX4_holesOf 7 = .ok (.iconst 0, 1) := by decide +kernel
theorem dX4_holesOf_8 : decode cX4_holesOf 8 = .ok (.goto 19, 3) := by decide +kernel
theorem dX4_holesOf_11 : decode cX4_holesOf 11 = .ok (.aload_n 0, 1) := by decide +kernel
theorem dX4_holesOf_12 : decode cX4_holesOf 12 = .ok (.getfield 40, 3) := by decide +kernel
theorem dX4_holesOf_15 : decode cX4_holesOf 15 = .ok (.iconst 2, 1) := by decide +kernel
theorem dX4_holesOf_16 : decode cX4_holesOf 16 = .ok (.idiv, 1) := by decide +kernel
theorem dX4_holesOf_17 : decode cX4_holesOf 17 = .ok (.iconst 1, 1) := by decide +kernel
theorem dX4_holesOf_18 : decode cX4_holesOf 18 = .ok (.iadd, 1) := by decide +kernel
theorem dX4_holesOf_19 : decode cX4_holesOf 19 = .ok (.aload_n 0, 1) := by decide +kernel
theorem dX4_holesOf_20 : decode cX4_holesOf 20 = .ok (.iload_n 1, 1) := by decide +kernel
theorem dX4_holesOf_21 : decode cX4_holesOf 21 = .ok (.invokevirtual 88, 3) := by decide +kernel
theorem dX4_holesOf_24 : decode cX4_holesOf 24 = .ok (.isub, 1) := by decide +kernel
theorem dX4_holesOf_25 : decode cX4_holesOf 25 = .ok (.iconst 2, 1) := by decide +kernel
theorem dX4_holesOf_26 : decode cX4_holesOf 26 = .ok (.idiv, 1) := by decide +kernel
theorem dX4_holesOf_27 : decode cX4_holesOf 27 = .ok (.ireturn, 1) := by decide +kernel
theorem dX4_find_0 : decode cX4_find 0 = .ok (.iconst 0, 1) := by decide +kernel
theorem dX4_find_1 : decode cX4_find 1 = .ok (.istore_n 3, 1) := by decide +kernel
theorem dX4_find_2 : decode cX4_find 2 = .ok (.aload_n 0, 1) := by decide +kernel
theorem dX4_find_3 : decode cX4_find 3 = .ok (.getfield 28, 3) := by decide +kernel
theorem dX4_find_6 : decode cX4_find 6 = .ok (.iconst 1, 1) := by decide +kernel
theorem dX4_find_7 : decode cX4_find 7 = .ok (.isub, 1) := by decide +kernel
theorem dX4_find_8 : decode cX4_find 8 = .ok (.istore 4, 2) := by decide +kernel
theorem dX4_find_10 : decode cX4_find 10 = .ok (.iconst 0, 1) := by decide +kernel
theorem dX4_find_11 : decode cX4_find 11 = .ok (.istore 5, 2) := by decide +kernel
theorem dX4_find_13 : decode cX4_find 13 = .ok (.iload 5, 2) := by decide +kernel
theorem dX4_find_15 : decode cX4_find 15 = .ok (.bipush 32, 2) := by decide +kernel
theorem dX4_find_17 : decode cX4_find 17 = .ok (.if_icmp .ge 64, 3) := by decide +kernel
theorem dX4_find_20 : decode cX4_find 20 = .ok (.iload_n 3, 1) := by decide +kernel
theorem dX4_find_21 : decode cX4_find 21 = .ok (.iload 4, 2) := by decide +kernel
theorem dX4_find_23 : decode cX4_find 23 = .ok (.if_icmp .gt 58, 3) := by decide +kernel
theorem dX4_find_26 : decode cX4_find 26 = .ok (.iload_n 3, 1) := by decide +kernel
theorem dX4_find_27 : decode cX4_find 27 = .ok (.iload 4, 2) := by decide +kernel
theorem dX4_find_29 : decode cX4_find 29 = .ok (.iadd, 1) := by decide +kernel
theorem dX4_find_30 : decode cX4_find 30 = .ok (.iconst 2, 1) := by decide +kernel
theorem dX4_find_31 : decode cX4_find 31 = .ok (.idiv, 1) := by decide +kernel
theorem dX4_find_32 : decode cX4_find 32 = .ok (.istore 6, 2) := by decide +kernel
theorem dX4_find_34 : decode cX4_find 34 = .ok (.aload_n 0, 1) := by decide +kernel
theorem dX4_find_35 : decode cX4_find 35 = .ok (.getfield 9, 3) := by decide +kernel
theorem dX4_find_38 : decode cX4_find 38 = .ok (.iload 6, 2) := by decide +kernel
theorem dX4_find_40 : decode cX4_find 40 = .ok (.laload, 1) := by decide +kernel
theorem dX4_find_41 : decode cX4_find 41 = .ok (.lload_n 1, 1) := by decide +kernel
theorem dX4_find_42 : decode cX4_find 42 = .ok (.lcmp, 1) := by decide +kernel
theorem dX4_find_43 : decode cX4_find 43 = .ok (.ifCond .ne 6, 3) := by decide +kernel
theorem dX4_find_46 : decode cX4_find 46 = .ok (.iload 6, 2) := by decide +kernel
theorem dX4_find_48 : decode cX4_find 48 = .ok (.ireturn, 1) := by decide +kernel
theorem dX4_find_49 : decode cX4_find 49 = .ok (.aload_n 0, 1) := by decide +kernel
theorem dX4_find_50 : decode cX4_find 50 = .ok (.getfield 9, 3) := by decide +kernel
theorem dX4_find_53 : decode cX4_find 53 = .ok (.iload 6, 2) := by decide +kernel
theorem dX4_find_55 : decode cX4_find 55 = .ok (.laload, 1) := by decide +kernel
theorem dX4_find_56 : decode cX4_find 56 = .ok (.lload_n 1, 1) := by decide +kernel
theorem dX4_find_57 : decode cX4_find 57 = .ok (.lcmp, 1) := by decide +kernel
theorem dX4_find_58 : decode cX4_find 58 = .ok (.ifCond .ge 11, 3) := by decide +kernel
theorem dX4_find_61 : decode cX4_find 61 = .ok (.iload 6, 2) := by decide +kernel
theorem dX4_find_63 : decode cX4_find 63 = .ok (.iconst 1, 1) := by decide +kernel
theorem dX4_find_64 : decode cX4_find 64 = .ok (.iadd, 1) := by decide +kernel
theorem dX4_find_65 : decode cX4_find 65 = .ok (.istore_n 3, 1) := by decide +kernel
theorem dX4_find_66 : decode cX4_find 66 = .ok (.goto 9, 3) := by decide +kernel
theorem dX4_find_69 : decode cX4_find 69 = .ok (.iload 6, 2) := by decide +kernel
theorem dX4_find_71 : decode cX4_find 71 = .ok (.iconst 1, 1) := by decide +kernel
theorem dX4_find_72 : decode cX4_find 72 = .ok (.isub, 1) := by decide +kernel
theorem dX4_find_73 : decode cX4_find 73 = .ok (.istore 4, 2) := by decide +kernel
theorem dX4_find_75 : decode cX4_find 75 = .ok (.iinc 5 1, 3) := by decide +kernel
theorem dX4_find_78 : decode cX4_find 78 = .ok (.goto (-65), 3) := by decide +kernel
theorem dX4_find_81 : decode cX4_find 81 = .ok (.iconst (-1), 1) := by decide +kernel
theorem dX4_find_82 : decode cX4_find 82 = .ok (.ireturn, 1) := by decide +kernel
theorem dX4_signs_0 : decode cX4_signs 0 = .ok (.iconst 0, 1) := by decide +kernel
theorem dX4_signs_1 : decode cX4_signs 1 = .ok (.istore_n 1, 1) := by decide +kernel
theorem dX4_signs_2 : decode cX4_signs 2 = .ok (.iconst 0, 1) := by decide +kernel
theorem dX4_signs_3 : decode cX4_signs 3 = .ok (.istore_n 2, 1) := by decide +kernel
theorem dX4_signs_4 : decode cX4_signs 4 = .ok (.iload_n 2, 1) := by decide +kernel
theorem dX4_signs_5 : decode cX4_signs 5 = .ok (.aload_n 0, 1) := by decide +kernel
theorem dX4_signs_6 : decode cX4_signs 6 = .ok (.getfield 28, 3) := by decide +kernel
theorem dX4_signs_9 : decode cX4_signs 9 = .ok (.if_icmp .ge 17, 3) := by decide +kernel
theorem dX4_signs_12 : decode cX4_signs 12 = .ok (.iload_n 1, 1) := by decide +kernel
theorem dX4_signs_13 : decode cX4_signs 13 = .ok (.aload_n 0, 1) := by decide +kernel
theorem dX4_signs_14 : decode cX4_signs 14 = .ok (.iload_n 2, 1) := by decide +kernel
theorem dX4_signs_15 : decode cX4_signs 15 = .ok (.invokevirtual 91, 3) := by decide +kernel
theorem dX4_signs_18 : decode cX4_signs 18 = .ok (.iadd, 1) := by decide +kernel
theorem dX4_signs_19 : decode cX4_signs 19 = .ok (.istore_n 1, 1) := by decide +kernel
theorem dX4_signs_20 : decode cX4_signs 20 = .ok (.iinc 2 1, 3) := by decide +kernel
theorem dX4_signs_23 : decode cX4_signs 23 = .ok (.goto (-19), 3) := by decide +kernel
theorem dX4_signs_26 : decode cX4_signs 26 = .ok (.iload_n 1, 1) := by decide +kernel
theorem dX4_signs_27 : decode cX4_signs 27 = .ok (.ireturn, 1) := by decide +kernel
theorem dX4_together_0 : decode cX4_together 0 = .ok (.iconst 0, 1) := by decide +kernel
theorem dX4_together_1 : decode cX4_together 1 = .ok (.istore 4, 2) := by decide +kernel
theorem dX4_together_3 : decode cX4_together 3 = .ok (.iconst 0, 1) := by decide +kernel
theorem dX4_together_4 : decode cX4_together 4 = .ok (.istore 5, 2) := by decide +kernel
theorem dX4_together_6 : decode cX4_together 6 = .ok (.iload 5, 2) := by decide +kernel
theorem dX4_together_8 : decode cX4_together 8 = .ok (.aload_n 0, 1) := by decide +kernel
theorem dX4_together_9 : decode cX4_together 9 = .ok (.getfield 28, 3) := by decide +kernel
theorem dX4_together_12 : decode cX4_together 12 = .ok (.if_icmp .ge 39, 3) := by decide +kernel
theorem dX4_together_15 : decode cX4_together 15 = .ok (.aload_n 0, 1) := by decide +kernel
theorem dX4_together_16 : decode cX4_together 16 = .ok (.iload 5, 2) := by decide +kernel
theorem dX4_together_18 : decode cX4_together 18 = .ok (.iload_n 1, 1) := by decide +kernel
theorem dX4_together_19 : decode cX4_together 19 = .ok (.invokevirtual 84, 3) := by decide +kernel
theorem dX4_together_22 : decode cX4_together 22 = .ok (.iload_n 2, 1) := by decide +kernel
theorem dX4_together_23 : decode cX4_together 23 = .ok (.if_icmp .ne 22, 3) := by decide +kernel
theorem dX4_together_26 : decode cX4_together 26 = .ok (.iload 4, 2) := by decide +kernel
theorem dX4_together_28 : decode cX4_together 28 = .ok (.iload_n 3, 1) := by decide +kernel
theorem dX4_together_29 : decode cX4_together 29 = .ok (.ifCond .eq 12, 3) := by decide +kernel
theorem dX4_together_32 : decode cX4_together 32 = .ok (.aload_n 0, 1) := by decide +kernel
theorem dX4_together_33 : decode cX4_together 33 = .ok (.iload 5, 2) := by decide +kernel
theorem dX4_together_35 : decode cX4_together 35 = .ok (.invokevirtual 91, 3) := by decide +kernel
theorem dX4_together_38 : decode cX4_together 38 = .ok (.goto 4, 3) := by decide +kernel
theorem dX4_together_41 : decode cX4_together 41 = .ok (.iconst 1, 1) := by decide +kernel
theorem dX4_together_42 : decode cX4_together 42 = .ok (.iadd, 1) := by decide +kernel
theorem dX4_together_43 : decode cX4_together 43 = .ok (.istore 4, 2) := by decide +kernel
theorem dX4_together_45 : decode cX4_together 45 = .ok (.iinc 5 1, 3) := by decide +kernel
theorem dX4_together_48 : decode cX4_together 48 = .ok (.goto (-42), 3) := by decide +kernel
theorem dX4_together_51 : decode cX4_together 51 = .ok (.iload 4, 2) := by decide +kernel
theorem dX4_together_53 : decode cX4_together 53 = .ok (.ireturn, 1) := by decide +kernel
theorem dX4_tally_0 : decode cX4_tally 0 = .ok (.iconst 0, 1) := by decide +kernel
theorem dX4_tally_1 : decode cX4_tally 1 = .ok (.istore 4, 2) := by decide +kernel
theorem dX4_tally_3 : decode cX4_tally 3 = .ok (.iconst 0, 1) := by decide +kernel
theorem dX4_tally_4 : decode cX4_tally 4 = .ok (.istore 5, 2) := by decide +kernel
theorem dX4_tally_6 : decode cX4_tally 6 = .ok (.iload 5, 2) := by decide +kernel
theorem dX4_tally_8 : decode cX4_tally 8 = .ok (.aload_n 0, 1) := by decide +kernel
theorem dX4_tally_9 : decode cX4_tally 9 = .ok (.getfield 28, 3) := by decide +kernel
theorem dX4_tally_12 : decode cX4_tally 12 = .ok (.if_icmp .ge 51, 3) := by decide +kernel
theorem dX4_tally_15 : decode cX4_tally 15 = .ok (.iload_n 1, 1) := by decide +kernel
theorem dX4_tally_16 : decode cX4_tally 16 = .ok (.ifCond .eq 12, 3) := by decide +kernel
theorem dX4_tally_19 : decode cX4_tally 19 = .ok (.aload_n 0, 1) := by decide +kernel
theorem dX4_tally_20 : decode cX4_tally 20 = .ok (.iload 5, 2) := by decide +kernel
theorem dX4_tally_22 : decode cX4_tally 22 = .ok (.invokevirtual 94, 3) := by decide +kernel
theorem dX4_tally_25 : decode cX4_tally 25 = .ok (.goto 9, 3) := by decide +kernel
theorem dX4_tally_28 : decode cX4_tally 28 = .ok (.aload_n 0, 1) := by decide +kernel
theorem dX4_tally_29 : decode cX4_tally 29 = .ok (.iload 5, 2) := by decide +kernel
theorem dX4_tally_31 : decode cX4_tally 31 = .ok (.invokevirtual 97, 3) := by decide +kernel
theorem dX4_tally_34 : decode cX4_tally 34 = .ok (.iload_n 2, 1) := by decide +kernel
theorem dX4_tally_35 : decode cX4_tally 35 = .ok (.if_icmp .ne 22, 3) := by decide +kernel
theorem dX4_tally_38 : decode cX4_tally 38 = .ok (.iload 4, 2) := by decide +kernel
theorem dX4_tally_40 : decode cX4_tally 40 = .ok (.iload_n 3, 1) := by decide +kernel
theorem dX4_tally_41 : decode cX4_tally 41 = .ok (.ifCond .eq 12, 3) := by decide +kernel
theorem dX4_tally_44 : decode cX4_tally 44 = .ok (.aload_n 0, 1) := by decide +kernel
theorem dX4_tally_45 : decode cX4_tally 45 = .ok (.iload 5, 2) := by decide +kernel
theorem dX4_tally_47 : decode cX4_tally 47 = .ok (.invokevirtual 91, 3) := by decide +kernel
theorem dX4_tally_50 : decode cX4_tally 50 = .ok (.goto 4, 3) := by decide +kernel
theorem dX4_tally_53 : decode cX4_tally 53 = .ok (.iconst 1, 1) := by decide +kernel
theorem dX4_tally_54 : decode cX4_tally 54 = .ok (.iadd, 1) := by decide +kernel
theorem dX4_tally_55 : decode cX4_tally 55 = .ok (.istore 4, 2) := by decide +kernel
theorem dX4_tally_57 : decode cX4_tally 57 = .ok (.iinc 5 1, 3) := by decide +kernel
theorem dX4_tally_60 : decode cX4_tally 60 = .ok (.goto (-54), 3) := by decide +kernel
theorem dX4_tally_63 : decode cX4_tally 63 = .ok (.iload 4, 2) := by decide +kernel
theorem dX4_tally_65 : decode cX4_tally 65 = .ok (.ireturn, 1) := by decide +kernel
theorem dX4_commonLines_0 : decode cX4_commonLines 0 = .ok (.iconst 0, 1) := by decide +kernel
theorem dX4_commonLines_1 : decode cX4_commonLines 1 = .ok (.istore_n 3, 1) := by decide +kernel
theorem dX4_commonLines_2 : decode cX4_commonLines 2 = .ok (.iconst 0, 1) := by decide +kernel
theorem dX4_commonLines_3 : decode cX4_commonLines 3 = .ok (.istore 4, 2) := by decide +kernel
theorem dX4_commonLines_5 : decode cX4_commonLines 5 = .ok (.iload 4, 2) := by decide +kernel
theorem dX4_commonLines_7 : decode cX4_commonLines 7 = .ok (.aload_n 0, 1) := by decide +kernel
theorem dX4_commonLines_8 : decode cX4_commonLines 8 = .ok (.getfield 40, 3) := by decide +kernel
theorem dX4_commonLines_11 : decode cX4_commonLines 11 = .ok (.if_icmp .ge 34, 3) := by decide +kernel
theorem dX4_commonLines_14 : decode cX4_commonLines 14 = .ok (.iload_n 3, 1) := by decide +kernel
theorem dX4_commonLines_15 : decode cX4_commonLines 15 = .ok (.aload_n 0, 1) := by decide +kernel
theorem dX4_commonLines_16 : decode cX4_commonLines 16 = .ok (.iload_n 1, 1) := by decide +kernel
theorem dX4_commonLines_17 : decode cX4_commonLines 17 = .ok (.iload 4, 2) := by decide +kernel
theorem dX4_commonLines_19 : decode cX4_commonLines 19 = .ok (.invokevirtual 84, 3) := by decide +kernel
theorem dX4_commonLines_22 : decode cX4_commonLines 22 = .ok (.aload_n 0, 1) := by decide +kernel
theorem dX4_commonLines_23 : decode cX4_commonLines 23 = .ok (.iload_n 2, 1) := by decide +kernel
theorem dX4_commonLines_24 : decode cX4_commonLines 24 = .ok (.iload 4, 2) := by decide +kernel
theorem dX4_commonLines_26 : decode cX4_commonLines 26 = .ok (.invokevirtual 84, 3) := by decide +kernel
theorem dX4_commonLines_29 : decode cX4_commonLines 29 = .ok (.if_icmp .ne 7, 3) := by decide +kernel
theorem dX4_commonLines_32 : decode cX4_commonLines 32 = .ok (.iconst 1, 1) := by decide +kernel
theorem dX4_commonLines_33 : decode cX4_commonLines 33 = .ok (.goto 4, 3) := by decide +kernel
theorem dX4_commonLines_36 : decode cX4_commonLines 36 = .ok (.iconst 0, 1) := by decide +kernel
theorem dX4_commonLines_37 : decode cX4_commonLines 37 = .ok (.iadd, 1) := by decide +kernel
theorem dX4_commonLines_38 : decode cX4_commonLines 38 = .ok (.istore_n 3, 1) := by decide +kernel
theorem dX4_commonLines_39 : decode cX4_commonLines 39 = .ok (.iinc 4 1, 3) := by decide +kernel
theorem dX4_commonLines_42 : decode cX4_commonLines 42 = .ok (.goto (-37), 3) := by decide +kernel
theorem dX4_commonLines_45 : decode cX4_commonLines 45 = .ok (.iload_n 3, 1) := by decide +kernel
theorem dX4_commonLines_46 : decode cX4_commonLines 46 = .ok (.iconst 2, 1) := by decide +kernel
theorem dX4_commonLines_47 : decode cX4_commonLines 47 = .ok (.idiv, 1) := by decide +kernel
theorem dX4_commonLines_48 : decode cX4_commonLines 48 = .ok (.ireturn, 1) := by decide +kernel
theorem dX4_commonRings_0 : decode cX4_commonRings 0 = .ok (.iconst 1, 1) := by decide +kernel
theorem dX4_commonRings_1 : decode cX4_commonRings 1 = .ok (.aload_n 0, 1) := by decide +kernel
theorem dX4_commonRings_2 : decode cX4_commonRings 2 = .ok (.getfield 40, 3) := by decide +kernel
theorem dX4_commonRings_5 : decode cX4_commonRings 5 = .ok (.ishl, 1) := by decide +kernel
theorem dX4_commonRings_6 : decode cX4_commonRings 6 = .ok (.iconst 1, 1) := by decide +kernel
theorem dX4_commonRings_7 : decode cX4_commonRings 7 = .ok (.isub, 1) := by decide +kernel
theorem dX4_commonRings_8 : decode cX4_commonRings 8 = .ok (.istore_n 3, 1) := by decide +kernel
theorem dX4_commonRings_9 : decode cX4_commonRings 9 = .ok (.iconst 0, 1) := by decide +kernel
theorem dX4_commonRings_10 : decode cX4_commonRings 10 = .ok (.istore 4, 2) := by decide +kernel
theorem dX4_commonRings_12 : decode cX4_commonRings 12 = .ok (.iconst 0, 1) := by decide +kernel
theorem dX4_commonRings_13 : decode cX4_commonRings 13 = .ok (.istore 5, 2) := by decide +kernel
theorem dX4_commonRings_15 : decode cX4_commonRings 15 = .ok (.iload 5, 2) := by decide +kernel
theorem dX4_commonRings_17 : decode cX4_commonRings 17 = .ok (.bipush 12, 2) := by decide +kernel
theorem dX4_commonRings_19 : decode cX4_commonRings 19 = .ok (.if_icmp .ge 79, 3) := by decide +kernel
theorem dX4_commonRings_22 : decode cX4_commonRings 22 = .ok (.iload_n 3, 1) := by decide +kernel
theorem dX4_commonRings_23 : decode cX4_commonRings 23 = .ok (.ifCond .eq 75, 3) := by decide +kernel
theorem dX4_commonRings_26 : decode cX4_commonRings 26 = .ok (.iload_n 3, 1) := by decide +kernel
theorem dX4_commonRings_27 : decode cX4_commonRings 27 = .ok (.invokestatic 56, 3) := by decide +kernel
theorem dX4_commonRings_30 : decode cX4_commonRings 30 = .ok (.istore 6, 2) := by decide +kernel
theorem dX4_commonRings_32 : decode cX4_commonRings 32 = .ok (.iconst 0, 1) := by decide +kernel
theorem dX4_commonRings_33 : decode cX4_commonRings 33 = .ok (.istore 7, 2) := by decide +kernel
theorem dX4_commonRings_35 : decode cX4_commonRings 35 = .ok (.iload 7, 2) := by decide +kernel
theorem dX4_commonRings_37 : decode cX4_commonRings 37 = .ok (.bipush 12, 2) := by decide +kernel
theorem dX4_commonRings_39 : decode cX4_commonRings 39 = .ok (.if_icmp .ge 50, 3) := by decide +kernel
theorem dX4_commonRings_42 : decode cX4_commonRings 42 = .ok (.iload_n 3, 1) := by decide +kernel
theorem dX4_commonRings_43 : decode cX4_commonRings 43 = .ok (.iload 6, 2) := by decide +kernel
theorem dX4_commonRings_45 : decode cX4_commonRings 45 = .ok (.ishr, 1) := by decide +kernel
theorem dX4_commonRings_46 : decode cX4_commonRings 46 = .ok (.iconst 1, 1) := by decide +kernel
theorem dX4_commonRings_47 : decode cX4_commonRings 47 = .ok (.iand, 1) := by decide +kernel
theorem dX4_commonRings_48 : decode cX4_commonRings 48 = .ok (.ifCond .eq 41, 3) := by decide +kernel
theorem dX4_commonRings_51 : decode cX4_commonRings 51 = .ok (.aload_n 0, 1) := by decide +kernel
theorem dX4_commonRings_52 : decode cX4_commonRings 52 = .ok (.iload_n 1, 1) := by decide +kernel
theorem dX4_commonRings_53 : decode cX4_commonRings 53 = .ok (.iload 6, 2) := by decide +kernel
theorem dX4_commonRings_55 : decode cX4_commonRings 55 = .ok (.invokevirtual 84, 3) := by decide +kernel
theorem dX4_commonRings_58 : decode cX4_commonRings 58 = .ok (.istore 8, 2) := by decide +kernel
theorem dX4_commonRings_60 : decode cX4_commonRings 60 = .ok (.iload_n 3, 1) := by decide +kernel
theorem dX4_commonRings_61 : decode cX4_commonRings 61 = .ok (.iconst 1, 1) := by decide +kernel
theorem dX4_commonRings_62 : decode cX4_commonRings 62 = .ok (.iload 6, 2) := by decide +kernel
theorem dX4_commonRings_64 : decode cX4_commonRings 64 = .ok (.ishl, 1) := by decide +kernel
theorem dX4_commonRings_65 : decode cX4_commonRings 65 = .ok (.iconst 1, 1) := by decide +kernel
theorem dX4_commonRings_66 : decode cX4_commonRings 66 = .ok (.iload 8, 2) := by decide +kernel
theorem dX4_commonRings_68 : decode cX4_commonRings 68 = .ok (.ishl, 1) := by decide +kernel
theorem dX4_commonRings_69 : decode cX4_commonRings 69 = .ok (.ior, 1) := by decide +kernel
theorem dX4_commonRings_70 : decode cX4_commonRings 70 = .ok (.iconst (-1), 1) := by decide +kernel
theorem dX4_commonRings_71 : decode cX4_commonRings 71 = .ok (.ixor, 1) := by decide +kernel
theorem dX4_commonRings_72 : decode cX4_commonRings 72 = .ok (.iand, 1) := by decide +kernel
theorem dX4_commonRings_73 : decode cX4_commonRings 73 = .ok (.istore_n 3, 1) := by decide +kernel
theorem dX4_commonRings_74 : decode cX4_commonRings 74 = .ok (.aload_n 0, 1) := by decide +kernel
theorem dX4_commonRings_75 : decode cX4_commonRings 75 = .ok (.iload_n 2, 1) := by decide +kernel
theorem dX4_commonRings_76 : decode cX4_commonRings 76 = .ok (.iload 8, 2) := by decide +kernel
theorem dX4_commonRings_78 : decode cX4_commonRings 78 = .ok (.invokevirtual 84, 3) := by decide +kernel
theorem dX4_commonRings_81 : decode cX4_commonRings 81 = .ok (.istore 6, 2) := by decide +kernel
theorem dX4_commonRings_83 : decode cX4_commonRings 83 = .ok (.iinc 7 1, 3) := by decide +kernel
theorem dX4_commonRings_86 : decode cX4_commonRings 86 = .ok (.goto (-51), 3) := by decide +kernel
theorem dX4_commonRings_89 : decode cX4_commonRings 89 = .ok (.iinc 4 1, 3) := by decide +kernel
theorem dX4_commonRings_92 : decode cX4_commonRings 92 = .ok (.iinc 5 1, 3) := by decide +kernel
theorem dX4_commonRings_95 : decode cX4_commonRings 95 = .ok (.goto (-80), 3) := by decide +kernel
theorem dX4_commonRings_98 : decode cX4_commonRings 98 = .ok (.iload 4, 2) := by decide +kernel
theorem dX4_commonRings_100 : decode cX4_commonRings 100 = .ok (.ireturn, 1) := by decide +kernel
