theorem dX8_init_0 : decode cX8_init 0 = .ok (.aload_n 0, 1) := by decide +kernel
theorem dX8_init_1 : decode cX8_init 1 = .ok (.invokespecial 3, 3) := by decide +kernel
theorem dX8_init_4 : decode cX8_init 4 = .ok (.return_, 1) := by decide +kernel
theorem dX8_readTheory_0 : decode cX8_readTheory 0 = .ok (.aload_n 2, 1) := by decide +kernel
theorem dX8_readTheory_1 : decode cX8_readTheory 1 = .ok (.invokevirtual 9, 3) := by decide +kernel
theorem dX8_readTheory_4 : decode cX8_readTheory 4 = .ok (.iconst 1, 1) := by decide +kernel
theorem dX8_readTheory_5 : decode cX8_readTheory 5 = .ok (.istore_n 3, 1) := by decide +kernel
theorem dX8_readTheory_6 : decode cX8_readTheory 6 = .ok (.iconst 0, 1) := by decide +kernel
theorem dX8_readTheory_7 : decode cX8_readTheory 7 = .ok (.istore 4, 2) := by decide +kernel
theorem dX8_readTheory_9 : decode cX8_readTheory 9 = .ok (.iload 4, 2) := by decide +kernel
theorem dX8_readTheory_11 : decode cX8_readTheory 11 = .ok (.sipush 400, 3) := by decide +kernel
theorem dX8_readTheory_14 : decode cX8_readTheory 14 = .ok (.if_icmp .ge 84, 3) := by decide +kernel
theorem dX8_readTheory_17 : decode cX8_readTheory 17 = .ok (.iload_n 3, 1) := by decide +kernel
theorem dX8_readTheory_18 : decode cX8_readTheory 18 = .ok (.ifCond .eq 80, 3) := by decide +kernel
theorem dX8_readTheory_21 : decode cX8_readTheory 21 = .ok (.aload_n 1, 1) := by decide +kernel
theorem dX8_readTheory_22 : decode cX8_readTheory 22 = .ok (.getfield 14, 3) := by decide +kernel
theorem dX8_readTheory_25 : decode cX8_readTheory 25 = .ok (.ifCond .eq 73, 3) := by decide +kernel
theorem dX8_readTheory_28 : decode cX8_readTheory 28 = .ok (.aload_n 1, 1) := by decide +kernel
theorem dX8_readTheory_29 : decode cX8_readTheory 29 = .ok (.ldc 20, 2) := by decide +kernel
theorem dX8_readTheory_31 : decode cX8_readTheory 31 = .ok (.invokevirtual 22, 3) := by decide +kernel
theorem dX8_readTheory_34 : decode cX8_readTheory 34 = .ok (.ifCond .eq 13, 3) := by decide +kernel
theorem dX8_readTheory_37 : decode cX8_readTheory 37 = .ok (.aload_n 0, 1) := by decide +kernel
theorem dX8_readTheory_38 : decode cX8_readTheory 38 = .ok (.aload_n 1, 1) := by decide +kernel
theorem dX8_readTheory_39 : decode cX8_readTheory 39 = .ok (.aload_n 2, 1) := by decide +kernel
theorem dX8_readTheory_40 : decode cX8_readTheory 40 = .ok (.invokevirtual 26, 3) := by decide +kernel
theorem dX8_readTheory_43 : decode cX8_readTheory 43 = .ok (.istore_n 3, 1) := by decide +kernel
theorem dX8_readTheory_44 : decode cX8_readTheory 44 = .ok (.goto 29, 3) := by decide +kernel
theorem dX8_readTheory_47 : decode cX8_readTheory 47 = .ok (.aload_n 1, 1) := by decide +kernel
theorem dX8_readTheory_48 : decode cX8_readTheory 48 = .ok (.ldc 32, 2) := by decide +kernel
theorem dX8_readTheory_50 : decode cX8_readTheory 50 = .ok (.invokevirtual 22, 3) := by decide +kernel
theorem dX8_readTheory_53 : decode cX8_readTheory 53 = .ok (.ifCond .eq 13, 3) := by decide +kernel
theorem dX8_readTheory_56 : decode cX8_readTheory 56 = .ok (.aload_n 0, 1) := by decide +kernel
theorem dX8_readTheory_57 : decode cX8_readTheory 57 = .ok (.aload_n 1, 1) := by decide +kernel
theorem dX8_readTheory_58 : decode cX8_readTheory 58 = .ok (.aload_n 2, 1) := by decide +kernel
theorem dX8_readTheory_59 : decode cX8_readTheory 59 = .ok (.invokevirtual 34, 3) := by decide +kernel
theorem dX8_readTheory_62 : decode cX8_readTheory 62 = .ok (.istore_n 3, 1) := by decide +kernel
theorem dX8_readTheory_63 : decode cX8_readTheory 63 = .ok (.goto 10, 3) := by decide +kernel
theorem dX8_readTheory_66 : decode cX8_readTheory 66 = .ok (.aload_n 0, 1) := by decide +kernel
theorem dX8_readTheory_67 : decode cX8_readTheory 67 = .ok (.aload_n 1, 1) := by decide +kernel
theorem dX8_readTheory_68 : decode cX8_readTheory 68 = .ok (.aload_n 2, 1) := by decide +kernel
theorem dX8_readTheory_69 : decode cX8_readTheory 69 = .ok (.invokevirtual 37, 3) := by decide +kernel
theorem dX8_readTheory_72 : decode cX8_readTheory 72 = .ok (.istore_n 3, 1) := by decide +kernel
theorem dX8_readTheory_73 : decode cX8_readTheory 73 = .ok (.iload_n 3, 1) := by decide +kernel
theorem dX8_readTheory_74 : decode cX8_readTheory 74 = .ok (.ifCond .eq 16, 3) := by decide +kernel
theorem dX8_readTheory_77 : decode cX8_readTheory 77 = .ok (.aload_n 1, 1) := by decide +kernel
theorem dX8_readTheory_78 : decode cX8_readTheory 78 = .ok (.bipush 59, 2) := by decide +kernel
theorem dX8_readTheory_80 : decode cX8_readTheory 80 = .ok (.invokevirtual 40, 3) := by decide +kernel
theorem dX8_readTheory_83 : decode cX8_readTheory 83 = .ok (.ifCond .eq 7, 3) := by decide +kernel
theorem dX8_readTheory_86 : decode cX8_readTheory 86 = .ok (.iconst 1, 1) := by decide +kernel
theorem dX8_readTheory_87 : decode cX8_readTheory 87 = .ok (.goto 4, 3) := by decide +kernel
theorem dX8_readTheory_90 : decode cX8_readTheory 90 = .ok (.iconst 0, 1) := by decide +kernel
theorem dX8_readTheory_91 : decode cX8_readTheory 91 = .ok (.istore_n 3, 1) := by decide +kernel
theorem dX8_readTheory_92 : decode cX8_readTheory 92 = .ok (.iinc 4 1, 3) := by decide +kernel
theorem dX8_readTheory_95 : decode cX8_readTheory 95 = .ok (.goto (-86), 3) := by decide +kernel
theorem dX8_readTheory_98 : decode cX8_readTheory 98 = .ok (.aload_n 2, 1) := by decide +kernel
theorem dX8_readTheory_99 : decode cX8_readTheory 99 = .ok (.invokevirtual 44, 3) := by decide +kernel
theorem dX8_readTheory_102 : decode cX8_readTheory 102 = .ok (.iload_n 3, 1) := by decide +kernel
theorem dX8_readTheory_103 : decode cX8_readTheory 103 = .ok (.ireturn, 1) := by decide +kernel
theorem dX8_readField_0 : decode cX8_readField 0 = .ok (.aload_n 2, 1) := by decide +kernel
theorem dX8_readField_1 : decode cX8_readField 1 = .ok (.getfield 47, 3) := by decide +kernel
theorem dX8_readField_4 : decode cX8_readField 4 = .ok (.bipush 6, 2) := by decide +kernel
theorem dX8_readField_6 : decode cX8_readField 6 = .ok (.if_icmp .lt 10, 3) := by decide +kernel
theorem dX8_readField_9 : decode cX8_readField 9 = .ok (.aload_n 1, 1) := by decide +kernel
theorem dX8_readField_10 : decode cX8_readField 10 = .ok (.bipush 6, 2) := by decide +kernel
theorem dX8_readField_12 : decode cX8_readField 12 = .ok (.invokevirtual 50, 3) := by decide +kernel
theorem dX8_readField_15 : decode cX8_readField 15 = .ok (.ireturn, 1) := by decide +kernel
theorem dX8_readField_16 : decode cX8_readField 16 = .ok (.aload_n 1, 1) := by decide +kernel
theorem dX8_readField_17 : decode cX8_readField 17 = .ok (.invokevirtual 54, 3) := by decide +kernel
theorem dX8_readField_20 : decode cX8_readField 20 = .ok (.aload_n 1, 1) := by decide +kernel
theorem dX8_readField_21 : decode cX8_readField 21 = .ok (.invokevirtual 57, 3) := by decide +kernel
theorem dX8_readField_24 : decode cX8_readField 24 = .ok (.ifCond .ne 8, 3) := by decide +kernel
theorem dX8_readField_27 : decode cX8_readField 27 = .ok (.aload_n 1, 1) := by decide +kernel
theorem dX8_readField_28 : decode cX8_readField 28 = .ok (.invokevirtual 61, 3) := by decide +kernel
theorem dX8_readField_31 : decode cX8_readField 31 = .ok (.ireturn, 1) := by decide +kernel
theorem dX8_readField_32 : decode cX8_readField 32 = .ok (.aload_n 1, 1) := by decide +kernel
theorem dX8_readField_33 : decode cX8_readField 33 = .ok (.getfield 64, 3) := by decide +kernel
theorem dX8_readField_36 : decode cX8_readField 36 = .ok (.istore_n 3, 1) := by decide +kernel
theorem dX8_readField_37 : decode cX8_readField 37 = .ok (.aload_n 2, 1) := by decide +kernel
theorem dX8_readField_38 : decode cX8_readField 38 = .ok (.iload_n 3, 1) := by decide +kernel
theorem dX8_readField_39 : decode cX8_readField 39 = .ok (.invokevirtual 67, 3) := by decide +kernel
theorem dX8_readField_42 : decode cX8_readField 42 = .ok (.ifCond .lt 9, 3) := by decide +kernel
theorem dX8_readField_45 : decode cX8_readField 45 = .ok (.aload_n 1, 1) := by decide +kernel
theorem dX8_readField_46 : decode cX8_readField 46 = .ok (.iconst 5, 1) := by decide +kernel
theorem dX8_readField_47 : decode cX8_readField 47 = .ok (.invokevirtual 50, 3) := by decide +kernel
theorem dX8_readField_50 : decode cX8_readField 50 = .ok (.ireturn, 1) := by decide +kernel
theorem dX8_readField_51 : decode cX8_readField 51 = .ok (.aload_n 1, 1) := by decide +kernel
theorem dX8_readField_52 : decode cX8_readField 52 = .ok (.invokevirtual 54, 3) := by decide +kernel
theorem dX8_readField_55 : decode cX8_readField 55 = .ok (.aload_n 1, 1) := by decide +kernel
theorem dX8_readField_56 : decode cX8_readField 56 = .ok (.ldc 71, 2) := by decide +kernel
theorem dX8_readField_58 : decode cX8_readField 58 = .ok (.invokevirtual 22, 3) := by decide +kernel
theorem dX8_readField_61 : decode cX8_readField 61 = .ok (.istore 4, 2) := by decide +kernel
theorem dX8_readField_63 : decode cX8_readField 63 = .ok (.iload 4, 2) := by decide +kernel
theorem dX8_readField_65 : decode cX8_readField 65 = .ok (.ifCond .ne 17, 3) := by decide +kernel
theorem dX8_readField_68 : decode cX8_readField 68 = .ok (.aload_n 1, 1) := by decide +kernel
theorem dX8_readField_69 : decode cX8_readField 69 = .ok (.ldc 73, 2) := by decide +kernel
theorem dX8_readField_71 : decode cX8_readField 71 = .ok (.invokevirtual 22, 3) := by decide +kernel
theorem dX8_readField_74 : decode cX8_readField 74 = .ok (.ifCond .ne 8, 3) := by decide +kernel
theorem dX8_readField_77 : decode cX8_readField 77 = .ok (.aload_n 1, 1) := by decide +kernel
theorem dX8_readField_78 : decode cX8_readField 78 = .ok (.invokevirtual 61, 3) := by decide +kernel
theorem dX8_readField_81 : decode cX8_readField 81 = .ok (.ireturn, 1) := by decide +kernel
theorem dX8_readField_82 : decode cX8_readField 82 = .ok (.aload_n 1, 1) := by decide +kernel
theorem dX8_readField_83 : decode cX8_readField 83 = .ok (.invokevirtual 54, 3) := by decide +kernel
theorem dX8_readField_86 : decode cX8_readField 86 = .ok (.aload_n 1, 1) := by decide +kernel
theorem dX8_readField_87 : decode cX8_readField 87 = .ok (.ldc 75, 2) := by decide +kernel
theorem dX8_readField_89 : decode cX8_readField 89 = .ok (.invokevirtual 22, 3) := by decide +kernel
theorem dX8_readField_92 : decode cX8_readField 92 = .ok (.istore 5, 2) := by decide +kernel
theorem dX8_readField_94 : decode cX8_readField 94 = .ok (.iload 5, 2) := by decide +kernel
theorem dX8_readField_96 : decode cX8_readField 96 = .ok (.ifCond .eq 7, 3) := by decide +kernel
theorem dX8_readField_99 : decode cX8_readField 99 = .ok (.aload_n 1, 1) := by decide +kernel
theorem dX8_readField_100 : decode cX8_readField 100 = .ok (.invokevirtual 54, 3) := by decide +kernel
theorem dX8_readField_103 : decode cX8_readField 103 = .ok (.aload_n 2, 1) := by decide +kernel
theorem dX8_readField_104 : decode cX8_readField 104 = .ok (.iload_n 3, 1) := by decide +kernel
theorem dX8_readField_105 : decode cX8_readField 105 = .ok (.iload 4, 2) := by decide +kernel
theorem dX8_readField_107 : decode cX8_readField 107 = .ok (.iload 5, 2) := by decide +kernel
theorem dX8_readField_109 : decode cX8_readField 109 = .ok (.invokevirtual 77, 3) := by decide +kernel
theorem dX8_readField_112 : decode cX8_readField 112 = .ok (.iconst 1, 1) := by decide +kernel
theorem dX8_readField_113 : decode cX8_readField 113 = .ok (.ireturn, 1) := by decide +kernel
theorem dX8_readMix_0 : decode cX8_readMix 0 = .ok (.aload_n 2, 1) := by decide +kernel
theorem dX8_readMix_1 : decode cX8_readMix 1 = .ok (.getfield 81, 3) := by decide +kernel
theorem dX8_readMix_4 : decode cX8_readMix 4 = .ok (.iconst 4, 1) := by decide +kernel
theorem dX8_readMix_5 : decode cX8_readMix 5 = .ok (.if_icmp .lt 10, 3) := by decide +kernel
theorem dX8_readMix_8 : decode cX8_readMix 8 = .ok (.aload_n 1, 1) := by decide +kernel
theorem dX8_readMix_9 : decode cX8_readMix 9 = .ok (.bipush 6, 2) := by decide +kernel
theorem dX8_readMix_11 : decode cX8_readMix 11 = .ok (.invokevirtual 50, 3) := by decide +kernel
theorem dX8_readMix_14 : decode cX8_readMix 14 = .ok (.ireturn, 1) := by decide +kernel
theorem dX8_readMix_15 : decode cX8_readMix 15 = .ok (.aload_n 1, 1) := by decide +kernel
theorem dX8_readMix_16 : decode cX8_readMix 16 = .ok (.invokevirtual 54, 3) := by decide +kernel
theorem dX8_readMix_19 : decode cX8_readMix 19 = .ok (.aload_n 0, 1) := by decide +kernel
theorem dX8_readMix_20 : decode cX8_readMix 20 = .ok (.aload_n 1, 1) := by decide +kernel
theorem dX8_readMix_21 : decode cX8_readMix 21 = .ok (.aload_n 2, 1) := by decide +kernel
theorem dX8_readMix_22 : decode cX8_readMix 22 = .ok (.invokevirtual 84, 3) := by decide +kernel
theorem dX8_readMix_25 : decode cX8_readMix 25 = .ok (.istore_n 3, 1) := by decide +kernel
theorem dX8_readMix_26 : decode cX8_readMix 26 = .ok (.iload_n 3, 1) := by decide +kernel
theorem dX8_readMix_27 : decode cX8_readMix 27 = .ok (.ifCond .ge 5, 3) := by decide +kernel
theorem dX8_readMix_30 : decode cX8_readMix 30 = .ok (.iconst 0, 1) := by decide +kernel
theorem dX8_readMix_31 : decode cX8_readMix 31 = .ok (.ireturn, 1) := by decide +kernel
theorem dX8_readMix_32 : decode cX8_readMix 32 = .ok (.aload_n 2, 1) := by decide +kernel
theorem dX8_readMix_33 : decode cX8_readMix 33 = .ok (.getfield 88, 3) := by decide +kernel
theorem dX8_readMix_36 : decode cX8_readMix 36 = .ok (.iload_n 3, 1) := by decide +kernel
theorem dX8_readMix_37 : decode cX8_readMix 37 = .ok (.baload, 1) := by decide +kernel
theorem dX8_readMix_38 : decode cX8_readMix 38 = .ok (.ifCond .eq 9, 3) := by decide +kernel
theorem dX8_readMix_41 : decode cX8_readMix 41 = .ok (.aload_n 1, 1) := by decide +kernel
theorem dX8_readMix_42 : decode cX8_readMix 42 = .ok (.iconst 4, 1) := by decide +kernel
theorem dX8_readMix_43 : decode cX8_readMix 43 = .ok (.invokevirtual 50, 3) := by decide +kernel
theorem dX8_readMix_46 : decode cX8_readMix 46 = .ok (.ireturn, 1) := by decide +kernel
theorem dX8_readMix_47 : decode cX8_readMix 47 = .ok (.aload_n 1, 1) := by decide +kernel
theorem dX8_readMix_48 : decode cX8_readMix 48 = .ok (.invokevirtual 54, 3) := by decide +kernel
theorem dX8_readMix_51 : decode cX8_readMix 51 = .ok (.aload_n 0, 1) := by decide +kernel
theorem dX8_readMix_52 : decode cX8_readMix 52 = .ok (.aload_n 1, 1) := by decide +kernel
theorem dX8_readMix_53 : decode cX8_readMix 53 = .ok (.aload_n 2, 1) := by decide +kernel
theorem dX8_readMix_54 : decode cX8_readMix 54 = .ok (.invokevirtual 84, 3) := by decide +kernel
theorem dX8_readMix_57 : decode cX8_readMix 57 = .ok (.istore 4, 2) := by decide +kernel
theorem dX8_readMix_59 : decode cX8_readMix 59 = .ok (.iload 4, 2) := by decide +kernel
theorem dX8_readMix_61 : decode cX8_readMix 61 = .ok (.ifCond .ge 5, 3) := by decide +kernel
theorem dX8_readMix_64 : decode cX8_readMix 64 = .ok (.iconst 0, 1) := by decide +kernel
theorem dX8_readMix_65 : decode cX8_readMix 65 = .ok (.ireturn, 1) := by decide +kernel
theorem dX8_readMix_66 : decode cX8_readMix 66 = .ok (.aload_n 2, 1) := by decide +kernel
theorem dX8_readMix_67 : decode cX8_readMix 67 = .ok (.getfield 88, 3) := by decide +kernel
theorem dX8_readMix_70 : decode cX8_readMix 70 = .ok (.iload 4, 2) := by decide +kernel
theorem dX8_readMix_72 : decode cX8_readMix 72 = .ok (.baload, 1) := by decide +kernel
theorem dX8_readMix_73 : decode cX8_readMix 73 = .ok (.ifCond .ne 19, 3) := by decide +kernel
theorem dX8_readMix_76 : decode cX8_readMix 76 = .ok (.aload_n 2, 1) := by decide +kernel
theorem dX8_readMix_77 : decode cX8_readMix 77 = .ok (.getfield 92, 3) := by decide +kernel
theorem dX8_readMix_80 : decode cX8_readMix 80 = .ok (.iload_n 3, 1) := by decide +kernel
theorem dX8_readMix_81 : decode cX8_readMix 81 = .ok (.baload, 1) := by decide +kernel
theorem dX8_readMix_82 : decode cX8_readMix 82 = .ok (.aload_n 2, 1) := by decide +kernel
theorem dX8_readMix_83 : decode cX8_readMix 83 = .ok (.getfield 92, 3) := by decide +kernel
theorem dX8_readMix_86 : decode cX8_readMix 86 = .ok (.iload 4, 2) := by decide +kernel
theorem dX8_readMix_88 : decode cX8_readMix 88 = .ok (.baload, 1) := by decide +kernel
theorem dX8_readMix_89 : decode cX8_readMix 89 = .ok (.if_icmp .eq 7, 3) := by decide +kernel
theorem dX8_readMix_92 : decode cX8_readMix 92 = .ok (.iconst 1, 1) := by decide +kernel
theorem dX8_readMix_93 : decode cX8_readMix 93 = .ok (.goto 4, 3) := by decide +kernel
theorem dX8_readMix_96 : decode cX8_readMix 96 = .ok (.iconst 0, 1) := by decide +kernel
theorem dX8_readMix_97 : decode cX8_readMix 97 = .ok (.istore 5, 2) := by decide +kernel
theorem dX8_readMix_99 : decode cX8_readMix 99 = .ok (.iload 5, 2) := by decide +kernel
theorem dX8_readMix_101 : decode cX8_readMix 101 = .ok (.ifCond .ne 19, 3) := by decide +kernel
theorem dX8_readMix_104 : decode cX8_readMix 104 = .ok (.iload_n 3, 1) := by decide +kernel
theorem dX8_readMix_105 : decode cX8_readMix 105 = .ok (.iload 4, 2) := by decide +kernel
theorem dX8_readMix_107 : decode cX8_readMix 107 = .ok (.if_icmp .eq 13, 3) := by decide +kernel
theorem dX8_readMix_110 : decode cX8_readMix 110 = .ok (.aload_n 2, 1) := by decide +kernel
theorem dX8_readMix_111 : decode cX8_readMix 111 = .ok (.iload_n 3, 1) := by decide +kernel
theorem dX8_readMix_112 : decode cX8_readMix 112 = .ok (.iload 4, 2) := by decide +kernel
theorem dX8_readMix_114 : decode cX8_readMix 114 = .ok (.invokevirtual 95, 3) := by decide +kernel
theorem dX8_readMix_117 : decode cX8_readMix 117 = .ok (.ifCond .lt 9, 3) := by decide +kernel
theorem dX8_readMix_120 : decode cX8_readMix 120 = .ok (.aload_n 1, 1) := by decide +kernel
theorem dX8_readMix_121 : decode cX8_readMix 121 = .ok (.iconst 4, 1) := by decide +kernel
theorem dX8_readMix_122 : decode cX8_readMix 122 = .ok (.invokevirtual 50, 3) := by decide +kernel
theorem dX8_readMix_125 : decode cX8_readMix 125 = .ok (.ireturn, 1) := by decide +kernel
theorem dX8_readMix_126 : decode cX8_readMix 126 = .ok (.aload_n 1, 1) := by decide +kernel
theorem dX8_readMix_127 : decode cX8_readMix 127 = .ok (.invokevirtual 54, 3) := by decide +kernel
theorem dX8_readMix_130 : decode cX8_readMix 130 = .ok (.aload_n 2, 1) := by decide +kernel
theorem dX8_readMix_131 : decode cX8_readMix 131 = .ok (.iload_n 3, 1) := by decide +kernel
theorem dX8_readMix_132 : decode cX8_readMix 132 = .ok (.iload 4, 2) := by decide +kernel
theorem dX8_readMix_134 : decode cX8_readMix 134 = .ok (.invokevirtual 99, 3) := by decide +kernel
theorem dX8_readMix_137 : decode cX8_readMix 137 = .ok (.iconst 1, 1) := by decide +kernel
theorem dX8_readMix_138 : decode cX8_readMix 138 = .ok (.ireturn, 1) := by decide +kernel
theorem dX8_readKnownField_0 : decode cX8_readKnownField 0 = .ok (.aload_n 1, 1) := by decide +kernel
theorem dX8_readKnownField_1 : decode cX8_readKnownField 1 = .ok (.invokevirtual 57, 3) := by decide +kernel
theorem dX8_readKnownField_4 : decode cX8_readKnownField 4 = .ok (.ifCond .ne 10, 3) := by decide +kernel
theorem dX8_readKnownField_7 : decode cX8_readKnownField 7 = .ok (.aload_n 1, 1) := by decide +kernel
theorem dX8_readKnownField_8 : decode cX8_readKnownField 8 = .ok (.invokevirtual 61, 3) := by decide +kernel
theorem dX8_readKnownField_11 : decode cX8_readKnownField 11 = .ok (.pop, 1) := by decide +kernel
theorem dX8_readKnownField_12 : decode cX8_readKnownField 12 = .ok (.iconst (-1), 1) := by decide +kernel
theorem dX8_readKnownField_13 : decode cX8_readKnownField 13 = .ok (.ireturn, 1) := by decide +kernel
theorem dX8_readKnownField_14 : decode cX8_readKnownField 14 = .ok (.aload_n 2, 1) := by decide +kernel
theorem dX8_readKnownField_15 : decode cX8_readKnownField 15 = .ok (.aload_n 1, 1) := by decide +kernel
theorem dX8_readKnownField_16 : decode cX8_readKnownField 16 = .ok (.getfield 64, 3) := by decide +kernel
theorem dX8_readKnownField_19 : decode cX8_readKnownField 19 = .ok (.invokevirtual 67, 3) := by decide +kernel
theorem dX8_readKnownField_22 : decode cX8_readKnownField 22 = .ok (.istore_n 3, 1) := by decide +kernel
theorem dX8_readKnownField_23 : decode cX8_readKnownField 23 = .ok (.iload_n 3, 1) := by decide +kernel
theorem dX8_readKnownField_24 : decode cX8_readKnownField 24 = .ok (.ifCond .ge 9, 3) := by decide +kernel
theorem dX8_readKnownField_27 : decode cX8_readKnownField 27 = .ok (.aload_n 1, 1) := by decide +kernel
theorem dX8_readKnownField_28 : decode cX8_readKnownField 28 = .ok (.iconst 3, 1) := by decide +kernel
theorem dX8_readKnownField_29 : decode cX8_readKnownField 29 = .ok (.invokevirtual 50, 3) := by decide +kernel
theorem dX8_readKnownField_32 : decode cX8_readKnownField 32 = .ok (.pop, 1) := by decide +kernel
theorem dX8_readKnownField_33 : decode cX8_readKnownField 33 = .ok (.iload_n 3, 1) := by decide +kernel
theorem dX8_readKnownField_34 : decode cX8_readKnownField 34 = .ok (.ireturn, 1) := by decide +kernel
theorem dX8_readPoint_0 : decode cX8_readPoint 0 = .ok (.aload_n 1, 1) := by decide +kernel
theorem dX8_readPoint_1 : decode cX8_readPoint 1 = .ok (.getfield 103, 3) := by decide +kernel
theorem dX8_readPoint_4 : decode cX8_readPoint 4 = .ok (.istore_n 3, 1) := by decide +kernel
theorem dX8_readPoint_5 : decode cX8_readPoint 5 = .ok (.aload_n 1, 1) := by decide +kernel
theorem dX8_readPoint_6 : decode cX8_readPoint 6 = .ok (.ldc 106, 2) := by decide +kernel
theorem dX8_readPoint_8 : decode cX8_readPoint 8 = .ok (.invokevirtual 22, 3) := by decide +kernel
theorem dX8_readPoint_11 : decode cX8_readPoint 11 = .ok (.istore 4, 2) := by decide +kernel
theorem dX8_readPoint_13 : decode cX8_readPoint 13 = .ok (.iload 4, 2) := by decide +kernel
theorem dX8_readPoint_15 : decode cX8_readPoint 15 = .ok (.ifCond .eq 23, 3) := by decide +kernel
theorem dX8_readPoint_18 : decode cX8_readPoint 18 = .ok (.aload_n 2, 1) := by decide +kernel
theorem dX8_readPoint_19 : decode cX8_readPoint 19 = .ok (.getfield 108, 3) := by decide +kernel
theorem dX8_readPoint_22 : decode cX8_readPoint 22 = .ok (.bipush 8, 2) := by decide +kernel
theorem dX8_readPoint_24 : decode cX8_readPoint 24 = .ok (.if_icmp .lt 10, 3) := by decide +kernel
theorem dX8_readPoint_27 : decode cX8_readPoint 27 = .ok (.aload_n 1, 1) := by decide +kernel
theorem dX8_readPoint_28 : decode cX8_readPoint 28 = .ok (.bipush 6, 2) := by decide +kernel
theorem dX8_readPoint_30 : decode cX8_readPoint 30 = .ok (.invokevirtual 50, 3) := by decide +kernel
theorem dX8_readPoint_33 : decode cX8_readPoint 33 = .ok (.ireturn, 1) := by decide +kernel
theorem dX8_readPoint_34 : decode cX8_readPoint 34 = .ok (.aload_n 1, 1) := by decide +kernel
theorem dX8_readPoint_35 : decode cX8_readPoint 35 = .ok (.invokevirtual 54, 3) := by decide +kernel
theorem dX8_readPoint_38 : decode cX8_readPoint 38 = .ok (.aload_n 1, 1) := by decide +kernel
theorem dX8_readPoint_39 : decode cX8_readPoint 39 = .ok (.ldc 111, 2) := by decide +kernel
theorem dX8_readPoint_41 : decode cX8_readPoint 41 = .ok (.invokevirtual 22, 3) := by decide +kernel
theorem dX8_readPoint_44 : decode cX8_readPoint 44 = .ok (.istore 5, 2) := by decide +kernel
theorem dX8_readPoint_46 : decode cX8_readPoint 46 = .ok (.iload 5, 2) := by decide +kernel
theorem dX8_readPoint_48 : decode cX8_readPoint 48 = .ok (.ifCond .ne 17, 3) := by decide +kernel
theorem dX8_readPoint_51 : decode cX8_readPoint 51 = .ok (.aload_n 1, 1) := by decide +kernel
theorem dX8_readPoint_52 : decode cX8_readPoint 52 = .ok (.ldc 113, 2) := by decide +kernel
theorem dX8_readPoint_54 : decode cX8_readPoint 54 = .ok (.invokevirtual 22, 3) := by decide +kernel
theorem dX8_readPoint_57 : decode cX8_readPoint 57 = .ok (.ifCond .ne 8, 3) := by decide +kernel
theorem dX8_readPoint_60 : decode cX8_readPoint 60 = .ok (.aload_n 1, 1) := by decide +kernel
theorem dX8_readPoint_61 : decode cX8_readPoint 61 = .ok (.invokevirtual 61, 3) := by decide +kernel
theorem dX8_readPoint_64 : decode cX8_readPoint 64 = .ok (.ireturn, 1) := by decide +kernel
theorem dX8_readPoint_65 : decode cX8_readPoint 65 = .ok (.iload 5, 2) := by decide +kernel
theorem dX8_readPoint_67 : decode cX8_readPoint 67 = .ok (.ifCond .eq 15, 3) := by decide +kernel
theorem dX8_readPoint_70 : decode cX8_readPoint 70 = .ok (.aload_n 2, 1) := by decide +kernel
theorem dX8_readPoint_71 : decode cX8_readPoint 71 = .ok (.invokevirtual 115, 3) := by decide +kernel
theorem dX8_readPoint_74 : decode cX8_readPoint 74 = .ok (.iconst 5, 1) := by decide +kernel
theorem dX8_readPoint_75 : decode cX8_readPoint 75 = .ok (.if_icmp .lt 7, 3) := by decide +kernel
theorem dX8_readPoint_78 : decode cX8_readPoint 78 = .ok (.iconst 1, 1) := by decide +kernel
theorem dX8_readPoint_79 : decode cX8_readPoint 79 = .ok (.goto 4, 3) := by decide +kernel
theorem dX8_readPoint_82 : decode cX8_readPoint 82 = .ok (.iconst 0, 1) := by decide +kernel
theorem dX8_readPoint_83 : decode cX8_readPoint 83 = .ok (.istore 6, 2) := by decide +kernel
theorem dX8_readPoint_85 : decode cX8_readPoint 85 = .ok (.iload 6, 2) := by decide +kernel
theorem dX8_readPoint_87 : decode cX8_readPoint 87 = .ok (.ifCond .ne 12, 3) := by decide +kernel
theorem dX8_readPoint_90 : decode cX8_readPoint 90 = .ok (.aload_n 2, 1) := by decide +kernel
theorem dX8_readPoint_91 : decode cX8_readPoint 91 = .ok (.getfield 108, 3) := by decide +kernel
theorem dX8_readPoint_94 : decode cX8_readPoint 94 = .ok (.bipush 8, 2) := by decide +kernel
theorem dX8_readPoint_96 : decode cX8_readPoint 96 = .ok (.if_icmp .lt 11, 3) := by decide +kernel
theorem dX8_readPoint_99 : decode cX8_readPoint 99 = .ok (.aload_n 1, 1) := by decide +kernel
theorem dX8_readPoint_100 : decode cX8_readPoint 100 = .ok (.iload_n 3, 1) := by decide +kernel
theorem dX8_readPoint_101 : decode cX8_readPoint 101 = .ok (.bipush 6, 2) := by decide +kernel
theorem dX8_readPoint_103 : decode cX8_readPoint 103 = .ok (.invokevirtual 119, 3) := by decide +kernel
theorem dX8_readPoint_106 : decode cX8_readPoint 106 = .ok (.ireturn, 1) := by decide +kernel
theorem dX8_readPoint_107 : decode cX8_readPoint 107 = .ok (.aload_n 1, 1) := by decide +kernel
theorem dX8_readPoint_108 : decode cX8_readPoint 108 = .ok (.invokevirtual 54, 3) := by decide +kernel
theorem dX8_readPoint_111 : decode cX8_readPoint 111 = .ok (.aload_n 0, 1) := by decide +kernel
theorem dX8_readPoint_112 : decode cX8_readPoint 112 = .ok (.aload_n 1, 1) := by decide +kernel
theorem dX8_readPoint_113 : decode cX8_readPoint 113 = .ok (.aload_n 2, 1) := by decide +kernel
theorem dX8_readPoint_114 : decode cX8_readPoint 114 = .ok (.aload_n 2, 1) := by decide +kernel
theorem dX8_readPoint_115 : decode cX8_readPoint 115 = .ok (.iload 5, 2) := by decide +kernel
theorem dX8_readPoint_117 : decode cX8_readPoint 117 = .ok (.iload 4, 2) := by decide +kernel
theorem dX8_readPoint_119 : decode cX8_readPoint 119 = .ok (.invokevirtual 123, 3) := by decide +kernel
theorem dX8_readPoint_122 : decode cX8_readPoint 122 = .ok (.invokevirtual 127, 3) := by decide +kernel
theorem dX8_readPoint_125 : decode cX8_readPoint 125 = .ok (.ireturn, 1) := by decide +kernel
theorem dX8_readRow_0 : decode cX8_readRow 0 = .ok (.iconst 0, 1) := by decide +kernel
theorem dX8_readRow_1 : decode cX8_readRow 1 = .ok (.istore 4, 2) := by decide +kernel
theorem dX8_readRow_3 : decode cX8_readRow 3 = .ok (.iload 4, 2) := by decide +kernel
theorem dX8_readRow_5 : decode cX8_readRow 5 = .ok (.bipush 6, 2) := by decide +kernel
theorem dX8_readRow_7 : decode cX8_readRow 7 = .ok (.if_icmp .gt 129, 3) := by decide +kernel
theorem dX8_readRow_10 : decode cX8_readRow 10 = .ok (.iload 4, 2) := by decide +kernel
theorem dX8_readRow_12 : decode cX8_readRow 12 = .ok (.ifCond .le 14, 3) := by decide +kernel
theorem dX8_readRow_15 : decode cX8_readRow 15 = .ok (.aload_n 1, 1) := by decide +kernel
theorem dX8_readRow_16 : decode cX8_readRow 16 = .ok (.bipush 59, 2) := by decide +kernel
theorem dX8_readRow_18 : decode cX8_readRow 18 = .ok (.invokevirtual 131, 3) := by decide +kernel
theorem dX8_readRow_21 : decode cX8_readRow 21 = .ok (.ifCond .eq 5, 3) := by decide +kernel
theorem dX8_readRow_24 : decode cX8_readRow 24 = .ok (.iconst 1, 1) := by decide +kernel
theorem dX8_readRow_25 : decode cX8_readRow 25 = .ok (.ireturn, 1) := by decide +kernel
theorem dX8_readRow_26 : decode cX8_readRow 26 = .ok (.aload_n 0, 1) := by decide +kernel
theorem dX8_readRow_27 : decode cX8_readRow 27 = .ok (.aload_n 1, 1) := by decide +kernel
theorem dX8_readRow_28 : decode cX8_readRow 28 = .ok (.aload_n 2, 1) := by decide +kernel
theorem dX8_readRow_29 : decode cX8_readRow 29 = .ok (.invokevirtual 84, 3) := by decide +kernel
theorem dX8_readRow_32 : decode cX8_readRow 32 = .ok (.istore 5, 2) := by decide +kernel
theorem dX8_readRow_34 : decode cX8_readRow 34 = .ok (.iload 5, 2) := by decide +kernel
theorem dX8_readRow_36 : decode cX8_readRow 36 = .ok (.ifCond .ge 5, 3) := by decide +kernel
theorem dX8_readRow_39 : decode cX8_readRow 39 = .ok (.iconst 0, 1) := by decide +kernel
theorem dX8_readRow_40 : decode cX8_readRow 40 = .ok (.ireturn, 1) := by decide +kernel
theorem dX8_readRow_41 : decode cX8_readRow 41 = .ok (.iload 4, 2) := by decide +kernel
theorem dX8_readRow_43 : decode cX8_readRow 43 = .ok (.bipush 6, 2) := by decide +kernel
theorem dX8_readRow_45 : decode cX8_readRow 45 = .ok (.if_icmp .ge 12, 3) := by decide +kernel
theorem dX8_readRow_48 : decode cX8_readRow 48 = .ok (.aload_n 2, 1) := by decide +kernel
theorem dX8_readRow_49 : decode cX8_readRow 49 = .ok (.getfield 134, 3) := by decide +kernel
theorem dX8_readRow_52 : decode cX8_readRow 52 = .ok (.bipush 12, 2) := by decide +kernel
theorem dX8_readRow_54 : decode cX8_readRow 54 = .ok (.if_icmp .lt 10, 3) := by decide +kernel
theorem dX8_readRow_57 : decode cX8_readRow 57 = .ok (.aload_n 1, 1) := by decide +kernel
theorem dX8_readRow_58 : decode cX8_readRow 58 = .ok (.bipush 6, 2) := by decide +kernel
theorem dX8_readRow_60 : decode cX8_readRow 60 = .ok (.invokevirtual 50, 3) := by decide +kernel
theorem dX8_readRow_63 : decode cX8_readRow 63 = .ok (.ireturn, 1) := by decide +kernel
theorem dX8_readRow_64 : decode cX8_readRow 64 = .ok (.aload_n 1, 1) := by decide +kernel
theorem dX8_readRow_65 : decode cX8_readRow 65 = .ok (.invokevirtual 54, 3) := by decide +kernel
theorem dX8_readRow_68 : decode cX8_readRow 68 = .ok (.aload_n 1, 1) := by decide +kernel
theorem dX8_readRow_69 : decode cX8_readRow 69 = .ok (.bipush 39, 2) := by decide +kernel
theorem dX8_readRow_71 : decode cX8_readRow 71 = .ok (.invokevirtual 131, 3) := by decide +kernel
theorem dX8_readRow_74 : decode cX8_readRow 74 = .ok (.istore 6, 2) := by decide +kernel
theorem dX8_readRow_76 : decode cX8_readRow 76 = .ok (.iload 6, 2) := by decide +kernel
theorem dX8_readRow_78 : decode cX8_readRow 78 = .ok (.ifCond .eq 23, 3) := by decide +kernel
theorem dX8_readRow_81 : decode cX8_readRow 81 = .ok (.aload_n 2, 1) := by decide +kernel
theorem dX8_readRow_82 : decode cX8_readRow 82 = .ok (.getfield 88, 3) := by decide +kernel
theorem dX8_readRow_85 : decode cX8_readRow 85 = .ok (.iload 5, 2) := by decide +kernel
theorem dX8_readRow_87 : decode cX8_readRow 87 = .ok (.baload, 1) := by decide +kernel
theorem dX8_readRow_88 : decode cX8_readRow 88 = .ok (.ifCond .ne 9, 3) := by decide +kernel
theorem dX8_readRow_91 : decode cX8_readRow 91 = .ok (.aload_n 1, 1) := by decide +kernel
theorem dX8_readRow_92 : decode cX8_readRow 92 = .ok (.iconst 4, 1) := by decide +kernel
theorem dX8_readRow_93 : decode cX8_readRow 93 = .ok (.invokevirtual 50, 3) := by decide +kernel
theorem dX8_readRow_96 : decode cX8_readRow 96 = .ok (.ireturn, 1) := by decide +kernel
theorem dX8_readRow_97 : decode cX8_readRow 97 = .ok (.aload_n 1, 1) := by decide +kernel
theorem dX8_readRow_98 : decode cX8_readRow 98 = .ok (.invokevirtual 54, 3) := by decide +kernel
theorem dX8_readRow_101 : decode cX8_readRow 101 = .ok (.aload_n 3, 1) := by decide +kernel
theorem dX8_readRow_102 : decode cX8_readRow 102 = .ok (.iconst 2, 1) := by decide +kernel
theorem dX8_readRow_103 : decode cX8_readRow 103 = .ok (.iload 5, 2) := by decide +kernel
theorem dX8_readRow_105 : decode cX8_readRow 105 = .ok (.imul, 1) := by decide +kernel
theorem dX8_readRow_106 : decode cX8_readRow 106 = .ok (.iload 6, 2) := by decide +kernel
theorem dX8_readRow_108 : decode cX8_readRow 108 = .ok (.ifCond .eq 7, 3) := by decide +kernel
theorem dX8_readRow_111 : decode cX8_readRow 111 = .ok (.iconst 1, 1) := by decide +kernel
theorem dX8_readRow_112 : decode cX8_readRow 112 = .ok (.goto 4, 3) := by decide +kernel
theorem dX8_readRow_115 : decode cX8_readRow 115 = .ok (.iconst 0, 1) := by decide +kernel
theorem dX8_readRow_116 : decode cX8_readRow 116 = .ok (.iadd, 1) := by decide +kernel
theorem dX8_readRow_117 : decode cX8_readRow 117 = .ok (.invokevirtual 137, 3) := by decide +kernel
theorem dX8_readRow_120 : decode cX8_readRow 120 = .ok (.aload_n 2, 1) := by decide +kernel
theorem dX8_readRow_121 : decode cX8_readRow 121 = .ok (.dup, 1) := by decide +kernel
theorem dX8_readRow_122 : decode cX8_readRow 122 = .ok (.getfield 134, 3) := by decide +kernel
theorem dX8_readRow_125 : decode cX8_readRow 125 = .ok (.iconst 1, 1) := by decide +kernel
theorem dX8_readRow_126 : decode cX8_readRow 126 = .ok (.iadd, 1) := by decide +kernel
theorem dX8_readRow_127 : decode cX8_readRow 127 = .ok (.putfield 134, 3) := by decide +kernel
theorem dX8_readRow_130 : decode cX8_readRow 130 = .ok (.iinc 4 1, 3) := by decide +kernel
theorem dX8_readRow_133 : decode cX8_readRow 133 = .ok (.goto (-130), 3) := by decide +kernel
theorem dX8_readRow_136 : decode cX8_readRow 136 = .ok (.iconst 1, 1) := by decide +kernel
theorem dX8_readRow_137 : decode cX8_readRow 137 = .ok (.ireturn, 1) := by decide +kernel
