theorem dX0_init_0 : decode cX0_init 0 = .ok (.aload_n 0, 1) := by decide +kernel
theorem dX0_init_1 : decode cX0_init 1 = .ok (.invokespecial 3, 3) := by decide +kernel
theorem dX0_init_4 : decode cX0_init 4 = .ok (.aload_n 0, 1) := by decide +kernel
theorem dX0_init_5 : decode cX0_init 5 = .ok (.new 9, 3) := by decide +kernel
theorem dX0_init_8 : decode cX0_init 8 = .ok (.dup, 1) := by decide +kernel
theorem dX0_init_9 : decode cX0_init 9 = .ok (.invokespecial 11, 3) := by decide +kernel
theorem dX0_init_12 : decode cX0_init 12 = .ok (.putfield 12, 3) := by decide +kernel
theorem dX0_init_15 : decode cX0_init 15 = .ok (.aload_n 0, 1) := by decide +kernel
theorem dX0_init_16 : decode cX0_init 16 = .ok (.new 18, 3) := by decide +kernel
theorem dX0_init_19 : decode cX0_init 19 = .ok (.dup, 1) := by decide +kernel
theorem dX0_init_20 : decode cX0_init 20 = .ok (.invokespecial 20, 3) := by decide +kernel
theorem dX0_init_23 : decode cX0_init 23 = .ok (.putfield 21, 3) := by decide +kernel
theorem dX0_init_26 : decode cX0_init 26 = .ok (.aload_n 0, 1) := by decide +kernel
theorem dX0_init_27 : decode cX0_init 27 = .ok (.bipush 120, 2) := by decide +kernel
theorem dX0_init_29 : decode cX0_init 29 = .ok (.newarray .int, 2) := by decide +kernel
theorem dX0_init_31 : decode cX0_init 31 = .ok (.putfield 25, 3) := by decide +kernel
theorem dX0_init_34 : decode cX0_init 34 = .ok (.aload_n 0, 1) := by decide +kernel
theorem dX0_init_35 : decode cX0_init 35 = .ok (.bipush 6, 2) := by decide +kernel
theorem dX0_init_37 : decode cX0_init 37 = .ok (.newarray .int, 2) := by decide +kernel
theorem dX0_init_39 : decode cX0_init 39 = .ok (.putfield 29, 3) := by decide +kernel
theorem dX0_init_42 : decode cX0_init 42 = .ok (.aload_n 0, 1) := by decide +kernel
theorem dX0_init_43 : decode cX0_init 43 = .ok (.bipush 6, 2) := by decide +kernel
theorem dX0_init_45 : decode cX0_init 45 = .ok (.newarray .int, 2) := by decide +kernel
theorem dX0_init_47 : decode cX0_init 47 = .ok (.putfield 32, 3) := by decide +kernel
theorem dX0_init_50 : decode cX0_init 50 = .ok (.aload_n 0, 1) := by decide +kernel
theorem dX0_init_51 : decode cX0_init 51 = .ok (.bipush 16, 2) := by decide +kernel
theorem dX0_init_53 : decode cX0_init 53 = .ok (.newarray .long, 2) := by decide +kernel
theorem dX0_init_55 : decode cX0_init 55 = .ok (.putfield 35, 3) := by decide +kernel
theorem dX0_init_58 : decode cX0_init 58 = .ok (.aload_n 0, 1) := by decide +kernel
theorem dX0_init_59 : decode cX0_init 59 = .ok (.bipush 16, 2) := by decide +kernel
theorem dX0_init_61 : decode cX0_init 61 = .ok (.newarray .int, 2) := by decide +kernel
theorem dX0_init_63 : decode cX0_init 63 = .ok (.putfield 39, 3) := by decide +kernel
theorem dX0_init_66 : decode cX0_init 66 = .ok (.aload_n 0, 1) := by decide +kernel
theorem dX0_init_67 : decode cX0_init 67 = .ok (.bipush 16, 2) := by decide +kernel
theorem dX0_init_69 : decode cX0_init 69 = .ok (.newarray .int, 2) := by decide +kernel
theorem dX0_init_71 : decode cX0_init 71 = .ok (.putfield 42, 3) := by decide +kernel
theorem dX0_init_74 : decode cX0_init 74 = .ok (.aload_n 0, 1) := by decide +kernel
theorem dX0_init_75 : decode cX0_init 75 = .ok (.bipush 16, 2) := by decide +kernel
theorem dX0_init_77 : decode cX0_init 77 = .ok (.newarray .int, 2) := by decide +kernel
theorem dX0_init_79 : decode cX0_init 79 = .ok (.putfield 45, 3) := by decide +kernel
theorem dX0_init_82 : decode cX0_init 82 = .ok (.aload_n 0, 1) := by decide +kernel
theorem dX0_init_83 : decode cX0_init 83 = .ok (.bipush 16, 2) := by decide +kernel
theorem dX0_init_85 : decode cX0_init 85 = .ok (.newarray .int, 2) := by decide +kernel
theorem dX0_init_87 : decode cX0_init 87 = .ok (.putfield 48, 3) := by decide +kernel
theorem dX0_init_90 : decode cX0_init 90 = .ok (.aload_n 0, 1) := by decide +kernel
theorem dX0_init_91 : decode cX0_init 91 = .ok (.bipush 16, 2) := by decide +kernel
theorem dX0_init_93 : decode cX0_init 93 = .ok (.newarray .int, 2) := by decide +kernel
theorem dX0_init_95 : decode cX0_init 95 = .ok (.putfield 51, 3) := by decide +kernel
theorem dX0_init_98 : decode cX0_init 98 = .ok (.aload_n 0, 1) := by decide +kernel
theorem dX0_init_99 : decode cX0_init 99 = .ok (.bipush 16, 2) := by decide +kernel
theorem dX0_init_101 : decode cX0_init 101 = .ok (.newarray .int, 2) := by decide +kernel
theorem dX0_init_103 : decode cX0_init 103 = .ok (.putfield 54, 3) := by decide +kernel
theorem dX0_init_106 : decode cX0_init 106 = .ok (.aload_n 0, 1) := by decide +kernel
theorem dX0_init_107 : decode cX0_init 107 = .ok (.bipush 16, 2) := by decide +kernel
theorem dX0_init_109 : decode cX0_init 109 = .ok (.newarray .int, 2) := by decide +kernel
theorem dX0_init_111 : decode cX0_init 111 = .ok (.putfield 57, 3) := by decide +kernel
theorem dX0_init_114 : decode cX0_init 114 = .ok (.return_, 1) := by decide +kernel
theorem dX0_build_0 : decode cX0_build 0 = .ok (.aload_n 0, 1) := by decide +kernel
theorem dX0_build_1 : decode cX0_build 1 = .ok (.aload_n 2, 1) := by decide +kernel
theorem dX0_build_2 : decode cX0_build 2 = .ok (.getfield 60, 3) := by decide +kernel
theorem dX0_build_5 : decode cX0_build 5 = .ok (.invokestatic 66, 3) := by decide +kernel
theorem dX0_build_8 : decode cX0_build 8 = .ok (.invokevirtual 70, 3) := by decide +kernel
theorem dX0_build_11 : decode cX0_build 11 = .ok (.aload_n 0, 1) := by decide +kernel
theorem dX0_build_12 : decode cX0_build 12 = .ok (.aload_n 1, 1) := by decide +kernel
theorem dX0_build_13 : decode cX0_build 13 = .ok (.getfield 74, 3) := by decide +kernel
theorem dX0_build_16 : decode cX0_build 16 = .ok (.iconst 2, 1) := by decide +kernel
theorem dX0_build_17 : decode cX0_build 17 = .ok (.idiv, 1) := by decide +kernel
theorem dX0_build_18 : decode cX0_build 18 = .ok (.putfield 79, 3) := by decide +kernel
theorem dX0_build_21 : decode cX0_build 21 = .ok (.aload_n 0, 1) := by decide +kernel
theorem dX0_build_22 : decode cX0_build 22 = .ok (.aload_n 1, 1) := by decide +kernel
theorem dX0_build_23 : decode cX0_build 23 = .ok (.invokevirtual 82, 3) := by decide +kernel
theorem dX0_build_26 : decode cX0_build 26 = .ok (.putfield 86, 3) := by decide +kernel
theorem dX0_build_29 : decode cX0_build 29 = .ok (.aload_n 0, 1) := by decide +kernel
theorem dX0_build_30 : decode cX0_build 30 = .ok (.aload_n 1, 1) := by decide +kernel
theorem dX0_build_31 : decode cX0_build 31 = .ok (.invokevirtual 88, 3) := by decide +kernel
theorem dX0_build_34 : decode cX0_build 34 = .ok (.putfield 91, 3) := by decide +kernel
theorem dX0_build_37 : decode cX0_build 37 = .ok (.aload_n 0, 1) := by decide +kernel
theorem dX0_build_38 : decode cX0_build 38 = .ok (.aload_n 1, 1) := by decide +kernel
theorem dX0_build_39 : decode cX0_build 39 = .ok (.invokevirtual 93, 3) := by decide +kernel
theorem dX0_build_42 : decode cX0_build 42 = .ok (.putfield 96, 3) := by decide +kernel
theorem dX0_build_45 : decode cX0_build 45 = .ok (.aload_n 0, 1) := by decide +kernel
theorem dX0_build_46 : decode cX0_build 46 = .ok (.iconst 0, 1) := by decide +kernel
theorem dX0_build_47 : decode cX0_build 47 = .ok (.putfield 98, 3) := by decide +kernel
theorem dX0_build_50 : decode cX0_build 50 = .ok (.aload_n 0, 1) := by decide +kernel
theorem dX0_build_51 : decode cX0_build 51 = .ok (.aload_n 1, 1) := by decide +kernel
theorem dX0_build_52 : decode cX0_build 52 = .ok (.iconst 0, 1) := by decide +kernel
theorem dX0_build_53 : decode cX0_build 53 = .ok (.iconst 0, 1) := by decide +kernel
theorem dX0_build_54 : decode cX0_build 54 = .ok (.iconst 0, 1) := by decide +kernel
theorem dX0_build_55 : decode cX0_build 55 = .ok (.invokevirtual 101, 3) := by decide +kernel
theorem dX0_build_58 : decode cX0_build 58 = .ok (.aload_n 0, 1) := by decide +kernel
theorem dX0_build_59 : decode cX0_build 59 = .ok (.getfield 12, 3) := by decide +kernel
theorem dX0_build_62 : decode cX0_build 62 = .ok (.aload_n 2, 1) := by decide +kernel
theorem dX0_build_63 : decode cX0_build 63 = .ok (.getfield 60, 3) := by decide +kernel
theorem dX0_build_66 : decode cX0_build 66 = .ok (.invokevirtual 105, 3) := by decide +kernel
theorem dX0_build_69 : decode cX0_build 69 = .ok (.aload_n 0, 1) := by decide +kernel
theorem dX0_build_70 : decode cX0_build 70 = .ok (.iconst 0, 1) := by decide +kernel
theorem dX0_build_71 : decode cX0_build 71 = .ok (.putfield 108, 3) := by decide +kernel
theorem dX0_build_74 : decode cX0_build 74 = .ok (.iconst 0, 1) := by decide +kernel
theorem dX0_build_75 : decode cX0_build 75 = .ok (.istore_n 3, 1) := by decide +kernel
theorem dX0_build_76 : decode cX0_build 76 = .ok (.iload_n 3, 1) := by decide +kernel
theorem dX0_build_77 : decode cX0_build 77 = .ok (.aload_n 2, 1) := by decide +kernel
theorem dX0_build_78 : decode cX0_build 78 = .ok (.getfield 60, 3) := by decide +kernel
theorem dX0_build_81 : decode cX0_build 81 = .ok (.if_icmp .ge 82, 3) := by decide +kernel
theorem dX0_build_84 : decode cX0_build 84 = .ok (.aload_n 0, 1) := by decide +kernel
theorem dX0_build_85 : decode cX0_build 85 = .ok (.aload_n 1, 1) := by decide +kernel
theorem dX0_build_86 : decode cX0_build 86 = .ok (.aload_n 2, 1) := by decide +kernel
theorem dX0_build_87 : decode cX0_build 87 = .ok (.iload_n 3, 1) := by decide +kernel
theorem dX0_build_88 : decode cX0_build 88 = .ok (.invokevirtual 109, 3) := by decide +kernel
theorem dX0_build_91 : decode cX0_build 91 = .ok (.lstore 4, 2) := by decide +kernel
theorem dX0_build_93 : decode cX0_build 93 = .ok (.aload_n 0, 1) := by decide +kernel
theorem dX0_build_94 : decode cX0_build 94 = .ok (.getfield 12, 3) := by decide +kernel
theorem dX0_build_97 : decode cX0_build 97 = .ok (.lload 4, 2) := by decide +kernel
theorem dX0_build_99 : decode cX0_build 99 = .ok (.invokevirtual 113, 3) := by decide +kernel
theorem dX0_build_102 : decode cX0_build 102 = .ok (.istore 6, 2) := by decide +kernel
theorem dX0_build_104 : decode cX0_build 104 = .ok (.iload 6, 2) := by decide +kernel
theorem dX0_build_106 : decode cX0_build 106 = .ok (.ifCond .ge 17, 3) := by decide +kernel
theorem dX0_build_109 : decode cX0_build 109 = .ok (.aload_n 0, 1) := by decide +kernel
theorem dX0_build_110 : decode cX0_build 110 = .ok (.getfield 108, 3) := by decide +kernel
theorem dX0_build_113 : decode cX0_build 113 = .ok (.istore 6, 2) := by decide +kernel
theorem dX0_build_115 : decode cX0_build 115 = .ok (.aload_n 0, 1) := by decide +kernel
theorem dX0_build_116 : decode cX0_build 116 = .ok (.aload_n 1, 1) := by decide +kernel
theorem dX0_build_117 : decode cX0_build 117 = .ok (.lload 4, 2) := by decide +kernel
theorem dX0_build_119 : decode cX0_build 119 = .ok (.iload_n 3, 1) := by decide +kernel
theorem dX0_build_120 : decode cX0_build 120 = .ok (.invokevirtual 117, 3) := by decide +kernel
theorem dX0_build_123 : decode cX0_build 123 = .ok (.aload_n 0, 1) := by decide +kernel
theorem dX0_build_124 : decode cX0_build 124 = .ok (.getfield 57, 3) := by decide +kernel
theorem dX0_build_127 : decode cX0_build 127 = .ok (.iload_n 3, 1) := by decide +kernel
theorem dX0_build_128 : decode cX0_build 128 = .ok (.iload 6, 2) := by decide +kernel
theorem dX0_build_130 : decode cX0_build 130 = .ok (.iastore, 1) := by decide +kernel
theorem dX0_build_131 : decode cX0_build 131 = .ok (.aload_n 0, 1) := by decide +kernel
theorem dX0_build_132 : decode cX0_build 132 = .ok (.getfield 39, 3) := by decide +kernel
theorem dX0_build_135 : decode cX0_build 135 = .ok (.iload 6, 2) := by decide +kernel
theorem dX0_build_137 : decode cX0_build 137 = .ok (.dup2, 1) := by decide +kernel
theorem dX0_build_138 : decode cX0_build 138 = .ok (.iaload, 1) := by decide +kernel
theorem dX0_build_139 : decode cX0_build 139 = .ok (.iconst 1, 1) := by decide +kernel
theorem dX0_build_140 : decode cX0_build 140 = .ok (.iadd, 1) := by decide +kernel
theorem dX0_build_141 : decode cX0_build 141 = .ok (.iastore, 1) := by decide +kernel
theorem dX0_build_142 : decode cX0_build 142 = .ok (.aload_n 0, 1) := by decide +kernel
theorem dX0_build_143 : decode cX0_build 143 = .ok (.getfield 42, 3) := by decide +kernel
theorem dX0_build_146 : decode cX0_build 146 = .ok (.iload 6, 2) := by decide +kernel
theorem dX0_build_148 : decode cX0_build 148 = .ok (.dup2, 1) := by decide +kernel
theorem dX0_build_149 : decode cX0_build 149 = .ok (.iaload, 1) := by decide +kernel
theorem dX0_build_150 : decode cX0_build 150 = .ok (.aload_n 2, 1) := by decide +kernel
theorem dX0_build_151 : decode cX0_build 151 = .ok (.iload_n 3, 1) := by decide +kernel
theorem dX0_build_152 : decode cX0_build 152 = .ok (.invokevirtual 121, 3) := by decide +kernel
theorem dX0_build_155 : decode cX0_build 155 = .ok (.iadd, 1) := by decide +kernel
theorem dX0_build_156 : decode cX0_build 156 = .ok (.iastore, 1) := by decide +kernel
theorem dX0_build_157 : decode cX0_build 157 = .ok (.iinc 3 1, 3) := by decide +kernel
theorem dX0_build_160 : decode cX0_build 160 = .ok (.goto (-84), 3) := by decide +kernel
theorem dX0_build_163 : decode cX0_build 163 = .ok (.aload_n 0, 1) := by decide +kernel
theorem dX0_build_164 : decode cX0_build 164 = .ok (.invokevirtual 124, 3) := by decide +kernel
theorem dX0_build_167 : decode cX0_build 167 = .ok (.aload_n 0, 1) := by decide +kernel
theorem dX0_build_168 : decode cX0_build 168 = .ok (.iconst 1, 1) := by decide +kernel
theorem dX0_build_169 : decode cX0_build 169 = .ok (.putfield 127, 3) := by decide +kernel
theorem dX0_build_172 : decode cX0_build 172 = .ok (.return_, 1) := by decide +kernel
theorem dX0_makeRoom_0 : decode cX0_makeRoom 0 = .ok (.iload_n 1, 1) := by decide +kernel
theorem dX0_makeRoom_1 : decode cX0_makeRoom 1 = .ok (.aload_n 0, 1) := by decide +kernel
theorem dX0_makeRoom_2 : decode cX0_makeRoom 2 = .ok (.getfield 35, 3) := by decide +kernel
theorem dX0_makeRoom_5 : decode cX0_makeRoom 5 = .ok (.arraylength, 1) := by decide +kernel
theorem dX0_makeRoom_6 : decode cX0_makeRoom 6 = .ok (.if_icmp .le 59, 3) := by decide +kernel
theorem dX0_makeRoom_9 : decode cX0_makeRoom 9 = .ok (.aload_n 0, 1) := by decide +kernel
theorem dX0_makeRoom_10 : decode cX0_makeRoom 10 = .ok (.iload_n 1, 1) := by decide +kernel
theorem dX0_makeRoom_11 : decode cX0_makeRoom 11 = .ok (.newarray .long, 2) := by decide +kernel
theorem dX0_makeRoom_13 : decode cX0_makeRoom 13 = .ok (.putfield 35, 3) := by decide +kernel
theorem dX0_makeRoom_16 : decode cX0_makeRoom 16 = .ok (.aload_n 0, 1) := by decide +kernel
theorem dX0_makeRoom_17 : decode cX0_makeRoom 17 = .ok (.iload_n 1, 1) := by decide +kernel
theorem dX0_makeRoom_18 : decode cX0_makeRoom 18 = .ok (.newarray .int, 2) := by decide +kernel
theorem dX0_makeRoom_20 : decode cX0_makeRoom 20 = .ok (.putfield 39, 3) := by decide +kernel
theorem dX0_makeRoom_23 : decode cX0_makeRoom 23 = .ok (.aload_n 0, 1) := by decide +kernel
theorem dX0_makeRoom_24 : decode cX0_makeRoom 24 = .ok (.iload_n 1, 1) := by decide +kernel
theorem dX0_makeRoom_25 : decode cX0_makeRoom 25 = .ok (.newarray .int, 2) := by decide +kernel
theorem dX0_makeRoom_27 : decode cX0_makeRoom 27 = .ok (.putfield 42, 3) := by decide +kernel
theorem dX0_makeRoom_30 : decode cX0_makeRoom 30 = .ok (.aload_n 0, 1) := by decide +kernel
theorem dX0_makeRoom_31 : decode cX0_makeRoom 31 = .ok (.iload_n 1, 1) := by decide +kernel
theorem dX0_makeRoom_32 : decode cX0_makeRoom 32 = .ok (.newarray .int, 2) := by decide +kernel
theorem dX0_makeRoom_34 : decode cX0_makeRoom 34 = .ok (.putfield 45, 3) := by decide +kernel
theorem dX0_makeRoom_37 : decode cX0_makeRoom 37 = .ok (.aload_n 0, 1) := by decide +kernel
theorem dX0_makeRoom_38 : decode cX0_makeRoom 38 = .ok (.iload_n 1, 1) := by decide +kernel
theorem dX0_makeRoom_39 : decode cX0_makeRoom 39 = .ok (.newarray .int, 2) := by decide +kernel
theorem dX0_makeRoom_41 : decode cX0_makeRoom 41 = .ok (.putfield 48, 3) := by decide +kernel
theorem dX0_makeRoom_44 : decode cX0_makeRoom 44 = .ok (.aload_n 0, 1) := by decide +kernel
theorem dX0_makeRoom_45 : decode cX0_makeRoom 45 = .ok (.iload_n 1, 1) := by decide +kernel
theorem dX0_makeRoom_46 : decode cX0_makeRoom 46 = .ok (.newarray .int, 2) := by decide +kernel
theorem dX0_makeRoom_48 : decode cX0_makeRoom 48 = .ok (.putfield 51, 3) := by decide +kernel
theorem dX0_makeRoom_51 : decode cX0_makeRoom 51 = .ok (.aload_n 0, 1) := by decide +kernel
theorem dX0_makeRoom_52 : decode cX0_makeRoom 52 = .ok (.iload_n 1, 1) := by decide +kernel
theorem dX0_makeRoom_53 : decode cX0_makeRoom 53 = .ok (.newarray .int, 2) := by decide +kernel
theorem dX0_makeRoom_55 : decode cX0_makeRoom 55 = .ok (.putfield 54, 3) := by decide +kernel
theorem dX0_makeRoom_58 : decode cX0_makeRoom 58 = .ok (.aload_n 0, 1) := by decide +kernel
theorem dX0_makeRoom_59 : decode cX0_makeRoom 59 = .ok (.iload_n 1, 1) := by decide +kernel
theorem dX0_makeRoom_60 : decode cX0_makeRoom 60 = .ok (.newarray .int, 2) := by decide +kernel
theorem dX0_makeRoom_62 : decode cX0_makeRoom 62 = .ok (.putfield 57, 3) := by decide +kernel
theorem dX0_makeRoom_65 : decode cX0_makeRoom 65 = .ok (.return_, 1) := by decide +kernel
theorem dX0_listChanges_0 : decode cX0_listChanges 0 = .ok (.iload_n 2, 1) := by decide +kernel
theorem dX0_listChanges_1 : decode cX0_listChanges 1 = .ok (.aload_n 1, 1) := by decide +kernel
theorem dX0_listChanges_2 : decode cX0_listChanges 2 = .ok (.getfield 131, 3) := by decide +kernel
theorem dX0_listChanges_5 : decode cX0_listChanges 5 = .ok (.if_icmp .lt 34, 3) := by decide +kernel
theorem dX0_listChanges_8 : decode cX0_listChanges 8 = .ok (.aload_n 0, 1) := by decide +kernel
theorem dX0_listChanges_9 : decode cX0_listChanges 9 = .ok (.getfield 98, 3) := by decide +kernel
theorem dX0_listChanges_12 : decode cX0_listChanges 12 = .ok (.bipush 120, 2) := by decide +kernel
theorem dX0_listChanges_14 : decode cX0_listChanges 14 = .ok (.if_icmp .ge 24, 3) := by decide +kernel
theorem dX0_listChanges_17 : decode cX0_listChanges 17 = .ok (.aload_n 0, 1) := by decide +kernel
theorem dX0_listChanges_18 : decode cX0_listChanges 18 = .ok (.getfield 25, 3) := by decide +kernel
theorem dX0_listChanges_21 : decode cX0_listChanges 21 = .ok (.aload_n 0, 1) := by decide +kernel
theorem dX0_listChanges_22 : decode cX0_listChanges 22 = .ok (.getfield 98, 3) := by decide +kernel
theorem dX0_listChanges_25 : decode cX0_listChanges 25 = .ok (.iload 4, 2) := by decide +kernel
theorem dX0_listChanges_27 : decode cX0_listChanges 27 = .ok (.iastore, 1) := by decide +kernel
theorem dX0_listChanges_28 : decode cX0_listChanges 28 = .ok (.aload_n 0, 1) := by decide +kernel
theorem dX0_listChanges_29 : decode cX0_listChanges 29 = .ok (.dup, 1) := by decide +kernel
theorem dX0_listChanges_30 : decode cX0_listChanges 30 = .ok (.getfield 98, 3) := by decide +kernel
theorem dX0_listChanges_33 : decode cX0_listChanges 33 = .ok (.iconst 1, 1) := by decide +kernel
theorem dX0_listChanges_34 : decode cX0_listChanges 34 = .ok (.iadd, 1) := by decide +kernel
theorem dX0_listChanges_35 : decode cX0_listChanges 35 = .ok (.putfield 98, 3) := by decide +kernel
theorem dX0_listChanges_38 : decode cX0_listChanges 38 = .ok (.return_, 1) := by decide +kernel
theorem dX0_listChanges_39 : decode cX0_listChanges 39 = .ok (.iconst 0, 1) := by decide +kernel
theorem dX0_listChanges_40 : decode cX0_listChanges 40 = .ok (.istore 5, 2) := by decide +kernel
theorem dX0_listChanges_42 : decode cX0_listChanges 42 = .ok (.iload 5, 2) := by decide +kernel
theorem dX0_listChanges_44 : decode cX0_listChanges 44 = .ok (.aload_n 1, 1) := by decide +kernel
theorem dX0_listChanges_45 : decode cX0_listChanges 45 = .ok (.getfield 131, 3) := by decide +kernel
theorem dX0_listChanges_48 : decode cX0_listChanges 48 = .ok (.if_icmp .ge 78, 3) := by decide +kernel
theorem dX0_listChanges_51 : decode cX0_listChanges 51 = .ok (.iload_n 2, 1) := by decide +kernel
theorem dX0_listChanges_52 : decode cX0_listChanges 52 = .ok (.iload 5, 2) := by decide +kernel
theorem dX0_listChanges_54 : decode cX0_listChanges 54 = .ok (.if_icmp .eq 22, 3) := by decide +kernel
theorem dX0_listChanges_57 : decode cX0_listChanges 57 = .ok (.aload_n 1, 1) := by decide +kernel
theorem dX0_listChanges_58 : decode cX0_listChanges 58 = .ok (.getfield 134, 3) := by decide +kernel
theorem dX0_listChanges_61 : decode cX0_listChanges 61 = .ok (.iload_n 2, 1) := by decide +kernel
theorem dX0_listChanges_62 : decode cX0_listChanges 62 = .ok (.aaload, 1) := by decide +kernel
theorem dX0_listChanges_63 : decode cX0_listChanges 63 = .ok (.aload_n 1, 1) := by decide +kernel
theorem dX0_listChanges_64 : decode cX0_listChanges 64 = .ok (.getfield 134, 3) := by decide +kernel
theorem dX0_listChanges_67 : decode cX0_listChanges 67 = .ok (.iload 5, 2) := by decide +kernel
theorem dX0_listChanges_69 : decode cX0_listChanges 69 = .ok (.aaload, 1) := by decide +kernel
theorem dX0_listChanges_70 : decode cX0_listChanges 70 = .ok (.invokevirtual 138, 3) := by decide +kernel
theorem dX0_listChanges_73 : decode cX0_listChanges 73 = .ok (.ifCond .eq 7, 3) := by decide +kernel
theorem dX0_listChanges_76 : decode cX0_listChanges 76 = .ok (.iconst 1, 1) := by decide +kernel
theorem dX0_listChanges_77 : decode cX0_listChanges 77 = .ok (.goto 4, 3) := by decide +kernel
theorem dX0_listChanges_80 : decode cX0_listChanges 80 = .ok (.iconst 0, 1) := by decide +kernel
theorem dX0_listChanges_81 : decode cX0_listChanges 81 = .ok (.istore 6, 2) := by decide +kernel
theorem dX0_listChanges_83 : decode cX0_listChanges 83 = .ok (.iload 6, 2) := by decide +kernel
theorem dX0_listChanges_85 : decode cX0_listChanges 85 = .ok (.ifCond .eq 35, 3) := by decide +kernel
theorem dX0_listChanges_88 : decode cX0_listChanges 88 = .ok (.iload_n 3, 1) := by decide +kernel
theorem dX0_listChanges_89 : decode cX0_listChanges 89 = .ok (.iload 5, 2) := by decide +kernel
theorem dX0_listChanges_91 : decode cX0_listChanges 91 = .ok (.ishr, 1) := by decide +kernel
theorem dX0_listChanges_92 : decode cX0_listChanges 92 = .ok (.iconst 1, 1) := by decide +kernel
theorem dX0_listChanges_93 : decode cX0_listChanges 93 = .ok (.iand, 1) := by decide +kernel
theorem dX0_listChanges_94 : decode cX0_listChanges 94 = .ok (.ifCond .ne 26, 3) := by decide +kernel
theorem dX0_listChanges_97 : decode cX0_listChanges 97 = .ok (.aload_n 0, 1) := by decide +kernel
theorem dX0_listChanges_98 : decode cX0_listChanges 98 = .ok (.aload_n 1, 1) := by decide +kernel
theorem dX0_listChanges_99 : decode cX0_listChanges 99 = .ok (.iload_n 2, 1) := by decide +kernel
theorem dX0_listChanges_100 : decode cX0_listChanges 100 = .ok (.iconst 1, 1) := by decide +kernel
theorem dX0_listChanges_101 : decode cX0_listChanges 101 = .ok (.iadd, 1) := by decide +kernel
theorem dX0_listChanges_102 : decode cX0_listChanges 102 = .ok (.iload_n 3, 1) := by decide +kernel
theorem dX0_listChanges_103 : decode cX0_listChanges 103 = .ok (.iconst 1, 1) := by decide +kernel
theorem dX0_listChanges_104 : decode cX0_listChanges 104 = .ok (.iload 5, 2) := by decide +kernel
theorem dX0_listChanges_106 : decode cX0_listChanges 106 = .ok (.ishl, 1) := by decide +kernel
theorem dX0_listChanges_107 : decode cX0_listChanges 107 = .ok (.ior, 1) := by decide +kernel
theorem dX0_listChanges_108 : decode cX0_listChanges 108 = .ok (.iload 4, 2) := by decide +kernel
theorem dX0_listChanges_110 : decode cX0_listChanges 110 = .ok (.iload 5, 2) := by decide +kernel
theorem dX0_listChanges_112 : decode cX0_listChanges 112 = .ok (.iconst 3, 1) := by decide +kernel
theorem dX0_listChanges_113 : decode cX0_listChanges 113 = .ok (.iload_n 2, 1) := by decide +kernel
theorem dX0_listChanges_114 : decode cX0_listChanges 114 = .ok (.imul, 1) := by decide +kernel
theorem dX0_listChanges_115 : decode cX0_listChanges 115 = .ok (.ishl, 1) := by decide +kernel
theorem dX0_listChanges_116 : decode cX0_listChanges 116 = .ok (.ior, 1) := by decide +kernel
theorem dX0_listChanges_117 : decode cX0_listChanges 117 = .ok (.invokevirtual 101, 3) := by decide +kernel
theorem dX0_listChanges_120 : decode cX0_listChanges 120 = .ok (.iinc 5 1, 3) := by decide +kernel
theorem dX0_listChanges_123 : decode cX0_listChanges 123 = .ok (.goto (-81), 3) := by decide +kernel
theorem dX0_listChanges_126 : decode cX0_listChanges 126 = .ok (.return_, 1) := by decide +kernel
theorem dX0_rowOf_0 : decode cX0_rowOf 0 = .ok (.iconst 0, 1) := by decide +kernel
theorem dX0_rowOf_1 : decode cX0_rowOf 1 = .ok (.istore 4, 2) := by decide +kernel
theorem dX0_rowOf_3 : decode cX0_rowOf 3 = .ok (.iconst 0, 1) := by decide +kernel
theorem dX0_rowOf_4 : decode cX0_rowOf 4 = .ok (.istore 5, 2) := by decide +kernel
theorem dX0_rowOf_6 : decode cX0_rowOf 6 = .ok (.iload 5, 2) := by decide +kernel
theorem dX0_rowOf_8 : decode cX0_rowOf 8 = .ok (.aload_n 1, 1) := by decide +kernel
theorem dX0_rowOf_9 : decode cX0_rowOf 9 = .ok (.getfield 74, 3) := by decide +kernel
theorem dX0_rowOf_12 : decode cX0_rowOf 12 = .ok (.if_icmp .ge 50, 3) := by decide +kernel
theorem dX0_rowOf_15 : decode cX0_rowOf 15 = .ok (.iload 4, 2) := by decide +kernel
theorem dX0_rowOf_17 : decode cX0_rowOf 17 = .ok (.bipush 6, 2) := by decide +kernel
theorem dX0_rowOf_19 : decode cX0_rowOf 19 = .ok (.if_icmp .ge 43, 3) := by decide +kernel
theorem dX0_rowOf_22 : decode cX0_rowOf 22 = .ok (.aload_n 2, 1) := by decide +kernel
theorem dX0_rowOf_23 : decode cX0_rowOf 23 = .ok (.iload_n 3, 1) := by decide +kernel
theorem dX0_rowOf_24 : decode cX0_rowOf 24 = .ok (.iload 5, 2) := by decide +kernel
theorem dX0_rowOf_26 : decode cX0_rowOf 26 = .ok (.invokevirtual 144, 3) := by decide +kernel
theorem dX0_rowOf_29 : decode cX0_rowOf 29 = .ok (.istore 6, 2) := by decide +kernel
theorem dX0_rowOf_31 : decode cX0_rowOf 31 = .ok (.iload 5, 2) := by decide +kernel
theorem dX0_rowOf_33 : decode cX0_rowOf 33 = .ok (.iload 6, 2) := by decide +kernel
theorem dX0_rowOf_35 : decode cX0_rowOf 35 = .ok (.if_icmp .ge 21, 3) := by decide +kernel
theorem dX0_rowOf_38 : decode cX0_rowOf 38 = .ok (.aload_n 0, 1) := by decide +kernel
theorem dX0_rowOf_39 : decode cX0_rowOf 39 = .ok (.getfield 29, 3) := by decide +kernel
theorem dX0_rowOf_42 : decode cX0_rowOf 42 = .ok (.iload 4, 2) := by decide +kernel
theorem dX0_rowOf_44 : decode cX0_rowOf 44 = .ok (.aload_n 1, 1) := by decide +kernel
theorem dX0_rowOf_45 : decode cX0_rowOf 45 = .ok (.iload 5, 2) := by decide +kernel
theorem dX0_rowOf_47 : decode cX0_rowOf 47 = .ok (.iload 6, 2) := by decide +kernel
theorem dX0_rowOf_49 : decode cX0_rowOf 49 = .ok (.invokevirtual 148, 3) := by decide +kernel
theorem dX0_rowOf_52 : decode cX0_rowOf 52 = .ok (.iastore, 1) := by decide +kernel
theorem dX0_rowOf_53 : decode cX0_rowOf 53 = .ok (.iinc 4 1, 3) := by decide +kernel
theorem dX0_rowOf_56 : decode cX0_rowOf 56 = .ok (.iinc 5 1, 3) := by decide +kernel
theorem dX0_rowOf_59 : decode cX0_rowOf 59 = .ok (.goto (-53), 3) := by decide +kernel
theorem dX0_rowOf_62 : decode cX0_rowOf 62 = .ok (.aload_n 0, 1) := by decide +kernel
theorem dX0_rowOf_63 : decode cX0_rowOf 63 = .ok (.getfield 29, 3) := by decide +kernel
theorem dX0_rowOf_66 : decode cX0_rowOf 66 = .ok (.iload 4, 2) := by decide +kernel
theorem dX0_rowOf_68 : decode cX0_rowOf 68 = .ok (.invokestatic 151, 3) := by decide +kernel
theorem dX0_rowOf_71 : decode cX0_rowOf 71 = .ok (.lreturn, 1) := by decide +kernel
theorem dX0_open_0 : decode cX0_open 0 = .ok (.lload_n 2, 1) := by decide +kernel
theorem dX0_open_1 : decode cX0_open 1 = .ok (.lstore 5, 2) := by decide +kernel
theorem dX0_open_3 : decode cX0_open 3 = .ok (.iconst 0, 1) := by decide +kernel
theorem dX0_open_4 : decode cX0_open 4 = .ok (.istore 7, 2) := by decide +kernel
theorem dX0_open_6 : decode cX0_open 6 = .ok (.iconst 0, 1) := by decide +kernel
theorem dX0_open_7 : decode cX0_open 7 = .ok (.istore 8, 2) := by decide +kernel
theorem dX0_open_9 : decode cX0_open 9 = .ok (.iload 8, 2) := by decide +kernel
theorem dX0_open_11 : decode cX0_open 11 = .ok (.aload_n 0, 1) := by decide +kernel
theorem dX0_open_12 : decode cX0_open 12 = .ok (.getfield 98, 3) := by decide +kernel
theorem dX0_open_15 : decode cX0_open 15 = .ok (.if_icmp .ge 62, 3) := by decide +kernel
theorem dX0_open_18 : decode cX0_open 18 = .ok (.aload_n 0, 1) := by decide +kernel
theorem dX0_open_19 : decode cX0_open 19 = .ok (.aload_n 1, 1) := by decide +kernel
theorem dX0_open_20 : decode cX0_open 20 = .ok (.aload_n 0, 1) := by decide +kernel
theorem dX0_open_21 : decode cX0_open 21 = .ok (.getfield 25, 3) := by decide +kernel
theorem dX0_open_24 : decode cX0_open 24 = .ok (.iload 8, 2) := by decide +kernel
theorem dX0_open_26 : decode cX0_open 26 = .ok (.iaload, 1) := by decide +kernel
theorem dX0_open_27 : decode cX0_open 27 = .ok (.invokevirtual 155, 3) := by decide +kernel
theorem dX0_open_30 : decode cX0_open 30 = .ok (.lstore 9, 2) := by decide +kernel
theorem dX0_open_32 : decode cX0_open 32 = .ok (.lload 5, 2) := by decide +kernel
theorem dX0_open_34 : decode cX0_open 34 = .ok (.lload 9, 2) := by decide +kernel
theorem dX0_open_36 : decode cX0_open 36 = .ok (.invokestatic 159, 3) := by decide +kernel
theorem dX0_open_39 : decode cX0_open 39 = .ok (.lstore 5, 2) := by decide +kernel
theorem dX0_open_41 : decode cX0_open 41 = .ok (.iload 7, 2) := by decide +kernel
theorem dX0_open_43 : decode cX0_open 43 = .ok (.lload 9, 2) := by decide +kernel
theorem dX0_open_45 : decode cX0_open 45 = .ok (.lload_n 2, 1) := by decide +kernel
theorem dX0_open_46 : decode cX0_open 46 = .ok (.lcmp, 1) := by decide +kernel
theorem dX0_open_47 : decode cX0_open 47 = .ok (.ifCond .ne 7, 3) := by decide +kernel
theorem dX0_open_50 : decode cX0_open 50 = .ok (.iconst 1, 1) := by decide +kernel
theorem dX0_open_51 : decode cX0_open 51 = .ok (.goto 4, 3) := by decide +kernel
theorem dX0_open_54 : decode cX0_open 54 = .ok (.iconst 0, 1) := by decide +kernel
theorem dX0_open_55 : decode cX0_open 55 = .ok (.iadd, 1) := by decide +kernel
theorem dX0_open_56 : decode cX0_open 56 = .ok (.istore 7, 2) := by decide +kernel
theorem dX0_open_58 : decode cX0_open 58 = .ok (.aload_n 0, 1) := by decide +kernel
theorem dX0_open_59 : decode cX0_open 59 = .ok (.getfield 12, 3) := by decide +kernel
theorem dX0_open_62 : decode cX0_open 62 = .ok (.lload 9, 2) := by decide +kernel
theorem dX0_open_64 : decode cX0_open 64 = .ok (.aload_n 0, 1) := by decide +kernel
theorem dX0_open_65 : decode cX0_open 65 = .ok (.getfield 108, 3) := by decide +kernel
theorem dX0_open_68 : decode cX0_open 68 = .ok (.invokevirtual 165, 3) := by decide +kernel
theorem dX0_open_71 : decode cX0_open 71 = .ok (.iinc 8 1, 3) := by decide +kernel
theorem dX0_open_74 : decode cX0_open 74 = .ok (.goto (-65), 3) := by decide +kernel
theorem dX0_open_77 : decode cX0_open 77 = .ok (.aload_n 0, 1) := by decide +kernel
theorem dX0_open_78 : decode cX0_open 78 = .ok (.getfield 35, 3) := by decide +kernel
theorem dX0_open_81 : decode cX0_open 81 = .ok (.aload_n 0, 1) := by decide +kernel
theorem dX0_open_82 : decode cX0_open 82 = .ok (.getfield 108, 3) := by decide +kernel
theorem dX0_open_85 : decode cX0_open 85 = .ok (.lload 5, 2) := by decide +kernel
theorem dX0_open_87 : decode cX0_open 87 = .ok (.lastore, 1) := by decide +kernel
theorem dX0_open_88 : decode cX0_open 88 = .ok (.aload_n 0, 1) := by decide +kernel
theorem dX0_open_89 : decode cX0_open 89 = .ok (.getfield 39, 3) := by decide +kernel
theorem dX0_open_92 : decode cX0_open 92 = .ok (.aload_n 0, 1) := by decide +kernel
theorem dX0_open_93 : decode cX0_open 93 = .ok (.getfield 108, 3) := by decide +kernel
theorem dX0_open_96 : decode cX0_open 96 = .ok (.iconst 0, 1) := by decide +kernel
theorem dX0_open_97 : decode cX0_open 97 = .ok (.iastore, 1) := by decide +kernel
theorem dX0_open_98 : decode cX0_open 98 = .ok (.aload_n 0, 1) := by decide +kernel
theorem dX0_open_99 : decode cX0_open 99 = .ok (.getfield 42, 3) := by decide +kernel
theorem dX0_open_102 : decode cX0_open 102 = .ok (.aload_n 0, 1) := by decide +kernel
theorem dX0_open_103 : decode cX0_open 103 = .ok (.getfield 108, 3) := by decide +kernel
theorem dX0_open_106 : decode cX0_open 106 = .ok (.iconst 0, 1) := by decide +kernel
theorem dX0_open_107 : decode cX0_open 107 = .ok (.iastore, 1) := by decide +kernel
theorem dX0_open_108 : decode cX0_open 108 = .ok (.aload_n 0, 1) := by decide +kernel
theorem dX0_open_109 : decode cX0_open 109 = .ok (.getfield 45, 3) := by decide +kernel
theorem dX0_open_112 : decode cX0_open 112 = .ok (.aload_n 0, 1) := by decide +kernel
theorem dX0_open_113 : decode cX0_open 113 = .ok (.getfield 108, 3) := by decide +kernel
theorem dX0_open_116 : decode cX0_open 116 = .ok (.iload 4, 2) := by decide +kernel
theorem dX0_open_118 : decode cX0_open 118 = .ok (.iastore, 1) := by decide +kernel
theorem dX0_open_119 : decode cX0_open 119 = .ok (.aload_n 0, 1) := by decide +kernel
theorem dX0_open_120 : decode cX0_open 120 = .ok (.getfield 48, 3) := by decide +kernel
theorem dX0_open_123 : decode cX0_open 123 = .ok (.aload_n 0, 1) := by decide +kernel
theorem dX0_open_124 : decode cX0_open 124 = .ok (.getfield 108, 3) := by decide +kernel
theorem dX0_open_127 : decode cX0_open 127 = .ok (.iload 7, 2) := by decide +kernel
theorem dX0_open_129 : decode cX0_open 129 = .ok (.iastore, 1) := by decide +kernel
theorem dX0_open_130 : decode cX0_open 130 = .ok (.aload_n 0, 1) := by decide +kernel
theorem dX0_open_131 : decode cX0_open 131 = .ok (.dup, 1) := by decide +kernel
theorem dX0_open_132 : decode cX0_open 132 = .ok (.getfield 108, 3) := by decide +kernel
theorem dX0_open_135 : decode cX0_open 135 = .ok (.iconst 1, 1) := by decide +kernel
theorem dX0_open_136 : decode cX0_open 136 = .ok (.iadd, 1) := by decide +kernel
theorem dX0_open_137 : decode cX0_open 137 = .ok (.putfield 108, 3) := by decide +kernel
theorem dX0_open_140 : decode cX0_open 140 = .ok (.return_, 1) := by decide +kernel
theorem dX0_imageOf_0 : decode cX0_imageOf 0 = .ok (.iconst 0, 1) := by decide +kernel
theorem dX0_imageOf_1 : decode cX0_imageOf 1 = .ok (.istore_n 3, 1) := by decide +kernel
theorem dX0_imageOf_2 : decode cX0_imageOf 2 = .ok (.iload_n 3, 1) := by decide +kernel
theorem dX0_imageOf_3 : decode cX0_imageOf 3 = .ok (.aload_n 0, 1) := by decide +kernel
theorem dX0_imageOf_4 : decode cX0_imageOf 4 = .ok (.getfield 79, 3) := by decide +kernel
theorem dX0_imageOf_7 : decode cX0_imageOf 7 = .ok (.if_icmp .ge 71, 3) := by decide +kernel
theorem dX0_imageOf_10 : decode cX0_imageOf 10 = .ok (.iload_n 2, 1) := by decide +kernel
theorem dX0_imageOf_11 : decode cX0_imageOf 11 = .ok (.iconst 3, 1) := by decide +kernel
theorem dX0_imageOf_12 : decode cX0_imageOf 12 = .ok (.aload_n 0, 1) := by decide +kernel
theorem dX0_imageOf_13 : decode cX0_imageOf 13 = .ok (.getfield 29, 3) := by decide +kernel
theorem dX0_imageOf_16 : decode cX0_imageOf 16 = .ok (.iload_n 3, 1) := by decide +kernel
theorem dX0_imageOf_17 : decode cX0_imageOf 17 = .ok (.iaload, 1) := by decide +kernel
theorem dX0_imageOf_18 : decode cX0_imageOf 18 = .ok (.bipush 100, 2) := by decide +kernel
theorem dX0_imageOf_20 : decode cX0_imageOf 20 = .ok (.idiv, 1) := by decide +kernel
theorem dX0_imageOf_21 : decode cX0_imageOf 21 = .ok (.imul, 1) := by decide +kernel
theorem dX0_imageOf_22 : decode cX0_imageOf 22 = .ok (.ishr, 1) := by decide +kernel
theorem dX0_imageOf_23 : decode cX0_imageOf 23 = .ok (.bipush 7, 2) := by decide +kernel
theorem dX0_imageOf_25 : decode cX0_imageOf 25 = .ok (.iand, 1) := by decide +kernel
theorem dX0_imageOf_26 : decode cX0_imageOf 26 = .ok (.istore 4, 2) := by decide +kernel
theorem dX0_imageOf_28 : decode cX0_imageOf 28 = .ok (.iload_n 2, 1) := by decide +kernel
theorem dX0_imageOf_29 : decode cX0_imageOf 29 = .ok (.iconst 3, 1) := by decide +kernel
theorem dX0_imageOf_30 : decode cX0_imageOf 30 = .ok (.aload_n 0, 1) := by decide +kernel
theorem dX0_imageOf_31 : decode cX0_imageOf 31 = .ok (.getfield 29, 3) := by decide +kernel
theorem dX0_imageOf_34 : decode cX0_imageOf 34 = .ok (.iload_n 3, 1) := by decide +kernel
theorem dX0_imageOf_35 : decode cX0_imageOf 35 = .ok (.iaload, 1) := by decide +kernel
theorem dX0_imageOf_36 : decode cX0_imageOf 36 = .ok (.bipush 10, 2) := by decide +kernel
theorem dX0_imageOf_38 : decode cX0_imageOf 38 = .ok (.idiv, 1) := by decide +kernel
theorem dX0_imageOf_39 : decode cX0_imageOf 39 = .ok (.bipush 10, 2) := by decide +kernel
theorem dX0_imageOf_41 : decode cX0_imageOf 41 = .ok (.irem, 1) := by decide +kernel
theorem dX0_imageOf_42 : decode cX0_imageOf 42 = .ok (.imul, 1) := by decide +kernel
theorem dX0_imageOf_43 : decode cX0_imageOf 43 = .ok (.ishr, 1) := by decide +kernel
theorem dX0_imageOf_44 : decode cX0_imageOf 44 = .ok (.bipush 7, 2) := by decide +kernel
theorem dX0_imageOf_46 : decode cX0_imageOf 46 = .ok (.iand, 1) := by decide +kernel
theorem dX0_imageOf_47 : decode cX0_imageOf 47 = .ok (.istore 5, 2) := by decide +kernel
theorem dX0_imageOf_49 : decode cX0_imageOf 49 = .ok (.aload_n 0, 1) := by decide +kernel
theorem dX0_imageOf_50 : decode cX0_imageOf 50 = .ok (.getfield 32, 3) := by decide +kernel
theorem dX0_imageOf_53 : decode cX0_imageOf 53 = .ok (.iload_n 3, 1) := by decide +kernel
theorem dX0_imageOf_54 : decode cX0_imageOf 54 = .ok (.aload_n 1, 1) := by decide +kernel
theorem dX0_imageOf_55 : decode cX0_imageOf 55 = .ok (.iload 4, 2) := by decide +kernel
theorem dX0_imageOf_57 : decode cX0_imageOf 57 = .ok (.iload 5, 2) := by decide +kernel
theorem dX0_imageOf_59 : decode cX0_imageOf 59 = .ok (.aload_n 0, 1) := by decide +kernel
theorem dX0_imageOf_60 : decode cX0_imageOf 60 = .ok (.getfield 29, 3) := by decide +kernel
theorem dX0_imageOf_63 : decode cX0_imageOf 63 = .ok (.iload_n 3, 1) := by decide +kernel
theorem dX0_imageOf_64 : decode cX0_imageOf 64 = .ok (.iaload, 1) := by decide +kernel
theorem dX0_imageOf_65 : decode cX0_imageOf 65 = .ok (.bipush 10, 2) := by decide +kernel
theorem dX0_imageOf_67 : decode cX0_imageOf 67 = .ok (.irem, 1) := by decide +kernel
theorem dX0_imageOf_68 : decode cX0_imageOf 68 = .ok (.invokevirtual 169, 3) := by decide +kernel
theorem dX0_imageOf_71 : decode cX0_imageOf 71 = .ok (.iastore, 1) := by decide +kernel
theorem dX0_imageOf_72 : decode cX0_imageOf 72 = .ok (.iinc 3 1, 3) := by decide +kernel
theorem dX0_imageOf_75 : decode cX0_imageOf 75 = .ok (.goto (-73), 3) := by decide +kernel
theorem dX0_imageOf_78 : decode cX0_imageOf 78 = .ok (.aload_n 0, 1) := by decide +kernel
theorem dX0_imageOf_79 : decode cX0_imageOf 79 = .ok (.getfield 32, 3) := by decide +kernel
theorem dX0_imageOf_82 : decode cX0_imageOf 82 = .ok (.aload_n 0, 1) := by decide +kernel
theorem dX0_imageOf_83 : decode cX0_imageOf 83 = .ok (.getfield 79, 3) := by decide +kernel
theorem dX0_imageOf_86 : decode cX0_imageOf 86 = .ok (.invokestatic 151, 3) := by decide +kernel
theorem dX0_imageOf_89 : decode cX0_imageOf 89 = .ok (.lreturn, 1) := by decide +kernel
theorem dX0_keyOf_0 : decode cX0_keyOf 0 = .ok (.lconst 0, 1) := by decide +kernel
theorem dX0_keyOf_1 : decode cX0_keyOf 1 = .ok (.lstore_n 2, 1) := by decide +kernel
theorem dX0_keyOf_2 : decode cX0_keyOf 2 = .ok (.iconst 0, 1) := by decide +kernel
theorem dX0_keyOf_3 : decode cX0_keyOf 3 = .ok (.istore 4, 2) := by decide +kernel
theorem dX0_keyOf_5 : decode cX0_keyOf 5 = .ok (.iload 4, 2) := by decide +kernel
theorem dX0_keyOf_7 : decode cX0_keyOf 7 = .ok (.iload_n 1, 1) := by decide +kernel
theorem dX0_keyOf_8 : decode cX0_keyOf 8 = .ok (.if_icmp .ge 61, 3) := by decide +kernel
theorem dX0_keyOf_11 : decode cX0_keyOf 11 = .ok (.iload 4, 2) := by decide +kernel
theorem dX0_keyOf_13 : decode cX0_keyOf 13 = .ok (.istore 5, 2) := by decide +kernel
theorem dX0_keyOf_15 : decode cX0_keyOf 15 = .ok (.iload 5, 2) := by decide +kernel
theorem dX0_keyOf_17 : decode cX0_keyOf 17 = .ok (.ifCond .le 46, 3) := by decide +kernel
theorem dX0_keyOf_20 : decode cX0_keyOf 20 = .ok (.aload_n 0, 1) := by decide +kernel
theorem dX0_keyOf_21 : decode cX0_keyOf 21 = .ok (.iload 5, 2) := by decide +kernel
theorem dX0_keyOf_23 : decode cX0_keyOf 23 = .ok (.iaload, 1) := by decide +kernel
theorem dX0_keyOf_24 : decode cX0_keyOf 24 = .ok (.aload_n 0, 1) := by decide +kernel
theorem dX0_keyOf_25 : decode cX0_keyOf 25 = .ok (.iload 5, 2) := by decide +kernel
theorem dX0_keyOf_27 : decode cX0_keyOf 27 = .ok (.iconst 1, 1) := by decide +kernel
theorem dX0_keyOf_28 : decode cX0_keyOf 28 = .ok (.isub, 1) := by decide +kernel
theorem dX0_keyOf_29 : decode cX0_keyOf 29 = .ok (.iaload, 1) := by decide +kernel
theorem dX0_keyOf_30 : decode cX0_keyOf 30 = .ok (.if_icmp .ge 33, 3) := by decide +kernel
theorem dX0_keyOf_33 : decode cX0_keyOf 33 = .ok (.aload_n 0, 1) := by decide +kernel
theorem dX0_keyOf_34 : decode cX0_keyOf 34 = .ok (.iload 5, 2) := by decide +kernel
theorem dX0_keyOf_36 : decode cX0_keyOf 36 = .ok (.iaload, 1) := by decide +kernel
theorem dX0_keyOf_37 : decode cX0_keyOf 37 = .ok (.istore 6, 2) := by decide +kernel
theorem dX0_keyOf_39 : decode cX0_keyOf 39 = .ok (.aload_n 0, 1) := by decide +kernel
theorem dX0_keyOf_40 : decode cX0_keyOf 40 = .ok (.iload 5, 2) := by decide +kernel
theorem dX0_keyOf_42 : decode cX0_keyOf 42 = .ok (.aload_n 0, 1) := by decide +kernel
theorem dX0_keyOf_43 : decode cX0_keyOf 43 = .ok (.iload 5, 2) := by decide +kernel
theorem dX0_keyOf_45 : decode cX0_keyOf 45 = .ok (.iconst 1, 1) := by decide +kernel
theorem dX0_keyOf_46 : decode cX0_keyOf 46 = .ok (.isub, 1) := by decide +kernel
theorem dX0_keyOf_47 : decode cX0_keyOf 47 = .ok (.iaload, 1) := by decide +kernel
theorem dX0_keyOf_48 : decode cX0_keyOf 48 = .ok (.iastore, 1) := by decide +kernel
theorem dX0_keyOf_49 : decode cX0_keyOf 49 = .ok (.aload_n 0, 1) := by decide +kernel
theorem dX0_keyOf_50 : decode cX0_keyOf 50 = .ok (.iload 5, 2) := by decide +kernel
theorem dX0_keyOf_52 : decode cX0_keyOf 52 = .ok (.iconst 1, 1) := by decide +kernel
theorem dX0_keyOf_53 : decode cX0_keyOf 53 = .ok (.isub, 1) := by decide +kernel
theorem dX0_keyOf_54 : decode cX0_keyOf 54 = .ok (.iload 6, 2) := by decide +kernel
theorem dX0_keyOf_56 : decode cX0_keyOf 56 = .ok (.iastore, 1) := by decide +kernel
theorem dX0_keyOf_57 : decode cX0_keyOf 57 = .ok (.iinc 5 (-1), 3) := by decide +kernel
theorem dX0_keyOf_60 : decode cX0_keyOf 60 = .ok (.goto (-45), 3) := by decide +kernel
theorem dX0_keyOf_63 : decode cX0_keyOf 63 = .ok (.iinc 4 1, 3) := by decide +kernel
theorem dX0_keyOf_66 : decode cX0_keyOf 66 = .ok (.goto (-61), 3) := by decide +kernel
theorem dX0_keyOf_69 : decode cX0_keyOf 69 = .ok (.iconst 0, 1) := by decide +kernel
theorem dX0_keyOf_70 : decode cX0_keyOf 70 = .ok (.istore 4, 2) := by decide +kernel
theorem dX0_keyOf_72 : decode cX0_keyOf 72 = .ok (.iload 4, 2) := by decide +kernel
theorem dX0_keyOf_74 : decode cX0_keyOf 74 = .ok (.iload_n 1, 1) := by decide +kernel
theorem dX0_keyOf_75 : decode cX0_keyOf 75 = .ok (.if_icmp .ge 20, 3) := by decide +kernel
theorem dX0_keyOf_78 : decode cX0_keyOf 78 = .ok (.lload_n 2, 1) := by decide +kernel
theorem dX0_keyOf_79 : decode cX0_keyOf 79 = .ok (.bipush 10, 2) := by decide +kernel
theorem dX0_keyOf_81 : decode cX0_keyOf 81 = .ok (.lshl, 1) := by decide +kernel
theorem dX0_keyOf_82 : decode cX0_keyOf 82 = .ok (.aload_n 0, 1) := by decide +kernel
theorem dX0_keyOf_83 : decode cX0_keyOf 83 = .ok (.iload 4, 2) := by decide +kernel
theorem dX0_keyOf_85 : decode cX0_keyOf 85 = .ok (.iaload, 1) := by decide +kernel
theorem dX0_keyOf_86 : decode cX0_keyOf 86 = .ok (.i2l, 1) := by decide +kernel
theorem dX0_keyOf_87 : decode cX0_keyOf 87 = .ok (.lor, 1) := by decide +kernel
theorem dX0_keyOf_88 : decode cX0_keyOf 88 = .ok (.lstore_n 2, 1) := by decide +kernel
theorem dX0_keyOf_89 : decode cX0_keyOf 89 = .ok (.iinc 4 1, 3) := by decide +kernel
theorem dX0_keyOf_92 : decode cX0_keyOf 92 = .ok (.goto (-20), 3) := by decide +kernel
theorem dX0_keyOf_95 : decode cX0_keyOf 95 = .ok (.lload_n 2, 1) := by decide +kernel
theorem dX0_keyOf_96 : decode cX0_keyOf 96 = .ok (.lreturn, 1) := by decide +kernel
theorem dX0_sortByName_0 : decode cX0_sortByName 0 = .ok (.iconst 0, 1) := by decide +kernel
theorem dX0_sortByName_1 : decode cX0_sortByName 1 = .ok (.istore_n 1, 1) := by decide +kernel
theorem dX0_sortByName_2 : decode cX0_sortByName 2 = .ok (.iload_n 1, 1) := by decide +kernel
theorem dX0_sortByName_3 : decode cX0_sortByName 3 = .ok (.aload_n 0, 1) := by decide +kernel
theorem dX0_sortByName_4 : decode cX0_sortByName 4 = .ok (.getfield 108, 3) := by decide +kernel
theorem dX0_sortByName_7 : decode cX0_sortByName 7 = .ok (.if_icmp .ge 16, 3) := by decide +kernel
theorem dX0_sortByName_10 : decode cX0_sortByName 10 = .ok (.aload_n 0, 1) := by decide +kernel
theorem dX0_sortByName_11 : decode cX0_sortByName 11 = .ok (.getfield 51, 3) := by decide +kernel
theorem dX0_sortByName_14 : decode cX0_sortByName 14 = .ok (.iload_n 1, 1) := by decide +kernel
theorem dX0_sortByName_15 : decode cX0_sortByName 15 = .ok (.iload_n 1, 1) := by decide +kernel
theorem dX0_sortByName_16 : decode cX0_sortByName 16 = .ok (.iastore, 1) := by decide +kernel
theorem dX0_sortByName_17 : decode cX0_sortByName 17 = .ok (.iinc 1 1, 3) := by decide +kernel
theorem dX0_sortByName_20 : decode cX0_sortByName 20 = .ok (.goto (-18), 3) := by decide +kernel
theorem dX0_sortByName_23 : decode cX0_sortByName 23 = .ok (.aload_n 0, 1) := by decide +kernel
theorem dX0_sortByName_24 : decode cX0_sortByName 24 = .ok (.getfield 108, 3) := by decide +kernel
theorem dX0_sortByName_27 : decode cX0_sortByName 27 = .ok (.iconst 2, 1) := by decide +kernel
theorem dX0_sortByName_28 : decode cX0_sortByName 28 = .ok (.idiv, 1) := by decide +kernel
theorem dX0_sortByName_29 : decode cX0_sortByName 29 = .ok (.iconst 1, 1) := by decide +kernel
theorem dX0_sortByName_30 : decode cX0_sortByName 30 = .ok (.isub, 1) := by decide +kernel
theorem dX0_sortByName_31 : decode cX0_sortByName 31 = .ok (.istore_n 1, 1) := by decide +kernel
theorem dX0_sortByName_32 : decode cX0_sortByName 32 = .ok (.iload_n 1, 1) := by decide +kernel
theorem dX0_sortByName_33 : decode cX0_sortByName 33 = .ok (.ifCond .lt 18, 3) := by decide +kernel
theorem dX0_sortByName_36 : decode cX0_sortByName 36 = .ok (.aload_n 0, 1) := by decide +kernel
theorem dX0_sortByName_37 : decode cX0_sortByName 37 = .ok (.iload_n 1, 1) := by decide +kernel
theorem dX0_sortByName_38 : decode cX0_sortByName 38 = .ok (.aload_n 0, 1) := by decide +kernel
theorem dX0_sortByName_39 : decode cX0_sortByName 39 = .ok (.getfield 108, 3) := by decide +kernel
theorem dX0_sortByName_42 : decode cX0_sortByName 42 = .ok (.invokevirtual 173, 3) := by decide +kernel
theorem dX0_sortByName_45 : decode cX0_sortByName 45 = .ok (.iinc 1 (-1), 3) := by decide +kernel
theorem dX0_sortByName_48 : decode cX0_sortByName 48 = .ok (.goto (-16), 3) := by decide +kernel
theorem dX0_sortByName_51 : decode cX0_sortByName 51 = .ok (.aload_n 0, 1) := by decide +kernel
theorem dX0_sortByName_52 : decode cX0_sortByName 52 = .ok (.getfield 108, 3) := by decide +kernel
theorem dX0_sortByName_55 : decode cX0_sortByName 55 = .ok (.iconst 1, 1) := by decide +kernel
theorem dX0_sortByName_56 : decode cX0_sortByName 56 = .ok (.isub, 1) := by decide +kernel
theorem dX0_sortByName_57 : decode cX0_sortByName 57 = .ok (.istore_n 1, 1) := by decide +kernel
theorem dX0_sortByName_58 : decode cX0_sortByName 58 = .ok (.iload_n 1, 1) := by decide +kernel
theorem dX0_sortByName_59 : decode cX0_sortByName 59 = .ok (.ifCond .le 41, 3) := by decide +kernel
theorem dX0_sortByName_62 : decode cX0_sortByName 62 = .ok (.aload_n 0, 1) := by decide +kernel
theorem dX0_sortByName_63 : decode cX0_sortByName 63 = .ok (.getfield 51, 3) := by decide +kernel
theorem dX0_sortByName_66 : decode cX0_sortByName 66 = .ok (.iconst 0, 1) := by decide +kernel
theorem dX0_sortByName_67 : decode cX0_sortByName 67 = .ok (.iaload, 1) := by decide +kernel
theorem dX0_sortByName_68 : decode cX0_sortByName 68 = .ok (.istore_n 2, 1) := by decide +kernel
theorem dX0_sortByName_69 : decode cX0_sortByName 69 = .ok (.aload_n 0, 1) := by decide +kernel
theorem dX0_sortByName_70 : decode cX0_sortByName 70 = .ok (.getfield 51, 3) := by decide +kernel
theorem dX0_sortByName_73 : decode cX0_sortByName 73 = .ok (.iconst 0, 1) := by decide +kernel
theorem dX0_sortByName_74 : decode cX0_sortByName 74 = .ok (.aload_n 0, 1) := by decide +kernel
theorem dX0_sortByName_75 : decode cX0_sortByName 75 = .ok (.getfield 51, 3) := by decide +kernel
theorem dX0_sortByName_78 : decode cX0_sortByName 78 = .ok (.iload_n 1, 1) := by decide +kernel
theorem dX0_sortByName_79 : decode cX0_sortByName 79 = .ok (.iaload, 1) := by decide +kernel
theorem dX0_sortByName_80 : decode cX0_sortByName 80 = .ok (.iastore, 1) := by decide +kernel
theorem dX0_sortByName_81 : decode cX0_sortByName 81 = .ok (.aload_n 0, 1) := by decide +kernel
theorem dX0_sortByName_82 : decode cX0_sortByName 82 = .ok (.getfield 51, 3) := by decide +kernel
theorem dX0_sortByName_85 : decode cX0_sortByName 85 = .ok (.iload_n 1, 1) := by decide +kernel
theorem dX0_sortByName_86 : decode cX0_sortByName 86 = .ok (.iload_n 2, 1) := by decide +kernel
theorem dX0_sortByName_87 : decode cX0_sortByName 87 = .ok (.iastore, 1) := by decide +kernel
theorem dX0_sortByName_88 : decode cX0_sortByName 88 = .ok (.aload_n 0, 1) := by decide +kernel
theorem dX0_sortByName_89 : decode cX0_sortByName 89 = .ok (.iconst 0, 1) := by decide +kernel
theorem dX0_sortByName_90 : decode cX0_sortByName 90 = .ok (.iload_n 1, 1) := by decide +kernel
theorem dX0_sortByName_91 : decode cX0_sortByName 91 = .ok (.invokevirtual 173, 3) := by decide +kernel
theorem dX0_sortByName_94 : decode cX0_sortByName 94 = .ok (.iinc 1 (-1), 3) := by decide +kernel
theorem dX0_sortByName_97 : decode cX0_sortByName 97 = .ok (.goto (-39), 3) := by decide +kernel
theorem dX0_sortByName_100 : decode cX0_sortByName 100 = .ok (.iconst 0, 1) := by decide +kernel
theorem dX0_sortByName_101 : decode cX0_sortByName 101 = .ok (.istore_n 1, 1) := by decide +kernel
theorem dX0_sortByName_102 : decode cX0_sortByName 102 = .ok (.iload_n 1, 1) := by decide +kernel
theorem dX0_sortByName_103 : decode cX0_sortByName 103 = .ok (.aload_n 0, 1) := by decide +kernel
theorem dX0_sortByName_104 : decode cX0_sortByName 104 = .ok (.getfield 108, 3) := by decide +kernel
theorem dX0_sortByName_107 : decode cX0_sortByName 107 = .ok (.if_icmp .ge 21, 3) := by decide +kernel
theorem dX0_sortByName_110 : decode cX0_sortByName 110 = .ok (.aload_n 0, 1) := by decide +kernel
theorem dX0_sortByName_111 : decode cX0_sortByName 111 = .ok (.getfield 54, 3) := by decide +kernel
theorem dX0_sortByName_114 : decode cX0_sortByName 114 = .ok (.aload_n 0, 1) := by decide +kernel
theorem dX0_sortByName_115 : decode cX0_sortByName 115 = .ok (.getfield 51, 3) := by decide +kernel
theorem dX0_sortByName_118 : decode cX0_sortByName 118 = .ok (.iload_n 1, 1) := by decide +kernel
theorem dX0_sortByName_119 : decode cX0_sortByName 119 = .ok (.iaload, 1) := by decide +kernel
theorem dX0_sortByName_120 : decode cX0_sortByName 120 = .ok (.iload_n 1, 1) := by decide +kernel
theorem dX0_sortByName_121 : decode cX0_sortByName 121 = .ok (.iastore, 1) := by decide +kernel
theorem dX0_sortByName_122 : decode cX0_sortByName 122 = .ok (.iinc 1 1, 3) := by decide +kernel
theorem dX0_sortByName_125 : decode cX0_sortByName 125 = .ok (.goto (-23), 3) := by decide +kernel
theorem dX0_sortByName_128 : decode cX0_sortByName 128 = .ok (.return_, 1) := by decide +kernel
theorem dX0_sink_0 : decode cX0_sink 0 = .ok (.aload_n 0, 1) := by decide +kernel
theorem dX0_sink_1 : decode cX0_sink 1 = .ok (.getfield 51, 3) := by decide +kernel
theorem dX0_sink_4 : decode cX0_sink 4 = .ok (.iload_n 1, 1) := by decide +kernel
theorem dX0_sink_5 : decode cX0_sink 5 = .ok (.iaload, 1) := by decide +kernel
theorem dX0_sink_6 : decode cX0_sink 6 = .ok (.istore_n 3, 1) := by decide +kernel
theorem dX0_sink_7 : decode cX0_sink 7 = .ok (.iload_n 1, 1) := by decide +kernel
theorem dX0_sink_8 : decode cX0_sink 8 = .ok (.istore 4, 2) := by decide +kernel
theorem dX0_sink_10 : decode cX0_sink 10 = .ok (.iconst 2, 1) := by decide +kernel
theorem dX0_sink_11 : decode cX0_sink 11 = .ok (.iload 4, 2) := by decide +kernel
theorem dX0_sink_13 : decode cX0_sink 13 = .ok (.imul, 1) := by decide +kernel
theorem dX0_sink_14 : decode cX0_sink 14 = .ok (.iconst 1, 1) := by decide +kernel
theorem dX0_sink_15 : decode cX0_sink 15 = .ok (.iadd, 1) := by decide +kernel
theorem dX0_sink_16 : decode cX0_sink 16 = .ok (.istore 5, 2) := by decide +kernel
theorem dX0_sink_18 : decode cX0_sink 18 = .ok (.iconst 0, 1) := by decide +kernel
theorem dX0_sink_19 : decode cX0_sink 19 = .ok (.istore 6, 2) := by decide +kernel
theorem dX0_sink_21 : decode cX0_sink 21 = .ok (.iload 6, 2) := by decide +kernel
theorem dX0_sink_23 : decode cX0_sink 23 = .ok (.bipush 32, 2) := by decide +kernel
theorem dX0_sink_25 : decode cX0_sink 25 = .ok (.if_icmp .ge 107, 3) := by decide +kernel
theorem dX0_sink_28 : decode cX0_sink 28 = .ok (.iload 5, 2) := by decide +kernel
theorem dX0_sink_30 : decode cX0_sink 30 = .ok (.iload_n 2, 1) := by decide +kernel
theorem dX0_sink_31 : decode cX0_sink 31 = .ok (.if_icmp .ge 101, 3) := by decide +kernel
theorem dX0_sink_34 : decode cX0_sink 34 = .ok (.iload 5, 2) := by decide +kernel
theorem dX0_sink_36 : decode cX0_sink 36 = .ok (.iconst 1, 1) := by decide +kernel
theorem dX0_sink_37 : decode cX0_sink 37 = .ok (.iadd, 1) := by decide +kernel
theorem dX0_sink_38 : decode cX0_sink 38 = .ok (.iload_n 2, 1) := by decide +kernel
theorem dX0_sink_39 : decode cX0_sink 39 = .ok (.if_icmp .ge 36, 3) := by decide +kernel
theorem dX0_sink_42 : decode cX0_sink 42 = .ok (.aload_n 0, 1) := by decide +kernel
theorem dX0_sink_43 : decode cX0_sink 43 = .ok (.getfield 35, 3) := by decide +kernel
theorem dX0_sink_46 : decode cX0_sink 46 = .ok (.aload_n 0, 1) := by decide +kernel
theorem dX0_sink_47 : decode cX0_sink 47 = .ok (.getfield 51, 3) := by decide +kernel
theorem dX0_sink_50 : decode cX0_sink 50 = .ok (.iload 5, 2) := by decide +kernel
theorem dX0_sink_52 : decode cX0_sink 52 = .ok (.iaload, 1) := by decide +kernel
theorem dX0_sink_53 : decode cX0_sink 53 = .ok (.laload, 1) := by decide +kernel
theorem dX0_sink_54 : decode cX0_sink 54 = .ok (.aload_n 0, 1) := by decide +kernel
theorem dX0_sink_55 : decode cX0_sink 55 = .ok (.getfield 35, 3) := by decide +kernel
theorem dX0_sink_58 : decode cX0_sink 58 = .ok (.aload_n 0, 1) := by decide +kernel
theorem dX0_sink_59 : decode cX0_sink 59 = .ok (.getfield 51, 3) := by decide +kernel
theorem dX0_sink_62 : decode cX0_sink 62 = .ok (.iload 5, 2) := by decide +kernel
theorem dX0_sink_64 : decode cX0_sink 64 = .ok (.iconst 1, 1) := by decide +kernel
theorem dX0_sink_65 : decode cX0_sink 65 = .ok (.iadd, 1) := by decide +kernel
theorem dX0_sink_66 : decode cX0_sink 66 = .ok (.iaload, 1) := by decide +kernel
theorem dX0_sink_67 : decode cX0_sink 67 = .ok (.laload, 1) := by decide +kernel
theorem dX0_sink_68 : decode cX0_sink 68 = .ok (.lcmp, 1) := by decide +kernel
theorem dX0_sink_69 : decode cX0_sink 69 = .ok (.ifCond .ge 6, 3) := by decide +kernel
theorem dX0_sink_72 : decode cX0_sink 72 = .ok (.iinc 5 1, 3) := by decide +kernel
theorem dX0_sink_75 : decode cX0_sink 75 = .ok (.aload_n 0, 1) := by decide +kernel
theorem dX0_sink_76 : decode cX0_sink 76 = .ok (.getfield 35, 3) := by decide +kernel
theorem dX0_sink_79 : decode cX0_sink 79 = .ok (.aload_n 0, 1) := by decide +kernel
theorem dX0_sink_80 : decode cX0_sink 80 = .ok (.getfield 51, 3) := by decide +kernel
theorem dX0_sink_83 : decode cX0_sink 83 = .ok (.iload 5, 2) := by decide +kernel
theorem dX0_sink_85 : decode cX0_sink 85 = .ok (.iaload, 1) := by decide +kernel
theorem dX0_sink_86 : decode cX0_sink 86 = .ok (.laload, 1) := by decide +kernel
theorem dX0_sink_87 : decode cX0_sink 87 = .ok (.aload_n 0, 1) := by decide +kernel
theorem dX0_sink_88 : decode cX0_sink 88 = .ok (.getfield 35, 3) := by decide +kernel
theorem dX0_sink_91 : decode cX0_sink 91 = .ok (.iload_n 3, 1) := by decide +kernel
theorem dX0_sink_92 : decode cX0_sink 92 = .ok (.laload, 1) := by decide +kernel
theorem dX0_sink_93 : decode cX0_sink 93 = .ok (.lcmp, 1) := by decide +kernel
theorem dX0_sink_94 : decode cX0_sink 94 = .ok (.ifCond .gt 6, 3) := by decide +kernel
theorem dX0_sink_97 : decode cX0_sink 97 = .ok (.goto 35, 3) := by decide +kernel
theorem dX0_sink_100 : decode cX0_sink 100 = .ok (.aload_n 0, 1) := by decide +kernel
theorem dX0_sink_101 : decode cX0_sink 101 = .ok (.getfield 51, 3) := by decide +kernel
theorem dX0_sink_104 : decode cX0_sink 104 = .ok (.iload 4, 2) := by decide +kernel
theorem dX0_sink_106 : decode cX0_sink 106 = .ok (.aload_n 0, 1) := by decide +kernel
theorem dX0_sink_107 : decode cX0_sink 107 = .ok (.getfield 51, 3) := by decide +kernel
theorem dX0_sink_110 : decode cX0_sink 110 = .ok (.iload 5, 2) := by decide +kernel
theorem dX0_sink_112 : decode cX0_sink 112 = .ok (.iaload, 1) := by decide +kernel
theorem dX0_sink_113 : decode cX0_sink 113 = .ok (.iastore, 1) := by decide +kernel
theorem dX0_sink_114 : decode cX0_sink 114 = .ok (.iload 5, 2) := by decide +kernel
theorem dX0_sink_116 : decode cX0_sink 116 = .ok (.istore 4, 2) := by decide +kernel
theorem dX0_sink_118 : decode cX0_sink 118 = .ok (.iconst 2, 1) := by decide +kernel
theorem dX0_sink_119 : decode cX0_sink 119 = .ok (.iload 4, 2) := by decide +kernel
theorem dX0_sink_121 : decode cX0_sink 121 = .ok (.imul, 1) := by decide +kernel
theorem dX0_sink_122 : decode cX0_sink 122 = .ok (.iconst 1, 1) := by decide +kernel
theorem dX0_sink_123 : decode cX0_sink 123 = .ok (.iadd, 1) := by decide +kernel
theorem dX0_sink_124 : decode cX0_sink 124 = .ok (.istore 5, 2) := by decide +kernel
theorem dX0_sink_126 : decode cX0_sink 126 = .ok (.iinc 6 1, 3) := by decide +kernel
theorem dX0_sink_129 : decode cX0_sink 129 = .ok (.goto (-108), 3) := by decide +kernel
theorem dX0_sink_132 : decode cX0_sink 132 = .ok (.aload_n 0, 1) := by decide +kernel
theorem dX0_sink_133 : decode cX0_sink 133 = .ok (.getfield 51, 3) := by decide +kernel
theorem dX0_sink_136 : decode cX0_sink 136 = .ok (.iload 4, 2) := by decide +kernel
theorem dX0_sink_138 : decode cX0_sink 138 = .ok (.iload_n 3, 1) := by decide +kernel
theorem dX0_sink_139 : decode cX0_sink 139 = .ok (.iastore, 1) := by decide +kernel
theorem dX0_sink_140 : decode cX0_sink 140 = .ok (.return_, 1) := by decide +kernel
theorem dX0_find_0 : decode cX0_find 0 = .ok (.aload_n 0, 1) := by decide +kernel
theorem dX0_find_1 : decode cX0_find 1 = .ok (.getfield 12, 3) := by decide +kernel
theorem dX0_find_4 : decode cX0_find 4 = .ok (.lload_n 1, 1) := by decide +kernel
theorem dX0_find_5 : decode cX0_find 5 = .ok (.invokevirtual 113, 3) := by decide +kernel
theorem dX0_find_8 : decode cX0_find 8 = .ok (.istore_n 3, 1) := by decide +kernel
theorem dX0_find_9 : decode cX0_find 9 = .ok (.iload_n 3, 1) := by decide +kernel
theorem dX0_find_10 : decode cX0_find 10 = .ok (.ifCond .ge 7, 3) := by decide +kernel
theorem dX0_find_13 : decode cX0_find 13 = .ok (.iconst (-1), 1) := by decide +kernel
theorem dX0_find_14 : decode cX0_find 14 = .ok (.goto 9, 3) := by decide +kernel
theorem dX0_find_17 : decode cX0_find 17 = .ok (.aload_n 0, 1) := by decide +kernel
theorem dX0_find_18 : decode cX0_find 18 = .ok (.getfield 54, 3) := by decide +kernel
theorem dX0_find_21 : decode cX0_find 21 = .ok (.iload_n 3, 1) := by decide +kernel
theorem dX0_find_22 : decode cX0_find 22 = .ok (.iaload, 1) := by decide +kernel
theorem dX0_find_23 : decode cX0_find 23 = .ok (.ireturn, 1) := by decide +kernel
theorem dX0_diagramOf_0 : decode cX0_diagramOf 0 = .ok (.aload_n 0, 1) := by decide +kernel
theorem dX0_diagramOf_1 : decode cX0_diagramOf 1 = .ok (.getfield 54, 3) := by decide +kernel
theorem dX0_diagramOf_4 : decode cX0_diagramOf 4 = .ok (.aload_n 0, 1) := by decide +kernel
theorem dX0_diagramOf_5 : decode cX0_diagramOf 5 = .ok (.getfield 57, 3) := by decide +kernel
theorem dX0_diagramOf_8 : decode cX0_diagramOf 8 = .ok (.iload_n 1, 1) := by decide +kernel
theorem dX0_diagramOf_9 : decode cX0_diagramOf 9 = .ok (.iaload, 1) := by decide +kernel
theorem dX0_diagramOf_10 : decode cX0_diagramOf 10 = .ok (.iaload, 1) := by decide +kernel
theorem dX0_diagramOf_11 : decode cX0_diagramOf 11 = .ok (.ireturn, 1) := by decide +kernel
theorem dX0_nameOf_0 : decode cX0_nameOf 0 = .ok (.aload_n 0, 1) := by decide +kernel
theorem dX0_nameOf_1 : decode cX0_nameOf 1 = .ok (.getfield 35, 3) := by decide +kernel
theorem dX0_nameOf_4 : decode cX0_nameOf 4 = .ok (.aload_n 0, 1) := by decide +kernel
theorem dX0_nameOf_5 : decode cX0_nameOf 5 = .ok (.getfield 51, 3) := by decide +kernel
theorem dX0_nameOf_8 : decode cX0_nameOf 8 = .ok (.iload_n 1, 1) := by decide +kernel
theorem dX0_nameOf_9 : decode cX0_nameOf 9 = .ok (.iaload, 1) := by decide +kernel
theorem dX0_nameOf_10 : decode cX0_nameOf 10 = .ok (.laload, 1) := by decide +kernel
theorem dX0_nameOf_11 : decode cX0_nameOf 11 = .ok (.lreturn, 1) := by decide +kernel
theorem dX0_codeAt_0 : decode cX0_codeAt 0 = .ok (.aload_n 0, 1) := by decide +kernel
theorem dX0_codeAt_1 : decode cX0_codeAt 1 = .ok (.iload_n 1, 1) := by decide +kernel
theorem dX0_codeAt_2 : decode cX0_codeAt 2 = .ok (.invokevirtual 177, 3) := by decide +kernel
theorem dX0_codeAt_5 : decode cX0_codeAt 5 = .ok (.bipush 10, 2) := by decide +kernel
theorem dX0_codeAt_7 : decode cX0_codeAt 7 = .ok (.aload_n 0, 1) := by decide +kernel
theorem dX0_codeAt_8 : decode cX0_codeAt 8 = .ok (.getfield 79, 3) := by decide +kernel
theorem dX0_codeAt_11 : decode cX0_codeAt 11 = .ok (.iconst 1, 1) := by decide +kernel
theorem dX0_codeAt_12 : decode cX0_codeAt 12 = .ok (.isub, 1) := by decide +kernel
theorem dX0_codeAt_13 : decode cX0_codeAt 13 = .ok (.iload_n 2, 1) := by decide +kernel
theorem dX0_codeAt_14 : decode cX0_codeAt 14 = .ok (.isub, 1) := by decide +kernel
theorem dX0_codeAt_15 : decode cX0_codeAt 15 = .ok (.imul, 1) := by decide +kernel
theorem dX0_codeAt_16 : decode cX0_codeAt 16 = .ok (.lushr, 1) := by decide +kernel
theorem dX0_codeAt_17 : decode cX0_codeAt 17 = .ok (.l2i, 1) := by decide +kernel
theorem dX0_codeAt_18 : decode cX0_codeAt 18 = .ok (.sipush 1023, 3) := by decide +kernel
theorem dX0_codeAt_21 : decode cX0_codeAt 21 = .ok (.iand, 1) := by decide +kernel
theorem dX0_codeAt_22 : decode cX0_codeAt 22 = .ok (.ireturn, 1) := by decide +kernel
theorem dX0_fact_0 : decode cX0_fact 0 = .ok (.aload_n 0, 1) := by decide +kernel
theorem dX0_fact_1 : decode cX0_fact 1 = .ok (.getfield 51, 3) := by decide +kernel
theorem dX0_fact_4 : decode cX0_fact 4 = .ok (.iload_n 1, 1) := by decide +kernel
theorem dX0_fact_5 : decode cX0_fact 5 = .ok (.iaload, 1) := by decide +kernel
theorem dX0_fact_6 : decode cX0_fact 6 = .ok (.istore_n 3, 1) := by decide +kernel
theorem dX0_fact_7 : decode cX0_fact 7 = .ok (.iload_n 2, 1) := by decide +kernel
theorem dX0_fact_8 : decode cX0_fact 8 = .ok (.tableswitch 155 0 9 #[56, 63, 70, 76, 88, 106, 118, 130, 142, 149], 56) := by decide +kernel
theorem dX0_fact_64 : decode cX0_fact 64 = .ok (.aload_n 0, 1) := by decide +kernel
theorem dX0_fact_65 : decode cX0_fact 65 = .ok (.getfield 39, 3) := by decide +kernel
theorem dX0_fact_68 : decode cX0_fact 68 = .ok (.iload_n 3, 1) := by decide +kernel
theorem dX0_fact_69 : decode cX0_fact 69 = .ok (.iaload, 1) := by decide +kernel
theorem dX0_fact_70 : decode cX0_fact 70 = .ok (.ireturn, 1) := by decide +kernel
theorem dX0_fact_71 : decode cX0_fact 71 = .ok (.aload_n 0, 1) := by decide +kernel
theorem dX0_fact_72 : decode cX0_fact 72 = .ok (.getfield 42, 3) := by decide +kernel
theorem dX0_fact_75 : decode cX0_fact 75 = .ok (.iload_n 3, 1) := by decide +kernel
theorem dX0_fact_76 : decode cX0_fact 76 = .ok (.iaload, 1) := by decide +kernel
theorem dX0_fact_77 : decode cX0_fact 77 = .ok (.ireturn, 1) := by decide +kernel
theorem dX0_fact_78 : decode cX0_fact 78 = .ok (.aload_n 0, 1) := by decide +kernel
theorem dX0_fact_79 : decode cX0_fact 79 = .ok (.iload_n 3, 1) := by decide +kernel
theorem dX0_fact_80 : decode cX0_fact 80 = .ok (.invokevirtual 181, 3) := by decide +kernel
theorem dX0_fact_83 : decode cX0_fact 83 = .ok (.ireturn, 1) := by decide +kernel
theorem dX0_fact_84 : decode cX0_fact 84 = .ok (.aload_n 0, 1) := by decide +kernel
theorem dX0_fact_85 : decode cX0_fact 85 = .ok (.iload_n 3, 1) := by decide +kernel
theorem dX0_fact_86 : decode cX0_fact 86 = .ok (.invokevirtual 184, 3) := by decide +kernel
theorem dX0_fact_89 : decode cX0_fact 89 = .ok (.bipush 9, 2) := by decide +kernel
theorem dX0_fact_91 : decode cX0_fact 91 = .ok (.ishr, 1) := by decide +kernel
theorem dX0_fact_92 : decode cX0_fact 92 = .ok (.bipush 15, 2) := by decide +kernel
theorem dX0_fact_94 : decode cX0_fact 94 = .ok (.iand, 1) := by decide +kernel
theorem dX0_fact_95 : decode cX0_fact 95 = .ok (.ireturn, 1) := by decide +kernel
theorem dX0_fact_96 : decode cX0_fact 96 = .ok (.aload_n 0, 1) := by decide +kernel
theorem dX0_fact_97 : decode cX0_fact 97 = .ok (.iload_n 3, 1) := by decide +kernel
theorem dX0_fact_98 : decode cX0_fact 98 = .ok (.invokevirtual 184, 3) := by decide +kernel
theorem dX0_fact_101 : decode cX0_fact 101 = .ok (.sipush 256, 3) := by decide +kernel
theorem dX0_fact_104 : decode cX0_fact 104 = .ok (.iand, 1) := by decide +kernel
theorem dX0_fact_105 : decode cX0_fact 105 = .ok (.ifCond .ne 7, 3) := by decide +kernel
theorem dX0_fact_108 : decode cX0_fact 108 = .ok (.iconst 0, 1) := by decide +kernel
theorem dX0_fact_109 : decode cX0_fact 109 = .ok (.goto 4, 3) := by decide +kernel
theorem dX0_fact_112 : decode cX0_fact 112 = .ok (.iconst 1, 1) := by decide +kernel
theorem dX0_fact_113 : decode cX0_fact 113 = .ok (.ireturn, 1) := by decide +kernel
theorem dX0_fact_114 : decode cX0_fact 114 = .ok (.aload_n 0, 1) := by decide +kernel
theorem dX0_fact_115 : decode cX0_fact 115 = .ok (.iload_n 3, 1) := by decide +kernel
theorem dX0_fact_116 : decode cX0_fact 116 = .ok (.invokevirtual 184, 3) := by decide +kernel
theorem dX0_fact_119 : decode cX0_fact 119 = .ok (.bipush 13, 2) := by decide +kernel
theorem dX0_fact_121 : decode cX0_fact 121 = .ok (.ishr, 1) := by decide +kernel
theorem dX0_fact_122 : decode cX0_fact 122 = .ok (.bipush 7, 2) := by decide +kernel
theorem dX0_fact_124 : decode cX0_fact 124 = .ok (.iand, 1) := by decide +kernel
theorem dX0_fact_125 : decode cX0_fact 125 = .ok (.ireturn, 1) := by decide +kernel
theorem dX0_fact_126 : decode cX0_fact 126 = .ok (.aload_n 0, 1) := by decide +kernel
theorem dX0_fact_127 : decode cX0_fact 127 = .ok (.iload_n 3, 1) := by decide +kernel
theorem dX0_fact_128 : decode cX0_fact 128 = .ok (.invokevirtual 184, 3) := by decide +kernel
theorem dX0_fact_131 : decode cX0_fact 131 = .ok (.bipush 16, 2) := by decide +kernel
theorem dX0_fact_133 : decode cX0_fact 133 = .ok (.ishr, 1) := by decide +kernel
theorem dX0_fact_134 : decode cX0_fact 134 = .ok (.bipush 7, 2) := by decide +kernel
theorem dX0_fact_136 : decode cX0_fact 136 = .ok (.iand, 1) := by decide +kernel
theorem dX0_fact_137 : decode cX0_fact 137 = .ok (.ireturn, 1) := by decide +kernel
theorem dX0_fact_138 : decode cX0_fact 138 = .ok (.aload_n 0, 1) := by decide +kernel
theorem dX0_fact_139 : decode cX0_fact 139 = .ok (.iload_n 3, 1) := by decide +kernel
theorem dX0_fact_140 : decode cX0_fact 140 = .ok (.invokevirtual 184, 3) := by decide +kernel
theorem dX0_fact_143 : decode cX0_fact 143 = .ok (.bipush 19, 2) := by decide +kernel
theorem dX0_fact_145 : decode cX0_fact 145 = .ok (.ishr, 1) := by decide +kernel
theorem dX0_fact_146 : decode cX0_fact 146 = .ok (.bipush 7, 2) := by decide +kernel
theorem dX0_fact_148 : decode cX0_fact 148 = .ok (.iand, 1) := by decide +kernel
theorem dX0_fact_149 : decode cX0_fact 149 = .ok (.ireturn, 1) := by decide +kernel
theorem dX0_fact_150 : decode cX0_fact 150 = .ok (.aload_n 0, 1) := by decide +kernel
theorem dX0_fact_151 : decode cX0_fact 151 = .ok (.getfield 45, 3) := by decide +kernel
theorem dX0_fact_154 : decode cX0_fact 154 = .ok (.iload_n 3, 1) := by decide +kernel
theorem dX0_fact_155 : decode cX0_fact 155 = .ok (.iaload, 1) := by decide +kernel
theorem dX0_fact_156 : decode cX0_fact 156 = .ok (.ireturn, 1) := by decide +kernel
theorem dX0_fact_157 : decode cX0_fact 157 = .ok (.aload_n 0, 1) := by decide +kernel
theorem dX0_fact_158 : decode cX0_fact 158 = .ok (.iload_n 1, 1) := by decide +kernel
theorem dX0_fact_159 : decode cX0_fact 159 = .ok (.invokevirtual 187, 3) := by decide +kernel
theorem dX0_fact_162 : decode cX0_fact 162 = .ok (.ireturn, 1) := by decide +kernel
theorem dX0_fact_163 : decode cX0_fact 163 = .ok (.aload_n 0, 1) := by decide +kernel
theorem dX0_fact_164 : decode cX0_fact 164 = .ok (.getfield 48, 3) := by decide +kernel
theorem dX0_fact_167 : decode cX0_fact 167 = .ok (.iload_n 3, 1) := by decide +kernel
theorem dX0_fact_168 : decode cX0_fact 168 = .ok (.iaload, 1) := by decide +kernel
theorem dX0_fact_169 : decode cX0_fact 169 = .ok (.bipush 127, 2) := by decide +kernel
theorem dX0_fact_171 : decode cX0_fact 171 = .ok (.iand, 1) := by decide +kernel
theorem dX0_fact_172 : decode cX0_fact 172 = .ok (.ireturn, 1) := by decide +kernel
theorem dX0_symmetry_0 : decode cX0_symmetry 0 = .ok (.aload_n 0, 1) := by decide +kernel
theorem dX0_symmetry_1 : decode cX0_symmetry 1 = .ok (.getfield 39, 3) := by decide +kernel
theorem dX0_symmetry_4 : decode cX0_symmetry 4 = .ok (.iload_n 1, 1) := by decide +kernel
theorem dX0_symmetry_5 : decode cX0_symmetry 5 = .ok (.iaload, 1) := by decide +kernel
theorem dX0_symmetry_6 : decode cX0_symmetry 6 = .ok (.ifCond .ne 7, 3) := by decide +kernel
theorem dX0_symmetry_9 : decode cX0_symmetry 9 = .ok (.iconst 0, 1) := by decide +kernel
theorem dX0_symmetry_10 : decode cX0_symmetry 10 = .ok (.goto 14, 3) := by decide +kernel
theorem dX0_symmetry_13 : decode cX0_symmetry 13 = .ok (.aload_n 0, 1) := by decide +kernel
theorem dX0_symmetry_14 : decode cX0_symmetry 14 = .ok (.getfield 96, 3) := by decide +kernel
theorem dX0_symmetry_17 : decode cX0_symmetry 17 = .ok (.aload_n 0, 1) := by decide +kernel
theorem dX0_symmetry_18 : decode cX0_symmetry 18 = .ok (.getfield 39, 3) := by decide +kernel
theorem dX0_symmetry_21 : decode cX0_symmetry 21 = .ok (.iload_n 1, 1) := by decide +kernel
theorem dX0_symmetry_22 : decode cX0_symmetry 22 = .ok (.iaload, 1) := by decide +kernel
theorem dX0_symmetry_23 : decode cX0_symmetry 23 = .ok (.idiv, 1) := by decide +kernel
theorem dX0_symmetry_24 : decode cX0_symmetry 24 = .ok (.ireturn, 1) := by decide +kernel
theorem dX0_partsOf_0 : decode cX0_partsOf 0 = .ok (.aload_n 0, 1) := by decide +kernel
theorem dX0_partsOf_1 : decode cX0_partsOf 1 = .ok (.iload_n 1, 1) := by decide +kernel
theorem dX0_partsOf_2 : decode cX0_partsOf 2 = .ok (.invokevirtual 184, 3) := by decide +kernel
theorem dX0_partsOf_5 : decode cX0_partsOf 5 = .ok (.bipush 9, 2) := by decide +kernel
theorem dX0_partsOf_7 : decode cX0_partsOf 7 = .ok (.ishr, 1) := by decide +kernel
theorem dX0_partsOf_8 : decode cX0_partsOf 8 = .ok (.bipush 15, 2) := by decide +kernel
theorem dX0_partsOf_10 : decode cX0_partsOf 10 = .ok (.iand, 1) := by decide +kernel
theorem dX0_partsOf_11 : decode cX0_partsOf 11 = .ok (.ireturn, 1) := by decide +kernel
theorem dX0_isLinked_0 : decode cX0_isLinked 0 = .ok (.aload_n 0, 1) := by decide +kernel
theorem dX0_isLinked_1 : decode cX0_isLinked 1 = .ok (.iload_n 1, 1) := by decide +kernel
theorem dX0_isLinked_2 : decode cX0_isLinked 2 = .ok (.invokevirtual 184, 3) := by decide +kernel
theorem dX0_isLinked_5 : decode cX0_isLinked 5 = .ok (.sipush 256, 3) := by decide +kernel
theorem dX0_isLinked_8 : decode cX0_isLinked 8 = .ok (.iand, 1) := by decide +kernel
theorem dX0_isLinked_9 : decode cX0_isLinked 9 = .ok (.ifCond .eq 7, 3) := by decide +kernel
theorem dX0_isLinked_12 : decode cX0_isLinked 12 = .ok (.iconst 1, 1) := by decide +kernel
theorem dX0_isLinked_13 : decode cX0_isLinked 13 = .ok (.goto 4, 3) := by decide +kernel
theorem dX0_isLinked_16 : decode cX0_isLinked 16 = .ok (.iconst 0, 1) := by decide +kernel
theorem dX0_isLinked_17 : decode cX0_isLinked 17 = .ok (.ireturn, 1) := by decide +kernel
theorem dX0_shapeOf_0 : decode cX0_shapeOf 0 = .ok (.aload_n 0, 1) := by decide +kernel
theorem dX0_shapeOf_1 : decode cX0_shapeOf 1 = .ok (.getfield 48, 3) := by decide +kernel
theorem dX0_shapeOf_4 : decode cX0_shapeOf 4 = .ok (.iload_n 1, 1) := by decide +kernel
theorem dX0_shapeOf_5 : decode cX0_shapeOf 5 = .ok (.iaload, 1) := by decide +kernel
theorem dX0_shapeOf_6 : decode cX0_shapeOf 6 = .ok (.sipush 128, 3) := by decide +kernel
theorem dX0_shapeOf_9 : decode cX0_shapeOf 9 = .ok (.iand, 1) := by decide +kernel
theorem dX0_shapeOf_10 : decode cX0_shapeOf 10 = .ok (.ifCond .ne 129, 3) := by decide +kernel
theorem dX0_shapeOf_13 : decode cX0_shapeOf 13 = .ok (.aload_n 0, 1) := by decide +kernel
theorem dX0_shapeOf_14 : decode cX0_shapeOf 14 = .ok (.getfield 21, 3) := by decide +kernel
theorem dX0_shapeOf_17 : decode cX0_shapeOf 17 = .ok (.aload_n 0, 1) := by decide +kernel
theorem dX0_shapeOf_18 : decode cX0_shapeOf 18 = .ok (.getfield 35, 3) := by decide +kernel
theorem dX0_shapeOf_21 : decode cX0_shapeOf 21 = .ok (.iload_n 1, 1) := by decide +kernel
theorem dX0_shapeOf_22 : decode cX0_shapeOf 22 = .ok (.laload, 1) := by decide +kernel
theorem dX0_shapeOf_23 : decode cX0_shapeOf 23 = .ok (.aload_n 0, 1) := by decide +kernel
theorem dX0_shapeOf_24 : decode cX0_shapeOf 24 = .ok (.getfield 79, 3) := by decide +kernel
theorem dX0_shapeOf_27 : decode cX0_shapeOf 27 = .ok (.aload_n 0, 1) := by decide +kernel
theorem dX0_shapeOf_28 : decode cX0_shapeOf 28 = .ok (.getfield 86, 3) := by decide +kernel
theorem dX0_shapeOf_31 : decode cX0_shapeOf 31 = .ok (.invokevirtual 190, 3) := by decide +kernel
theorem dX0_shapeOf_34 : decode cX0_shapeOf 34 = .ok (.aload_n 0, 1) := by decide +kernel
theorem dX0_shapeOf_35 : decode cX0_shapeOf 35 = .ok (.getfield 21, 3) := by decide +kernel
theorem dX0_shapeOf_38 : decode cX0_shapeOf 38 = .ok (.invokevirtual 194, 3) := by decide +kernel
theorem dX0_shapeOf_41 : decode cX0_shapeOf 41 = .ok (.istore_n 2, 1) := by decide +kernel
theorem dX0_shapeOf_42 : decode cX0_shapeOf 42 = .ok (.aload_n 0, 1) := by decide +kernel
theorem dX0_shapeOf_43 : decode cX0_shapeOf 43 = .ok (.getfield 79, 3) := by decide +kernel
theorem dX0_shapeOf_46 : decode cX0_shapeOf 46 = .ok (.iload_n 2, 1) := by decide +kernel
theorem dX0_shapeOf_47 : decode cX0_shapeOf 47 = .ok (.iadd, 1) := by decide +kernel
theorem dX0_shapeOf_48 : decode cX0_shapeOf 48 = .ok (.aload_n 0, 1) := by decide +kernel
theorem dX0_shapeOf_49 : decode cX0_shapeOf 49 = .ok (.getfield 86, 3) := by decide +kernel
theorem dX0_shapeOf_52 : decode cX0_shapeOf 52 = .ok (.invokestatic 197, 3) := by decide +kernel
theorem dX0_shapeOf_55 : decode cX0_shapeOf 55 = .ok (.isub, 1) := by decide +kernel
theorem dX0_shapeOf_56 : decode cX0_shapeOf 56 = .ok (.istore_n 3, 1) := by decide +kernel
theorem dX0_shapeOf_57 : decode cX0_shapeOf 57 = .ok (.sipush 128, 3) := by decide +kernel
theorem dX0_shapeOf_60 : decode cX0_shapeOf 60 = .ok (.iload_n 2, 1) := by decide +kernel
theorem dX0_shapeOf_61 : decode cX0_shapeOf 61 = .ok (.bipush 9, 2) := by decide +kernel
theorem dX0_shapeOf_63 : decode cX0_shapeOf 63 = .ok (.ishl, 1) := by decide +kernel
theorem dX0_shapeOf_64 : decode cX0_shapeOf 64 = .ok (.ior, 1) := by decide +kernel
theorem dX0_shapeOf_65 : decode cX0_shapeOf 65 = .ok (.iload_n 3, 1) := by decide +kernel
theorem dX0_shapeOf_66 : decode cX0_shapeOf 66 = .ok (.bipush 13, 2) := by decide +kernel
theorem dX0_shapeOf_68 : decode cX0_shapeOf 68 = .ok (.ishl, 1) := by decide +kernel
theorem dX0_shapeOf_69 : decode cX0_shapeOf 69 = .ok (.ior, 1) := by decide +kernel
theorem dX0_shapeOf_70 : decode cX0_shapeOf 70 = .ok (.istore 4, 2) := by decide +kernel
theorem dX0_shapeOf_72 : decode cX0_shapeOf 72 = .ok (.iload 4, 2) := by decide +kernel
theorem dX0_shapeOf_74 : decode cX0_shapeOf 74 = .ok (.aload_n 0, 1) := by decide +kernel
theorem dX0_shapeOf_75 : decode cX0_shapeOf 75 = .ok (.getfield 21, 3) := by decide +kernel
theorem dX0_shapeOf_78 : decode cX0_shapeOf 78 = .ok (.invokevirtual 202, 3) := by decide +kernel
theorem dX0_shapeOf_81 : decode cX0_shapeOf 81 = .ok (.bipush 16, 2) := by decide +kernel
theorem dX0_shapeOf_83 : decode cX0_shapeOf 83 = .ok (.ishl, 1) := by decide +kernel
theorem dX0_shapeOf_84 : decode cX0_shapeOf 84 = .ok (.aload_n 0, 1) := by decide +kernel
theorem dX0_shapeOf_85 : decode cX0_shapeOf 85 = .ok (.getfield 21, 3) := by decide +kernel
theorem dX0_shapeOf_88 : decode cX0_shapeOf 88 = .ok (.invokevirtual 205, 3) := by decide +kernel
theorem dX0_shapeOf_91 : decode cX0_shapeOf 91 = .ok (.bipush 19, 2) := by decide +kernel
theorem dX0_shapeOf_93 : decode cX0_shapeOf 93 = .ok (.ishl, 1) := by decide +kernel
theorem dX0_shapeOf_94 : decode cX0_shapeOf 94 = .ok (.ior, 1) := by decide +kernel
theorem dX0_shapeOf_95 : decode cX0_shapeOf 95 = .ok (.ior, 1) := by decide +kernel
theorem dX0_shapeOf_96 : decode cX0_shapeOf 96 = .ok (.istore 4, 2) := by decide +kernel
theorem dX0_shapeOf_98 : decode cX0_shapeOf 98 = .ok (.aload_n 0, 1) := by decide +kernel
theorem dX0_shapeOf_99 : decode cX0_shapeOf 99 = .ok (.getfield 21, 3) := by decide +kernel
theorem dX0_shapeOf_102 : decode cX0_shapeOf 102 = .ok (.aload_n 0, 1) := by decide +kernel
theorem dX0_shapeOf_103 : decode cX0_shapeOf 103 = .ok (.getfield 91, 3) := by decide +kernel
theorem dX0_shapeOf_106 : decode cX0_shapeOf 106 = .ok (.aload_n 0, 1) := by decide +kernel
theorem dX0_shapeOf_107 : decode cX0_shapeOf 107 = .ok (.getfield 86, 3) := by decide +kernel
theorem dX0_shapeOf_110 : decode cX0_shapeOf 110 = .ok (.invokevirtual 208, 3) := by decide +kernel
theorem dX0_shapeOf_113 : decode cX0_shapeOf 113 = .ok (.aload_n 0, 1) := by decide +kernel
theorem dX0_shapeOf_114 : decode cX0_shapeOf 114 = .ok (.getfield 86, 3) := by decide +kernel
theorem dX0_shapeOf_117 : decode cX0_shapeOf 117 = .ok (.if_icmp .ne 11, 3) := by decide +kernel
theorem dX0_shapeOf_120 : decode cX0_shapeOf 120 = .ok (.iload 4, 2) := by decide +kernel
theorem dX0_shapeOf_122 : decode cX0_shapeOf 122 = .ok (.sipush 256, 3) := by decide +kernel
theorem dX0_shapeOf_125 : decode cX0_shapeOf 125 = .ok (.ior, 1) := by decide +kernel
theorem dX0_shapeOf_126 : decode cX0_shapeOf 126 = .ok (.istore 4, 2) := by decide +kernel
theorem dX0_shapeOf_128 : decode cX0_shapeOf 128 = .ok (.aload_n 0, 1) := by decide +kernel
theorem dX0_shapeOf_129 : decode cX0_shapeOf 129 = .ok (.getfield 48, 3) := by decide +kernel
theorem dX0_shapeOf_132 : decode cX0_shapeOf 132 = .ok (.iload_n 1, 1) := by decide +kernel
theorem dX0_shapeOf_133 : decode cX0_shapeOf 133 = .ok (.dup2, 1) := by decide +kernel
theorem dX0_shapeOf_134 : decode cX0_shapeOf 134 = .ok (.iaload, 1) := by decide +kernel
theorem dX0_shapeOf_135 : decode cX0_shapeOf 135 = .ok (.iload 4, 2) := by decide +kernel
theorem dX0_shapeOf_137 : decode cX0_shapeOf 137 = .ok (.ior, 1) := by decide +kernel
theorem dX0_shapeOf_138 : decode cX0_shapeOf 138 = .ok (.iastore, 1) := by decide +kernel
theorem dX0_shapeOf_139 : decode cX0_shapeOf 139 = .ok (.aload_n 0, 1) := by decide +kernel
theorem dX0_shapeOf_140 : decode cX0_shapeOf 140 = .ok (.getfield 48, 3) := by decide +kernel
theorem dX0_shapeOf_143 : decode cX0_shapeOf 143 = .ok (.iload_n 1, 1) := by decide +kernel
theorem dX0_shapeOf_144 : decode cX0_shapeOf 144 = .ok (.iaload, 1) := by decide +kernel
theorem dX0_shapeOf_145 : decode cX0_shapeOf 145 = .ok (.ireturn, 1) := by decide +kernel
theorem dX0_thickest_0 : decode cX0_thickest 0 = .ok (.iconst 0, 1) := by decide +kernel
theorem dX0_thickest_1 : decode cX0_thickest 1 = .ok (.istore_n 2, 1) := by decide +kernel
theorem dX0_thickest_2 : decode cX0_thickest 2 = .ok (.iconst 0, 1) := by decide +kernel
theorem dX0_thickest_3 : decode cX0_thickest 3 = .ok (.istore_n 3, 1) := by decide +kernel
theorem dX0_thickest_4 : decode cX0_thickest 4 = .ok (.iconst 0, 1) := by decide +kernel
theorem dX0_thickest_5 : decode cX0_thickest 5 = .ok (.istore 4, 2) := by decide +kernel
theorem dX0_thickest_7 : decode cX0_thickest 7 = .ok (.iload 4, 2) := by decide +kernel
theorem dX0_thickest_9 : decode cX0_thickest 9 = .ok (.aload_n 0, 1) := by decide +kernel
theorem dX0_thickest_10 : decode cX0_thickest 10 = .ok (.getfield 79, 3) := by decide +kernel
theorem dX0_thickest_13 : decode cX0_thickest 13 = .ok (.if_icmp .ge 47, 3) := by decide +kernel
theorem dX0_thickest_16 : decode cX0_thickest 16 = .ok (.iload 4, 2) := by decide +kernel
theorem dX0_thickest_18 : decode cX0_thickest 18 = .ok (.ifCond .le 28, 3) := by decide +kernel
theorem dX0_thickest_21 : decode cX0_thickest 21 = .ok (.aload_n 0, 1) := by decide +kernel
theorem dX0_thickest_22 : decode cX0_thickest 22 = .ok (.iload_n 1, 1) := by decide +kernel
theorem dX0_thickest_23 : decode cX0_thickest 23 = .ok (.iload 4, 2) := by decide +kernel
theorem dX0_thickest_25 : decode cX0_thickest 25 = .ok (.invokevirtual 211, 3) := by decide +kernel
theorem dX0_thickest_28 : decode cX0_thickest 28 = .ok (.aload_n 0, 1) := by decide +kernel
theorem dX0_thickest_29 : decode cX0_thickest 29 = .ok (.iload_n 1, 1) := by decide +kernel
theorem dX0_thickest_30 : decode cX0_thickest 30 = .ok (.iload 4, 2) := by decide +kernel
theorem dX0_thickest_32 : decode cX0_thickest 32 = .ok (.iconst 1, 1) := by decide +kernel
theorem dX0_thickest_33 : decode cX0_thickest 33 = .ok (.isub, 1) := by decide +kernel
theorem dX0_thickest_34 : decode cX0_thickest 34 = .ok (.invokevirtual 211, 3) := by decide +kernel
theorem dX0_thickest_37 : decode cX0_thickest 37 = .ok (.if_icmp .ne 9, 3) := by decide +kernel
theorem dX0_thickest_40 : decode cX0_thickest 40 = .ok (.iload_n 3, 1) := by decide +kernel
theorem dX0_thickest_41 : decode cX0_thickest 41 = .ok (.iconst 1, 1) := by decide +kernel
theorem dX0_thickest_42 : decode cX0_thickest 42 = .ok (.iadd, 1) := by decide +kernel
theorem dX0_thickest_43 : decode cX0_thickest 43 = .ok (.goto 4, 3) := by decide +kernel
theorem dX0_thickest_46 : decode cX0_thickest 46 = .ok (.iconst 1, 1) := by decide +kernel
theorem dX0_thickest_47 : decode cX0_thickest 47 = .ok (.istore_n 3, 1) := by decide +kernel
theorem dX0_thickest_48 : decode cX0_thickest 48 = .ok (.iload_n 2, 1) := by decide +kernel
theorem dX0_thickest_49 : decode cX0_thickest 49 = .ok (.iload_n 3, 1) := by decide +kernel
theorem dX0_thickest_50 : decode cX0_thickest 50 = .ok (.invokestatic 214, 3) := by decide +kernel
theorem dX0_thickest_53 : decode cX0_thickest 53 = .ok (.istore_n 2, 1) := by decide +kernel
theorem dX0_thickest_54 : decode cX0_thickest 54 = .ok (.iinc 4 1, 3) := by decide +kernel
theorem dX0_thickest_57 : decode cX0_thickest 57 = .ok (.goto (-50), 3) := by decide +kernel
theorem dX0_thickest_60 : decode cX0_thickest 60 = .ok (.iload_n 2, 1) := by decide +kernel
theorem dX0_thickest_61 : decode cX0_thickest 61 = .ok (.ireturn, 1) := by decide +kernel
theorem dX0_linkedPairings_0 : decode cX0_linkedPairings 0 = .ok (.iconst 0, 1) := by decide +kernel
theorem dX0_linkedPairings_1 : decode cX0_linkedPairings 1 = .ok (.istore_n 1, 1) := by decide +kernel
theorem dX0_linkedPairings_2 : decode cX0_linkedPairings 2 = .ok (.iconst 0, 1) := by decide +kernel
theorem dX0_linkedPairings_3 : decode cX0_linkedPairings 3 = .ok (.istore_n 2, 1) := by decide +kernel
theorem dX0_linkedPairings_4 : decode cX0_linkedPairings 4 = .ok (.iload_n 2, 1) := by decide +kernel
theorem dX0_linkedPairings_5 : decode cX0_linkedPairings 5 = .ok (.aload_n 0, 1) := by decide +kernel
theorem dX0_linkedPairings_6 : decode cX0_linkedPairings 6 = .ok (.getfield 108, 3) := by decide +kernel
theorem dX0_linkedPairings_9 : decode cX0_linkedPairings 9 = .ok (.if_icmp .ge 30, 3) := by decide +kernel
theorem dX0_linkedPairings_12 : decode cX0_linkedPairings 12 = .ok (.iload_n 1, 1) := by decide +kernel
theorem dX0_linkedPairings_13 : decode cX0_linkedPairings 13 = .ok (.aload_n 0, 1) := by decide +kernel
theorem dX0_linkedPairings_14 : decode cX0_linkedPairings 14 = .ok (.iload_n 2, 1) := by decide +kernel
theorem dX0_linkedPairings_15 : decode cX0_linkedPairings 15 = .ok (.invokevirtual 217, 3) := by decide +kernel
theorem dX0_linkedPairings_18 : decode cX0_linkedPairings 18 = .ok (.ifCond .eq 12, 3) := by decide +kernel
theorem dX0_linkedPairings_21 : decode cX0_linkedPairings 21 = .ok (.aload_n 0, 1) := by decide +kernel
theorem dX0_linkedPairings_22 : decode cX0_linkedPairings 22 = .ok (.getfield 39, 3) := by decide +kernel
theorem dX0_linkedPairings_25 : decode cX0_linkedPairings 25 = .ok (.iload_n 2, 1) := by decide +kernel
theorem dX0_linkedPairings_26 : decode cX0_linkedPairings 26 = .ok (.iaload, 1) := by decide +kernel
theorem dX0_linkedPairings_27 : decode cX0_linkedPairings 27 = .ok (.goto 4, 3) := by decide +kernel
theorem dX0_linkedPairings_30 : decode cX0_linkedPairings 30 = .ok (.iconst 0, 1) := by decide +kernel
theorem dX0_linkedPairings_31 : decode cX0_linkedPairings 31 = .ok (.iadd, 1) := by decide +kernel
theorem dX0_linkedPairings_32 : decode cX0_linkedPairings 32 = .ok (.istore_n 1, 1) := by decide +kernel
theorem dX0_linkedPairings_33 : decode cX0_linkedPairings 33 = .ok (.iinc 2 1, 3) := by decide +kernel
theorem dX0_linkedPairings_36 : decode cX0_linkedPairings 36 = .ok (.goto (-32), 3) := by decide +kernel
theorem dX0_linkedPairings_39 : decode cX0_linkedPairings 39 = .ok (.iload_n 1, 1) := by decide +kernel
theorem dX0_linkedPairings_40 : decode cX0_linkedPairings 40 = .ok (.ireturn, 1) := by decide +kernel
theorem dX0_connectedPairings_0 : decode cX0_connectedPairings 0 = .ok (.iconst 0, 1) := by decide +kernel
theorem dX0_connectedPairings_1 : decode cX0_connectedPairings 1 = .ok (.istore_n 1, 1) := by decide +kernel
theorem dX0_connectedPairings_2 : decode cX0_connectedPairings 2 = .ok (.iconst 0, 1) := by decide +kernel
theorem dX0_connectedPairings_3 : decode cX0_connectedPairings 3 = .ok (.istore_n 2, 1) := by decide +kernel
theorem dX0_connectedPairings_4 : decode cX0_connectedPairings 4 = .ok (.iload_n 2, 1) := by decide +kernel
theorem dX0_connectedPairings_5 : decode cX0_connectedPairings 5 = .ok (.aload_n 0, 1) := by decide +kernel
theorem dX0_connectedPairings_6 : decode cX0_connectedPairings 6 = .ok (.getfield 108, 3) := by decide +kernel
theorem dX0_connectedPairings_9 : decode cX0_connectedPairings 9 = .ok (.if_icmp .ge 31, 3) := by decide +kernel
theorem dX0_connectedPairings_12 : decode cX0_connectedPairings 12 = .ok (.iload_n 1, 1) := by decide +kernel
theorem dX0_connectedPairings_13 : decode cX0_connectedPairings 13 = .ok (.aload_n 0, 1) := by decide +kernel
theorem dX0_connectedPairings_14 : decode cX0_connectedPairings 14 = .ok (.iload_n 2, 1) := by decide +kernel
theorem dX0_connectedPairings_15 : decode cX0_connectedPairings 15 = .ok (.invokevirtual 221, 3) := by decide +kernel
theorem dX0_connectedPairings_18 : decode cX0_connectedPairings 18 = .ok (.iconst 1, 1) := by decide +kernel
theorem dX0_connectedPairings_19 : decode cX0_connectedPairings 19 = .ok (.if_icmp .ne 12, 3) := by decide +kernel
theorem dX0_connectedPairings_22 : decode cX0_connectedPairings 22 = .ok (.aload_n 0, 1) := by decide +kernel
theorem dX0_connectedPairings_23 : decode cX0_connectedPairings 23 = .ok (.getfield 39, 3) := by decide +kernel
theorem dX0_connectedPairings_26 : decode cX0_connectedPairings 26 = .ok (.iload_n 2, 1) := by decide +kernel
theorem dX0_connectedPairings_27 : decode cX0_connectedPairings 27 = .ok (.iaload, 1) := by decide +kernel
theorem dX0_connectedPairings_28 : decode cX0_connectedPairings 28 = .ok (.goto 4, 3) := by decide +kernel
theorem dX0_connectedPairings_31 : decode cX0_connectedPairings 31 = .ok (.iconst 0, 1) := by decide +kernel
theorem dX0_connectedPairings_32 : decode cX0_connectedPairings 32 = .ok (.iadd, 1) := by decide +kernel
theorem dX0_connectedPairings_33 : decode cX0_connectedPairings 33 = .ok (.istore_n 1, 1) := by decide +kernel
theorem dX0_connectedPairings_34 : decode cX0_connectedPairings 34 = .ok (.iinc 2 1, 3) := by decide +kernel
theorem dX0_connectedPairings_37 : decode cX0_connectedPairings 37 = .ok (.goto (-33), 3) := by decide +kernel
theorem dX0_connectedPairings_40 : decode cX0_connectedPairings 40 = .ok (.iload_n 1, 1) := by decide +kernel
theorem dX0_connectedPairings_41 : decode cX0_connectedPairings 41 = .ok (.ireturn, 1) := by decide +kernel
theorem dX0_linkedDiagrams_0 : decode cX0_linkedDiagrams 0 = .ok (.iconst 0, 1) := by decide +kernel
theorem dX0_linkedDiagrams_1 : decode cX0_linkedDiagrams 1 = .ok (.istore_n 1, 1) := by decide +kernel
theorem dX0_linkedDiagrams_2 : decode cX0_linkedDiagrams 2 = .ok (.iconst 0, 1) := by decide +kernel
theorem dX0_linkedDiagrams_3 : decode cX0_linkedDiagrams 3 = .ok (.istore_n 2, 1) := by decide +kernel
theorem dX0_linkedDiagrams_4 : decode cX0_linkedDiagrams 4 = .ok (.iload_n 2, 1) := by decide +kernel
theorem dX0_linkedDiagrams_5 : decode cX0_linkedDiagrams 5 = .ok (.aload_n 0, 1) := by decide +kernel
theorem dX0_linkedDiagrams_6 : decode cX0_linkedDiagrams 6 = .ok (.getfield 108, 3) := by decide +kernel
theorem dX0_linkedDiagrams_9 : decode cX0_linkedDiagrams 9 = .ok (.if_icmp .ge 25, 3) := by decide +kernel
theorem dX0_linkedDiagrams_12 : decode cX0_linkedDiagrams 12 = .ok (.iload_n 1, 1) := by decide +kernel
theorem dX0_linkedDiagrams_13 : decode cX0_linkedDiagrams 13 = .ok (.aload_n 0, 1) := by decide +kernel
theorem dX0_linkedDiagrams_14 : decode cX0_linkedDiagrams 14 = .ok (.iload_n 2, 1) := by decide +kernel
theorem dX0_linkedDiagrams_15 : decode cX0_linkedDiagrams 15 = .ok (.invokevirtual 217, 3) := by decide +kernel
theorem dX0_linkedDiagrams_18 : decode cX0_linkedDiagrams 18 = .ok (.ifCond .eq 7, 3) := by decide +kernel
theorem dX0_linkedDiagrams_21 : decode cX0_linkedDiagrams 21 = .ok (.iconst 1, 1) := by decide +kernel
theorem dX0_linkedDiagrams_22 : decode cX0_linkedDiagrams 22 = .ok (.goto 4, 3) := by decide +kernel
theorem dX0_linkedDiagrams_25 : decode cX0_linkedDiagrams 25 = .ok (.iconst 0, 1) := by decide +kernel
theorem dX0_linkedDiagrams_26 : decode cX0_linkedDiagrams 26 = .ok (.iadd, 1) := by decide +kernel
theorem dX0_linkedDiagrams_27 : decode cX0_linkedDiagrams 27 = .ok (.istore_n 1, 1) := by decide +kernel
theorem dX0_linkedDiagrams_28 : decode cX0_linkedDiagrams 28 = .ok (.iinc 2 1, 3) := by decide +kernel
theorem dX0_linkedDiagrams_31 : decode cX0_linkedDiagrams 31 = .ok (.goto (-27), 3) := by decide +kernel
theorem dX0_linkedDiagrams_34 : decode cX0_linkedDiagrams 34 = .ok (.iload_n 1, 1) := by decide +kernel
theorem dX0_linkedDiagrams_35 : decode cX0_linkedDiagrams 35 = .ok (.ireturn, 1) := by decide +kernel
theorem dX0_countWith_0 : decode cX0_countWith 0 = .ok (.iconst 0, 1) := by decide +kernel
theorem dX0_countWith_1 : decode cX0_countWith 1 = .ok (.istore_n 3, 1) := by decide +kernel
theorem dX0_countWith_2 : decode cX0_countWith 2 = .ok (.iconst 0, 1) := by decide +kernel
theorem dX0_countWith_3 : decode cX0_countWith 3 = .ok (.istore 4, 2) := by decide +kernel
theorem dX0_countWith_5 : decode cX0_countWith 5 = .ok (.iload 4, 2) := by decide +kernel
theorem dX0_countWith_7 : decode cX0_countWith 7 = .ok (.aload_n 0, 1) := by decide +kernel
theorem dX0_countWith_8 : decode cX0_countWith 8 = .ok (.getfield 108, 3) := by decide +kernel
theorem dX0_countWith_11 : decode cX0_countWith 11 = .ok (.if_icmp .ge 31, 3) := by decide +kernel
theorem dX0_countWith_14 : decode cX0_countWith 14 = .ok (.iload_n 3, 1) := by decide +kernel
theorem dX0_countWith_15 : decode cX0_countWith 15 = .ok (.aload_n 0, 1) := by decide +kernel
theorem dX0_countWith_16 : decode cX0_countWith 16 = .ok (.iload 4, 2) := by decide +kernel
theorem dX0_countWith_18 : decode cX0_countWith 18 = .ok (.iload_n 1, 1) := by decide +kernel
theorem dX0_countWith_19 : decode cX0_countWith 19 = .ok (.invokestatic 224, 3) := by decide +kernel
theorem dX0_countWith_22 : decode cX0_countWith 22 = .ok (.invokevirtual 227, 3) := by decide +kernel
theorem dX0_countWith_25 : decode cX0_countWith 25 = .ok (.iload_n 2, 1) := by decide +kernel
theorem dX0_countWith_26 : decode cX0_countWith 26 = .ok (.if_icmp .ne 7, 3) := by decide +kernel
theorem dX0_countWith_29 : decode cX0_countWith 29 = .ok (.iconst 1, 1) := by decide +kernel
theorem dX0_countWith_30 : decode cX0_countWith 30 = .ok (.goto 4, 3) := by decide +kernel
theorem dX0_countWith_33 : decode cX0_countWith 33 = .ok (.iconst 0, 1) := by decide +kernel
theorem dX0_countWith_34 : decode cX0_countWith 34 = .ok (.iadd, 1) := by decide +kernel
theorem dX0_countWith_35 : decode cX0_countWith 35 = .ok (.istore_n 3, 1) := by decide +kernel
theorem dX0_countWith_36 : decode cX0_countWith 36 = .ok (.iinc 4 1, 3) := by decide +kernel
theorem dX0_countWith_39 : decode cX0_countWith 39 = .ok (.goto (-34), 3) := by decide +kernel
theorem dX0_countWith_42 : decode cX0_countWith 42 = .ok (.iload_n 3, 1) := by decide +kernel
theorem dX0_countWith_43 : decode cX0_countWith 43 = .ok (.ireturn, 1) := by decide +kernel
theorem dX0_factFor_0 : decode cX0_factFor 0 = .ok (.iload_n 0, 1) := by decide +kernel
theorem dX0_factFor_1 : decode cX0_factFor 1 = .ok (.lookupswitch 31 #[(0, 27), (4, 29)], 27) := by decide +kernel
theorem dX0_factFor_28 : decode cX0_factFor 28 = .ok (.iconst 3, 1) := by decide +kernel
theorem dX0_factFor_29 : decode cX0_factFor 29 = .ok (.ireturn, 1) := by decide +kernel
theorem dX0_factFor_30 : decode cX0_factFor 30 = .ok (.iconst 2, 1) := by decide +kernel
theorem dX0_factFor_31 : decode cX0_factFor 31 = .ok (.ireturn, 1) := by decide +kernel
theorem dX0_factFor_32 : decode cX0_factFor 32 = .ok (.iload_n 0, 1) := by decide +kernel
theorem dX0_factFor_33 : decode cX0_factFor 33 = .ok (.iconst 4, 1) := by decide +kernel
theorem dX0_factFor_34 : decode cX0_factFor 34 = .ok (.iadd, 1) := by decide +kernel
theorem dX0_factFor_35 : decode cX0_factFor 35 = .ok (.ireturn, 1) := by decide +kernel
