theorem dX7_init_0 : decode cX7_init 0 = .ok (.aload_n 0, 1) := by decide +kernel
theorem dX7_init_1 : decode cX7_init 1 = .ok (.invokespecial 3, 3) := by decide +kernel
theorem dX7_init_4 : decode cX7_init 4 = .ok (.aload_n 0, 1) := by decide +kernel
theorem dX7_init_5 : decode cX7_init 5 = .ok (.bipush 6, 2) := by decide +kernel
theorem dX7_init_7 : decode cX7_init 7 = .ok (.newarray .int, 2) := by decide +kernel
theorem dX7_init_9 : decode cX7_init 9 = .ok (.putfield 9, 3) := by decide +kernel
theorem dX7_init_12 : decode cX7_init 12 = .ok (.aload_n 0, 1) := by decide +kernel
theorem dX7_init_13 : decode cX7_init 13 = .ok (.bipush 6, 2) := by decide +kernel
theorem dX7_init_15 : decode cX7_init 15 = .ok (.newarray .boolean, 2) := by decide +kernel
theorem dX7_init_17 : decode cX7_init 17 = .ok (.putfield 15, 3) := by decide +kernel
theorem dX7_init_20 : decode cX7_init 20 = .ok (.aload_n 0, 1) := by decide +kernel
theorem dX7_init_21 : decode cX7_init 21 = .ok (.bipush 6, 2) := by decide +kernel
theorem dX7_init_23 : decode cX7_init 23 = .ok (.newarray .boolean, 2) := by decide +kernel
theorem dX7_init_25 : decode cX7_init 25 = .ok (.putfield 19, 3) := by decide +kernel
theorem dX7_init_28 : decode cX7_init 28 = .ok (.aload_n 0, 1) := by decide +kernel
theorem dX7_init_29 : decode cX7_init 29 = .ok (.iconst 4, 1) := by decide +kernel
theorem dX7_init_30 : decode cX7_init 30 = .ok (.newarray .int, 2) := by decide +kernel
theorem dX7_init_32 : decode cX7_init 32 = .ok (.putfield 22, 3) := by decide +kernel
theorem dX7_init_35 : decode cX7_init 35 = .ok (.aload_n 0, 1) := by decide +kernel
theorem dX7_init_36 : decode cX7_init 36 = .ok (.iconst 4, 1) := by decide +kernel
theorem dX7_init_37 : decode cX7_init 37 = .ok (.newarray .int, 2) := by decide +kernel
theorem dX7_init_39 : decode cX7_init 39 = .ok (.putfield 25, 3) := by decide +kernel
theorem dX7_init_42 : decode cX7_init 42 = .ok (.aload_n 0, 1) := by decide +kernel
theorem dX7_init_43 : decode cX7_init 43 = .ok (.bipush 8, 2) := by decide +kernel
theorem dX7_init_45 : decode cX7_init 45 = .ok (.anewarray 28, 3) := by decide +kernel
theorem dX7_init_48 : decode cX7_init 48 = .ok (.putfield 30, 3) := by decide +kernel
theorem dX7_init_51 : decode cX7_init 51 = .ok (.aload_n 0, 1) := by decide +kernel
theorem dX7_init_52 : decode cX7_init 52 = .ok (.bipush 12, 2) := by decide +kernel
theorem dX7_init_54 : decode cX7_init 54 = .ok (.newarray .int, 2) := by decide +kernel
theorem dX7_init_56 : decode cX7_init 56 = .ok (.putfield 34, 3) := by decide +kernel
theorem dX7_init_59 : decode cX7_init 59 = .ok (.aload_n 0, 1) := by decide +kernel
theorem dX7_init_60 : decode cX7_init 60 = .ok (.bipush 12, 2) := by decide +kernel
theorem dX7_init_62 : decode cX7_init 62 = .ok (.newarray .int, 2) := by decide +kernel
theorem dX7_init_64 : decode cX7_init 64 = .ok (.putfield 37, 3) := by decide +kernel
theorem dX7_init_67 : decode cX7_init 67 = .ok (.aload_n 0, 1) := by decide +kernel
theorem dX7_init_68 : decode cX7_init 68 = .ok (.bipush 12, 2) := by decide +kernel
theorem dX7_init_70 : decode cX7_init 70 = .ok (.newarray .int, 2) := by decide +kernel
theorem dX7_init_72 : decode cX7_init 72 = .ok (.putfield 40, 3) := by decide +kernel
theorem dX7_init_75 : decode cX7_init 75 = .ok (.aload_n 0, 1) := by decide +kernel
theorem dX7_init_76 : decode cX7_init 76 = .ok (.sipush 144, 3) := by decide +kernel
theorem dX7_init_79 : decode cX7_init 79 = .ok (.newarray .int, 2) := by decide +kernel
theorem dX7_init_81 : decode cX7_init 81 = .ok (.putfield 43, 3) := by decide +kernel
theorem dX7_init_84 : decode cX7_init 84 = .ok (.aload_n 0, 1) := by decide +kernel
theorem dX7_init_85 : decode cX7_init 85 = .ok (.sipush 800, 3) := by decide +kernel
theorem dX7_init_88 : decode cX7_init 88 = .ok (.newarray .int, 2) := by decide +kernel
theorem dX7_init_90 : decode cX7_init 90 = .ok (.putfield 46, 3) := by decide +kernel
theorem dX7_init_93 : decode cX7_init 93 = .ok (.iconst 0, 1) := by decide +kernel
theorem dX7_init_94 : decode cX7_init 94 = .ok (.istore_n 1, 1) := by decide +kernel
theorem dX7_init_95 : decode cX7_init 95 = .ok (.iload_n 1, 1) := by decide +kernel
theorem dX7_init_96 : decode cX7_init 96 = .ok (.bipush 8, 2) := by decide +kernel
theorem dX7_init_98 : decode cX7_init 98 = .ok (.if_icmp .ge 22, 3) := by decide +kernel
theorem dX7_init_101 : decode cX7_init 101 = .ok (.aload_n 0, 1) := by decide +kernel
theorem dX7_init_102 : decode cX7_init 102 = .ok (.getfield 30, 3) := by decide +kernel
theorem dX7_init_105 : decode cX7_init 105 = .ok (.iload_n 1, 1) := by decide +kernel
theorem dX7_init_106 : decode cX7_init 106 = .ok (.new 28, 3) := by decide +kernel
theorem dX7_init_109 : decode cX7_init 109 = .ok (.dup, 1) := by decide +kernel
theorem dX7_init_110 : decode cX7_init 110 = .ok (.invokespecial 49, 3) := by decide +kernel
theorem dX7_init_113 : decode cX7_init 113 = .ok (.aastore, 1) := by decide +kernel
theorem dX7_init_114 : decode cX7_init 114 = .ok (.iinc 1 1, 3) := by decide +kernel
theorem dX7_init_117 : decode cX7_init 117 = .ok (.goto (-22), 3) := by decide +kernel
theorem dX7_init_120 : decode cX7_init 120 = .ok (.return_, 1) := by decide +kernel
theorem dX7_clear_0 : decode cX7_clear 0 = .ok (.aload_n 0, 1) := by decide +kernel
theorem dX7_clear_1 : decode cX7_clear 1 = .ok (.iconst 0, 1) := by decide +kernel
theorem dX7_clear_2 : decode cX7_clear 2 = .ok (.putfield 50, 3) := by decide +kernel
theorem dX7_clear_5 : decode cX7_clear 5 = .ok (.aload_n 0, 1) := by decide +kernel
theorem dX7_clear_6 : decode cX7_clear 6 = .ok (.iconst 0, 1) := by decide +kernel
theorem dX7_clear_7 : decode cX7_clear 7 = .ok (.putfield 54, 3) := by decide +kernel
theorem dX7_clear_10 : decode cX7_clear 10 = .ok (.aload_n 0, 1) := by decide +kernel
theorem dX7_clear_11 : decode cX7_clear 11 = .ok (.iconst 0, 1) := by decide +kernel
theorem dX7_clear_12 : decode cX7_clear 12 = .ok (.putfield 57, 3) := by decide +kernel
theorem dX7_clear_15 : decode cX7_clear 15 = .ok (.aload_n 0, 1) := by decide +kernel
theorem dX7_clear_16 : decode cX7_clear 16 = .ok (.invokevirtual 60, 3) := by decide +kernel
theorem dX7_clear_19 : decode cX7_clear 19 = .ok (.return_, 1) := by decide +kernel
theorem dX7_renumber_0 : decode cX7_renumber 0 = .ok (.aload_n 0, 1) := by decide +kernel
theorem dX7_renumber_1 : decode cX7_renumber 1 = .ok (.getfield 46, 3) := by decide +kernel
theorem dX7_renumber_4 : decode cX7_renumber 4 = .ok (.iconst 1, 1) := by decide +kernel
theorem dX7_renumber_5 : decode cX7_renumber 5 = .ok (.invokestatic 63, 3) := by decide +kernel
theorem dX7_renumber_8 : decode cX7_renumber 8 = .ok (.aload_n 0, 1) := by decide +kernel
theorem dX7_renumber_9 : decode cX7_renumber 9 = .ok (.iconst 0, 1) := by decide +kernel
theorem dX7_renumber_10 : decode cX7_renumber 10 = .ok (.putfield 69, 3) := by decide +kernel
theorem dX7_renumber_13 : decode cX7_renumber 13 = .ok (.aload_n 0, 1) := by decide +kernel
theorem dX7_renumber_14 : decode cX7_renumber 14 = .ok (.iconst 0, 1) := by decide +kernel
theorem dX7_renumber_15 : decode cX7_renumber 15 = .ok (.putfield 72, 3) := by decide +kernel
theorem dX7_renumber_18 : decode cX7_renumber 18 = .ok (.iconst 0, 1) := by decide +kernel
theorem dX7_renumber_19 : decode cX7_renumber 19 = .ok (.istore_n 1, 1) := by decide +kernel
theorem dX7_renumber_20 : decode cX7_renumber 20 = .ok (.iload_n 1, 1) := by decide +kernel
theorem dX7_renumber_21 : decode cX7_renumber 21 = .ok (.aload_n 0, 1) := by decide +kernel
theorem dX7_renumber_22 : decode cX7_renumber 22 = .ok (.getfield 57, 3) := by decide +kernel
theorem dX7_renumber_25 : decode cX7_renumber 25 = .ok (.if_icmp .ge 113, 3) := by decide +kernel
theorem dX7_renumber_28 : decode cX7_renumber 28 = .ok (.iconst 0, 1) := by decide +kernel
theorem dX7_renumber_29 : decode cX7_renumber 29 = .ok (.istore_n 2, 1) := by decide +kernel
theorem dX7_renumber_30 : decode cX7_renumber 30 = .ok (.iload_n 2, 1) := by decide +kernel
theorem dX7_renumber_31 : decode cX7_renumber 31 = .ok (.aload_n 0, 1) := by decide +kernel
theorem dX7_renumber_32 : decode cX7_renumber 32 = .ok (.getfield 30, 3) := by decide +kernel
theorem dX7_renumber_35 : decode cX7_renumber 35 = .ok (.iload_n 1, 1) := by decide +kernel
theorem dX7_renumber_36 : decode cX7_renumber 36 = .ok (.aaload, 1) := by decide +kernel
theorem dX7_renumber_37 : decode cX7_renumber 37 = .ok (.getfield 75, 3) := by decide +kernel
theorem dX7_renumber_40 : decode cX7_renumber 40 = .ok (.if_icmp .ge 92, 3) := by decide +kernel
theorem dX7_renumber_43 : decode cX7_renumber 43 = .ok (.aload_n 0, 1) := by decide +kernel
theorem dX7_renumber_44 : decode cX7_renumber 44 = .ok (.getfield 69, 3) := by decide +kernel
theorem dX7_renumber_47 : decode cX7_renumber 47 = .ok (.bipush 12, 2) := by decide +kernel
theorem dX7_renumber_49 : decode cX7_renumber 49 = .ok (.if_icmp .ge 83, 3) := by decide +kernel
theorem dX7_renumber_52 : decode cX7_renumber 52 = .ok (.aload_n 0, 1) := by decide +kernel
theorem dX7_renumber_53 : decode cX7_renumber 53 = .ok (.getfield 34, 3) := by decide +kernel
theorem dX7_renumber_56 : decode cX7_renumber 56 = .ok (.aload_n 0, 1) := by decide +kernel
theorem dX7_renumber_57 : decode cX7_renumber 57 = .ok (.getfield 69, 3) := by decide +kernel
theorem dX7_renumber_60 : decode cX7_renumber 60 = .ok (.aload_n 0, 1) := by decide +kernel
theorem dX7_renumber_61 : decode cX7_renumber 61 = .ok (.getfield 30, 3) := by decide +kernel
theorem dX7_renumber_64 : decode cX7_renumber 64 = .ok (.iload_n 1, 1) := by decide +kernel
theorem dX7_renumber_65 : decode cX7_renumber 65 = .ok (.aaload, 1) := by decide +kernel
theorem dX7_renumber_66 : decode cX7_renumber 66 = .ok (.getfield 78, 3) := by decide +kernel
theorem dX7_renumber_69 : decode cX7_renumber 69 = .ok (.iload_n 2, 1) := by decide +kernel
theorem dX7_renumber_70 : decode cX7_renumber 70 = .ok (.iaload, 1) := by decide +kernel
theorem dX7_renumber_71 : decode cX7_renumber 71 = .ok (.iastore, 1) := by decide +kernel
theorem dX7_renumber_72 : decode cX7_renumber 72 = .ok (.aload_n 0, 1) := by decide +kernel
theorem dX7_renumber_73 : decode cX7_renumber 73 = .ok (.getfield 37, 3) := by decide +kernel
theorem dX7_renumber_76 : decode cX7_renumber 76 = .ok (.aload_n 0, 1) := by decide +kernel
theorem dX7_renumber_77 : decode cX7_renumber 77 = .ok (.getfield 69, 3) := by decide +kernel
theorem dX7_renumber_80 : decode cX7_renumber 80 = .ok (.iload_n 1, 1) := by decide +kernel
theorem dX7_renumber_81 : decode cX7_renumber 81 = .ok (.iastore, 1) := by decide +kernel
theorem dX7_renumber_82 : decode cX7_renumber 82 = .ok (.aload_n 0, 1) := by decide +kernel
theorem dX7_renumber_83 : decode cX7_renumber 83 = .ok (.getfield 19, 3) := by decide +kernel
theorem dX7_renumber_86 : decode cX7_renumber 86 = .ok (.aload_n 0, 1) := by decide +kernel
theorem dX7_renumber_87 : decode cX7_renumber 87 = .ok (.getfield 34, 3) := by decide +kernel
theorem dX7_renumber_90 : decode cX7_renumber 90 = .ok (.aload_n 0, 1) := by decide +kernel
theorem dX7_renumber_91 : decode cX7_renumber 91 = .ok (.getfield 69, 3) := by decide +kernel
theorem dX7_renumber_94 : decode cX7_renumber 94 = .ok (.iaload, 1) := by decide +kernel
theorem dX7_renumber_95 : decode cX7_renumber 95 = .ok (.iconst 2, 1) := by decide +kernel
theorem dX7_renumber_96 : decode cX7_renumber 96 = .ok (.idiv, 1) := by decide +kernel
theorem dX7_renumber_97 : decode cX7_renumber 97 = .ok (.baload, 1) := by decide +kernel
theorem dX7_renumber_98 : decode cX7_renumber 98 = .ok (.ifCond .eq 18, 3) := by decide +kernel
theorem dX7_renumber_101 : decode cX7_renumber 101 = .ok (.aload_n 0, 1) := by decide +kernel
theorem dX7_renumber_102 : decode cX7_renumber 102 = .ok (.dup, 1) := by decide +kernel
theorem dX7_renumber_103 : decode cX7_renumber 103 = .ok (.getfield 72, 3) := by decide +kernel
theorem dX7_renumber_106 : decode cX7_renumber 106 = .ok (.iconst 1, 1) := by decide +kernel
theorem dX7_renumber_107 : decode cX7_renumber 107 = .ok (.aload_n 0, 1) := by decide +kernel
theorem dX7_renumber_108 : decode cX7_renumber 108 = .ok (.getfield 69, 3) := by decide +kernel
theorem dX7_renumber_111 : decode cX7_renumber 111 = .ok (.ishl, 1) := by decide +kernel
theorem dX7_renumber_112 : decode cX7_renumber 112 = .ok (.ior, 1) := by decide +kernel
theorem dX7_renumber_113 : decode cX7_renumber 113 = .ok (.putfield 72, 3) := by decide +kernel
theorem dX7_renumber_116 : decode cX7_renumber 116 = .ok (.aload_n 0, 1) := by decide +kernel
theorem dX7_renumber_117 : decode cX7_renumber 117 = .ok (.dup, 1) := by decide +kernel
theorem dX7_renumber_118 : decode cX7_renumber 118 = .ok (.getfield 69, 3) := by decide +kernel
theorem dX7_renumber_121 : decode cX7_renumber 121 = .ok (.iconst 1, 1) := by decide +kernel
theorem dX7_renumber_122 : decode cX7_renumber 122 = .ok (.iadd, 1) := by decide +kernel
theorem dX7_renumber_123 : decode cX7_renumber 123 = .ok (.putfield 69, 3) := by decide +kernel
theorem dX7_renumber_126 : decode cX7_renumber 126 = .ok (.iinc 2 1, 3) := by decide +kernel
theorem dX7_renumber_129 : decode cX7_renumber 129 = .ok (.goto (-99), 3) := by decide +kernel
theorem dX7_renumber_132 : decode cX7_renumber 132 = .ok (.iinc 1 1, 3) := by decide +kernel
theorem dX7_renumber_135 : decode cX7_renumber 135 = .ok (.goto (-115), 3) := by decide +kernel
theorem dX7_renumber_138 : decode cX7_renumber 138 = .ok (.iconst 0, 1) := by decide +kernel
theorem dX7_renumber_139 : decode cX7_renumber 139 = .ok (.istore_n 1, 1) := by decide +kernel
theorem dX7_renumber_140 : decode cX7_renumber 140 = .ok (.iload_n 1, 1) := by decide +kernel
theorem dX7_renumber_141 : decode cX7_renumber 141 = .ok (.aload_n 0, 1) := by decide +kernel
theorem dX7_renumber_142 : decode cX7_renumber 142 = .ok (.getfield 69, 3) := by decide +kernel
theorem dX7_renumber_145 : decode cX7_renumber 145 = .ok (.if_icmp .ge 38, 3) := by decide +kernel
theorem dX7_renumber_148 : decode cX7_renumber 148 = .ok (.aload_n 0, 1) := by decide +kernel
theorem dX7_renumber_149 : decode cX7_renumber 149 = .ok (.getfield 40, 3) := by decide +kernel
theorem dX7_renumber_152 : decode cX7_renumber 152 = .ok (.iload_n 1, 1) := by decide +kernel
theorem dX7_renumber_153 : decode cX7_renumber 153 = .ok (.iconst 0, 1) := by decide +kernel
theorem dX7_renumber_154 : decode cX7_renumber 154 = .ok (.iastore, 1) := by decide +kernel
theorem dX7_renumber_155 : decode cX7_renumber 155 = .ok (.iconst 0, 1) := by decide +kernel
theorem dX7_renumber_156 : decode cX7_renumber 156 = .ok (.istore_n 2, 1) := by decide +kernel
theorem dX7_renumber_157 : decode cX7_renumber 157 = .ok (.iload_n 2, 1) := by decide +kernel
theorem dX7_renumber_158 : decode cX7_renumber 158 = .ok (.aload_n 0, 1) := by decide +kernel
theorem dX7_renumber_159 : decode cX7_renumber 159 = .ok (.getfield 69, 3) := by decide +kernel
theorem dX7_renumber_162 : decode cX7_renumber 162 = .ok (.if_icmp .ge 15, 3) := by decide +kernel
theorem dX7_renumber_165 : decode cX7_renumber 165 = .ok (.aload_n 0, 1) := by decide +kernel
theorem dX7_renumber_166 : decode cX7_renumber 166 = .ok (.iload_n 1, 1) := by decide +kernel
theorem dX7_renumber_167 : decode cX7_renumber 167 = .ok (.iload_n 2, 1) := by decide +kernel
theorem dX7_renumber_168 : decode cX7_renumber 168 = .ok (.invokevirtual 81, 3) := by decide +kernel
theorem dX7_renumber_171 : decode cX7_renumber 171 = .ok (.iinc 2 1, 3) := by decide +kernel
theorem dX7_renumber_174 : decode cX7_renumber 174 = .ok (.goto (-17), 3) := by decide +kernel
theorem dX7_renumber_177 : decode cX7_renumber 177 = .ok (.iinc 1 1, 3) := by decide +kernel
theorem dX7_renumber_180 : decode cX7_renumber 180 = .ok (.goto (-40), 3) := by decide +kernel
theorem dX7_renumber_183 : decode cX7_renumber 183 = .ok (.return_, 1) := by decide +kernel
theorem dX7_linkLetters_0 : decode cX7_linkLetters 0 = .ok (.iload_n 1, 1) := by decide +kernel
theorem dX7_linkLetters_1 : decode cX7_linkLetters 1 = .ok (.iload_n 2, 1) := by decide +kernel
theorem dX7_linkLetters_2 : decode cX7_linkLetters 2 = .ok (.if_icmp .eq 35, 3) := by decide +kernel
theorem dX7_linkLetters_5 : decode cX7_linkLetters 5 = .ok (.aload_n 0, 1) := by decide +kernel
theorem dX7_linkLetters_6 : decode cX7_linkLetters 6 = .ok (.getfield 37, 3) := by decide +kernel
theorem dX7_linkLetters_9 : decode cX7_linkLetters 9 = .ok (.iload_n 1, 1) := by decide +kernel
theorem dX7_linkLetters_10 : decode cX7_linkLetters 10 = .ok (.iaload, 1) := by decide +kernel
theorem dX7_linkLetters_11 : decode cX7_linkLetters 11 = .ok (.aload_n 0, 1) := by decide +kernel
theorem dX7_linkLetters_12 : decode cX7_linkLetters 12 = .ok (.getfield 37, 3) := by decide +kernel
theorem dX7_linkLetters_15 : decode cX7_linkLetters 15 = .ok (.iload_n 2, 1) := by decide +kernel
theorem dX7_linkLetters_16 : decode cX7_linkLetters 16 = .ok (.iaload, 1) := by decide +kernel
theorem dX7_linkLetters_17 : decode cX7_linkLetters 17 = .ok (.if_icmp .ne 21, 3) := by decide +kernel
theorem dX7_linkLetters_20 : decode cX7_linkLetters 20 = .ok (.aload_n 0, 1) := by decide +kernel
theorem dX7_linkLetters_21 : decode cX7_linkLetters 21 = .ok (.getfield 30, 3) := by decide +kernel
theorem dX7_linkLetters_24 : decode cX7_linkLetters 24 = .ok (.aload_n 0, 1) := by decide +kernel
theorem dX7_linkLetters_25 : decode cX7_linkLetters 25 = .ok (.getfield 37, 3) := by decide +kernel
theorem dX7_linkLetters_28 : decode cX7_linkLetters 28 = .ok (.iload_n 1, 1) := by decide +kernel
theorem dX7_linkLetters_29 : decode cX7_linkLetters 29 = .ok (.iaload, 1) := by decide +kernel
theorem dX7_linkLetters_30 : decode cX7_linkLetters 30 = .ok (.aaload, 1) := by decide +kernel
theorem dX7_linkLetters_31 : decode cX7_linkLetters 31 = .ok (.getfield 85, 3) := by decide +kernel
theorem dX7_linkLetters_34 : decode cX7_linkLetters 34 = .ok (.ifCond .eq 4, 3) := by decide +kernel
theorem dX7_linkLetters_37 : decode cX7_linkLetters 37 = .ok (.return_, 1) := by decide +kernel
theorem dX7_linkLetters_38 : decode cX7_linkLetters 38 = .ok (.aload_n 0, 1) := by decide +kernel
theorem dX7_linkLetters_39 : decode cX7_linkLetters 39 = .ok (.getfield 34, 3) := by decide +kernel
theorem dX7_linkLetters_42 : decode cX7_linkLetters 42 = .ok (.iload_n 1, 1) := by decide +kernel
theorem dX7_linkLetters_43 : decode cX7_linkLetters 43 = .ok (.iaload, 1) := by decide +kernel
theorem dX7_linkLetters_44 : decode cX7_linkLetters 44 = .ok (.iconst 2, 1) := by decide +kernel
theorem dX7_linkLetters_45 : decode cX7_linkLetters 45 = .ok (.idiv, 1) := by decide +kernel
theorem dX7_linkLetters_46 : decode cX7_linkLetters 46 = .ok (.istore_n 3, 1) := by decide +kernel
theorem dX7_linkLetters_47 : decode cX7_linkLetters 47 = .ok (.aload_n 0, 1) := by decide +kernel
theorem dX7_linkLetters_48 : decode cX7_linkLetters 48 = .ok (.getfield 34, 3) := by decide +kernel
theorem dX7_linkLetters_51 : decode cX7_linkLetters 51 = .ok (.iload_n 2, 1) := by decide +kernel
theorem dX7_linkLetters_52 : decode cX7_linkLetters 52 = .ok (.iaload, 1) := by decide +kernel
theorem dX7_linkLetters_53 : decode cX7_linkLetters 53 = .ok (.iconst 2, 1) := by decide +kernel
theorem dX7_linkLetters_54 : decode cX7_linkLetters 54 = .ok (.idiv, 1) := by decide +kernel
theorem dX7_linkLetters_55 : decode cX7_linkLetters 55 = .ok (.istore 4, 2) := by decide +kernel
theorem dX7_linkLetters_57 : decode cX7_linkLetters 57 = .ok (.aload_n 0, 1) := by decide +kernel
theorem dX7_linkLetters_58 : decode cX7_linkLetters 58 = .ok (.iload_n 3, 1) := by decide +kernel
theorem dX7_linkLetters_59 : decode cX7_linkLetters 59 = .ok (.iload 4, 2) := by decide +kernel
theorem dX7_linkLetters_61 : decode cX7_linkLetters 61 = .ok (.invokevirtual 89, 3) := by decide +kernel
theorem dX7_linkLetters_64 : decode cX7_linkLetters 64 = .ok (.istore 5, 2) := by decide +kernel
theorem dX7_linkLetters_66 : decode cX7_linkLetters 66 = .ok (.iload 5, 2) := by decide +kernel
theorem dX7_linkLetters_68 : decode cX7_linkLetters 68 = .ok (.ifCond .lt 33, 3) := by decide +kernel
theorem dX7_linkLetters_71 : decode cX7_linkLetters 71 = .ok (.aload_n 0, 1) := by decide +kernel
theorem dX7_linkLetters_72 : decode cX7_linkLetters 72 = .ok (.iload_n 1, 1) := by decide +kernel
theorem dX7_linkLetters_73 : decode cX7_linkLetters 73 = .ok (.iload_n 2, 1) := by decide +kernel
theorem dX7_linkLetters_74 : decode cX7_linkLetters 74 = .ok (.aload_n 0, 1) := by decide +kernel
theorem dX7_linkLetters_75 : decode cX7_linkLetters 75 = .ok (.getfield 22, 3) := by decide +kernel
theorem dX7_linkLetters_78 : decode cX7_linkLetters 78 = .ok (.iload 5, 2) := by decide +kernel
theorem dX7_linkLetters_80 : decode cX7_linkLetters 80 = .ok (.iaload, 1) := by decide +kernel
theorem dX7_linkLetters_81 : decode cX7_linkLetters 81 = .ok (.iload_n 3, 1) := by decide +kernel
theorem dX7_linkLetters_82 : decode cX7_linkLetters 82 = .ok (.if_icmp .ne 7, 3) := by decide +kernel
theorem dX7_linkLetters_85 : decode cX7_linkLetters 85 = .ok (.iconst 1, 1) := by decide +kernel
theorem dX7_linkLetters_86 : decode cX7_linkLetters 86 = .ok (.goto 4, 3) := by decide +kernel
theorem dX7_linkLetters_89 : decode cX7_linkLetters 89 = .ok (.iconst 0, 1) := by decide +kernel
theorem dX7_linkLetters_90 : decode cX7_linkLetters 90 = .ok (.bipush 6, 2) := by decide +kernel
theorem dX7_linkLetters_92 : decode cX7_linkLetters 92 = .ok (.iload 5, 2) := by decide +kernel
theorem dX7_linkLetters_94 : decode cX7_linkLetters 94 = .ok (.iadd, 1) := by decide +kernel
theorem dX7_linkLetters_95 : decode cX7_linkLetters 95 = .ok (.invokevirtual 93, 3) := by decide +kernel
theorem dX7_linkLetters_98 : decode cX7_linkLetters 98 = .ok (.goto 60, 3) := by decide +kernel
theorem dX7_linkLetters_101 : decode cX7_linkLetters 101 = .ok (.iload_n 3, 1) := by decide +kernel
theorem dX7_linkLetters_102 : decode cX7_linkLetters 102 = .ok (.iload 4, 2) := by decide +kernel
theorem dX7_linkLetters_104 : decode cX7_linkLetters 104 = .ok (.if_icmp .ne 54, 3) := by decide +kernel
theorem dX7_linkLetters_107 : decode cX7_linkLetters 107 = .ok (.aload_n 0, 1) := by decide +kernel
theorem dX7_linkLetters_108 : decode cX7_linkLetters 108 = .ok (.getfield 15, 3) := by decide +kernel
theorem dX7_linkLetters_111 : decode cX7_linkLetters 111 = .ok (.iload_n 3, 1) := by decide +kernel
theorem dX7_linkLetters_112 : decode cX7_linkLetters 112 = .ok (.baload, 1) := by decide +kernel
theorem dX7_linkLetters_113 : decode cX7_linkLetters 113 = .ok (.ifCond .eq 18, 3) := by decide +kernel
theorem dX7_linkLetters_116 : decode cX7_linkLetters 116 = .ok (.aload_n 0, 1) := by decide +kernel
theorem dX7_linkLetters_117 : decode cX7_linkLetters 117 = .ok (.getfield 34, 3) := by decide +kernel
theorem dX7_linkLetters_120 : decode cX7_linkLetters 120 = .ok (.iload_n 1, 1) := by decide +kernel
theorem dX7_linkLetters_121 : decode cX7_linkLetters 121 = .ok (.iaload, 1) := by decide +kernel
theorem dX7_linkLetters_122 : decode cX7_linkLetters 122 = .ok (.aload_n 0, 1) := by decide +kernel
theorem dX7_linkLetters_123 : decode cX7_linkLetters 123 = .ok (.getfield 34, 3) := by decide +kernel
theorem dX7_linkLetters_126 : decode cX7_linkLetters 126 = .ok (.iload_n 2, 1) := by decide +kernel
theorem dX7_linkLetters_127 : decode cX7_linkLetters 127 = .ok (.iaload, 1) := by decide +kernel
theorem dX7_linkLetters_128 : decode cX7_linkLetters 128 = .ok (.if_icmp .eq 30, 3) := by decide +kernel
theorem dX7_linkLetters_131 : decode cX7_linkLetters 131 = .ok (.aload_n 0, 1) := by decide +kernel
theorem dX7_linkLetters_132 : decode cX7_linkLetters 132 = .ok (.iload_n 1, 1) := by decide +kernel
theorem dX7_linkLetters_133 : decode cX7_linkLetters 133 = .ok (.iload_n 2, 1) := by decide +kernel
theorem dX7_linkLetters_134 : decode cX7_linkLetters 134 = .ok (.aload_n 0, 1) := by decide +kernel
theorem dX7_linkLetters_135 : decode cX7_linkLetters 135 = .ok (.getfield 34, 3) := by decide +kernel
theorem dX7_linkLetters_138 : decode cX7_linkLetters 138 = .ok (.iload_n 1, 1) := by decide +kernel
theorem dX7_linkLetters_139 : decode cX7_linkLetters 139 = .ok (.iaload, 1) := by decide +kernel
theorem dX7_linkLetters_140 : decode cX7_linkLetters 140 = .ok (.aload_n 0, 1) := by decide +kernel
theorem dX7_linkLetters_141 : decode cX7_linkLetters 141 = .ok (.getfield 34, 3) := by decide +kernel
theorem dX7_linkLetters_144 : decode cX7_linkLetters 144 = .ok (.iload_n 2, 1) := by decide +kernel
theorem dX7_linkLetters_145 : decode cX7_linkLetters 145 = .ok (.iaload, 1) := by decide +kernel
theorem dX7_linkLetters_146 : decode cX7_linkLetters 146 = .ok (.if_icmp .ge 7, 3) := by decide +kernel
theorem dX7_linkLetters_149 : decode cX7_linkLetters 149 = .ok (.iconst 1, 1) := by decide +kernel
theorem dX7_linkLetters_150 : decode cX7_linkLetters 150 = .ok (.goto 4, 3) := by decide +kernel
theorem dX7_linkLetters_153 : decode cX7_linkLetters 153 = .ok (.iconst 0, 1) := by decide +kernel
theorem dX7_linkLetters_154 : decode cX7_linkLetters 154 = .ok (.iload_n 3, 1) := by decide +kernel
theorem dX7_linkLetters_155 : decode cX7_linkLetters 155 = .ok (.invokevirtual 93, 3) := by decide +kernel
theorem dX7_linkLetters_158 : decode cX7_linkLetters 158 = .ok (.return_, 1) := by decide +kernel
theorem dX7_setCode_0 : decode cX7_setCode 0 = .ok (.aload_n 0, 1) := by decide +kernel
theorem dX7_setCode_1 : decode cX7_setCode 1 = .ok (.getfield 40, 3) := by decide +kernel
theorem dX7_setCode_4 : decode cX7_setCode 4 = .ok (.iload_n 1, 1) := by decide +kernel
theorem dX7_setCode_5 : decode cX7_setCode 5 = .ok (.dup2, 1) := by decide +kernel
theorem dX7_setCode_6 : decode cX7_setCode 6 = .ok (.iaload, 1) := by decide +kernel
theorem dX7_setCode_7 : decode cX7_setCode 7 = .ok (.iconst 1, 1) := by decide +kernel
theorem dX7_setCode_8 : decode cX7_setCode 8 = .ok (.iload_n 2, 1) := by decide +kernel
theorem dX7_setCode_9 : decode cX7_setCode 9 = .ok (.ishl, 1) := by decide +kernel
theorem dX7_setCode_10 : decode cX7_setCode 10 = .ok (.ior, 1) := by decide +kernel
theorem dX7_setCode_11 : decode cX7_setCode 11 = .ok (.iastore, 1) := by decide +kernel
theorem dX7_setCode_12 : decode cX7_setCode 12 = .ok (.aload_n 0, 1) := by decide +kernel
theorem dX7_setCode_13 : decode cX7_setCode 13 = .ok (.getfield 43, 3) := by decide +kernel
theorem dX7_setCode_16 : decode cX7_setCode 16 = .ok (.iload_n 1, 1) := by decide +kernel
theorem dX7_setCode_17 : decode cX7_setCode 17 = .ok (.bipush 12, 2) := by decide +kernel
theorem dX7_setCode_19 : decode cX7_setCode 19 = .ok (.imul, 1) := by decide +kernel
theorem dX7_setCode_20 : decode cX7_setCode 20 = .ok (.iload_n 2, 1) := by decide +kernel
theorem dX7_setCode_21 : decode cX7_setCode 21 = .ok (.iadd, 1) := by decide +kernel
theorem dX7_setCode_22 : decode cX7_setCode 22 = .ok (.iload_n 3, 1) := by decide +kernel
theorem dX7_setCode_23 : decode cX7_setCode 23 = .ok (.ifCond .eq 24, 3) := by decide +kernel
theorem dX7_setCode_26 : decode cX7_setCode 26 = .ok (.aload_n 0, 1) := by decide +kernel
theorem dX7_setCode_27 : decode cX7_setCode 27 = .ok (.aload_n 0, 1) := by decide +kernel
theorem dX7_setCode_28 : decode cX7_setCode 28 = .ok (.getfield 37, 3) := by decide +kernel
theorem dX7_setCode_31 : decode cX7_setCode 31 = .ok (.iload_n 1, 1) := by decide +kernel
theorem dX7_setCode_32 : decode cX7_setCode 32 = .ok (.iaload, 1) := by decide +kernel
theorem dX7_setCode_33 : decode cX7_setCode 33 = .ok (.aload_n 0, 1) := by decide +kernel
theorem dX7_setCode_34 : decode cX7_setCode 34 = .ok (.getfield 37, 3) := by decide +kernel
theorem dX7_setCode_37 : decode cX7_setCode 37 = .ok (.iload_n 2, 1) := by decide +kernel
theorem dX7_setCode_38 : decode cX7_setCode 38 = .ok (.iaload, 1) := by decide +kernel
theorem dX7_setCode_39 : decode cX7_setCode 39 = .ok (.iload 4, 2) := by decide +kernel
theorem dX7_setCode_41 : decode cX7_setCode 41 = .ok (.invokevirtual 97, 3) := by decide +kernel
theorem dX7_setCode_44 : decode cX7_setCode 44 = .ok (.goto 21, 3) := by decide +kernel
theorem dX7_setCode_47 : decode cX7_setCode 47 = .ok (.aload_n 0, 1) := by decide +kernel
theorem dX7_setCode_48 : decode cX7_setCode 48 = .ok (.aload_n 0, 1) := by decide +kernel
theorem dX7_setCode_49 : decode cX7_setCode 49 = .ok (.getfield 37, 3) := by decide +kernel
theorem dX7_setCode_52 : decode cX7_setCode 52 = .ok (.iload_n 2, 1) := by decide +kernel
theorem dX7_setCode_53 : decode cX7_setCode 53 = .ok (.iaload, 1) := by decide +kernel
theorem dX7_setCode_54 : decode cX7_setCode 54 = .ok (.aload_n 0, 1) := by decide +kernel
theorem dX7_setCode_55 : decode cX7_setCode 55 = .ok (.getfield 37, 3) := by decide +kernel
theorem dX7_setCode_58 : decode cX7_setCode 58 = .ok (.iload_n 1, 1) := by decide +kernel
theorem dX7_setCode_59 : decode cX7_setCode 59 = .ok (.iaload, 1) := by decide +kernel
theorem dX7_setCode_60 : decode cX7_setCode 60 = .ok (.iload 4, 2) := by decide +kernel
theorem dX7_setCode_62 : decode cX7_setCode 62 = .ok (.invokevirtual 97, 3) := by decide +kernel
theorem dX7_setCode_65 : decode cX7_setCode 65 = .ok (.iastore, 1) := by decide +kernel
theorem dX7_setCode_66 : decode cX7_setCode 66 = .ok (.return_, 1) := by decide +kernel
theorem dX7_hasLetter_0 : decode cX7_hasLetter 0 = .ok (.iload_n 1, 1) := by decide +kernel
theorem dX7_hasLetter_1 : decode cX7_hasLetter 1 = .ok (.ifCond .lt 15, 3) := by decide +kernel
theorem dX7_hasLetter_4 : decode cX7_hasLetter 4 = .ok (.iload_n 1, 1) := by decide +kernel
theorem dX7_hasLetter_5 : decode cX7_hasLetter 5 = .ok (.aload_n 0, 1) := by decide +kernel
theorem dX7_hasLetter_6 : decode cX7_hasLetter 6 = .ok (.getfield 69, 3) := by decide +kernel
theorem dX7_hasLetter_9 : decode cX7_hasLetter 9 = .ok (.if_icmp .ge 7, 3) := by decide +kernel
theorem dX7_hasLetter_12 : decode cX7_hasLetter 12 = .ok (.iconst 1, 1) := by decide +kernel
theorem dX7_hasLetter_13 : decode cX7_hasLetter 13 = .ok (.goto 4, 3) := by decide +kernel
theorem dX7_hasLetter_16 : decode cX7_hasLetter 16 = .ok (.iconst 0, 1) := by decide +kernel
theorem dX7_hasLetter_17 : decode cX7_hasLetter 17 = .ok (.ireturn, 1) := by decide +kernel
theorem dX7_hasPoint_0 : decode cX7_hasPoint 0 = .ok (.iload_n 1, 1) := by decide +kernel
theorem dX7_hasPoint_1 : decode cX7_hasPoint 1 = .ok (.ifCond .lt 15, 3) := by decide +kernel
theorem dX7_hasPoint_4 : decode cX7_hasPoint 4 = .ok (.iload_n 1, 1) := by decide +kernel
theorem dX7_hasPoint_5 : decode cX7_hasPoint 5 = .ok (.aload_n 0, 1) := by decide +kernel
theorem dX7_hasPoint_6 : decode cX7_hasPoint 6 = .ok (.getfield 57, 3) := by decide +kernel
theorem dX7_hasPoint_9 : decode cX7_hasPoint 9 = .ok (.if_icmp .ge 7, 3) := by decide +kernel
theorem dX7_hasPoint_12 : decode cX7_hasPoint 12 = .ok (.iconst 1, 1) := by decide +kernel
theorem dX7_hasPoint_13 : decode cX7_hasPoint 13 = .ok (.goto 4, 3) := by decide +kernel
theorem dX7_hasPoint_16 : decode cX7_hasPoint 16 = .ok (.iconst 0, 1) := by decide +kernel
theorem dX7_hasPoint_17 : decode cX7_hasPoint 17 = .ok (.ireturn, 1) := by decide +kernel
theorem dX7_mayPair_0 : decode cX7_mayPair 0 = .ok (.aload_n 0, 1) := by decide +kernel
theorem dX7_mayPair_1 : decode cX7_mayPair 1 = .ok (.getfield 40, 3) := by decide +kernel
theorem dX7_mayPair_4 : decode cX7_mayPair 4 = .ok (.iload_n 1, 1) := by decide +kernel
theorem dX7_mayPair_5 : decode cX7_mayPair 5 = .ok (.iaload, 1) := by decide +kernel
theorem dX7_mayPair_6 : decode cX7_mayPair 6 = .ok (.iload_n 2, 1) := by decide +kernel
theorem dX7_mayPair_7 : decode cX7_mayPair 7 = .ok (.ishr, 1) := by decide +kernel
theorem dX7_mayPair_8 : decode cX7_mayPair 8 = .ok (.iconst 1, 1) := by decide +kernel
theorem dX7_mayPair_9 : decode cX7_mayPair 9 = .ok (.iand, 1) := by decide +kernel
theorem dX7_mayPair_10 : decode cX7_mayPair 10 = .ok (.ifCond .eq 7, 3) := by decide +kernel
theorem dX7_mayPair_13 : decode cX7_mayPair 13 = .ok (.iconst 1, 1) := by decide +kernel
theorem dX7_mayPair_14 : decode cX7_mayPair 14 = .ok (.goto 4, 3) := by decide +kernel
theorem dX7_mayPair_17 : decode cX7_mayPair 17 = .ok (.iconst 0, 1) := by decide +kernel
theorem dX7_mayPair_18 : decode cX7_mayPair 18 = .ok (.ireturn, 1) := by decide +kernel
theorem dX7_codeOf_0 : decode cX7_codeOf 0 = .ok (.aload_n 0, 1) := by decide +kernel
theorem dX7_codeOf_1 : decode cX7_codeOf 1 = .ok (.getfield 43, 3) := by decide +kernel
theorem dX7_codeOf_4 : decode cX7_codeOf 4 = .ok (.iload_n 1, 1) := by decide +kernel
theorem dX7_codeOf_5 : decode cX7_codeOf 5 = .ok (.bipush 12, 2) := by decide +kernel
theorem dX7_codeOf_7 : decode cX7_codeOf 7 = .ok (.imul, 1) := by decide +kernel
theorem dX7_codeOf_8 : decode cX7_codeOf 8 = .ok (.iload_n 2, 1) := by decide +kernel
theorem dX7_codeOf_9 : decode cX7_codeOf 9 = .ok (.iadd, 1) := by decide +kernel
theorem dX7_codeOf_10 : decode cX7_codeOf 10 = .ok (.iaload, 1) := by decide +kernel
theorem dX7_codeOf_11 : decode cX7_codeOf 11 = .ok (.ireturn, 1) := by decide +kernel
theorem dX7_allLetters_0 : decode cX7_allLetters 0 = .ok (.iconst 1, 1) := by decide +kernel
theorem dX7_allLetters_1 : decode cX7_allLetters 1 = .ok (.aload_n 0, 1) := by decide +kernel
theorem dX7_allLetters_2 : decode cX7_allLetters 2 = .ok (.getfield 69, 3) := by decide +kernel
theorem dX7_allLetters_5 : decode cX7_allLetters 5 = .ok (.ishl, 1) := by decide +kernel
theorem dX7_allLetters_6 : decode cX7_allLetters 6 = .ok (.iconst 1, 1) := by decide +kernel
theorem dX7_allLetters_7 : decode cX7_allLetters 7 = .ok (.isub, 1) := by decide +kernel
theorem dX7_allLetters_8 : decode cX7_allLetters 8 = .ok (.ireturn, 1) := by decide +kernel
theorem dX7_allPoints_0 : decode cX7_allPoints 0 = .ok (.iconst 1, 1) := by decide +kernel
theorem dX7_allPoints_1 : decode cX7_allPoints 1 = .ok (.aload_n 0, 1) := by decide +kernel
theorem dX7_allPoints_2 : decode cX7_allPoints 2 = .ok (.getfield 57, 3) := by decide +kernel
theorem dX7_allPoints_5 : decode cX7_allPoints 5 = .ok (.ishl, 1) := by decide +kernel
theorem dX7_allPoints_6 : decode cX7_allPoints 6 = .ok (.iconst 1, 1) := by decide +kernel
theorem dX7_allPoints_7 : decode cX7_allPoints 7 = .ok (.isub, 1) := by decide +kernel
theorem dX7_allPoints_8 : decode cX7_allPoints 8 = .ok (.ireturn, 1) := by decide +kernel
theorem dX7_outerPoints_0 : decode cX7_outerPoints 0 = .ok (.iconst 0, 1) := by decide +kernel
theorem dX7_outerPoints_1 : decode cX7_outerPoints 1 = .ok (.istore_n 1, 1) := by decide +kernel
theorem dX7_outerPoints_2 : decode cX7_outerPoints 2 = .ok (.iconst 0, 1) := by decide +kernel
theorem dX7_outerPoints_3 : decode cX7_outerPoints 3 = .ok (.istore_n 2, 1) := by decide +kernel
theorem dX7_outerPoints_4 : decode cX7_outerPoints 4 = .ok (.iload_n 2, 1) := by decide +kernel
theorem dX7_outerPoints_5 : decode cX7_outerPoints 5 = .ok (.aload_n 0, 1) := by decide +kernel
theorem dX7_outerPoints_6 : decode cX7_outerPoints 6 = .ok (.getfield 57, 3) := by decide +kernel
theorem dX7_outerPoints_9 : decode cX7_outerPoints 9 = .ok (.if_icmp .ge 27, 3) := by decide +kernel
theorem dX7_outerPoints_12 : decode cX7_outerPoints 12 = .ok (.aload_n 0, 1) := by decide +kernel
theorem dX7_outerPoints_13 : decode cX7_outerPoints 13 = .ok (.getfield 30, 3) := by decide +kernel
theorem dX7_outerPoints_16 : decode cX7_outerPoints 16 = .ok (.iload_n 2, 1) := by decide +kernel
theorem dX7_outerPoints_17 : decode cX7_outerPoints 17 = .ok (.aaload, 1) := by decide +kernel
theorem dX7_outerPoints_18 : decode cX7_outerPoints 18 = .ok (.getfield 101, 3) := by decide +kernel
theorem dX7_outerPoints_21 : decode cX7_outerPoints 21 = .ok (.ifCond .ne 9, 3) := by decide +kernel
theorem dX7_outerPoints_24 : decode cX7_outerPoints 24 = .ok (.iload_n 1, 1) := by decide +kernel
theorem dX7_outerPoints_25 : decode cX7_outerPoints 25 = .ok (.iconst 1, 1) := by decide +kernel
theorem dX7_outerPoints_26 : decode cX7_outerPoints 26 = .ok (.iload_n 2, 1) := by decide +kernel
theorem dX7_outerPoints_27 : decode cX7_outerPoints 27 = .ok (.ishl, 1) := by decide +kernel
theorem dX7_outerPoints_28 : decode cX7_outerPoints 28 = .ok (.ior, 1) := by decide +kernel
theorem dX7_outerPoints_29 : decode cX7_outerPoints 29 = .ok (.istore_n 1, 1) := by decide +kernel
theorem dX7_outerPoints_30 : decode cX7_outerPoints 30 = .ok (.iinc 2 1, 3) := by decide +kernel
theorem dX7_outerPoints_33 : decode cX7_outerPoints 33 = .ok (.goto (-29), 3) := by decide +kernel
theorem dX7_outerPoints_36 : decode cX7_outerPoints 36 = .ok (.iload_n 1, 1) := by decide +kernel
theorem dX7_outerPoints_37 : decode cX7_outerPoints 37 = .ok (.ireturn, 1) := by decide +kernel
theorem dX7_vertexCount_0 : decode cX7_vertexCount 0 = .ok (.aload_n 0, 1) := by decide +kernel
theorem dX7_vertexCount_1 : decode cX7_vertexCount 1 = .ok (.getfield 57, 3) := by decide +kernel
theorem dX7_vertexCount_4 : decode cX7_vertexCount 4 = .ok (.aload_n 0, 1) := by decide +kernel
theorem dX7_vertexCount_5 : decode cX7_vertexCount 5 = .ok (.invokevirtual 104, 3) := by decide +kernel
theorem dX7_vertexCount_8 : decode cX7_vertexCount 8 = .ok (.invokestatic 108, 3) := by decide +kernel
theorem dX7_vertexCount_11 : decode cX7_vertexCount 11 = .ok (.isub, 1) := by decide +kernel
theorem dX7_vertexCount_12 : decode cX7_vertexCount 12 = .ok (.ireturn, 1) := by decide +kernel
theorem dX7_lettersOf_0 : decode cX7_lettersOf 0 = .ok (.iconst 0, 1) := by decide +kernel
theorem dX7_lettersOf_1 : decode cX7_lettersOf 1 = .ok (.istore_n 2, 1) := by decide +kernel
theorem dX7_lettersOf_2 : decode cX7_lettersOf 2 = .ok (.iconst 0, 1) := by decide +kernel
theorem dX7_lettersOf_3 : decode cX7_lettersOf 3 = .ok (.istore_n 3, 1) := by decide +kernel
theorem dX7_lettersOf_4 : decode cX7_lettersOf 4 = .ok (.iload_n 3, 1) := by decide +kernel
theorem dX7_lettersOf_5 : decode cX7_lettersOf 5 = .ok (.aload_n 0, 1) := by decide +kernel
theorem dX7_lettersOf_6 : decode cX7_lettersOf 6 = .ok (.getfield 69, 3) := by decide +kernel
theorem dX7_lettersOf_9 : decode cX7_lettersOf 9 = .ok (.if_icmp .ge 28, 3) := by decide +kernel
theorem dX7_lettersOf_12 : decode cX7_lettersOf 12 = .ok (.iload_n 1, 1) := by decide +kernel
theorem dX7_lettersOf_13 : decode cX7_lettersOf 13 = .ok (.aload_n 0, 1) := by decide +kernel
theorem dX7_lettersOf_14 : decode cX7_lettersOf 14 = .ok (.getfield 37, 3) := by decide +kernel
theorem dX7_lettersOf_17 : decode cX7_lettersOf 17 = .ok (.iload_n 3, 1) := by decide +kernel
theorem dX7_lettersOf_18 : decode cX7_lettersOf 18 = .ok (.iaload, 1) := by decide +kernel
theorem dX7_lettersOf_19 : decode cX7_lettersOf 19 = .ok (.ishr, 1) := by decide +kernel
theorem dX7_lettersOf_20 : decode cX7_lettersOf 20 = .ok (.iconst 1, 1) := by decide +kernel
theorem dX7_lettersOf_21 : decode cX7_lettersOf 21 = .ok (.iand, 1) := by decide +kernel
theorem dX7_lettersOf_22 : decode cX7_lettersOf 22 = .ok (.ifCond .eq 9, 3) := by decide +kernel
theorem dX7_lettersOf_25 : decode cX7_lettersOf 25 = .ok (.iload_n 2, 1) := by decide +kernel
theorem dX7_lettersOf_26 : decode cX7_lettersOf 26 = .ok (.iconst 1, 1) := by decide +kernel
theorem dX7_lettersOf_27 : decode cX7_lettersOf 27 = .ok (.iload_n 3, 1) := by decide +kernel
theorem dX7_lettersOf_28 : decode cX7_lettersOf 28 = .ok (.ishl, 1) := by decide +kernel
theorem dX7_lettersOf_29 : decode cX7_lettersOf 29 = .ok (.ior, 1) := by decide +kernel
theorem dX7_lettersOf_30 : decode cX7_lettersOf 30 = .ok (.istore_n 2, 1) := by decide +kernel
theorem dX7_lettersOf_31 : decode cX7_lettersOf 31 = .ok (.iinc 3 1, 3) := by decide +kernel
theorem dX7_lettersOf_34 : decode cX7_lettersOf 34 = .ok (.goto (-30), 3) := by decide +kernel
theorem dX7_lettersOf_37 : decode cX7_lettersOf 37 = .ok (.iload_n 2, 1) := by decide +kernel
theorem dX7_lettersOf_38 : decode cX7_lettersOf 38 = .ok (.ireturn, 1) := by decide +kernel
theorem dX7_letterFact_0 : decode cX7_letterFact 0 = .ok (.iload_n 2, 1) := by decide +kernel
theorem dX7_letterFact_1 : decode cX7_letterFact 1 = .ok (.tableswitch 52 0 2 #[27, 36, 45], 27) := by decide +kernel
theorem dX7_letterFact_28 : decode cX7_letterFact 28 = .ok (.aload_n 0, 1) := by decide +kernel
theorem dX7_letterFact_29 : decode cX7_letterFact 29 = .ok (.getfield 34, 3) := by decide +kernel
theorem dX7_letterFact_32 : decode cX7_letterFact 32 = .ok (.iload_n 1, 1) := by decide +kernel
theorem dX7_letterFact_33 : decode cX7_letterFact 33 = .ok (.iaload, 1) := by decide +kernel
theorem dX7_letterFact_34 : decode cX7_letterFact 34 = .ok (.iconst 2, 1) := by decide +kernel
theorem dX7_letterFact_35 : decode cX7_letterFact 35 = .ok (.idiv, 1) := by decide +kernel
theorem dX7_letterFact_36 : decode cX7_letterFact 36 = .ok (.ireturn, 1) := by decide +kernel
theorem dX7_letterFact_37 : decode cX7_letterFact 37 = .ok (.aload_n 0, 1) := by decide +kernel
theorem dX7_letterFact_38 : decode cX7_letterFact 38 = .ok (.getfield 34, 3) := by decide +kernel
theorem dX7_letterFact_41 : decode cX7_letterFact 41 = .ok (.iload_n 1, 1) := by decide +kernel
theorem dX7_letterFact_42 : decode cX7_letterFact 42 = .ok (.iaload, 1) := by decide +kernel
theorem dX7_letterFact_43 : decode cX7_letterFact 43 = .ok (.iconst 2, 1) := by decide +kernel
theorem dX7_letterFact_44 : decode cX7_letterFact 44 = .ok (.irem, 1) := by decide +kernel
theorem dX7_letterFact_45 : decode cX7_letterFact 45 = .ok (.ireturn, 1) := by decide +kernel
theorem dX7_letterFact_46 : decode cX7_letterFact 46 = .ok (.aload_n 0, 1) := by decide +kernel
theorem dX7_letterFact_47 : decode cX7_letterFact 47 = .ok (.getfield 37, 3) := by decide +kernel
theorem dX7_letterFact_50 : decode cX7_letterFact 50 = .ok (.iload_n 1, 1) := by decide +kernel
theorem dX7_letterFact_51 : decode cX7_letterFact 51 = .ok (.iaload, 1) := by decide +kernel
theorem dX7_letterFact_52 : decode cX7_letterFact 52 = .ok (.ireturn, 1) := by decide +kernel
theorem dX7_letterFact_53 : decode cX7_letterFact 53 = .ok (.aload_n 0, 1) := by decide +kernel
theorem dX7_letterFact_54 : decode cX7_letterFact 54 = .ok (.getfield 40, 3) := by decide +kernel
theorem dX7_letterFact_57 : decode cX7_letterFact 57 = .ok (.iload_n 1, 1) := by decide +kernel
theorem dX7_letterFact_58 : decode cX7_letterFact 58 = .ok (.iaload, 1) := by decide +kernel
theorem dX7_letterFact_59 : decode cX7_letterFact 59 = .ok (.invokestatic 108, 3) := by decide +kernel
theorem dX7_letterFact_62 : decode cX7_letterFact 62 = .ok (.ireturn, 1) := by decide +kernel
theorem dX7_fieldFact_0 : decode cX7_fieldFact 0 = .ok (.iload_n 2, 1) := by decide +kernel
theorem dX7_fieldFact_1 : decode cX7_fieldFact 1 = .ok (.ifCond .ne 10, 3) := by decide +kernel
theorem dX7_fieldFact_4 : decode cX7_fieldFact 4 = .ok (.aload_n 0, 1) := by decide +kernel
theorem dX7_fieldFact_5 : decode cX7_fieldFact 5 = .ok (.getfield 9, 3) := by decide +kernel
theorem dX7_fieldFact_8 : decode cX7_fieldFact 8 = .ok (.iload_n 1, 1) := by decide +kernel
theorem dX7_fieldFact_9 : decode cX7_fieldFact 9 = .ok (.iaload, 1) := by decide +kernel
theorem dX7_fieldFact_10 : decode cX7_fieldFact 10 = .ok (.ireturn, 1) := by decide +kernel
theorem dX7_fieldFact_11 : decode cX7_fieldFact 11 = .ok (.iload_n 2, 1) := by decide +kernel
theorem dX7_fieldFact_12 : decode cX7_fieldFact 12 = .ok (.iconst 1, 1) := by decide +kernel
theorem dX7_fieldFact_13 : decode cX7_fieldFact 13 = .ok (.if_icmp .ne 12, 3) := by decide +kernel
theorem dX7_fieldFact_16 : decode cX7_fieldFact 16 = .ok (.aload_n 0, 1) := by decide +kernel
theorem dX7_fieldFact_17 : decode cX7_fieldFact 17 = .ok (.getfield 15, 3) := by decide +kernel
theorem dX7_fieldFact_20 : decode cX7_fieldFact 20 = .ok (.iload_n 1, 1) := by decide +kernel
theorem dX7_fieldFact_21 : decode cX7_fieldFact 21 = .ok (.baload, 1) := by decide +kernel
theorem dX7_fieldFact_22 : decode cX7_fieldFact 22 = .ok (.goto 9, 3) := by decide +kernel
theorem dX7_fieldFact_25 : decode cX7_fieldFact 25 = .ok (.aload_n 0, 1) := by decide +kernel
theorem dX7_fieldFact_26 : decode cX7_fieldFact 26 = .ok (.getfield 19, 3) := by decide +kernel
theorem dX7_fieldFact_29 : decode cX7_fieldFact 29 = .ok (.iload_n 1, 1) := by decide +kernel
theorem dX7_fieldFact_30 : decode cX7_fieldFact 30 = .ok (.baload, 1) := by decide +kernel
theorem dX7_fieldFact_31 : decode cX7_fieldFact 31 = .ok (.istore_n 3, 1) := by decide +kernel
theorem dX7_fieldFact_32 : decode cX7_fieldFact 32 = .ok (.iload_n 3, 1) := by decide +kernel
theorem dX7_fieldFact_33 : decode cX7_fieldFact 33 = .ok (.ifCond .eq 7, 3) := by decide +kernel
theorem dX7_fieldFact_36 : decode cX7_fieldFact 36 = .ok (.iconst 1, 1) := by decide +kernel
theorem dX7_fieldFact_37 : decode cX7_fieldFact 37 = .ok (.goto 4, 3) := by decide +kernel
theorem dX7_fieldFact_40 : decode cX7_fieldFact 40 = .ok (.iconst 0, 1) := by decide +kernel
theorem dX7_fieldFact_41 : decode cX7_fieldFact 41 = .ok (.ireturn, 1) := by decide +kernel
theorem dX7_pointFact_0 : decode cX7_pointFact 0 = .ok (.iload_n 2, 1) := by decide +kernel
theorem dX7_pointFact_1 : decode cX7_pointFact 1 = .ok (.tableswitch 83 0 3 #[31, 41, 59, 77], 31) := by decide +kernel
theorem dX7_pointFact_32 : decode cX7_pointFact 32 = .ok (.aload_n 0, 1) := by decide +kernel
theorem dX7_pointFact_33 : decode cX7_pointFact 33 = .ok (.getfield 30, 3) := by decide +kernel
theorem dX7_pointFact_36 : decode cX7_pointFact 36 = .ok (.iload_n 1, 1) := by decide +kernel
theorem dX7_pointFact_37 : decode cX7_pointFact 37 = .ok (.aaload, 1) := by decide +kernel
theorem dX7_pointFact_38 : decode cX7_pointFact 38 = .ok (.getfield 75, 3) := by decide +kernel
theorem dX7_pointFact_41 : decode cX7_pointFact 41 = .ok (.ireturn, 1) := by decide +kernel
theorem dX7_pointFact_42 : decode cX7_pointFact 42 = .ok (.aload_n 0, 1) := by decide +kernel
theorem dX7_pointFact_43 : decode cX7_pointFact 43 = .ok (.getfield 30, 3) := by decide +kernel
theorem dX7_pointFact_46 : decode cX7_pointFact 46 = .ok (.iload_n 1, 1) := by decide +kernel
theorem dX7_pointFact_47 : decode cX7_pointFact 47 = .ok (.aaload, 1) := by decide +kernel
theorem dX7_pointFact_48 : decode cX7_pointFact 48 = .ok (.getfield 101, 3) := by decide +kernel
theorem dX7_pointFact_51 : decode cX7_pointFact 51 = .ok (.ifCond .eq 7, 3) := by decide +kernel
theorem dX7_pointFact_54 : decode cX7_pointFact 54 = .ok (.iconst 1, 1) := by decide +kernel
theorem dX7_pointFact_55 : decode cX7_pointFact 55 = .ok (.goto 4, 3) := by decide +kernel
theorem dX7_pointFact_58 : decode cX7_pointFact 58 = .ok (.iconst 0, 1) := by decide +kernel
theorem dX7_pointFact_59 : decode cX7_pointFact 59 = .ok (.ireturn, 1) := by decide +kernel
theorem dX7_pointFact_60 : decode cX7_pointFact 60 = .ok (.aload_n 0, 1) := by decide +kernel
theorem dX7_pointFact_61 : decode cX7_pointFact 61 = .ok (.getfield 30, 3) := by decide +kernel
theorem dX7_pointFact_64 : decode cX7_pointFact 64 = .ok (.iload_n 1, 1) := by decide +kernel
theorem dX7_pointFact_65 : decode cX7_pointFact 65 = .ok (.aaload, 1) := by decide +kernel
theorem dX7_pointFact_66 : decode cX7_pointFact 66 = .ok (.getfield 85, 3) := by decide +kernel
theorem dX7_pointFact_69 : decode cX7_pointFact 69 = .ok (.ifCond .eq 7, 3) := by decide +kernel
theorem dX7_pointFact_72 : decode cX7_pointFact 72 = .ok (.iconst 1, 1) := by decide +kernel
theorem dX7_pointFact_73 : decode cX7_pointFact 73 = .ok (.goto 4, 3) := by decide +kernel
theorem dX7_pointFact_76 : decode cX7_pointFact 76 = .ok (.iconst 0, 1) := by decide +kernel
theorem dX7_pointFact_77 : decode cX7_pointFact 77 = .ok (.ireturn, 1) := by decide +kernel
theorem dX7_pointFact_78 : decode cX7_pointFact 78 = .ok (.aload_n 0, 1) := by decide +kernel
theorem dX7_pointFact_79 : decode cX7_pointFact 79 = .ok (.iload_n 1, 1) := by decide +kernel
theorem dX7_pointFact_80 : decode cX7_pointFact 80 = .ok (.invokevirtual 114, 3) := by decide +kernel
theorem dX7_pointFact_83 : decode cX7_pointFact 83 = .ok (.ireturn, 1) := by decide +kernel
theorem dX7_pointFact_84 : decode cX7_pointFact 84 = .ok (.aload_n 0, 1) := by decide +kernel
theorem dX7_pointFact_85 : decode cX7_pointFact 85 = .ok (.iload_n 1, 1) := by decide +kernel
theorem dX7_pointFact_86 : decode cX7_pointFact 86 = .ok (.aload_n 0, 1) := by decide +kernel
theorem dX7_pointFact_87 : decode cX7_pointFact 87 = .ok (.getfield 57, 3) := by decide +kernel
theorem dX7_pointFact_90 : decode cX7_pointFact 90 = .ok (.invokevirtual 117, 3) := by decide +kernel
theorem dX7_pointFact_93 : decode cX7_pointFact 93 = .ok (.ireturn, 1) := by decide +kernel
theorem dX7_firstLetter_0 : decode cX7_firstLetter 0 = .ok (.iconst 0, 1) := by decide +kernel
theorem dX7_firstLetter_1 : decode cX7_firstLetter 1 = .ok (.istore_n 2, 1) := by decide +kernel
theorem dX7_firstLetter_2 : decode cX7_firstLetter 2 = .ok (.iconst 0, 1) := by decide +kernel
theorem dX7_firstLetter_3 : decode cX7_firstLetter 3 = .ok (.istore_n 3, 1) := by decide +kernel
theorem dX7_firstLetter_4 : decode cX7_firstLetter 4 = .ok (.iload_n 3, 1) := by decide +kernel
theorem dX7_firstLetter_5 : decode cX7_firstLetter 5 = .ok (.iload_n 1, 1) := by decide +kernel
theorem dX7_firstLetter_6 : decode cX7_firstLetter 6 = .ok (.if_icmp .ge 21, 3) := by decide +kernel
theorem dX7_firstLetter_9 : decode cX7_firstLetter 9 = .ok (.iload_n 2, 1) := by decide +kernel
theorem dX7_firstLetter_10 : decode cX7_firstLetter 10 = .ok (.aload_n 0, 1) := by decide +kernel
theorem dX7_firstLetter_11 : decode cX7_firstLetter 11 = .ok (.getfield 30, 3) := by decide +kernel
theorem dX7_firstLetter_14 : decode cX7_firstLetter 14 = .ok (.iload_n 3, 1) := by decide +kernel
theorem dX7_firstLetter_15 : decode cX7_firstLetter 15 = .ok (.aaload, 1) := by decide +kernel
theorem dX7_firstLetter_16 : decode cX7_firstLetter 16 = .ok (.getfield 75, 3) := by decide +kernel
theorem dX7_firstLetter_19 : decode cX7_firstLetter 19 = .ok (.iadd, 1) := by decide +kernel
theorem dX7_firstLetter_20 : decode cX7_firstLetter 20 = .ok (.istore_n 2, 1) := by decide +kernel
theorem dX7_firstLetter_21 : decode cX7_firstLetter 21 = .ok (.iinc 3 1, 3) := by decide +kernel
theorem dX7_firstLetter_24 : decode cX7_firstLetter 24 = .ok (.goto (-20), 3) := by decide +kernel
theorem dX7_firstLetter_27 : decode cX7_firstLetter 27 = .ok (.iload_n 2, 1) := by decide +kernel
theorem dX7_firstLetter_28 : decode cX7_firstLetter 28 = .ok (.ireturn, 1) := by decide +kernel
theorem dX7_alikeUpTo_0 : decode cX7_alikeUpTo 0 = .ok (.iconst 0, 1) := by decide +kernel
theorem dX7_alikeUpTo_1 : decode cX7_alikeUpTo 1 = .ok (.istore_n 3, 1) := by decide +kernel
theorem dX7_alikeUpTo_2 : decode cX7_alikeUpTo 2 = .ok (.iconst 0, 1) := by decide +kernel
theorem dX7_alikeUpTo_3 : decode cX7_alikeUpTo 3 = .ok (.istore 4, 2) := by decide +kernel
theorem dX7_alikeUpTo_5 : decode cX7_alikeUpTo 5 = .ok (.iload 4, 2) := by decide +kernel
theorem dX7_alikeUpTo_7 : decode cX7_alikeUpTo 7 = .ok (.iload_n 2, 1) := by decide +kernel
theorem dX7_alikeUpTo_8 : decode cX7_alikeUpTo 8 = .ok (.if_icmp .ge 31, 3) := by decide +kernel
theorem dX7_alikeUpTo_11 : decode cX7_alikeUpTo 11 = .ok (.aload_n 0, 1) := by decide +kernel
theorem dX7_alikeUpTo_12 : decode cX7_alikeUpTo 12 = .ok (.getfield 30, 3) := by decide +kernel
theorem dX7_alikeUpTo_15 : decode cX7_alikeUpTo 15 = .ok (.iload_n 1, 1) := by decide +kernel
theorem dX7_alikeUpTo_16 : decode cX7_alikeUpTo 16 = .ok (.aaload, 1) := by decide +kernel
theorem dX7_alikeUpTo_17 : decode cX7_alikeUpTo 17 = .ok (.aload_n 0, 1) := by decide +kernel
theorem dX7_alikeUpTo_18 : decode cX7_alikeUpTo 18 = .ok (.getfield 30, 3) := by decide +kernel
theorem dX7_alikeUpTo_21 : decode cX7_alikeUpTo 21 = .ok (.iload 4, 2) := by decide +kernel
theorem dX7_alikeUpTo_23 : decode cX7_alikeUpTo 23 = .ok (.aaload, 1) := by decide +kernel
theorem dX7_alikeUpTo_24 : decode cX7_alikeUpTo 24 = .ok (.invokevirtual 120, 3) := by decide +kernel
theorem dX7_alikeUpTo_27 : decode cX7_alikeUpTo 27 = .ok (.ifCond .eq 6, 3) := by decide +kernel
theorem dX7_alikeUpTo_30 : decode cX7_alikeUpTo 30 = .ok (.iinc 3 1, 3) := by decide +kernel
theorem dX7_alikeUpTo_33 : decode cX7_alikeUpTo 33 = .ok (.iinc 4 1, 3) := by decide +kernel
theorem dX7_alikeUpTo_36 : decode cX7_alikeUpTo 36 = .ok (.goto (-31), 3) := by decide +kernel
theorem dX7_alikeUpTo_39 : decode cX7_alikeUpTo 39 = .ok (.iload_n 3, 1) := by decide +kernel
theorem dX7_alikeUpTo_40 : decode cX7_alikeUpTo 40 = .ok (.ireturn, 1) := by decide +kernel
theorem dX7_orders_0 : decode cX7_orders 0 = .ok (.iconst 1, 1) := by decide +kernel
theorem dX7_orders_1 : decode cX7_orders 1 = .ok (.istore_n 1, 1) := by decide +kernel
theorem dX7_orders_2 : decode cX7_orders 2 = .ok (.iconst 0, 1) := by decide +kernel
theorem dX7_orders_3 : decode cX7_orders 3 = .ok (.istore_n 2, 1) := by decide +kernel
theorem dX7_orders_4 : decode cX7_orders 4 = .ok (.iload_n 2, 1) := by decide +kernel
theorem dX7_orders_5 : decode cX7_orders 5 = .ok (.aload_n 0, 1) := by decide +kernel
theorem dX7_orders_6 : decode cX7_orders 6 = .ok (.getfield 57, 3) := by decide +kernel
theorem dX7_orders_9 : decode cX7_orders 9 = .ok (.if_icmp .ge 44, 3) := by decide +kernel
theorem dX7_orders_12 : decode cX7_orders 12 = .ok (.iload_n 1, 1) := by decide +kernel
theorem dX7_orders_13 : decode cX7_orders 13 = .ok (.aload_n 0, 1) := by decide +kernel
theorem dX7_orders_14 : decode cX7_orders 14 = .ok (.getfield 30, 3) := by decide +kernel
theorem dX7_orders_17 : decode cX7_orders 17 = .ok (.iload_n 2, 1) := by decide +kernel
theorem dX7_orders_18 : decode cX7_orders 18 = .ok (.aaload, 1) := by decide +kernel
theorem dX7_orders_19 : decode cX7_orders 19 = .ok (.invokevirtual 124, 3) := by decide +kernel
theorem dX7_orders_22 : decode cX7_orders 22 = .ok (.imul, 1) := by decide +kernel
theorem dX7_orders_23 : decode cX7_orders 23 = .ok (.istore_n 1, 1) := by decide +kernel
theorem dX7_orders_24 : decode cX7_orders 24 = .ok (.aload_n 0, 1) := by decide +kernel
theorem dX7_orders_25 : decode cX7_orders 25 = .ok (.getfield 30, 3) := by decide +kernel
theorem dX7_orders_28 : decode cX7_orders 28 = .ok (.iload_n 2, 1) := by decide +kernel
theorem dX7_orders_29 : decode cX7_orders 29 = .ok (.aaload, 1) := by decide +kernel
theorem dX7_orders_30 : decode cX7_orders 30 = .ok (.getfield 101, 3) := by decide +kernel
theorem dX7_orders_33 : decode cX7_orders 33 = .ok (.ifCond .eq 14, 3) := by decide +kernel
theorem dX7_orders_36 : decode cX7_orders 36 = .ok (.iload_n 1, 1) := by decide +kernel
theorem dX7_orders_37 : decode cX7_orders 37 = .ok (.aload_n 0, 1) := by decide +kernel
theorem dX7_orders_38 : decode cX7_orders 38 = .ok (.iload_n 2, 1) := by decide +kernel
theorem dX7_orders_39 : decode cX7_orders 39 = .ok (.iload_n 2, 1) := by decide +kernel
theorem dX7_orders_40 : decode cX7_orders 40 = .ok (.iconst 1, 1) := by decide +kernel
theorem dX7_orders_41 : decode cX7_orders 41 = .ok (.iadd, 1) := by decide +kernel
theorem dX7_orders_42 : decode cX7_orders 42 = .ok (.invokevirtual 117, 3) := by decide +kernel
theorem dX7_orders_45 : decode cX7_orders 45 = .ok (.imul, 1) := by decide +kernel
theorem dX7_orders_46 : decode cX7_orders 46 = .ok (.istore_n 1, 1) := by decide +kernel
theorem dX7_orders_47 : decode cX7_orders 47 = .ok (.iinc 2 1, 3) := by decide +kernel
theorem dX7_orders_50 : decode cX7_orders 50 = .ok (.goto (-46), 3) := by decide +kernel
theorem dX7_orders_53 : decode cX7_orders 53 = .ok (.iload_n 1, 1) := by decide +kernel
theorem dX7_orders_54 : decode cX7_orders 54 = .ok (.ireturn, 1) := by decide +kernel
theorem dX7_fieldOf_0 : decode cX7_fieldOf 0 = .ok (.iconst 0, 1) := by decide +kernel
theorem dX7_fieldOf_1 : decode cX7_fieldOf 1 = .ok (.istore_n 2, 1) := by decide +kernel
theorem dX7_fieldOf_2 : decode cX7_fieldOf 2 = .ok (.iload_n 2, 1) := by decide +kernel
theorem dX7_fieldOf_3 : decode cX7_fieldOf 3 = .ok (.aload_n 0, 1) := by decide +kernel
theorem dX7_fieldOf_4 : decode cX7_fieldOf 4 = .ok (.getfield 50, 3) := by decide +kernel
theorem dX7_fieldOf_7 : decode cX7_fieldOf 7 = .ok (.if_icmp .ge 21, 3) := by decide +kernel
theorem dX7_fieldOf_10 : decode cX7_fieldOf 10 = .ok (.aload_n 0, 1) := by decide +kernel
theorem dX7_fieldOf_11 : decode cX7_fieldOf 11 = .ok (.getfield 9, 3) := by decide +kernel
theorem dX7_fieldOf_14 : decode cX7_fieldOf 14 = .ok (.iload_n 2, 1) := by decide +kernel
theorem dX7_fieldOf_15 : decode cX7_fieldOf 15 = .ok (.iaload, 1) := by decide +kernel
theorem dX7_fieldOf_16 : decode cX7_fieldOf 16 = .ok (.iload_n 1, 1) := by decide +kernel
theorem dX7_fieldOf_17 : decode cX7_fieldOf 17 = .ok (.if_icmp .ne 5, 3) := by decide +kernel
theorem dX7_fieldOf_20 : decode cX7_fieldOf 20 = .ok (.iload_n 2, 1) := by decide +kernel
theorem dX7_fieldOf_21 : decode cX7_fieldOf 21 = .ok (.ireturn, 1) := by decide +kernel
theorem dX7_fieldOf_22 : decode cX7_fieldOf 22 = .ok (.iinc 2 1, 3) := by decide +kernel
theorem dX7_fieldOf_25 : decode cX7_fieldOf 25 = .ok (.goto (-23), 3) := by decide +kernel
theorem dX7_fieldOf_28 : decode cX7_fieldOf 28 = .ok (.iconst (-1), 1) := by decide +kernel
theorem dX7_fieldOf_29 : decode cX7_fieldOf 29 = .ok (.ireturn, 1) := by decide +kernel
theorem dX7_mixOf_0 : decode cX7_mixOf 0 = .ok (.iconst 0, 1) := by decide +kernel
theorem dX7_mixOf_1 : decode cX7_mixOf 1 = .ok (.istore_n 3, 1) := by decide +kernel
theorem dX7_mixOf_2 : decode cX7_mixOf 2 = .ok (.iload_n 3, 1) := by decide +kernel
theorem dX7_mixOf_3 : decode cX7_mixOf 3 = .ok (.aload_n 0, 1) := by decide +kernel
theorem dX7_mixOf_4 : decode cX7_mixOf 4 = .ok (.getfield 54, 3) := by decide +kernel
theorem dX7_mixOf_7 : decode cX7_mixOf 7 = .ok (.if_icmp .ge 63, 3) := by decide +kernel
theorem dX7_mixOf_10 : decode cX7_mixOf 10 = .ok (.aload_n 0, 1) := by decide +kernel
theorem dX7_mixOf_11 : decode cX7_mixOf 11 = .ok (.getfield 22, 3) := by decide +kernel
theorem dX7_mixOf_14 : decode cX7_mixOf 14 = .ok (.iload_n 3, 1) := by decide +kernel
theorem dX7_mixOf_15 : decode cX7_mixOf 15 = .ok (.iaload, 1) := by decide +kernel
theorem dX7_mixOf_16 : decode cX7_mixOf 16 = .ok (.iload_n 1, 1) := by decide +kernel
theorem dX7_mixOf_17 : decode cX7_mixOf 17 = .ok (.if_icmp .ne 17, 3) := by decide +kernel
theorem dX7_mixOf_20 : decode cX7_mixOf 20 = .ok (.aload_n 0, 1) := by decide +kernel
theorem dX7_mixOf_21 : decode cX7_mixOf 21 = .ok (.getfield 25, 3) := by decide +kernel
theorem dX7_mixOf_24 : decode cX7_mixOf 24 = .ok (.iload_n 3, 1) := by decide +kernel
theorem dX7_mixOf_25 : decode cX7_mixOf 25 = .ok (.iaload, 1) := by decide +kernel
theorem dX7_mixOf_26 : decode cX7_mixOf 26 = .ok (.iload_n 2, 1) := by decide +kernel
theorem dX7_mixOf_27 : decode cX7_mixOf 27 = .ok (.if_icmp .ne 7, 3) := by decide +kernel
theorem dX7_mixOf_30 : decode cX7_mixOf 30 = .ok (.iconst 1, 1) := by decide +kernel
theorem dX7_mixOf_31 : decode cX7_mixOf 31 = .ok (.goto 4, 3) := by decide +kernel
theorem dX7_mixOf_34 : decode cX7_mixOf 34 = .ok (.iconst 0, 1) := by decide +kernel
theorem dX7_mixOf_35 : decode cX7_mixOf 35 = .ok (.istore 4, 2) := by decide +kernel
theorem dX7_mixOf_37 : decode cX7_mixOf 37 = .ok (.iload 4, 2) := by decide +kernel
theorem dX7_mixOf_39 : decode cX7_mixOf 39 = .ok (.ifCond .ne 23, 3) := by decide +kernel
theorem dX7_mixOf_42 : decode cX7_mixOf 42 = .ok (.aload_n 0, 1) := by decide +kernel
theorem dX7_mixOf_43 : decode cX7_mixOf 43 = .ok (.getfield 22, 3) := by decide +kernel
theorem dX7_mixOf_46 : decode cX7_mixOf 46 = .ok (.iload_n 3, 1) := by decide +kernel
theorem dX7_mixOf_47 : decode cX7_mixOf 47 = .ok (.iaload, 1) := by decide +kernel
theorem dX7_mixOf_48 : decode cX7_mixOf 48 = .ok (.iload_n 2, 1) := by decide +kernel
theorem dX7_mixOf_49 : decode cX7_mixOf 49 = .ok (.if_icmp .ne 15, 3) := by decide +kernel
theorem dX7_mixOf_52 : decode cX7_mixOf 52 = .ok (.aload_n 0, 1) := by decide +kernel
theorem dX7_mixOf_53 : decode cX7_mixOf 53 = .ok (.getfield 25, 3) := by decide +kernel
theorem dX7_mixOf_56 : decode cX7_mixOf 56 = .ok (.iload_n 3, 1) := by decide +kernel
theorem dX7_mixOf_57 : decode cX7_mixOf 57 = .ok (.iaload, 1) := by decide +kernel
theorem dX7_mixOf_58 : decode cX7_mixOf 58 = .ok (.iload_n 1, 1) := by decide +kernel
theorem dX7_mixOf_59 : decode cX7_mixOf 59 = .ok (.if_icmp .ne 5, 3) := by decide +kernel
theorem dX7_mixOf_62 : decode cX7_mixOf 62 = .ok (.iload_n 3, 1) := by decide +kernel
theorem dX7_mixOf_63 : decode cX7_mixOf 63 = .ok (.ireturn, 1) := by decide +kernel
theorem dX7_mixOf_64 : decode cX7_mixOf 64 = .ok (.iinc 3 1, 3) := by decide +kernel
theorem dX7_mixOf_67 : decode cX7_mixOf 67 = .ok (.goto (-65), 3) := by decide +kernel
theorem dX7_mixOf_70 : decode cX7_mixOf 70 = .ok (.iconst (-1), 1) := by decide +kernel
theorem dX7_mixOf_71 : decode cX7_mixOf 71 = .ok (.ireturn, 1) := by decide +kernel
theorem dX7_mixOfLetters_0 : decode cX7_mixOfLetters 0 = .ok (.iconst 0, 1) := by decide +kernel
theorem dX7_mixOfLetters_1 : decode cX7_mixOfLetters 1 = .ok (.istore_n 3, 1) := by decide +kernel
theorem dX7_mixOfLetters_2 : decode cX7_mixOfLetters 2 = .ok (.iload_n 3, 1) := by decide +kernel
theorem dX7_mixOfLetters_3 : decode cX7_mixOfLetters 3 = .ok (.aload_n 0, 1) := by decide +kernel
theorem dX7_mixOfLetters_4 : decode cX7_mixOfLetters 4 = .ok (.getfield 54, 3) := by decide +kernel
theorem dX7_mixOfLetters_7 : decode cX7_mixOfLetters 7 = .ok (.if_icmp .ge 41, 3) := by decide +kernel
theorem dX7_mixOfLetters_10 : decode cX7_mixOfLetters 10 = .ok (.aload_n 0, 1) := by decide +kernel
theorem dX7_mixOfLetters_11 : decode cX7_mixOfLetters 11 = .ok (.getfield 9, 3) := by decide +kernel
theorem dX7_mixOfLetters_14 : decode cX7_mixOfLetters 14 = .ok (.aload_n 0, 1) := by decide +kernel
theorem dX7_mixOfLetters_15 : decode cX7_mixOfLetters 15 = .ok (.getfield 22, 3) := by decide +kernel
theorem dX7_mixOfLetters_18 : decode cX7_mixOfLetters 18 = .ok (.iload_n 3, 1) := by decide +kernel
theorem dX7_mixOfLetters_19 : decode cX7_mixOfLetters 19 = .ok (.iaload, 1) := by decide +kernel
theorem dX7_mixOfLetters_20 : decode cX7_mixOfLetters 20 = .ok (.iaload, 1) := by decide +kernel
theorem dX7_mixOfLetters_21 : decode cX7_mixOfLetters 21 = .ok (.iload_n 1, 1) := by decide +kernel
theorem dX7_mixOfLetters_22 : decode cX7_mixOfLetters 22 = .ok (.if_icmp .ne 20, 3) := by decide +kernel
theorem dX7_mixOfLetters_25 : decode cX7_mixOfLetters 25 = .ok (.aload_n 0, 1) := by decide +kernel
theorem dX7_mixOfLetters_26 : decode cX7_mixOfLetters 26 = .ok (.getfield 9, 3) := by decide +kernel
theorem dX7_mixOfLetters_29 : decode cX7_mixOfLetters 29 = .ok (.aload_n 0, 1) := by decide +kernel
theorem dX7_mixOfLetters_30 : decode cX7_mixOfLetters 30 = .ok (.getfield 25, 3) := by decide +kernel
theorem dX7_mixOfLetters_33 : decode cX7_mixOfLetters 33 = .ok (.iload_n 3, 1) := by decide +kernel
theorem dX7_mixOfLetters_34 : decode cX7_mixOfLetters 34 = .ok (.iaload, 1) := by decide +kernel
theorem dX7_mixOfLetters_35 : decode cX7_mixOfLetters 35 = .ok (.iaload, 1) := by decide +kernel
theorem dX7_mixOfLetters_36 : decode cX7_mixOfLetters 36 = .ok (.iload_n 2, 1) := by decide +kernel
theorem dX7_mixOfLetters_37 : decode cX7_mixOfLetters 37 = .ok (.if_icmp .ne 5, 3) := by decide +kernel
theorem dX7_mixOfLetters_40 : decode cX7_mixOfLetters 40 = .ok (.iload_n 3, 1) := by decide +kernel
theorem dX7_mixOfLetters_41 : decode cX7_mixOfLetters 41 = .ok (.ireturn, 1) := by decide +kernel
theorem dX7_mixOfLetters_42 : decode cX7_mixOfLetters 42 = .ok (.iinc 3 1, 3) := by decide +kernel
theorem dX7_mixOfLetters_45 : decode cX7_mixOfLetters 45 = .ok (.goto (-43), 3) := by decide +kernel
theorem dX7_mixOfLetters_48 : decode cX7_mixOfLetters 48 = .ok (.iconst (-1), 1) := by decide +kernel
theorem dX7_mixOfLetters_49 : decode cX7_mixOfLetters 49 = .ok (.ireturn, 1) := by decide +kernel
theorem dX7_addField_0 : decode cX7_addField 0 = .ok (.aload_n 0, 1) := by decide +kernel
theorem dX7_addField_1 : decode cX7_addField 1 = .ok (.getfield 50, 3) := by decide +kernel
theorem dX7_addField_4 : decode cX7_addField 4 = .ok (.bipush 6, 2) := by decide +kernel
theorem dX7_addField_6 : decode cX7_addField 6 = .ok (.if_icmp .ge 43, 3) := by decide +kernel
theorem dX7_addField_9 : decode cX7_addField 9 = .ok (.aload_n 0, 1) := by decide +kernel
theorem dX7_addField_10 : decode cX7_addField 10 = .ok (.getfield 9, 3) := by decide +kernel
theorem dX7_addField_13 : decode cX7_addField 13 = .ok (.aload_n 0, 1) := by decide +kernel
theorem dX7_addField_14 : decode cX7_addField 14 = .ok (.getfield 50, 3) := by decide +kernel
theorem dX7_addField_17 : decode cX7_addField 17 = .ok (.iload_n 1, 1) := by decide +kernel
theorem dX7_addField_18 : decode cX7_addField 18 = .ok (.iastore, 1) := by decide +kernel
theorem dX7_addField_19 : decode cX7_addField 19 = .ok (.aload_n 0, 1) := by decide +kernel
theorem dX7_addField_20 : decode cX7_addField 20 = .ok (.getfield 15, 3) := by decide +kernel
theorem dX7_addField_23 : decode cX7_addField 23 = .ok (.aload_n 0, 1) := by decide +kernel
theorem dX7_addField_24 : decode cX7_addField 24 = .ok (.getfield 50, 3) := by decide +kernel
theorem dX7_addField_27 : decode cX7_addField 27 = .ok (.iload_n 2, 1) := by decide +kernel
theorem dX7_addField_28 : decode cX7_addField 28 = .ok (.bastore, 1) := by decide +kernel
theorem dX7_addField_29 : decode cX7_addField 29 = .ok (.aload_n 0, 1) := by decide +kernel
theorem dX7_addField_30 : decode cX7_addField 30 = .ok (.getfield 19, 3) := by decide +kernel
theorem dX7_addField_33 : decode cX7_addField 33 = .ok (.aload_n 0, 1) := by decide +kernel
theorem dX7_addField_34 : decode cX7_addField 34 = .ok (.getfield 50, 3) := by decide +kernel
theorem dX7_addField_37 : decode cX7_addField 37 = .ok (.iload_n 3, 1) := by decide +kernel
theorem dX7_addField_38 : decode cX7_addField 38 = .ok (.bastore, 1) := by decide +kernel
theorem dX7_addField_39 : decode cX7_addField 39 = .ok (.aload_n 0, 1) := by decide +kernel
theorem dX7_addField_40 : decode cX7_addField 40 = .ok (.dup, 1) := by decide +kernel
theorem dX7_addField_41 : decode cX7_addField 41 = .ok (.getfield 50, 3) := by decide +kernel
theorem dX7_addField_44 : decode cX7_addField 44 = .ok (.iconst 1, 1) := by decide +kernel
theorem dX7_addField_45 : decode cX7_addField 45 = .ok (.iadd, 1) := by decide +kernel
theorem dX7_addField_46 : decode cX7_addField 46 = .ok (.putfield 50, 3) := by decide +kernel
theorem dX7_addField_49 : decode cX7_addField 49 = .ok (.return_, 1) := by decide +kernel
theorem dX7_addMix_0 : decode cX7_addMix 0 = .ok (.aload_n 0, 1) := by decide +kernel
theorem dX7_addMix_1 : decode cX7_addMix 1 = .ok (.getfield 54, 3) := by decide +kernel
theorem dX7_addMix_4 : decode cX7_addMix 4 = .ok (.iconst 4, 1) := by decide +kernel
theorem dX7_addMix_5 : decode cX7_addMix 5 = .ok (.if_icmp .ge 33, 3) := by decide +kernel
theorem dX7_addMix_8 : decode cX7_addMix 8 = .ok (.aload_n 0, 1) := by decide +kernel
theorem dX7_addMix_9 : decode cX7_addMix 9 = .ok (.getfield 22, 3) := by decide +kernel
theorem dX7_addMix_12 : decode cX7_addMix 12 = .ok (.aload_n 0, 1) := by decide +kernel
theorem dX7_addMix_13 : decode cX7_addMix 13 = .ok (.getfield 54, 3) := by decide +kernel
theorem dX7_addMix_16 : decode cX7_addMix 16 = .ok (.iload_n 1, 1) := by decide +kernel
theorem dX7_addMix_17 : decode cX7_addMix 17 = .ok (.iastore, 1) := by decide +kernel
theorem dX7_addMix_18 : decode cX7_addMix 18 = .ok (.aload_n 0, 1) := by decide +kernel
theorem dX7_addMix_19 : decode cX7_addMix 19 = .ok (.getfield 25, 3) := by decide +kernel
theorem dX7_addMix_22 : decode cX7_addMix 22 = .ok (.aload_n 0, 1) := by decide +kernel
theorem dX7_addMix_23 : decode cX7_addMix 23 = .ok (.getfield 54, 3) := by decide +kernel
theorem dX7_addMix_26 : decode cX7_addMix 26 = .ok (.iload_n 2, 1) := by decide +kernel
theorem dX7_addMix_27 : decode cX7_addMix 27 = .ok (.iastore, 1) := by decide +kernel
theorem dX7_addMix_28 : decode cX7_addMix 28 = .ok (.aload_n 0, 1) := by decide +kernel
theorem dX7_addMix_29 : decode cX7_addMix 29 = .ok (.dup, 1) := by decide +kernel
theorem dX7_addMix_30 : decode cX7_addMix 30 = .ok (.getfield 54, 3) := by decide +kernel
theorem dX7_addMix_33 : decode cX7_addMix 33 = .ok (.iconst 1, 1) := by decide +kernel
theorem dX7_addMix_34 : decode cX7_addMix 34 = .ok (.iadd, 1) := by decide +kernel
theorem dX7_addMix_35 : decode cX7_addMix 35 = .ok (.putfield 54, 3) := by decide +kernel
theorem dX7_addMix_38 : decode cX7_addMix 38 = .ok (.return_, 1) := by decide +kernel
theorem dX7_hasSort_0 : decode cX7_hasSort 0 = .ok (.iload_n 1, 1) := by decide +kernel
theorem dX7_hasSort_1 : decode cX7_hasSort 1 = .ok (.bipush 6, 2) := by decide +kernel
theorem dX7_hasSort_3 : decode cX7_hasSort 3 = .ok (.if_icmp .ge 19, 3) := by decide +kernel
theorem dX7_hasSort_6 : decode cX7_hasSort 6 = .ok (.iload_n 1, 1) := by decide +kernel
theorem dX7_hasSort_7 : decode cX7_hasSort 7 = .ok (.aload_n 0, 1) := by decide +kernel
theorem dX7_hasSort_8 : decode cX7_hasSort 8 = .ok (.getfield 50, 3) := by decide +kernel
theorem dX7_hasSort_11 : decode cX7_hasSort 11 = .ok (.if_icmp .ge 7, 3) := by decide +kernel
theorem dX7_hasSort_14 : decode cX7_hasSort 14 = .ok (.iconst 1, 1) := by decide +kernel
theorem dX7_hasSort_15 : decode cX7_hasSort 15 = .ok (.goto 23, 3) := by decide +kernel
theorem dX7_hasSort_18 : decode cX7_hasSort 18 = .ok (.iconst 0, 1) := by decide +kernel
theorem dX7_hasSort_19 : decode cX7_hasSort 19 = .ok (.goto 19, 3) := by decide +kernel
theorem dX7_hasSort_22 : decode cX7_hasSort 22 = .ok (.iload_n 1, 1) := by decide +kernel
theorem dX7_hasSort_23 : decode cX7_hasSort 23 = .ok (.bipush 6, 2) := by decide +kernel
theorem dX7_hasSort_25 : decode cX7_hasSort 25 = .ok (.isub, 1) := by decide +kernel
theorem dX7_hasSort_26 : decode cX7_hasSort 26 = .ok (.aload_n 0, 1) := by decide +kernel
theorem dX7_hasSort_27 : decode cX7_hasSort 27 = .ok (.getfield 54, 3) := by decide +kernel
theorem dX7_hasSort_30 : decode cX7_hasSort 30 = .ok (.if_icmp .ge 7, 3) := by decide +kernel
theorem dX7_hasSort_33 : decode cX7_hasSort 33 = .ok (.iconst 1, 1) := by decide +kernel
theorem dX7_hasSort_34 : decode cX7_hasSort 34 = .ok (.goto 4, 3) := by decide +kernel
theorem dX7_hasSort_37 : decode cX7_hasSort 37 = .ok (.iconst 0, 1) := by decide +kernel
theorem dX7_hasSort_38 : decode cX7_hasSort 38 = .ok (.ireturn, 1) := by decide +kernel
theorem dX7_isRealSort_0 : decode cX7_isRealSort 0 = .ok (.iload_n 1, 1) := by decide +kernel
theorem dX7_isRealSort_1 : decode cX7_isRealSort 1 = .ok (.bipush 6, 2) := by decide +kernel
theorem dX7_isRealSort_3 : decode cX7_isRealSort 3 = .ok (.if_icmp .ge 16, 3) := by decide +kernel
theorem dX7_isRealSort_6 : decode cX7_isRealSort 6 = .ok (.aload_n 0, 1) := by decide +kernel
theorem dX7_isRealSort_7 : decode cX7_isRealSort 7 = .ok (.getfield 15, 3) := by decide +kernel
theorem dX7_isRealSort_10 : decode cX7_isRealSort 10 = .ok (.iload_n 1, 1) := by decide +kernel
theorem dX7_isRealSort_11 : decode cX7_isRealSort 11 = .ok (.baload, 1) := by decide +kernel
theorem dX7_isRealSort_12 : decode cX7_isRealSort 12 = .ok (.ifCond .ne 7, 3) := by decide +kernel
theorem dX7_isRealSort_15 : decode cX7_isRealSort 15 = .ok (.iconst 1, 1) := by decide +kernel
theorem dX7_isRealSort_16 : decode cX7_isRealSort 16 = .ok (.goto 4, 3) := by decide +kernel
theorem dX7_isRealSort_19 : decode cX7_isRealSort 19 = .ok (.iconst 0, 1) := by decide +kernel
theorem dX7_isRealSort_20 : decode cX7_isRealSort 20 = .ok (.ireturn, 1) := by decide +kernel
theorem dX7_codeFor_0 : decode cX7_codeFor 0 = .ok (.iload_n 1, 1) := by decide +kernel
theorem dX7_codeFor_1 : decode cX7_codeFor 1 = .ok (.iload_n 2, 1) := by decide +kernel
theorem dX7_codeFor_2 : decode cX7_codeFor 2 = .ok (.if_icmp .le 22, 3) := by decide +kernel
theorem dX7_codeFor_5 : decode cX7_codeFor 5 = .ok (.iload_n 3, 1) := by decide +kernel
theorem dX7_codeFor_6 : decode cX7_codeFor 6 = .ok (.bipush 6, 2) := by decide +kernel
theorem dX7_codeFor_8 : decode cX7_codeFor 8 = .ok (.if_icmp .ge 16, 3) := by decide +kernel
theorem dX7_codeFor_11 : decode cX7_codeFor 11 = .ok (.aload_n 0, 1) := by decide +kernel
theorem dX7_codeFor_12 : decode cX7_codeFor 12 = .ok (.getfield 15, 3) := by decide +kernel
theorem dX7_codeFor_15 : decode cX7_codeFor 15 = .ok (.iload_n 3, 1) := by decide +kernel
theorem dX7_codeFor_16 : decode cX7_codeFor 16 = .ok (.baload, 1) := by decide +kernel
theorem dX7_codeFor_17 : decode cX7_codeFor 17 = .ok (.ifCond .ne 7, 3) := by decide +kernel
theorem dX7_codeFor_20 : decode cX7_codeFor 20 = .ok (.iconst 1, 1) := by decide +kernel
theorem dX7_codeFor_21 : decode cX7_codeFor 21 = .ok (.goto 4, 3) := by decide +kernel
theorem dX7_codeFor_24 : decode cX7_codeFor 24 = .ok (.iconst 0, 1) := by decide +kernel
theorem dX7_codeFor_25 : decode cX7_codeFor 25 = .ok (.istore 4, 2) := by decide +kernel
theorem dX7_codeFor_27 : decode cX7_codeFor 27 = .ok (.iload 4, 2) := by decide +kernel
theorem dX7_codeFor_29 : decode cX7_codeFor 29 = .ok (.ifCond .eq 17, 3) := by decide +kernel
theorem dX7_codeFor_32 : decode cX7_codeFor 32 = .ok (.bipush 100, 2) := by decide +kernel
theorem dX7_codeFor_34 : decode cX7_codeFor 34 = .ok (.iload_n 2, 1) := by decide +kernel
theorem dX7_codeFor_35 : decode cX7_codeFor 35 = .ok (.imul, 1) := by decide +kernel
theorem dX7_codeFor_36 : decode cX7_codeFor 36 = .ok (.bipush 10, 2) := by decide +kernel
theorem dX7_codeFor_38 : decode cX7_codeFor 38 = .ok (.iload_n 1, 1) := by decide +kernel
theorem dX7_codeFor_39 : decode cX7_codeFor 39 = .ok (.imul, 1) := by decide +kernel
theorem dX7_codeFor_40 : decode cX7_codeFor 40 = .ok (.iadd, 1) := by decide +kernel
theorem dX7_codeFor_41 : decode cX7_codeFor 41 = .ok (.iload_n 3, 1) := by decide +kernel
theorem dX7_codeFor_42 : decode cX7_codeFor 42 = .ok (.iadd, 1) := by decide +kernel
theorem dX7_codeFor_43 : decode cX7_codeFor 43 = .ok (.goto 14, 3) := by decide +kernel
theorem dX7_codeFor_46 : decode cX7_codeFor 46 = .ok (.bipush 100, 2) := by decide +kernel
theorem dX7_codeFor_48 : decode cX7_codeFor 48 = .ok (.iload_n 1, 1) := by decide +kernel
theorem dX7_codeFor_49 : decode cX7_codeFor 49 = .ok (.imul, 1) := by decide +kernel
theorem dX7_codeFor_50 : decode cX7_codeFor 50 = .ok (.bipush 10, 2) := by decide +kernel
theorem dX7_codeFor_52 : decode cX7_codeFor 52 = .ok (.iload_n 2, 1) := by decide +kernel
theorem dX7_codeFor_53 : decode cX7_codeFor 53 = .ok (.imul, 1) := by decide +kernel
theorem dX7_codeFor_54 : decode cX7_codeFor 54 = .ok (.iadd, 1) := by decide +kernel
theorem dX7_codeFor_55 : decode cX7_codeFor 55 = .ok (.iload_n 3, 1) := by decide +kernel
theorem dX7_codeFor_56 : decode cX7_codeFor 56 = .ok (.iadd, 1) := by decide +kernel
theorem dX7_codeFor_57 : decode cX7_codeFor 57 = .ok (.ireturn, 1) := by decide +kernel
theorem dX7_isPairSort_0 : decode cX7_isPairSort 0 = .ok (.iload_n 1, 1) := by decide +kernel
theorem dX7_isPairSort_1 : decode cX7_isPairSort 1 = .ok (.bipush 6, 2) := by decide +kernel
theorem dX7_isPairSort_3 : decode cX7_isPairSort 3 = .ok (.if_icmp .ge 16, 3) := by decide +kernel
theorem dX7_isPairSort_6 : decode cX7_isPairSort 6 = .ok (.aload_n 0, 1) := by decide +kernel
theorem dX7_isPairSort_7 : decode cX7_isPairSort 7 = .ok (.getfield 15, 3) := by decide +kernel
theorem dX7_isPairSort_10 : decode cX7_isPairSort 10 = .ok (.iload_n 1, 1) := by decide +kernel
theorem dX7_isPairSort_11 : decode cX7_isPairSort 11 = .ok (.baload, 1) := by decide +kernel
theorem dX7_isPairSort_12 : decode cX7_isPairSort 12 = .ok (.ifCond .eq 7, 3) := by decide +kernel
theorem dX7_isPairSort_15 : decode cX7_isPairSort 15 = .ok (.iconst 1, 1) := by decide +kernel
theorem dX7_isPairSort_16 : decode cX7_isPairSort 16 = .ok (.goto 4, 3) := by decide +kernel
theorem dX7_isPairSort_19 : decode cX7_isPairSort 19 = .ok (.iconst 0, 1) := by decide +kernel
theorem dX7_isPairSort_20 : decode cX7_isPairSort 20 = .ok (.ireturn, 1) := by decide +kernel
theorem dX7_hasCode_0 : decode cX7_hasCode 0 = .ok (.iload_n 1, 1) := by decide +kernel
theorem dX7_hasCode_1 : decode cX7_hasCode 1 = .ok (.ifCond .lt 10, 3) := by decide +kernel
theorem dX7_hasCode_4 : decode cX7_hasCode 4 = .ok (.iload_n 1, 1) := by decide +kernel
theorem dX7_hasCode_5 : decode cX7_hasCode 5 = .ok (.sipush 800, 3) := by decide +kernel
theorem dX7_hasCode_8 : decode cX7_hasCode 8 = .ok (.if_icmp .lt 5, 3) := by decide +kernel
theorem dX7_hasCode_11 : decode cX7_hasCode 11 = .ok (.iconst 0, 1) := by decide +kernel
theorem dX7_hasCode_12 : decode cX7_hasCode 12 = .ok (.ireturn, 1) := by decide +kernel
theorem dX7_hasCode_13 : decode cX7_hasCode 13 = .ok (.iload_n 1, 1) := by decide +kernel
theorem dX7_hasCode_14 : decode cX7_hasCode 14 = .ok (.bipush 100, 2) := by decide +kernel
theorem dX7_hasCode_16 : decode cX7_hasCode 16 = .ok (.idiv, 1) := by decide +kernel
theorem dX7_hasCode_17 : decode cX7_hasCode 17 = .ok (.istore_n 2, 1) := by decide +kernel
theorem dX7_hasCode_18 : decode cX7_hasCode 18 = .ok (.iload_n 1, 1) := by decide +kernel
theorem dX7_hasCode_19 : decode cX7_hasCode 19 = .ok (.bipush 10, 2) := by decide +kernel
theorem dX7_hasCode_21 : decode cX7_hasCode 21 = .ok (.idiv, 1) := by decide +kernel
theorem dX7_hasCode_22 : decode cX7_hasCode 22 = .ok (.bipush 10, 2) := by decide +kernel
theorem dX7_hasCode_24 : decode cX7_hasCode 24 = .ok (.irem, 1) := by decide +kernel
theorem dX7_hasCode_25 : decode cX7_hasCode 25 = .ok (.istore_n 3, 1) := by decide +kernel
theorem dX7_hasCode_26 : decode cX7_hasCode 26 = .ok (.iload_n 1, 1) := by decide +kernel
theorem dX7_hasCode_27 : decode cX7_hasCode 27 = .ok (.bipush 10, 2) := by decide +kernel
theorem dX7_hasCode_29 : decode cX7_hasCode 29 = .ok (.irem, 1) := by decide +kernel
theorem dX7_hasCode_30 : decode cX7_hasCode 30 = .ok (.istore 4, 2) := by decide +kernel
theorem dX7_hasCode_32 : decode cX7_hasCode 32 = .ok (.aload_n 0, 1) := by decide +kernel
theorem dX7_hasCode_33 : decode cX7_hasCode 33 = .ok (.iload_n 2, 1) := by decide +kernel
theorem dX7_hasCode_34 : decode cX7_hasCode 34 = .ok (.invokevirtual 127, 3) := by decide +kernel
theorem dX7_hasCode_37 : decode cX7_hasCode 37 = .ok (.ifCond .eq 20, 3) := by decide +kernel
theorem dX7_hasCode_40 : decode cX7_hasCode 40 = .ok (.aload_n 0, 1) := by decide +kernel
theorem dX7_hasCode_41 : decode cX7_hasCode 41 = .ok (.iload_n 3, 1) := by decide +kernel
theorem dX7_hasCode_42 : decode cX7_hasCode 42 = .ok (.invokevirtual 127, 3) := by decide +kernel
theorem dX7_hasCode_45 : decode cX7_hasCode 45 = .ok (.ifCond .eq 12, 3) := by decide +kernel
theorem dX7_hasCode_48 : decode cX7_hasCode 48 = .ok (.aload_n 0, 1) := by decide +kernel
theorem dX7_hasCode_49 : decode cX7_hasCode 49 = .ok (.iload 4, 2) := by decide +kernel
theorem dX7_hasCode_51 : decode cX7_hasCode 51 = .ok (.invokevirtual 131, 3) := by decide +kernel
theorem dX7_hasCode_54 : decode cX7_hasCode 54 = .ok (.ifCond .ne 5, 3) := by decide +kernel
theorem dX7_hasCode_57 : decode cX7_hasCode 57 = .ok (.iconst 0, 1) := by decide +kernel
theorem dX7_hasCode_58 : decode cX7_hasCode 58 = .ok (.ireturn, 1) := by decide +kernel
theorem dX7_hasCode_59 : decode cX7_hasCode 59 = .ok (.aload_n 0, 1) := by decide +kernel
theorem dX7_hasCode_60 : decode cX7_hasCode 60 = .ok (.iload 4, 2) := by decide +kernel
theorem dX7_hasCode_62 : decode cX7_hasCode 62 = .ok (.invokevirtual 134, 3) := by decide +kernel
theorem dX7_hasCode_65 : decode cX7_hasCode 65 = .ok (.ifCond .eq 8, 3) := by decide +kernel
theorem dX7_hasCode_68 : decode cX7_hasCode 68 = .ok (.iload_n 2, 1) := by decide +kernel
theorem dX7_hasCode_69 : decode cX7_hasCode 69 = .ok (.iload_n 3, 1) := by decide +kernel
theorem dX7_hasCode_70 : decode cX7_hasCode 70 = .ok (.if_icmp .gt 7, 3) := by decide +kernel
theorem dX7_hasCode_73 : decode cX7_hasCode 73 = .ok (.iconst 1, 1) := by decide +kernel
theorem dX7_hasCode_74 : decode cX7_hasCode 74 = .ok (.goto 4, 3) := by decide +kernel
theorem dX7_hasCode_77 : decode cX7_hasCode 77 = .ok (.iconst 0, 1) := by decide +kernel
theorem dX7_hasCode_78 : decode cX7_hasCode 78 = .ok (.ireturn, 1) := by decide +kernel
theorem dX7_removePoint_0 : decode cX7_removePoint 0 = .ok (.aload_n 0, 1) := by decide +kernel
theorem dX7_removePoint_1 : decode cX7_removePoint 1 = .ok (.iload_n 1, 1) := by decide +kernel
theorem dX7_removePoint_2 : decode cX7_removePoint 2 = .ok (.aload_n 0, 1) := by decide +kernel
theorem dX7_removePoint_3 : decode cX7_removePoint 3 = .ok (.getfield 57, 3) := by decide +kernel
theorem dX7_removePoint_6 : decode cX7_removePoint 6 = .ok (.iconst 1, 1) := by decide +kernel
theorem dX7_removePoint_7 : decode cX7_removePoint 7 = .ok (.isub, 1) := by decide +kernel
theorem dX7_removePoint_8 : decode cX7_removePoint 8 = .ok (.invokevirtual 137, 3) := by decide +kernel
theorem dX7_removePoint_11 : decode cX7_removePoint 11 = .ok (.aload_n 0, 1) := by decide +kernel
theorem dX7_removePoint_12 : decode cX7_removePoint 12 = .ok (.dup, 1) := by decide +kernel
theorem dX7_removePoint_13 : decode cX7_removePoint 13 = .ok (.getfield 57, 3) := by decide +kernel
theorem dX7_removePoint_16 : decode cX7_removePoint 16 = .ok (.iconst 1, 1) := by decide +kernel
theorem dX7_removePoint_17 : decode cX7_removePoint 17 = .ok (.isub, 1) := by decide +kernel
theorem dX7_removePoint_18 : decode cX7_removePoint 18 = .ok (.putfield 57, 3) := by decide +kernel
theorem dX7_removePoint_21 : decode cX7_removePoint 21 = .ok (.aload_n 0, 1) := by decide +kernel
theorem dX7_removePoint_22 : decode cX7_removePoint 22 = .ok (.invokevirtual 60, 3) := by decide +kernel
theorem dX7_removePoint_25 : decode cX7_removePoint 25 = .ok (.return_, 1) := by decide +kernel
theorem dX7_shiftPoint_0 : decode cX7_shiftPoint 0 = .ok (.aload_n 0, 1) := by decide +kernel
theorem dX7_shiftPoint_1 : decode cX7_shiftPoint 1 = .ok (.getfield 30, 3) := by decide +kernel
theorem dX7_shiftPoint_4 : decode cX7_shiftPoint 4 = .ok (.iload_n 1, 1) := by decide +kernel
theorem dX7_shiftPoint_5 : decode cX7_shiftPoint 5 = .ok (.aaload, 1) := by decide +kernel
theorem dX7_shiftPoint_6 : decode cX7_shiftPoint 6 = .ok (.astore_n 3, 1) := by decide +kernel
theorem dX7_shiftPoint_7 : decode cX7_shiftPoint 7 = .ok (.iload_n 1, 1) := by decide +kernel
theorem dX7_shiftPoint_8 : decode cX7_shiftPoint 8 = .ok (.istore 4, 2) := by decide +kernel
theorem dX7_shiftPoint_10 : decode cX7_shiftPoint 10 = .ok (.iload 4, 2) := by decide +kernel
theorem dX7_shiftPoint_12 : decode cX7_shiftPoint 12 = .ok (.iload_n 2, 1) := by decide +kernel
theorem dX7_shiftPoint_13 : decode cX7_shiftPoint 13 = .ok (.if_icmp .ge 25, 3) := by decide +kernel
theorem dX7_shiftPoint_16 : decode cX7_shiftPoint 16 = .ok (.aload_n 0, 1) := by decide +kernel
theorem dX7_shiftPoint_17 : decode cX7_shiftPoint 17 = .ok (.getfield 30, 3) := by decide +kernel
theorem dX7_shiftPoint_20 : decode cX7_shiftPoint 20 = .ok (.iload 4, 2) := by decide +kernel
theorem dX7_shiftPoint_22 : decode cX7_shiftPoint 22 = .ok (.aload_n 0, 1) := by decide +kernel
theorem dX7_shiftPoint_23 : decode cX7_shiftPoint 23 = .ok (.getfield 30, 3) := by decide +kernel
theorem dX7_shiftPoint_26 : decode cX7_shiftPoint 26 = .ok (.iload 4, 2) := by decide +kernel
theorem dX7_shiftPoint_28 : decode cX7_shiftPoint 28 = .ok (.iconst 1, 1) := by decide +kernel
theorem dX7_shiftPoint_29 : decode cX7_shiftPoint 29 = .ok (.iadd, 1) := by decide +kernel
theorem dX7_shiftPoint_30 : decode cX7_shiftPoint 30 = .ok (.aaload, 1) := by decide +kernel
theorem dX7_shiftPoint_31 : decode cX7_shiftPoint 31 = .ok (.aastore, 1) := by decide +kernel
theorem dX7_shiftPoint_32 : decode cX7_shiftPoint 32 = .ok (.iinc 4 1, 3) := by decide +kernel
theorem dX7_shiftPoint_35 : decode cX7_shiftPoint 35 = .ok (.goto (-25), 3) := by decide +kernel
theorem dX7_shiftPoint_38 : decode cX7_shiftPoint 38 = .ok (.iload_n 1, 1) := by decide +kernel
theorem dX7_shiftPoint_39 : decode cX7_shiftPoint 39 = .ok (.istore 4, 2) := by decide +kernel
theorem dX7_shiftPoint_41 : decode cX7_shiftPoint 41 = .ok (.iload 4, 2) := by decide +kernel
theorem dX7_shiftPoint_43 : decode cX7_shiftPoint 43 = .ok (.iload_n 2, 1) := by decide +kernel
theorem dX7_shiftPoint_44 : decode cX7_shiftPoint 44 = .ok (.if_icmp .le 25, 3) := by decide +kernel
theorem dX7_shiftPoint_47 : decode cX7_shiftPoint 47 = .ok (.aload_n 0, 1) := by decide +kernel
theorem dX7_shiftPoint_48 : decode cX7_shiftPoint 48 = .ok (.getfield 30, 3) := by decide +kernel
theorem dX7_shiftPoint_51 : decode cX7_shiftPoint 51 = .ok (.iload 4, 2) := by decide +kernel
theorem dX7_shiftPoint_53 : decode cX7_shiftPoint 53 = .ok (.aload_n 0, 1) := by decide +kernel
theorem dX7_shiftPoint_54 : decode cX7_shiftPoint 54 = .ok (.getfield 30, 3) := by decide +kernel
theorem dX7_shiftPoint_57 : decode cX7_shiftPoint 57 = .ok (.iload 4, 2) := by decide +kernel
theorem dX7_shiftPoint_59 : decode cX7_shiftPoint 59 = .ok (.iconst 1, 1) := by decide +kernel
theorem dX7_shiftPoint_60 : decode cX7_shiftPoint 60 = .ok (.isub, 1) := by decide +kernel
theorem dX7_shiftPoint_61 : decode cX7_shiftPoint 61 = .ok (.aaload, 1) := by decide +kernel
theorem dX7_shiftPoint_62 : decode cX7_shiftPoint 62 = .ok (.aastore, 1) := by decide +kernel
theorem dX7_shiftPoint_63 : decode cX7_shiftPoint 63 = .ok (.iinc 4 (-1), 3) := by decide +kernel
theorem dX7_shiftPoint_66 : decode cX7_shiftPoint 66 = .ok (.goto (-25), 3) := by decide +kernel
theorem dX7_shiftPoint_69 : decode cX7_shiftPoint 69 = .ok (.aload_n 0, 1) := by decide +kernel
theorem dX7_shiftPoint_70 : decode cX7_shiftPoint 70 = .ok (.getfield 30, 3) := by decide +kernel
theorem dX7_shiftPoint_73 : decode cX7_shiftPoint 73 = .ok (.iload_n 2, 1) := by decide +kernel
theorem dX7_shiftPoint_74 : decode cX7_shiftPoint 74 = .ok (.aload_n 3, 1) := by decide +kernel
theorem dX7_shiftPoint_75 : decode cX7_shiftPoint 75 = .ok (.aastore, 1) := by decide +kernel
theorem dX7_shiftPoint_76 : decode cX7_shiftPoint 76 = .ok (.aload_n 0, 1) := by decide +kernel
theorem dX7_shiftPoint_77 : decode cX7_shiftPoint 77 = .ok (.invokevirtual 60, 3) := by decide +kernel
theorem dX7_shiftPoint_80 : decode cX7_shiftPoint 80 = .ok (.return_, 1) := by decide +kernel
theorem dX7_exchangeLetters_0 : decode cX7_exchangeLetters 0 = .ok (.aload_n 0, 1) := by decide +kernel
theorem dX7_exchangeLetters_1 : decode cX7_exchangeLetters 1 = .ok (.getfield 30, 3) := by decide +kernel
theorem dX7_exchangeLetters_4 : decode cX7_exchangeLetters 4 = .ok (.aload_n 0, 1) := by decide +kernel
theorem dX7_exchangeLetters_5 : decode cX7_exchangeLetters 5 = .ok (.getfield 37, 3) := by decide +kernel
theorem dX7_exchangeLetters_8 : decode cX7_exchangeLetters 8 = .ok (.iload_n 1, 1) := by decide +kernel
theorem dX7_exchangeLetters_9 : decode cX7_exchangeLetters 9 = .ok (.iaload, 1) := by decide +kernel
theorem dX7_exchangeLetters_10 : decode cX7_exchangeLetters 10 = .ok (.aaload, 1) := by decide +kernel
theorem dX7_exchangeLetters_11 : decode cX7_exchangeLetters 11 = .ok (.astore_n 2, 1) := by decide +kernel
theorem dX7_exchangeLetters_12 : decode cX7_exchangeLetters 12 = .ok (.iload_n 1, 1) := by decide +kernel
theorem dX7_exchangeLetters_13 : decode cX7_exchangeLetters 13 = .ok (.aload_n 0, 1) := by decide +kernel
theorem dX7_exchangeLetters_14 : decode cX7_exchangeLetters 14 = .ok (.aload_n 0, 1) := by decide +kernel
theorem dX7_exchangeLetters_15 : decode cX7_exchangeLetters 15 = .ok (.getfield 37, 3) := by decide +kernel
theorem dX7_exchangeLetters_18 : decode cX7_exchangeLetters 18 = .ok (.iload_n 1, 1) := by decide +kernel
theorem dX7_exchangeLetters_19 : decode cX7_exchangeLetters 19 = .ok (.iaload, 1) := by decide +kernel
theorem dX7_exchangeLetters_20 : decode cX7_exchangeLetters 20 = .ok (.invokevirtual 114, 3) := by decide +kernel
theorem dX7_exchangeLetters_23 : decode cX7_exchangeLetters 23 = .ok (.isub, 1) := by decide +kernel
theorem dX7_exchangeLetters_24 : decode cX7_exchangeLetters 24 = .ok (.istore_n 3, 1) := by decide +kernel
theorem dX7_exchangeLetters_25 : decode cX7_exchangeLetters 25 = .ok (.iload_n 3, 1) := by decide +kernel
theorem dX7_exchangeLetters_26 : decode cX7_exchangeLetters 26 = .ok (.ifCond .lt 45, 3) := by decide +kernel
theorem dX7_exchangeLetters_29 : decode cX7_exchangeLetters 29 = .ok (.iload_n 3, 1) := by decide +kernel
theorem dX7_exchangeLetters_30 : decode cX7_exchangeLetters 30 = .ok (.iconst 1, 1) := by decide +kernel
theorem dX7_exchangeLetters_31 : decode cX7_exchangeLetters 31 = .ok (.iadd, 1) := by decide +kernel
theorem dX7_exchangeLetters_32 : decode cX7_exchangeLetters 32 = .ok (.aload_n 2, 1) := by decide +kernel
theorem dX7_exchangeLetters_33 : decode cX7_exchangeLetters 33 = .ok (.getfield 75, 3) := by decide +kernel
theorem dX7_exchangeLetters_36 : decode cX7_exchangeLetters 36 = .ok (.if_icmp .ge 35, 3) := by decide +kernel
theorem dX7_exchangeLetters_39 : decode cX7_exchangeLetters 39 = .ok (.aload_n 2, 1) := by decide +kernel
theorem dX7_exchangeLetters_40 : decode cX7_exchangeLetters 40 = .ok (.getfield 78, 3) := by decide +kernel
theorem dX7_exchangeLetters_43 : decode cX7_exchangeLetters 43 = .ok (.iload_n 3, 1) := by decide +kernel
theorem dX7_exchangeLetters_44 : decode cX7_exchangeLetters 44 = .ok (.iaload, 1) := by decide +kernel
theorem dX7_exchangeLetters_45 : decode cX7_exchangeLetters 45 = .ok (.istore 4, 2) := by decide +kernel
theorem dX7_exchangeLetters_47 : decode cX7_exchangeLetters 47 = .ok (.aload_n 2, 1) := by decide +kernel
theorem dX7_exchangeLetters_48 : decode cX7_exchangeLetters 48 = .ok (.getfield 78, 3) := by decide +kernel
theorem dX7_exchangeLetters_51 : decode cX7_exchangeLetters 51 = .ok (.iload_n 3, 1) := by decide +kernel
theorem dX7_exchangeLetters_52 : decode cX7_exchangeLetters 52 = .ok (.aload_n 2, 1) := by decide +kernel
theorem dX7_exchangeLetters_53 : decode cX7_exchangeLetters 53 = .ok (.getfield 78, 3) := by decide +kernel
theorem dX7_exchangeLetters_56 : decode cX7_exchangeLetters 56 = .ok (.iload_n 3, 1) := by decide +kernel
theorem dX7_exchangeLetters_57 : decode cX7_exchangeLetters 57 = .ok (.iconst 1, 1) := by decide +kernel
theorem dX7_exchangeLetters_58 : decode cX7_exchangeLetters 58 = .ok (.iadd, 1) := by decide +kernel
theorem dX7_exchangeLetters_59 : decode cX7_exchangeLetters 59 = .ok (.iaload, 1) := by decide +kernel
theorem dX7_exchangeLetters_60 : decode cX7_exchangeLetters 60 = .ok (.iastore, 1) := by decide +kernel
theorem dX7_exchangeLetters_61 : decode cX7_exchangeLetters 61 = .ok (.aload_n 2, 1) := by decide +kernel
theorem dX7_exchangeLetters_62 : decode cX7_exchangeLetters 62 = .ok (.getfield 78, 3) := by decide +kernel
theorem dX7_exchangeLetters_65 : decode cX7_exchangeLetters 65 = .ok (.iload_n 3, 1) := by decide +kernel
theorem dX7_exchangeLetters_66 : decode cX7_exchangeLetters 66 = .ok (.iconst 1, 1) := by decide +kernel
theorem dX7_exchangeLetters_67 : decode cX7_exchangeLetters 67 = .ok (.iadd, 1) := by decide +kernel
theorem dX7_exchangeLetters_68 : decode cX7_exchangeLetters 68 = .ok (.iload 4, 2) := by decide +kernel
theorem dX7_exchangeLetters_70 : decode cX7_exchangeLetters 70 = .ok (.iastore, 1) := by decide +kernel
theorem dX7_exchangeLetters_71 : decode cX7_exchangeLetters 71 = .ok (.aload_n 0, 1) := by decide +kernel
theorem dX7_exchangeLetters_72 : decode cX7_exchangeLetters 72 = .ok (.invokevirtual 60, 3) := by decide +kernel
theorem dX7_exchangeLetters_75 : decode cX7_exchangeLetters 75 = .ok (.return_, 1) := by decide +kernel
theorem dX7_setNormal_0 : decode cX7_setNormal 0 = .ok (.aload_n 0, 1) := by decide +kernel
theorem dX7_setNormal_1 : decode cX7_setNormal 1 = .ok (.getfield 30, 3) := by decide +kernel
theorem dX7_setNormal_4 : decode cX7_setNormal 4 = .ok (.iload_n 1, 1) := by decide +kernel
theorem dX7_setNormal_5 : decode cX7_setNormal 5 = .ok (.aaload, 1) := by decide +kernel
theorem dX7_setNormal_6 : decode cX7_setNormal 6 = .ok (.iload_n 2, 1) := by decide +kernel
theorem dX7_setNormal_7 : decode cX7_setNormal 7 = .ok (.putfield 85, 3) := by decide +kernel
theorem dX7_setNormal_10 : decode cX7_setNormal 10 = .ok (.aload_n 0, 1) := by decide +kernel
theorem dX7_setNormal_11 : decode cX7_setNormal 11 = .ok (.invokevirtual 60, 3) := by decide +kernel
theorem dX7_setNormal_14 : decode cX7_setNormal 14 = .ok (.return_, 1) := by decide +kernel
theorem dX7_hasRoomForCopy_0 : decode cX7_hasRoomForCopy 0 = .ok (.aload_n 0, 1) := by decide +kernel
theorem dX7_hasRoomForCopy_1 : decode cX7_hasRoomForCopy 1 = .ok (.getfield 57, 3) := by decide +kernel
theorem dX7_hasRoomForCopy_4 : decode cX7_hasRoomForCopy 4 = .ok (.bipush 8, 2) := by decide +kernel
theorem dX7_hasRoomForCopy_6 : decode cX7_hasRoomForCopy 6 = .ok (.if_icmp .ge 22, 3) := by decide +kernel
theorem dX7_hasRoomForCopy_9 : decode cX7_hasRoomForCopy 9 = .ok (.aload_n 0, 1) := by decide +kernel
theorem dX7_hasRoomForCopy_10 : decode cX7_hasRoomForCopy 10 = .ok (.getfield 69, 3) := by decide +kernel
theorem dX7_hasRoomForCopy_13 : decode cX7_hasRoomForCopy 13 = .ok (.aload_n 0, 1) := by decide +kernel
theorem dX7_hasRoomForCopy_14 : decode cX7_hasRoomForCopy 14 = .ok (.getfield 30, 3) := by decide +kernel
theorem dX7_hasRoomForCopy_17 : decode cX7_hasRoomForCopy 17 = .ok (.iload_n 1, 1) := by decide +kernel
theorem dX7_hasRoomForCopy_18 : decode cX7_hasRoomForCopy 18 = .ok (.aaload, 1) := by decide +kernel
theorem dX7_hasRoomForCopy_19 : decode cX7_hasRoomForCopy 19 = .ok (.getfield 75, 3) := by decide +kernel
theorem dX7_hasRoomForCopy_22 : decode cX7_hasRoomForCopy 22 = .ok (.iadd, 1) := by decide +kernel
theorem dX7_hasRoomForCopy_23 : decode cX7_hasRoomForCopy 23 = .ok (.bipush 12, 2) := by decide +kernel
theorem dX7_hasRoomForCopy_25 : decode cX7_hasRoomForCopy 25 = .ok (.if_icmp .le 5, 3) := by decide +kernel
theorem dX7_hasRoomForCopy_28 : decode cX7_hasRoomForCopy 28 = .ok (.iconst 0, 1) := by decide +kernel
theorem dX7_hasRoomForCopy_29 : decode cX7_hasRoomForCopy 29 = .ok (.ireturn, 1) := by decide +kernel
theorem dX7_hasRoomForCopy_30 : decode cX7_hasRoomForCopy 30 = .ok (.aload_n 0, 1) := by decide +kernel
theorem dX7_hasRoomForCopy_31 : decode cX7_hasRoomForCopy 31 = .ok (.getfield 30, 3) := by decide +kernel
theorem dX7_hasRoomForCopy_34 : decode cX7_hasRoomForCopy 34 = .ok (.iload_n 1, 1) := by decide +kernel
theorem dX7_hasRoomForCopy_35 : decode cX7_hasRoomForCopy 35 = .ok (.aaload, 1) := by decide +kernel
theorem dX7_hasRoomForCopy_36 : decode cX7_hasRoomForCopy 36 = .ok (.getfield 101, 3) := by decide +kernel
theorem dX7_hasRoomForCopy_39 : decode cX7_hasRoomForCopy 39 = .ok (.ifCond .eq 11, 3) := by decide +kernel
theorem dX7_hasRoomForCopy_42 : decode cX7_hasRoomForCopy 42 = .ok (.aload_n 0, 1) := by decide +kernel
theorem dX7_hasRoomForCopy_43 : decode cX7_hasRoomForCopy 43 = .ok (.invokevirtual 140, 3) := by decide +kernel
theorem dX7_hasRoomForCopy_46 : decode cX7_hasRoomForCopy 46 = .ok (.iconst 5, 1) := by decide +kernel
theorem dX7_hasRoomForCopy_47 : decode cX7_hasRoomForCopy 47 = .ok (.if_icmp .ge 7, 3) := by decide +kernel
theorem dX7_hasRoomForCopy_50 : decode cX7_hasRoomForCopy 50 = .ok (.iconst 1, 1) := by decide +kernel
theorem dX7_hasRoomForCopy_51 : decode cX7_hasRoomForCopy 51 = .ok (.goto 4, 3) := by decide +kernel
theorem dX7_hasRoomForCopy_54 : decode cX7_hasRoomForCopy 54 = .ok (.iconst 0, 1) := by decide +kernel
theorem dX7_hasRoomForCopy_55 : decode cX7_hasRoomForCopy 55 = .ok (.ireturn, 1) := by decide +kernel
theorem dX7_copyPoint_0 : decode cX7_copyPoint 0 = .ok (.aload_n 0, 1) := by decide +kernel
theorem dX7_copyPoint_1 : decode cX7_copyPoint 1 = .ok (.getfield 57, 3) := by decide +kernel
theorem dX7_copyPoint_4 : decode cX7_copyPoint 4 = .ok (.bipush 8, 2) := by decide +kernel
theorem dX7_copyPoint_6 : decode cX7_copyPoint 6 = .ok (.if_icmp .ge 31, 3) := by decide +kernel
theorem dX7_copyPoint_9 : decode cX7_copyPoint 9 = .ok (.aload_n 0, 1) := by decide +kernel
theorem dX7_copyPoint_10 : decode cX7_copyPoint 10 = .ok (.getfield 30, 3) := by decide +kernel
theorem dX7_copyPoint_13 : decode cX7_copyPoint 13 = .ok (.aload_n 0, 1) := by decide +kernel
theorem dX7_copyPoint_14 : decode cX7_copyPoint 14 = .ok (.getfield 57, 3) := by decide +kernel
theorem dX7_copyPoint_17 : decode cX7_copyPoint 17 = .ok (.aaload, 1) := by decide +kernel
theorem dX7_copyPoint_18 : decode cX7_copyPoint 18 = .ok (.aload_n 0, 1) := by decide +kernel
theorem dX7_copyPoint_19 : decode cX7_copyPoint 19 = .ok (.getfield 30, 3) := by decide +kernel
theorem dX7_copyPoint_22 : decode cX7_copyPoint 22 = .ok (.iload_n 1, 1) := by decide +kernel
theorem dX7_copyPoint_23 : decode cX7_copyPoint 23 = .ok (.aaload, 1) := by decide +kernel
theorem dX7_copyPoint_24 : decode cX7_copyPoint 24 = .ok (.invokevirtual 143, 3) := by decide +kernel
theorem dX7_copyPoint_27 : decode cX7_copyPoint 27 = .ok (.aload_n 0, 1) := by decide +kernel
theorem dX7_copyPoint_28 : decode cX7_copyPoint 28 = .ok (.dup, 1) := by decide +kernel
theorem dX7_copyPoint_29 : decode cX7_copyPoint 29 = .ok (.getfield 57, 3) := by decide +kernel
theorem dX7_copyPoint_32 : decode cX7_copyPoint 32 = .ok (.iconst 1, 1) := by decide +kernel
theorem dX7_copyPoint_33 : decode cX7_copyPoint 33 = .ok (.iadd, 1) := by decide +kernel
theorem dX7_copyPoint_34 : decode cX7_copyPoint 34 = .ok (.putfield 57, 3) := by decide +kernel
theorem dX7_copyPoint_37 : decode cX7_copyPoint 37 = .ok (.aload_n 0, 1) := by decide +kernel
theorem dX7_copyPoint_38 : decode cX7_copyPoint 38 = .ok (.invokevirtual 60, 3) := by decide +kernel
theorem dX7_copyPoint_41 : decode cX7_copyPoint 41 = .ok (.return_, 1) := by decide +kernel
theorem dX7_openPoint_0 : decode cX7_openPoint 0 = .ok (.aload_n 0, 1) := by decide +kernel
theorem dX7_openPoint_1 : decode cX7_openPoint 1 = .ok (.getfield 57, 3) := by decide +kernel
theorem dX7_openPoint_4 : decode cX7_openPoint 4 = .ok (.bipush 7, 2) := by decide +kernel
theorem dX7_openPoint_6 : decode cX7_openPoint 6 = .ok (.invokestatic 147, 3) := by decide +kernel
theorem dX7_openPoint_9 : decode cX7_openPoint 9 = .ok (.istore_n 3, 1) := by decide +kernel
theorem dX7_openPoint_10 : decode cX7_openPoint 10 = .ok (.aload_n 0, 1) := by decide +kernel
theorem dX7_openPoint_11 : decode cX7_openPoint 11 = .ok (.getfield 30, 3) := by decide +kernel
theorem dX7_openPoint_14 : decode cX7_openPoint 14 = .ok (.iload_n 3, 1) := by decide +kernel
theorem dX7_openPoint_15 : decode cX7_openPoint 15 = .ok (.aaload, 1) := by decide +kernel
theorem dX7_openPoint_16 : decode cX7_openPoint 16 = .ok (.iload_n 1, 1) := by decide +kernel
theorem dX7_openPoint_17 : decode cX7_openPoint 17 = .ok (.iload_n 2, 1) := by decide +kernel
theorem dX7_openPoint_18 : decode cX7_openPoint 18 = .ok (.invokevirtual 152, 3) := by decide +kernel
theorem dX7_openPoint_21 : decode cX7_openPoint 21 = .ok (.aload_n 0, 1) := by decide +kernel
theorem dX7_openPoint_22 : decode cX7_openPoint 22 = .ok (.iload_n 3, 1) := by decide +kernel
theorem dX7_openPoint_23 : decode cX7_openPoint 23 = .ok (.iconst 1, 1) := by decide +kernel
theorem dX7_openPoint_24 : decode cX7_openPoint 24 = .ok (.iadd, 1) := by decide +kernel
theorem dX7_openPoint_25 : decode cX7_openPoint 25 = .ok (.putfield 57, 3) := by decide +kernel
theorem dX7_openPoint_28 : decode cX7_openPoint 28 = .ok (.aload_n 0, 1) := by decide +kernel
theorem dX7_openPoint_29 : decode cX7_openPoint 29 = .ok (.getfield 30, 3) := by decide +kernel
theorem dX7_openPoint_32 : decode cX7_openPoint 32 = .ok (.iload_n 3, 1) := by decide +kernel
theorem dX7_openPoint_33 : decode cX7_openPoint 33 = .ok (.aaload, 1) := by decide +kernel
theorem dX7_openPoint_34 : decode cX7_openPoint 34 = .ok (.areturn, 1) := by decide +kernel
