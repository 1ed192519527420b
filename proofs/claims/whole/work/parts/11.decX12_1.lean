theorem dX12_placeIn_20 : decode cX12_placeIn 20 = .ok (.iconst 2, 1) := by decide +kernel
theorem dX12_placeIn_21 : decode cX12_placeIn 21 = .ok (.idiv, 1) := by decide +kernel
theorem dX12_placeIn_22 : decode cX12_placeIn 22 = .ok (.istore 6, 2) := by decide +kernel
theorem dX12_placeIn_24 : decode cX12_placeIn 24 = .ok (.aload_n 0, 1) := by decide +kernel
theorem dX12_placeIn_25 : decode cX12_placeIn 25 = .ok (.iload 6, 2) := by decide +kernel
theorem dX12_placeIn_27 : decode cX12_placeIn 27 = .ok (.laload, 1) := by decide +kernel
theorem dX12_placeIn_28 : decode cX12_placeIn 28 = .ok (.lload_n 2, 1) := by decide +kernel
theorem dX12_placeIn_29 : decode cX12_placeIn 29 = .ok (.lcmp, 1) := by decide +kernel
theorem dX12_placeIn_30 : decode cX12_placeIn 30 = .ok (.ifCond .ne 6, 3) := by decide +kernel
theorem dX12_placeIn_33 : decode cX12_placeIn 33 = .ok (.iload 6, 2) := by decide +kernel
theorem dX12_placeIn_35 : decode cX12_placeIn 35 = .ok (.ireturn, 1) := by decide +kernel
theorem dX12_placeIn_36 : decode cX12_placeIn 36 = .ok (.aload_n 0, 1) := by decide +kernel
theorem dX12_placeIn_37 : decode cX12_placeIn 37 = .ok (.iload 6, 2) := by decide +kernel
theorem dX12_placeIn_39 : decode cX12_placeIn 39 = .ok (.laload, 1) := by decide +kernel
theorem dX12_placeIn_40 : decode cX12_placeIn 40 = .ok (.lload_n 2, 1) := by decide +kernel
theorem dX12_placeIn_41 : decode cX12_placeIn 41 = .ok (.lcmp, 1) := by decide +kernel
theorem dX12_placeIn_42 : decode cX12_placeIn 42 = .ok (.ifCond .ge 12, 3) := by decide +kernel
theorem dX12_placeIn_45 : decode cX12_placeIn 45 = .ok (.iload 6, 2) := by decide +kernel
theorem dX12_placeIn_47 : decode cX12_placeIn 47 = .ok (.iconst 1, 1) := by decide +kernel
theorem dX12_placeIn_48 : decode cX12_placeIn 48 = .ok (.iadd, 1) := by decide +kernel
theorem dX12_placeIn_49 : decode cX12_placeIn 49 = .ok (.istore 4, 2) := by decide +kernel
theorem dX12_placeIn_51 : decode cX12_placeIn 51 = .ok (.goto 9, 3) := by decide +kernel
theorem dX12_placeIn_54 : decode cX12_placeIn 54 = .ok (.iload 6, 2) := by decide +kernel
theorem dX12_placeIn_56 : decode cX12_placeIn 56 = .ok (.iconst 1, 1) := by decide +kernel
theorem dX12_placeIn_57 : decode cX12_placeIn 57 = .ok (.isub, 1) := by decide +kernel
theorem dX12_placeIn_58 : decode cX12_placeIn 58 = .ok (.istore 5, 2) := by decide +kernel
theorem dX12_placeIn_60 : decode cX12_placeIn 60 = .ok (.goto (-52), 3) := by decide +kernel
theorem dX12_placeIn_63 : decode cX12_placeIn 63 = .ok (.iconst (-1), 1) := by decide +kernel
theorem dX12_placeIn_64 : decode cX12_placeIn 64 = .ok (.ireturn, 1) := by decide +kernel
theorem dX12_laysNames_0 : decode cX12_laysNames 0 = .ok (.aload_n 0, 1) := by decide +kernel
theorem dX12_laysNames_1 : decode cX12_laysNames 1 = .ok (.invokevirtual 194, 3) := by decide +kernel
theorem dX12_laysNames_4 : decode cX12_laysNames 4 = .ok (.aload_n 0, 1) := by decide +kernel
theorem dX12_laysNames_5 : decode cX12_laysNames 5 = .ok (.getfield 134, 3) := by decide +kernel
theorem dX12_laysNames_8 : decode cX12_laysNames 8 = .ok (.ifCond .eq 4, 3) := by decide +kernel
theorem dX12_laysNames_11 : decode cX12_laysNames 11 = .ok (.return_, 1) := by decide +kernel
theorem dX12_laysNames_12 : decode cX12_laysNames 12 = .ok (.aload_n 0, 1) := by decide +kernel
theorem dX12_laysNames_13 : decode cX12_laysNames 13 = .ok (.iconst 1, 1) := by decide +kernel
theorem dX12_laysNames_14 : decode cX12_laysNames 14 = .ok (.putfield 134, 3) := by decide +kernel
theorem dX12_laysNames_17 : decode cX12_laysNames 17 = .ok (.iconst 0, 1) := by decide +kernel
theorem dX12_laysNames_18 : decode cX12_laysNames 18 = .ok (.istore_n 1, 1) := by decide +kernel
theorem dX12_laysNames_19 : decode cX12_laysNames 19 = .ok (.iload_n 1, 1) := by decide +kernel
theorem dX12_laysNames_20 : decode cX12_laysNames 20 = .ok (.aload_n 0, 1) := by decide +kernel
theorem dX12_laysNames_21 : decode cX12_laysNames 21 = .ok (.getfield 172, 3) := by decide +kernel
theorem dX12_laysNames_24 : decode cX12_laysNames 24 = .ok (.if_icmp .ge 54, 3) := by decide +kernel
theorem dX12_laysNames_27 : decode cX12_laysNames 27 = .ok (.aload_n 0, 1) := by decide +kernel
theorem dX12_laysNames_28 : decode cX12_laysNames 28 = .ok (.iload_n 1, 1) := by decide +kernel
theorem dX12_laysNames_29 : decode cX12_laysNames 29 = .ok (.invokevirtual 249, 3) := by decide +kernel
theorem dX12_laysNames_32 : decode cX12_laysNames 32 = .ok (.aload_n 0, 1) := by decide +kernel
theorem dX12_laysNames_33 : decode cX12_laysNames 33 = .ok (.getfield 44, 3) := by decide +kernel
theorem dX12_laysNames_36 : decode cX12_laysNames 36 = .ok (.aload_n 0, 1) := by decide +kernel
theorem dX12_laysNames_37 : decode cX12_laysNames 37 = .ok (.getfield 197, 3) := by decide +kernel
theorem dX12_laysNames_40 : decode cX12_laysNames 40 = .ok (.invokestatic 209, 3) := by decide +kernel
theorem dX12_laysNames_43 : decode cX12_laysNames 43 = .ok (.aload_n 0, 1) := by decide +kernel
theorem dX12_laysNames_44 : decode cX12_laysNames 44 = .ok (.getfield 53, 3) := by decide +kernel
theorem dX12_laysNames_47 : decode cX12_laysNames 47 = .ok (.iload_n 1, 1) := by decide +kernel
theorem dX12_laysNames_48 : decode cX12_laysNames 48 = .ok (.aload_n 0, 1) := by decide +kernel
theorem dX12_laysNames_49 : decode cX12_laysNames 49 = .ok (.getfield 44, 3) := by decide +kernel
theorem dX12_laysNames_52 : decode cX12_laysNames 52 = .ok (.aload_n 0, 1) := by decide +kernel
theorem dX12_laysNames_53 : decode cX12_laysNames 53 = .ok (.getfield 197, 3) := by decide +kernel
theorem dX12_laysNames_56 : decode cX12_laysNames 56 = .ok (.invokestatic 213, 3) := by decide +kernel
theorem dX12_laysNames_59 : decode cX12_laysNames 59 = .ok (.lastore, 1) := by decide +kernel
theorem dX12_laysNames_60 : decode cX12_laysNames 60 = .ok (.aload_n 0, 1) := by decide +kernel
theorem dX12_laysNames_61 : decode cX12_laysNames 61 = .ok (.getfield 57, 3) := by decide +kernel
theorem dX12_laysNames_64 : decode cX12_laysNames 64 = .ok (.iload_n 1, 1) := by decide +kernel
theorem dX12_laysNames_65 : decode cX12_laysNames 65 = .ok (.aload_n 0, 1) := by decide +kernel
theorem dX12_laysNames_66 : decode cX12_laysNames 66 = .ok (.getfield 53, 3) := by decide +kernel
theorem dX12_laysNames_69 : decode cX12_laysNames 69 = .ok (.iload_n 1, 1) := by decide +kernel
theorem dX12_laysNames_70 : decode cX12_laysNames 70 = .ok (.laload, 1) := by decide +kernel
theorem dX12_laysNames_71 : decode cX12_laysNames 71 = .ok (.lastore, 1) := by decide +kernel
theorem dX12_laysNames_72 : decode cX12_laysNames 72 = .ok (.iinc 1 1, 3) := by decide +kernel
theorem dX12_laysNames_75 : decode cX12_laysNames 75 = .ok (.goto (-56), 3) := by decide +kernel
theorem dX12_laysNames_78 : decode cX12_laysNames 78 = .ok (.aload_n 0, 1) := by decide +kernel
theorem dX12_laysNames_79 : decode cX12_laysNames 79 = .ok (.aload_n 0, 1) := by decide +kernel
theorem dX12_laysNames_80 : decode cX12_laysNames 80 = .ok (.getfield 57, 3) := by decide +kernel
theorem dX12_laysNames_83 : decode cX12_laysNames 83 = .ok (.aload_n 0, 1) := by decide +kernel
theorem dX12_laysNames_84 : decode cX12_laysNames 84 = .ok (.getfield 172, 3) := by decide +kernel
theorem dX12_laysNames_87 : decode cX12_laysNames 87 = .ok (.invokestatic 252, 3) := by decide +kernel
theorem dX12_laysNames_90 : decode cX12_laysNames 90 = .ok (.putfield 255, 3) := by decide +kernel
theorem dX12_laysNames_93 : decode cX12_laysNames 93 = .ok (.iconst 0, 1) := by decide +kernel
theorem dX12_laysNames_94 : decode cX12_laysNames 94 = .ok (.istore_n 1, 1) := by decide +kernel
theorem dX12_laysNames_95 : decode cX12_laysNames 95 = .ok (.iload_n 1, 1) := by decide +kernel
theorem dX12_laysNames_96 : decode cX12_laysNames 96 = .ok (.aload_n 0, 1) := by decide +kernel
theorem dX12_laysNames_97 : decode cX12_laysNames 97 = .ok (.getfield 255, 3) := by decide +kernel
theorem dX12_laysNames_100 : decode cX12_laysNames 100 = .ok (.if_icmp .ge 50, 3) := by decide +kernel
theorem dX12_laysNames_103 : decode cX12_laysNames 103 = .ok (.aload_n 0, 1) := by decide +kernel
theorem dX12_laysNames_104 : decode cX12_laysNames 104 = .ok (.aload_n 0, 1) := by decide +kernel
theorem dX12_laysNames_105 : decode cX12_laysNames 105 = .ok (.getfield 57, 3) := by decide +kernel
theorem dX12_laysNames_108 : decode cX12_laysNames 108 = .ok (.iload_n 1, 1) := by decide +kernel
theorem dX12_laysNames_109 : decode cX12_laysNames 109 = .ok (.laload, 1) := by decide +kernel
theorem dX12_laysNames_110 : decode cX12_laysNames 110 = .ok (.aload_n 0, 1) := by decide +kernel
theorem dX12_laysNames_111 : decode cX12_laysNames 111 = .ok (.getfield 124, 3) := by decide +kernel
theorem dX12_laysNames_114 : decode cX12_laysNames 114 = .ok (.iconst 2, 1) := by decide +kernel
theorem dX12_laysNames_115 : decode cX12_laysNames 115 = .ok (.idiv, 1) := by decide +kernel
theorem dX12_laysNames_116 : decode cX12_laysNames 116 = .ok (.invokevirtual 258, 3) := by decide +kernel
theorem dX12_laysNames_119 : decode cX12_laysNames 119 = .ok (.aload_n 0, 1) := by decide +kernel
theorem dX12_laysNames_120 : decode cX12_laysNames 120 = .ok (.getfield 60, 3) := by decide +kernel
theorem dX12_laysNames_123 : decode cX12_laysNames 123 = .ok (.iload_n 1, 1) := by decide +kernel
theorem dX12_laysNames_124 : decode cX12_laysNames 124 = .ok (.aload_n 0, 1) := by decide +kernel
theorem dX12_laysNames_125 : decode cX12_laysNames 125 = .ok (.ldc2_w 241, 3) := by decide +kernel
theorem dX12_laysNames_128 : decode cX12_laysNames 128 = .ok (.invokevirtual 262, 3) := by decide +kernel
theorem dX12_laysNames_131 : decode cX12_laysNames 131 = .ok (.lastore, 1) := by decide +kernel
theorem dX12_laysNames_132 : decode cX12_laysNames 132 = .ok (.aload_n 0, 1) := by decide +kernel
theorem dX12_laysNames_133 : decode cX12_laysNames 133 = .ok (.getfield 63, 3) := by decide +kernel
theorem dX12_laysNames_136 : decode cX12_laysNames 136 = .ok (.iload_n 1, 1) := by decide +kernel
theorem dX12_laysNames_137 : decode cX12_laysNames 137 = .ok (.aload_n 0, 1) := by decide +kernel
theorem dX12_laysNames_138 : decode cX12_laysNames 138 = .ok (.getfield 60, 3) := by decide +kernel
theorem dX12_laysNames_141 : decode cX12_laysNames 141 = .ok (.iload_n 1, 1) := by decide +kernel
theorem dX12_laysNames_142 : decode cX12_laysNames 142 = .ok (.laload, 1) := by decide +kernel
theorem dX12_laysNames_143 : decode cX12_laysNames 143 = .ok (.lastore, 1) := by decide +kernel
theorem dX12_laysNames_144 : decode cX12_laysNames 144 = .ok (.iinc 1 1, 3) := by decide +kernel
theorem dX12_laysNames_147 : decode cX12_laysNames 147 = .ok (.goto (-52), 3) := by decide +kernel
theorem dX12_laysNames_150 : decode cX12_laysNames 150 = .ok (.aload_n 0, 1) := by decide +kernel
theorem dX12_laysNames_151 : decode cX12_laysNames 151 = .ok (.aload_n 0, 1) := by decide +kernel
theorem dX12_laysNames_152 : decode cX12_laysNames 152 = .ok (.getfield 63, 3) := by decide +kernel
theorem dX12_laysNames_155 : decode cX12_laysNames 155 = .ok (.aload_n 0, 1) := by decide +kernel
theorem dX12_laysNames_156 : decode cX12_laysNames 156 = .ok (.getfield 255, 3) := by decide +kernel
theorem dX12_laysNames_159 : decode cX12_laysNames 159 = .ok (.invokestatic 252, 3) := by decide +kernel
theorem dX12_laysNames_162 : decode cX12_laysNames 162 = .ok (.putfield 266, 3) := by decide +kernel
theorem dX12_laysNames_165 : decode cX12_laysNames 165 = .ok (.iconst 0, 1) := by decide +kernel
theorem dX12_laysNames_166 : decode cX12_laysNames 166 = .ok (.istore_n 1, 1) := by decide +kernel
theorem dX12_laysNames_167 : decode cX12_laysNames 167 = .ok (.iload_n 1, 1) := by decide +kernel
theorem dX12_laysNames_168 : decode cX12_laysNames 168 = .ok (.aload_n 0, 1) := by decide +kernel
theorem dX12_laysNames_169 : decode cX12_laysNames 169 = .ok (.getfield 172, 3) := by decide +kernel
theorem dX12_laysNames_172 : decode cX12_laysNames 172 = .ok (.if_icmp .ge 48, 3) := by decide +kernel
theorem dX12_laysNames_175 : decode cX12_laysNames 175 = .ok (.aload_n 0, 1) := by decide +kernel
theorem dX12_laysNames_176 : decode cX12_laysNames 176 = .ok (.getfield 38, 3) := by decide +kernel
theorem dX12_laysNames_179 : decode cX12_laysNames 179 = .ok (.iload_n 1, 1) := by decide +kernel
theorem dX12_laysNames_180 : decode cX12_laysNames 180 = .ok (.aload_n 0, 1) := by decide +kernel
theorem dX12_laysNames_181 : decode cX12_laysNames 181 = .ok (.getfield 63, 3) := by decide +kernel
theorem dX12_laysNames_184 : decode cX12_laysNames 184 = .ok (.aload_n 0, 1) := by decide +kernel
theorem dX12_laysNames_185 : decode cX12_laysNames 185 = .ok (.getfield 266, 3) := by decide +kernel
theorem dX12_laysNames_188 : decode cX12_laysNames 188 = .ok (.aload_n 0, 1) := by decide +kernel
theorem dX12_laysNames_189 : decode cX12_laysNames 189 = .ok (.getfield 60, 3) := by decide +kernel
theorem dX12_laysNames_192 : decode cX12_laysNames 192 = .ok (.aload_n 0, 1) := by decide +kernel
theorem dX12_laysNames_193 : decode cX12_laysNames 193 = .ok (.getfield 57, 3) := by decide +kernel
theorem dX12_laysNames_196 : decode cX12_laysNames 196 = .ok (.aload_n 0, 1) := by decide +kernel
theorem dX12_laysNames_197 : decode cX12_laysNames 197 = .ok (.getfield 255, 3) := by decide +kernel
theorem dX12_laysNames_200 : decode cX12_laysNames 200 = .ok (.aload_n 0, 1) := by decide +kernel
theorem dX12_laysNames_201 : decode cX12_laysNames 201 = .ok (.getfield 53, 3) := by decide +kernel
theorem dX12_laysNames_204 : decode cX12_laysNames 204 = .ok (.iload_n 1, 1) := by decide +kernel
theorem dX12_laysNames_205 : decode cX12_laysNames 205 = .ok (.laload, 1) := by decide +kernel
theorem dX12_laysNames_206 : decode cX12_laysNames 206 = .ok (.invokestatic 269, 3) := by decide +kernel
theorem dX12_laysNames_209 : decode cX12_laysNames 209 = .ok (.laload, 1) := by decide +kernel
theorem dX12_laysNames_210 : decode cX12_laysNames 210 = .ok (.invokestatic 269, 3) := by decide +kernel
theorem dX12_laysNames_213 : decode cX12_laysNames 213 = .ok (.iastore, 1) := by decide +kernel
theorem dX12_laysNames_214 : decode cX12_laysNames 214 = .ok (.iinc 1 1, 3) := by decide +kernel
theorem dX12_laysNames_217 : decode cX12_laysNames 217 = .ok (.goto (-50), 3) := by decide +kernel
theorem dX12_laysNames_220 : decode cX12_laysNames 220 = .ok (.return_, 1) := by decide +kernel
theorem dX12_isDiagram_0 : decode cX12_isDiagram 0 = .ok (.aload_n 0, 1) := by decide +kernel
theorem dX12_isDiagram_1 : decode cX12_isDiagram 1 = .ok (.invokevirtual 273, 3) := by decide +kernel
theorem dX12_isDiagram_4 : decode cX12_isDiagram 4 = .ok (.iload_n 1, 1) := by decide +kernel
theorem dX12_isDiagram_5 : decode cX12_isDiagram 5 = .ok (.iconst 0, 1) := by decide +kernel
theorem dX12_isDiagram_6 : decode cX12_isDiagram 6 = .ok (.aload_n 0, 1) := by decide +kernel
theorem dX12_isDiagram_7 : decode cX12_isDiagram 7 = .ok (.getfield 266, 3) := by decide +kernel
theorem dX12_isDiagram_10 : decode cX12_isDiagram 10 = .ok (.iconst 1, 1) := by decide +kernel
theorem dX12_isDiagram_11 : decode cX12_isDiagram 11 = .ok (.isub, 1) := by decide +kernel
theorem dX12_isDiagram_12 : decode cX12_isDiagram 12 = .ok (.invokestatic 140, 3) := by decide +kernel
theorem dX12_isDiagram_15 : decode cX12_isDiagram 15 = .ok (.ireturn, 1) := by decide +kernel
theorem dX12_opens_0 : decode cX12_opens 0 = .ok (.aload_n 0, 1) := by decide +kernel
theorem dX12_opens_1 : decode cX12_opens 1 = .ok (.aload_n 0, 1) := by decide +kernel
theorem dX12_opens_2 : decode cX12_opens 2 = .ok (.getfield 63, 3) := by decide +kernel
theorem dX12_opens_5 : decode cX12_opens 5 = .ok (.iload_n 1, 1) := by decide +kernel
theorem dX12_opens_6 : decode cX12_opens 6 = .ok (.laload, 1) := by decide +kernel
theorem dX12_opens_7 : decode cX12_opens 7 = .ok (.aload_n 0, 1) := by decide +kernel
theorem dX12_opens_8 : decode cX12_opens 8 = .ok (.getfield 124, 3) := by decide +kernel
theorem dX12_opens_11 : decode cX12_opens 11 = .ok (.iconst 2, 1) := by decide +kernel
theorem dX12_opens_12 : decode cX12_opens 12 = .ok (.idiv, 1) := by decide +kernel
theorem dX12_opens_13 : decode cX12_opens 13 = .ok (.invokevirtual 258, 3) := by decide +kernel
theorem dX12_opens_16 : decode cX12_opens 16 = .ok (.return_, 1) := by decide +kernel
theorem dX12_fromOf_0 : decode cX12_fromOf 0 = .ok (.aload_n 0, 1) := by decide +kernel
theorem dX12_fromOf_1 : decode cX12_fromOf 1 = .ok (.getfield 44, 3) := by decide +kernel
theorem dX12_fromOf_4 : decode cX12_fromOf 4 = .ok (.iload_n 1, 1) := by decide +kernel
theorem dX12_fromOf_5 : decode cX12_fromOf 5 = .ok (.iaload, 1) := by decide +kernel
theorem dX12_fromOf_6 : decode cX12_fromOf 6 = .ok (.bipush 100, 2) := by decide +kernel
theorem dX12_fromOf_8 : decode cX12_fromOf 8 = .ok (.idiv, 1) := by decide +kernel
theorem dX12_fromOf_9 : decode cX12_fromOf 9 = .ok (.ireturn, 1) := by decide +kernel
theorem dX12_toOf_0 : decode cX12_toOf 0 = .ok (.aload_n 0, 1) := by decide +kernel
theorem dX12_toOf_1 : decode cX12_toOf 1 = .ok (.getfield 44, 3) := by decide +kernel
theorem dX12_toOf_4 : decode cX12_toOf 4 = .ok (.iload_n 1, 1) := by decide +kernel
theorem dX12_toOf_5 : decode cX12_toOf 5 = .ok (.iaload, 1) := by decide +kernel
theorem dX12_toOf_6 : decode cX12_toOf 6 = .ok (.bipush 10, 2) := by decide +kernel
theorem dX12_toOf_8 : decode cX12_toOf 8 = .ok (.idiv, 1) := by decide +kernel
theorem dX12_toOf_9 : decode cX12_toOf 9 = .ok (.bipush 10, 2) := by decide +kernel
theorem dX12_toOf_11 : decode cX12_toOf 11 = .ok (.irem, 1) := by decide +kernel
theorem dX12_toOf_12 : decode cX12_toOf 12 = .ok (.ireturn, 1) := by decide +kernel
theorem dX12_reached_0 : decode cX12_reached 0 = .ok (.iconst 1, 1) := by decide +kernel
theorem dX12_reached_1 : decode cX12_reached 1 = .ok (.iload_n 1, 1) := by decide +kernel
theorem dX12_reached_2 : decode cX12_reached 2 = .ok (.ishl, 1) := by decide +kernel
theorem dX12_reached_3 : decode cX12_reached 3 = .ok (.istore 4, 2) := by decide +kernel
theorem dX12_reached_5 : decode cX12_reached 5 = .ok (.iconst 0, 1) := by decide +kernel
theorem dX12_reached_6 : decode cX12_reached 6 = .ok (.istore 5, 2) := by decide +kernel
theorem dX12_reached_8 : decode cX12_reached 8 = .ok (.iload 5, 2) := by decide +kernel
theorem dX12_reached_10 : decode cX12_reached 10 = .ok (.iload 4, 2) := by decide +kernel
theorem dX12_reached_12 : decode cX12_reached 12 = .ok (.if_icmp .eq 107, 3) := by decide +kernel
theorem dX12_reached_15 : decode cX12_reached 15 = .ok (.iload 4, 2) := by decide +kernel
theorem dX12_reached_17 : decode cX12_reached 17 = .ok (.istore 5, 2) := by decide +kernel
theorem dX12_reached_19 : decode cX12_reached 19 = .ok (.iconst 0, 1) := by decide +kernel
theorem dX12_reached_20 : decode cX12_reached 20 = .ok (.istore 6, 2) := by decide +kernel
theorem dX12_reached_22 : decode cX12_reached 22 = .ok (.iload 6, 2) := by decide +kernel
theorem dX12_reached_24 : decode cX12_reached 24 = .ok (.aload_n 0, 1) := by decide +kernel
theorem dX12_reached_25 : decode cX12_reached 25 = .ok (.getfield 197, 3) := by decide +kernel
theorem dX12_reached_28 : decode cX12_reached 28 = .ok (.if_icmp .ge 88, 3) := by decide +kernel
theorem dX12_reached_31 : decode cX12_reached 31 = .ok (.iload 6, 2) := by decide +kernel
theorem dX12_reached_33 : decode cX12_reached 33 = .ok (.iload_n 2, 1) := by decide +kernel
theorem dX12_reached_34 : decode cX12_reached 34 = .ok (.if_icmp .eq 76, 3) := by decide +kernel
theorem dX12_reached_37 : decode cX12_reached 37 = .ok (.aload_n 0, 1) := by decide +kernel
theorem dX12_reached_38 : decode cX12_reached 38 = .ok (.iload 6, 2) := by decide +kernel
theorem dX12_reached_40 : decode cX12_reached 40 = .ok (.invokevirtual 276, 3) := by decide +kernel
theorem dX12_reached_43 : decode cX12_reached 43 = .ok (.iload_n 3, 1) := by decide +kernel
theorem dX12_reached_44 : decode cX12_reached 44 = .ok (.if_icmp .eq 66, 3) := by decide +kernel
theorem dX12_reached_47 : decode cX12_reached 47 = .ok (.aload_n 0, 1) := by decide +kernel
theorem dX12_reached_48 : decode cX12_reached 48 = .ok (.iload 6, 2) := by decide +kernel
theorem dX12_reached_50 : decode cX12_reached 50 = .ok (.invokevirtual 279, 3) := by decide +kernel
theorem dX12_reached_53 : decode cX12_reached 53 = .ok (.iload_n 3, 1) := by decide +kernel
theorem dX12_reached_54 : decode cX12_reached 54 = .ok (.if_icmp .ne 6, 3) := by decide +kernel
theorem dX12_reached_57 : decode cX12_reached 57 = .ok (.goto 53, 3) := by decide +kernel
theorem dX12_reached_60 : decode cX12_reached 60 = .ok (.iload 4, 2) := by decide +kernel
theorem dX12_reached_62 : decode cX12_reached 62 = .ok (.aload_n 0, 1) := by decide +kernel
theorem dX12_reached_63 : decode cX12_reached 63 = .ok (.iload 6, 2) := by decide +kernel
theorem dX12_reached_65 : decode cX12_reached 65 = .ok (.invokevirtual 276, 3) := by decide +kernel
theorem dX12_reached_68 : decode cX12_reached 68 = .ok (.invokestatic 158, 3) := by decide +kernel
theorem dX12_reached_71 : decode cX12_reached 71 = .ok (.ifCond .ne 17, 3) := by decide +kernel
theorem dX12_reached_74 : decode cX12_reached 74 = .ok (.iload 4, 2) := by decide +kernel
theorem dX12_reached_76 : decode cX12_reached 76 = .ok (.aload_n 0, 1) := by decide +kernel
theorem dX12_reached_77 : decode cX12_reached 77 = .ok (.iload 6, 2) := by decide +kernel
theorem dX12_reached_79 : decode cX12_reached 79 = .ok (.invokevirtual 279, 3) := by decide +kernel
theorem dX12_reached_82 : decode cX12_reached 82 = .ok (.invokestatic 158, 3) := by decide +kernel
theorem dX12_reached_85 : decode cX12_reached 85 = .ok (.ifCond .eq 25, 3) := by decide +kernel
theorem dX12_reached_88 : decode cX12_reached 88 = .ok (.iload 4, 2) := by decide +kernel
theorem dX12_reached_90 : decode cX12_reached 90 = .ok (.iconst 1, 1) := by decide +kernel
theorem dX12_reached_91 : decode cX12_reached 91 = .ok (.aload_n 0, 1) := by decide +kernel
theorem dX12_reached_92 : decode cX12_reached 92 = .ok (.iload 6, 2) := by decide +kernel
theorem dX12_reached_94 : decode cX12_reached 94 = .ok (.invokevirtual 276, 3) := by decide +kernel
theorem dX12_reached_97 : decode cX12_reached 97 = .ok (.ishl, 1) := by decide +kernel
theorem dX12_reached_98 : decode cX12_reached 98 = .ok (.iconst 1, 1) := by decide +kernel
theorem dX12_reached_99 : decode cX12_reached 99 = .ok (.aload_n 0, 1) := by decide +kernel
theorem dX12_reached_100 : decode cX12_reached 100 = .ok (.iload 6, 2) := by decide +kernel
theorem dX12_reached_102 : decode cX12_reached 102 = .ok (.invokevirtual 279, 3) := by decide +kernel
theorem dX12_reached_105 : decode cX12_reached 105 = .ok (.ishl, 1) := by decide +kernel
theorem dX12_reached_106 : decode cX12_reached 106 = .ok (.ior, 1) := by decide +kernel
theorem dX12_reached_107 : decode cX12_reached 107 = .ok (.ior, 1) := by decide +kernel
theorem dX12_reached_108 : decode cX12_reached 108 = .ok (.istore 4, 2) := by decide +kernel
theorem dX12_reached_110 : decode cX12_reached 110 = .ok (.iinc 6 1, 3) := by decide +kernel
theorem dX12_reached_113 : decode cX12_reached 113 = .ok (.goto (-91), 3) := by decide +kernel
theorem dX12_reached_116 : decode cX12_reached 116 = .ok (.goto (-108), 3) := by decide +kernel
theorem dX12_reached_119 : decode cX12_reached 119 = .ok (.iload 4, 2) := by decide +kernel
theorem dX12_reached_121 : decode cX12_reached 121 = .ok (.ireturn, 1) := by decide +kernel
theorem dX12_partsOf_0 : decode cX12_partsOf 0 = .ok (.iload_n 1, 1) := by decide +kernel
theorem dX12_partsOf_1 : decode cX12_partsOf 1 = .ok (.istore_n 3, 1) := by decide +kernel
theorem dX12_partsOf_2 : decode cX12_partsOf 2 = .ok (.iconst 0, 1) := by decide +kernel
theorem dX12_partsOf_3 : decode cX12_partsOf 3 = .ok (.istore 4, 2) := by decide +kernel
theorem dX12_partsOf_5 : decode cX12_partsOf 5 = .ok (.iconst 0, 1) := by decide +kernel
theorem dX12_partsOf_6 : decode cX12_partsOf 6 = .ok (.istore 5, 2) := by decide +kernel
theorem dX12_partsOf_8 : decode cX12_partsOf 8 = .ok (.iload 5, 2) := by decide +kernel
theorem dX12_partsOf_10 : decode cX12_partsOf 10 = .ok (.bipush 8, 2) := by decide +kernel
theorem dX12_partsOf_12 : decode cX12_partsOf 12 = .ok (.if_icmp .ge 37, 3) := by decide +kernel
theorem dX12_partsOf_15 : decode cX12_partsOf 15 = .ok (.iload_n 3, 1) := by decide +kernel
theorem dX12_partsOf_16 : decode cX12_partsOf 16 = .ok (.iload 5, 2) := by decide +kernel
theorem dX12_partsOf_18 : decode cX12_partsOf 18 = .ok (.invokestatic 158, 3) := by decide +kernel
theorem dX12_partsOf_21 : decode cX12_partsOf 21 = .ok (.ifCond .ne 6, 3) := by decide +kernel
theorem dX12_partsOf_24 : decode cX12_partsOf 24 = .ok (.goto 19, 3) := by decide +kernel
theorem dX12_partsOf_27 : decode cX12_partsOf 27 = .ok (.iinc 4 1, 3) := by decide +kernel
theorem dX12_partsOf_30 : decode cX12_partsOf 30 = .ok (.iload_n 3, 1) := by decide +kernel
theorem dX12_partsOf_31 : decode cX12_partsOf 31 = .ok (.aload_n 0, 1) := by decide +kernel
theorem dX12_partsOf_32 : decode cX12_partsOf 32 = .ok (.iload 5, 2) := by decide +kernel
theorem dX12_partsOf_34 : decode cX12_partsOf 34 = .ok (.iload_n 2, 1) := by decide +kernel
theorem dX12_partsOf_35 : decode cX12_partsOf 35 = .ok (.iconst (-1), 1) := by decide +kernel
theorem dX12_partsOf_36 : decode cX12_partsOf 36 = .ok (.invokevirtual 282, 3) := by decide +kernel
theorem dX12_partsOf_39 : decode cX12_partsOf 39 = .ok (.iconst (-1), 1) := by decide +kernel
theorem dX12_partsOf_40 : decode cX12_partsOf 40 = .ok (.ixor, 1) := by decide +kernel
theorem dX12_partsOf_41 : decode cX12_partsOf 41 = .ok (.iand, 1) := by decide +kernel
theorem dX12_partsOf_42 : decode cX12_partsOf 42 = .ok (.istore_n 3, 1) := by decide +kernel
theorem dX12_partsOf_43 : decode cX12_partsOf 43 = .ok (.iinc 5 1, 3) := by decide +kernel
theorem dX12_partsOf_46 : decode cX12_partsOf 46 = .ok (.goto (-38), 3) := by decide +kernel
theorem dX12_partsOf_49 : decode cX12_partsOf 49 = .ok (.iload 4, 2) := by decide +kernel
theorem dX12_partsOf_51 : decode cX12_partsOf 51 = .ok (.ireturn, 1) := by decide +kernel
theorem dX12_allPoints_0 : decode cX12_allPoints 0 = .ok (.iconst 1, 1) := by decide +kernel
theorem dX12_allPoints_1 : decode cX12_allPoints 1 = .ok (.aload_n 0, 1) := by decide +kernel
theorem dX12_allPoints_2 : decode cX12_allPoints 2 = .ok (.getfield 7, 3) := by decide +kernel
theorem dX12_allPoints_5 : decode cX12_allPoints 5 = .ok (.iconst 2, 1) := by decide +kernel
theorem dX12_allPoints_6 : decode cX12_allPoints 6 = .ok (.iaload, 1) := by decide +kernel
theorem dX12_allPoints_7 : decode cX12_allPoints 7 = .ok (.ishl, 1) := by decide +kernel
theorem dX12_allPoints_8 : decode cX12_allPoints 8 = .ok (.iconst 1, 1) := by decide +kernel
theorem dX12_allPoints_9 : decode cX12_allPoints 9 = .ok (.isub, 1) := by decide +kernel
theorem dX12_allPoints_10 : decode cX12_allPoints 10 = .ok (.ireturn, 1) := by decide +kernel
theorem dX12_outerPoints_0 : decode cX12_outerPoints 0 = .ok (.iconst 0, 1) := by decide +kernel
theorem dX12_outerPoints_1 : decode cX12_outerPoints 1 = .ok (.istore_n 1, 1) := by decide +kernel
theorem dX12_outerPoints_2 : decode cX12_outerPoints 2 = .ok (.iconst 0, 1) := by decide +kernel
theorem dX12_outerPoints_3 : decode cX12_outerPoints 3 = .ok (.istore_n 2, 1) := by decide +kernel
theorem dX12_outerPoints_4 : decode cX12_outerPoints 4 = .ok (.iload_n 2, 1) := by decide +kernel
theorem dX12_outerPoints_5 : decode cX12_outerPoints 5 = .ok (.aload_n 0, 1) := by decide +kernel
theorem dX12_outerPoints_6 : decode cX12_outerPoints 6 = .ok (.getfield 7, 3) := by decide +kernel
theorem dX12_outerPoints_9 : decode cX12_outerPoints 9 = .ok (.iconst 2, 1) := by decide +kernel
theorem dX12_outerPoints_10 : decode cX12_outerPoints 10 = .ok (.iaload, 1) := by decide +kernel
theorem dX12_outerPoints_11 : decode cX12_outerPoints 11 = .ok (.if_icmp .ge 27, 3) := by decide +kernel
theorem dX12_outerPoints_14 : decode cX12_outerPoints 14 = .ok (.iload_n 1, 1) := by decide +kernel
theorem dX12_outerPoints_15 : decode cX12_outerPoints 15 = .ok (.aload_n 0, 1) := by decide +kernel
theorem dX12_outerPoints_16 : decode cX12_outerPoints 16 = .ok (.iload_n 2, 1) := by decide +kernel
theorem dX12_outerPoints_17 : decode cX12_outerPoints 17 = .ok (.invokevirtual 217, 3) := by decide +kernel
theorem dX12_outerPoints_20 : decode cX12_outerPoints 20 = .ok (.ifCond .eq 7, 3) := by decide +kernel
theorem dX12_outerPoints_23 : decode cX12_outerPoints 23 = .ok (.iconst 0, 1) := by decide +kernel
theorem dX12_outerPoints_24 : decode cX12_outerPoints 24 = .ok (.goto 6, 3) := by decide +kernel
theorem dX12_outerPoints_27 : decode cX12_outerPoints 27 = .ok (.iconst 1, 1) := by decide +kernel
theorem dX12_outerPoints_28 : decode cX12_outerPoints 28 = .ok (.iload_n 2, 1) := by decide +kernel
theorem dX12_outerPoints_29 : decode cX12_outerPoints 29 = .ok (.ishl, 1) := by decide +kernel
theorem dX12_outerPoints_30 : decode cX12_outerPoints 30 = .ok (.ior, 1) := by decide +kernel
theorem dX12_outerPoints_31 : decode cX12_outerPoints 31 = .ok (.istore_n 1, 1) := by decide +kernel
theorem dX12_outerPoints_32 : decode cX12_outerPoints 32 = .ok (.iinc 2 1, 3) := by decide +kernel
theorem dX12_outerPoints_35 : decode cX12_outerPoints 35 = .ok (.goto (-31), 3) := by decide +kernel
theorem dX12_outerPoints_38 : decode cX12_outerPoints 38 = .ok (.iload_n 1, 1) := by decide +kernel
theorem dX12_outerPoints_39 : decode cX12_outerPoints 39 = .ok (.ireturn, 1) := by decide +kernel
theorem dX12_lost_0 : decode cX12_lost 0 = .ok (.iconst 0, 1) := by decide +kernel
theorem dX12_lost_1 : decode cX12_lost 1 = .ok (.istore_n 2, 1) := by decide +kernel
theorem dX12_lost_2 : decode cX12_lost 2 = .ok (.iconst 0, 1) := by decide +kernel
theorem dX12_lost_3 : decode cX12_lost 3 = .ok (.istore_n 3, 1) := by decide +kernel
theorem dX12_lost_4 : decode cX12_lost 4 = .ok (.iload_n 3, 1) := by decide +kernel
theorem dX12_lost_5 : decode cX12_lost 5 = .ok (.bipush 8, 2) := by decide +kernel
theorem dX12_lost_7 : decode cX12_lost 7 = .ok (.if_icmp .ge 38, 3) := by decide +kernel
theorem dX12_lost_10 : decode cX12_lost 10 = .ok (.iload_n 1, 1) := by decide +kernel
theorem dX12_lost_11 : decode cX12_lost 11 = .ok (.iload_n 3, 1) := by decide +kernel
theorem dX12_lost_12 : decode cX12_lost 12 = .ok (.invokestatic 158, 3) := by decide +kernel
theorem dX12_lost_15 : decode cX12_lost 15 = .ok (.ifCond .eq 24, 3) := by decide +kernel
theorem dX12_lost_18 : decode cX12_lost 18 = .ok (.aload_n 0, 1) := by decide +kernel
theorem dX12_lost_19 : decode cX12_lost 19 = .ok (.iload_n 3, 1) := by decide +kernel
theorem dX12_lost_20 : decode cX12_lost 20 = .ok (.iconst (-1), 1) := by decide +kernel
theorem dX12_lost_21 : decode cX12_lost 21 = .ok (.iconst (-1), 1) := by decide +kernel
theorem dX12_lost_22 : decode cX12_lost 22 = .ok (.invokevirtual 282, 3) := by decide +kernel
theorem dX12_lost_25 : decode cX12_lost 25 = .ok (.aload_n 0, 1) := by decide +kernel
theorem dX12_lost_26 : decode cX12_lost 26 = .ok (.invokevirtual 286, 3) := by decide +kernel
theorem dX12_lost_29 : decode cX12_lost 29 = .ok (.iand, 1) := by decide +kernel
theorem dX12_lost_30 : decode cX12_lost 30 = .ok (.ifCond .ne 9, 3) := by decide +kernel
theorem dX12_lost_33 : decode cX12_lost 33 = .ok (.iload_n 2, 1) := by decide +kernel
theorem dX12_lost_34 : decode cX12_lost 34 = .ok (.iconst 1, 1) := by decide +kernel
theorem dX12_lost_35 : decode cX12_lost 35 = .ok (.iload_n 3, 1) := by decide +kernel
theorem dX12_lost_36 : decode cX12_lost 36 = .ok (.ishl, 1) := by decide +kernel
theorem dX12_lost_37 : decode cX12_lost 37 = .ok (.ior, 1) := by decide +kernel
theorem dX12_lost_38 : decode cX12_lost 38 = .ok (.istore_n 2, 1) := by decide +kernel
theorem dX12_lost_39 : decode cX12_lost 39 = .ok (.iinc 3 1, 3) := by decide +kernel
theorem dX12_lost_42 : decode cX12_lost 42 = .ok (.goto (-38), 3) := by decide +kernel
theorem dX12_lost_45 : decode cX12_lost 45 = .ok (.iload_n 2, 1) := by decide +kernel
theorem dX12_lost_46 : decode cX12_lost 46 = .ok (.ireturn, 1) := by decide +kernel
theorem dX12_bits_0 : decode cX12_bits 0 = .ok (.iconst 0, 1) := by decide +kernel
theorem dX12_bits_1 : decode cX12_bits 1 = .ok (.istore_n 1, 1) := by decide +kernel
theorem dX12_bits_2 : decode cX12_bits 2 = .ok (.iload_n 0, 1) := by decide +kernel
theorem dX12_bits_3 : decode cX12_bits 3 = .ok (.istore_n 2, 1) := by decide +kernel
theorem dX12_bits_4 : decode cX12_bits 4 = .ok (.iload_n 2, 1) := by decide +kernel
theorem dX12_bits_5 : decode cX12_bits 5 = .ok (.ifCond .eq 15, 3) := by decide +kernel
theorem dX12_bits_8 : decode cX12_bits 8 = .ok (.iinc 1 1, 3) := by decide +kernel
theorem dX12_bits_11 : decode cX12_bits 11 = .ok (.iload_n 2, 1) := by decide +kernel
theorem dX12_bits_12 : decode cX12_bits 12 = .ok (.iload_n 2, 1) := by decide +kernel
theorem dX12_bits_13 : decode cX12_bits 13 = .ok (.iconst 1, 1) := by decide +kernel
theorem dX12_bits_14 : decode cX12_bits 14 = .ok (.isub, 1) := by decide +kernel
theorem dX12_bits_15 : decode cX12_bits 15 = .ok (.iand, 1) := by decide +kernel
theorem dX12_bits_16 : decode cX12_bits 16 = .ok (.istore_n 2, 1) := by decide +kernel
theorem dX12_bits_17 : decode cX12_bits 17 = .ok (.goto (-13), 3) := by decide +kernel
theorem dX12_bits_20 : decode cX12_bits 20 = .ok (.iload_n 1, 1) := by decide +kernel
theorem dX12_bits_21 : decode cX12_bits 21 = .ok (.ireturn, 1) := by decide +kernel
theorem dX12_signs_0 : decode cX12_signs 0 = .ok (.iconst 0, 1) := by decide +kernel
theorem dX12_signs_1 : decode cX12_signs 1 = .ok (.istore_n 1, 1) := by decide +kernel
theorem dX12_signs_2 : decode cX12_signs 2 = .ok (.iconst 0, 1) := by decide +kernel
theorem dX12_signs_3 : decode cX12_signs 3 = .ok (.istore_n 2, 1) := by decide +kernel
theorem dX12_signs_4 : decode cX12_signs 4 = .ok (.iload_n 2, 1) := by decide +kernel
theorem dX12_signs_5 : decode cX12_signs 5 = .ok (.aload_n 0, 1) := by decide +kernel
theorem dX12_signs_6 : decode cX12_signs 6 = .ok (.getfield 172, 3) := by decide +kernel
theorem dX12_signs_9 : decode cX12_signs 9 = .ok (.if_icmp .ge 18, 3) := by decide +kernel
theorem dX12_signs_12 : decode cX12_signs 12 = .ok (.iload_n 1, 1) := by decide +kernel
theorem dX12_signs_13 : decode cX12_signs 13 = .ok (.aload_n 0, 1) := by decide +kernel
theorem dX12_signs_14 : decode cX12_signs 14 = .ok (.getfield 29, 3) := by decide +kernel
theorem dX12_signs_17 : decode cX12_signs 17 = .ok (.iload_n 2, 1) := by decide +kernel
theorem dX12_signs_18 : decode cX12_signs 18 = .ok (.iaload, 1) := by decide +kernel
theorem dX12_signs_19 : decode cX12_signs 19 = .ok (.iadd, 1) := by decide +kernel
theorem dX12_signs_20 : decode cX12_signs 20 = .ok (.istore_n 1, 1) := by decide +kernel
theorem dX12_signs_21 : decode cX12_signs 21 = .ok (.iinc 2 1, 3) := by decide +kernel
theorem dX12_signs_24 : decode cX12_signs 24 = .ok (.goto (-20), 3) := by decide +kernel
theorem dX12_signs_27 : decode cX12_signs 27 = .ok (.iload_n 1, 1) := by decide +kernel
theorem dX12_signs_28 : decode cX12_signs 28 = .ok (.ireturn, 1) := by decide +kernel
theorem dX12_uncrossed_0 : decode cX12_uncrossed 0 = .ok (.iconst 0, 1) := by decide +kernel
theorem dX12_uncrossed_1 : decode cX12_uncrossed 1 = .ok (.istore_n 1, 1) := by decide +kernel
theorem dX12_uncrossed_2 : decode cX12_uncrossed 2 = .ok (.iconst 0, 1) := by decide +kernel
theorem dX12_uncrossed_3 : decode cX12_uncrossed 3 = .ok (.istore_n 2, 1) := by decide +kernel
theorem dX12_uncrossed_4 : decode cX12_uncrossed 4 = .ok (.iload_n 2, 1) := by decide +kernel
theorem dX12_uncrossed_5 : decode cX12_uncrossed 5 = .ok (.aload_n 0, 1) := by decide +kernel
theorem dX12_uncrossed_6 : decode cX12_uncrossed 6 = .ok (.getfield 172, 3) := by decide +kernel
theorem dX12_uncrossed_9 : decode cX12_uncrossed 9 = .ok (.if_icmp .ge 26, 3) := by decide +kernel
theorem dX12_uncrossed_12 : decode cX12_uncrossed 12 = .ok (.iload_n 1, 1) := by decide +kernel
theorem dX12_uncrossed_13 : decode cX12_uncrossed 13 = .ok (.aload_n 0, 1) := by decide +kernel
theorem dX12_uncrossed_14 : decode cX12_uncrossed 14 = .ok (.getfield 32, 3) := by decide +kernel
theorem dX12_uncrossed_17 : decode cX12_uncrossed 17 = .ok (.iload_n 2, 1) := by decide +kernel
theorem dX12_uncrossed_18 : decode cX12_uncrossed 18 = .ok (.iaload, 1) := by decide +kernel
theorem dX12_uncrossed_19 : decode cX12_uncrossed 19 = .ok (.ifCond .ne 7, 3) := by decide +kernel
theorem dX12_uncrossed_22 : decode cX12_uncrossed 22 = .ok (.iconst 1, 1) := by decide +kernel
theorem dX12_uncrossed_23 : decode cX12_uncrossed 23 = .ok (.goto 4, 3) := by decide +kernel
theorem dX12_uncrossed_26 : decode cX12_uncrossed 26 = .ok (.iconst 0, 1) := by decide +kernel
theorem dX12_uncrossed_27 : decode cX12_uncrossed 27 = .ok (.iadd, 1) := by decide +kernel
theorem dX12_uncrossed_28 : decode cX12_uncrossed 28 = .ok (.istore_n 1, 1) := by decide +kernel
theorem dX12_uncrossed_29 : decode cX12_uncrossed 29 = .ok (.iinc 2 1, 3) := by decide +kernel
theorem dX12_uncrossed_32 : decode cX12_uncrossed 32 = .ok (.goto (-28), 3) := by decide +kernel
theorem dX12_uncrossed_35 : decode cX12_uncrossed 35 = .ok (.iload_n 1, 1) := by decide +kernel
theorem dX12_uncrossed_36 : decode cX12_uncrossed 36 = .ok (.ireturn, 1) := by decide +kernel
theorem dX12_isLinked_0 : decode cX12_isLinked 0 = .ok (.aload_n 0, 1) := by decide +kernel
theorem dX12_isLinked_1 : decode cX12_isLinked 1 = .ok (.iload_n 1, 1) := by decide +kernel
theorem dX12_isLinked_2 : decode cX12_isLinked 2 = .ok (.invokevirtual 289, 3) := by decide +kernel
theorem dX12_isLinked_5 : decode cX12_isLinked 5 = .ok (.aload_n 0, 1) := by decide +kernel
theorem dX12_isLinked_6 : decode cX12_isLinked 6 = .ok (.aload_n 0, 1) := by decide +kernel
theorem dX12_isLinked_7 : decode cX12_isLinked 7 = .ok (.invokevirtual 292, 3) := by decide +kernel
theorem dX12_isLinked_10 : decode cX12_isLinked 10 = .ok (.invokevirtual 295, 3) := by decide +kernel
theorem dX12_isLinked_13 : decode cX12_isLinked 13 = .ok (.ifCond .ne 7, 3) := by decide +kernel
theorem dX12_isLinked_16 : decode cX12_isLinked 16 = .ok (.iconst 1, 1) := by decide +kernel
theorem dX12_isLinked_17 : decode cX12_isLinked 17 = .ok (.goto 4, 3) := by decide +kernel
theorem dX12_isLinked_20 : decode cX12_isLinked 20 = .ok (.iconst 0, 1) := by decide +kernel
theorem dX12_isLinked_21 : decode cX12_isLinked 21 = .ok (.ireturn, 1) := by decide +kernel
theorem dX12_isConnected_0 : decode cX12_isConnected 0 = .ok (.aload_n 0, 1) := by decide +kernel
theorem dX12_isConnected_1 : decode cX12_isConnected 1 = .ok (.iload_n 1, 1) := by decide +kernel
theorem dX12_isConnected_2 : decode cX12_isConnected 2 = .ok (.invokevirtual 289, 3) := by decide +kernel
theorem dX12_isConnected_5 : decode cX12_isConnected 5 = .ok (.aload_n 0, 1) := by decide +kernel
theorem dX12_isConnected_6 : decode cX12_isConnected 6 = .ok (.aload_n 0, 1) := by decide +kernel
theorem dX12_isConnected_7 : decode cX12_isConnected 7 = .ok (.invokevirtual 292, 3) := by decide +kernel
theorem dX12_isConnected_10 : decode cX12_isConnected 10 = .ok (.iconst (-1), 1) := by decide +kernel
theorem dX12_isConnected_11 : decode cX12_isConnected 11 = .ok (.invokevirtual 298, 3) := by decide +kernel
theorem dX12_isConnected_14 : decode cX12_isConnected 14 = .ok (.iconst 1, 1) := by decide +kernel
theorem dX12_isConnected_15 : decode cX12_isConnected 15 = .ok (.if_icmp .ne 7, 3) := by decide +kernel
theorem dX12_isConnected_18 : decode cX12_isConnected 18 = .ok (.iconst 1, 1) := by decide +kernel
theorem dX12_isConnected_19 : decode cX12_isConnected 19 = .ok (.goto 4, 3) := by decide +kernel
theorem dX12_isConnected_22 : decode cX12_isConnected 22 = .ok (.iconst 0, 1) := by decide +kernel
theorem dX12_isConnected_23 : decode cX12_isConnected 23 = .ok (.ireturn, 1) := by decide +kernel
theorem dX12_manySuch_0 : decode cX12_manySuch 0 = .ok (.aload_n 0, 1) := by decide +kernel
theorem dX12_manySuch_1 : decode cX12_manySuch 1 = .ok (.invokevirtual 273, 3) := by decide +kernel
theorem dX12_manySuch_4 : decode cX12_manySuch 4 = .ok (.iconst 0, 1) := by decide +kernel
theorem dX12_manySuch_5 : decode cX12_manySuch 5 = .ok (.istore_n 3, 1) := by decide +kernel
theorem dX12_manySuch_6 : decode cX12_manySuch 6 = .ok (.iconst 0, 1) := by decide +kernel
theorem dX12_manySuch_7 : decode cX12_manySuch 7 = .ok (.istore 4, 2) := by decide +kernel
theorem dX12_manySuch_9 : decode cX12_manySuch 9 = .ok (.iload 4, 2) := by decide +kernel
theorem dX12_manySuch_11 : decode cX12_manySuch 11 = .ok (.aload_n 0, 1) := by decide +kernel
theorem dX12_manySuch_12 : decode cX12_manySuch 12 = .ok (.getfield 266, 3) := by decide +kernel
theorem dX12_manySuch_15 : decode cX12_manySuch 15 = .ok (.if_icmp .ge 51, 3) := by decide +kernel
theorem dX12_manySuch_18 : decode cX12_manySuch 18 = .ok (.iload_n 1, 1) := by decide +kernel
theorem dX12_manySuch_19 : decode cX12_manySuch 19 = .ok (.ifCond .eq 15, 3) := by decide +kernel
theorem dX12_manySuch_22 : decode cX12_manySuch 22 = .ok (.aload_n 0, 1) := by decide +kernel
theorem dX12_manySuch_23 : decode cX12_manySuch 23 = .ok (.iload 4, 2) := by decide +kernel
theorem dX12_manySuch_25 : decode cX12_manySuch 25 = .ok (.invokevirtual 301, 3) := by decide +kernel
theorem dX12_manySuch_28 : decode cX12_manySuch 28 = .ok (.ifCond .eq 32, 3) := by decide +kernel
theorem dX12_manySuch_31 : decode cX12_manySuch 31 = .ok (.goto 12, 3) := by decide +kernel
theorem dX12_manySuch_34 : decode cX12_manySuch 34 = .ok (.aload_n 0, 1) := by decide +kernel
theorem dX12_manySuch_35 : decode cX12_manySuch 35 = .ok (.iload 4, 2) := by decide +kernel
theorem dX12_manySuch_37 : decode cX12_manySuch 37 = .ok (.invokevirtual 304, 3) := by decide +kernel
theorem dX12_manySuch_40 : decode cX12_manySuch 40 = .ok (.ifCond .eq 20, 3) := by decide +kernel
theorem dX12_manySuch_43 : decode cX12_manySuch 43 = .ok (.iload_n 3, 1) := by decide +kernel
theorem dX12_manySuch_44 : decode cX12_manySuch 44 = .ok (.iload_n 2, 1) := by decide +kernel
theorem dX12_manySuch_45 : decode cX12_manySuch 45 = .ok (.ifCond .eq 7, 3) := by decide +kernel
theorem dX12_manySuch_48 : decode cX12_manySuch 48 = .ok (.iconst 1, 1) := by decide +kernel
theorem dX12_manySuch_49 : decode cX12_manySuch 49 = .ok (.goto 9, 3) := by decide +kernel
theorem dX12_manySuch_52 : decode cX12_manySuch 52 = .ok (.aload_n 0, 1) := by decide +kernel
theorem dX12_manySuch_53 : decode cX12_manySuch 53 = .ok (.iload 4, 2) := by decide +kernel
theorem dX12_manySuch_55 : decode cX12_manySuch 55 = .ok (.invokevirtual 307, 3) := by decide +kernel
theorem dX12_manySuch_58 : decode cX12_manySuch 58 = .ok (.iadd, 1) := by decide +kernel
theorem dX12_manySuch_59 : decode cX12_manySuch 59 = .ok (.istore_n 3, 1) := by decide +kernel
theorem dX12_manySuch_60 : decode cX12_manySuch 60 = .ok (.iinc 4 1, 3) := by decide +kernel
theorem dX12_manySuch_63 : decode cX12_manySuch 63 = .ok (.goto (-54), 3) := by decide +kernel
theorem dX12_manySuch_66 : decode cX12_manySuch 66 = .ok (.iload_n 3, 1) := by decide +kernel
theorem dX12_manySuch_67 : decode cX12_manySuch 67 = .ok (.ireturn, 1) := by decide +kernel
theorem dX12_countOf_0 : decode cX12_countOf 0 = .ok (.iconst 0, 1) := by decide +kernel
theorem dX12_countOf_1 : decode cX12_countOf 1 = .ok (.istore_n 2, 1) := by decide +kernel
theorem dX12_countOf_2 : decode cX12_countOf 2 = .ok (.iconst 0, 1) := by decide +kernel
theorem dX12_countOf_3 : decode cX12_countOf 3 = .ok (.istore_n 3, 1) := by decide +kernel
theorem dX12_countOf_4 : decode cX12_countOf 4 = .ok (.iload_n 3, 1) := by decide +kernel
theorem dX12_countOf_5 : decode cX12_countOf 5 = .ok (.aload_n 0, 1) := by decide +kernel
theorem dX12_countOf_6 : decode cX12_countOf 6 = .ok (.getfield 172, 3) := by decide +kernel
theorem dX12_countOf_9 : decode cX12_countOf 9 = .ok (.if_icmp .ge 27, 3) := by decide +kernel
theorem dX12_countOf_12 : decode cX12_countOf 12 = .ok (.iload_n 2, 1) := by decide +kernel
theorem dX12_countOf_13 : decode cX12_countOf 13 = .ok (.aload_n 0, 1) := by decide +kernel
theorem dX12_countOf_14 : decode cX12_countOf 14 = .ok (.getfield 38, 3) := by decide +kernel
theorem dX12_countOf_17 : decode cX12_countOf 17 = .ok (.iload_n 3, 1) := by decide +kernel
theorem dX12_countOf_18 : decode cX12_countOf 18 = .ok (.iaload, 1) := by decide +kernel
theorem dX12_countOf_19 : decode cX12_countOf 19 = .ok (.iload_n 1, 1) := by decide +kernel
theorem dX12_countOf_20 : decode cX12_countOf 20 = .ok (.if_icmp .ne 7, 3) := by decide +kernel
theorem dX12_countOf_23 : decode cX12_countOf 23 = .ok (.iconst 1, 1) := by decide +kernel
theorem dX12_countOf_24 : decode cX12_countOf 24 = .ok (.goto 4, 3) := by decide +kernel
theorem dX12_countOf_27 : decode cX12_countOf 27 = .ok (.iconst 0, 1) := by decide +kernel
theorem dX12_countOf_28 : decode cX12_countOf 28 = .ok (.iadd, 1) := by decide +kernel
theorem dX12_countOf_29 : decode cX12_countOf 29 = .ok (.istore_n 2, 1) := by decide +kernel
theorem dX12_countOf_30 : decode cX12_countOf 30 = .ok (.iinc 3 1, 3) := by decide +kernel
theorem dX12_countOf_33 : decode cX12_countOf 33 = .ok (.goto (-29), 3) := by decide +kernel
theorem dX12_countOf_36 : decode cX12_countOf 36 = .ok (.iload_n 2, 1) := by decide +kernel
theorem dX12_countOf_37 : decode cX12_countOf 37 = .ok (.ireturn, 1) := by decide +kernel
theorem dX12_diagramMany_0 : decode cX12_diagramMany 0 = .ok (.aload_n 0, 1) := by decide +kernel
theorem dX12_diagramMany_1 : decode cX12_diagramMany 1 = .ok (.invokevirtual 273, 3) := by decide +kernel
theorem dX12_diagramMany_4 : decode cX12_diagramMany 4 = .ok (.aload_n 0, 1) := by decide +kernel
theorem dX12_diagramMany_5 : decode cX12_diagramMany 5 = .ok (.getfield 266, 3) := by decide +kernel
theorem dX12_diagramMany_8 : decode cX12_diagramMany 8 = .ok (.ireturn, 1) := by decide +kernel
theorem dX12_many_0 : decode cX12_many 0 = .ok (.aload_n 0, 1) := by decide +kernel
theorem dX12_many_1 : decode cX12_many 1 = .ok (.iload_n 1, 1) := by decide +kernel
theorem dX12_many_2 : decode cX12_many 2 = .ok (.iconst 0, 1) := by decide +kernel
theorem dX12_many_3 : decode cX12_many 3 = .ok (.bipush 12, 2) := by decide +kernel
theorem dX12_many_5 : decode cX12_many 5 = .ok (.invokestatic 140, 3) := by decide +kernel
theorem dX12_many_8 : decode cX12_many 8 = .ok (.ifCond .eq 7, 3) := by decide +kernel
theorem dX12_many_11 : decode cX12_many 11 = .ok (.iconst 0, 1) := by decide +kernel
theorem dX12_many_12 : decode cX12_many 12 = .ok (.goto 4, 3) := by decide +kernel
theorem dX12_many_15 : decode cX12_many 15 = .ok (.iconst 1, 1) := by decide +kernel
theorem dX12_many_16 : decode cX12_many 16 = .ok (.invokevirtual 310, 3) := by decide +kernel
theorem dX12_many_19 : decode cX12_many 19 = .ok (.ifCond .ne 5, 3) := by decide +kernel
theorem dX12_many_22 : decode cX12_many 22 = .ok (.iconst (-1), 1) := by decide +kernel
theorem dX12_many_23 : decode cX12_many 23 = .ok (.ireturn, 1) := by decide +kernel
theorem dX12_many_24 : decode cX12_many 24 = .ok (.aload_n 0, 1) := by decide +kernel
theorem dX12_many_25 : decode cX12_many 25 = .ok (.invokevirtual 194, 3) := by decide +kernel
theorem dX12_many_28 : decode cX12_many 28 = .ok (.iload_n 1, 1) := by decide +kernel
theorem dX12_many_29 : decode cX12_many 29 = .ok (.tableswitch 96 0 10 #[59, 59, 59, 66, 71, 76, 81, 86, 96, 96, 91], 59) := by decide +kernel
theorem dX12_many_88 : decode cX12_many 88 = .ok (.aload_n 0, 1) := by decide +kernel
theorem dX12_many_89 : decode cX12_many 89 = .ok (.getfield 7, 3) := by decide +kernel
theorem dX12_many_92 : decode cX12_many 92 = .ok (.iload_n 1, 1) := by decide +kernel
theorem dX12_many_93 : decode cX12_many 93 = .ok (.iaload, 1) := by decide +kernel
theorem dX12_many_94 : decode cX12_many 94 = .ok (.ireturn, 1) := by decide +kernel
theorem dX12_many_95 : decode cX12_many 95 = .ok (.aload_n 0, 1) := by decide +kernel
theorem dX12_many_96 : decode cX12_many 96 = .ok (.invokevirtual 313, 3) := by decide +kernel
theorem dX12_many_99 : decode cX12_many 99 = .ok (.ireturn, 1) := by decide +kernel
theorem dX12_many_100 : decode cX12_many 100 = .ok (.aload_n 0, 1) := by decide +kernel
theorem dX12_many_101 : decode cX12_many 101 = .ok (.getfield 124, 3) := by decide +kernel
theorem dX12_many_104 : decode cX12_many 104 = .ok (.ireturn, 1) := by decide +kernel
theorem dX12_many_105 : decode cX12_many 105 = .ok (.aload_n 0, 1) := by decide +kernel
theorem dX12_many_106 : decode cX12_many 106 = .ok (.getfield 172, 3) := by decide +kernel
theorem dX12_many_109 : decode cX12_many 109 = .ok (.ireturn, 1) := by decide +kernel
theorem dX12_many_110 : decode cX12_many 110 = .ok (.aload_n 0, 1) := by decide +kernel
theorem dX12_many_111 : decode cX12_many 111 = .ok (.invokevirtual 316, 3) := by decide +kernel
theorem dX12_many_114 : decode cX12_many 114 = .ok (.ireturn, 1) := by decide +kernel
theorem dX12_many_115 : decode cX12_many 115 = .ok (.aload_n 0, 1) := by decide +kernel
theorem dX12_many_116 : decode cX12_many 116 = .ok (.invokevirtual 319, 3) := by decide +kernel
theorem dX12_many_119 : decode cX12_many 119 = .ok (.ireturn, 1) := by decide +kernel
theorem dX12_many_120 : decode cX12_many 120 = .ok (.aload_n 0, 1) := by decide +kernel
theorem dX12_many_121 : decode cX12_many 121 = .ok (.invokevirtual 322, 3) := by decide +kernel
theorem dX12_many_124 : decode cX12_many 124 = .ok (.ireturn, 1) := by decide +kernel
theorem dX12_many_125 : decode cX12_many 125 = .ok (.aload_n 0, 1) := by decide +kernel
theorem dX12_many_126 : decode cX12_many 126 = .ok (.iload_n 1, 1) := by decide +kernel
theorem dX12_many_127 : decode cX12_many 127 = .ok (.bipush 9, 2) := by decide +kernel
theorem dX12_many_129 : decode cX12_many 129 = .ok (.if_icmp .eq 9, 3) := by decide +kernel
theorem dX12_many_132 : decode cX12_many 132 = .ok (.iload_n 1, 1) := by decide +kernel
theorem dX12_many_133 : decode cX12_many 133 = .ok (.bipush 12, 2) := by decide +kernel
theorem dX12_many_135 : decode cX12_many 135 = .ok (.if_icmp .ne 7, 3) := by decide +kernel
theorem dX12_many_138 : decode cX12_many 138 = .ok (.iconst 1, 1) := by decide +kernel
theorem dX12_many_139 : decode cX12_many 139 = .ok (.goto 4, 3) := by decide +kernel
theorem dX12_many_142 : decode cX12_many 142 = .ok (.iconst 0, 1) := by decide +kernel
theorem dX12_many_143 : decode cX12_many 143 = .ok (.iload_n 1, 1) := by decide +kernel
theorem dX12_many_144 : decode cX12_many 144 = .ok (.bipush 10, 2) := by decide +kernel
theorem dX12_many_146 : decode cX12_many 146 = .ok (.if_icmp .le 7, 3) := by decide +kernel
theorem dX12_many_149 : decode cX12_many 149 = .ok (.iconst 1, 1) := by decide +kernel
theorem dX12_many_150 : decode cX12_many 150 = .ok (.goto 4, 3) := by decide +kernel
theorem dX12_many_153 : decode cX12_many 153 = .ok (.iconst 0, 1) := by decide +kernel
theorem dX12_many_154 : decode cX12_many 154 = .ok (.invokevirtual 325, 3) := by decide +kernel
theorem dX12_many_157 : decode cX12_many 157 = .ok (.ireturn, 1) := by decide +kernel
theorem dX12_letter_0 : decode cX12_letter 0 = .ok (.aload_n 0, 1) := by decide +kernel
theorem dX12_letter_1 : decode cX12_letter 1 = .ok (.iload_n 2, 1) := by decide +kernel
theorem dX12_letter_2 : decode cX12_letter 2 = .ok (.iconst 0, 1) := by decide +kernel
theorem dX12_letter_3 : decode cX12_letter 3 = .ok (.iconst 3, 1) := by decide +kernel
theorem dX12_letter_4 : decode cX12_letter 4 = .ok (.invokestatic 140, 3) := by decide +kernel
theorem dX12_letter_7 : decode cX12_letter 7 = .ok (.ifCond .ne 7, 3) := by decide +kernel
theorem dX12_letter_10 : decode cX12_letter 10 = .ok (.iconst 1, 1) := by decide +kernel
theorem dX12_letter_11 : decode cX12_letter 11 = .ok (.goto 16, 3) := by decide +kernel
theorem dX12_letter_14 : decode cX12_letter 14 = .ok (.aload_n 0, 1) := by decide +kernel
theorem dX12_letter_15 : decode cX12_letter 15 = .ok (.iload_n 1, 1) := by decide +kernel
theorem dX12_letter_16 : decode cX12_letter 16 = .ok (.invokevirtual 329, 3) := by decide +kernel
theorem dX12_letter_19 : decode cX12_letter 19 = .ok (.ifCond .eq 7, 3) := by decide +kernel
theorem dX12_letter_22 : decode cX12_letter 22 = .ok (.iconst 0, 1) := by decide +kernel
theorem dX12_letter_23 : decode cX12_letter 23 = .ok (.goto 4, 3) := by decide +kernel
theorem dX12_letter_26 : decode cX12_letter 26 = .ok (.iconst 2, 1) := by decide +kernel
theorem dX12_letter_27 : decode cX12_letter 27 = .ok (.invokevirtual 310, 3) := by decide +kernel
theorem dX12_letter_30 : decode cX12_letter 30 = .ok (.ifCond .ne 5, 3) := by decide +kernel
theorem dX12_letter_33 : decode cX12_letter 33 = .ok (.iconst (-1), 1) := by decide +kernel
theorem dX12_letter_34 : decode cX12_letter 34 = .ok (.ireturn, 1) := by decide +kernel
theorem dX12_letter_35 : decode cX12_letter 35 = .ok (.iload_n 2, 1) := by decide +kernel
theorem dX12_letter_36 : decode cX12_letter 36 = .ok (.iconst 3, 1) := by decide +kernel
theorem dX12_letter_37 : decode cX12_letter 37 = .ok (.if_icmp .ge 41, 3) := by decide +kernel
theorem dX12_letter_40 : decode cX12_letter 40 = .ok (.iload_n 2, 1) := by decide +kernel
theorem dX12_letter_41 : decode cX12_letter 41 = .ok (.ifCond .ne 14, 3) := by decide +kernel
theorem dX12_letter_44 : decode cX12_letter 44 = .ok (.aload_n 0, 1) := by decide +kernel
theorem dX12_letter_45 : decode cX12_letter 45 = .ok (.getfield 19, 3) := by decide +kernel
theorem dX12_letter_48 : decode cX12_letter 48 = .ok (.iload_n 1, 1) := by decide +kernel
theorem dX12_letter_49 : decode cX12_letter 49 = .ok (.iaload, 1) := by decide +kernel
theorem dX12_letter_50 : decode cX12_letter 50 = .ok (.iconst 2, 1) := by decide +kernel
theorem dX12_letter_51 : decode cX12_letter 51 = .ok (.idiv, 1) := by decide +kernel
theorem dX12_letter_52 : decode cX12_letter 52 = .ok (.goto 25, 3) := by decide +kernel
theorem dX12_letter_55 : decode cX12_letter 55 = .ok (.iload_n 2, 1) := by decide +kernel
theorem dX12_letter_56 : decode cX12_letter 56 = .ok (.iconst 1, 1) := by decide +kernel
theorem dX12_letter_57 : decode cX12_letter 57 = .ok (.if_icmp .ne 14, 3) := by decide +kernel
theorem dX12_letter_60 : decode cX12_letter 60 = .ok (.aload_n 0, 1) := by decide +kernel
theorem dX12_letter_61 : decode cX12_letter 61 = .ok (.getfield 19, 3) := by decide +kernel
theorem dX12_letter_64 : decode cX12_letter 64 = .ok (.iload_n 1, 1) := by decide +kernel
theorem dX12_letter_65 : decode cX12_letter 65 = .ok (.iaload, 1) := by decide +kernel
theorem dX12_letter_66 : decode cX12_letter 66 = .ok (.iconst 2, 1) := by decide +kernel
theorem dX12_letter_67 : decode cX12_letter 67 = .ok (.irem, 1) := by decide +kernel
theorem dX12_letter_68 : decode cX12_letter 68 = .ok (.goto 9, 3) := by decide +kernel
theorem dX12_letter_71 : decode cX12_letter 71 = .ok (.aload_n 0, 1) := by decide +kernel
theorem dX12_letter_72 : decode cX12_letter 72 = .ok (.getfield 22, 3) := by decide +kernel
theorem dX12_letter_75 : decode cX12_letter 75 = .ok (.iload_n 1, 1) := by decide +kernel
theorem dX12_letter_76 : decode cX12_letter 76 = .ok (.iaload, 1) := by decide +kernel
theorem dX12_letter_77 : decode cX12_letter 77 = .ok (.ireturn, 1) := by decide +kernel
theorem dX12_letter_78 : decode cX12_letter 78 = .ok (.iconst 0, 1) := by decide +kernel
theorem dX12_letter_79 : decode cX12_letter 79 = .ok (.istore_n 3, 1) := by decide +kernel
theorem dX12_letter_80 : decode cX12_letter 80 = .ok (.iconst 0, 1) := by decide +kernel
theorem dX12_letter_81 : decode cX12_letter 81 = .ok (.istore 4, 2) := by decide +kernel
theorem dX12_letter_83 : decode cX12_letter 83 = .ok (.iload 4, 2) := by decide +kernel
theorem dX12_letter_85 : decode cX12_letter 85 = .ok (.aload_n 0, 1) := by decide +kernel
theorem dX12_letter_86 : decode cX12_letter 86 = .ok (.getfield 124, 3) := by decide +kernel
theorem dX12_letter_89 : decode cX12_letter 89 = .ok (.if_icmp .ge 27, 3) := by decide +kernel
theorem dX12_letter_92 : decode cX12_letter 92 = .ok (.iload_n 3, 1) := by decide +kernel
theorem dX12_letter_93 : decode cX12_letter 93 = .ok (.aload_n 0, 1) := by decide +kernel
theorem dX12_letter_94 : decode cX12_letter 94 = .ok (.iload_n 1, 1) := by decide +kernel
theorem dX12_letter_95 : decode cX12_letter 95 = .ok (.iload 4, 2) := by decide +kernel
theorem dX12_letter_97 : decode cX12_letter 97 = .ok (.invokevirtual 184, 3) := by decide +kernel
theorem dX12_letter_100 : decode cX12_letter 100 = .ok (.ifCond .eq 7, 3) := by decide +kernel
theorem dX12_letter_103 : decode cX12_letter 103 = .ok (.iconst 1, 1) := by decide +kernel
theorem dX12_letter_104 : decode cX12_letter 104 = .ok (.goto 4, 3) := by decide +kernel
theorem dX12_letter_107 : decode cX12_letter 107 = .ok (.iconst 0, 1) := by decide +kernel
theorem dX12_letter_108 : decode cX12_letter 108 = .ok (.iadd, 1) := by decide +kernel
theorem dX12_letter_109 : decode cX12_letter 109 = .ok (.istore_n 3, 1) := by decide +kernel
theorem dX12_letter_110 : decode cX12_letter 110 = .ok (.iinc 4 1, 3) := by decide +kernel
theorem dX12_letter_113 : decode cX12_letter 113 = .ok (.goto (-30), 3) := by decide +kernel
theorem dX12_letter_116 : decode cX12_letter 116 = .ok (.iload_n 3, 1) := by decide +kernel
theorem dX12_letter_117 : decode cX12_letter 117 = .ok (.ireturn, 1) := by decide +kernel
theorem dX12_field_0 : decode cX12_field 0 = .ok (.aload_n 0, 1) := by decide +kernel
theorem dX12_field_1 : decode cX12_field 1 = .ok (.iload_n 2, 1) := by decide +kernel
theorem dX12_field_2 : decode cX12_field 2 = .ok (.iconst 0, 1) := by decide +kernel
theorem dX12_field_3 : decode cX12_field 3 = .ok (.iconst 2, 1) := by decide +kernel
theorem dX12_field_4 : decode cX12_field 4 = .ok (.invokestatic 140, 3) := by decide +kernel
theorem dX12_field_7 : decode cX12_field 7 = .ok (.ifCond .ne 7, 3) := by decide +kernel
theorem dX12_field_10 : decode cX12_field 10 = .ok (.iconst 1, 1) := by decide +kernel
theorem dX12_field_11 : decode cX12_field 11 = .ok (.goto 24, 3) := by decide +kernel
theorem dX12_field_14 : decode cX12_field 14 = .ok (.iload_n 1, 1) := by decide +kernel
theorem dX12_field_15 : decode cX12_field 15 = .ok (.iconst 0, 1) := by decide +kernel
theorem dX12_field_16 : decode cX12_field 16 = .ok (.aload_n 0, 1) := by decide +kernel
theorem dX12_field_17 : decode cX12_field 17 = .ok (.getfield 7, 3) := by decide +kernel
theorem dX12_field_20 : decode cX12_field 20 = .ok (.iconst 0, 1) := by decide +kernel
theorem dX12_field_21 : decode cX12_field 21 = .ok (.iaload, 1) := by decide +kernel
theorem dX12_field_22 : decode cX12_field 22 = .ok (.iconst 1, 1) := by decide +kernel
theorem dX12_field_23 : decode cX12_field 23 = .ok (.isub, 1) := by decide +kernel
theorem dX12_field_24 : decode cX12_field 24 = .ok (.invokestatic 140, 3) := by decide +kernel
theorem dX12_field_27 : decode cX12_field 27 = .ok (.ifCond .eq 7, 3) := by decide +kernel
theorem dX12_field_30 : decode cX12_field 30 = .ok (.iconst 0, 1) := by decide +kernel
theorem dX12_field_31 : decode cX12_field 31 = .ok (.goto 4, 3) := by decide +kernel
theorem dX12_field_34 : decode cX12_field 34 = .ok (.iconst 2, 1) := by decide +kernel
theorem dX12_field_35 : decode cX12_field 35 = .ok (.invokevirtual 310, 3) := by decide +kernel
theorem dX12_field_38 : decode cX12_field 38 = .ok (.ifCond .ne 5, 3) := by decide +kernel
theorem dX12_field_41 : decode cX12_field 41 = .ok (.iconst (-1), 1) := by decide +kernel
theorem dX12_field_42 : decode cX12_field 42 = .ok (.ireturn, 1) := by decide +kernel
theorem dX12_field_43 : decode cX12_field 43 = .ok (.aload_n 0, 1) := by decide +kernel
theorem dX12_field_44 : decode cX12_field 44 = .ok (.getfield 7, 3) := by decide +kernel
theorem dX12_field_47 : decode cX12_field 47 = .ok (.iconst 4, 1) := by decide +kernel
theorem dX12_field_48 : decode cX12_field 48 = .ok (.iconst 3, 1) := by decide +kernel
theorem dX12_field_49 : decode cX12_field 49 = .ok (.iload_n 1, 1) := by decide +kernel
theorem dX12_field_50 : decode cX12_field 50 = .ok (.imul, 1) := by decide +kernel
theorem dX12_field_51 : decode cX12_field 51 = .ok (.iadd, 1) := by decide +kernel
theorem dX12_field_52 : decode cX12_field 52 = .ok (.iload_n 2, 1) := by decide +kernel
theorem dX12_field_53 : decode cX12_field 53 = .ok (.iadd, 1) := by decide +kernel
theorem dX12_field_54 : decode cX12_field 54 = .ok (.iaload, 1) := by decide +kernel
theorem dX12_field_55 : decode cX12_field 55 = .ok (.ireturn, 1) := by decide +kernel
theorem dX12_alikeTo_0 : decode cX12_alikeTo 0 = .ok (.iconst 0, 1) := by decide +kernel
theorem dX12_alikeTo_1 : decode cX12_alikeTo 1 = .ok (.istore_n 2, 1) := by decide +kernel
theorem dX12_alikeTo_2 : decode cX12_alikeTo 2 = .ok (.iconst 0, 1) := by decide +kernel
theorem dX12_alikeTo_3 : decode cX12_alikeTo 3 = .ok (.istore_n 3, 1) := by decide +kernel
theorem dX12_alikeTo_4 : decode cX12_alikeTo 4 = .ok (.iload_n 3, 1) := by decide +kernel
theorem dX12_alikeTo_5 : decode cX12_alikeTo 5 = .ok (.aload_n 0, 1) := by decide +kernel
theorem dX12_alikeTo_6 : decode cX12_alikeTo 6 = .ok (.getfield 7, 3) := by decide +kernel
theorem dX12_alikeTo_9 : decode cX12_alikeTo 9 = .ok (.iconst 2, 1) := by decide +kernel
theorem dX12_alikeTo_10 : decode cX12_alikeTo 10 = .ok (.iaload, 1) := by decide +kernel
theorem dX12_alikeTo_11 : decode cX12_alikeTo 11 = .ok (.if_icmp .ge 26, 3) := by decide +kernel
theorem dX12_alikeTo_14 : decode cX12_alikeTo 14 = .ok (.iload_n 2, 1) := by decide +kernel
theorem dX12_alikeTo_15 : decode cX12_alikeTo 15 = .ok (.aload_n 0, 1) := by decide +kernel
theorem dX12_alikeTo_16 : decode cX12_alikeTo 16 = .ok (.iload_n 1, 1) := by decide +kernel
theorem dX12_alikeTo_17 : decode cX12_alikeTo 17 = .ok (.iload_n 3, 1) := by decide +kernel
theorem dX12_alikeTo_18 : decode cX12_alikeTo 18 = .ok (.invokevirtual 234, 3) := by decide +kernel
theorem dX12_alikeTo_21 : decode cX12_alikeTo 21 = .ok (.ifCond .eq 7, 3) := by decide +kernel
theorem dX12_alikeTo_24 : decode cX12_alikeTo 24 = .ok (.iconst 1, 1) := by decide +kernel
theorem dX12_alikeTo_25 : decode cX12_alikeTo 25 = .ok (.goto 4, 3) := by decide +kernel
theorem dX12_alikeTo_28 : decode cX12_alikeTo 28 = .ok (.iconst 0, 1) := by decide +kernel
theorem dX12_alikeTo_29 : decode cX12_alikeTo 29 = .ok (.iadd, 1) := by decide +kernel
theorem dX12_alikeTo_30 : decode cX12_alikeTo 30 = .ok (.istore_n 2, 1) := by decide +kernel
theorem dX12_alikeTo_31 : decode cX12_alikeTo 31 = .ok (.iinc 3 1, 3) := by decide +kernel
theorem dX12_alikeTo_34 : decode cX12_alikeTo 34 = .ok (.goto (-30), 3) := by decide +kernel
theorem dX12_alikeTo_37 : decode cX12_alikeTo 37 = .ok (.iload_n 2, 1) := by decide +kernel
theorem dX12_alikeTo_38 : decode cX12_alikeTo 38 = .ok (.ireturn, 1) := by decide +kernel
theorem dX12_firstOf_0 : decode cX12_firstOf 0 = .ok (.iconst 0, 1) := by decide +kernel
theorem dX12_firstOf_1 : decode cX12_firstOf 1 = .ok (.istore_n 2, 1) := by decide +kernel
theorem dX12_firstOf_2 : decode cX12_firstOf 2 = .ok (.iconst 0, 1) := by decide +kernel
theorem dX12_firstOf_3 : decode cX12_firstOf 3 = .ok (.istore_n 3, 1) := by decide +kernel
theorem dX12_firstOf_4 : decode cX12_firstOf 4 = .ok (.iload_n 3, 1) := by decide +kernel
theorem dX12_firstOf_5 : decode cX12_firstOf 5 = .ok (.iload_n 1, 1) := by decide +kernel
theorem dX12_firstOf_6 : decode cX12_firstOf 6 = .ok (.if_icmp .ge 17, 3) := by decide +kernel
theorem dX12_firstOf_9 : decode cX12_firstOf 9 = .ok (.iload_n 2, 1) := by decide +kernel
theorem dX12_firstOf_10 : decode cX12_firstOf 10 = .ok (.aload_n 0, 1) := by decide +kernel
theorem dX12_firstOf_11 : decode cX12_firstOf 11 = .ok (.iload_n 3, 1) := by decide +kernel
theorem dX12_firstOf_12 : decode cX12_firstOf 12 = .ok (.invokevirtual 127, 3) := by decide +kernel
theorem dX12_firstOf_15 : decode cX12_firstOf 15 = .ok (.iadd, 1) := by decide +kernel
theorem dX12_firstOf_16 : decode cX12_firstOf 16 = .ok (.istore_n 2, 1) := by decide +kernel
theorem dX12_firstOf_17 : decode cX12_firstOf 17 = .ok (.iinc 3 1, 3) := by decide +kernel
theorem dX12_firstOf_20 : decode cX12_firstOf 20 = .ok (.goto (-16), 3) := by decide +kernel
theorem dX12_firstOf_23 : decode cX12_firstOf 23 = .ok (.iload_n 2, 1) := by decide +kernel
theorem dX12_firstOf_24 : decode cX12_firstOf 24 = .ok (.ireturn, 1) := by decide +kernel
theorem dX12_point_0 : decode cX12_point 0 = .ok (.aload_n 0, 1) := by decide +kernel
theorem dX12_point_1 : decode cX12_point 1 = .ok (.iload_n 2, 1) := by decide +kernel
theorem dX12_point_2 : decode cX12_point 2 = .ok (.iconst 0, 1) := by decide +kernel
theorem dX12_point_3 : decode cX12_point 3 = .ok (.iconst 4, 1) := by decide +kernel
theorem dX12_point_4 : decode cX12_point 4 = .ok (.invokestatic 140, 3) := by decide +kernel
theorem dX12_point_7 : decode cX12_point 7 = .ok (.ifCond .ne 7, 3) := by decide +kernel
theorem dX12_point_10 : decode cX12_point 10 = .ok (.iconst 1, 1) := by decide +kernel
theorem dX12_point_11 : decode cX12_point 11 = .ok (.goto 16, 3) := by decide +kernel
theorem dX12_point_14 : decode cX12_point 14 = .ok (.aload_n 0, 1) := by decide +kernel
theorem dX12_point_15 : decode cX12_point 15 = .ok (.iload_n 1, 1) := by decide +kernel
theorem dX12_point_16 : decode cX12_point 16 = .ok (.invokevirtual 332, 3) := by decide +kernel
theorem dX12_point_19 : decode cX12_point 19 = .ok (.ifCond .eq 7, 3) := by decide +kernel
theorem dX12_point_22 : decode cX12_point 22 = .ok (.iconst 0, 1) := by decide +kernel
theorem dX12_point_23 : decode cX12_point 23 = .ok (.goto 4, 3) := by decide +kernel
theorem dX12_point_26 : decode cX12_point 26 = .ok (.iconst 2, 1) := by decide +kernel
theorem dX12_point_27 : decode cX12_point 27 = .ok (.invokevirtual 310, 3) := by decide +kernel
theorem dX12_point_30 : decode cX12_point 30 = .ok (.ifCond .ne 5, 3) := by decide +kernel
theorem dX12_point_33 : decode cX12_point 33 = .ok (.iconst (-1), 1) := by decide +kernel
theorem dX12_point_34 : decode cX12_point 34 = .ok (.ireturn, 1) := by decide +kernel
theorem dX12_point_35 : decode cX12_point 35 = .ok (.iload_n 2, 1) := by decide +kernel
theorem dX12_point_36 : decode cX12_point 36 = .ok (.iconst 3, 1) := by decide +kernel
theorem dX12_point_37 : decode cX12_point 37 = .ok (.if_icmp .ge 18, 3) := by decide +kernel
theorem dX12_point_40 : decode cX12_point 40 = .ok (.aload_n 0, 1) := by decide +kernel
theorem dX12_point_41 : decode cX12_point 41 = .ok (.getfield 7, 3) := by decide +kernel
theorem dX12_point_44 : decode cX12_point 44 = .ok (.aload_n 0, 1) := by decide +kernel
theorem dX12_point_45 : decode cX12_point 45 = .ok (.iload_n 1, 1) := by decide +kernel
theorem dX12_point_46 : decode cX12_point 46 = .ok (.invokevirtual 120, 3) := by decide +kernel
theorem dX12_point_49 : decode cX12_point 49 = .ok (.iload_n 2, 1) := by decide +kernel
theorem dX12_point_50 : decode cX12_point 50 = .ok (.iadd, 1) := by decide +kernel
theorem dX12_point_51 : decode cX12_point 51 = .ok (.iaload, 1) := by decide +kernel
theorem dX12_point_52 : decode cX12_point 52 = .ok (.goto 21, 3) := by decide +kernel
theorem dX12_point_55 : decode cX12_point 55 = .ok (.iload_n 2, 1) := by decide +kernel
theorem dX12_point_56 : decode cX12_point 56 = .ok (.iconst 3, 1) := by decide +kernel
theorem dX12_point_57 : decode cX12_point 57 = .ok (.if_icmp .ne 11, 3) := by decide +kernel
theorem dX12_point_60 : decode cX12_point 60 = .ok (.aload_n 0, 1) := by decide +kernel
theorem dX12_point_61 : decode cX12_point 61 = .ok (.iload_n 1, 1) := by decide +kernel
theorem dX12_point_62 : decode cX12_point 62 = .ok (.invokevirtual 335, 3) := by decide +kernel
theorem dX12_point_65 : decode cX12_point 65 = .ok (.goto 8, 3) := by decide +kernel
theorem dX12_point_68 : decode cX12_point 68 = .ok (.aload_n 0, 1) := by decide +kernel
theorem dX12_point_69 : decode cX12_point 69 = .ok (.iload_n 1, 1) := by decide +kernel
theorem dX12_point_70 : decode cX12_point 70 = .ok (.invokevirtual 338, 3) := by decide +kernel
theorem dX12_point_73 : decode cX12_point 73 = .ok (.ireturn, 1) := by decide +kernel
theorem dX12_code_0 : decode cX12_code 0 = .ok (.aload_n 0, 1) := by decide +kernel
theorem dX12_code_1 : decode cX12_code 1 = .ok (.aload_n 0, 1) := by decide +kernel
theorem dX12_code_2 : decode cX12_code 2 = .ok (.iload_n 1, 1) := by decide +kernel
theorem dX12_code_3 : decode cX12_code 3 = .ok (.invokevirtual 329, 3) := by decide +kernel
theorem dX12_code_6 : decode cX12_code 6 = .ok (.ifCond .eq 11, 3) := by decide +kernel
theorem dX12_code_9 : decode cX12_code 9 = .ok (.aload_n 0, 1) := by decide +kernel
theorem dX12_code_10 : decode cX12_code 10 = .ok (.iload_n 2, 1) := by decide +kernel
theorem dX12_code_11 : decode cX12_code 11 = .ok (.invokevirtual 329, 3) := by decide +kernel
theorem dX12_code_14 : decode cX12_code 14 = .ok (.ifCond .ne 7, 3) := by decide +kernel
theorem dX12_code_17 : decode cX12_code 17 = .ok (.iconst 2, 1) := by decide +kernel
theorem dX12_code_18 : decode cX12_code 18 = .ok (.goto 26, 3) := by decide +kernel
theorem dX12_code_21 : decode cX12_code 21 = .ok (.iload_n 1, 1) := by decide +kernel
theorem dX12_code_22 : decode cX12_code 22 = .ok (.iload_n 2, 1) := by decide +kernel
theorem dX12_code_23 : decode cX12_code 23 = .ok (.if_icmp .ne 7, 3) := by decide +kernel
theorem dX12_code_26 : decode cX12_code 26 = .ok (.iconst 4, 1) := by decide +kernel
theorem dX12_code_27 : decode cX12_code 27 = .ok (.goto 17, 3) := by decide +kernel
theorem dX12_code_30 : decode cX12_code 30 = .ok (.aload_n 0, 1) := by decide +kernel
theorem dX12_code_31 : decode cX12_code 31 = .ok (.iload_n 1, 1) := by decide +kernel
theorem dX12_code_32 : decode cX12_code 32 = .ok (.iload_n 2, 1) := by decide +kernel
theorem dX12_code_33 : decode cX12_code 33 = .ok (.invokevirtual 184, 3) := by decide +kernel
theorem dX12_code_36 : decode cX12_code 36 = .ok (.ifCond .eq 7, 3) := by decide +kernel
theorem dX12_code_39 : decode cX12_code 39 = .ok (.iconst 0, 1) := by decide +kernel
theorem dX12_code_40 : decode cX12_code 40 = .ok (.goto 4, 3) := by decide +kernel
theorem dX12_code_43 : decode cX12_code 43 = .ok (.iconst 5, 1) := by decide +kernel
theorem dX12_code_44 : decode cX12_code 44 = .ok (.invokevirtual 310, 3) := by decide +kernel
theorem dX12_code_47 : decode cX12_code 47 = .ok (.ifCond .eq 12, 3) := by decide +kernel
theorem dX12_code_50 : decode cX12_code 50 = .ok (.aload_n 0, 1) := by decide +kernel
theorem dX12_code_51 : decode cX12_code 51 = .ok (.iload_n 1, 1) := by decide +kernel
theorem dX12_code_52 : decode cX12_code 52 = .ok (.iload_n 2, 1) := by decide +kernel
theorem dX12_code_53 : decode cX12_code 53 = .ok (.invokevirtual 203, 3) := by decide +kernel
theorem dX12_code_56 : decode cX12_code 56 = .ok (.goto 4, 3) := by decide +kernel
theorem dX12_code_59 : decode cX12_code 59 = .ok (.iconst (-1), 1) := by decide +kernel
theorem dX12_code_60 : decode cX12_code 60 = .ok (.ireturn, 1) := by decide +kernel
theorem dX12_holds0_0 : decode cX12_holds0 0 = .ok (.iconst 0, 1) := by decide +kernel
theorem dX12_holds0_1 : decode cX12_holds0 1 = .ok (.istore_n 2, 1) := by decide +kernel
theorem dX12_holds0_2 : decode cX12_holds0 2 = .ok (.iload_n 2, 1) := by decide +kernel
theorem dX12_holds0_3 : decode cX12_holds0 3 = .ok (.bipush 9, 2) := by decide +kernel
theorem dX12_holds0_5 : decode cX12_holds0 5 = .ok (.if_icmp .ge 27, 3) := by decide +kernel
theorem dX12_holds0_8 : decode cX12_holds0 8 = .ok (.aload_n 0, 1) := by decide +kernel
theorem dX12_holds0_9 : decode cX12_holds0 9 = .ok (.getfield 66, 3) := by decide +kernel
theorem dX12_holds0_12 : decode cX12_holds0 12 = .ok (.iload_n 2, 1) := by decide +kernel
theorem dX12_holds0_13 : decode cX12_holds0 13 = .ok (.aload_n 0, 1) := by decide +kernel
theorem dX12_holds0_14 : decode cX12_holds0 14 = .ok (.getfield 7, 3) := by decide +kernel
theorem dX12_holds0_17 : decode cX12_holds0 17 = .ok (.aload_n 0, 1) := by decide +kernel
theorem dX12_holds0_18 : decode cX12_holds0 18 = .ok (.iload_n 1, 1) := by decide +kernel
theorem dX12_holds0_19 : decode cX12_holds0 19 = .ok (.invokevirtual 120, 3) := by decide +kernel
theorem dX12_holds0_22 : decode cX12_holds0 22 = .ok (.iload_n 2, 1) := by decide +kernel
theorem dX12_holds0_23 : decode cX12_holds0 23 = .ok (.iadd, 1) := by decide +kernel
theorem dX12_holds0_24 : decode cX12_holds0 24 = .ok (.iaload, 1) := by decide +kernel
theorem dX12_holds0_25 : decode cX12_holds0 25 = .ok (.iastore, 1) := by decide +kernel
theorem dX12_holds0_26 : decode cX12_holds0 26 = .ok (.iinc 2 1, 3) := by decide +kernel
theorem dX12_holds0_29 : decode cX12_holds0 29 = .ok (.goto (-27), 3) := by decide +kernel
theorem dX12_holds0_32 : decode cX12_holds0 32 = .ok (.return_, 1) := by decide +kernel
theorem dX12_laysHeld_0 : decode cX12_laysHeld 0 = .ok (.iconst 0, 1) := by decide +kernel
theorem dX12_laysHeld_1 : decode cX12_laysHeld 1 = .ok (.istore_n 2, 1) := by decide +kernel
theorem dX12_laysHeld_2 : decode cX12_laysHeld 2 = .ok (.iload_n 2, 1) := by decide +kernel
theorem dX12_laysHeld_3 : decode cX12_laysHeld 3 = .ok (.bipush 9, 2) := by decide +kernel
theorem dX12_laysHeld_5 : decode cX12_laysHeld 5 = .ok (.if_icmp .ge 27, 3) := by decide +kernel
theorem dX12_laysHeld_8 : decode cX12_laysHeld 8 = .ok (.aload_n 0, 1) := by decide +kernel
theorem dX12_laysHeld_9 : decode cX12_laysHeld 9 = .ok (.getfield 7, 3) := by decide +kernel
theorem dX12_laysHeld_12 : decode cX12_laysHeld 12 = .ok (.aload_n 0, 1) := by decide +kernel
theorem dX12_laysHeld_13 : decode cX12_laysHeld 13 = .ok (.iload_n 1, 1) := by decide +kernel
theorem dX12_laysHeld_14 : decode cX12_laysHeld 14 = .ok (.invokevirtual 120, 3) := by decide +kernel
theorem dX12_laysHeld_17 : decode cX12_laysHeld 17 = .ok (.iload_n 2, 1) := by decide +kernel
theorem dX12_laysHeld_18 : decode cX12_laysHeld 18 = .ok (.iadd, 1) := by decide +kernel
theorem dX12_laysHeld_19 : decode cX12_laysHeld 19 = .ok (.aload_n 0, 1) := by decide +kernel
theorem dX12_laysHeld_20 : decode cX12_laysHeld 20 = .ok (.getfield 66, 3) := by decide +kernel
theorem dX12_laysHeld_23 : decode cX12_laysHeld 23 = .ok (.iload_n 2, 1) := by decide +kernel
theorem dX12_laysHeld_24 : decode cX12_laysHeld 24 = .ok (.iaload, 1) := by decide +kernel
theorem dX12_laysHeld_25 : decode cX12_laysHeld 25 = .ok (.iastore, 1) := by decide +kernel
theorem dX12_laysHeld_26 : decode cX12_laysHeld 26 = .ok (.iinc 2 1, 3) := by decide +kernel
theorem dX12_laysHeld_29 : decode cX12_laysHeld 29 = .ok (.goto (-27), 3) := by decide +kernel
theorem dX12_laysHeld_32 : decode cX12_laysHeld 32 = .ok (.return_, 1) := by decide +kernel
theorem dX12_shifts_0 : decode cX12_shifts 0 = .ok (.iconst 0, 1) := by decide +kernel
theorem dX12_shifts_1 : decode cX12_shifts 1 = .ok (.istore_n 3, 1) := by decide +kernel
theorem dX12_shifts_2 : decode cX12_shifts 2 = .ok (.iload_n 3, 1) := by decide +kernel
theorem dX12_shifts_3 : decode cX12_shifts 3 = .ok (.bipush 9, 2) := by decide +kernel
theorem dX12_shifts_5 : decode cX12_shifts 5 = .ok (.if_icmp .ge 33, 3) := by decide +kernel
theorem dX12_shifts_8 : decode cX12_shifts 8 = .ok (.aload_n 0, 1) := by decide +kernel
theorem dX12_shifts_9 : decode cX12_shifts 9 = .ok (.getfield 7, 3) := by decide +kernel
theorem dX12_shifts_12 : decode cX12_shifts 12 = .ok (.aload_n 0, 1) := by decide +kernel
theorem dX12_shifts_13 : decode cX12_shifts 13 = .ok (.iload_n 2, 1) := by decide +kernel
theorem dX12_shifts_14 : decode cX12_shifts 14 = .ok (.invokevirtual 120, 3) := by decide +kernel
theorem dX12_shifts_17 : decode cX12_shifts 17 = .ok (.iload_n 3, 1) := by decide +kernel
theorem dX12_shifts_18 : decode cX12_shifts 18 = .ok (.iadd, 1) := by decide +kernel
theorem dX12_shifts_19 : decode cX12_shifts 19 = .ok (.aload_n 0, 1) := by decide +kernel
theorem dX12_shifts_20 : decode cX12_shifts 20 = .ok (.getfield 7, 3) := by decide +kernel
theorem dX12_shifts_23 : decode cX12_shifts 23 = .ok (.aload_n 0, 1) := by decide +kernel
theorem dX12_shifts_24 : decode cX12_shifts 24 = .ok (.iload_n 1, 1) := by decide +kernel
theorem dX12_shifts_25 : decode cX12_shifts 25 = .ok (.invokevirtual 120, 3) := by decide +kernel
theorem dX12_shifts_28 : decode cX12_shifts 28 = .ok (.iload_n 3, 1) := by decide +kernel
theorem dX12_shifts_29 : decode cX12_shifts 29 = .ok (.iadd, 1) := by decide +kernel
theorem dX12_shifts_30 : decode cX12_shifts 30 = .ok (.iaload, 1) := by decide +kernel
theorem dX12_shifts_31 : decode cX12_shifts 31 = .ok (.iastore, 1) := by decide +kernel
theorem dX12_shifts_32 : decode cX12_shifts 32 = .ok (.iinc 3 1, 3) := by decide +kernel
theorem dX12_shifts_35 : decode cX12_shifts 35 = .ok (.goto (-33), 3) := by decide +kernel
theorem dX12_shifts_38 : decode cX12_shifts 38 = .ok (.return_, 1) := by decide +kernel
theorem dX12_pointsChange_0 : decode cX12_pointsChange 0 = .ok (.aload_n 0, 1) := by decide +kernel
theorem dX12_pointsChange_1 : decode cX12_pointsChange 1 = .ok (.invokevirtual 111, 3) := by decide +kernel
theorem dX12_pointsChange_4 : decode cX12_pointsChange 4 = .ok (.aload_n 0, 1) := by decide +kernel
theorem dX12_pointsChange_5 : decode cX12_pointsChange 5 = .ok (.invokevirtual 341, 3) := by decide +kernel
theorem dX12_pointsChange_8 : decode cX12_pointsChange 8 = .ok (.return_, 1) := by decide +kernel
theorem dX12_drop_0 : decode cX12_drop 0 = .ok (.aload_n 0, 1) := by decide +kernel
theorem dX12_drop_1 : decode cX12_drop 1 = .ok (.aload_n 0, 1) := by decide +kernel
theorem dX12_drop_2 : decode cX12_drop 2 = .ok (.iload_n 1, 1) := by decide +kernel
theorem dX12_drop_3 : decode cX12_drop 3 = .ok (.invokevirtual 332, 3) := by decide +kernel
theorem dX12_drop_6 : decode cX12_drop 6 = .ok (.ifCond .eq 7, 3) := by decide +kernel
theorem dX12_drop_9 : decode cX12_drop 9 = .ok (.iconst 0, 1) := by decide +kernel
theorem dX12_drop_10 : decode cX12_drop 10 = .ok (.goto 4, 3) := by decide +kernel
theorem dX12_drop_13 : decode cX12_drop 13 = .ok (.iconst 2, 1) := by decide +kernel
theorem dX12_drop_14 : decode cX12_drop 14 = .ok (.invokevirtual 310, 3) := by decide +kernel
theorem dX12_drop_17 : decode cX12_drop 17 = .ok (.ifCond .ne 5, 3) := by decide +kernel
theorem dX12_drop_20 : decode cX12_drop 20 = .ok (.iconst (-1), 1) := by decide +kernel
theorem dX12_drop_21 : decode cX12_drop 21 = .ok (.ireturn, 1) := by decide +kernel
theorem dX12_drop_22 : decode cX12_drop 22 = .ok (.iload_n 1, 1) := by decide +kernel
theorem dX12_drop_23 : decode cX12_drop 23 = .ok (.istore_n 2, 1) := by decide +kernel
theorem dX12_drop_24 : decode cX12_drop 24 = .ok (.iload_n 2, 1) := by decide +kernel
theorem dX12_drop_25 : decode cX12_drop 25 = .ok (.iconst 1, 1) := by decide +kernel
theorem dX12_drop_26 : decode cX12_drop 26 = .ok (.iadd, 1) := by decide +kernel
theorem dX12_drop_27 : decode cX12_drop 27 = .ok (.aload_n 0, 1) := by decide +kernel
theorem dX12_drop_28 : decode cX12_drop 28 = .ok (.getfield 7, 3) := by decide +kernel
theorem dX12_drop_31 : decode cX12_drop 31 = .ok (.iconst 2, 1) := by decide +kernel
theorem dX12_drop_32 : decode cX12_drop 32 = .ok (.iaload, 1) := by decide +kernel
theorem dX12_drop_33 : decode cX12_drop 33 = .ok (.if_icmp .ge 17, 3) := by decide +kernel
theorem dX12_drop_36 : decode cX12_drop 36 = .ok (.aload_n 0, 1) := by decide +kernel
theorem dX12_drop_37 : decode cX12_drop 37 = .ok (.iload_n 2, 1) := by decide +kernel
theorem dX12_drop_38 : decode cX12_drop 38 = .ok (.iconst 1, 1) := by decide +kernel
theorem dX12_drop_39 : decode cX12_drop 39 = .ok (.iadd, 1) := by decide +kernel
theorem dX12_drop_40 : decode cX12_drop 40 = .ok (.iload_n 2, 1) := by decide +kernel
theorem dX12_drop_41 : decode cX12_drop 41 = .ok (.invokevirtual 344, 3) := by decide +kernel
theorem dX12_drop_44 : decode cX12_drop 44 = .ok (.iinc 2 1, 3) := by decide +kernel
theorem dX12_drop_47 : decode cX12_drop 47 = .ok (.goto (-23), 3) := by decide +kernel
theorem dX12_drop_50 : decode cX12_drop 50 = .ok (.aload_n 0, 1) := by decide +kernel
theorem dX12_drop_51 : decode cX12_drop 51 = .ok (.getfield 7, 3) := by decide +kernel
theorem dX12_drop_54 : decode cX12_drop 54 = .ok (.iconst 2, 1) := by decide +kernel
theorem dX12_drop_55 : decode cX12_drop 55 = .ok (.dup2, 1) := by decide +kernel
theorem dX12_drop_56 : decode cX12_drop 56 = .ok (.iaload, 1) := by decide +kernel
theorem dX12_drop_57 : decode cX12_drop 57 = .ok (.iconst 1, 1) := by decide +kernel
theorem dX12_drop_58 : decode cX12_drop 58 = .ok (.isub, 1) := by decide +kernel
theorem dX12_drop_59 : decode cX12_drop 59 = .ok (.iastore, 1) := by decide +kernel
theorem dX12_drop_60 : decode cX12_drop 60 = .ok (.aload_n 0, 1) := by decide +kernel
theorem dX12_drop_61 : decode cX12_drop 61 = .ok (.invokevirtual 347, 3) := by decide +kernel
theorem dX12_drop_64 : decode cX12_drop 64 = .ok (.aload_n 0, 1) := by decide +kernel
theorem dX12_drop_65 : decode cX12_drop 65 = .ok (.getfield 7, 3) := by decide +kernel
theorem dX12_drop_68 : decode cX12_drop 68 = .ok (.iconst 2, 1) := by decide +kernel
theorem dX12_drop_69 : decode cX12_drop 69 = .ok (.iaload, 1) := by decide +kernel
theorem dX12_drop_70 : decode cX12_drop 70 = .ok (.ireturn, 1) := by decide +kernel
theorem dX12_move_0 : decode cX12_move 0 = .ok (.aload_n 0, 1) := by decide +kernel
theorem dX12_move_1 : decode cX12_move 1 = .ok (.iload_n 2, 1) := by decide +kernel
theorem dX12_move_2 : decode cX12_move 2 = .ok (.iconst 0, 1) := by decide +kernel
theorem dX12_move_3 : decode cX12_move 3 = .ok (.aload_n 0, 1) := by decide +kernel
theorem dX12_move_4 : decode cX12_move 4 = .ok (.getfield 7, 3) := by decide +kernel
theorem dX12_move_7 : decode cX12_move 7 = .ok (.iconst 2, 1) := by decide +kernel
theorem dX12_move_8 : decode cX12_move 8 = .ok (.iaload, 1) := by decide +kernel
theorem dX12_move_9 : decode cX12_move 9 = .ok (.iconst 1, 1) := by decide +kernel
theorem dX12_move_10 : decode cX12_move 10 = .ok (.isub, 1) := by decide +kernel
theorem dX12_move_11 : decode cX12_move 11 = .ok (.invokestatic 140, 3) := by decide +kernel
theorem dX12_move_14 : decode cX12_move 14 = .ok (.ifCond .ne 7, 3) := by decide +kernel
theorem dX12_move_17 : decode cX12_move 17 = .ok (.iconst 1, 1) := by decide +kernel
theorem dX12_move_18 : decode cX12_move 18 = .ok (.goto 25, 3) := by decide +kernel
theorem dX12_move_21 : decode cX12_move 21 = .ok (.aload_n 0, 1) := by decide +kernel
theorem dX12_move_22 : decode cX12_move 22 = .ok (.iload_n 1, 1) := by decide +kernel
theorem dX12_move_23 : decode cX12_move 23 = .ok (.invokevirtual 332, 3) := by decide +kernel
theorem dX12_move_26 : decode cX12_move 26 = .ok (.ifCond .ne 7, 3) := by decide +kernel
theorem dX12_move_29 : decode cX12_move 29 = .ok (.iconst 2, 1) := by decide +kernel
theorem dX12_move_30 : decode cX12_move 30 = .ok (.goto 13, 3) := by decide +kernel
theorem dX12_move_33 : decode cX12_move 33 = .ok (.iload_n 1, 1) := by decide +kernel
theorem dX12_move_34 : decode cX12_move 34 = .ok (.iload_n 2, 1) := by decide +kernel
theorem dX12_move_35 : decode cX12_move 35 = .ok (.if_icmp .ne 7, 3) := by decide +kernel
theorem dX12_move_38 : decode cX12_move 38 = .ok (.iconst 4, 1) := by decide +kernel
theorem dX12_move_39 : decode cX12_move 39 = .ok (.goto 4, 3) := by decide +kernel
theorem dX12_move_42 : decode cX12_move 42 = .ok (.iconst 0, 1) := by decide +kernel
theorem dX12_move_43 : decode cX12_move 43 = .ok (.invokevirtual 310, 3) := by decide +kernel
theorem dX12_move_46 : decode cX12_move 46 = .ok (.ifCond .ne 5, 3) := by decide +kernel
theorem dX12_move_49 : decode cX12_move 49 = .ok (.iconst (-1), 1) := by decide +kernel
theorem dX12_move_50 : decode cX12_move 50 = .ok (.ireturn, 1) := by decide +kernel
theorem dX12_move_51 : decode cX12_move 51 = .ok (.aload_n 0, 1) := by decide +kernel
theorem dX12_move_52 : decode cX12_move 52 = .ok (.iload_n 1, 1) := by decide +kernel
theorem dX12_move_53 : decode cX12_move 53 = .ok (.invokevirtual 350, 3) := by decide +kernel
theorem dX12_move_56 : decode cX12_move 56 = .ok (.iload_n 1, 1) := by decide +kernel
theorem dX12_move_57 : decode cX12_move 57 = .ok (.istore_n 3, 1) := by decide +kernel
theorem dX12_move_58 : decode cX12_move 58 = .ok (.iload_n 3, 1) := by decide +kernel
theorem dX12_move_59 : decode cX12_move 59 = .ok (.iload_n 2, 1) := by decide +kernel
theorem dX12_move_60 : decode cX12_move 60 = .ok (.if_icmp .ge 17, 3) := by decide +kernel
theorem dX12_move_63 : decode cX12_move 63 = .ok (.aload_n 0, 1) := by decide +kernel
theorem dX12_move_64 : decode cX12_move 64 = .ok (.iload_n 3, 1) := by decide +kernel
theorem dX12_move_65 : decode cX12_move 65 = .ok (.iconst 1, 1) := by decide +kernel
theorem dX12_move_66 : decode cX12_move 66 = .ok (.iadd, 1) := by decide +kernel
theorem dX12_move_67 : decode cX12_move 67 = .ok (.iload_n 3, 1) := by decide +kernel
theorem dX12_move_68 : decode cX12_move 68 = .ok (.invokevirtual 344, 3) := by decide +kernel
theorem dX12_move_71 : decode cX12_move 71 = .ok (.iinc 3 1, 3) := by decide +kernel
theorem dX12_move_74 : decode cX12_move 74 = .ok (.goto (-16), 3) := by decide +kernel
theorem dX12_move_77 : decode cX12_move 77 = .ok (.iload_n 1, 1) := by decide +kernel
theorem dX12_move_78 : decode cX12_move 78 = .ok (.istore_n 3, 1) := by decide +kernel
theorem dX12_move_79 : decode cX12_move 79 = .ok (.iload_n 3, 1) := by decide +kernel
theorem dX12_move_80 : decode cX12_move 80 = .ok (.iload_n 2, 1) := by decide +kernel
theorem dX12_move_81 : decode cX12_move 81 = .ok (.if_icmp .le 17, 3) := by decide +kernel
theorem dX12_move_84 : decode cX12_move 84 = .ok (.aload_n 0, 1) := by decide +kernel
theorem dX12_move_85 : decode cX12_move 85 = .ok (.iload_n 3, 1) := by decide +kernel
theorem dX12_move_86 : decode cX12_move 86 = .ok (.iconst 1, 1) := by decide +kernel
theorem dX12_move_87 : decode cX12_move 87 = .ok (.isub, 1) := by decide +kernel
theorem dX12_move_88 : decode cX12_move 88 = .ok (.iload_n 3, 1) := by decide +kernel
theorem dX12_move_89 : decode cX12_move 89 = .ok (.invokevirtual 344, 3) := by decide +kernel
theorem dX12_move_92 : decode cX12_move 92 = .ok (.iinc 3 (-1), 3) := by decide +kernel
theorem dX12_move_95 : decode cX12_move 95 = .ok (.goto (-16), 3) := by decide +kernel
theorem dX12_move_98 : decode cX12_move 98 = .ok (.aload_n 0, 1) := by decide +kernel
theorem dX12_move_99 : decode cX12_move 99 = .ok (.iload_n 2, 1) := by decide +kernel
theorem dX12_move_100 : decode cX12_move 100 = .ok (.invokevirtual 353, 3) := by decide +kernel
theorem dX12_move_103 : decode cX12_move 103 = .ok (.aload_n 0, 1) := by decide +kernel
theorem dX12_move_104 : decode cX12_move 104 = .ok (.invokevirtual 347, 3) := by decide +kernel
theorem dX12_move_107 : decode cX12_move 107 = .ok (.aload_n 0, 1) := by decide +kernel
theorem dX12_move_108 : decode cX12_move 108 = .ok (.iload_n 2, 1) := by decide +kernel
theorem dX12_move_109 : decode cX12_move 109 = .ok (.invokevirtual 335, 3) := by decide +kernel
theorem dX12_move_112 : decode cX12_move 112 = .ok (.ireturn, 1) := by decide +kernel
theorem dX12_swap_0 : decode cX12_swap 0 = .ok (.aload_n 0, 1) := by decide +kernel
theorem dX12_swap_1 : decode cX12_swap 1 = .ok (.aload_n 0, 1) := by decide +kernel
theorem dX12_swap_2 : decode cX12_swap 2 = .ok (.iload_n 1, 1) := by decide +kernel
theorem dX12_swap_3 : decode cX12_swap 3 = .ok (.invokevirtual 329, 3) := by decide +kernel
theorem dX12_swap_6 : decode cX12_swap 6 = .ok (.ifCond .eq 13, 3) := by decide +kernel
theorem dX12_swap_9 : decode cX12_swap 9 = .ok (.aload_n 0, 1) := by decide +kernel
theorem dX12_swap_10 : decode cX12_swap 10 = .ok (.iload_n 1, 1) := by decide +kernel
theorem dX12_swap_11 : decode cX12_swap 11 = .ok (.iconst 1, 1) := by decide +kernel
theorem dX12_swap_12 : decode cX12_swap 12 = .ok (.iadd, 1) := by decide +kernel
theorem dX12_swap_13 : decode cX12_swap 13 = .ok (.invokevirtual 329, 3) := by decide +kernel
theorem dX12_swap_16 : decode cX12_swap 16 = .ok (.ifCond .ne 7, 3) := by decide +kernel
theorem dX12_swap_19 : decode cX12_swap 19 = .ok (.iconst 2, 1) := by decide +kernel
theorem dX12_swap_20 : decode cX12_swap 20 = .ok (.goto 46, 3) := by decide +kernel
theorem dX12_swap_23 : decode cX12_swap 23 = .ok (.aload_n 0, 1) := by decide +kernel
theorem dX12_swap_24 : decode cX12_swap 24 = .ok (.getfield 22, 3) := by decide +kernel
theorem dX12_swap_27 : decode cX12_swap 27 = .ok (.iload_n 1, 1) := by decide +kernel
theorem dX12_swap_28 : decode cX12_swap 28 = .ok (.iaload, 1) := by decide +kernel
theorem dX12_swap_29 : decode cX12_swap 29 = .ok (.aload_n 0, 1) := by decide +kernel
theorem dX12_swap_30 : decode cX12_swap 30 = .ok (.getfield 22, 3) := by decide +kernel
theorem dX12_swap_33 : decode cX12_swap 33 = .ok (.iload_n 1, 1) := by decide +kernel
theorem dX12_swap_34 : decode cX12_swap 34 = .ok (.iconst 1, 1) := by decide +kernel
theorem dX12_swap_35 : decode cX12_swap 35 = .ok (.iadd, 1) := by decide +kernel
theorem dX12_swap_36 : decode cX12_swap 36 = .ok (.iaload, 1) := by decide +kernel
theorem dX12_swap_37 : decode cX12_swap 37 = .ok (.if_icmp .eq 7, 3) := by decide +kernel
theorem dX12_swap_40 : decode cX12_swap 40 = .ok (.iconst 5, 1) := by decide +kernel
theorem dX12_swap_41 : decode cX12_swap 41 = .ok (.goto 25, 3) := by decide +kernel
theorem dX12_swap_44 : decode cX12_swap 44 = .ok (.aload_n 0, 1) := by decide +kernel
theorem dX12_swap_45 : decode cX12_swap 45 = .ok (.getfield 19, 3) := by decide +kernel
theorem dX12_swap_48 : decode cX12_swap 48 = .ok (.iload_n 1, 1) := by decide +kernel
theorem dX12_swap_49 : decode cX12_swap 49 = .ok (.iaload, 1) := by decide +kernel
theorem dX12_swap_50 : decode cX12_swap 50 = .ok (.aload_n 0, 1) := by decide +kernel
theorem dX12_swap_51 : decode cX12_swap 51 = .ok (.getfield 19, 3) := by decide +kernel
theorem dX12_swap_54 : decode cX12_swap 54 = .ok (.iload_n 1, 1) := by decide +kernel
theorem dX12_swap_55 : decode cX12_swap 55 = .ok (.iconst 1, 1) := by decide +kernel
theorem dX12_swap_56 : decode cX12_swap 56 = .ok (.iadd, 1) := by decide +kernel
theorem dX12_swap_57 : decode cX12_swap 57 = .ok (.iaload, 1) := by decide +kernel
theorem dX12_swap_58 : decode cX12_swap 58 = .ok (.if_icmp .ne 7, 3) := by decide +kernel
theorem dX12_swap_61 : decode cX12_swap 61 = .ok (.iconst 4, 1) := by decide +kernel
theorem dX12_swap_62 : decode cX12_swap 62 = .ok (.goto 4, 3) := by decide +kernel
theorem dX12_swap_65 : decode cX12_swap 65 = .ok (.iconst 0, 1) := by decide +kernel
theorem dX12_swap_66 : decode cX12_swap 66 = .ok (.invokevirtual 310, 3) := by decide +kernel
theorem dX12_swap_69 : decode cX12_swap 69 = .ok (.ifCond .ne 5, 3) := by decide +kernel
theorem dX12_swap_72 : decode cX12_swap 72 = .ok (.iconst (-1), 1) := by decide +kernel
theorem dX12_swap_73 : decode cX12_swap 73 = .ok (.ireturn, 1) := by decide +kernel
theorem dX12_swap_74 : decode cX12_swap 74 = .ok (.aload_n 0, 1) := by decide +kernel
theorem dX12_swap_75 : decode cX12_swap 75 = .ok (.aload_n 0, 1) := by decide +kernel
theorem dX12_swap_76 : decode cX12_swap 76 = .ok (.getfield 22, 3) := by decide +kernel
theorem dX12_swap_79 : decode cX12_swap 79 = .ok (.iload_n 1, 1) := by decide +kernel
theorem dX12_swap_80 : decode cX12_swap 80 = .ok (.iaload, 1) := by decide +kernel
theorem dX12_swap_81 : decode cX12_swap 81 = .ok (.invokevirtual 120, 3) := by decide +kernel
theorem dX12_swap_84 : decode cX12_swap 84 = .ok (.iconst 3, 1) := by decide +kernel
theorem dX12_swap_85 : decode cX12_swap 85 = .ok (.iadd, 1) := by decide +kernel
theorem dX12_swap_86 : decode cX12_swap 86 = .ok (.iload_n 1, 1) := by decide +kernel
theorem dX12_swap_87 : decode cX12_swap 87 = .ok (.iadd, 1) := by decide +kernel
theorem dX12_swap_88 : decode cX12_swap 88 = .ok (.aload_n 0, 1) := by decide +kernel
theorem dX12_swap_89 : decode cX12_swap 89 = .ok (.aload_n 0, 1) := by decide +kernel
theorem dX12_swap_90 : decode cX12_swap 90 = .ok (.getfield 22, 3) := by decide +kernel
theorem dX12_swap_93 : decode cX12_swap 93 = .ok (.iload_n 1, 1) := by decide +kernel
theorem dX12_swap_94 : decode cX12_swap 94 = .ok (.iaload, 1) := by decide +kernel
theorem dX12_swap_95 : decode cX12_swap 95 = .ok (.invokevirtual 335, 3) := by decide +kernel
theorem dX12_swap_98 : decode cX12_swap 98 = .ok (.isub, 1) := by decide +kernel
theorem dX12_swap_99 : decode cX12_swap 99 = .ok (.istore_n 2, 1) := by decide +kernel
theorem dX12_swap_100 : decode cX12_swap 100 = .ok (.aload_n 0, 1) := by decide +kernel
theorem dX12_swap_101 : decode cX12_swap 101 = .ok (.getfield 7, 3) := by decide +kernel
theorem dX12_swap_104 : decode cX12_swap 104 = .ok (.iload_n 2, 1) := by decide +kernel
theorem dX12_swap_105 : decode cX12_swap 105 = .ok (.iaload, 1) := by decide +kernel
theorem dX12_swap_106 : decode cX12_swap 106 = .ok (.istore_n 3, 1) := by decide +kernel
theorem dX12_swap_107 : decode cX12_swap 107 = .ok (.aload_n 0, 1) := by decide +kernel
theorem dX12_swap_108 : decode cX12_swap 108 = .ok (.getfield 7, 3) := by decide +kernel
theorem dX12_swap_111 : decode cX12_swap 111 = .ok (.iload_n 2, 1) := by decide +kernel
theorem dX12_swap_112 : decode cX12_swap 112 = .ok (.aload_n 0, 1) := by decide +kernel
theorem dX12_swap_113 : decode cX12_swap 113 = .ok (.getfield 7, 3) := by decide +kernel
theorem dX12_swap_116 : decode cX12_swap 116 = .ok (.iload_n 2, 1) := by decide +kernel
theorem dX12_swap_117 : decode cX12_swap 117 = .ok (.iconst 1, 1) := by decide +kernel
theorem dX12_swap_118 : decode cX12_swap 118 = .ok (.iadd, 1) := by decide +kernel
theorem dX12_swap_119 : decode cX12_swap 119 = .ok (.iaload, 1) := by decide +kernel
theorem dX12_swap_120 : decode cX12_swap 120 = .ok (.iastore, 1) := by decide +kernel
theorem dX12_swap_121 : decode cX12_swap 121 = .ok (.aload_n 0, 1) := by decide +kernel
theorem dX12_swap_122 : decode cX12_swap 122 = .ok (.getfield 7, 3) := by decide +kernel
theorem dX12_swap_125 : decode cX12_swap 125 = .ok (.iload_n 2, 1) := by decide +kernel
theorem dX12_swap_126 : decode cX12_swap 126 = .ok (.iconst 1, 1) := by decide +kernel
theorem dX12_swap_127 : decode cX12_swap 127 = .ok (.iadd, 1) := by decide +kernel
theorem dX12_swap_128 : decode cX12_swap 128 = .ok (.iload_n 3, 1) := by decide +kernel
theorem dX12_swap_129 : decode cX12_swap 129 = .ok (.iastore, 1) := by decide +kernel
theorem dX12_swap_130 : decode cX12_swap 130 = .ok (.aload_n 0, 1) := by decide +kernel
theorem dX12_swap_131 : decode cX12_swap 131 = .ok (.invokevirtual 347, 3) := by decide +kernel
theorem dX12_swap_134 : decode cX12_swap 134 = .ok (.aload_n 0, 1) := by decide +kernel
theorem dX12_swap_135 : decode cX12_swap 135 = .ok (.invokevirtual 194, 3) := by decide +kernel
theorem dX12_swap_138 : decode cX12_swap 138 = .ok (.aload_n 0, 1) := by decide +kernel
theorem dX12_swap_139 : decode cX12_swap 139 = .ok (.invokevirtual 319, 3) := by decide +kernel
theorem dX12_swap_142 : decode cX12_swap 142 = .ok (.ireturn, 1) := by decide +kernel
theorem dX12_normal_0 : decode cX12_normal 0 = .ok (.aload_n 0, 1) := by decide +kernel
theorem dX12_normal_1 : decode cX12_normal 1 = .ok (.aload_n 0, 1) := by decide +kernel
theorem dX12_normal_2 : decode cX12_normal 2 = .ok (.iload_n 1, 1) := by decide +kernel
theorem dX12_normal_3 : decode cX12_normal 3 = .ok (.invokevirtual 332, 3) := by decide +kernel
theorem dX12_normal_6 : decode cX12_normal 6 = .ok (.ifCond .ne 7, 3) := by decide +kernel
theorem dX12_normal_9 : decode cX12_normal 9 = .ok (.iconst 2, 1) := by decide +kernel
theorem dX12_normal_10 : decode cX12_normal 10 = .ok (.goto 17, 3) := by decide +kernel
theorem dX12_normal_13 : decode cX12_normal 13 = .ok (.aload_n 0, 1) := by decide +kernel
theorem dX12_normal_14 : decode cX12_normal 14 = .ok (.iload_n 1, 1) := by decide +kernel
theorem dX12_normal_15 : decode cX12_normal 15 = .ok (.invokevirtual 144, 3) := by decide +kernel
theorem dX12_normal_18 : decode cX12_normal 18 = .ok (.iload_n 2, 1) := by decide +kernel
theorem dX12_normal_19 : decode cX12_normal 19 = .ok (.if_icmp .ne 7, 3) := by decide +kernel
theorem dX12_normal_22 : decode cX12_normal 22 = .ok (.iconst 4, 1) := by decide +kernel
theorem dX12_normal_23 : decode cX12_normal 23 = .ok (.goto 4, 3) := by decide +kernel
theorem dX12_normal_26 : decode cX12_normal 26 = .ok (.iconst 0, 1) := by decide +kernel
theorem dX12_normal_27 : decode cX12_normal 27 = .ok (.invokevirtual 310, 3) := by decide +kernel
theorem dX12_normal_30 : decode cX12_normal 30 = .ok (.ifCond .ne 5, 3) := by decide +kernel
theorem dX12_normal_33 : decode cX12_normal 33 = .ok (.iconst (-1), 1) := by decide +kernel
theorem dX12_normal_34 : decode cX12_normal 34 = .ok (.ireturn, 1) := by decide +kernel
theorem dX12_normal_35 : decode cX12_normal 35 = .ok (.aload_n 0, 1) := by decide +kernel
theorem dX12_normal_36 : decode cX12_normal 36 = .ok (.getfield 7, 3) := by decide +kernel
theorem dX12_normal_39 : decode cX12_normal 39 = .ok (.aload_n 0, 1) := by decide +kernel
theorem dX12_normal_40 : decode cX12_normal 40 = .ok (.iload_n 1, 1) := by decide +kernel
theorem dX12_normal_41 : decode cX12_normal 41 = .ok (.invokevirtual 120, 3) := by decide +kernel
theorem dX12_normal_44 : decode cX12_normal 44 = .ok (.iconst 2, 1) := by decide +kernel
theorem dX12_normal_45 : decode cX12_normal 45 = .ok (.iadd, 1) := by decide +kernel
theorem dX12_normal_46 : decode cX12_normal 46 = .ok (.iload_n 2, 1) := by decide +kernel
theorem dX12_normal_47 : decode cX12_normal 47 = .ok (.ifCond .eq 7, 3) := by decide +kernel
theorem dX12_normal_50 : decode cX12_normal 50 = .ok (.iconst 1, 1) := by decide +kernel
theorem dX12_normal_51 : decode cX12_normal 51 = .ok (.goto 4, 3) := by decide +kernel
theorem dX12_normal_54 : decode cX12_normal 54 = .ok (.iconst 0, 1) := by decide +kernel
theorem dX12_normal_55 : decode cX12_normal 55 = .ok (.iastore, 1) := by decide +kernel
theorem dX12_normal_56 : decode cX12_normal 56 = .ok (.aload_n 0, 1) := by decide +kernel
theorem dX12_normal_57 : decode cX12_normal 57 = .ok (.invokevirtual 347, 3) := by decide +kernel
theorem dX12_normal_60 : decode cX12_normal 60 = .ok (.aload_n 0, 1) := by decide +kernel
theorem dX12_normal_61 : decode cX12_normal 61 = .ok (.invokevirtual 194, 3) := by decide +kernel
theorem dX12_normal_64 : decode cX12_normal 64 = .ok (.aload_n 0, 1) := by decide +kernel
theorem dX12_normal_65 : decode cX12_normal 65 = .ok (.getfield 172, 3) := by decide +kernel
theorem dX12_normal_68 : decode cX12_normal 68 = .ok (.ireturn, 1) := by decide +kernel
theorem dX12_copy_0 : decode cX12_copy 0 = .ok (.aload_n 0, 1) := by decide +kernel
theorem dX12_copy_1 : decode cX12_copy 1 = .ok (.aload_n 0, 1) := by decide +kernel
theorem dX12_copy_2 : decode cX12_copy 2 = .ok (.iload_n 1, 1) := by decide +kernel
theorem dX12_copy_3 : decode cX12_copy 3 = .ok (.invokevirtual 332, 3) := by decide +kernel
theorem dX12_copy_6 : decode cX12_copy 6 = .ok (.ifCond .ne 7, 3) := by decide +kernel
theorem dX12_copy_9 : decode cX12_copy 9 = .ok (.iconst 2, 1) := by decide +kernel
theorem dX12_copy_10 : decode cX12_copy 10 = .ok (.goto 50, 3) := by decide +kernel
theorem dX12_copy_13 : decode cX12_copy 13 = .ok (.aload_n 0, 1) := by decide +kernel
theorem dX12_copy_14 : decode cX12_copy 14 = .ok (.getfield 7, 3) := by decide +kernel
theorem dX12_copy_17 : decode cX12_copy 17 = .ok (.iconst 2, 1) := by decide +kernel
theorem dX12_copy_18 : decode cX12_copy 18 = .ok (.iaload, 1) := by decide +kernel
theorem dX12_copy_19 : decode cX12_copy 19 = .ok (.bipush 8, 2) := by decide +kernel
theorem dX12_copy_21 : decode cX12_copy 21 = .ok (.if_icmp .eq 34, 3) := by decide +kernel
theorem dX12_copy_24 : decode cX12_copy 24 = .ok (.aload_n 0, 1) := by decide +kernel
theorem dX12_copy_25 : decode cX12_copy 25 = .ok (.iload_n 1, 1) := by decide +kernel
theorem dX12_copy_26 : decode cX12_copy 26 = .ok (.invokevirtual 217, 3) := by decide +kernel
theorem dX12_copy_29 : decode cX12_copy 29 = .ok (.ifCond .eq 11, 3) := by decide +kernel
theorem dX12_copy_32 : decode cX12_copy 32 = .ok (.aload_n 0, 1) := by decide +kernel
theorem dX12_copy_33 : decode cX12_copy 33 = .ok (.invokevirtual 313, 3) := by decide +kernel
theorem dX12_copy_36 : decode cX12_copy 36 = .ok (.iconst 5, 1) := by decide +kernel
theorem dX12_copy_37 : decode cX12_copy 37 = .ok (.if_icmp .eq 18, 3) := by decide +kernel
theorem dX12_copy_40 : decode cX12_copy 40 = .ok (.aload_n 0, 1) := by decide +kernel
theorem dX12_copy_41 : decode cX12_copy 41 = .ok (.getfield 124, 3) := by decide +kernel
theorem dX12_copy_44 : decode cX12_copy 44 = .ok (.aload_n 0, 1) := by decide +kernel
theorem dX12_copy_45 : decode cX12_copy 45 = .ok (.iload_n 1, 1) := by decide +kernel
theorem dX12_copy_46 : decode cX12_copy 46 = .ok (.invokevirtual 127, 3) := by decide +kernel
theorem dX12_copy_49 : decode cX12_copy 49 = .ok (.iadd, 1) := by decide +kernel
theorem dX12_copy_50 : decode cX12_copy 50 = .ok (.bipush 12, 2) := by decide +kernel
theorem dX12_copy_52 : decode cX12_copy 52 = .ok (.if_icmp .le 7, 3) := by decide +kernel
theorem dX12_copy_55 : decode cX12_copy 55 = .ok (.iconst 3, 1) := by decide +kernel
theorem dX12_copy_56 : decode cX12_copy 56 = .ok (.goto 4, 3) := by decide +kernel
theorem dX12_copy_59 : decode cX12_copy 59 = .ok (.iconst 0, 1) := by decide +kernel
theorem dX12_copy_60 : decode cX12_copy 60 = .ok (.invokevirtual 310, 3) := by decide +kernel
theorem dX12_copy_63 : decode cX12_copy 63 = .ok (.ifCond .ne 5, 3) := by decide +kernel
theorem dX12_copy_66 : decode cX12_copy 66 = .ok (.iconst (-1), 1) := by decide +kernel
theorem dX12_copy_67 : decode cX12_copy 67 = .ok (.ireturn, 1) := by decide +kernel
theorem dX12_copy_68 : decode cX12_copy 68 = .ok (.aload_n 0, 1) := by decide +kernel
theorem dX12_copy_69 : decode cX12_copy 69 = .ok (.iload_n 1, 1) := by decide +kernel
theorem dX12_copy_70 : decode cX12_copy 70 = .ok (.aload_n 0, 1) := by decide +kernel
theorem dX12_copy_71 : decode cX12_copy 71 = .ok (.getfield 7, 3) := by decide +kernel
theorem dX12_copy_74 : decode cX12_copy 74 = .ok (.iconst 2, 1) := by decide +kernel
theorem dX12_copy_75 : decode cX12_copy 75 = .ok (.iaload, 1) := by decide +kernel
theorem dX12_copy_76 : decode cX12_copy 76 = .ok (.invokevirtual 344, 3) := by decide +kernel
theorem dX12_copy_79 : decode cX12_copy 79 = .ok (.aload_n 0, 1) := by decide +kernel
theorem dX12_copy_80 : decode cX12_copy 80 = .ok (.getfield 7, 3) := by decide +kernel
theorem dX12_copy_83 : decode cX12_copy 83 = .ok (.iconst 2, 1) := by decide +kernel
theorem dX12_copy_84 : decode cX12_copy 84 = .ok (.dup2, 1) := by decide +kernel
theorem dX12_copy_85 : decode cX12_copy 85 = .ok (.iaload, 1) := by decide +kernel
theorem dX12_copy_86 : decode cX12_copy 86 = .ok (.iconst 1, 1) := by decide +kernel
theorem dX12_copy_87 : decode cX12_copy 87 = .ok (.iadd, 1) := by decide +kernel
theorem dX12_copy_88 : decode cX12_copy 88 = .ok (.iastore, 1) := by decide +kernel
theorem dX12_copy_89 : decode cX12_copy 89 = .ok (.aload_n 0, 1) := by decide +kernel
theorem dX12_copy_90 : decode cX12_copy 90 = .ok (.invokevirtual 347, 3) := by decide +kernel
theorem dX12_copy_93 : decode cX12_copy 93 = .ok (.aload_n 0, 1) := by decide +kernel
theorem dX12_copy_94 : decode cX12_copy 94 = .ok (.getfield 7, 3) := by decide +kernel
theorem dX12_copy_97 : decode cX12_copy 97 = .ok (.iconst 2, 1) := by decide +kernel
theorem dX12_copy_98 : decode cX12_copy 98 = .ok (.iaload, 1) := by decide +kernel
theorem dX12_copy_99 : decode cX12_copy 99 = .ok (.iconst 1, 1) := by decide +kernel
theorem dX12_copy_100 : decode cX12_copy 100 = .ok (.isub, 1) := by decide +kernel
theorem dX12_copy_101 : decode cX12_copy 101 = .ok (.ireturn, 1) := by decide +kernel
theorem dX12_isCode_0 : decode cX12_isCode 0 = .ok (.iload_n 1, 1) := by decide +kernel
theorem dX12_isCode_1 : decode cX12_isCode 1 = .ok (.ifCond .lt 28, 3) := by decide +kernel
theorem dX12_isCode_4 : decode cX12_isCode 4 = .ok (.aload_n 0, 1) := by decide +kernel
theorem dX12_isCode_5 : decode cX12_isCode 5 = .ok (.iload_n 1, 1) := by decide +kernel
theorem dX12_isCode_6 : decode cX12_isCode 6 = .ok (.bipush 100, 2) := by decide +kernel
theorem dX12_isCode_8 : decode cX12_isCode 8 = .ok (.idiv, 1) := by decide +kernel
theorem dX12_isCode_9 : decode cX12_isCode 9 = .ok (.invokevirtual 332, 3) := by decide +kernel
theorem dX12_isCode_12 : decode cX12_isCode 12 = .ok (.ifCond .eq 17, 3) := by decide +kernel
theorem dX12_isCode_15 : decode cX12_isCode 15 = .ok (.aload_n 0, 1) := by decide +kernel
theorem dX12_isCode_16 : decode cX12_isCode 16 = .ok (.iload_n 1, 1) := by decide +kernel
theorem dX12_isCode_17 : decode cX12_isCode 17 = .ok (.bipush 10, 2) := by decide +kernel
theorem dX12_isCode_19 : decode cX12_isCode 19 = .ok (.idiv, 1) := by decide +kernel
theorem dX12_isCode_20 : decode cX12_isCode 20 = .ok (.bipush 10, 2) := by decide +kernel
theorem dX12_isCode_22 : decode cX12_isCode 22 = .ok (.irem, 1) := by decide +kernel
theorem dX12_isCode_23 : decode cX12_isCode 23 = .ok (.invokevirtual 332, 3) := by decide +kernel
theorem dX12_isCode_26 : decode cX12_isCode 26 = .ok (.ifCond .ne 5, 3) := by decide +kernel
theorem dX12_isCode_29 : decode cX12_isCode 29 = .ok (.iconst 0, 1) := by decide +kernel
theorem dX12_isCode_30 : decode cX12_isCode 30 = .ok (.ireturn, 1) := by decide +kernel
theorem dX12_isCode_31 : decode cX12_isCode 31 = .ok (.iload_n 1, 1) := by decide +kernel
theorem dX12_isCode_32 : decode cX12_isCode 32 = .ok (.bipush 10, 2) := by decide +kernel
theorem dX12_isCode_34 : decode cX12_isCode 34 = .ok (.irem, 1) := by decide +kernel
theorem dX12_isCode_35 : decode cX12_isCode 35 = .ok (.istore_n 2, 1) := by decide +kernel
theorem dX12_isCode_36 : decode cX12_isCode 36 = .ok (.iload_n 2, 1) := by decide +kernel
theorem dX12_isCode_37 : decode cX12_isCode 37 = .ok (.bipush 6, 2) := by decide +kernel
theorem dX12_isCode_39 : decode cX12_isCode 39 = .ok (.if_icmp .lt 22, 3) := by decide +kernel
theorem dX12_isCode_42 : decode cX12_isCode 42 = .ok (.iload_n 2, 1) := by decide +kernel
theorem dX12_isCode_43 : decode cX12_isCode 43 = .ok (.bipush 6, 2) := by decide +kernel
theorem dX12_isCode_45 : decode cX12_isCode 45 = .ok (.isub, 1) := by decide +kernel
theorem dX12_isCode_46 : decode cX12_isCode 46 = .ok (.aload_n 0, 1) := by decide +kernel
theorem dX12_isCode_47 : decode cX12_isCode 47 = .ok (.getfield 7, 3) := by decide +kernel
theorem dX12_isCode_50 : decode cX12_isCode 50 = .ok (.iconst 1, 1) := by decide +kernel
theorem dX12_isCode_51 : decode cX12_isCode 51 = .ok (.iaload, 1) := by decide +kernel
theorem dX12_isCode_52 : decode cX12_isCode 52 = .ok (.if_icmp .ge 7, 3) := by decide +kernel
theorem dX12_isCode_55 : decode cX12_isCode 55 = .ok (.iconst 1, 1) := by decide +kernel
theorem dX12_isCode_56 : decode cX12_isCode 56 = .ok (.goto 4, 3) := by decide +kernel
theorem dX12_isCode_59 : decode cX12_isCode 59 = .ok (.iconst 0, 1) := by decide +kernel
theorem dX12_isCode_60 : decode cX12_isCode 60 = .ok (.ireturn, 1) := by decide +kernel
theorem dX12_isCode_61 : decode cX12_isCode 61 = .ok (.iload_n 2, 1) := by decide +kernel
theorem dX12_isCode_62 : decode cX12_isCode 62 = .ok (.aload_n 0, 1) := by decide +kernel
theorem dX12_isCode_63 : decode cX12_isCode 63 = .ok (.getfield 7, 3) := by decide +kernel
theorem dX12_isCode_66 : decode cX12_isCode 66 = .ok (.iconst 0, 1) := by decide +kernel
theorem dX12_isCode_67 : decode cX12_isCode 67 = .ok (.iaload, 1) := by decide +kernel
theorem dX12_isCode_68 : decode cX12_isCode 68 = .ok (.if_icmp .ge 29, 3) := by decide +kernel
theorem dX12_isCode_71 : decode cX12_isCode 71 = .ok (.aload_n 0, 1) := by decide +kernel
theorem dX12_isCode_72 : decode cX12_isCode 72 = .ok (.iload_n 2, 1) := by decide +kernel
theorem dX12_isCode_73 : decode cX12_isCode 73 = .ok (.invokevirtual 148, 3) := by decide +kernel
theorem dX12_isCode_76 : decode cX12_isCode 76 = .ok (.ifCond .ne 17, 3) := by decide +kernel
theorem dX12_isCode_79 : decode cX12_isCode 79 = .ok (.iload_n 1, 1) := by decide +kernel
theorem dX12_isCode_80 : decode cX12_isCode 80 = .ok (.bipush 100, 2) := by decide +kernel
theorem dX12_isCode_82 : decode cX12_isCode 82 = .ok (.idiv, 1) := by decide +kernel
theorem dX12_isCode_83 : decode cX12_isCode 83 = .ok (.iload_n 1, 1) := by decide +kernel
theorem dX12_isCode_84 : decode cX12_isCode 84 = .ok (.bipush 10, 2) := by decide +kernel
theorem dX12_isCode_86 : decode cX12_isCode 86 = .ok (.idiv, 1) := by decide +kernel
theorem dX12_isCode_87 : decode cX12_isCode 87 = .ok (.bipush 10, 2) := by decide +kernel
theorem dX12_isCode_89 : decode cX12_isCode 89 = .ok (.irem, 1) := by decide +kernel
theorem dX12_isCode_90 : decode cX12_isCode 90 = .ok (.if_icmp .gt 7, 3) := by decide +kernel
theorem dX12_isCode_93 : decode cX12_isCode 93 = .ok (.iconst 1, 1) := by decide +kernel
theorem dX12_isCode_94 : decode cX12_isCode 94 = .ok (.goto 4, 3) := by decide +kernel
theorem dX12_isCode_97 : decode cX12_isCode 97 = .ok (.iconst 0, 1) := by decide +kernel
theorem dX12_isCode_98 : decode cX12_isCode 98 = .ok (.ireturn, 1) := by decide +kernel
theorem dX12_worth_0 : decode cX12_worth 0 = .ok (.aload_n 0, 1) := by decide +kernel
theorem dX12_worth_1 : decode cX12_worth 1 = .ok (.iload_n 2, 1) := by decide +kernel
theorem dX12_worth_2 : decode cX12_worth 2 = .ok (.bipush (-9), 2) := by decide +kernel
theorem dX12_worth_4 : decode cX12_worth 4 = .ok (.bipush 9, 2) := by decide +kernel
theorem dX12_worth_6 : decode cX12_worth 6 = .ok (.invokestatic 140, 3) := by decide +kernel
theorem dX12_worth_9 : decode cX12_worth 9 = .ok (.ifCond .ne 7, 3) := by decide +kernel
theorem dX12_worth_12 : decode cX12_worth 12 = .ok (.iconst 1, 1) := by decide +kernel
theorem dX12_worth_13 : decode cX12_worth 13 = .ok (.goto 30, 3) := by decide +kernel
theorem dX12_worth_16 : decode cX12_worth 16 = .ok (.aload_n 0, 1) := by decide +kernel
theorem dX12_worth_17 : decode cX12_worth 17 = .ok (.iload_n 1, 1) := by decide +kernel
theorem dX12_worth_18 : decode cX12_worth 18 = .ok (.invokevirtual 356, 3) := by decide +kernel
theorem dX12_worth_21 : decode cX12_worth 21 = .ok (.ifCond .ne 7, 3) := by decide +kernel
theorem dX12_worth_24 : decode cX12_worth 24 = .ok (.iconst 2, 1) := by decide +kernel
theorem dX12_worth_25 : decode cX12_worth 25 = .ok (.goto 18, 3) := by decide +kernel
theorem dX12_worth_28 : decode cX12_worth 28 = .ok (.aload_n 0, 1) := by decide +kernel
theorem dX12_worth_29 : decode cX12_worth 29 = .ok (.getfield 16, 3) := by decide +kernel
theorem dX12_worth_32 : decode cX12_worth 32 = .ok (.iload_n 1, 1) := by decide +kernel
theorem dX12_worth_33 : decode cX12_worth 33 = .ok (.iaload, 1) := by decide +kernel
theorem dX12_worth_34 : decode cX12_worth 34 = .ok (.iload_n 2, 1) := by decide +kernel
theorem dX12_worth_35 : decode cX12_worth 35 = .ok (.if_icmp .ne 7, 3) := by decide +kernel
theorem dX12_worth_38 : decode cX12_worth 38 = .ok (.iconst 4, 1) := by decide +kernel
theorem dX12_worth_39 : decode cX12_worth 39 = .ok (.goto 4, 3) := by decide +kernel
theorem dX12_worth_42 : decode cX12_worth 42 = .ok (.iconst 0, 1) := by decide +kernel
theorem dX12_worth_43 : decode cX12_worth 43 = .ok (.invokevirtual 310, 3) := by decide +kernel
theorem dX12_worth_46 : decode cX12_worth 46 = .ok (.ifCond .ne 5, 3) := by decide +kernel
theorem dX12_worth_49 : decode cX12_worth 49 = .ok (.iconst (-1), 1) := by decide +kernel
theorem dX12_worth_50 : decode cX12_worth 50 = .ok (.ireturn, 1) := by decide +kernel
theorem dX12_worth_51 : decode cX12_worth 51 = .ok (.aload_n 0, 1) := by decide +kernel
theorem dX12_worth_52 : decode cX12_worth 52 = .ok (.getfield 16, 3) := by decide +kernel
theorem dX12_worth_55 : decode cX12_worth 55 = .ok (.iload_n 1, 1) := by decide +kernel
theorem dX12_worth_56 : decode cX12_worth 56 = .ok (.iaload, 1) := by decide +kernel
theorem dX12_worth_57 : decode cX12_worth 57 = .ok (.istore_n 3, 1) := by decide +kernel
theorem dX12_worth_58 : decode cX12_worth 58 = .ok (.aload_n 0, 1) := by decide +kernel
theorem dX12_worth_59 : decode cX12_worth 59 = .ok (.getfield 16, 3) := by decide +kernel
theorem dX12_worth_62 : decode cX12_worth 62 = .ok (.iload_n 1, 1) := by decide +kernel
theorem dX12_worth_63 : decode cX12_worth 63 = .ok (.iload_n 2, 1) := by decide +kernel
theorem dX12_worth_64 : decode cX12_worth 64 = .ok (.iastore, 1) := by decide +kernel
theorem dX12_worth_65 : decode cX12_worth 65 = .ok (.iload_n 3, 1) := by decide +kernel
theorem dX12_worth_66 : decode cX12_worth 66 = .ok (.ireturn, 1) := by decide +kernel
theorem dX12_mate_0 : decode cX12_mate 0 = .ok (.aload_n 0, 1) := by decide +kernel
theorem dX12_mate_1 : decode cX12_mate 1 = .ok (.aload_n 0, 1) := by decide +kernel
theorem dX12_mate_2 : decode cX12_mate 2 = .ok (.iload_n 1, 1) := by decide +kernel
theorem dX12_mate_3 : decode cX12_mate 3 = .ok (.invokevirtual 359, 3) := by decide +kernel
theorem dX12_mate_6 : decode cX12_mate 6 = .ok (.ifCond .eq 15, 3) := by decide +kernel
theorem dX12_mate_9 : decode cX12_mate 9 = .ok (.aload_n 0, 1) := by decide +kernel
theorem dX12_mate_10 : decode cX12_mate 10 = .ok (.iload_n 2, 1) := by decide +kernel
theorem dX12_mate_11 : decode cX12_mate 11 = .ok (.invokevirtual 329, 3) := by decide +kernel
theorem dX12_mate_14 : decode cX12_mate 14 = .ok (.ifCond .eq 7, 3) := by decide +kernel
theorem dX12_mate_17 : decode cX12_mate 17 = .ok (.iconst 0, 1) := by decide +kernel
theorem dX12_mate_18 : decode cX12_mate 18 = .ok (.goto 4, 3) := by decide +kernel
theorem dX12_mate_21 : decode cX12_mate 21 = .ok (.iconst 2, 1) := by decide +kernel
theorem dX12_mate_22 : decode cX12_mate 22 = .ok (.invokevirtual 310, 3) := by decide +kernel
theorem dX12_mate_25 : decode cX12_mate 25 = .ok (.ifCond .eq 12, 3) := by decide +kernel
theorem dX12_mate_28 : decode cX12_mate 28 = .ok (.aload_n 0, 1) := by decide +kernel
theorem dX12_mate_29 : decode cX12_mate 29 = .ok (.iload_n 1, 1) := by decide +kernel
theorem dX12_mate_30 : decode cX12_mate 30 = .ok (.iload_n 2, 1) := by decide +kernel
theorem dX12_mate_31 : decode cX12_mate 31 = .ok (.invokevirtual 200, 3) := by decide +kernel
theorem dX12_mate_34 : decode cX12_mate 34 = .ok (.goto 4, 3) := by decide +kernel
theorem dX12_mate_37 : decode cX12_mate 37 = .ok (.iconst (-1), 1) := by decide +kernel
theorem dX12_mate_38 : decode cX12_mate 38 = .ok (.ireturn, 1) := by decide +kernel
theorem dX12_diagramOf_0 : decode cX12_diagramOf 0 = .ok (.aload_n 0, 1) := by decide +kernel
theorem dX12_diagramOf_1 : decode cX12_diagramOf 1 = .ok (.invokevirtual 273, 3) := by decide +kernel
theorem dX12_diagramOf_4 : decode cX12_diagramOf 4 = .ok (.aload_n 0, 1) := by decide +kernel
theorem dX12_diagramOf_5 : decode cX12_diagramOf 5 = .ok (.getfield 38, 3) := by decide +kernel
theorem dX12_diagramOf_8 : decode cX12_diagramOf 8 = .ok (.iload_n 1, 1) := by decide +kernel
theorem dX12_diagramOf_9 : decode cX12_diagramOf 9 = .ok (.iaload, 1) := by decide +kernel
theorem dX12_diagramOf_10 : decode cX12_diagramOf 10 = .ok (.ireturn, 1) := by decide +kernel
theorem dX12_pairing_0 : decode cX12_pairing 0 = .ok (.aload_n 0, 1) := by decide +kernel
theorem dX12_pairing_1 : decode cX12_pairing 1 = .ok (.iload_n 2, 1) := by decide +kernel
theorem dX12_pairing_2 : decode cX12_pairing 2 = .ok (.iconst 0, 1) := by decide +kernel
theorem dX12_pairing_3 : decode cX12_pairing 3 = .ok (.iconst 4, 1) := by decide +kernel
theorem dX12_pairing_4 : decode cX12_pairing 4 = .ok (.invokestatic 140, 3) := by decide +kernel
theorem dX12_pairing_7 : decode cX12_pairing 7 = .ok (.ifCond .ne 7, 3) := by decide +kernel
theorem dX12_pairing_10 : decode cX12_pairing 10 = .ok (.iconst 1, 1) := by decide +kernel
theorem dX12_pairing_11 : decode cX12_pairing 11 = .ok (.goto 16, 3) := by decide +kernel
theorem dX12_pairing_14 : decode cX12_pairing 14 = .ok (.aload_n 0, 1) := by decide +kernel
theorem dX12_pairing_15 : decode cX12_pairing 15 = .ok (.iload_n 1, 1) := by decide +kernel
theorem dX12_pairing_16 : decode cX12_pairing 16 = .ok (.invokevirtual 359, 3) := by decide +kernel
theorem dX12_pairing_19 : decode cX12_pairing 19 = .ok (.ifCond .eq 7, 3) := by decide +kernel
theorem dX12_pairing_22 : decode cX12_pairing 22 = .ok (.iconst 0, 1) := by decide +kernel
theorem dX12_pairing_23 : decode cX12_pairing 23 = .ok (.goto 4, 3) := by decide +kernel
theorem dX12_pairing_26 : decode cX12_pairing 26 = .ok (.iconst 2, 1) := by decide +kernel
theorem dX12_pairing_27 : decode cX12_pairing 27 = .ok (.invokevirtual 310, 3) := by decide +kernel
theorem dX12_pairing_30 : decode cX12_pairing 30 = .ok (.ifCond .ne 5, 3) := by decide +kernel
theorem dX12_pairing_33 : decode cX12_pairing 33 = .ok (.iconst (-1), 1) := by decide +kernel
theorem dX12_pairing_34 : decode cX12_pairing 34 = .ok (.ireturn, 1) := by decide +kernel
theorem dX12_pairing_35 : decode cX12_pairing 35 = .ok (.iload_n 2, 1) := by decide +kernel
theorem dX12_pairing_36 : decode cX12_pairing 36 = .ok (.tableswitch 58 0 3 #[32, 39, 46, 52], 32) := by decide +kernel
theorem dX12_pairing_68 : decode cX12_pairing 68 = .ok (.aload_n 0, 1) := by decide +kernel
theorem dX12_pairing_69 : decode cX12_pairing 69 = .ok (.getfield 29, 3) := by decide +kernel
theorem dX12_pairing_72 : decode cX12_pairing 72 = .ok (.iload_n 1, 1) := by decide +kernel
theorem dX12_pairing_73 : decode cX12_pairing 73 = .ok (.iaload, 1) := by decide +kernel
theorem dX12_pairing_74 : decode cX12_pairing 74 = .ok (.ireturn, 1) := by decide +kernel
theorem dX12_pairing_75 : decode cX12_pairing 75 = .ok (.aload_n 0, 1) := by decide +kernel
theorem dX12_pairing_76 : decode cX12_pairing 76 = .ok (.getfield 32, 3) := by decide +kernel
theorem dX12_pairing_79 : decode cX12_pairing 79 = .ok (.iload_n 1, 1) := by decide +kernel
theorem dX12_pairing_80 : decode cX12_pairing 80 = .ok (.iaload, 1) := by decide +kernel
theorem dX12_pairing_81 : decode cX12_pairing 81 = .ok (.ireturn, 1) := by decide +kernel
theorem dX12_pairing_82 : decode cX12_pairing 82 = .ok (.aload_n 0, 1) := by decide +kernel
theorem dX12_pairing_83 : decode cX12_pairing 83 = .ok (.iload_n 1, 1) := by decide +kernel
theorem dX12_pairing_84 : decode cX12_pairing 84 = .ok (.invokevirtual 362, 3) := by decide +kernel
theorem dX12_pairing_87 : decode cX12_pairing 87 = .ok (.ireturn, 1) := by decide +kernel
theorem dX12_pairing_88 : decode cX12_pairing 88 = .ok (.aload_n 0, 1) := by decide +kernel
theorem dX12_pairing_89 : decode cX12_pairing 89 = .ok (.iload_n 1, 1) := by decide +kernel
theorem dX12_pairing_90 : decode cX12_pairing 90 = .ok (.invokevirtual 365, 3) := by decide +kernel
theorem dX12_pairing_93 : decode cX12_pairing 93 = .ok (.ireturn, 1) := by decide +kernel
theorem dX12_pairing_94 : decode cX12_pairing 94 = .ok (.aload_n 0, 1) := by decide +kernel
theorem dX12_pairing_95 : decode cX12_pairing 95 = .ok (.getfield 35, 3) := by decide +kernel
theorem dX12_pairing_98 : decode cX12_pairing 98 = .ok (.iload_n 1, 1) := by decide +kernel
theorem dX12_pairing_99 : decode cX12_pairing 99 = .ok (.iaload, 1) := by decide +kernel
theorem dX12_pairing_100 : decode cX12_pairing 100 = .ok (.ireturn, 1) := by decide +kernel
theorem dX12_ways_0 : decode cX12_ways 0 = .ok (.aload_n 0, 1) := by decide +kernel
theorem dX12_ways_1 : decode cX12_ways 1 = .ok (.iload_n 3, 1) := by decide +kernel
theorem dX12_ways_2 : decode cX12_ways 2 = .ok (.iconst 0, 1) := by decide +kernel
theorem dX12_ways_3 : decode cX12_ways 3 = .ok (.iconst 1, 1) := by decide +kernel
theorem dX12_ways_4 : decode cX12_ways 4 = .ok (.invokestatic 140, 3) := by decide +kernel
theorem dX12_ways_7 : decode cX12_ways 7 = .ok (.ifCond .ne 7, 3) := by decide +kernel
theorem dX12_ways_10 : decode cX12_ways 10 = .ok (.iconst 1, 1) := by decide +kernel
theorem dX12_ways_11 : decode cX12_ways 11 = .ok (.goto 33, 3) := by decide +kernel
theorem dX12_ways_14 : decode cX12_ways 14 = .ok (.aload_n 0, 1) := by decide +kernel
theorem dX12_ways_15 : decode cX12_ways 15 = .ok (.iload_n 1, 1) := by decide +kernel
theorem dX12_ways_16 : decode cX12_ways 16 = .ok (.invokevirtual 329, 3) := by decide +kernel
theorem dX12_ways_19 : decode cX12_ways 19 = .ok (.ifCond .eq 11, 3) := by decide +kernel
theorem dX12_ways_22 : decode cX12_ways 22 = .ok (.aload_n 0, 1) := by decide +kernel
theorem dX12_ways_23 : decode cX12_ways 23 = .ok (.iload_n 2, 1) := by decide +kernel
theorem dX12_ways_24 : decode cX12_ways 24 = .ok (.invokevirtual 329, 3) := by decide +kernel
theorem dX12_ways_27 : decode cX12_ways 27 = .ok (.ifCond .ne 7, 3) := by decide +kernel
theorem dX12_ways_30 : decode cX12_ways 30 = .ok (.iconst 2, 1) := by decide +kernel
theorem dX12_ways_31 : decode cX12_ways 31 = .ok (.goto 13, 3) := by decide +kernel
theorem dX12_ways_34 : decode cX12_ways 34 = .ok (.iload_n 1, 1) := by decide +kernel
theorem dX12_ways_35 : decode cX12_ways 35 = .ok (.iload_n 2, 1) := by decide +kernel
theorem dX12_ways_36 : decode cX12_ways 36 = .ok (.if_icmp .ne 7, 3) := by decide +kernel
theorem dX12_ways_39 : decode cX12_ways 39 = .ok (.iconst 4, 1) := by decide +kernel
theorem dX12_ways_40 : decode cX12_ways 40 = .ok (.goto 4, 3) := by decide +kernel
theorem dX12_ways_43 : decode cX12_ways 43 = .ok (.iconst 0, 1) := by decide +kernel
theorem dX12_ways_44 : decode cX12_ways 44 = .ok (.invokevirtual 310, 3) := by decide +kernel
theorem dX12_ways_47 : decode cX12_ways 47 = .ok (.ifCond .ne 5, 3) := by decide +kernel
theorem dX12_ways_50 : decode cX12_ways 50 = .ok (.iconst (-1), 1) := by decide +kernel
theorem dX12_ways_51 : decode cX12_ways 51 = .ok (.ireturn, 1) := by decide +kernel
theorem dX12_ways_52 : decode cX12_ways 52 = .ok (.aload_n 0, 1) := by decide +kernel
theorem dX12_ways_53 : decode cX12_ways 53 = .ok (.invokevirtual 194, 3) := by decide +kernel
theorem dX12_ways_56 : decode cX12_ways 56 = .ok (.iconst 0, 1) := by decide +kernel
theorem dX12_ways_57 : decode cX12_ways 57 = .ok (.istore 4, 2) := by decide +kernel
theorem dX12_ways_59 : decode cX12_ways 59 = .ok (.iconst 0, 1) := by decide +kernel
theorem dX12_ways_60 : decode cX12_ways 60 = .ok (.istore 5, 2) := by decide +kernel
theorem dX12_ways_62 : decode cX12_ways 62 = .ok (.iload 5, 2) := by decide +kernel
theorem dX12_ways_64 : decode cX12_ways 64 = .ok (.aload_n 0, 1) := by decide +kernel
theorem dX12_ways_65 : decode cX12_ways 65 = .ok (.getfield 172, 3) := by decide +kernel
theorem dX12_ways_68 : decode cX12_ways 68 = .ok (.if_icmp .ge 40, 3) := by decide +kernel
theorem dX12_ways_71 : decode cX12_ways 71 = .ok (.aload_n 0, 1) := by decide +kernel
theorem dX12_ways_72 : decode cX12_ways 72 = .ok (.iload 5, 2) := by decide +kernel
theorem dX12_ways_74 : decode cX12_ways 74 = .ok (.iload_n 1, 1) := by decide +kernel
theorem dX12_ways_75 : decode cX12_ways 75 = .ok (.invokevirtual 200, 3) := by decide +kernel
theorem dX12_ways_78 : decode cX12_ways 78 = .ok (.iload_n 2, 1) := by decide +kernel
theorem dX12_ways_79 : decode cX12_ways 79 = .ok (.if_icmp .ne 23, 3) := by decide +kernel
theorem dX12_ways_82 : decode cX12_ways 82 = .ok (.iload 4, 2) := by decide +kernel
theorem dX12_ways_84 : decode cX12_ways 84 = .ok (.iload_n 3, 1) := by decide +kernel
theorem dX12_ways_85 : decode cX12_ways 85 = .ok (.ifCond .ne 7, 3) := by decide +kernel
theorem dX12_ways_88 : decode cX12_ways 88 = .ok (.iconst 1, 1) := by decide +kernel
theorem dX12_ways_89 : decode cX12_ways 89 = .ok (.goto 10, 3) := by decide +kernel
theorem dX12_ways_92 : decode cX12_ways 92 = .ok (.aload_n 0, 1) := by decide +kernel
theorem dX12_ways_93 : decode cX12_ways 93 = .ok (.getfield 29, 3) := by decide +kernel
theorem dX12_ways_96 : decode cX12_ways 96 = .ok (.iload 5, 2) := by decide +kernel
theorem dX12_ways_98 : decode cX12_ways 98 = .ok (.iaload, 1) := by decide +kernel
theorem dX12_ways_99 : decode cX12_ways 99 = .ok (.iadd, 1) := by decide +kernel
theorem dX12_ways_100 : decode cX12_ways 100 = .ok (.istore 4, 2) := by decide +kernel
theorem dX12_ways_102 : decode cX12_ways 102 = .ok (.iinc 5 1, 3) := by decide +kernel
theorem dX12_ways_105 : decode cX12_ways 105 = .ok (.goto (-43), 3) := by decide +kernel
theorem dX12_ways_108 : decode cX12_ways 108 = .ok (.iload 4, 2) := by decide +kernel
theorem dX12_ways_110 : decode cX12_ways 110 = .ok (.ireturn, 1) := by decide +kernel
theorem dX12_ringsOf_0 : decode cX12_ringsOf 0 = .ok (.iconst 0, 1) := by decide +kernel
theorem dX12_ringsOf_1 : decode cX12_ringsOf 1 = .ok (.istore_n 3, 1) := by decide +kernel
theorem dX12_ringsOf_2 : decode cX12_ringsOf 2 = .ok (.iconst 0, 1) := by decide +kernel
theorem dX12_ringsOf_3 : decode cX12_ringsOf 3 = .ok (.istore 4, 2) := by decide +kernel
theorem dX12_ringsOf_5 : decode cX12_ringsOf 5 = .ok (.iconst 0, 1) := by decide +kernel
theorem dX12_ringsOf_6 : decode cX12_ringsOf 6 = .ok (.istore 5, 2) := by decide +kernel
theorem dX12_ringsOf_8 : decode cX12_ringsOf 8 = .ok (.iload 5, 2) := by decide +kernel
theorem dX12_ringsOf_10 : decode cX12_ringsOf 10 = .ok (.aload_n 0, 1) := by decide +kernel
theorem dX12_ringsOf_11 : decode cX12_ringsOf 11 = .ok (.getfield 124, 3) := by decide +kernel
theorem dX12_ringsOf_14 : decode cX12_ringsOf 14 = .ok (.if_icmp .ge 71, 3) := by decide +kernel
theorem dX12_ringsOf_17 : decode cX12_ringsOf 17 = .ok (.iload_n 3, 1) := by decide +kernel
theorem dX12_ringsOf_18 : decode cX12_ringsOf 18 = .ok (.iload 5, 2) := by decide +kernel
theorem dX12_ringsOf_20 : decode cX12_ringsOf 20 = .ok (.invokestatic 158, 3) := by decide +kernel
theorem dX12_ringsOf_23 : decode cX12_ringsOf 23 = .ok (.ifCond .eq 6, 3) := by decide +kernel
theorem dX12_ringsOf_26 : decode cX12_ringsOf 26 = .ok (.goto 53, 3) := by decide +kernel
theorem dX12_ringsOf_29 : decode cX12_ringsOf 29 = .ok (.iinc 4 1, 3) := by decide +kernel
theorem dX12_ringsOf_32 : decode cX12_ringsOf 32 = .ok (.iload 5, 2) := by decide +kernel
theorem dX12_ringsOf_34 : decode cX12_ringsOf 34 = .ok (.istore 6, 2) := by decide +kernel
theorem dX12_ringsOf_36 : decode cX12_ringsOf 36 = .ok (.iload_n 3, 1) := by decide +kernel
theorem dX12_ringsOf_37 : decode cX12_ringsOf 37 = .ok (.iload 6, 2) := by decide +kernel
theorem dX12_ringsOf_39 : decode cX12_ringsOf 39 = .ok (.invokestatic 158, 3) := by decide +kernel
theorem dX12_ringsOf_42 : decode cX12_ringsOf 42 = .ok (.ifCond .ne 37, 3) := by decide +kernel
theorem dX12_ringsOf_45 : decode cX12_ringsOf 45 = .ok (.iload_n 3, 1) := by decide +kernel
theorem dX12_ringsOf_46 : decode cX12_ringsOf 46 = .ok (.iconst 1, 1) := by decide +kernel
theorem dX12_ringsOf_47 : decode cX12_ringsOf 47 = .ok (.iload 6, 2) := by decide +kernel
theorem dX12_ringsOf_49 : decode cX12_ringsOf 49 = .ok (.ishl, 1) := by decide +kernel
theorem dX12_ringsOf_50 : decode cX12_ringsOf 50 = .ok (.iconst 1, 1) := by decide +kernel
theorem dX12_ringsOf_51 : decode cX12_ringsOf 51 = .ok (.aload_n 0, 1) := by decide +kernel
theorem dX12_ringsOf_52 : decode cX12_ringsOf 52 = .ok (.iload_n 1, 1) := by decide +kernel
theorem dX12_ringsOf_53 : decode cX12_ringsOf 53 = .ok (.iload 6, 2) := by decide +kernel
theorem dX12_ringsOf_55 : decode cX12_ringsOf 55 = .ok (.invokevirtual 200, 3) := by decide +kernel
theorem dX12_ringsOf_58 : decode cX12_ringsOf 58 = .ok (.ishl, 1) := by decide +kernel
theorem dX12_ringsOf_59 : decode cX12_ringsOf 59 = .ok (.ior, 1) := by decide +kernel
theorem dX12_ringsOf_60 : decode cX12_ringsOf 60 = .ok (.ior, 1) := by decide +kernel
theorem dX12_ringsOf_61 : decode cX12_ringsOf 61 = .ok (.istore_n 3, 1) := by decide +kernel
theorem dX12_ringsOf_62 : decode cX12_ringsOf 62 = .ok (.aload_n 0, 1) := by decide +kernel
theorem dX12_ringsOf_63 : decode cX12_ringsOf 63 = .ok (.iload_n 2, 1) := by decide +kernel
theorem dX12_ringsOf_64 : decode cX12_ringsOf 64 = .ok (.aload_n 0, 1) := by decide +kernel
theorem dX12_ringsOf_65 : decode cX12_ringsOf 65 = .ok (.iload_n 1, 1) := by decide +kernel
theorem dX12_ringsOf_66 : decode cX12_ringsOf 66 = .ok (.iload 6, 2) := by decide +kernel
theorem dX12_ringsOf_68 : decode cX12_ringsOf 68 = .ok (.invokevirtual 200, 3) := by decide +kernel
theorem dX12_ringsOf_71 : decode cX12_ringsOf 71 = .ok (.invokevirtual 200, 3) := by decide +kernel
theorem dX12_ringsOf_74 : decode cX12_ringsOf 74 = .ok (.istore 6, 2) := by decide +kernel
theorem dX12_ringsOf_76 : decode cX12_ringsOf 76 = .ok (.goto (-40), 3) := by decide +kernel
theorem dX12_ringsOf_79 : decode cX12_ringsOf 79 = .ok (.iinc 5 1, 3) := by decide +kernel
theorem dX12_ringsOf_82 : decode cX12_ringsOf 82 = .ok (.goto (-74), 3) := by decide +kernel
theorem dX12_ringsOf_85 : decode cX12_ringsOf 85 = .ok (.iload 4, 2) := by decide +kernel
theorem dX12_ringsOf_87 : decode cX12_ringsOf 87 = .ok (.ireturn, 1) := by decide +kernel
theorem dX12_overlay_0 : decode cX12_overlay 0 = .ok (.aload_n 0, 1) := by decide +kernel
theorem dX12_overlay_1 : decode cX12_overlay 1 = .ok (.iload_n 3, 1) := by decide +kernel
theorem dX12_overlay_2 : decode cX12_overlay 2 = .ok (.iconst 0, 1) := by decide +kernel
theorem dX12_overlay_3 : decode cX12_overlay 3 = .ok (.iconst 1, 1) := by decide +kernel
theorem dX12_overlay_4 : decode cX12_overlay 4 = .ok (.invokestatic 140, 3) := by decide +kernel
theorem dX12_overlay_7 : decode cX12_overlay 7 = .ok (.ifCond .ne 7, 3) := by decide +kernel
theorem dX12_overlay_10 : decode cX12_overlay 10 = .ok (.iconst 1, 1) := by decide +kernel
theorem dX12_overlay_11 : decode cX12_overlay 11 = .ok (.goto 24, 3) := by decide +kernel
theorem dX12_overlay_14 : decode cX12_overlay 14 = .ok (.aload_n 0, 1) := by decide +kernel
theorem dX12_overlay_15 : decode cX12_overlay 15 = .ok (.iload_n 1, 1) := by decide +kernel
theorem dX12_overlay_16 : decode cX12_overlay 16 = .ok (.invokevirtual 359, 3) := by decide +kernel
theorem dX12_overlay_19 : decode cX12_overlay 19 = .ok (.ifCond .eq 15, 3) := by decide +kernel
theorem dX12_overlay_22 : decode cX12_overlay 22 = .ok (.aload_n 0, 1) := by decide +kernel
theorem dX12_overlay_23 : decode cX12_overlay 23 = .ok (.iload_n 2, 1) := by decide +kernel
theorem dX12_overlay_24 : decode cX12_overlay 24 = .ok (.invokevirtual 359, 3) := by decide +kernel
theorem dX12_overlay_27 : decode cX12_overlay 27 = .ok (.ifCond .eq 7, 3) := by decide +kernel
theorem dX12_overlay_30 : decode cX12_overlay 30 = .ok (.iconst 0, 1) := by decide +kernel
theorem dX12_overlay_31 : decode cX12_overlay 31 = .ok (.goto 4, 3) := by decide +kernel
theorem dX12_overlay_34 : decode cX12_overlay 34 = .ok (.iconst 2, 1) := by decide +kernel
theorem dX12_overlay_35 : decode cX12_overlay 35 = .ok (.invokevirtual 310, 3) := by decide +kernel
theorem dX12_overlay_38 : decode cX12_overlay 38 = .ok (.ifCond .ne 5, 3) := by decide +kernel
theorem dX12_overlay_41 : decode cX12_overlay 41 = .ok (.iconst (-1), 1) := by decide +kernel
theorem dX12_overlay_42 : decode cX12_overlay 42 = .ok (.ireturn, 1) := by decide +kernel
theorem dX12_overlay_43 : decode cX12_overlay 43 = .ok (.iload_n 3, 1) := by decide +kernel
theorem dX12_overlay_44 : decode cX12_overlay 44 = .ok (.iconst 1, 1) := by decide +kernel
theorem dX12_overlay_45 : decode cX12_overlay 45 = .ok (.if_icmp .ne 10, 3) := by decide +kernel
theorem dX12_overlay_48 : decode cX12_overlay 48 = .ok (.aload_n 0, 1) := by decide +kernel
theorem dX12_overlay_49 : decode cX12_overlay 49 = .ok (.iload_n 1, 1) := by decide +kernel
theorem dX12_overlay_50 : decode cX12_overlay 50 = .ok (.iload_n 2, 1) := by decide +kernel
theorem dX12_overlay_51 : decode cX12_overlay 51 = .ok (.invokevirtual 367, 3) := by decide +kernel
theorem dX12_overlay_54 : decode cX12_overlay 54 = .ok (.ireturn, 1) := by decide +kernel
theorem dX12_overlay_55 : decode cX12_overlay 55 = .ok (.iconst 0, 1) := by decide +kernel
theorem dX12_overlay_56 : decode cX12_overlay 56 = .ok (.istore 4, 2) := by decide +kernel
theorem dX12_overlay_58 : decode cX12_overlay 58 = .ok (.iconst 0, 1) := by decide +kernel
theorem dX12_overlay_59 : decode cX12_overlay 59 = .ok (.istore 5, 2) := by decide +kernel
theorem dX12_overlay_61 : decode cX12_overlay 61 = .ok (.iload 5, 2) := by decide +kernel
theorem dX12_overlay_63 : decode cX12_overlay 63 = .ok (.aload_n 0, 1) := by decide +kernel
theorem dX12_overlay_64 : decode cX12_overlay 64 = .ok (.getfield 124, 3) := by decide +kernel
theorem dX12_overlay_67 : decode cX12_overlay 67 = .ok (.if_icmp .ge 36, 3) := by decide +kernel
theorem dX12_overlay_70 : decode cX12_overlay 70 = .ok (.iload 4, 2) := by decide +kernel
theorem dX12_overlay_72 : decode cX12_overlay 72 = .ok (.aload_n 0, 1) := by decide +kernel
theorem dX12_overlay_73 : decode cX12_overlay 73 = .ok (.iload_n 1, 1) := by decide +kernel
theorem dX12_overlay_74 : decode cX12_overlay 74 = .ok (.iload 5, 2) := by decide +kernel
theorem dX12_overlay_76 : decode cX12_overlay 76 = .ok (.invokevirtual 200, 3) := by decide +kernel
theorem dX12_overlay_79 : decode cX12_overlay 79 = .ok (.aload_n 0, 1) := by decide +kernel
theorem dX12_overlay_80 : decode cX12_overlay 80 = .ok (.iload_n 2, 1) := by decide +kernel
theorem dX12_overlay_81 : decode cX12_overlay 81 = .ok (.iload 5, 2) := by decide +kernel
theorem dX12_overlay_83 : decode cX12_overlay 83 = .ok (.invokevirtual 200, 3) := by decide +kernel
theorem dX12_overlay_86 : decode cX12_overlay 86 = .ok (.if_icmp .ne 7, 3) := by decide +kernel
theorem dX12_overlay_89 : decode cX12_overlay 89 = .ok (.iconst 1, 1) := by decide +kernel
theorem dX12_overlay_90 : decode cX12_overlay 90 = .ok (.goto 4, 3) := by decide +kernel
theorem dX12_overlay_93 : decode cX12_overlay 93 = .ok (.iconst 0, 1) := by decide +kernel
theorem dX12_overlay_94 : decode cX12_overlay 94 = .ok (.iadd, 1) := by decide +kernel
theorem dX12_overlay_95 : decode cX12_overlay 95 = .ok (.istore 4, 2) := by decide +kernel
theorem dX12_overlay_97 : decode cX12_overlay 97 = .ok (.iinc 5 1, 3) := by decide +kernel
theorem dX12_overlay_100 : decode cX12_overlay 100 = .ok (.goto (-39), 3) := by decide +kernel
theorem dX12_overlay_103 : decode cX12_overlay 103 = .ok (.iload 4, 2) := by decide +kernel
theorem dX12_overlay_105 : decode cX12_overlay 105 = .ok (.iconst 2, 1) := by decide +kernel
theorem dX12_overlay_106 : decode cX12_overlay 106 = .ok (.idiv, 1) := by decide +kernel
theorem dX12_overlay_107 : decode cX12_overlay 107 = .ok (.ireturn, 1) := by decide +kernel
theorem dX12_isSuch_0 : decode cX12_isSuch 0 = .ok (.iload_n 2, 1) := by decide +kernel
theorem dX12_isSuch_1 : decode cX12_isSuch 1 = .ok (.ifCond .ne 12, 3) := by decide +kernel
theorem dX12_isSuch_4 : decode cX12_isSuch 4 = .ok (.aload_n 0, 1) := by decide +kernel
theorem dX12_isSuch_5 : decode cX12_isSuch 5 = .ok (.getfield 32, 3) := by decide +kernel
theorem dX12_isSuch_8 : decode cX12_isSuch 8 = .ok (.iload_n 1, 1) := by decide +kernel
theorem dX12_isSuch_9 : decode cX12_isSuch 9 = .ok (.iaload, 1) := by decide +kernel
theorem dX12_isSuch_10 : decode cX12_isSuch 10 = .ok (.goto 8, 3) := by decide +kernel
theorem dX12_isSuch_13 : decode cX12_isSuch 13 = .ok (.aload_n 0, 1) := by decide +kernel
theorem dX12_isSuch_14 : decode cX12_isSuch 14 = .ok (.iload_n 1, 1) := by decide +kernel
theorem dX12_isSuch_15 : decode cX12_isSuch 15 = .ok (.invokevirtual 362, 3) := by decide +kernel
theorem dX12_isSuch_18 : decode cX12_isSuch 18 = .ok (.iload_n 3, 1) := by decide +kernel
theorem dX12_isSuch_19 : decode cX12_isSuch 19 = .ok (.if_icmp .ne 7, 3) := by decide +kernel
theorem dX12_isSuch_22 : decode cX12_isSuch 22 = .ok (.iconst 1, 1) := by decide +kernel
theorem dX12_isSuch_23 : decode cX12_isSuch 23 = .ok (.goto 4, 3) := by decide +kernel
theorem dX12_isSuch_26 : decode cX12_isSuch 26 = .ok (.iconst 0, 1) := by decide +kernel
theorem dX12_isSuch_27 : decode cX12_isSuch 27 = .ok (.ireturn, 1) := by decide +kernel
theorem dX12_summed_0 : decode cX12_summed 0 = .ok (.aload_n 0, 1) := by decide +kernel
theorem dX12_summed_1 : decode cX12_summed 1 = .ok (.iload_n 1, 1) := by decide +kernel
theorem dX12_summed_2 : decode cX12_summed 2 = .ok (.iconst 0, 1) := by decide +kernel
theorem dX12_summed_3 : decode cX12_summed 3 = .ok (.iconst 1, 1) := by decide +kernel
theorem dX12_summed_4 : decode cX12_summed 4 = .ok (.invokestatic 140, 3) := by decide +kernel
theorem dX12_summed_7 : decode cX12_summed 7 = .ok (.ifCond .eq 11, 3) := by decide +kernel
