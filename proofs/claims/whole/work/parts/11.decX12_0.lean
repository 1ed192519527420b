theorem dX12_init_0 : decode cX12_init 0 = .ok (.aload_n 0, 1) := by decide +kernel
theorem dX12_init_1 : decode cX12_init 1 = .ok (.invokespecial 1, 3) := by decide +kernel
theorem dX12_init_4 : decode cX12_init 4 = .ok (.aload_n 0, 1) := by decide +kernel
theorem dX12_init_5 : decode cX12_init 5 = .ok (.bipush 104, 2) := by decide +kernel
theorem dX12_init_7 : decode cX12_init 7 = .ok (.newarray .int, 2) := by decide +kernel
theorem dX12_init_9 : decode cX12_init 9 = .ok (.putfield 7, 3) := by decide +kernel
theorem dX12_init_12 : decode cX12_init 12 = .ok (.aload_n 0, 1) := by decide +kernel
theorem dX12_init_13 : decode cX12_init 13 = .ok (.bipush 104, 2) := by decide +kernel
theorem dX12_init_15 : decode cX12_init 15 = .ok (.newarray .int, 2) := by decide +kernel
theorem dX12_init_17 : decode cX12_init 17 = .ok (.putfield 13, 3) := by decide +kernel
theorem dX12_init_20 : decode cX12_init 20 = .ok (.aload_n 0, 1) := by decide +kernel
theorem dX12_init_21 : decode cX12_init 21 = .ok (.sipush 800, 3) := by decide +kernel
theorem dX12_init_24 : decode cX12_init 24 = .ok (.newarray .int, 2) := by decide +kernel
theorem dX12_init_26 : decode cX12_init 26 = .ok (.putfield 16, 3) := by decide +kernel
theorem dX12_init_29 : decode cX12_init 29 = .ok (.aload_n 0, 1) := by decide +kernel
theorem dX12_init_30 : decode cX12_init 30 = .ok (.bipush 12, 2) := by decide +kernel
theorem dX12_init_32 : decode cX12_init 32 = .ok (.newarray .int, 2) := by decide +kernel
theorem dX12_init_34 : decode cX12_init 34 = .ok (.putfield 19, 3) := by decide +kernel
theorem dX12_init_37 : decode cX12_init 37 = .ok (.aload_n 0, 1) := by decide +kernel
theorem dX12_init_38 : decode cX12_init 38 = .ok (.bipush 12, 2) := by decide +kernel
theorem dX12_init_40 : decode cX12_init 40 = .ok (.newarray .int, 2) := by decide +kernel
theorem dX12_init_42 : decode cX12_init 42 = .ok (.putfield 22, 3) := by decide +kernel
theorem dX12_init_45 : decode cX12_init 45 = .ok (.aload_n 0, 1) := by decide +kernel
theorem dX12_init_46 : decode cX12_init 46 = .ok (.ldc 25, 2) := by decide +kernel
theorem dX12_init_48 : decode cX12_init 48 = .ok (.newarray .int, 2) := by decide +kernel
theorem dX12_init_50 : decode cX12_init 50 = .ok (.putfield 26, 3) := by decide +kernel
theorem dX12_init_53 : decode cX12_init 53 = .ok (.aload_n 0, 1) := by decide +kernel
theorem dX12_init_54 : decode cX12_init 54 = .ok (.sipush 10395, 3) := by decide +kernel
theorem dX12_init_57 : decode cX12_init 57 = .ok (.newarray .int, 2) := by decide +kernel
theorem dX12_init_59 : decode cX12_init 59 = .ok (.putfield 29, 3) := by decide +kernel
theorem dX12_init_62 : decode cX12_init 62 = .ok (.aload_n 0, 1) := by decide +kernel
theorem dX12_init_63 : decode cX12_init 63 = .ok (.sipush 10395, 3) := by decide +kernel
theorem dX12_init_66 : decode cX12_init 66 = .ok (.newarray .int, 2) := by decide +kernel
theorem dX12_init_68 : decode cX12_init 68 = .ok (.putfield 32, 3) := by decide +kernel
theorem dX12_init_71 : decode cX12_init 71 = .ok (.aload_n 0, 1) := by decide +kernel
theorem dX12_init_72 : decode cX12_init 72 = .ok (.sipush 10395, 3) := by decide +kernel
theorem dX12_init_75 : decode cX12_init 75 = .ok (.newarray .int, 2) := by decide +kernel
theorem dX12_init_77 : decode cX12_init 77 = .ok (.putfield 35, 3) := by decide +kernel
theorem dX12_init_80 : decode cX12_init 80 = .ok (.aload_n 0, 1) := by decide +kernel
theorem dX12_init_81 : decode cX12_init 81 = .ok (.sipush 10395, 3) := by decide +kernel
theorem dX12_init_84 : decode cX12_init 84 = .ok (.newarray .int, 2) := by decide +kernel
theorem dX12_init_86 : decode cX12_init 86 = .ok (.putfield 38, 3) := by decide +kernel
theorem dX12_init_89 : decode cX12_init 89 = .ok (.aload_n 0, 1) := by decide +kernel
theorem dX12_init_90 : decode cX12_init 90 = .ok (.bipush 12, 2) := by decide +kernel
theorem dX12_init_92 : decode cX12_init 92 = .ok (.newarray .int, 2) := by decide +kernel
theorem dX12_init_94 : decode cX12_init 94 = .ok (.putfield 41, 3) := by decide +kernel
theorem dX12_init_97 : decode cX12_init 97 = .ok (.aload_n 0, 1) := by decide +kernel
theorem dX12_init_98 : decode cX12_init 98 = .ok (.bipush 6, 2) := by decide +kernel
theorem dX12_init_100 : decode cX12_init 100 = .ok (.newarray .int, 2) := by decide +kernel
theorem dX12_init_102 : decode cX12_init 102 = .ok (.putfield 44, 3) := by decide +kernel
theorem dX12_init_105 : decode cX12_init 105 = .ok (.aload_n 0, 1) := by decide +kernel
theorem dX12_init_106 : decode cX12_init 106 = .ok (.bipush 6, 2) := by decide +kernel
theorem dX12_init_108 : decode cX12_init 108 = .ok (.newarray .int, 2) := by decide +kernel
theorem dX12_init_110 : decode cX12_init 110 = .ok (.putfield 47, 3) := by decide +kernel
theorem dX12_init_113 : decode cX12_init 113 = .ok (.aload_n 0, 1) := by decide +kernel
theorem dX12_init_114 : decode cX12_init 114 = .ok (.bipush 8, 2) := by decide +kernel
theorem dX12_init_116 : decode cX12_init 116 = .ok (.newarray .int, 2) := by decide +kernel
theorem dX12_init_118 : decode cX12_init 118 = .ok (.putfield 50, 3) := by decide +kernel
theorem dX12_init_121 : decode cX12_init 121 = .ok (.aload_n 0, 1) := by decide +kernel
theorem dX12_init_122 : decode cX12_init 122 = .ok (.sipush 10395, 3) := by decide +kernel
theorem dX12_init_125 : decode cX12_init 125 = .ok (.newarray .long, 2) := by decide +kernel
theorem dX12_init_127 : decode cX12_init 127 = .ok (.putfield 53, 3) := by decide +kernel
theorem dX12_init_130 : decode cX12_init 130 = .ok (.aload_n 0, 1) := by decide +kernel
theorem dX12_init_131 : decode cX12_init 131 = .ok (.sipush 10395, 3) := by decide +kernel
theorem dX12_init_134 : decode cX12_init 134 = .ok (.newarray .long, 2) := by decide +kernel
theorem dX12_init_136 : decode cX12_init 136 = .ok (.putfield 57, 3) := by decide +kernel
theorem dX12_init_139 : decode cX12_init 139 = .ok (.aload_n 0, 1) := by decide +kernel
theorem dX12_init_140 : decode cX12_init 140 = .ok (.sipush 10395, 3) := by decide +kernel
theorem dX12_init_143 : decode cX12_init 143 = .ok (.newarray .long, 2) := by decide +kernel
theorem dX12_init_145 : decode cX12_init 145 = .ok (.putfield 60, 3) := by decide +kernel
theorem dX12_init_148 : decode cX12_init 148 = .ok (.aload_n 0, 1) := by decide +kernel
theorem dX12_init_149 : decode cX12_init 149 = .ok (.sipush 10395, 3) := by decide +kernel
theorem dX12_init_152 : decode cX12_init 152 = .ok (.newarray .long, 2) := by decide +kernel
theorem dX12_init_154 : decode cX12_init 154 = .ok (.putfield 63, 3) := by decide +kernel
theorem dX12_init_157 : decode cX12_init 157 = .ok (.aload_n 0, 1) := by decide +kernel
theorem dX12_init_158 : decode cX12_init 158 = .ok (.bipush 9, 2) := by decide +kernel
theorem dX12_init_160 : decode cX12_init 160 = .ok (.newarray .int, 2) := by decide +kernel
theorem dX12_init_162 : decode cX12_init 162 = .ok (.putfield 66, 3) := by decide +kernel
theorem dX12_init_165 : decode cX12_init 165 = .ok (.aload_n 0, 1) := by decide +kernel
theorem dX12_init_166 : decode cX12_init 166 = .ok (.iconst 4, 1) := by decide +kernel
theorem dX12_init_167 : decode cX12_init 167 = .ok (.newarray .int, 2) := by decide +kernel
theorem dX12_init_169 : decode cX12_init 169 = .ok (.putfield 69, 3) := by decide +kernel
theorem dX12_init_172 : decode cX12_init 172 = .ok (.aload_n 0, 1) := by decide +kernel
theorem dX12_init_173 : decode cX12_init 173 = .ok (.bipush 100, 2) := by decide +kernel
theorem dX12_init_175 : decode cX12_init 175 = .ok (.newarray .int, 2) := by decide +kernel
theorem dX12_init_177 : decode cX12_init 177 = .ok (.putfield 72, 3) := by decide +kernel
theorem dX12_init_180 : decode cX12_init 180 = .ok (.aload_n 0, 1) := by decide +kernel
theorem dX12_init_181 : decode cX12_init 181 = .ok (.sipush 400, 3) := by decide +kernel
theorem dX12_init_184 : decode cX12_init 184 = .ok (.newarray .byte, 2) := by decide +kernel
theorem dX12_init_186 : decode cX12_init 186 = .ok (.putfield 75, 3) := by decide +kernel
theorem dX12_init_189 : decode cX12_init 189 = .ok (.aload_n 0, 1) := by decide +kernel
theorem dX12_init_190 : decode cX12_init 190 = .ok (.iconst (-1), 1) := by decide +kernel
theorem dX12_init_191 : decode cX12_init 191 = .ok (.putfield 79, 3) := by decide +kernel
theorem dX12_init_194 : decode cX12_init 194 = .ok (.aload_n 0, 1) := by decide +kernel
theorem dX12_init_195 : decode cX12_init 195 = .ok (.iconst (-1), 1) := by decide +kernel
theorem dX12_init_196 : decode cX12_init 196 = .ok (.putfield 83, 3) := by decide +kernel
theorem dX12_init_199 : decode cX12_init 199 = .ok (.aload_n 0, 1) := by decide +kernel
theorem dX12_init_200 : decode cX12_init 200 = .ok (.bipush 8, 2) := by decide +kernel
theorem dX12_init_202 : decode cX12_init 202 = .ok (.newarray .long, 2) := by decide +kernel
theorem dX12_init_204 : decode cX12_init 204 = .ok (.dup, 1) := by decide +kernel
theorem dX12_init_205 : decode cX12_init 205 = .ok (.iconst 0, 1) := by decide +kernel
theorem dX12_init_206 : decode cX12_init 206 = .ok (.ldc2_w 86, 3) := by decide +kernel
theorem dX12_init_209 : decode cX12_init 209 = .ok (.lastore, 1) := by decide +kernel
theorem dX12_init_210 : decode cX12_init 210 = .ok (.dup, 1) := by decide +kernel
theorem dX12_init_211 : decode cX12_init 211 = .ok (.iconst 1, 1) := by decide +kernel
theorem dX12_init_212 : decode cX12_init 212 = .ok (.ldc2_w 88, 3) := by decide +kernel
theorem dX12_init_215 : decode cX12_init 215 = .ok (.lastore, 1) := by decide +kernel
theorem dX12_init_216 : decode cX12_init 216 = .ok (.dup, 1) := by decide +kernel
theorem dX12_init_217 : decode cX12_init 217 = .ok (.iconst 2, 1) := by decide +kernel
theorem dX12_init_218 : decode cX12_init 218 = .ok (.ldc2_w 90, 3) := by decide +kernel
theorem dX12_init_221 : decode cX12_init 221 = .ok (.lastore, 1) := by decide +kernel
theorem dX12_init_222 : decode cX12_init 222 = .ok (.dup, 1) := by decide +kernel
theorem dX12_init_223 : decode cX12_init 223 = .ok (.iconst 3, 1) := by decide +kernel
theorem dX12_init_224 : decode cX12_init 224 = .ok (.ldc2_w 92, 3) := by decide +kernel
theorem dX12_init_227 : decode cX12_init 227 = .ok (.lastore, 1) := by decide +kernel
theorem dX12_init_228 : decode cX12_init 228 = .ok (.dup, 1) := by decide +kernel
theorem dX12_init_229 : decode cX12_init 229 = .ok (.iconst 4, 1) := by decide +kernel
theorem dX12_init_230 : decode cX12_init 230 = .ok (.ldc2_w 94, 3) := by decide +kernel
theorem dX12_init_233 : decode cX12_init 233 = .ok (.lastore, 1) := by decide +kernel
theorem dX12_init_234 : decode cX12_init 234 = .ok (.dup, 1) := by decide +kernel
theorem dX12_init_235 : decode cX12_init 235 = .ok (.iconst 5, 1) := by decide +kernel
theorem dX12_init_236 : decode cX12_init 236 = .ok (.ldc2_w 96, 3) := by decide +kernel
theorem dX12_init_239 : decode cX12_init 239 = .ok (.lastore, 1) := by decide +kernel
theorem dX12_init_240 : decode cX12_init 240 = .ok (.dup, 1) := by decide +kernel
theorem dX12_init_241 : decode cX12_init 241 = .ok (.bipush 6, 2) := by decide +kernel
theorem dX12_init_243 : decode cX12_init 243 = .ok (.ldc2_w 98, 3) := by decide +kernel
theorem dX12_init_246 : decode cX12_init 246 = .ok (.lastore, 1) := by decide +kernel
theorem dX12_init_247 : decode cX12_init 247 = .ok (.dup, 1) := by decide +kernel
theorem dX12_init_248 : decode cX12_init 248 = .ok (.bipush 7, 2) := by decide +kernel
theorem dX12_init_250 : decode cX12_init 250 = .ok (.ldc2_w 100, 3) := by decide +kernel
theorem dX12_init_253 : decode cX12_init 253 = .ok (.lastore, 1) := by decide +kernel
theorem dX12_init_254 : decode cX12_init 254 = .ok (.putfield 102, 3) := by decide +kernel
theorem dX12_init_257 : decode cX12_init 257 = .ok (.aload_n 0, 1) := by decide +kernel
theorem dX12_init_258 : decode cX12_init 258 = .ok (.bipush 12, 2) := by decide +kernel
theorem dX12_init_260 : decode cX12_init 260 = .ok (.newarray .int, 2) := by decide +kernel
theorem dX12_init_262 : decode cX12_init 262 = .ok (.putfield 105, 3) := by decide +kernel
theorem dX12_init_265 : decode cX12_init 265 = .ok (.aload_n 0, 1) := by decide +kernel
theorem dX12_init_266 : decode cX12_init 266 = .ok (.bipush 6, 2) := by decide +kernel
theorem dX12_init_268 : decode cX12_init 268 = .ok (.newarray .int, 2) := by decide +kernel
theorem dX12_init_270 : decode cX12_init 270 = .ok (.putfield 108, 3) := by decide +kernel
theorem dX12_init_273 : decode cX12_init 273 = .ok (.aload_n 0, 1) := by decide +kernel
theorem dX12_init_274 : decode cX12_init 274 = .ok (.invokevirtual 111, 3) := by decide +kernel
theorem dX12_init_277 : decode cX12_init 277 = .ok (.return_, 1) := by decide +kernel
theorem dX12_status_0 : decode cX12_status 0 = .ok (.aload_n 0, 1) := by decide +kernel
theorem dX12_status_1 : decode cX12_status 1 = .ok (.iconst 0, 1) := by decide +kernel
theorem dX12_status_2 : decode cX12_status 2 = .ok (.putfield 114, 3) := by decide +kernel
theorem dX12_status_5 : decode cX12_status 5 = .ok (.aload_n 0, 1) := by decide +kernel
theorem dX12_status_6 : decode cX12_status 6 = .ok (.getfield 117, 3) := by decide +kernel
theorem dX12_status_9 : decode cX12_status 9 = .ok (.ireturn, 1) := by decide +kernel
theorem dX12_refuse_0 : decode cX12_refuse 0 = .ok (.aload_n 0, 1) := by decide +kernel
theorem dX12_refuse_1 : decode cX12_refuse 1 = .ok (.iload_n 1, 1) := by decide +kernel
theorem dX12_refuse_2 : decode cX12_refuse 2 = .ok (.putfield 117, 3) := by decide +kernel
theorem dX12_refuse_5 : decode cX12_refuse 5 = .ok (.iconst (-1), 1) := by decide +kernel
theorem dX12_refuse_6 : decode cX12_refuse 6 = .ok (.ireturn, 1) := by decide +kernel
theorem dX12_is_0 : decode cX12_is 0 = .ok (.aload_n 0, 1) := by decide +kernel
theorem dX12_is_1 : decode cX12_is 1 = .ok (.iconst 0, 1) := by decide +kernel
theorem dX12_is_2 : decode cX12_is 2 = .ok (.putfield 114, 3) := by decide +kernel
theorem dX12_is_5 : decode cX12_is 5 = .ok (.aload_n 0, 1) := by decide +kernel
theorem dX12_is_6 : decode cX12_is 6 = .ok (.iload_n 1, 1) := by decide +kernel
theorem dX12_is_7 : decode cX12_is 7 = .ok (.putfield 117, 3) := by decide +kernel
theorem dX12_is_10 : decode cX12_is 10 = .ok (.iload_n 1, 1) := by decide +kernel
theorem dX12_is_11 : decode cX12_is 11 = .ok (.ifCond .ne 7, 3) := by decide +kernel
theorem dX12_is_14 : decode cX12_is 14 = .ok (.iconst 1, 1) := by decide +kernel
theorem dX12_is_15 : decode cX12_is 15 = .ok (.goto 4, 3) := by decide +kernel
theorem dX12_is_18 : decode cX12_is 18 = .ok (.iconst 0, 1) := by decide +kernel
theorem dX12_is_19 : decode cX12_is 19 = .ok (.ireturn, 1) := by decide +kernel
theorem dX12_isIn_0 : decode cX12_isIn 0 = .ok (.iload_n 0, 1) := by decide +kernel
theorem dX12_isIn_1 : decode cX12_isIn 1 = .ok (.iload_n 1, 1) := by decide +kernel
theorem dX12_isIn_2 : decode cX12_isIn 2 = .ok (.if_icmp .lt 12, 3) := by decide +kernel
theorem dX12_isIn_5 : decode cX12_isIn 5 = .ok (.iload_n 0, 1) := by decide +kernel
theorem dX12_isIn_6 : decode cX12_isIn 6 = .ok (.iload_n 2, 1) := by decide +kernel
theorem dX12_isIn_7 : decode cX12_isIn 7 = .ok (.if_icmp .gt 7, 3) := by decide +kernel
theorem dX12_isIn_10 : decode cX12_isIn 10 = .ok (.iconst 1, 1) := by decide +kernel
theorem dX12_isIn_11 : decode cX12_isIn 11 = .ok (.goto 4, 3) := by decide +kernel
theorem dX12_isIn_14 : decode cX12_isIn 14 = .ok (.iconst 0, 1) := by decide +kernel
theorem dX12_isIn_15 : decode cX12_isIn 15 = .ok (.ireturn, 1) := by decide +kernel
theorem dX12_has_0 : decode cX12_has 0 = .ok (.iload_n 0, 1) := by decide +kernel
theorem dX12_has_1 : decode cX12_has 1 = .ok (.iload_n 1, 1) := by decide +kernel
theorem dX12_has_2 : decode cX12_has 2 = .ok (.ishr, 1) := by decide +kernel
theorem dX12_has_3 : decode cX12_has 3 = .ok (.iconst 1, 1) := by decide +kernel
theorem dX12_has_4 : decode cX12_has 4 = .ok (.iand, 1) := by decide +kernel
theorem dX12_has_5 : decode cX12_has 5 = .ok (.iconst 1, 1) := by decide +kernel
theorem dX12_has_6 : decode cX12_has 6 = .ok (.if_icmp .ne 7, 3) := by decide +kernel
theorem dX12_has_9 : decode cX12_has 9 = .ok (.iconst 1, 1) := by decide +kernel
theorem dX12_has_10 : decode cX12_has 10 = .ok (.goto 4, 3) := by decide +kernel
theorem dX12_has_13 : decode cX12_has 13 = .ok (.iconst 0, 1) := by decide +kernel
theorem dX12_has_14 : decode cX12_has 14 = .ok (.ireturn, 1) := by decide +kernel
theorem dX12_unworths_0 : decode cX12_unworths 0 = .ok (.iconst 0, 1) := by decide +kernel
theorem dX12_unworths_1 : decode cX12_unworths 1 = .ok (.istore_n 1, 1) := by decide +kernel
theorem dX12_unworths_2 : decode cX12_unworths 2 = .ok (.iload_n 1, 1) := by decide +kernel
theorem dX12_unworths_3 : decode cX12_unworths 3 = .ok (.sipush 800, 3) := by decide +kernel
theorem dX12_unworths_6 : decode cX12_unworths 6 = .ok (.if_icmp .ge 16, 3) := by decide +kernel
theorem dX12_unworths_9 : decode cX12_unworths 9 = .ok (.aload_n 0, 1) := by decide +kernel
theorem dX12_unworths_10 : decode cX12_unworths 10 = .ok (.getfield 16, 3) := by decide +kernel
theorem dX12_unworths_13 : decode cX12_unworths 13 = .ok (.iload_n 1, 1) := by decide +kernel
theorem dX12_unworths_14 : decode cX12_unworths 14 = .ok (.iconst 1, 1) := by decide +kernel
theorem dX12_unworths_15 : decode cX12_unworths 15 = .ok (.iastore, 1) := by decide +kernel
theorem dX12_unworths_16 : decode cX12_unworths 16 = .ok (.iinc 1 1, 3) := by decide +kernel
theorem dX12_unworths_19 : decode cX12_unworths 19 = .ok (.goto (-17), 3) := by decide +kernel
theorem dX12_unworths_22 : decode cX12_unworths 22 = .ok (.return_, 1) := by decide +kernel
theorem dX12_at_0 : decode cX12_at 0 = .ok (.bipush 32, 2) := by decide +kernel
theorem dX12_at_2 : decode cX12_at 2 = .ok (.bipush 9, 2) := by decide +kernel
theorem dX12_at_4 : decode cX12_at 4 = .ok (.iload_n 1, 1) := by decide +kernel
theorem dX12_at_5 : decode cX12_at 5 = .ok (.imul, 1) := by decide +kernel
theorem dX12_at_6 : decode cX12_at 6 = .ok (.iadd, 1) := by decide +kernel
theorem dX12_at_7 : decode cX12_at 7 = .ok (.ireturn, 1) := by decide +kernel
theorem dX12_sizeOf_0 : decode cX12_sizeOf 0 = .ok (.aload_n 0, 1) := by decide +kernel
theorem dX12_sizeOf_1 : decode cX12_sizeOf 1 = .ok (.getfield 7, 3) := by decide +kernel
theorem dX12_sizeOf_4 : decode cX12_sizeOf 4 = .ok (.aload_n 0, 1) := by decide +kernel
theorem dX12_sizeOf_5 : decode cX12_sizeOf 5 = .ok (.iload_n 1, 1) := by decide +kernel
theorem dX12_sizeOf_6 : decode cX12_sizeOf 6 = .ok (.invokevirtual 120, 3) := by decide +kernel
theorem dX12_sizeOf_9 : decode cX12_sizeOf 9 = .ok (.iaload, 1) := by decide +kernel
theorem dX12_sizeOf_10 : decode cX12_sizeOf 10 = .ok (.ireturn, 1) := by decide +kernel
theorem dX12_isVertex_0 : decode cX12_isVertex 0 = .ok (.aload_n 0, 1) := by decide +kernel
theorem dX12_isVertex_1 : decode cX12_isVertex 1 = .ok (.getfield 7, 3) := by decide +kernel
theorem dX12_isVertex_4 : decode cX12_isVertex 4 = .ok (.aload_n 0, 1) := by decide +kernel
theorem dX12_isVertex_5 : decode cX12_isVertex 5 = .ok (.iload_n 1, 1) := by decide +kernel
theorem dX12_isVertex_6 : decode cX12_isVertex 6 = .ok (.invokevirtual 120, 3) := by decide +kernel
theorem dX12_isVertex_9 : decode cX12_isVertex 9 = .ok (.iconst 1, 1) := by decide +kernel
theorem dX12_isVertex_10 : decode cX12_isVertex 10 = .ok (.iadd, 1) := by decide +kernel
theorem dX12_isVertex_11 : decode cX12_isVertex 11 = .ok (.iaload, 1) := by decide +kernel
theorem dX12_isVertex_12 : decode cX12_isVertex 12 = .ok (.iconst 1, 1) := by decide +kernel
theorem dX12_isVertex_13 : decode cX12_isVertex 13 = .ok (.if_icmp .ne 7, 3) := by decide +kernel
theorem dX12_isVertex_16 : decode cX12_isVertex 16 = .ok (.iconst 1, 1) := by decide +kernel
theorem dX12_isVertex_17 : decode cX12_isVertex 17 = .ok (.goto 4, 3) := by decide +kernel
theorem dX12_isVertex_20 : decode cX12_isVertex 20 = .ok (.iconst 0, 1) := by decide +kernel
theorem dX12_isVertex_21 : decode cX12_isVertex 21 = .ok (.ireturn, 1) := by decide +kernel
theorem dX12_isNormal_0 : decode cX12_isNormal 0 = .ok (.aload_n 0, 1) := by decide +kernel
theorem dX12_isNormal_1 : decode cX12_isNormal 1 = .ok (.getfield 7, 3) := by decide +kernel
theorem dX12_isNormal_4 : decode cX12_isNormal 4 = .ok (.aload_n 0, 1) := by decide +kernel
theorem dX12_isNormal_5 : decode cX12_isNormal 5 = .ok (.iload_n 1, 1) := by decide +kernel
theorem dX12_isNormal_6 : decode cX12_isNormal 6 = .ok (.invokevirtual 120, 3) := by decide +kernel
theorem dX12_isNormal_9 : decode cX12_isNormal 9 = .ok (.iconst 2, 1) := by decide +kernel
theorem dX12_isNormal_10 : decode cX12_isNormal 10 = .ok (.iadd, 1) := by decide +kernel
theorem dX12_isNormal_11 : decode cX12_isNormal 11 = .ok (.iaload, 1) := by decide +kernel
theorem dX12_isNormal_12 : decode cX12_isNormal 12 = .ok (.iconst 1, 1) := by decide +kernel
theorem dX12_isNormal_13 : decode cX12_isNormal 13 = .ok (.if_icmp .ne 7, 3) := by decide +kernel
theorem dX12_isNormal_16 : decode cX12_isNormal 16 = .ok (.iconst 1, 1) := by decide +kernel
theorem dX12_isNormal_17 : decode cX12_isNormal 17 = .ok (.goto 4, 3) := by decide +kernel
theorem dX12_isNormal_20 : decode cX12_isNormal 20 = .ok (.iconst 0, 1) := by decide +kernel
theorem dX12_isNormal_21 : decode cX12_isNormal 21 = .ok (.ireturn, 1) := by decide +kernel
theorem dX12_isPair_0 : decode cX12_isPair 0 = .ok (.aload_n 0, 1) := by decide +kernel
theorem dX12_isPair_1 : decode cX12_isPair 1 = .ok (.getfield 7, 3) := by decide +kernel
theorem dX12_isPair_4 : decode cX12_isPair 4 = .ok (.iconst 4, 1) := by decide +kernel
theorem dX12_isPair_5 : decode cX12_isPair 5 = .ok (.iconst 3, 1) := by decide +kernel
theorem dX12_isPair_6 : decode cX12_isPair 6 = .ok (.iload_n 1, 1) := by decide +kernel
theorem dX12_isPair_7 : decode cX12_isPair 7 = .ok (.imul, 1) := by decide +kernel
theorem dX12_isPair_8 : decode cX12_isPair 8 = .ok (.iadd, 1) := by decide +kernel
theorem dX12_isPair_9 : decode cX12_isPair 9 = .ok (.iconst 1, 1) := by decide +kernel
theorem dX12_isPair_10 : decode cX12_isPair 10 = .ok (.iadd, 1) := by decide +kernel
theorem dX12_isPair_11 : decode cX12_isPair 11 = .ok (.iaload, 1) := by decide +kernel
theorem dX12_isPair_12 : decode cX12_isPair 12 = .ok (.iconst 1, 1) := by decide +kernel
theorem dX12_isPair_13 : decode cX12_isPair 13 = .ok (.if_icmp .ne 7, 3) := by decide +kernel
theorem dX12_isPair_16 : decode cX12_isPair 16 = .ok (.iconst 1, 1) := by decide +kernel
theorem dX12_isPair_17 : decode cX12_isPair 17 = .ok (.goto 4, 3) := by decide +kernel
theorem dX12_isPair_20 : decode cX12_isPair 20 = .ok (.iconst 0, 1) := by decide +kernel
theorem dX12_isPair_21 : decode cX12_isPair 21 = .ok (.ireturn, 1) := by decide +kernel
theorem dX12_isOdd_0 : decode cX12_isOdd 0 = .ok (.aload_n 0, 1) := by decide +kernel
theorem dX12_isOdd_1 : decode cX12_isOdd 1 = .ok (.getfield 7, 3) := by decide +kernel
theorem dX12_isOdd_4 : decode cX12_isOdd 4 = .ok (.iconst 4, 1) := by decide +kernel
theorem dX12_isOdd_5 : decode cX12_isOdd 5 = .ok (.iconst 3, 1) := by decide +kernel
theorem dX12_isOdd_6 : decode cX12_isOdd 6 = .ok (.iload_n 1, 1) := by decide +kernel
theorem dX12_isOdd_7 : decode cX12_isOdd 7 = .ok (.imul, 1) := by decide +kernel
theorem dX12_isOdd_8 : decode cX12_isOdd 8 = .ok (.iadd, 1) := by decide +kernel
theorem dX12_isOdd_9 : decode cX12_isOdd 9 = .ok (.iconst 2, 1) := by decide +kernel
theorem dX12_isOdd_10 : decode cX12_isOdd 10 = .ok (.iadd, 1) := by decide +kernel
theorem dX12_isOdd_11 : decode cX12_isOdd 11 = .ok (.iaload, 1) := by decide +kernel
theorem dX12_isOdd_12 : decode cX12_isOdd 12 = .ok (.iconst 1, 1) := by decide +kernel
theorem dX12_isOdd_13 : decode cX12_isOdd 13 = .ok (.if_icmp .ne 7, 3) := by decide +kernel
theorem dX12_isOdd_16 : decode cX12_isOdd 16 = .ok (.iconst 1, 1) := by decide +kernel
theorem dX12_isOdd_17 : decode cX12_isOdd 17 = .ok (.goto 4, 3) := by decide +kernel
theorem dX12_isOdd_20 : decode cX12_isOdd 20 = .ok (.iconst 0, 1) := by decide +kernel
theorem dX12_isOdd_21 : decode cX12_isOdd 21 = .ok (.ireturn, 1) := by decide +kernel
theorem dX12_stands_0 : decode cX12_stands 0 = .ok (.aload_n 0, 1) := by decide +kernel
theorem dX12_stands_1 : decode cX12_stands 1 = .ok (.iconst 0, 1) := by decide +kernel
theorem dX12_stands_2 : decode cX12_stands 2 = .ok (.putfield 124, 3) := by decide +kernel
theorem dX12_stands_5 : decode cX12_stands 5 = .ok (.iconst 0, 1) := by decide +kernel
theorem dX12_stands_6 : decode cX12_stands 6 = .ok (.istore_n 1, 1) := by decide +kernel
theorem dX12_stands_7 : decode cX12_stands 7 = .ok (.iload_n 1, 1) := by decide +kernel
theorem dX12_stands_8 : decode cX12_stands 8 = .ok (.aload_n 0, 1) := by decide +kernel
theorem dX12_stands_9 : decode cX12_stands 9 = .ok (.getfield 7, 3) := by decide +kernel
theorem dX12_stands_12 : decode cX12_stands 12 = .ok (.iconst 2, 1) := by decide +kernel
theorem dX12_stands_13 : decode cX12_stands 13 = .ok (.iaload, 1) := by decide +kernel
theorem dX12_stands_14 : decode cX12_stands 14 = .ok (.if_icmp .ge 69, 3) := by decide +kernel
theorem dX12_stands_17 : decode cX12_stands 17 = .ok (.iconst 0, 1) := by decide +kernel
theorem dX12_stands_18 : decode cX12_stands 18 = .ok (.istore_n 2, 1) := by decide +kernel
theorem dX12_stands_19 : decode cX12_stands 19 = .ok (.iload_n 2, 1) := by decide +kernel
theorem dX12_stands_20 : decode cX12_stands 20 = .ok (.aload_n 0, 1) := by decide +kernel
theorem dX12_stands_21 : decode cX12_stands 21 = .ok (.iload_n 1, 1) := by decide +kernel
theorem dX12_stands_22 : decode cX12_stands 22 = .ok (.invokevirtual 127, 3) := by decide +kernel
theorem dX12_stands_25 : decode cX12_stands 25 = .ok (.if_icmp .ge 52, 3) := by decide +kernel
theorem dX12_stands_28 : decode cX12_stands 28 = .ok (.aload_n 0, 1) := by decide +kernel
theorem dX12_stands_29 : decode cX12_stands 29 = .ok (.getfield 19, 3) := by decide +kernel
theorem dX12_stands_32 : decode cX12_stands 32 = .ok (.aload_n 0, 1) := by decide +kernel
theorem dX12_stands_33 : decode cX12_stands 33 = .ok (.getfield 124, 3) := by decide +kernel
theorem dX12_stands_36 : decode cX12_stands 36 = .ok (.aload_n 0, 1) := by decide +kernel
theorem dX12_stands_37 : decode cX12_stands 37 = .ok (.getfield 7, 3) := by decide +kernel
theorem dX12_stands_40 : decode cX12_stands 40 = .ok (.aload_n 0, 1) := by decide +kernel
theorem dX12_stands_41 : decode cX12_stands 41 = .ok (.iload_n 1, 1) := by decide +kernel
theorem dX12_stands_42 : decode cX12_stands 42 = .ok (.invokevirtual 120, 3) := by decide +kernel
theorem dX12_stands_45 : decode cX12_stands 45 = .ok (.iconst 3, 1) := by decide +kernel
theorem dX12_stands_46 : decode cX12_stands 46 = .ok (.iadd, 1) := by decide +kernel
theorem dX12_stands_47 : decode cX12_stands 47 = .ok (.iload_n 2, 1) := by decide +kernel
theorem dX12_stands_48 : decode cX12_stands 48 = .ok (.iadd, 1) := by decide +kernel
theorem dX12_stands_49 : decode cX12_stands 49 = .ok (.iaload, 1) := by decide +kernel
theorem dX12_stands_50 : decode cX12_stands 50 = .ok (.iastore, 1) := by decide +kernel
theorem dX12_stands_51 : decode cX12_stands 51 = .ok (.aload_n 0, 1) := by decide +kernel
theorem dX12_stands_52 : decode cX12_stands 52 = .ok (.getfield 22, 3) := by decide +kernel
theorem dX12_stands_55 : decode cX12_stands 55 = .ok (.aload_n 0, 1) := by decide +kernel
theorem dX12_stands_56 : decode cX12_stands 56 = .ok (.getfield 124, 3) := by decide +kernel
theorem dX12_stands_59 : decode cX12_stands 59 = .ok (.iload_n 1, 1) := by decide +kernel
theorem dX12_stands_60 : decode cX12_stands 60 = .ok (.iastore, 1) := by decide +kernel
theorem dX12_stands_61 : decode cX12_stands 61 = .ok (.aload_n 0, 1) := by decide +kernel
theorem dX12_stands_62 : decode cX12_stands 62 = .ok (.dup, 1) := by decide +kernel
theorem dX12_stands_63 : decode cX12_stands 63 = .ok (.getfield 124, 3) := by decide +kernel
theorem dX12_stands_66 : decode cX12_stands 66 = .ok (.iconst 1, 1) := by decide +kernel
theorem dX12_stands_67 : decode cX12_stands 67 = .ok (.iadd, 1) := by decide +kernel
theorem dX12_stands_68 : decode cX12_stands 68 = .ok (.putfield 124, 3) := by decide +kernel
theorem dX12_stands_71 : decode cX12_stands 71 = .ok (.iinc 2 1, 3) := by decide +kernel
theorem dX12_stands_74 : decode cX12_stands 74 = .ok (.goto (-55), 3) := by decide +kernel
theorem dX12_stands_77 : decode cX12_stands 77 = .ok (.iinc 1 1, 3) := by decide +kernel
theorem dX12_stands_80 : decode cX12_stands 80 = .ok (.goto (-73), 3) := by decide +kernel
theorem dX12_stands_83 : decode cX12_stands 83 = .ok (.return_, 1) := by decide +kernel
theorem dX12_changes_0 : decode cX12_changes 0 = .ok (.aload_n 0, 1) := by decide +kernel
theorem dX12_changes_1 : decode cX12_changes 1 = .ok (.iconst 0, 1) := by decide +kernel
theorem dX12_changes_2 : decode cX12_changes 2 = .ok (.putfield 130, 3) := by decide +kernel
theorem dX12_changes_5 : decode cX12_changes 5 = .ok (.aload_n 0, 1) := by decide +kernel
theorem dX12_changes_6 : decode cX12_changes 6 = .ok (.iconst 0, 1) := by decide +kernel
theorem dX12_changes_7 : decode cX12_changes 7 = .ok (.putfield 134, 3) := by decide +kernel
theorem dX12_changes_10 : decode cX12_changes 10 = .ok (.aload_n 0, 1) := by decide +kernel
theorem dX12_changes_11 : decode cX12_changes 11 = .ok (.invokevirtual 137, 3) := by decide +kernel
theorem dX12_changes_14 : decode cX12_changes 14 = .ok (.return_, 1) := by decide +kernel
theorem dX12_vertices_0 : decode cX12_vertices 0 = .ok (.iconst 0, 1) := by decide +kernel
theorem dX12_vertices_1 : decode cX12_vertices 1 = .ok (.istore_n 1, 1) := by decide +kernel
theorem dX12_vertices_2 : decode cX12_vertices 2 = .ok (.iconst 0, 1) := by decide +kernel
theorem dX12_vertices_3 : decode cX12_vertices 3 = .ok (.istore_n 2, 1) := by decide +kernel
theorem dX12_vertices_4 : decode cX12_vertices 4 = .ok (.iload_n 2, 1) := by decide +kernel
theorem dX12_vertices_5 : decode cX12_vertices 5 = .ok (.aload_n 0, 1) := by decide +kernel
theorem dX12_vertices_6 : decode cX12_vertices 6 = .ok (.getfield 7, 3) := by decide +kernel
theorem dX12_vertices_9 : decode cX12_vertices 9 = .ok (.iconst 2, 1) := by decide +kernel
theorem dX12_vertices_10 : decode cX12_vertices 10 = .ok (.iaload, 1) := by decide +kernel
theorem dX12_vertices_11 : decode cX12_vertices 11 = .ok (.if_icmp .ge 24, 3) := by decide +kernel
theorem dX12_vertices_14 : decode cX12_vertices 14 = .ok (.iload_n 1, 1) := by decide +kernel
theorem dX12_vertices_15 : decode cX12_vertices 15 = .ok (.aload_n 0, 1) := by decide +kernel
theorem dX12_vertices_16 : decode cX12_vertices 16 = .ok (.getfield 7, 3) := by decide +kernel
theorem dX12_vertices_19 : decode cX12_vertices 19 = .ok (.aload_n 0, 1) := by decide +kernel
theorem dX12_vertices_20 : decode cX12_vertices 20 = .ok (.iload_n 2, 1) := by decide +kernel
theorem dX12_vertices_21 : decode cX12_vertices 21 = .ok (.invokevirtual 120, 3) := by decide +kernel
theorem dX12_vertices_24 : decode cX12_vertices 24 = .ok (.iconst 1, 1) := by decide +kernel
theorem dX12_vertices_25 : decode cX12_vertices 25 = .ok (.iadd, 1) := by decide +kernel
theorem dX12_vertices_26 : decode cX12_vertices 26 = .ok (.iaload, 1) := by decide +kernel
theorem dX12_vertices_27 : decode cX12_vertices 27 = .ok (.iadd, 1) := by decide +kernel
theorem dX12_vertices_28 : decode cX12_vertices 28 = .ok (.istore_n 1, 1) := by decide +kernel
theorem dX12_vertices_29 : decode cX12_vertices 29 = .ok (.iinc 2 1, 3) := by decide +kernel
theorem dX12_vertices_32 : decode cX12_vertices 32 = .ok (.goto (-28), 3) := by decide +kernel
theorem dX12_vertices_35 : decode cX12_vertices 35 = .ok (.iload_n 1, 1) := by decide +kernel
theorem dX12_vertices_36 : decode cX12_vertices 36 = .ok (.ireturn, 1) := by decide +kernel
theorem dX12_isPoint_0 : decode cX12_isPoint 0 = .ok (.iload_n 1, 1) := by decide +kernel
theorem dX12_isPoint_1 : decode cX12_isPoint 1 = .ok (.iconst 0, 1) := by decide +kernel
theorem dX12_isPoint_2 : decode cX12_isPoint 2 = .ok (.aload_n 0, 1) := by decide +kernel
theorem dX12_isPoint_3 : decode cX12_isPoint 3 = .ok (.getfield 7, 3) := by decide +kernel
theorem dX12_isPoint_6 : decode cX12_isPoint 6 = .ok (.iconst 2, 1) := by decide +kernel
theorem dX12_isPoint_7 : decode cX12_isPoint 7 = .ok (.iaload, 1) := by decide +kernel
theorem dX12_isPoint_8 : decode cX12_isPoint 8 = .ok (.iconst 1, 1) := by decide +kernel
theorem dX12_isPoint_9 : decode cX12_isPoint 9 = .ok (.isub, 1) := by decide +kernel
theorem dX12_isPoint_10 : decode cX12_isPoint 10 = .ok (.invokestatic 140, 3) := by decide +kernel
theorem dX12_isPoint_13 : decode cX12_isPoint 13 = .ok (.ireturn, 1) := by decide +kernel
theorem dX12_isLetter_0 : decode cX12_isLetter 0 = .ok (.iload_n 1, 1) := by decide +kernel
theorem dX12_isLetter_1 : decode cX12_isLetter 1 = .ok (.iconst 0, 1) := by decide +kernel
theorem dX12_isLetter_2 : decode cX12_isLetter 2 = .ok (.aload_n 0, 1) := by decide +kernel
theorem dX12_isLetter_3 : decode cX12_isLetter 3 = .ok (.getfield 124, 3) := by decide +kernel
theorem dX12_isLetter_6 : decode cX12_isLetter 6 = .ok (.iconst 1, 1) := by decide +kernel
theorem dX12_isLetter_7 : decode cX12_isLetter 7 = .ok (.isub, 1) := by decide +kernel
theorem dX12_isLetter_8 : decode cX12_isLetter 8 = .ok (.invokestatic 140, 3) := by decide +kernel
theorem dX12_isLetter_11 : decode cX12_isLetter 11 = .ok (.ireturn, 1) := by decide +kernel
theorem dX12_mixOf_0 : decode cX12_mixOf 0 = .ok (.iconst 0, 1) := by decide +kernel
theorem dX12_mixOf_1 : decode cX12_mixOf 1 = .ok (.istore_n 3, 1) := by decide +kernel
theorem dX12_mixOf_2 : decode cX12_mixOf 2 = .ok (.iload_n 3, 1) := by decide +kernel
theorem dX12_mixOf_3 : decode cX12_mixOf 3 = .ok (.aload_n 0, 1) := by decide +kernel
theorem dX12_mixOf_4 : decode cX12_mixOf 4 = .ok (.getfield 7, 3) := by decide +kernel
theorem dX12_mixOf_7 : decode cX12_mixOf 7 = .ok (.iconst 1, 1) := by decide +kernel
theorem dX12_mixOf_8 : decode cX12_mixOf 8 = .ok (.iaload, 1) := by decide +kernel
theorem dX12_mixOf_9 : decode cX12_mixOf 9 = .ok (.if_icmp .ge 63, 3) := by decide +kernel
theorem dX12_mixOf_12 : decode cX12_mixOf 12 = .ok (.aload_n 0, 1) := by decide +kernel
theorem dX12_mixOf_13 : decode cX12_mixOf 13 = .ok (.getfield 7, 3) := by decide +kernel
theorem dX12_mixOf_16 : decode cX12_mixOf 16 = .ok (.bipush 24, 2) := by decide +kernel
theorem dX12_mixOf_18 : decode cX12_mixOf 18 = .ok (.iconst 2, 1) := by decide +kernel
theorem dX12_mixOf_19 : decode cX12_mixOf 19 = .ok (.iload_n 3, 1) := by decide +kernel
theorem dX12_mixOf_20 : decode cX12_mixOf 20 = .ok (.imul, 1) := by decide +kernel
theorem dX12_mixOf_21 : decode cX12_mixOf 21 = .ok (.iadd, 1) := by decide +kernel
theorem dX12_mixOf_22 : decode cX12_mixOf 22 = .ok (.iaload, 1) := by decide +kernel
theorem dX12_mixOf_23 : decode cX12_mixOf 23 = .ok (.istore 4, 2) := by decide +kernel
theorem dX12_mixOf_25 : decode cX12_mixOf 25 = .ok (.aload_n 0, 1) := by decide +kernel
theorem dX12_mixOf_26 : decode cX12_mixOf 26 = .ok (.getfield 7, 3) := by decide +kernel
theorem dX12_mixOf_29 : decode cX12_mixOf 29 = .ok (.bipush 24, 2) := by decide +kernel
theorem dX12_mixOf_31 : decode cX12_mixOf 31 = .ok (.iconst 2, 1) := by decide +kernel
theorem dX12_mixOf_32 : decode cX12_mixOf 32 = .ok (.iload_n 3, 1) := by decide +kernel
theorem dX12_mixOf_33 : decode cX12_mixOf 33 = .ok (.imul, 1) := by decide +kernel
theorem dX12_mixOf_34 : decode cX12_mixOf 34 = .ok (.iadd, 1) := by decide +kernel
theorem dX12_mixOf_35 : decode cX12_mixOf 35 = .ok (.iconst 1, 1) := by decide +kernel
theorem dX12_mixOf_36 : decode cX12_mixOf 36 = .ok (.iadd, 1) := by decide +kernel
theorem dX12_mixOf_37 : decode cX12_mixOf 37 = .ok (.iaload, 1) := by decide +kernel
theorem dX12_mixOf_38 : decode cX12_mixOf 38 = .ok (.istore 5, 2) := by decide +kernel
theorem dX12_mixOf_40 : decode cX12_mixOf 40 = .ok (.iload 4, 2) := by decide +kernel
theorem dX12_mixOf_42 : decode cX12_mixOf 42 = .ok (.iload_n 1, 1) := by decide +kernel
theorem dX12_mixOf_43 : decode cX12_mixOf 43 = .ok (.if_icmp .ne 9, 3) := by decide +kernel
theorem dX12_mixOf_46 : decode cX12_mixOf 46 = .ok (.iload 5, 2) := by decide +kernel
theorem dX12_mixOf_48 : decode cX12_mixOf 48 = .ok (.iload_n 2, 1) := by decide +kernel
theorem dX12_mixOf_49 : decode cX12_mixOf 49 = .ok (.if_icmp .eq 15, 3) := by decide +kernel
theorem dX12_mixOf_52 : decode cX12_mixOf 52 = .ok (.iload 4, 2) := by decide +kernel
theorem dX12_mixOf_54 : decode cX12_mixOf 54 = .ok (.iload_n 2, 1) := by decide +kernel
theorem dX12_mixOf_55 : decode cX12_mixOf 55 = .ok (.if_icmp .ne 11, 3) := by decide +kernel
theorem dX12_mixOf_58 : decode cX12_mixOf 58 = .ok (.iload 5, 2) := by decide +kernel
theorem dX12_mixOf_60 : decode cX12_mixOf 60 = .ok (.iload_n 1, 1) := by decide +kernel
theorem dX12_mixOf_61 : decode cX12_mixOf 61 = .ok (.if_icmp .ne 5, 3) := by decide +kernel
theorem dX12_mixOf_64 : decode cX12_mixOf 64 = .ok (.iload_n 3, 1) := by decide +kernel
theorem dX12_mixOf_65 : decode cX12_mixOf 65 = .ok (.ireturn, 1) := by decide +kernel
theorem dX12_mixOf_66 : decode cX12_mixOf 66 = .ok (.iinc 3 1, 3) := by decide +kernel
theorem dX12_mixOf_69 : decode cX12_mixOf 69 = .ok (.goto (-67), 3) := by decide +kernel
theorem dX12_mixOf_72 : decode cX12_mixOf 72 = .ok (.iconst (-1), 1) := by decide +kernel
theorem dX12_mixOf_73 : decode cX12_mixOf 73 = .ok (.ireturn, 1) := by decide +kernel
theorem dX12_mayBe_0 : decode cX12_mayBe 0 = .ok (.iload_n 1, 1) := by decide +kernel
theorem dX12_mayBe_1 : decode cX12_mayBe 1 = .ok (.iload_n 2, 1) := by decide +kernel
theorem dX12_mayBe_2 : decode cX12_mayBe 2 = .ok (.if_icmp .eq 31, 3) := by decide +kernel
theorem dX12_mayBe_5 : decode cX12_mayBe 5 = .ok (.aload_n 0, 1) := by decide +kernel
theorem dX12_mayBe_6 : decode cX12_mayBe 6 = .ok (.getfield 22, 3) := by decide +kernel
theorem dX12_mayBe_9 : decode cX12_mayBe 9 = .ok (.iload_n 1, 1) := by decide +kernel
theorem dX12_mayBe_10 : decode cX12_mayBe 10 = .ok (.iaload, 1) := by decide +kernel
theorem dX12_mayBe_11 : decode cX12_mayBe 11 = .ok (.aload_n 0, 1) := by decide +kernel
theorem dX12_mayBe_12 : decode cX12_mayBe 12 = .ok (.getfield 22, 3) := by decide +kernel
theorem dX12_mayBe_15 : decode cX12_mayBe 15 = .ok (.iload_n 2, 1) := by decide +kernel
theorem dX12_mayBe_16 : decode cX12_mayBe 16 = .ok (.iaload, 1) := by decide +kernel
theorem dX12_mayBe_17 : decode cX12_mayBe 17 = .ok (.if_icmp .ne 18, 3) := by decide +kernel
theorem dX12_mayBe_20 : decode cX12_mayBe 20 = .ok (.aload_n 0, 1) := by decide +kernel
theorem dX12_mayBe_21 : decode cX12_mayBe 21 = .ok (.aload_n 0, 1) := by decide +kernel
theorem dX12_mayBe_22 : decode cX12_mayBe 22 = .ok (.getfield 22, 3) := by decide +kernel
theorem dX12_mayBe_25 : decode cX12_mayBe 25 = .ok (.iload_n 1, 1) := by decide +kernel
theorem dX12_mayBe_26 : decode cX12_mayBe 26 = .ok (.iaload, 1) := by decide +kernel
theorem dX12_mayBe_27 : decode cX12_mayBe 27 = .ok (.invokevirtual 144, 3) := by decide +kernel
theorem dX12_mayBe_30 : decode cX12_mayBe 30 = .ok (.ifCond .eq 5, 3) := by decide +kernel
theorem dX12_mayBe_33 : decode cX12_mayBe 33 = .ok (.iconst 0, 1) := by decide +kernel
theorem dX12_mayBe_34 : decode cX12_mayBe 34 = .ok (.ireturn, 1) := by decide +kernel
theorem dX12_mayBe_35 : decode cX12_mayBe 35 = .ok (.aload_n 0, 1) := by decide +kernel
theorem dX12_mayBe_36 : decode cX12_mayBe 36 = .ok (.getfield 19, 3) := by decide +kernel
theorem dX12_mayBe_39 : decode cX12_mayBe 39 = .ok (.iload_n 1, 1) := by decide +kernel
theorem dX12_mayBe_40 : decode cX12_mayBe 40 = .ok (.iaload, 1) := by decide +kernel
theorem dX12_mayBe_41 : decode cX12_mayBe 41 = .ok (.iconst 2, 1) := by decide +kernel
theorem dX12_mayBe_42 : decode cX12_mayBe 42 = .ok (.idiv, 1) := by decide +kernel
theorem dX12_mayBe_43 : decode cX12_mayBe 43 = .ok (.istore_n 3, 1) := by decide +kernel
theorem dX12_mayBe_44 : decode cX12_mayBe 44 = .ok (.aload_n 0, 1) := by decide +kernel
theorem dX12_mayBe_45 : decode cX12_mayBe 45 = .ok (.getfield 19, 3) := by decide +kernel
theorem dX12_mayBe_48 : decode cX12_mayBe 48 = .ok (.iload_n 2, 1) := by decide +kernel
theorem dX12_mayBe_49 : decode cX12_mayBe 49 = .ok (.iaload, 1) := by decide +kernel
theorem dX12_mayBe_50 : decode cX12_mayBe 50 = .ok (.iconst 2, 1) := by decide +kernel
theorem dX12_mayBe_51 : decode cX12_mayBe 51 = .ok (.idiv, 1) := by decide +kernel
theorem dX12_mayBe_52 : decode cX12_mayBe 52 = .ok (.istore 4, 2) := by decide +kernel
theorem dX12_mayBe_54 : decode cX12_mayBe 54 = .ok (.iload_n 3, 1) := by decide +kernel
theorem dX12_mayBe_55 : decode cX12_mayBe 55 = .ok (.iload 4, 2) := by decide +kernel
theorem dX12_mayBe_57 : decode cX12_mayBe 57 = .ok (.if_icmp .eq 36, 3) := by decide +kernel
theorem dX12_mayBe_60 : decode cX12_mayBe 60 = .ok (.aload_n 0, 1) := by decide +kernel
theorem dX12_mayBe_61 : decode cX12_mayBe 61 = .ok (.iload_n 3, 1) := by decide +kernel
theorem dX12_mayBe_62 : decode cX12_mayBe 62 = .ok (.invokevirtual 148, 3) := by decide +kernel
theorem dX12_mayBe_65 : decode cX12_mayBe 65 = .ok (.ifCond .ne 26, 3) := by decide +kernel
theorem dX12_mayBe_68 : decode cX12_mayBe 68 = .ok (.aload_n 0, 1) := by decide +kernel
theorem dX12_mayBe_69 : decode cX12_mayBe 69 = .ok (.iload 4, 2) := by decide +kernel
theorem dX12_mayBe_71 : decode cX12_mayBe 71 = .ok (.invokevirtual 148, 3) := by decide +kernel
theorem dX12_mayBe_74 : decode cX12_mayBe 74 = .ok (.ifCond .ne 17, 3) := by decide +kernel
theorem dX12_mayBe_77 : decode cX12_mayBe 77 = .ok (.aload_n 0, 1) := by decide +kernel
theorem dX12_mayBe_78 : decode cX12_mayBe 78 = .ok (.iload_n 3, 1) := by decide +kernel
theorem dX12_mayBe_79 : decode cX12_mayBe 79 = .ok (.iload 4, 2) := by decide +kernel
theorem dX12_mayBe_81 : decode cX12_mayBe 81 = .ok (.invokevirtual 151, 3) := by decide +kernel
theorem dX12_mayBe_84 : decode cX12_mayBe 84 = .ok (.ifCond .lt 7, 3) := by decide +kernel
theorem dX12_mayBe_87 : decode cX12_mayBe 87 = .ok (.iconst 1, 1) := by decide +kernel
theorem dX12_mayBe_88 : decode cX12_mayBe 88 = .ok (.goto 4, 3) := by decide +kernel
theorem dX12_mayBe_91 : decode cX12_mayBe 91 = .ok (.iconst 0, 1) := by decide +kernel
theorem dX12_mayBe_92 : decode cX12_mayBe 92 = .ok (.ireturn, 1) := by decide +kernel
theorem dX12_mayBe_93 : decode cX12_mayBe 93 = .ok (.aload_n 0, 1) := by decide +kernel
theorem dX12_mayBe_94 : decode cX12_mayBe 94 = .ok (.iload_n 3, 1) := by decide +kernel
theorem dX12_mayBe_95 : decode cX12_mayBe 95 = .ok (.invokevirtual 148, 3) := by decide +kernel
theorem dX12_mayBe_98 : decode cX12_mayBe 98 = .ok (.ifCond .eq 18, 3) := by decide +kernel
theorem dX12_mayBe_101 : decode cX12_mayBe 101 = .ok (.aload_n 0, 1) := by decide +kernel
theorem dX12_mayBe_102 : decode cX12_mayBe 102 = .ok (.getfield 19, 3) := by decide +kernel
theorem dX12_mayBe_105 : decode cX12_mayBe 105 = .ok (.iload_n 1, 1) := by decide +kernel
theorem dX12_mayBe_106 : decode cX12_mayBe 106 = .ok (.iaload, 1) := by decide +kernel
theorem dX12_mayBe_107 : decode cX12_mayBe 107 = .ok (.aload_n 0, 1) := by decide +kernel
theorem dX12_mayBe_108 : decode cX12_mayBe 108 = .ok (.getfield 19, 3) := by decide +kernel
theorem dX12_mayBe_111 : decode cX12_mayBe 111 = .ok (.iload_n 2, 1) := by decide +kernel
theorem dX12_mayBe_112 : decode cX12_mayBe 112 = .ok (.iaload, 1) := by decide +kernel
theorem dX12_mayBe_113 : decode cX12_mayBe 113 = .ok (.if_icmp .eq 7, 3) := by decide +kernel
theorem dX12_mayBe_116 : decode cX12_mayBe 116 = .ok (.iconst 1, 1) := by decide +kernel
theorem dX12_mayBe_117 : decode cX12_mayBe 117 = .ok (.goto 4, 3) := by decide +kernel
theorem dX12_mayBe_120 : decode cX12_mayBe 120 = .ok (.iconst 0, 1) := by decide +kernel
theorem dX12_mayBe_121 : decode cX12_mayBe 121 = .ok (.ireturn, 1) := by decide +kernel
theorem dX12_codeOf_0 : decode cX12_codeOf 0 = .ok (.aload_n 0, 1) := by decide +kernel
theorem dX12_codeOf_1 : decode cX12_codeOf 1 = .ok (.getfield 19, 3) := by decide +kernel
theorem dX12_codeOf_4 : decode cX12_codeOf 4 = .ok (.iload_n 1, 1) := by decide +kernel
theorem dX12_codeOf_5 : decode cX12_codeOf 5 = .ok (.iaload, 1) := by decide +kernel
theorem dX12_codeOf_6 : decode cX12_codeOf 6 = .ok (.iconst 2, 1) := by decide +kernel
theorem dX12_codeOf_7 : decode cX12_codeOf 7 = .ok (.idiv, 1) := by decide +kernel
theorem dX12_codeOf_8 : decode cX12_codeOf 8 = .ok (.istore_n 3, 1) := by decide +kernel
theorem dX12_codeOf_9 : decode cX12_codeOf 9 = .ok (.aload_n 0, 1) := by decide +kernel
theorem dX12_codeOf_10 : decode cX12_codeOf 10 = .ok (.getfield 22, 3) := by decide +kernel
theorem dX12_codeOf_13 : decode cX12_codeOf 13 = .ok (.iload_n 1, 1) := by decide +kernel
theorem dX12_codeOf_14 : decode cX12_codeOf 14 = .ok (.iaload, 1) := by decide +kernel
theorem dX12_codeOf_15 : decode cX12_codeOf 15 = .ok (.istore 4, 2) := by decide +kernel
theorem dX12_codeOf_17 : decode cX12_codeOf 17 = .ok (.aload_n 0, 1) := by decide +kernel
theorem dX12_codeOf_18 : decode cX12_codeOf 18 = .ok (.getfield 22, 3) := by decide +kernel
theorem dX12_codeOf_21 : decode cX12_codeOf 21 = .ok (.iload_n 2, 1) := by decide +kernel
theorem dX12_codeOf_22 : decode cX12_codeOf 22 = .ok (.iaload, 1) := by decide +kernel
theorem dX12_codeOf_23 : decode cX12_codeOf 23 = .ok (.istore 5, 2) := by decide +kernel
theorem dX12_codeOf_25 : decode cX12_codeOf 25 = .ok (.iload_n 3, 1) := by decide +kernel
theorem dX12_codeOf_26 : decode cX12_codeOf 26 = .ok (.aload_n 0, 1) := by decide +kernel
theorem dX12_codeOf_27 : decode cX12_codeOf 27 = .ok (.getfield 19, 3) := by decide +kernel
theorem dX12_codeOf_30 : decode cX12_codeOf 30 = .ok (.iload_n 2, 1) := by decide +kernel
theorem dX12_codeOf_31 : decode cX12_codeOf 31 = .ok (.iaload, 1) := by decide +kernel
theorem dX12_codeOf_32 : decode cX12_codeOf 32 = .ok (.iconst 2, 1) := by decide +kernel
theorem dX12_codeOf_33 : decode cX12_codeOf 33 = .ok (.idiv, 1) := by decide +kernel
theorem dX12_codeOf_34 : decode cX12_codeOf 34 = .ok (.if_icmp .eq 72, 3) := by decide +kernel
theorem dX12_codeOf_37 : decode cX12_codeOf 37 = .ok (.aload_n 0, 1) := by decide +kernel
theorem dX12_codeOf_38 : decode cX12_codeOf 38 = .ok (.iload_n 3, 1) := by decide +kernel
theorem dX12_codeOf_39 : decode cX12_codeOf 39 = .ok (.aload_n 0, 1) := by decide +kernel
theorem dX12_codeOf_40 : decode cX12_codeOf 40 = .ok (.getfield 19, 3) := by decide +kernel
theorem dX12_codeOf_43 : decode cX12_codeOf 43 = .ok (.iload_n 2, 1) := by decide +kernel
theorem dX12_codeOf_44 : decode cX12_codeOf 44 = .ok (.iaload, 1) := by decide +kernel
theorem dX12_codeOf_45 : decode cX12_codeOf 45 = .ok (.iconst 2, 1) := by decide +kernel
theorem dX12_codeOf_46 : decode cX12_codeOf 46 = .ok (.idiv, 1) := by decide +kernel
theorem dX12_codeOf_47 : decode cX12_codeOf 47 = .ok (.invokevirtual 151, 3) := by decide +kernel
theorem dX12_codeOf_50 : decode cX12_codeOf 50 = .ok (.istore 6, 2) := by decide +kernel
theorem dX12_codeOf_52 : decode cX12_codeOf 52 = .ok (.aload_n 0, 1) := by decide +kernel
theorem dX12_codeOf_53 : decode cX12_codeOf 53 = .ok (.getfield 7, 3) := by decide +kernel
theorem dX12_codeOf_56 : decode cX12_codeOf 56 = .ok (.bipush 24, 2) := by decide +kernel
theorem dX12_codeOf_58 : decode cX12_codeOf 58 = .ok (.iconst 2, 1) := by decide +kernel
theorem dX12_codeOf_59 : decode cX12_codeOf 59 = .ok (.iload 6, 2) := by decide +kernel
theorem dX12_codeOf_61 : decode cX12_codeOf 61 = .ok (.imul, 1) := by decide +kernel
theorem dX12_codeOf_62 : decode cX12_codeOf 62 = .ok (.iadd, 1) := by decide +kernel
theorem dX12_codeOf_63 : decode cX12_codeOf 63 = .ok (.iaload, 1) := by decide +kernel
theorem dX12_codeOf_64 : decode cX12_codeOf 64 = .ok (.iload_n 3, 1) := by decide +kernel
theorem dX12_codeOf_65 : decode cX12_codeOf 65 = .ok (.if_icmp .ne 23, 3) := by decide +kernel
theorem dX12_codeOf_68 : decode cX12_codeOf 68 = .ok (.bipush 100, 2) := by decide +kernel
theorem dX12_codeOf_70 : decode cX12_codeOf 70 = .ok (.iload 4, 2) := by decide +kernel
theorem dX12_codeOf_72 : decode cX12_codeOf 72 = .ok (.imul, 1) := by decide +kernel
theorem dX12_codeOf_73 : decode cX12_codeOf 73 = .ok (.bipush 10, 2) := by decide +kernel
theorem dX12_codeOf_75 : decode cX12_codeOf 75 = .ok (.iload 5, 2) := by decide +kernel
theorem dX12_codeOf_77 : decode cX12_codeOf 77 = .ok (.imul, 1) := by decide +kernel
theorem dX12_codeOf_78 : decode cX12_codeOf 78 = .ok (.iadd, 1) := by decide +kernel
theorem dX12_codeOf_79 : decode cX12_codeOf 79 = .ok (.bipush 6, 2) := by decide +kernel
theorem dX12_codeOf_81 : decode cX12_codeOf 81 = .ok (.iadd, 1) := by decide +kernel
theorem dX12_codeOf_82 : decode cX12_codeOf 82 = .ok (.iload 6, 2) := by decide +kernel
theorem dX12_codeOf_84 : decode cX12_codeOf 84 = .ok (.iadd, 1) := by decide +kernel
theorem dX12_codeOf_85 : decode cX12_codeOf 85 = .ok (.goto 20, 3) := by decide +kernel
theorem dX12_codeOf_88 : decode cX12_codeOf 88 = .ok (.bipush 100, 2) := by decide +kernel
theorem dX12_codeOf_90 : decode cX12_codeOf 90 = .ok (.iload 5, 2) := by decide +kernel
theorem dX12_codeOf_92 : decode cX12_codeOf 92 = .ok (.imul, 1) := by decide +kernel
theorem dX12_codeOf_93 : decode cX12_codeOf 93 = .ok (.bipush 10, 2) := by decide +kernel
theorem dX12_codeOf_95 : decode cX12_codeOf 95 = .ok (.iload 4, 2) := by decide +kernel
theorem dX12_codeOf_97 : decode cX12_codeOf 97 = .ok (.imul, 1) := by decide +kernel
theorem dX12_codeOf_98 : decode cX12_codeOf 98 = .ok (.iadd, 1) := by decide +kernel
theorem dX12_codeOf_99 : decode cX12_codeOf 99 = .ok (.bipush 6, 2) := by decide +kernel
theorem dX12_codeOf_101 : decode cX12_codeOf 101 = .ok (.iadd, 1) := by decide +kernel
theorem dX12_codeOf_102 : decode cX12_codeOf 102 = .ok (.iload 6, 2) := by decide +kernel
theorem dX12_codeOf_104 : decode cX12_codeOf 104 = .ok (.iadd, 1) := by decide +kernel
theorem dX12_codeOf_105 : decode cX12_codeOf 105 = .ok (.ireturn, 1) := by decide +kernel
theorem dX12_codeOf_106 : decode cX12_codeOf 106 = .ok (.aload_n 0, 1) := by decide +kernel
theorem dX12_codeOf_107 : decode cX12_codeOf 107 = .ok (.iload_n 3, 1) := by decide +kernel
theorem dX12_codeOf_108 : decode cX12_codeOf 108 = .ok (.invokevirtual 148, 3) := by decide +kernel
theorem dX12_codeOf_111 : decode cX12_codeOf 111 = .ok (.ifCond .eq 44, 3) := by decide +kernel
theorem dX12_codeOf_114 : decode cX12_codeOf 114 = .ok (.aload_n 0, 1) := by decide +kernel
theorem dX12_codeOf_115 : decode cX12_codeOf 115 = .ok (.getfield 19, 3) := by decide +kernel
theorem dX12_codeOf_118 : decode cX12_codeOf 118 = .ok (.iload_n 1, 1) := by decide +kernel
theorem dX12_codeOf_119 : decode cX12_codeOf 119 = .ok (.iaload, 1) := by decide +kernel
theorem dX12_codeOf_120 : decode cX12_codeOf 120 = .ok (.iconst 2, 1) := by decide +kernel
theorem dX12_codeOf_121 : decode cX12_codeOf 121 = .ok (.irem, 1) := by decide +kernel
theorem dX12_codeOf_122 : decode cX12_codeOf 122 = .ok (.ifCond .ne 19, 3) := by decide +kernel
theorem dX12_codeOf_125 : decode cX12_codeOf 125 = .ok (.bipush 100, 2) := by decide +kernel
theorem dX12_codeOf_127 : decode cX12_codeOf 127 = .ok (.iload 4, 2) := by decide +kernel
theorem dX12_codeOf_129 : decode cX12_codeOf 129 = .ok (.imul, 1) := by decide +kernel
theorem dX12_codeOf_130 : decode cX12_codeOf 130 = .ok (.bipush 10, 2) := by decide +kernel
theorem dX12_codeOf_132 : decode cX12_codeOf 132 = .ok (.iload 5, 2) := by decide +kernel
theorem dX12_codeOf_134 : decode cX12_codeOf 134 = .ok (.imul, 1) := by decide +kernel
theorem dX12_codeOf_135 : decode cX12_codeOf 135 = .ok (.iadd, 1) := by decide +kernel
theorem dX12_codeOf_136 : decode cX12_codeOf 136 = .ok (.iload_n 3, 1) := by decide +kernel
theorem dX12_codeOf_137 : decode cX12_codeOf 137 = .ok (.iadd, 1) := by decide +kernel
theorem dX12_codeOf_138 : decode cX12_codeOf 138 = .ok (.goto 16, 3) := by decide +kernel
theorem dX12_codeOf_141 : decode cX12_codeOf 141 = .ok (.bipush 100, 2) := by decide +kernel
theorem dX12_codeOf_143 : decode cX12_codeOf 143 = .ok (.iload 5, 2) := by decide +kernel
theorem dX12_codeOf_145 : decode cX12_codeOf 145 = .ok (.imul, 1) := by decide +kernel
theorem dX12_codeOf_146 : decode cX12_codeOf 146 = .ok (.bipush 10, 2) := by decide +kernel
theorem dX12_codeOf_148 : decode cX12_codeOf 148 = .ok (.iload 4, 2) := by decide +kernel
theorem dX12_codeOf_150 : decode cX12_codeOf 150 = .ok (.imul, 1) := by decide +kernel
theorem dX12_codeOf_151 : decode cX12_codeOf 151 = .ok (.iadd, 1) := by decide +kernel
theorem dX12_codeOf_152 : decode cX12_codeOf 152 = .ok (.iload_n 3, 1) := by decide +kernel
theorem dX12_codeOf_153 : decode cX12_codeOf 153 = .ok (.iadd, 1) := by decide +kernel
theorem dX12_codeOf_154 : decode cX12_codeOf 154 = .ok (.ireturn, 1) := by decide +kernel
theorem dX12_codeOf_155 : decode cX12_codeOf 155 = .ok (.iload 4, 2) := by decide +kernel
theorem dX12_codeOf_157 : decode cX12_codeOf 157 = .ok (.iload 5, 2) := by decide +kernel
theorem dX12_codeOf_159 : decode cX12_codeOf 159 = .ok (.if_icmp .ge 19, 3) := by decide +kernel
theorem dX12_codeOf_162 : decode cX12_codeOf 162 = .ok (.bipush 100, 2) := by decide +kernel
theorem dX12_codeOf_164 : decode cX12_codeOf 164 = .ok (.iload 4, 2) := by decide +kernel
theorem dX12_codeOf_166 : decode cX12_codeOf 166 = .ok (.imul, 1) := by decide +kernel
theorem dX12_codeOf_167 : decode cX12_codeOf 167 = .ok (.bipush 10, 2) := by decide +kernel
theorem dX12_codeOf_169 : decode cX12_codeOf 169 = .ok (.iload 5, 2) := by decide +kernel
theorem dX12_codeOf_171 : decode cX12_codeOf 171 = .ok (.imul, 1) := by decide +kernel
theorem dX12_codeOf_172 : decode cX12_codeOf 172 = .ok (.iadd, 1) := by decide +kernel
theorem dX12_codeOf_173 : decode cX12_codeOf 173 = .ok (.iload_n 3, 1) := by decide +kernel
theorem dX12_codeOf_174 : decode cX12_codeOf 174 = .ok (.iadd, 1) := by decide +kernel
theorem dX12_codeOf_175 : decode cX12_codeOf 175 = .ok (.goto 16, 3) := by decide +kernel
theorem dX12_codeOf_178 : decode cX12_codeOf 178 = .ok (.bipush 100, 2) := by decide +kernel
theorem dX12_codeOf_180 : decode cX12_codeOf 180 = .ok (.iload 5, 2) := by decide +kernel
theorem dX12_codeOf_182 : decode cX12_codeOf 182 = .ok (.imul, 1) := by decide +kernel
theorem dX12_codeOf_183 : decode cX12_codeOf 183 = .ok (.bipush 10, 2) := by decide +kernel
theorem dX12_codeOf_185 : decode cX12_codeOf 185 = .ok (.iload 4, 2) := by decide +kernel
theorem dX12_codeOf_187 : decode cX12_codeOf 187 = .ok (.imul, 1) := by decide +kernel
theorem dX12_codeOf_188 : decode cX12_codeOf 188 = .ok (.iadd, 1) := by decide +kernel
theorem dX12_codeOf_189 : decode cX12_codeOf 189 = .ok (.iload_n 3, 1) := by decide +kernel
theorem dX12_codeOf_190 : decode cX12_codeOf 190 = .ok (.iadd, 1) := by decide +kernel
theorem dX12_codeOf_191 : decode cX12_codeOf 191 = .ok (.ireturn, 1) := by decide +kernel
theorem dX12_firstFree_0 : decode cX12_firstFree 0 = .ok (.iconst 0, 1) := by decide +kernel
theorem dX12_firstFree_1 : decode cX12_firstFree 1 = .ok (.istore_n 1, 1) := by decide +kernel
theorem dX12_firstFree_2 : decode cX12_firstFree 2 = .ok (.iload_n 1, 1) := by decide +kernel
theorem dX12_firstFree_3 : decode cX12_firstFree 3 = .ok (.aload_n 0, 1) := by decide +kernel
theorem dX12_firstFree_4 : decode cX12_firstFree 4 = .ok (.getfield 124, 3) := by decide +kernel
theorem dX12_firstFree_7 : decode cX12_firstFree 7 = .ok (.if_icmp .ge 31, 3) := by decide +kernel
theorem dX12_firstFree_10 : decode cX12_firstFree 10 = .ok (.aload_n 0, 1) := by decide +kernel
theorem dX12_firstFree_11 : decode cX12_firstFree 11 = .ok (.getfield 155, 3) := by decide +kernel
theorem dX12_firstFree_14 : decode cX12_firstFree 14 = .ok (.iload_n 1, 1) := by decide +kernel
theorem dX12_firstFree_15 : decode cX12_firstFree 15 = .ok (.invokestatic 158, 3) := by decide +kernel
theorem dX12_firstFree_18 : decode cX12_firstFree 18 = .ok (.ifCond .eq 14, 3) := by decide +kernel
theorem dX12_firstFree_21 : decode cX12_firstFree 21 = .ok (.aload_n 0, 1) := by decide +kernel
theorem dX12_firstFree_22 : decode cX12_firstFree 22 = .ok (.getfield 41, 3) := by decide +kernel
theorem dX12_firstFree_25 : decode cX12_firstFree 25 = .ok (.iload_n 1, 1) := by decide +kernel
theorem dX12_firstFree_26 : decode cX12_firstFree 26 = .ok (.iaload, 1) := by decide +kernel
theorem dX12_firstFree_27 : decode cX12_firstFree 27 = .ok (.ifCond .ge 5, 3) := by decide +kernel
theorem dX12_firstFree_30 : decode cX12_firstFree 30 = .ok (.iload_n 1, 1) := by decide +kernel
theorem dX12_firstFree_31 : decode cX12_firstFree 31 = .ok (.ireturn, 1) := by decide +kernel
theorem dX12_firstFree_32 : decode cX12_firstFree 32 = .ok (.iinc 1 1, 3) := by decide +kernel
theorem dX12_firstFree_35 : decode cX12_firstFree 35 = .ok (.goto (-33), 3) := by decide +kernel
theorem dX12_firstFree_38 : decode cX12_firstFree 38 = .ok (.iconst (-1), 1) := by decide +kernel
theorem dX12_firstFree_39 : decode cX12_firstFree 39 = .ok (.ireturn, 1) := by decide +kernel
theorem dX12_begins_0 : decode cX12_begins 0 = .ok (.aload_n 0, 1) := by decide +kernel
theorem dX12_begins_1 : decode cX12_begins 1 = .ok (.iload_n 1, 1) := by decide +kernel
theorem dX12_begins_2 : decode cX12_begins 2 = .ok (.putfield 155, 3) := by decide +kernel
theorem dX12_begins_5 : decode cX12_begins 5 = .ok (.iconst 0, 1) := by decide +kernel
theorem dX12_begins_6 : decode cX12_begins 6 = .ok (.istore_n 2, 1) := by decide +kernel
theorem dX12_begins_7 : decode cX12_begins 7 = .ok (.iload_n 2, 1) := by decide +kernel
theorem dX12_begins_8 : decode cX12_begins 8 = .ok (.bipush 12, 2) := by decide +kernel
theorem dX12_begins_10 : decode cX12_begins 10 = .ok (.if_icmp .ge 16, 3) := by decide +kernel
theorem dX12_begins_13 : decode cX12_begins 13 = .ok (.aload_n 0, 1) := by decide +kernel
theorem dX12_begins_14 : decode cX12_begins 14 = .ok (.getfield 41, 3) := by decide +kernel
theorem dX12_begins_17 : decode cX12_begins 17 = .ok (.iload_n 2, 1) := by decide +kernel
theorem dX12_begins_18 : decode cX12_begins 18 = .ok (.iconst (-1), 1) := by decide +kernel
theorem dX12_begins_19 : decode cX12_begins 19 = .ok (.iastore, 1) := by decide +kernel
theorem dX12_begins_20 : decode cX12_begins 20 = .ok (.iinc 2 1, 3) := by decide +kernel
theorem dX12_begins_23 : decode cX12_begins 23 = .ok (.goto (-16), 3) := by decide +kernel
theorem dX12_begins_26 : decode cX12_begins 26 = .ok (.return_, 1) := by decide +kernel
theorem dX12_doCross_0 : decode cX12_doCross 0 = .ok (.iload_n 1, 1) := by decide +kernel
theorem dX12_doCross_1 : decode cX12_doCross 1 = .ok (.iload_n 2, 1) := by decide +kernel
theorem dX12_doCross_2 : decode cX12_doCross 2 = .ok (.if_icmp .ge 32, 3) := by decide +kernel
theorem dX12_doCross_5 : decode cX12_doCross 5 = .ok (.iload_n 2, 1) := by decide +kernel
theorem dX12_doCross_6 : decode cX12_doCross 6 = .ok (.aload_n 0, 1) := by decide +kernel
theorem dX12_doCross_7 : decode cX12_doCross 7 = .ok (.getfield 41, 3) := by decide +kernel
theorem dX12_doCross_10 : decode cX12_doCross 10 = .ok (.iload_n 1, 1) := by decide +kernel
theorem dX12_doCross_11 : decode cX12_doCross 11 = .ok (.iaload, 1) := by decide +kernel
theorem dX12_doCross_12 : decode cX12_doCross 12 = .ok (.if_icmp .ge 22, 3) := by decide +kernel
theorem dX12_doCross_15 : decode cX12_doCross 15 = .ok (.aload_n 0, 1) := by decide +kernel
theorem dX12_doCross_16 : decode cX12_doCross 16 = .ok (.getfield 41, 3) := by decide +kernel
theorem dX12_doCross_19 : decode cX12_doCross 19 = .ok (.iload_n 2, 1) := by decide +kernel
theorem dX12_doCross_20 : decode cX12_doCross 20 = .ok (.iaload, 1) := by decide +kernel
theorem dX12_doCross_21 : decode cX12_doCross 21 = .ok (.aload_n 0, 1) := by decide +kernel
theorem dX12_doCross_22 : decode cX12_doCross 22 = .ok (.getfield 41, 3) := by decide +kernel
theorem dX12_doCross_25 : decode cX12_doCross 25 = .ok (.iload_n 1, 1) := by decide +kernel
theorem dX12_doCross_26 : decode cX12_doCross 26 = .ok (.iaload, 1) := by decide +kernel
theorem dX12_doCross_27 : decode cX12_doCross 27 = .ok (.if_icmp .le 7, 3) := by decide +kernel
theorem dX12_doCross_30 : decode cX12_doCross 30 = .ok (.iconst 1, 1) := by decide +kernel
theorem dX12_doCross_31 : decode cX12_doCross 31 = .ok (.goto 4, 3) := by decide +kernel
theorem dX12_doCross_34 : decode cX12_doCross 34 = .ok (.iconst 0, 1) := by decide +kernel
theorem dX12_doCross_35 : decode cX12_doCross 35 = .ok (.ireturn, 1) := by decide +kernel
theorem dX12_crossingsNow_0 : decode cX12_crossingsNow 0 = .ok (.iconst 0, 1) := by decide +kernel
theorem dX12_crossingsNow_1 : decode cX12_crossingsNow 1 = .ok (.istore_n 1, 1) := by decide +kernel
theorem dX12_crossingsNow_2 : decode cX12_crossingsNow 2 = .ok (.iconst 0, 1) := by decide +kernel
theorem dX12_crossingsNow_3 : decode cX12_crossingsNow 3 = .ok (.istore_n 2, 1) := by decide +kernel
theorem dX12_crossingsNow_4 : decode cX12_crossingsNow 4 = .ok (.iload_n 2, 1) := by decide +kernel
theorem dX12_crossingsNow_5 : decode cX12_crossingsNow 5 = .ok (.aload_n 0, 1) := by decide +kernel
theorem dX12_crossingsNow_6 : decode cX12_crossingsNow 6 = .ok (.getfield 124, 3) := by decide +kernel
theorem dX12_crossingsNow_9 : decode cX12_crossingsNow 9 = .ok (.if_icmp .ge 59, 3) := by decide +kernel
theorem dX12_crossingsNow_12 : decode cX12_crossingsNow 12 = .ok (.iload_n 2, 1) := by decide +kernel
theorem dX12_crossingsNow_13 : decode cX12_crossingsNow 13 = .ok (.iconst 1, 1) := by decide +kernel
theorem dX12_crossingsNow_14 : decode cX12_crossingsNow 14 = .ok (.iadd, 1) := by decide +kernel
theorem dX12_crossingsNow_15 : decode cX12_crossingsNow 15 = .ok (.istore_n 3, 1) := by decide +kernel
theorem dX12_crossingsNow_16 : decode cX12_crossingsNow 16 = .ok (.iload_n 3, 1) := by decide +kernel
theorem dX12_crossingsNow_17 : decode cX12_crossingsNow 17 = .ok (.aload_n 0, 1) := by decide +kernel
theorem dX12_crossingsNow_18 : decode cX12_crossingsNow 18 = .ok (.getfield 124, 3) := by decide +kernel
theorem dX12_crossingsNow_21 : decode cX12_crossingsNow 21 = .ok (.if_icmp .ge 41, 3) := by decide +kernel
theorem dX12_crossingsNow_24 : decode cX12_crossingsNow 24 = .ok (.aload_n 0, 1) := by decide +kernel
theorem dX12_crossingsNow_25 : decode cX12_crossingsNow 25 = .ok (.getfield 41, 3) := by decide +kernel
theorem dX12_crossingsNow_28 : decode cX12_crossingsNow 28 = .ok (.iload_n 2, 1) := by decide +kernel
theorem dX12_crossingsNow_29 : decode cX12_crossingsNow 29 = .ok (.iaload, 1) := by decide +kernel
theorem dX12_crossingsNow_30 : decode cX12_crossingsNow 30 = .ok (.iload_n 2, 1) := by decide +kernel
theorem dX12_crossingsNow_31 : decode cX12_crossingsNow 31 = .ok (.if_icmp .le 25, 3) := by decide +kernel
theorem dX12_crossingsNow_34 : decode cX12_crossingsNow 34 = .ok (.aload_n 0, 1) := by decide +kernel
theorem dX12_crossingsNow_35 : decode cX12_crossingsNow 35 = .ok (.getfield 41, 3) := by decide +kernel
theorem dX12_crossingsNow_38 : decode cX12_crossingsNow 38 = .ok (.iload_n 3, 1) := by decide +kernel
theorem dX12_crossingsNow_39 : decode cX12_crossingsNow 39 = .ok (.iaload, 1) := by decide +kernel
theorem dX12_crossingsNow_40 : decode cX12_crossingsNow 40 = .ok (.iload_n 3, 1) := by decide +kernel
theorem dX12_crossingsNow_41 : decode cX12_crossingsNow 41 = .ok (.if_icmp .le 15, 3) := by decide +kernel
theorem dX12_crossingsNow_44 : decode cX12_crossingsNow 44 = .ok (.aload_n 0, 1) := by decide +kernel
theorem dX12_crossingsNow_45 : decode cX12_crossingsNow 45 = .ok (.iload_n 2, 1) := by decide +kernel
theorem dX12_crossingsNow_46 : decode cX12_crossingsNow 46 = .ok (.iload_n 3, 1) := by decide +kernel
theorem dX12_crossingsNow_47 : decode cX12_crossingsNow 47 = .ok (.invokevirtual 162, 3) := by decide +kernel
theorem dX12_crossingsNow_50 : decode cX12_crossingsNow 50 = .ok (.ifCond .eq 6, 3) := by decide +kernel
theorem dX12_crossingsNow_53 : decode cX12_crossingsNow 53 = .ok (.iinc 1 1, 3) := by decide +kernel
theorem dX12_crossingsNow_56 : decode cX12_crossingsNow 56 = .ok (.iinc 3 1, 3) := by decide +kernel
theorem dX12_crossingsNow_59 : decode cX12_crossingsNow 59 = .ok (.goto (-43), 3) := by decide +kernel
theorem dX12_crossingsNow_62 : decode cX12_crossingsNow 62 = .ok (.iinc 2 1, 3) := by decide +kernel
theorem dX12_crossingsNow_65 : decode cX12_crossingsNow 65 = .ok (.goto (-61), 3) := by decide +kernel
theorem dX12_crossingsNow_68 : decode cX12_crossingsNow 68 = .ok (.iload_n 1, 1) := by decide +kernel
theorem dX12_crossingsNow_69 : decode cX12_crossingsNow 69 = .ok (.ireturn, 1) := by decide +kernel
theorem dX12_signNow_0 : decode cX12_signNow 0 = .ok (.iconst 0, 1) := by decide +kernel
theorem dX12_signNow_1 : decode cX12_signNow 1 = .ok (.istore_n 1, 1) := by decide +kernel
theorem dX12_signNow_2 : decode cX12_signNow 2 = .ok (.iconst 0, 1) := by decide +kernel
theorem dX12_signNow_3 : decode cX12_signNow 3 = .ok (.istore_n 2, 1) := by decide +kernel
theorem dX12_signNow_4 : decode cX12_signNow 4 = .ok (.iload_n 2, 1) := by decide +kernel
theorem dX12_signNow_5 : decode cX12_signNow 5 = .ok (.aload_n 0, 1) := by decide +kernel
theorem dX12_signNow_6 : decode cX12_signNow 6 = .ok (.getfield 124, 3) := by decide +kernel
theorem dX12_signNow_9 : decode cX12_signNow 9 = .ok (.if_icmp .ge 122, 3) := by decide +kernel
theorem dX12_signNow_12 : decode cX12_signNow 12 = .ok (.aload_n 0, 1) := by decide +kernel
theorem dX12_signNow_13 : decode cX12_signNow 13 = .ok (.getfield 41, 3) := by decide +kernel
theorem dX12_signNow_16 : decode cX12_signNow 16 = .ok (.iload_n 2, 1) := by decide +kernel
theorem dX12_signNow_17 : decode cX12_signNow 17 = .ok (.iaload, 1) := by decide +kernel
theorem dX12_signNow_18 : decode cX12_signNow 18 = .ok (.iload_n 2, 1) := by decide +kernel
theorem dX12_signNow_19 : decode cX12_signNow 19 = .ok (.if_icmp .lt 106, 3) := by decide +kernel
theorem dX12_signNow_22 : decode cX12_signNow 22 = .ok (.aload_n 0, 1) := by decide +kernel
theorem dX12_signNow_23 : decode cX12_signNow 23 = .ok (.aload_n 0, 1) := by decide +kernel
theorem dX12_signNow_24 : decode cX12_signNow 24 = .ok (.getfield 19, 3) := by decide +kernel
theorem dX12_signNow_27 : decode cX12_signNow 27 = .ok (.iload_n 2, 1) := by decide +kernel
theorem dX12_signNow_28 : decode cX12_signNow 28 = .ok (.iaload, 1) := by decide +kernel
theorem dX12_signNow_29 : decode cX12_signNow 29 = .ok (.iconst 2, 1) := by decide +kernel
theorem dX12_signNow_30 : decode cX12_signNow 30 = .ok (.idiv, 1) := by decide +kernel
theorem dX12_signNow_31 : decode cX12_signNow 31 = .ok (.invokevirtual 165, 3) := by decide +kernel
theorem dX12_signNow_34 : decode cX12_signNow 34 = .ok (.ifCond .ne 6, 3) := by decide +kernel
theorem dX12_signNow_37 : decode cX12_signNow 37 = .ok (.goto 88, 3) := by decide +kernel
theorem dX12_signNow_40 : decode cX12_signNow 40 = .ok (.aload_n 0, 1) := by decide +kernel
theorem dX12_signNow_41 : decode cX12_signNow 41 = .ok (.aload_n 0, 1) := by decide +kernel
theorem dX12_signNow_42 : decode cX12_signNow 42 = .ok (.getfield 19, 3) := by decide +kernel
theorem dX12_signNow_45 : decode cX12_signNow 45 = .ok (.iload_n 2, 1) := by decide +kernel
theorem dX12_signNow_46 : decode cX12_signNow 46 = .ok (.iaload, 1) := by decide +kernel
theorem dX12_signNow_47 : decode cX12_signNow 47 = .ok (.iconst 2, 1) := by decide +kernel
theorem dX12_signNow_48 : decode cX12_signNow 48 = .ok (.idiv, 1) := by decide +kernel
theorem dX12_signNow_49 : decode cX12_signNow 49 = .ok (.invokevirtual 148, 3) := by decide +kernel
theorem dX12_signNow_52 : decode cX12_signNow 52 = .ok (.ifCond .eq 18, 3) := by decide +kernel
theorem dX12_signNow_55 : decode cX12_signNow 55 = .ok (.aload_n 0, 1) := by decide +kernel
theorem dX12_signNow_56 : decode cX12_signNow 56 = .ok (.getfield 19, 3) := by decide +kernel
theorem dX12_signNow_59 : decode cX12_signNow 59 = .ok (.iload_n 2, 1) := by decide +kernel
theorem dX12_signNow_60 : decode cX12_signNow 60 = .ok (.iaload, 1) := by decide +kernel
theorem dX12_signNow_61 : decode cX12_signNow 61 = .ok (.iconst 2, 1) := by decide +kernel
theorem dX12_signNow_62 : decode cX12_signNow 62 = .ok (.irem, 1) := by decide +kernel
theorem dX12_signNow_63 : decode cX12_signNow 63 = .ok (.iconst 1, 1) := by decide +kernel
theorem dX12_signNow_64 : decode cX12_signNow 64 = .ok (.if_icmp .ne 6, 3) := by decide +kernel
theorem dX12_signNow_67 : decode cX12_signNow 67 = .ok (.iinc 1 1, 3) := by decide +kernel
theorem dX12_signNow_70 : decode cX12_signNow 70 = .ok (.iload_n 2, 1) := by decide +kernel
theorem dX12_signNow_71 : decode cX12_signNow 71 = .ok (.iconst 1, 1) := by decide +kernel
theorem dX12_signNow_72 : decode cX12_signNow 72 = .ok (.iadd, 1) := by decide +kernel
theorem dX12_signNow_73 : decode cX12_signNow 73 = .ok (.istore_n 3, 1) := by decide +kernel
theorem dX12_signNow_74 : decode cX12_signNow 74 = .ok (.iload_n 3, 1) := by decide +kernel
theorem dX12_signNow_75 : decode cX12_signNow 75 = .ok (.aload_n 0, 1) := by decide +kernel
theorem dX12_signNow_76 : decode cX12_signNow 76 = .ok (.getfield 124, 3) := by decide +kernel
theorem dX12_signNow_79 : decode cX12_signNow 79 = .ok (.if_icmp .ge 46, 3) := by decide +kernel
theorem dX12_signNow_82 : decode cX12_signNow 82 = .ok (.aload_n 0, 1) := by decide +kernel
theorem dX12_signNow_83 : decode cX12_signNow 83 = .ok (.getfield 41, 3) := by decide +kernel
theorem dX12_signNow_86 : decode cX12_signNow 86 = .ok (.iload_n 3, 1) := by decide +kernel
theorem dX12_signNow_87 : decode cX12_signNow 87 = .ok (.iaload, 1) := by decide +kernel
theorem dX12_signNow_88 : decode cX12_signNow 88 = .ok (.iload_n 3, 1) := by decide +kernel
theorem dX12_signNow_89 : decode cX12_signNow 89 = .ok (.if_icmp .le 30, 3) := by decide +kernel
theorem dX12_signNow_92 : decode cX12_signNow 92 = .ok (.aload_n 0, 1) := by decide +kernel
theorem dX12_signNow_93 : decode cX12_signNow 93 = .ok (.aload_n 0, 1) := by decide +kernel
theorem dX12_signNow_94 : decode cX12_signNow 94 = .ok (.getfield 19, 3) := by decide +kernel
theorem dX12_signNow_97 : decode cX12_signNow 97 = .ok (.iload_n 3, 1) := by decide +kernel
theorem dX12_signNow_98 : decode cX12_signNow 98 = .ok (.iaload, 1) := by decide +kernel
theorem dX12_signNow_99 : decode cX12_signNow 99 = .ok (.iconst 2, 1) := by decide +kernel
theorem dX12_signNow_100 : decode cX12_signNow 100 = .ok (.idiv, 1) := by decide +kernel
theorem dX12_signNow_101 : decode cX12_signNow 101 = .ok (.invokevirtual 165, 3) := by decide +kernel
theorem dX12_signNow_104 : decode cX12_signNow 104 = .ok (.ifCond .eq 15, 3) := by decide +kernel
theorem dX12_signNow_107 : decode cX12_signNow 107 = .ok (.aload_n 0, 1) := by decide +kernel
theorem dX12_signNow_108 : decode cX12_signNow 108 = .ok (.iload_n 2, 1) := by decide +kernel
theorem dX12_signNow_109 : decode cX12_signNow 109 = .ok (.iload_n 3, 1) := by decide +kernel
theorem dX12_signNow_110 : decode cX12_signNow 110 = .ok (.invokevirtual 162, 3) := by decide +kernel
theorem dX12_signNow_113 : decode cX12_signNow 113 = .ok (.ifCond .eq 6, 3) := by decide +kernel
theorem dX12_signNow_116 : decode cX12_signNow 116 = .ok (.iinc 1 1, 3) := by decide +kernel
theorem dX12_signNow_119 : decode cX12_signNow 119 = .ok (.iinc 3 1, 3) := by decide +kernel
theorem dX12_signNow_122 : decode cX12_signNow 122 = .ok (.goto (-48), 3) := by decide +kernel
theorem dX12_signNow_125 : decode cX12_signNow 125 = .ok (.iinc 2 1, 3) := by decide +kernel
theorem dX12_signNow_128 : decode cX12_signNow 128 = .ok (.goto (-124), 3) := by decide +kernel
theorem dX12_signNow_131 : decode cX12_signNow 131 = .ok (.iload_n 1, 1) := by decide +kernel
theorem dX12_signNow_132 : decode cX12_signNow 132 = .ok (.iconst 2, 1) := by decide +kernel
theorem dX12_signNow_133 : decode cX12_signNow 133 = .ok (.irem, 1) := by decide +kernel
theorem dX12_signNow_134 : decode cX12_signNow 134 = .ok (.ifCond .ne 7, 3) := by decide +kernel
theorem dX12_signNow_137 : decode cX12_signNow 137 = .ok (.iconst 1, 1) := by decide +kernel
theorem dX12_signNow_138 : decode cX12_signNow 138 = .ok (.goto 4, 3) := by decide +kernel
theorem dX12_signNow_141 : decode cX12_signNow 141 = .ok (.iconst (-1), 1) := by decide +kernel
theorem dX12_signNow_142 : decode cX12_signNow 142 = .ok (.ireturn, 1) := by decide +kernel
theorem dX12_roundsNow_0 : decode cX12_roundsNow 0 = .ok (.iconst 0, 1) := by decide +kernel
theorem dX12_roundsNow_1 : decode cX12_roundsNow 1 = .ok (.istore_n 1, 1) := by decide +kernel
theorem dX12_roundsNow_2 : decode cX12_roundsNow 2 = .ok (.iconst 0, 1) := by decide +kernel
theorem dX12_roundsNow_3 : decode cX12_roundsNow 3 = .ok (.istore_n 2, 1) := by decide +kernel
theorem dX12_roundsNow_4 : decode cX12_roundsNow 4 = .ok (.iconst 0, 1) := by decide +kernel
theorem dX12_roundsNow_5 : decode cX12_roundsNow 5 = .ok (.istore_n 3, 1) := by decide +kernel
theorem dX12_roundsNow_6 : decode cX12_roundsNow 6 = .ok (.iload_n 3, 1) := by decide +kernel
theorem dX12_roundsNow_7 : decode cX12_roundsNow 7 = .ok (.aload_n 0, 1) := by decide +kernel
theorem dX12_roundsNow_8 : decode cX12_roundsNow 8 = .ok (.getfield 124, 3) := by decide +kernel
theorem dX12_roundsNow_11 : decode cX12_roundsNow 11 = .ok (.if_icmp .ge 61, 3) := by decide +kernel
theorem dX12_roundsNow_14 : decode cX12_roundsNow 14 = .ok (.iload_n 1, 1) := by decide +kernel
theorem dX12_roundsNow_15 : decode cX12_roundsNow 15 = .ok (.iload_n 3, 1) := by decide +kernel
theorem dX12_roundsNow_16 : decode cX12_roundsNow 16 = .ok (.invokestatic 158, 3) := by decide +kernel
theorem dX12_roundsNow_19 : decode cX12_roundsNow 19 = .ok (.ifCond .eq 6, 3) := by decide +kernel
theorem dX12_roundsNow_22 : decode cX12_roundsNow 22 = .ok (.goto 44, 3) := by decide +kernel
theorem dX12_roundsNow_25 : decode cX12_roundsNow 25 = .ok (.iinc 2 1, 3) := by decide +kernel
theorem dX12_roundsNow_28 : decode cX12_roundsNow 28 = .ok (.iload_n 3, 1) := by decide +kernel
theorem dX12_roundsNow_29 : decode cX12_roundsNow 29 = .ok (.istore 4, 2) := by decide +kernel
theorem dX12_roundsNow_31 : decode cX12_roundsNow 31 = .ok (.iload_n 1, 1) := by decide +kernel
theorem dX12_roundsNow_32 : decode cX12_roundsNow 32 = .ok (.iload 4, 2) := by decide +kernel
theorem dX12_roundsNow_34 : decode cX12_roundsNow 34 = .ok (.invokestatic 158, 3) := by decide +kernel
theorem dX12_roundsNow_37 : decode cX12_roundsNow 37 = .ok (.ifCond .ne 29, 3) := by decide +kernel
theorem dX12_roundsNow_40 : decode cX12_roundsNow 40 = .ok (.iload_n 1, 1) := by decide +kernel
theorem dX12_roundsNow_41 : decode cX12_roundsNow 41 = .ok (.iconst 1, 1) := by decide +kernel
theorem dX12_roundsNow_42 : decode cX12_roundsNow 42 = .ok (.iload 4, 2) := by decide +kernel
theorem dX12_roundsNow_44 : decode cX12_roundsNow 44 = .ok (.ishl, 1) := by decide +kernel
theorem dX12_roundsNow_45 : decode cX12_roundsNow 45 = .ok (.ior, 1) := by decide +kernel
theorem dX12_roundsNow_46 : decode cX12_roundsNow 46 = .ok (.istore_n 1, 1) := by decide +kernel
theorem dX12_roundsNow_47 : decode cX12_roundsNow 47 = .ok (.aload_n 0, 1) := by decide +kernel
theorem dX12_roundsNow_48 : decode cX12_roundsNow 48 = .ok (.getfield 41, 3) := by decide +kernel
theorem dX12_roundsNow_51 : decode cX12_roundsNow 51 = .ok (.iload 4, 2) := by decide +kernel
theorem dX12_roundsNow_53 : decode cX12_roundsNow 53 = .ok (.iaload, 1) := by decide +kernel
theorem dX12_roundsNow_54 : decode cX12_roundsNow 54 = .ok (.iconst 1, 1) := by decide +kernel
theorem dX12_roundsNow_55 : decode cX12_roundsNow 55 = .ok (.iadd, 1) := by decide +kernel
theorem dX12_roundsNow_56 : decode cX12_roundsNow 56 = .ok (.aload_n 0, 1) := by decide +kernel
theorem dX12_roundsNow_57 : decode cX12_roundsNow 57 = .ok (.getfield 124, 3) := by decide +kernel
theorem dX12_roundsNow_60 : decode cX12_roundsNow 60 = .ok (.irem, 1) := by decide +kernel
theorem dX12_roundsNow_61 : decode cX12_roundsNow 61 = .ok (.istore 4, 2) := by decide +kernel
theorem dX12_roundsNow_63 : decode cX12_roundsNow 63 = .ok (.goto (-32), 3) := by decide +kernel
theorem dX12_roundsNow_66 : decode cX12_roundsNow 66 = .ok (.iinc 3 1, 3) := by decide +kernel
theorem dX12_roundsNow_69 : decode cX12_roundsNow 69 = .ok (.goto (-63), 3) := by decide +kernel
theorem dX12_roundsNow_72 : decode cX12_roundsNow 72 = .ok (.iload_n 2, 1) := by decide +kernel
theorem dX12_roundsNow_73 : decode cX12_roundsNow 73 = .ok (.ireturn, 1) := by decide +kernel
theorem dX12_laysAll_0 : decode cX12_laysAll 0 = .ok (.aload_n 0, 1) := by decide +kernel
theorem dX12_laysAll_1 : decode cX12_laysAll 1 = .ok (.invokevirtual 168, 3) := by decide +kernel
theorem dX12_laysAll_4 : decode cX12_laysAll 4 = .ok (.istore_n 1, 1) := by decide +kernel
theorem dX12_laysAll_5 : decode cX12_laysAll 5 = .ok (.iload_n 1, 1) := by decide +kernel
theorem dX12_laysAll_6 : decode cX12_laysAll 6 = .ok (.ifCond .ge 89, 3) := by decide +kernel
theorem dX12_laysAll_9 : decode cX12_laysAll 9 = .ok (.iconst 0, 1) := by decide +kernel
theorem dX12_laysAll_10 : decode cX12_laysAll 10 = .ok (.istore_n 2, 1) := by decide +kernel
theorem dX12_laysAll_11 : decode cX12_laysAll 11 = .ok (.iload_n 2, 1) := by decide +kernel
theorem dX12_laysAll_12 : decode cX12_laysAll 12 = .ok (.aload_n 0, 1) := by decide +kernel
theorem dX12_laysAll_13 : decode cX12_laysAll 13 = .ok (.getfield 124, 3) := by decide +kernel
theorem dX12_laysAll_16 : decode cX12_laysAll 16 = .ok (.if_icmp .ge 29, 3) := by decide +kernel
theorem dX12_laysAll_19 : decode cX12_laysAll 19 = .ok (.aload_n 0, 1) := by decide +kernel
theorem dX12_laysAll_20 : decode cX12_laysAll 20 = .ok (.getfield 26, 3) := by decide +kernel
theorem dX12_laysAll_23 : decode cX12_laysAll 23 = .ok (.bipush 12, 2) := by decide +kernel
theorem dX12_laysAll_25 : decode cX12_laysAll 25 = .ok (.aload_n 0, 1) := by decide +kernel
theorem dX12_laysAll_26 : decode cX12_laysAll 26 = .ok (.getfield 172, 3) := by decide +kernel
theorem dX12_laysAll_29 : decode cX12_laysAll 29 = .ok (.imul, 1) := by decide +kernel
theorem dX12_laysAll_30 : decode cX12_laysAll 30 = .ok (.iload_n 2, 1) := by decide +kernel
theorem dX12_laysAll_31 : decode cX12_laysAll 31 = .ok (.iadd, 1) := by decide +kernel
theorem dX12_laysAll_32 : decode cX12_laysAll 32 = .ok (.aload_n 0, 1) := by decide +kernel
theorem dX12_laysAll_33 : decode cX12_laysAll 33 = .ok (.getfield 41, 3) := by decide +kernel
theorem dX12_laysAll_36 : decode cX12_laysAll 36 = .ok (.iload_n 2, 1) := by decide +kernel
theorem dX12_laysAll_37 : decode cX12_laysAll 37 = .ok (.iaload, 1) := by decide +kernel
theorem dX12_laysAll_38 : decode cX12_laysAll 38 = .ok (.iastore, 1) := by decide +kernel
theorem dX12_laysAll_39 : decode cX12_laysAll 39 = .ok (.iinc 2 1, 3) := by decide +kernel
theorem dX12_laysAll_42 : decode cX12_laysAll 42 = .ok (.goto (-31), 3) := by decide +kernel
theorem dX12_laysAll_45 : decode cX12_laysAll 45 = .ok (.aload_n 0, 1) := by decide +kernel
theorem dX12_laysAll_46 : decode cX12_laysAll 46 = .ok (.getfield 29, 3) := by decide +kernel
theorem dX12_laysAll_49 : decode cX12_laysAll 49 = .ok (.aload_n 0, 1) := by decide +kernel
theorem dX12_laysAll_50 : decode cX12_laysAll 50 = .ok (.getfield 172, 3) := by decide +kernel
theorem dX12_laysAll_53 : decode cX12_laysAll 53 = .ok (.aload_n 0, 1) := by decide +kernel
theorem dX12_laysAll_54 : decode cX12_laysAll 54 = .ok (.invokevirtual 175, 3) := by decide +kernel
theorem dX12_laysAll_57 : decode cX12_laysAll 57 = .ok (.iastore, 1) := by decide +kernel
theorem dX12_laysAll_58 : decode cX12_laysAll 58 = .ok (.aload_n 0, 1) := by decide +kernel
theorem dX12_laysAll_59 : decode cX12_laysAll 59 = .ok (.getfield 32, 3) := by decide +kernel
theorem dX12_laysAll_62 : decode cX12_laysAll 62 = .ok (.aload_n 0, 1) := by decide +kernel
theorem dX12_laysAll_63 : decode cX12_laysAll 63 = .ok (.getfield 172, 3) := by decide +kernel
theorem dX12_laysAll_66 : decode cX12_laysAll 66 = .ok (.aload_n 0, 1) := by decide +kernel
theorem dX12_laysAll_67 : decode cX12_laysAll 67 = .ok (.invokevirtual 178, 3) := by decide +kernel
theorem dX12_laysAll_70 : decode cX12_laysAll 70 = .ok (.iastore, 1) := by decide +kernel
theorem dX12_laysAll_71 : decode cX12_laysAll 71 = .ok (.aload_n 0, 1) := by decide +kernel
theorem dX12_laysAll_72 : decode cX12_laysAll 72 = .ok (.getfield 35, 3) := by decide +kernel
theorem dX12_laysAll_75 : decode cX12_laysAll 75 = .ok (.aload_n 0, 1) := by decide +kernel
theorem dX12_laysAll_76 : decode cX12_laysAll 76 = .ok (.getfield 172, 3) := by decide +kernel
theorem dX12_laysAll_79 : decode cX12_laysAll 79 = .ok (.aload_n 0, 1) := by decide +kernel
theorem dX12_laysAll_80 : decode cX12_laysAll 80 = .ok (.invokevirtual 181, 3) := by decide +kernel
theorem dX12_laysAll_83 : decode cX12_laysAll 83 = .ok (.iastore, 1) := by decide +kernel
theorem dX12_laysAll_84 : decode cX12_laysAll 84 = .ok (.aload_n 0, 1) := by decide +kernel
theorem dX12_laysAll_85 : decode cX12_laysAll 85 = .ok (.dup, 1) := by decide +kernel
theorem dX12_laysAll_86 : decode cX12_laysAll 86 = .ok (.getfield 172, 3) := by decide +kernel
theorem dX12_laysAll_89 : decode cX12_laysAll 89 = .ok (.iconst 1, 1) := by decide +kernel
theorem dX12_laysAll_90 : decode cX12_laysAll 90 = .ok (.iadd, 1) := by decide +kernel
theorem dX12_laysAll_91 : decode cX12_laysAll 91 = .ok (.putfield 172, 3) := by decide +kernel
theorem dX12_laysAll_94 : decode cX12_laysAll 94 = .ok (.return_, 1) := by decide +kernel
theorem dX12_laysAll_95 : decode cX12_laysAll 95 = .ok (.iload_n 1, 1) := by decide +kernel
theorem dX12_laysAll_96 : decode cX12_laysAll 96 = .ok (.iconst 1, 1) := by decide +kernel
theorem dX12_laysAll_97 : decode cX12_laysAll 97 = .ok (.iadd, 1) := by decide +kernel
theorem dX12_laysAll_98 : decode cX12_laysAll 98 = .ok (.istore_n 2, 1) := by decide +kernel
theorem dX12_laysAll_99 : decode cX12_laysAll 99 = .ok (.iload_n 2, 1) := by decide +kernel
theorem dX12_laysAll_100 : decode cX12_laysAll 100 = .ok (.aload_n 0, 1) := by decide +kernel
theorem dX12_laysAll_101 : decode cX12_laysAll 101 = .ok (.getfield 124, 3) := by decide +kernel
theorem dX12_laysAll_104 : decode cX12_laysAll 104 = .ok (.if_icmp .ge 62, 3) := by decide +kernel
theorem dX12_laysAll_107 : decode cX12_laysAll 107 = .ok (.aload_n 0, 1) := by decide +kernel
theorem dX12_laysAll_108 : decode cX12_laysAll 108 = .ok (.getfield 41, 3) := by decide +kernel
theorem dX12_laysAll_111 : decode cX12_laysAll 111 = .ok (.iload_n 2, 1) := by decide +kernel
theorem dX12_laysAll_112 : decode cX12_laysAll 112 = .ok (.iaload, 1) := by decide +kernel
theorem dX12_laysAll_113 : decode cX12_laysAll 113 = .ok (.ifCond .ge 47, 3) := by decide +kernel
theorem dX12_laysAll_116 : decode cX12_laysAll 116 = .ok (.aload_n 0, 1) := by decide +kernel
theorem dX12_laysAll_117 : decode cX12_laysAll 117 = .ok (.iload_n 1, 1) := by decide +kernel
theorem dX12_laysAll_118 : decode cX12_laysAll 118 = .ok (.iload_n 2, 1) := by decide +kernel
theorem dX12_laysAll_119 : decode cX12_laysAll 119 = .ok (.invokevirtual 184, 3) := by decide +kernel
theorem dX12_laysAll_122 : decode cX12_laysAll 122 = .ok (.ifCond .ne 6, 3) := by decide +kernel
theorem dX12_laysAll_125 : decode cX12_laysAll 125 = .ok (.goto 35, 3) := by decide +kernel
theorem dX12_laysAll_128 : decode cX12_laysAll 128 = .ok (.aload_n 0, 1) := by decide +kernel
theorem dX12_laysAll_129 : decode cX12_laysAll 129 = .ok (.getfield 41, 3) := by decide +kernel
theorem dX12_laysAll_132 : decode cX12_laysAll 132 = .ok (.iload_n 1, 1) := by decide +kernel
theorem dX12_laysAll_133 : decode cX12_laysAll 133 = .ok (.iload_n 2, 1) := by decide +kernel
theorem dX12_laysAll_134 : decode cX12_laysAll 134 = .ok (.iastore, 1) := by decide +kernel
theorem dX12_laysAll_135 : decode cX12_laysAll 135 = .ok (.aload_n 0, 1) := by decide +kernel
theorem dX12_laysAll_136 : decode cX12_laysAll 136 = .ok (.getfield 41, 3) := by decide +kernel
theorem dX12_laysAll_139 : decode cX12_laysAll 139 = .ok (.iload_n 2, 1) := by decide +kernel
theorem dX12_laysAll_140 : decode cX12_laysAll 140 = .ok (.iload_n 1, 1) := by decide +kernel
theorem dX12_laysAll_141 : decode cX12_laysAll 141 = .ok (.iastore, 1) := by decide +kernel
theorem dX12_laysAll_142 : decode cX12_laysAll 142 = .ok (.aload_n 0, 1) := by decide +kernel
theorem dX12_laysAll_143 : decode cX12_laysAll 143 = .ok (.invokevirtual 187, 3) := by decide +kernel
theorem dX12_laysAll_146 : decode cX12_laysAll 146 = .ok (.aload_n 0, 1) := by decide +kernel
theorem dX12_laysAll_147 : decode cX12_laysAll 147 = .ok (.getfield 41, 3) := by decide +kernel
theorem dX12_laysAll_150 : decode cX12_laysAll 150 = .ok (.iload_n 1, 1) := by decide +kernel
theorem dX12_laysAll_151 : decode cX12_laysAll 151 = .ok (.iconst (-1), 1) := by decide +kernel
theorem dX12_laysAll_152 : decode cX12_laysAll 152 = .ok (.iastore, 1) := by decide +kernel
theorem dX12_laysAll_153 : decode cX12_laysAll 153 = .ok (.aload_n 0, 1) := by decide +kernel
theorem dX12_laysAll_154 : decode cX12_laysAll 154 = .ok (.getfield 41, 3) := by decide +kernel
theorem dX12_laysAll_157 : decode cX12_laysAll 157 = .ok (.iload_n 2, 1) := by decide +kernel
theorem dX12_laysAll_158 : decode cX12_laysAll 158 = .ok (.iconst (-1), 1) := by decide +kernel
theorem dX12_laysAll_159 : decode cX12_laysAll 159 = .ok (.iastore, 1) := by decide +kernel
theorem dX12_laysAll_160 : decode cX12_laysAll 160 = .ok (.iinc 2 1, 3) := by decide +kernel
theorem dX12_laysAll_163 : decode cX12_laysAll 163 = .ok (.goto (-64), 3) := by decide +kernel
theorem dX12_laysAll_166 : decode cX12_laysAll 166 = .ok (.return_, 1) := by decide +kernel
theorem dX12_lays_0 : decode cX12_lays 0 = .ok (.aload_n 0, 1) := by decide +kernel
theorem dX12_lays_1 : decode cX12_lays 1 = .ok (.getfield 130, 3) := by decide +kernel
theorem dX12_lays_4 : decode cX12_lays 4 = .ok (.ifCond .eq 4, 3) := by decide +kernel
theorem dX12_lays_7 : decode cX12_lays 7 = .ok (.return_, 1) := by decide +kernel
theorem dX12_lays_8 : decode cX12_lays 8 = .ok (.aload_n 0, 1) := by decide +kernel
theorem dX12_lays_9 : decode cX12_lays 9 = .ok (.iconst 1, 1) := by decide +kernel
theorem dX12_lays_10 : decode cX12_lays 10 = .ok (.putfield 130, 3) := by decide +kernel
theorem dX12_lays_13 : decode cX12_lays 13 = .ok (.aload_n 0, 1) := by decide +kernel
theorem dX12_lays_14 : decode cX12_lays 14 = .ok (.iconst 0, 1) := by decide +kernel
theorem dX12_lays_15 : decode cX12_lays 15 = .ok (.putfield 172, 3) := by decide +kernel
theorem dX12_lays_18 : decode cX12_lays 18 = .ok (.aload_n 0, 1) := by decide +kernel
theorem dX12_lays_19 : decode cX12_lays 19 = .ok (.iconst 1, 1) := by decide +kernel
theorem dX12_lays_20 : decode cX12_lays 20 = .ok (.aload_n 0, 1) := by decide +kernel
theorem dX12_lays_21 : decode cX12_lays 21 = .ok (.getfield 124, 3) := by decide +kernel
theorem dX12_lays_24 : decode cX12_lays 24 = .ok (.ishl, 1) := by decide +kernel
theorem dX12_lays_25 : decode cX12_lays 25 = .ok (.iconst 1, 1) := by decide +kernel
theorem dX12_lays_26 : decode cX12_lays 26 = .ok (.isub, 1) := by decide +kernel
theorem dX12_lays_27 : decode cX12_lays 27 = .ok (.invokevirtual 190, 3) := by decide +kernel
theorem dX12_lays_30 : decode cX12_lays 30 = .ok (.aload_n 0, 1) := by decide +kernel
theorem dX12_lays_31 : decode cX12_lays 31 = .ok (.invokevirtual 187, 3) := by decide +kernel
theorem dX12_lays_34 : decode cX12_lays 34 = .ok (.return_, 1) := by decide +kernel
theorem dX12_mateOf_0 : decode cX12_mateOf 0 = .ok (.aload_n 0, 1) := by decide +kernel
theorem dX12_mateOf_1 : decode cX12_mateOf 1 = .ok (.getfield 26, 3) := by decide +kernel
theorem dX12_mateOf_4 : decode cX12_mateOf 4 = .ok (.bipush 12, 2) := by decide +kernel
theorem dX12_mateOf_6 : decode cX12_mateOf 6 = .ok (.iload_n 1, 1) := by decide +kernel
theorem dX12_mateOf_7 : decode cX12_mateOf 7 = .ok (.imul, 1) := by decide +kernel
theorem dX12_mateOf_8 : decode cX12_mateOf 8 = .ok (.iload_n 2, 1) := by decide +kernel
theorem dX12_mateOf_9 : decode cX12_mateOf 9 = .ok (.iadd, 1) := by decide +kernel
theorem dX12_mateOf_10 : decode cX12_mateOf 10 = .ok (.iaload, 1) := by decide +kernel
theorem dX12_mateOf_11 : decode cX12_mateOf 11 = .ok (.ireturn, 1) := by decide +kernel
theorem dX12_holesOf_0 : decode cX12_holesOf 0 = .ok (.aload_n 0, 1) := by decide +kernel
theorem dX12_holesOf_1 : decode cX12_holesOf 1 = .ok (.getfield 124, 3) := by decide +kernel
theorem dX12_holesOf_4 : decode cX12_holesOf 4 = .ok (.ifCond .ne 7, 3) := by decide +kernel
theorem dX12_holesOf_7 : decode cX12_holesOf 7 = .ok (.iconst 0, 1) := by decide +kernel
theorem dX12_holesOf_8 : decode cX12_holesOf 8 = .ok (.goto 20, 3) := by decide +kernel
theorem dX12_holesOf_11 : decode cX12_holesOf 11 = .ok (.aload_n 0, 1) := by decide +kernel
theorem dX12_holesOf_12 : decode cX12_holesOf 12 = .ok (.getfield 124, 3) := by decide +kernel
theorem dX12_holesOf_15 : decode cX12_holesOf 15 = .ok (.iconst 2, 1) := by decide +kernel
theorem dX12_holesOf_16 : decode cX12_holesOf 16 = .ok (.idiv, 1) := by decide +kernel
theorem dX12_holesOf_17 : decode cX12_holesOf 17 = .ok (.iconst 1, 1) := by decide +kernel
theorem dX12_holesOf_18 : decode cX12_holesOf 18 = .ok (.iadd, 1) := by decide +kernel
theorem dX12_holesOf_19 : decode cX12_holesOf 19 = .ok (.aload_n 0, 1) := by decide +kernel
theorem dX12_holesOf_20 : decode cX12_holesOf 20 = .ok (.getfield 35, 3) := by decide +kernel
theorem dX12_holesOf_23 : decode cX12_holesOf 23 = .ok (.iload_n 1, 1) := by decide +kernel
theorem dX12_holesOf_24 : decode cX12_holesOf 24 = .ok (.iaload, 1) := by decide +kernel
theorem dX12_holesOf_25 : decode cX12_holesOf 25 = .ok (.isub, 1) := by decide +kernel
theorem dX12_holesOf_26 : decode cX12_holesOf 26 = .ok (.iconst 2, 1) := by decide +kernel
theorem dX12_holesOf_27 : decode cX12_holesOf 27 = .ok (.idiv, 1) := by decide +kernel
theorem dX12_holesOf_28 : decode cX12_holesOf 28 = .ok (.ireturn, 1) := by decide +kernel
theorem dX12_isPairing_0 : decode cX12_isPairing 0 = .ok (.aload_n 0, 1) := by decide +kernel
theorem dX12_isPairing_1 : decode cX12_isPairing 1 = .ok (.invokevirtual 194, 3) := by decide +kernel
theorem dX12_isPairing_4 : decode cX12_isPairing 4 = .ok (.iload_n 1, 1) := by decide +kernel
theorem dX12_isPairing_5 : decode cX12_isPairing 5 = .ok (.iconst 0, 1) := by decide +kernel
theorem dX12_isPairing_6 : decode cX12_isPairing 6 = .ok (.aload_n 0, 1) := by decide +kernel
theorem dX12_isPairing_7 : decode cX12_isPairing 7 = .ok (.getfield 172, 3) := by decide +kernel
theorem dX12_isPairing_10 : decode cX12_isPairing 10 = .ok (.iconst 1, 1) := by decide +kernel
theorem dX12_isPairing_11 : decode cX12_isPairing 11 = .ok (.isub, 1) := by decide +kernel
theorem dX12_isPairing_12 : decode cX12_isPairing 12 = .ok (.invokestatic 140, 3) := by decide +kernel
theorem dX12_isPairing_15 : decode cX12_isPairing 15 = .ok (.ireturn, 1) := by decide +kernel
theorem dX12_codesOf_0 : decode cX12_codesOf 0 = .ok (.aload_n 0, 1) := by decide +kernel
theorem dX12_codesOf_1 : decode cX12_codesOf 1 = .ok (.iconst 0, 1) := by decide +kernel
theorem dX12_codesOf_2 : decode cX12_codesOf 2 = .ok (.putfield 197, 3) := by decide +kernel
theorem dX12_codesOf_5 : decode cX12_codesOf 5 = .ok (.iconst 0, 1) := by decide +kernel
theorem dX12_codesOf_6 : decode cX12_codesOf 6 = .ok (.istore_n 2, 1) := by decide +kernel
theorem dX12_codesOf_7 : decode cX12_codesOf 7 = .ok (.iload_n 2, 1) := by decide +kernel
theorem dX12_codesOf_8 : decode cX12_codesOf 8 = .ok (.aload_n 0, 1) := by decide +kernel
theorem dX12_codesOf_9 : decode cX12_codesOf 9 = .ok (.getfield 124, 3) := by decide +kernel
theorem dX12_codesOf_12 : decode cX12_codesOf 12 = .ok (.if_icmp .ge 52, 3) := by decide +kernel
theorem dX12_codesOf_15 : decode cX12_codesOf 15 = .ok (.aload_n 0, 1) := by decide +kernel
theorem dX12_codesOf_16 : decode cX12_codesOf 16 = .ok (.iload_n 1, 1) := by decide +kernel
theorem dX12_codesOf_17 : decode cX12_codesOf 17 = .ok (.iload_n 2, 1) := by decide +kernel
theorem dX12_codesOf_18 : decode cX12_codesOf 18 = .ok (.invokevirtual 200, 3) := by decide +kernel
theorem dX12_codesOf_21 : decode cX12_codesOf 21 = .ok (.iload_n 2, 1) := by decide +kernel
theorem dX12_codesOf_22 : decode cX12_codesOf 22 = .ok (.if_icmp .ge 6, 3) := by decide +kernel
theorem dX12_codesOf_25 : decode cX12_codesOf 25 = .ok (.goto 33, 3) := by decide +kernel
theorem dX12_codesOf_28 : decode cX12_codesOf 28 = .ok (.aload_n 0, 1) := by decide +kernel
theorem dX12_codesOf_29 : decode cX12_codesOf 29 = .ok (.getfield 44, 3) := by decide +kernel
theorem dX12_codesOf_32 : decode cX12_codesOf 32 = .ok (.aload_n 0, 1) := by decide +kernel
theorem dX12_codesOf_33 : decode cX12_codesOf 33 = .ok (.getfield 197, 3) := by decide +kernel
theorem dX12_codesOf_36 : decode cX12_codesOf 36 = .ok (.aload_n 0, 1) := by decide +kernel
theorem dX12_codesOf_37 : decode cX12_codesOf 37 = .ok (.iload_n 2, 1) := by decide +kernel
theorem dX12_codesOf_38 : decode cX12_codesOf 38 = .ok (.aload_n 0, 1) := by decide +kernel
theorem dX12_codesOf_39 : decode cX12_codesOf 39 = .ok (.iload_n 1, 1) := by decide +kernel
theorem dX12_codesOf_40 : decode cX12_codesOf 40 = .ok (.iload_n 2, 1) := by decide +kernel
theorem dX12_codesOf_41 : decode cX12_codesOf 41 = .ok (.invokevirtual 200, 3) := by decide +kernel
theorem dX12_codesOf_44 : decode cX12_codesOf 44 = .ok (.invokevirtual 203, 3) := by decide +kernel
theorem dX12_codesOf_47 : decode cX12_codesOf 47 = .ok (.iastore, 1) := by decide +kernel
theorem dX12_codesOf_48 : decode cX12_codesOf 48 = .ok (.aload_n 0, 1) := by decide +kernel
theorem dX12_codesOf_49 : decode cX12_codesOf 49 = .ok (.dup, 1) := by decide +kernel
theorem dX12_codesOf_50 : decode cX12_codesOf 50 = .ok (.getfield 197, 3) := by decide +kernel
theorem dX12_codesOf_53 : decode cX12_codesOf 53 = .ok (.iconst 1, 1) := by decide +kernel
theorem dX12_codesOf_54 : decode cX12_codesOf 54 = .ok (.iadd, 1) := by decide +kernel
theorem dX12_codesOf_55 : decode cX12_codesOf 55 = .ok (.putfield 197, 3) := by decide +kernel
theorem dX12_codesOf_58 : decode cX12_codesOf 58 = .ok (.iinc 2 1, 3) := by decide +kernel
theorem dX12_codesOf_61 : decode cX12_codesOf 61 = .ok (.goto (-54), 3) := by decide +kernel
theorem dX12_codesOf_64 : decode cX12_codesOf 64 = .ok (.return_, 1) := by decide +kernel
theorem dX12_sorts_0 : decode cX12_sorts 0 = .ok (.iconst 1, 1) := by decide +kernel
theorem dX12_sorts_1 : decode cX12_sorts 1 = .ok (.istore_n 2, 1) := by decide +kernel
theorem dX12_sorts_2 : decode cX12_sorts 2 = .ok (.iload_n 2, 1) := by decide +kernel
theorem dX12_sorts_3 : decode cX12_sorts 3 = .ok (.iload_n 1, 1) := by decide +kernel
theorem dX12_sorts_4 : decode cX12_sorts 4 = .ok (.if_icmp .ge 52, 3) := by decide +kernel
theorem dX12_sorts_7 : decode cX12_sorts 7 = .ok (.aload_n 0, 1) := by decide +kernel
theorem dX12_sorts_8 : decode cX12_sorts 8 = .ok (.iload_n 2, 1) := by decide +kernel
theorem dX12_sorts_9 : decode cX12_sorts 9 = .ok (.iaload, 1) := by decide +kernel
theorem dX12_sorts_10 : decode cX12_sorts 10 = .ok (.istore_n 3, 1) := by decide +kernel
theorem dX12_sorts_11 : decode cX12_sorts 11 = .ok (.iload_n 2, 1) := by decide +kernel
theorem dX12_sorts_12 : decode cX12_sorts 12 = .ok (.istore 4, 2) := by decide +kernel
theorem dX12_sorts_14 : decode cX12_sorts 14 = .ok (.iload 4, 2) := by decide +kernel
theorem dX12_sorts_16 : decode cX12_sorts 16 = .ok (.ifCond .le 29, 3) := by decide +kernel
theorem dX12_sorts_19 : decode cX12_sorts 19 = .ok (.aload_n 0, 1) := by decide +kernel
theorem dX12_sorts_20 : decode cX12_sorts 20 = .ok (.iload 4, 2) := by decide +kernel
theorem dX12_sorts_22 : decode cX12_sorts 22 = .ok (.iconst 1, 1) := by decide +kernel
theorem dX12_sorts_23 : decode cX12_sorts 23 = .ok (.isub, 1) := by decide +kernel
theorem dX12_sorts_24 : decode cX12_sorts 24 = .ok (.iaload, 1) := by decide +kernel
theorem dX12_sorts_25 : decode cX12_sorts 25 = .ok (.iload_n 3, 1) := by decide +kernel
theorem dX12_sorts_26 : decode cX12_sorts 26 = .ok (.if_icmp .le 19, 3) := by decide +kernel
theorem dX12_sorts_29 : decode cX12_sorts 29 = .ok (.aload_n 0, 1) := by decide +kernel
theorem dX12_sorts_30 : decode cX12_sorts 30 = .ok (.iload 4, 2) := by decide +kernel
theorem dX12_sorts_32 : decode cX12_sorts 32 = .ok (.aload_n 0, 1) := by decide +kernel
theorem dX12_sorts_33 : decode cX12_sorts 33 = .ok (.iload 4, 2) := by decide +kernel
theorem dX12_sorts_35 : decode cX12_sorts 35 = .ok (.iconst 1, 1) := by decide +kernel
theorem dX12_sorts_36 : decode cX12_sorts 36 = .ok (.isub, 1) := by decide +kernel
theorem dX12_sorts_37 : decode cX12_sorts 37 = .ok (.iaload, 1) := by decide +kernel
theorem dX12_sorts_38 : decode cX12_sorts 38 = .ok (.iastore, 1) := by decide +kernel
theorem dX12_sorts_39 : decode cX12_sorts 39 = .ok (.iinc 4 (-1), 3) := by decide +kernel
theorem dX12_sorts_42 : decode cX12_sorts 42 = .ok (.goto (-28), 3) := by decide +kernel
theorem dX12_sorts_45 : decode cX12_sorts 45 = .ok (.aload_n 0, 1) := by decide +kernel
theorem dX12_sorts_46 : decode cX12_sorts 46 = .ok (.iload 4, 2) := by decide +kernel
theorem dX12_sorts_48 : decode cX12_sorts 48 = .ok (.iload_n 3, 1) := by decide +kernel
theorem dX12_sorts_49 : decode cX12_sorts 49 = .ok (.iastore, 1) := by decide +kernel
theorem dX12_sorts_50 : decode cX12_sorts 50 = .ok (.iinc 2 1, 3) := by decide +kernel
theorem dX12_sorts_53 : decode cX12_sorts 53 = .ok (.goto (-51), 3) := by decide +kernel
theorem dX12_sorts_56 : decode cX12_sorts 56 = .ok (.return_, 1) := by decide +kernel
theorem dX12_packed_0 : decode cX12_packed 0 = .ok (.lconst 0, 1) := by decide +kernel
theorem dX12_packed_1 : decode cX12_packed 1 = .ok (.lstore_n 2, 1) := by decide +kernel
theorem dX12_packed_2 : decode cX12_packed 2 = .ok (.iconst 0, 1) := by decide +kernel
theorem dX12_packed_3 : decode cX12_packed 3 = .ok (.istore 4, 2) := by decide +kernel
theorem dX12_packed_5 : decode cX12_packed 5 = .ok (.iload 4, 2) := by decide +kernel
theorem dX12_packed_7 : decode cX12_packed 7 = .ok (.iload_n 1, 1) := by decide +kernel
theorem dX12_packed_8 : decode cX12_packed 8 = .ok (.if_icmp .ge 20, 3) := by decide +kernel
theorem dX12_packed_11 : decode cX12_packed 11 = .ok (.lload_n 2, 1) := by decide +kernel
theorem dX12_packed_12 : decode cX12_packed 12 = .ok (.bipush 10, 2) := by decide +kernel
theorem dX12_packed_14 : decode cX12_packed 14 = .ok (.lshl, 1) := by decide +kernel
theorem dX12_packed_15 : decode cX12_packed 15 = .ok (.aload_n 0, 1) := by decide +kernel
theorem dX12_packed_16 : decode cX12_packed 16 = .ok (.iload 4, 2) := by decide +kernel
theorem dX12_packed_18 : decode cX12_packed 18 = .ok (.iaload, 1) := by decide +kernel
theorem dX12_packed_19 : decode cX12_packed 19 = .ok (.i2l, 1) := by decide +kernel
theorem dX12_packed_20 : decode cX12_packed 20 = .ok (.lor, 1) := by decide +kernel
theorem dX12_packed_21 : decode cX12_packed 21 = .ok (.lstore_n 2, 1) := by decide +kernel
theorem dX12_packed_22 : decode cX12_packed 22 = .ok (.iinc 4 1, 3) := by decide +kernel
theorem dX12_packed_25 : decode cX12_packed 25 = .ok (.goto (-20), 3) := by decide +kernel
theorem dX12_packed_28 : decode cX12_packed 28 = .ok (.lload_n 2, 1) := by decide +kernel
theorem dX12_packed_29 : decode cX12_packed 29 = .ok (.lreturn, 1) := by decide +kernel
theorem dX12_isRealSort_0 : decode cX12_isRealSort 0 = .ok (.iload_n 1, 1) := by decide +kernel
theorem dX12_isRealSort_1 : decode cX12_isRealSort 1 = .ok (.bipush 6, 2) := by decide +kernel
theorem dX12_isRealSort_3 : decode cX12_isRealSort 3 = .ok (.if_icmp .ge 15, 3) := by decide +kernel
theorem dX12_isRealSort_6 : decode cX12_isRealSort 6 = .ok (.aload_n 0, 1) := by decide +kernel
theorem dX12_isRealSort_7 : decode cX12_isRealSort 7 = .ok (.iload_n 1, 1) := by decide +kernel
theorem dX12_isRealSort_8 : decode cX12_isRealSort 8 = .ok (.invokevirtual 148, 3) := by decide +kernel
theorem dX12_isRealSort_11 : decode cX12_isRealSort 11 = .ok (.ifCond .ne 7, 3) := by decide +kernel
theorem dX12_isRealSort_14 : decode cX12_isRealSort 14 = .ok (.iconst 1, 1) := by decide +kernel
theorem dX12_isRealSort_15 : decode cX12_isRealSort 15 = .ok (.goto 4, 3) := by decide +kernel
theorem dX12_isRealSort_18 : decode cX12_isRealSort 18 = .ok (.iconst 0, 1) := by decide +kernel
theorem dX12_isRealSort_19 : decode cX12_isRealSort 19 = .ok (.ireturn, 1) := by decide +kernel
theorem dX12_named_0 : decode cX12_named 0 = .ok (.iconst 0, 1) := by decide +kernel
theorem dX12_named_1 : decode cX12_named 1 = .ok (.istore_n 1, 1) := by decide +kernel
theorem dX12_named_2 : decode cX12_named 2 = .ok (.iload_n 1, 1) := by decide +kernel
theorem dX12_named_3 : decode cX12_named 3 = .ok (.aload_n 0, 1) := by decide +kernel
theorem dX12_named_4 : decode cX12_named 4 = .ok (.getfield 197, 3) := by decide +kernel
theorem dX12_named_7 : decode cX12_named 7 = .ok (.if_icmp .ge 100, 3) := by decide +kernel
theorem dX12_named_10 : decode cX12_named 10 = .ok (.aload_n 0, 1) := by decide +kernel
theorem dX12_named_11 : decode cX12_named 11 = .ok (.getfield 50, 3) := by decide +kernel
theorem dX12_named_14 : decode cX12_named 14 = .ok (.aload_n 0, 1) := by decide +kernel
theorem dX12_named_15 : decode cX12_named 15 = .ok (.getfield 44, 3) := by decide +kernel
theorem dX12_named_18 : decode cX12_named 18 = .ok (.iload_n 1, 1) := by decide +kernel
theorem dX12_named_19 : decode cX12_named 19 = .ok (.iaload, 1) := by decide +kernel
theorem dX12_named_20 : decode cX12_named 20 = .ok (.bipush 100, 2) := by decide +kernel
theorem dX12_named_22 : decode cX12_named 22 = .ok (.idiv, 1) := by decide +kernel
theorem dX12_named_23 : decode cX12_named 23 = .ok (.iaload, 1) := by decide +kernel
theorem dX12_named_24 : decode cX12_named 24 = .ok (.istore_n 2, 1) := by decide +kernel
theorem dX12_named_25 : decode cX12_named 25 = .ok (.aload_n 0, 1) := by decide +kernel
theorem dX12_named_26 : decode cX12_named 26 = .ok (.getfield 50, 3) := by decide +kernel
theorem dX12_named_29 : decode cX12_named 29 = .ok (.aload_n 0, 1) := by decide +kernel
theorem dX12_named_30 : decode cX12_named 30 = .ok (.getfield 44, 3) := by decide +kernel
theorem dX12_named_33 : decode cX12_named 33 = .ok (.iload_n 1, 1) := by decide +kernel
theorem dX12_named_34 : decode cX12_named 34 = .ok (.iaload, 1) := by decide +kernel
theorem dX12_named_35 : decode cX12_named 35 = .ok (.bipush 10, 2) := by decide +kernel
theorem dX12_named_37 : decode cX12_named 37 = .ok (.idiv, 1) := by decide +kernel
theorem dX12_named_38 : decode cX12_named 38 = .ok (.bipush 10, 2) := by decide +kernel
theorem dX12_named_40 : decode cX12_named 40 = .ok (.irem, 1) := by decide +kernel
theorem dX12_named_41 : decode cX12_named 41 = .ok (.iaload, 1) := by decide +kernel
theorem dX12_named_42 : decode cX12_named 42 = .ok (.istore_n 3, 1) := by decide +kernel
theorem dX12_named_43 : decode cX12_named 43 = .ok (.aload_n 0, 1) := by decide +kernel
theorem dX12_named_44 : decode cX12_named 44 = .ok (.getfield 44, 3) := by decide +kernel
theorem dX12_named_47 : decode cX12_named 47 = .ok (.iload_n 1, 1) := by decide +kernel
theorem dX12_named_48 : decode cX12_named 48 = .ok (.iaload, 1) := by decide +kernel
theorem dX12_named_49 : decode cX12_named 49 = .ok (.bipush 10, 2) := by decide +kernel
theorem dX12_named_51 : decode cX12_named 51 = .ok (.irem, 1) := by decide +kernel
theorem dX12_named_52 : decode cX12_named 52 = .ok (.istore 4, 2) := by decide +kernel
theorem dX12_named_54 : decode cX12_named 54 = .ok (.aload_n 0, 1) := by decide +kernel
theorem dX12_named_55 : decode cX12_named 55 = .ok (.getfield 47, 3) := by decide +kernel
theorem dX12_named_58 : decode cX12_named 58 = .ok (.iload_n 1, 1) := by decide +kernel
theorem dX12_named_59 : decode cX12_named 59 = .ok (.iload_n 2, 1) := by decide +kernel
theorem dX12_named_60 : decode cX12_named 60 = .ok (.iload_n 3, 1) := by decide +kernel
theorem dX12_named_61 : decode cX12_named 61 = .ok (.if_icmp .le 27, 3) := by decide +kernel
theorem dX12_named_64 : decode cX12_named 64 = .ok (.aload_n 0, 1) := by decide +kernel
theorem dX12_named_65 : decode cX12_named 65 = .ok (.iload 4, 2) := by decide +kernel
theorem dX12_named_67 : decode cX12_named 67 = .ok (.invokevirtual 206, 3) := by decide +kernel
theorem dX12_named_70 : decode cX12_named 70 = .ok (.ifCond .eq 18, 3) := by decide +kernel
theorem dX12_named_73 : decode cX12_named 73 = .ok (.bipush 100, 2) := by decide +kernel
theorem dX12_named_75 : decode cX12_named 75 = .ok (.iload_n 3, 1) := by decide +kernel
theorem dX12_named_76 : decode cX12_named 76 = .ok (.imul, 1) := by decide +kernel
theorem dX12_named_77 : decode cX12_named 77 = .ok (.bipush 10, 2) := by decide +kernel
theorem dX12_named_79 : decode cX12_named 79 = .ok (.iload_n 2, 1) := by decide +kernel
theorem dX12_named_80 : decode cX12_named 80 = .ok (.imul, 1) := by decide +kernel
theorem dX12_named_81 : decode cX12_named 81 = .ok (.iadd, 1) := by decide +kernel
theorem dX12_named_82 : decode cX12_named 82 = .ok (.iload 4, 2) := by decide +kernel
theorem dX12_named_84 : decode cX12_named 84 = .ok (.iadd, 1) := by decide +kernel
theorem dX12_named_85 : decode cX12_named 85 = .ok (.goto 15, 3) := by decide +kernel
theorem dX12_named_88 : decode cX12_named 88 = .ok (.bipush 100, 2) := by decide +kernel
theorem dX12_named_90 : decode cX12_named 90 = .ok (.iload_n 2, 1) := by decide +kernel
theorem dX12_named_91 : decode cX12_named 91 = .ok (.imul, 1) := by decide +kernel
theorem dX12_named_92 : decode cX12_named 92 = .ok (.bipush 10, 2) := by decide +kernel
theorem dX12_named_94 : decode cX12_named 94 = .ok (.iload_n 3, 1) := by decide +kernel
theorem dX12_named_95 : decode cX12_named 95 = .ok (.imul, 1) := by decide +kernel
theorem dX12_named_96 : decode cX12_named 96 = .ok (.iadd, 1) := by decide +kernel
theorem dX12_named_97 : decode cX12_named 97 = .ok (.iload 4, 2) := by decide +kernel
theorem dX12_named_99 : decode cX12_named 99 = .ok (.iadd, 1) := by decide +kernel
theorem dX12_named_100 : decode cX12_named 100 = .ok (.iastore, 1) := by decide +kernel
theorem dX12_named_101 : decode cX12_named 101 = .ok (.iinc 1 1, 3) := by decide +kernel
theorem dX12_named_104 : decode cX12_named 104 = .ok (.goto (-102), 3) := by decide +kernel
theorem dX12_named_107 : decode cX12_named 107 = .ok (.aload_n 0, 1) := by decide +kernel
theorem dX12_named_108 : decode cX12_named 108 = .ok (.getfield 47, 3) := by decide +kernel
theorem dX12_named_111 : decode cX12_named 111 = .ok (.aload_n 0, 1) := by decide +kernel
theorem dX12_named_112 : decode cX12_named 112 = .ok (.getfield 197, 3) := by decide +kernel
theorem dX12_named_115 : decode cX12_named 115 = .ok (.invokestatic 209, 3) := by decide +kernel
theorem dX12_named_118 : decode cX12_named 118 = .ok (.aload_n 0, 1) := by decide +kernel
theorem dX12_named_119 : decode cX12_named 119 = .ok (.getfield 47, 3) := by decide +kernel
theorem dX12_named_122 : decode cX12_named 122 = .ok (.aload_n 0, 1) := by decide +kernel
theorem dX12_named_123 : decode cX12_named 123 = .ok (.getfield 197, 3) := by decide +kernel
theorem dX12_named_126 : decode cX12_named 126 = .ok (.invokestatic 213, 3) := by decide +kernel
theorem dX12_named_129 : decode cX12_named 129 = .ok (.lreturn, 1) := by decide +kernel
theorem dX12_areAlike_0 : decode cX12_areAlike 0 = .ok (.aload_n 0, 1) := by decide +kernel
theorem dX12_areAlike_1 : decode cX12_areAlike 1 = .ok (.iload_n 1, 1) := by decide +kernel
theorem dX12_areAlike_2 : decode cX12_areAlike 2 = .ok (.invokevirtual 217, 3) := by decide +kernel
theorem dX12_areAlike_5 : decode cX12_areAlike 5 = .ok (.ifCond .eq 37, 3) := by decide +kernel
theorem dX12_areAlike_8 : decode cX12_areAlike 8 = .ok (.aload_n 0, 1) := by decide +kernel
theorem dX12_areAlike_9 : decode cX12_areAlike 9 = .ok (.iload_n 2, 1) := by decide +kernel
theorem dX12_areAlike_10 : decode cX12_areAlike 10 = .ok (.invokevirtual 217, 3) := by decide +kernel
theorem dX12_areAlike_13 : decode cX12_areAlike 13 = .ok (.ifCond .eq 29, 3) := by decide +kernel
theorem dX12_areAlike_16 : decode cX12_areAlike 16 = .ok (.aload_n 0, 1) := by decide +kernel
theorem dX12_areAlike_17 : decode cX12_areAlike 17 = .ok (.iload_n 1, 1) := by decide +kernel
theorem dX12_areAlike_18 : decode cX12_areAlike 18 = .ok (.invokevirtual 127, 3) := by decide +kernel
theorem dX12_areAlike_21 : decode cX12_areAlike 21 = .ok (.aload_n 0, 1) := by decide +kernel
theorem dX12_areAlike_22 : decode cX12_areAlike 22 = .ok (.iload_n 2, 1) := by decide +kernel
theorem dX12_areAlike_23 : decode cX12_areAlike 23 = .ok (.invokevirtual 127, 3) := by decide +kernel
theorem dX12_areAlike_26 : decode cX12_areAlike 26 = .ok (.if_icmp .ne 16, 3) := by decide +kernel
theorem dX12_areAlike_29 : decode cX12_areAlike 29 = .ok (.aload_n 0, 1) := by decide +kernel
theorem dX12_areAlike_30 : decode cX12_areAlike 30 = .ok (.iload_n 1, 1) := by decide +kernel
theorem dX12_areAlike_31 : decode cX12_areAlike 31 = .ok (.invokevirtual 144, 3) := by decide +kernel
theorem dX12_areAlike_34 : decode cX12_areAlike 34 = .ok (.aload_n 0, 1) := by decide +kernel
theorem dX12_areAlike_35 : decode cX12_areAlike 35 = .ok (.iload_n 2, 1) := by decide +kernel
theorem dX12_areAlike_36 : decode cX12_areAlike 36 = .ok (.invokevirtual 144, 3) := by decide +kernel
theorem dX12_areAlike_39 : decode cX12_areAlike 39 = .ok (.if_icmp .eq 5, 3) := by decide +kernel
theorem dX12_areAlike_42 : decode cX12_areAlike 42 = .ok (.iconst 0, 1) := by decide +kernel
theorem dX12_areAlike_43 : decode cX12_areAlike 43 = .ok (.ireturn, 1) := by decide +kernel
theorem dX12_areAlike_44 : decode cX12_areAlike 44 = .ok (.iconst 0, 1) := by decide +kernel
theorem dX12_areAlike_45 : decode cX12_areAlike 45 = .ok (.istore_n 3, 1) := by decide +kernel
theorem dX12_areAlike_46 : decode cX12_areAlike 46 = .ok (.iload_n 3, 1) := by decide +kernel
theorem dX12_areAlike_47 : decode cX12_areAlike 47 = .ok (.aload_n 0, 1) := by decide +kernel
theorem dX12_areAlike_48 : decode cX12_areAlike 48 = .ok (.iload_n 1, 1) := by decide +kernel
theorem dX12_areAlike_49 : decode cX12_areAlike 49 = .ok (.invokevirtual 127, 3) := by decide +kernel
theorem dX12_areAlike_52 : decode cX12_areAlike 52 = .ok (.if_icmp .ge 42, 3) := by decide +kernel
theorem dX12_areAlike_55 : decode cX12_areAlike 55 = .ok (.aload_n 0, 1) := by decide +kernel
theorem dX12_areAlike_56 : decode cX12_areAlike 56 = .ok (.getfield 7, 3) := by decide +kernel
theorem dX12_areAlike_59 : decode cX12_areAlike 59 = .ok (.aload_n 0, 1) := by decide +kernel
theorem dX12_areAlike_60 : decode cX12_areAlike 60 = .ok (.iload_n 1, 1) := by decide +kernel
theorem dX12_areAlike_61 : decode cX12_areAlike 61 = .ok (.invokevirtual 120, 3) := by decide +kernel
theorem dX12_areAlike_64 : decode cX12_areAlike 64 = .ok (.iconst 3, 1) := by decide +kernel
theorem dX12_areAlike_65 : decode cX12_areAlike 65 = .ok (.iadd, 1) := by decide +kernel
theorem dX12_areAlike_66 : decode cX12_areAlike 66 = .ok (.iload_n 3, 1) := by decide +kernel
theorem dX12_areAlike_67 : decode cX12_areAlike 67 = .ok (.iadd, 1) := by decide +kernel
theorem dX12_areAlike_68 : decode cX12_areAlike 68 = .ok (.iaload, 1) := by decide +kernel
theorem dX12_areAlike_69 : decode cX12_areAlike 69 = .ok (.aload_n 0, 1) := by decide +kernel
theorem dX12_areAlike_70 : decode cX12_areAlike 70 = .ok (.getfield 7, 3) := by decide +kernel
theorem dX12_areAlike_73 : decode cX12_areAlike 73 = .ok (.aload_n 0, 1) := by decide +kernel
theorem dX12_areAlike_74 : decode cX12_areAlike 74 = .ok (.iload_n 2, 1) := by decide +kernel
theorem dX12_areAlike_75 : decode cX12_areAlike 75 = .ok (.invokevirtual 120, 3) := by decide +kernel
theorem dX12_areAlike_78 : decode cX12_areAlike 78 = .ok (.iconst 3, 1) := by decide +kernel
theorem dX12_areAlike_79 : decode cX12_areAlike 79 = .ok (.iadd, 1) := by decide +kernel
theorem dX12_areAlike_80 : decode cX12_areAlike 80 = .ok (.iload_n 3, 1) := by decide +kernel
theorem dX12_areAlike_81 : decode cX12_areAlike 81 = .ok (.iadd, 1) := by decide +kernel
theorem dX12_areAlike_82 : decode cX12_areAlike 82 = .ok (.iaload, 1) := by decide +kernel
theorem dX12_areAlike_83 : decode cX12_areAlike 83 = .ok (.if_icmp .eq 5, 3) := by decide +kernel
theorem dX12_areAlike_86 : decode cX12_areAlike 86 = .ok (.iconst 0, 1) := by decide +kernel
theorem dX12_areAlike_87 : decode cX12_areAlike 87 = .ok (.ireturn, 1) := by decide +kernel
theorem dX12_areAlike_88 : decode cX12_areAlike 88 = .ok (.iinc 3 1, 3) := by decide +kernel
theorem dX12_areAlike_91 : decode cX12_areAlike 91 = .ok (.goto (-45), 3) := by decide +kernel
theorem dX12_areAlike_94 : decode cX12_areAlike 94 = .ok (.iconst 1, 1) := by decide +kernel
theorem dX12_areAlike_95 : decode cX12_areAlike 95 = .ok (.ireturn, 1) := by decide +kernel
theorem dX12_tries_0 : decode cX12_tries 0 = .ok (.iload_n 1, 1) := by decide +kernel
theorem dX12_tries_1 : decode cX12_tries 1 = .ok (.aload_n 0, 1) := by decide +kernel
theorem dX12_tries_2 : decode cX12_tries 2 = .ok (.getfield 7, 3) := by decide +kernel
theorem dX12_tries_5 : decode cX12_tries 5 = .ok (.iconst 2, 1) := by decide +kernel
theorem dX12_tries_6 : decode cX12_tries 6 = .ok (.iaload, 1) := by decide +kernel
theorem dX12_tries_7 : decode cX12_tries 7 = .ok (.if_icmp .ne 62, 3) := by decide +kernel
theorem dX12_tries_10 : decode cX12_tries 10 = .ok (.aload_n 0, 1) := by decide +kernel
theorem dX12_tries_11 : decode cX12_tries 11 = .ok (.invokevirtual 220, 3) := by decide +kernel
theorem dX12_tries_14 : decode cX12_tries 14 = .ok (.lstore_n 3, 1) := by decide +kernel
theorem dX12_tries_15 : decode cX12_tries 15 = .ok (.aload_n 0, 1) := by decide +kernel
theorem dX12_tries_16 : decode cX12_tries 16 = .ok (.aload_n 0, 1) := by decide +kernel
theorem dX12_tries_17 : decode cX12_tries 17 = .ok (.getfield 224, 3) := by decide +kernel
theorem dX12_tries_20 : decode cX12_tries 20 = .ok (.lconst 0, 1) := by decide +kernel
theorem dX12_tries_21 : decode cX12_tries 21 = .ok (.lcmp, 1) := by decide +kernel
theorem dX12_tries_22 : decode cX12_tries 22 = .ok (.ifCond .lt 12, 3) := by decide +kernel
theorem dX12_tries_25 : decode cX12_tries 25 = .ok (.lload_n 3, 1) := by decide +kernel
theorem dX12_tries_26 : decode cX12_tries 26 = .ok (.aload_n 0, 1) := by decide +kernel
theorem dX12_tries_27 : decode cX12_tries 27 = .ok (.getfield 224, 3) := by decide +kernel
theorem dX12_tries_30 : decode cX12_tries 30 = .ok (.lcmp, 1) := by decide +kernel
theorem dX12_tries_31 : decode cX12_tries 31 = .ok (.ifCond .ge 7, 3) := by decide +kernel
theorem dX12_tries_34 : decode cX12_tries 34 = .ok (.lload_n 3, 1) := by decide +kernel
theorem dX12_tries_35 : decode cX12_tries 35 = .ok (.goto 7, 3) := by decide +kernel
theorem dX12_tries_38 : decode cX12_tries 38 = .ok (.aload_n 0, 1) := by decide +kernel
theorem dX12_tries_39 : decode cX12_tries 39 = .ok (.getfield 224, 3) := by decide +kernel
theorem dX12_tries_42 : decode cX12_tries 42 = .ok (.putfield 224, 3) := by decide +kernel
theorem dX12_tries_45 : decode cX12_tries 45 = .ok (.aload_n 0, 1) := by decide +kernel
theorem dX12_tries_46 : decode cX12_tries 46 = .ok (.dup, 1) := by decide +kernel
theorem dX12_tries_47 : decode cX12_tries 47 = .ok (.getfield 228, 3) := by decide +kernel
theorem dX12_tries_50 : decode cX12_tries 50 = .ok (.lload_n 3, 1) := by decide +kernel
theorem dX12_tries_51 : decode cX12_tries 51 = .ok (.aload_n 0, 1) := by decide +kernel
theorem dX12_tries_52 : decode cX12_tries 52 = .ok (.getfield 231, 3) := by decide +kernel
theorem dX12_tries_55 : decode cX12_tries 55 = .ok (.lcmp, 1) := by decide +kernel
theorem dX12_tries_56 : decode cX12_tries 56 = .ok (.ifCond .ne 7, 3) := by decide +kernel
theorem dX12_tries_59 : decode cX12_tries 59 = .ok (.iconst 1, 1) := by decide +kernel
theorem dX12_tries_60 : decode cX12_tries 60 = .ok (.goto 4, 3) := by decide +kernel
theorem dX12_tries_63 : decode cX12_tries 63 = .ok (.iconst 0, 1) := by decide +kernel
theorem dX12_tries_64 : decode cX12_tries 64 = .ok (.iadd, 1) := by decide +kernel
theorem dX12_tries_65 : decode cX12_tries 65 = .ok (.putfield 228, 3) := by decide +kernel
theorem dX12_tries_68 : decode cX12_tries 68 = .ok (.return_, 1) := by decide +kernel
theorem dX12_tries_69 : decode cX12_tries 69 = .ok (.iconst 0, 1) := by decide +kernel
theorem dX12_tries_70 : decode cX12_tries 70 = .ok (.istore_n 3, 1) := by decide +kernel
theorem dX12_tries_71 : decode cX12_tries 71 = .ok (.iload_n 3, 1) := by decide +kernel
theorem dX12_tries_72 : decode cX12_tries 72 = .ok (.aload_n 0, 1) := by decide +kernel
theorem dX12_tries_73 : decode cX12_tries 73 = .ok (.getfield 7, 3) := by decide +kernel
theorem dX12_tries_76 : decode cX12_tries 76 = .ok (.iconst 2, 1) := by decide +kernel
theorem dX12_tries_77 : decode cX12_tries 77 = .ok (.iaload, 1) := by decide +kernel
theorem dX12_tries_78 : decode cX12_tries 78 = .ok (.if_icmp .ge 53, 3) := by decide +kernel
theorem dX12_tries_81 : decode cX12_tries 81 = .ok (.iload_n 2, 1) := by decide +kernel
theorem dX12_tries_82 : decode cX12_tries 82 = .ok (.iload_n 3, 1) := by decide +kernel
theorem dX12_tries_83 : decode cX12_tries 83 = .ok (.invokestatic 158, 3) := by decide +kernel
theorem dX12_tries_86 : decode cX12_tries 86 = .ok (.ifCond .ne 39, 3) := by decide +kernel
theorem dX12_tries_89 : decode cX12_tries 89 = .ok (.iload_n 3, 1) := by decide +kernel
theorem dX12_tries_90 : decode cX12_tries 90 = .ok (.iload_n 1, 1) := by decide +kernel
theorem dX12_tries_91 : decode cX12_tries 91 = .ok (.if_icmp .eq 15, 3) := by decide +kernel
theorem dX12_tries_94 : decode cX12_tries 94 = .ok (.aload_n 0, 1) := by decide +kernel
theorem dX12_tries_95 : decode cX12_tries 95 = .ok (.iload_n 1, 1) := by decide +kernel
theorem dX12_tries_96 : decode cX12_tries 96 = .ok (.iload_n 3, 1) := by decide +kernel
theorem dX12_tries_97 : decode cX12_tries 97 = .ok (.invokevirtual 234, 3) := by decide +kernel
theorem dX12_tries_100 : decode cX12_tries 100 = .ok (.ifCond .ne 6, 3) := by decide +kernel
theorem dX12_tries_103 : decode cX12_tries 103 = .ok (.goto 22, 3) := by decide +kernel
theorem dX12_tries_106 : decode cX12_tries 106 = .ok (.aload_n 0, 1) := by decide +kernel
theorem dX12_tries_107 : decode cX12_tries 107 = .ok (.getfield 50, 3) := by decide +kernel
theorem dX12_tries_110 : decode cX12_tries 110 = .ok (.iload_n 1, 1) := by decide +kernel
theorem dX12_tries_111 : decode cX12_tries 111 = .ok (.iload_n 3, 1) := by decide +kernel
theorem dX12_tries_112 : decode cX12_tries 112 = .ok (.iastore, 1) := by decide +kernel
theorem dX12_tries_113 : decode cX12_tries 113 = .ok (.aload_n 0, 1) := by decide +kernel
theorem dX12_tries_114 : decode cX12_tries 114 = .ok (.iload_n 1, 1) := by decide +kernel
theorem dX12_tries_115 : decode cX12_tries 115 = .ok (.iconst 1, 1) := by decide +kernel
theorem dX12_tries_116 : decode cX12_tries 116 = .ok (.iadd, 1) := by decide +kernel
theorem dX12_tries_117 : decode cX12_tries 117 = .ok (.iload_n 2, 1) := by decide +kernel
theorem dX12_tries_118 : decode cX12_tries 118 = .ok (.iconst 1, 1) := by decide +kernel
theorem dX12_tries_119 : decode cX12_tries 119 = .ok (.iload_n 3, 1) := by decide +kernel
theorem dX12_tries_120 : decode cX12_tries 120 = .ok (.ishl, 1) := by decide +kernel
theorem dX12_tries_121 : decode cX12_tries 121 = .ok (.ior, 1) := by decide +kernel
theorem dX12_tries_122 : decode cX12_tries 122 = .ok (.invokevirtual 237, 3) := by decide +kernel
theorem dX12_tries_125 : decode cX12_tries 125 = .ok (.iinc 3 1, 3) := by decide +kernel
theorem dX12_tries_128 : decode cX12_tries 128 = .ok (.goto (-57), 3) := by decide +kernel
theorem dX12_tries_131 : decode cX12_tries 131 = .ok (.return_, 1) := by decide +kernel
theorem dX12_leastOf_0 : decode cX12_leastOf 0 = .ok (.aload_n 0, 1) := by decide +kernel
theorem dX12_leastOf_1 : decode cX12_leastOf 1 = .ok (.ldc2_w 241, 3) := by decide +kernel
theorem dX12_leastOf_4 : decode cX12_leastOf 4 = .ok (.putfield 224, 3) := by decide +kernel
theorem dX12_leastOf_7 : decode cX12_leastOf 7 = .ok (.aload_n 0, 1) := by decide +kernel
theorem dX12_leastOf_8 : decode cX12_leastOf 8 = .ok (.lload_n 1, 1) := by decide +kernel
theorem dX12_leastOf_9 : decode cX12_leastOf 9 = .ok (.putfield 231, 3) := by decide +kernel
theorem dX12_leastOf_12 : decode cX12_leastOf 12 = .ok (.aload_n 0, 1) := by decide +kernel
theorem dX12_leastOf_13 : decode cX12_leastOf 13 = .ok (.iconst 0, 1) := by decide +kernel
theorem dX12_leastOf_14 : decode cX12_leastOf 14 = .ok (.putfield 228, 3) := by decide +kernel
theorem dX12_leastOf_17 : decode cX12_leastOf 17 = .ok (.aload_n 0, 1) := by decide +kernel
theorem dX12_leastOf_18 : decode cX12_leastOf 18 = .ok (.iconst 0, 1) := by decide +kernel
theorem dX12_leastOf_19 : decode cX12_leastOf 19 = .ok (.iconst 0, 1) := by decide +kernel
theorem dX12_leastOf_20 : decode cX12_leastOf 20 = .ok (.invokevirtual 237, 3) := by decide +kernel
theorem dX12_leastOf_23 : decode cX12_leastOf 23 = .ok (.aload_n 0, 1) := by decide +kernel
theorem dX12_leastOf_24 : decode cX12_leastOf 24 = .ok (.getfield 224, 3) := by decide +kernel
theorem dX12_leastOf_27 : decode cX12_leastOf 27 = .ok (.lreturn, 1) := by decide +kernel
theorem dX12_unpacks_0 : decode cX12_unpacks 0 = .ok (.aload_n 0, 1) := by decide +kernel
theorem dX12_unpacks_1 : decode cX12_unpacks 1 = .ok (.iload_n 3, 1) := by decide +kernel
theorem dX12_unpacks_2 : decode cX12_unpacks 2 = .ok (.putfield 197, 3) := by decide +kernel
theorem dX12_unpacks_5 : decode cX12_unpacks 5 = .ok (.iconst 0, 1) := by decide +kernel
theorem dX12_unpacks_6 : decode cX12_unpacks 6 = .ok (.istore 4, 2) := by decide +kernel
theorem dX12_unpacks_8 : decode cX12_unpacks 8 = .ok (.iload 4, 2) := by decide +kernel
theorem dX12_unpacks_10 : decode cX12_unpacks 10 = .ok (.iload_n 3, 1) := by decide +kernel
theorem dX12_unpacks_11 : decode cX12_unpacks 11 = .ok (.if_icmp .ge 32, 3) := by decide +kernel
theorem dX12_unpacks_14 : decode cX12_unpacks 14 = .ok (.aload_n 0, 1) := by decide +kernel
theorem dX12_unpacks_15 : decode cX12_unpacks 15 = .ok (.getfield 44, 3) := by decide +kernel
theorem dX12_unpacks_18 : decode cX12_unpacks 18 = .ok (.iload 4, 2) := by decide +kernel
theorem dX12_unpacks_20 : decode cX12_unpacks 20 = .ok (.lload_n 1, 1) := by decide +kernel
theorem dX12_unpacks_21 : decode cX12_unpacks 21 = .ok (.bipush 10, 2) := by decide +kernel
theorem dX12_unpacks_23 : decode cX12_unpacks 23 = .ok (.iload_n 3, 1) := by decide +kernel
theorem dX12_unpacks_24 : decode cX12_unpacks 24 = .ok (.iconst 1, 1) := by decide +kernel
theorem dX12_unpacks_25 : decode cX12_unpacks 25 = .ok (.isub, 1) := by decide +kernel
theorem dX12_unpacks_26 : decode cX12_unpacks 26 = .ok (.iload 4, 2) := by decide +kernel
theorem dX12_unpacks_28 : decode cX12_unpacks 28 = .ok (.isub, 1) := by decide +kernel
theorem dX12_unpacks_29 : decode cX12_unpacks 29 = .ok (.imul, 1) := by decide +kernel
theorem dX12_unpacks_30 : decode cX12_unpacks 30 = .ok (.lshr, 1) := by decide +kernel
theorem dX12_unpacks_31 : decode cX12_unpacks 31 = .ok (.ldc2_w 243, 3) := by decide +kernel
theorem dX12_unpacks_34 : decode cX12_unpacks 34 = .ok (.land, 1) := by decide +kernel
theorem dX12_unpacks_35 : decode cX12_unpacks 35 = .ok (.l2i, 1) := by decide +kernel
theorem dX12_unpacks_36 : decode cX12_unpacks 36 = .ok (.iastore, 1) := by decide +kernel
theorem dX12_unpacks_37 : decode cX12_unpacks 37 = .ok (.iinc 4 1, 3) := by decide +kernel
theorem dX12_unpacks_40 : decode cX12_unpacks 40 = .ok (.goto (-32), 3) := by decide +kernel
theorem dX12_unpacks_43 : decode cX12_unpacks 43 = .ok (.return_, 1) := by decide +kernel
theorem dX12_sinks_0 : decode cX12_sinks 0 = .ok (.iload_n 1, 1) := by decide +kernel
theorem dX12_sinks_1 : decode cX12_sinks 1 = .ok (.istore_n 3, 1) := by decide +kernel
theorem dX12_sinks_2 : decode cX12_sinks 2 = .ok (.iconst 2, 1) := by decide +kernel
theorem dX12_sinks_3 : decode cX12_sinks 3 = .ok (.iload_n 3, 1) := by decide +kernel
theorem dX12_sinks_4 : decode cX12_sinks 4 = .ok (.imul, 1) := by decide +kernel
theorem dX12_sinks_5 : decode cX12_sinks 5 = .ok (.iconst 1, 1) := by decide +kernel
theorem dX12_sinks_6 : decode cX12_sinks 6 = .ok (.iadd, 1) := by decide +kernel
theorem dX12_sinks_7 : decode cX12_sinks 7 = .ok (.iload_n 2, 1) := by decide +kernel
theorem dX12_sinks_8 : decode cX12_sinks 8 = .ok (.if_icmp .ge 71, 3) := by decide +kernel
theorem dX12_sinks_11 : decode cX12_sinks 11 = .ok (.iconst 2, 1) := by decide +kernel
theorem dX12_sinks_12 : decode cX12_sinks 12 = .ok (.iload_n 3, 1) := by decide +kernel
theorem dX12_sinks_13 : decode cX12_sinks 13 = .ok (.imul, 1) := by decide +kernel
theorem dX12_sinks_14 : decode cX12_sinks 14 = .ok (.iconst 1, 1) := by decide +kernel
theorem dX12_sinks_15 : decode cX12_sinks 15 = .ok (.iadd, 1) := by decide +kernel
theorem dX12_sinks_16 : decode cX12_sinks 16 = .ok (.istore 4, 2) := by decide +kernel
theorem dX12_sinks_18 : decode cX12_sinks 18 = .ok (.iload 4, 2) := by decide +kernel
theorem dX12_sinks_20 : decode cX12_sinks 20 = .ok (.iconst 1, 1) := by decide +kernel
theorem dX12_sinks_21 : decode cX12_sinks 21 = .ok (.iadd, 1) := by decide +kernel
theorem dX12_sinks_22 : decode cX12_sinks 22 = .ok (.iload_n 2, 1) := by decide +kernel
theorem dX12_sinks_23 : decode cX12_sinks 23 = .ok (.if_icmp .ge 20, 3) := by decide +kernel
theorem dX12_sinks_26 : decode cX12_sinks 26 = .ok (.aload_n 0, 1) := by decide +kernel
theorem dX12_sinks_27 : decode cX12_sinks 27 = .ok (.iload 4, 2) := by decide +kernel
theorem dX12_sinks_29 : decode cX12_sinks 29 = .ok (.iconst 1, 1) := by decide +kernel
theorem dX12_sinks_30 : decode cX12_sinks 30 = .ok (.iadd, 1) := by decide +kernel
theorem dX12_sinks_31 : decode cX12_sinks 31 = .ok (.laload, 1) := by decide +kernel
theorem dX12_sinks_32 : decode cX12_sinks 32 = .ok (.aload_n 0, 1) := by decide +kernel
theorem dX12_sinks_33 : decode cX12_sinks 33 = .ok (.iload 4, 2) := by decide +kernel
theorem dX12_sinks_35 : decode cX12_sinks 35 = .ok (.laload, 1) := by decide +kernel
theorem dX12_sinks_36 : decode cX12_sinks 36 = .ok (.lcmp, 1) := by decide +kernel
theorem dX12_sinks_37 : decode cX12_sinks 37 = .ok (.ifCond .le 6, 3) := by decide +kernel
theorem dX12_sinks_40 : decode cX12_sinks 40 = .ok (.iinc 4 1, 3) := by decide +kernel
theorem dX12_sinks_43 : decode cX12_sinks 43 = .ok (.aload_n 0, 1) := by decide +kernel
theorem dX12_sinks_44 : decode cX12_sinks 44 = .ok (.iload_n 3, 1) := by decide +kernel
theorem dX12_sinks_45 : decode cX12_sinks 45 = .ok (.laload, 1) := by decide +kernel
theorem dX12_sinks_46 : decode cX12_sinks 46 = .ok (.aload_n 0, 1) := by decide +kernel
theorem dX12_sinks_47 : decode cX12_sinks 47 = .ok (.iload 4, 2) := by decide +kernel
theorem dX12_sinks_49 : decode cX12_sinks 49 = .ok (.laload, 1) := by decide +kernel
theorem dX12_sinks_50 : decode cX12_sinks 50 = .ok (.lcmp, 1) := by decide +kernel
theorem dX12_sinks_51 : decode cX12_sinks 51 = .ok (.ifCond .lt 4, 3) := by decide +kernel
theorem dX12_sinks_54 : decode cX12_sinks 54 = .ok (.return_, 1) := by decide +kernel
theorem dX12_sinks_55 : decode cX12_sinks 55 = .ok (.aload_n 0, 1) := by decide +kernel
theorem dX12_sinks_56 : decode cX12_sinks 56 = .ok (.iload_n 3, 1) := by decide +kernel
theorem dX12_sinks_57 : decode cX12_sinks 57 = .ok (.laload, 1) := by decide +kernel
theorem dX12_sinks_58 : decode cX12_sinks 58 = .ok (.lstore 5, 2) := by decide +kernel
theorem dX12_sinks_60 : decode cX12_sinks 60 = .ok (.aload_n 0, 1) := by decide +kernel
theorem dX12_sinks_61 : decode cX12_sinks 61 = .ok (.iload_n 3, 1) := by decide +kernel
theorem dX12_sinks_62 : decode cX12_sinks 62 = .ok (.aload_n 0, 1) := by decide +kernel
theorem dX12_sinks_63 : decode cX12_sinks 63 = .ok (.iload 4, 2) := by decide +kernel
theorem dX12_sinks_65 : decode cX12_sinks 65 = .ok (.laload, 1) := by decide +kernel
theorem dX12_sinks_66 : decode cX12_sinks 66 = .ok (.lastore, 1) := by decide +kernel
theorem dX12_sinks_67 : decode cX12_sinks 67 = .ok (.aload_n 0, 1) := by decide +kernel
theorem dX12_sinks_68 : decode cX12_sinks 68 = .ok (.iload 4, 2) := by decide +kernel
theorem dX12_sinks_70 : decode cX12_sinks 70 = .ok (.lload 5, 2) := by decide +kernel
theorem dX12_sinks_72 : decode cX12_sinks 72 = .ok (.lastore, 1) := by decide +kernel
theorem dX12_sinks_73 : decode cX12_sinks 73 = .ok (.iload 4, 2) := by decide +kernel
theorem dX12_sinks_75 : decode cX12_sinks 75 = .ok (.istore_n 3, 1) := by decide +kernel
theorem dX12_sinks_76 : decode cX12_sinks 76 = .ok (.goto (-74), 3) := by decide +kernel
theorem dX12_sinks_79 : decode cX12_sinks 79 = .ok (.return_, 1) := by decide +kernel
theorem dX12_sorts__0 : decode cX12_sorts_ 0 = .ok (.iload_n 1, 1) := by decide +kernel
theorem dX12_sorts__1 : decode cX12_sorts_ 1 = .ok (.iconst 2, 1) := by decide +kernel
theorem dX12_sorts__2 : decode cX12_sorts_ 2 = .ok (.idiv, 1) := by decide +kernel
theorem dX12_sorts__3 : decode cX12_sorts_ 3 = .ok (.istore_n 2, 1) := by decide +kernel
theorem dX12_sorts__4 : decode cX12_sorts_ 4 = .ok (.iload_n 2, 1) := by decide +kernel
theorem dX12_sorts__5 : decode cX12_sorts_ 5 = .ok (.ifCond .lt 15, 3) := by decide +kernel
theorem dX12_sorts__8 : decode cX12_sorts_ 8 = .ok (.aload_n 0, 1) := by decide +kernel
theorem dX12_sorts__9 : decode cX12_sorts_ 9 = .ok (.iload_n 2, 1) := by decide +kernel
theorem dX12_sorts__10 : decode cX12_sorts_ 10 = .ok (.iload_n 1, 1) := by decide +kernel
theorem dX12_sorts__11 : decode cX12_sorts_ 11 = .ok (.invokestatic 245, 3) := by decide +kernel
theorem dX12_sorts__14 : decode cX12_sorts_ 14 = .ok (.iinc 2 (-1), 3) := by decide +kernel
theorem dX12_sorts__17 : decode cX12_sorts_ 17 = .ok (.goto (-13), 3) := by decide +kernel
theorem dX12_sorts__20 : decode cX12_sorts_ 20 = .ok (.iload_n 1, 1) := by decide +kernel
theorem dX12_sorts__21 : decode cX12_sorts_ 21 = .ok (.iconst 1, 1) := by decide +kernel
theorem dX12_sorts__22 : decode cX12_sorts_ 22 = .ok (.isub, 1) := by decide +kernel
theorem dX12_sorts__23 : decode cX12_sorts_ 23 = .ok (.istore_n 2, 1) := by decide +kernel
theorem dX12_sorts__24 : decode cX12_sorts_ 24 = .ok (.iload_n 2, 1) := by decide +kernel
theorem dX12_sorts__25 : decode cX12_sorts_ 25 = .ok (.ifCond .le 29, 3) := by decide +kernel
theorem dX12_sorts__28 : decode cX12_sorts_ 28 = .ok (.aload_n 0, 1) := by decide +kernel
theorem dX12_sorts__29 : decode cX12_sorts_ 29 = .ok (.iconst 0, 1) := by decide +kernel
theorem dX12_sorts__30 : decode cX12_sorts_ 30 = .ok (.laload, 1) := by decide +kernel
theorem dX12_sorts__31 : decode cX12_sorts_ 31 = .ok (.lstore_n 3, 1) := by decide +kernel
theorem dX12_sorts__32 : decode cX12_sorts_ 32 = .ok (.aload_n 0, 1) := by decide +kernel
theorem dX12_sorts__33 : decode cX12_sorts_ 33 = .ok (.iconst 0, 1) := by decide +kernel
theorem dX12_sorts__34 : decode cX12_sorts_ 34 = .ok (.aload_n 0, 1) := by decide +kernel
theorem dX12_sorts__35 : decode cX12_sorts_ 35 = .ok (.iload_n 2, 1) := by decide +kernel
theorem dX12_sorts__36 : decode cX12_sorts_ 36 = .ok (.laload, 1) := by decide +kernel
theorem dX12_sorts__37 : decode cX12_sorts_ 37 = .ok (.lastore, 1) := by decide +kernel
theorem dX12_sorts__38 : decode cX12_sorts_ 38 = .ok (.aload_n 0, 1) := by decide +kernel
theorem dX12_sorts__39 : decode cX12_sorts_ 39 = .ok (.iload_n 2, 1) := by decide +kernel
theorem dX12_sorts__40 : decode cX12_sorts_ 40 = .ok (.lload_n 3, 1) := by decide +kernel
theorem dX12_sorts__41 : decode cX12_sorts_ 41 = .ok (.lastore, 1) := by decide +kernel
theorem dX12_sorts__42 : decode cX12_sorts_ 42 = .ok (.aload_n 0, 1) := by decide +kernel
theorem dX12_sorts__43 : decode cX12_sorts_ 43 = .ok (.iconst 0, 1) := by decide +kernel
theorem dX12_sorts__44 : decode cX12_sorts_ 44 = .ok (.iload_n 2, 1) := by decide +kernel
theorem dX12_sorts__45 : decode cX12_sorts_ 45 = .ok (.invokestatic 245, 3) := by decide +kernel
theorem dX12_sorts__48 : decode cX12_sorts_ 48 = .ok (.iinc 2 (-1), 3) := by decide +kernel
theorem dX12_sorts__51 : decode cX12_sorts_ 51 = .ok (.goto (-27), 3) := by decide +kernel
theorem dX12_sorts__54 : decode cX12_sorts_ 54 = .ok (.iconst 0, 1) := by decide +kernel
theorem dX12_sorts__55 : decode cX12_sorts_ 55 = .ok (.istore_n 2, 1) := by decide +kernel
theorem dX12_sorts__56 : decode cX12_sorts_ 56 = .ok (.iconst 0, 1) := by decide +kernel
theorem dX12_sorts__57 : decode cX12_sorts_ 57 = .ok (.istore_n 3, 1) := by decide +kernel
theorem dX12_sorts__58 : decode cX12_sorts_ 58 = .ok (.iload_n 3, 1) := by decide +kernel
theorem dX12_sorts__59 : decode cX12_sorts_ 59 = .ok (.iload_n 1, 1) := by decide +kernel
theorem dX12_sorts__60 : decode cX12_sorts_ 60 = .ok (.if_icmp .ge 37, 3) := by decide +kernel
theorem dX12_sorts__63 : decode cX12_sorts_ 63 = .ok (.iload_n 2, 1) := by decide +kernel
theorem dX12_sorts__64 : decode cX12_sorts_ 64 = .ok (.ifCond .le 18, 3) := by decide +kernel
theorem dX12_sorts__67 : decode cX12_sorts_ 67 = .ok (.aload_n 0, 1) := by decide +kernel
theorem dX12_sorts__68 : decode cX12_sorts_ 68 = .ok (.iload_n 2, 1) := by decide +kernel
theorem dX12_sorts__69 : decode cX12_sorts_ 69 = .ok (.iconst 1, 1) := by decide +kernel
theorem dX12_sorts__70 : decode cX12_sorts_ 70 = .ok (.isub, 1) := by decide +kernel
theorem dX12_sorts__71 : decode cX12_sorts_ 71 = .ok (.laload, 1) := by decide +kernel
theorem dX12_sorts__72 : decode cX12_sorts_ 72 = .ok (.aload_n 0, 1) := by decide +kernel
theorem dX12_sorts__73 : decode cX12_sorts_ 73 = .ok (.iload_n 3, 1) := by decide +kernel
theorem dX12_sorts__74 : decode cX12_sorts_ 74 = .ok (.laload, 1) := by decide +kernel
theorem dX12_sorts__75 : decode cX12_sorts_ 75 = .ok (.lcmp, 1) := by decide +kernel
theorem dX12_sorts__76 : decode cX12_sorts_ 76 = .ok (.ifCond .ne 6, 3) := by decide +kernel
theorem dX12_sorts__79 : decode cX12_sorts_ 79 = .ok (.goto 12, 3) := by decide +kernel
theorem dX12_sorts__82 : decode cX12_sorts_ 82 = .ok (.aload_n 0, 1) := by decide +kernel
theorem dX12_sorts__83 : decode cX12_sorts_ 83 = .ok (.iload_n 2, 1) := by decide +kernel
theorem dX12_sorts__84 : decode cX12_sorts_ 84 = .ok (.aload_n 0, 1) := by decide +kernel
theorem dX12_sorts__85 : decode cX12_sorts_ 85 = .ok (.iload_n 3, 1) := by decide +kernel
theorem dX12_sorts__86 : decode cX12_sorts_ 86 = .ok (.laload, 1) := by decide +kernel
theorem dX12_sorts__87 : decode cX12_sorts_ 87 = .ok (.lastore, 1) := by decide +kernel
theorem dX12_sorts__88 : decode cX12_sorts_ 88 = .ok (.iinc 2 1, 3) := by decide +kernel
theorem dX12_sorts__91 : decode cX12_sorts_ 91 = .ok (.iinc 3 1, 3) := by decide +kernel
theorem dX12_sorts__94 : decode cX12_sorts_ 94 = .ok (.goto (-36), 3) := by decide +kernel
theorem dX12_sorts__97 : decode cX12_sorts_ 97 = .ok (.iload_n 2, 1) := by decide +kernel
theorem dX12_sorts__98 : decode cX12_sorts_ 98 = .ok (.ireturn, 1) := by decide +kernel
theorem dX12_placeIn_0 : decode cX12_placeIn 0 = .ok (.iconst 0, 1) := by decide +kernel
theorem dX12_placeIn_1 : decode cX12_placeIn 1 = .ok (.istore 4, 2) := by decide +kernel
theorem dX12_placeIn_3 : decode cX12_placeIn 3 = .ok (.iload_n 1, 1) := by decide +kernel
theorem dX12_placeIn_4 : decode cX12_placeIn 4 = .ok (.iconst 1, 1) := by decide +kernel
theorem dX12_placeIn_5 : decode cX12_placeIn 5 = .ok (.isub, 1) := by decide +kernel
theorem dX12_placeIn_6 : decode cX12_placeIn 6 = .ok (.istore 5, 2) := by decide +kernel
theorem dX12_placeIn_8 : decode cX12_placeIn 8 = .ok (.iload 4, 2) := by decide +kernel
theorem dX12_placeIn_10 : decode cX12_placeIn 10 = .ok (.iload 5, 2) := by decide +kernel
theorem dX12_placeIn_12 : decode cX12_placeIn 12 = .ok (.if_icmp .gt 51, 3) := by decide +kernel
theorem dX12_placeIn_15 : decode cX12_placeIn 15 = .ok (.iload 4, 2) := by decide +kernel
theorem dX12_placeIn_17 : decode cX12_placeIn 17 = .ok (.iload 5, 2) := by decide +kernel
theorem dX12_placeIn_19 : decode cX12_placeIn 19 = .ok (.iadd, 1) := by decide +kernel
