theorem dX12_reads_5 : decode cX12_reads 5 = .ok (.putfield 462, 3) := by decide +kernel
theorem dX12_reads_8 : decode cX12_reads 8 = .ok (.aload_n 0, 1) := by decide +kernel
theorem dX12_reads_9 : decode cX12_reads 9 = .ok (.aload_n 0, 1) := by decide +kernel
theorem dX12_reads_10 : decode cX12_reads 10 = .ok (.getfield 462, 3) := by decide +kernel
theorem dX12_reads_13 : decode cX12_reads 13 = .ok (.bipush 32, 2) := by decide +kernel
theorem dX12_reads_15 : decode cX12_reads 15 = .ok (.bipush 32, 2) := by decide +kernel
theorem dX12_reads_17 : decode cX12_reads 17 = .ok (.invokevirtual 465, 3) := by decide +kernel
theorem dX12_reads_20 : decode cX12_reads 20 = .ok (.ifCond .ne 18, 3) := by decide +kernel
theorem dX12_reads_23 : decode cX12_reads 23 = .ok (.aload_n 0, 1) := by decide +kernel
theorem dX12_reads_24 : decode cX12_reads 24 = .ok (.aload_n 0, 1) := by decide +kernel
theorem dX12_reads_25 : decode cX12_reads 25 = .ok (.getfield 462, 3) := by decide +kernel
theorem dX12_reads_28 : decode cX12_reads 28 = .ok (.bipush 10, 2) := by decide +kernel
theorem dX12_reads_30 : decode cX12_reads 30 = .ok (.bipush 10, 2) := by decide +kernel
theorem dX12_reads_32 : decode cX12_reads 32 = .ok (.invokevirtual 465, 3) := by decide +kernel
theorem dX12_reads_35 : decode cX12_reads 35 = .ok (.ifCond .eq 16, 3) := by decide +kernel
theorem dX12_reads_38 : decode cX12_reads 38 = .ok (.aload_n 0, 1) := by decide +kernel
theorem dX12_reads_39 : decode cX12_reads 39 = .ok (.dup, 1) := by decide +kernel
theorem dX12_reads_40 : decode cX12_reads 40 = .ok (.getfield 462, 3) := by decide +kernel
theorem dX12_reads_43 : decode cX12_reads 43 = .ok (.iconst 1, 1) := by decide +kernel
theorem dX12_reads_44 : decode cX12_reads 44 = .ok (.iadd, 1) := by decide +kernel
theorem dX12_reads_45 : decode cX12_reads 45 = .ok (.putfield 462, 3) := by decide +kernel
theorem dX12_reads_48 : decode cX12_reads 48 = .ok (.goto (-40), 3) := by decide +kernel
theorem dX12_reads_51 : decode cX12_reads 51 = .ok (.aload_n 0, 1) := by decide +kernel
theorem dX12_reads_52 : decode cX12_reads 52 = .ok (.aload_n 0, 1) := by decide +kernel
theorem dX12_reads_53 : decode cX12_reads 53 = .ok (.getfield 462, 3) := by decide +kernel
theorem dX12_reads_56 : decode cX12_reads 56 = .ok (.iconst 1, 1) := by decide +kernel
theorem dX12_reads_57 : decode cX12_reads 57 = .ok (.iadd, 1) := by decide +kernel
theorem dX12_reads_58 : decode cX12_reads 58 = .ok (.putfield 459, 3) := by decide +kernel
theorem dX12_reads_61 : decode cX12_reads 61 = .ok (.aload_n 0, 1) := by decide +kernel
theorem dX12_reads_62 : decode cX12_reads 62 = .ok (.aload_n 0, 1) := by decide +kernel
theorem dX12_reads_63 : decode cX12_reads 63 = .ok (.getfield 462, 3) := by decide +kernel
theorem dX12_reads_66 : decode cX12_reads 66 = .ok (.aload_n 0, 1) := by decide +kernel
theorem dX12_reads_67 : decode cX12_reads 67 = .ok (.getfield 453, 3) := by decide +kernel
theorem dX12_reads_70 : decode cX12_reads 70 = .ok (.if_icmp .lt 7, 3) := by decide +kernel
theorem dX12_reads_73 : decode cX12_reads 73 = .ok (.iconst 0, 1) := by decide +kernel
theorem dX12_reads_74 : decode cX12_reads 74 = .ok (.goto 24, 3) := by decide +kernel
theorem dX12_reads_77 : decode cX12_reads 77 = .ok (.aload_n 0, 1) := by decide +kernel
theorem dX12_reads_78 : decode cX12_reads 78 = .ok (.aload_n 0, 1) := by decide +kernel
theorem dX12_reads_79 : decode cX12_reads 79 = .ok (.getfield 75, 3) := by decide +kernel
theorem dX12_reads_82 : decode cX12_reads 82 = .ok (.aload_n 0, 1) := by decide +kernel
theorem dX12_reads_83 : decode cX12_reads 83 = .ok (.getfield 462, 3) := by decide +kernel
theorem dX12_reads_86 : decode cX12_reads 86 = .ok (.baload, 1) := by decide +kernel
theorem dX12_reads_87 : decode cX12_reads 87 = .ok (.invokevirtual 468, 3) := by decide +kernel
theorem dX12_reads_90 : decode cX12_reads 90 = .ok (.ifCond .eq 7, 3) := by decide +kernel
theorem dX12_reads_93 : decode cX12_reads 93 = .ok (.iconst 3, 1) := by decide +kernel
theorem dX12_reads_94 : decode cX12_reads 94 = .ok (.goto 4, 3) := by decide +kernel
theorem dX12_reads_97 : decode cX12_reads 97 = .ok (.iconst 4, 1) := by decide +kernel
theorem dX12_reads_98 : decode cX12_reads 98 = .ok (.putfield 471, 3) := by decide +kernel
theorem dX12_reads_101 : decode cX12_reads 101 = .ok (.aload_n 0, 1) := by decide +kernel
theorem dX12_reads_102 : decode cX12_reads 102 = .ok (.aload_n 0, 1) := by decide +kernel
theorem dX12_reads_103 : decode cX12_reads 103 = .ok (.getfield 462, 3) := by decide +kernel
theorem dX12_reads_106 : decode cX12_reads 106 = .ok (.bipush 97, 2) := by decide +kernel
theorem dX12_reads_108 : decode cX12_reads 108 = .ok (.bipush 122, 2) := by decide +kernel
theorem dX12_reads_110 : decode cX12_reads 110 = .ok (.invokevirtual 465, 3) := by decide +kernel
theorem dX12_reads_113 : decode cX12_reads 113 = .ok (.ifCond .eq 96, 3) := by decide +kernel
theorem dX12_reads_116 : decode cX12_reads 116 = .ok (.aload_n 0, 1) := by decide +kernel
theorem dX12_reads_117 : decode cX12_reads 117 = .ok (.iconst 1, 1) := by decide +kernel
theorem dX12_reads_118 : decode cX12_reads 118 = .ok (.putfield 471, 3) := by decide +kernel
theorem dX12_reads_121 : decode cX12_reads 121 = .ok (.aload_n 0, 1) := by decide +kernel
theorem dX12_reads_122 : decode cX12_reads 122 = .ok (.lconst 0, 1) := by decide +kernel
theorem dX12_reads_123 : decode cX12_reads 123 = .ok (.putfield 474, 3) := by decide +kernel
theorem dX12_reads_126 : decode cX12_reads 126 = .ok (.aload_n 0, 1) := by decide +kernel
theorem dX12_reads_127 : decode cX12_reads 127 = .ok (.aload_n 0, 1) := by decide +kernel
theorem dX12_reads_128 : decode cX12_reads 128 = .ok (.getfield 462, 3) := by decide +kernel
theorem dX12_reads_131 : decode cX12_reads 131 = .ok (.putfield 459, 3) := by decide +kernel
theorem dX12_reads_134 : decode cX12_reads 134 = .ok (.aload_n 0, 1) := by decide +kernel
theorem dX12_reads_135 : decode cX12_reads 135 = .ok (.aload_n 0, 1) := by decide +kernel
theorem dX12_reads_136 : decode cX12_reads 136 = .ok (.getfield 459, 3) := by decide +kernel
theorem dX12_reads_139 : decode cX12_reads 139 = .ok (.bipush 97, 2) := by decide +kernel
theorem dX12_reads_141 : decode cX12_reads 141 = .ok (.bipush 122, 2) := by decide +kernel
theorem dX12_reads_143 : decode cX12_reads 143 = .ok (.invokevirtual 465, 3) := by decide +kernel
theorem dX12_reads_146 : decode cX12_reads 146 = .ok (.ifCond .eq 192, 3) := by decide +kernel
theorem dX12_reads_149 : decode cX12_reads 149 = .ok (.aload_n 0, 1) := by decide +kernel
theorem dX12_reads_150 : decode cX12_reads 150 = .ok (.aload_n 0, 1) := by decide +kernel
theorem dX12_reads_151 : decode cX12_reads 151 = .ok (.getfield 459, 3) := by decide +kernel
theorem dX12_reads_154 : decode cX12_reads 154 = .ok (.aload_n 0, 1) := by decide +kernel
theorem dX12_reads_155 : decode cX12_reads 155 = .ok (.getfield 462, 3) := by decide +kernel
theorem dX12_reads_158 : decode cX12_reads 158 = .ok (.isub, 1) := by decide +kernel
theorem dX12_reads_159 : decode cX12_reads 159 = .ok (.bipush 8, 2) := by decide +kernel
theorem dX12_reads_161 : decode cX12_reads 161 = .ok (.if_icmp .ge 29, 3) := by decide +kernel
theorem dX12_reads_164 : decode cX12_reads 164 = .ok (.ldc2_w 477, 3) := by decide +kernel
theorem dX12_reads_167 : decode cX12_reads 167 = .ok (.aload_n 0, 1) := by decide +kernel
theorem dX12_reads_168 : decode cX12_reads 168 = .ok (.getfield 474, 3) := by decide +kernel
theorem dX12_reads_171 : decode cX12_reads 171 = .ok (.lmul, 1) := by decide +kernel
theorem dX12_reads_172 : decode cX12_reads 172 = .ok (.aload_n 0, 1) := by decide +kernel
theorem dX12_reads_173 : decode cX12_reads 173 = .ok (.getfield 75, 3) := by decide +kernel
theorem dX12_reads_176 : decode cX12_reads 176 = .ok (.aload_n 0, 1) := by decide +kernel
theorem dX12_reads_177 : decode cX12_reads 177 = .ok (.getfield 459, 3) := by decide +kernel
theorem dX12_reads_180 : decode cX12_reads 180 = .ok (.baload, 1) := by decide +kernel
theorem dX12_reads_181 : decode cX12_reads 181 = .ok (.i2l, 1) := by decide +kernel
theorem dX12_reads_182 : decode cX12_reads 182 = .ok (.ladd, 1) := by decide +kernel
theorem dX12_reads_183 : decode cX12_reads 183 = .ok (.ldc2_w 479, 3) := by decide +kernel
theorem dX12_reads_186 : decode cX12_reads 186 = .ok (.lsub, 1) := by decide +kernel
theorem dX12_reads_187 : decode cX12_reads 187 = .ok (.goto 6, 3) := by decide +kernel
theorem dX12_reads_190 : decode cX12_reads 190 = .ok (.ldc2_w 241, 3) := by decide +kernel
theorem dX12_reads_193 : decode cX12_reads 193 = .ok (.putfield 474, 3) := by decide +kernel
theorem dX12_reads_196 : decode cX12_reads 196 = .ok (.aload_n 0, 1) := by decide +kernel
theorem dX12_reads_197 : decode cX12_reads 197 = .ok (.dup, 1) := by decide +kernel
theorem dX12_reads_198 : decode cX12_reads 198 = .ok (.getfield 459, 3) := by decide +kernel
theorem dX12_reads_201 : decode cX12_reads 201 = .ok (.iconst 1, 1) := by decide +kernel
theorem dX12_reads_202 : decode cX12_reads 202 = .ok (.iadd, 1) := by decide +kernel
theorem dX12_reads_203 : decode cX12_reads 203 = .ok (.putfield 459, 3) := by decide +kernel
theorem dX12_reads_206 : decode cX12_reads 206 = .ok (.goto (-72), 3) := by decide +kernel
theorem dX12_reads_209 : decode cX12_reads 209 = .ok (.aload_n 0, 1) := by decide +kernel
theorem dX12_reads_210 : decode cX12_reads 210 = .ok (.getfield 456, 3) := by decide +kernel
theorem dX12_reads_213 : decode cX12_reads 213 = .ok (.ifCond .eq 125, 3) := by decide +kernel
theorem dX12_reads_216 : decode cX12_reads 216 = .ok (.aload_n 0, 1) := by decide +kernel
theorem dX12_reads_217 : decode cX12_reads 217 = .ok (.aload_n 0, 1) := by decide +kernel
theorem dX12_reads_218 : decode cX12_reads 218 = .ok (.getfield 462, 3) := by decide +kernel
theorem dX12_reads_221 : decode cX12_reads 221 = .ok (.bipush 48, 2) := by decide +kernel
theorem dX12_reads_223 : decode cX12_reads 223 = .ok (.bipush 57, 2) := by decide +kernel
theorem dX12_reads_225 : decode cX12_reads 225 = .ok (.invokevirtual 465, 3) := by decide +kernel
theorem dX12_reads_228 : decode cX12_reads 228 = .ok (.ifCond .eq 110, 3) := by decide +kernel
theorem dX12_reads_231 : decode cX12_reads 231 = .ok (.aload_n 0, 1) := by decide +kernel
theorem dX12_reads_232 : decode cX12_reads 232 = .ok (.iconst 0, 1) := by decide +kernel
theorem dX12_reads_233 : decode cX12_reads 233 = .ok (.putfield 481, 3) := by decide +kernel
theorem dX12_reads_236 : decode cX12_reads 236 = .ok (.aload_n 0, 1) := by decide +kernel
theorem dX12_reads_237 : decode cX12_reads 237 = .ok (.aload_n 0, 1) := by decide +kernel
theorem dX12_reads_238 : decode cX12_reads 238 = .ok (.getfield 462, 3) := by decide +kernel
theorem dX12_reads_241 : decode cX12_reads 241 = .ok (.putfield 459, 3) := by decide +kernel
theorem dX12_reads_244 : decode cX12_reads 244 = .ok (.aload_n 0, 1) := by decide +kernel
theorem dX12_reads_245 : decode cX12_reads 245 = .ok (.aload_n 0, 1) := by decide +kernel
theorem dX12_reads_246 : decode cX12_reads 246 = .ok (.getfield 459, 3) := by decide +kernel
theorem dX12_reads_249 : decode cX12_reads 249 = .ok (.bipush 48, 2) := by decide +kernel
theorem dX12_reads_251 : decode cX12_reads 251 = .ok (.bipush 57, 2) := by decide +kernel
theorem dX12_reads_253 : decode cX12_reads 253 = .ok (.invokevirtual 465, 3) := by decide +kernel
theorem dX12_reads_256 : decode cX12_reads 256 = .ok (.ifCond .eq 60, 3) := by decide +kernel
theorem dX12_reads_259 : decode cX12_reads 259 = .ok (.aload_n 0, 1) := by decide +kernel
theorem dX12_reads_260 : decode cX12_reads 260 = .ok (.aload_n 0, 1) := by decide +kernel
theorem dX12_reads_261 : decode cX12_reads 261 = .ok (.getfield 459, 3) := by decide +kernel
theorem dX12_reads_264 : decode cX12_reads 264 = .ok (.aload_n 0, 1) := by decide +kernel
theorem dX12_reads_265 : decode cX12_reads 265 = .ok (.getfield 462, 3) := by decide +kernel
theorem dX12_reads_268 : decode cX12_reads 268 = .ok (.isub, 1) := by decide +kernel
theorem dX12_reads_269 : decode cX12_reads 269 = .ok (.iconst 2, 1) := by decide +kernel
theorem dX12_reads_270 : decode cX12_reads 270 = .ok (.if_icmp .ge 26, 3) := by decide +kernel
theorem dX12_reads_273 : decode cX12_reads 273 = .ok (.bipush 10, 2) := by decide +kernel
theorem dX12_reads_275 : decode cX12_reads 275 = .ok (.aload_n 0, 1) := by decide +kernel
theorem dX12_reads_276 : decode cX12_reads 276 = .ok (.getfield 481, 3) := by decide +kernel
theorem dX12_reads_279 : decode cX12_reads 279 = .ok (.imul, 1) := by decide +kernel
theorem dX12_reads_280 : decode cX12_reads 280 = .ok (.aload_n 0, 1) := by decide +kernel
theorem dX12_reads_281 : decode cX12_reads 281 = .ok (.getfield 75, 3) := by decide +kernel
theorem dX12_reads_284 : decode cX12_reads 284 = .ok (.aload_n 0, 1) := by decide +kernel
theorem dX12_reads_285 : decode cX12_reads 285 = .ok (.getfield 459, 3) := by decide +kernel
theorem dX12_reads_288 : decode cX12_reads 288 = .ok (.baload, 1) := by decide +kernel
theorem dX12_reads_289 : decode cX12_reads 289 = .ok (.iadd, 1) := by decide +kernel
theorem dX12_reads_290 : decode cX12_reads 290 = .ok (.bipush 48, 2) := by decide +kernel
theorem dX12_reads_292 : decode cX12_reads 292 = .ok (.isub, 1) := by decide +kernel
theorem dX12_reads_293 : decode cX12_reads 293 = .ok (.goto 7, 3) := by decide +kernel
theorem dX12_reads_296 : decode cX12_reads 296 = .ok (.aload_n 0, 1) := by decide +kernel
theorem dX12_reads_297 : decode cX12_reads 297 = .ok (.getfield 481, 3) := by decide +kernel
theorem dX12_reads_300 : decode cX12_reads 300 = .ok (.putfield 481, 3) := by decide +kernel
theorem dX12_reads_303 : decode cX12_reads 303 = .ok (.aload_n 0, 1) := by decide +kernel
theorem dX12_reads_304 : decode cX12_reads 304 = .ok (.dup, 1) := by decide +kernel
theorem dX12_reads_305 : decode cX12_reads 305 = .ok (.getfield 459, 3) := by decide +kernel
theorem dX12_reads_308 : decode cX12_reads 308 = .ok (.iconst 1, 1) := by decide +kernel
theorem dX12_reads_309 : decode cX12_reads 309 = .ok (.iadd, 1) := by decide +kernel
theorem dX12_reads_310 : decode cX12_reads 310 = .ok (.putfield 459, 3) := by decide +kernel
theorem dX12_reads_313 : decode cX12_reads 313 = .ok (.goto (-69), 3) := by decide +kernel
theorem dX12_reads_316 : decode cX12_reads 316 = .ok (.aload_n 0, 1) := by decide +kernel
theorem dX12_reads_317 : decode cX12_reads 317 = .ok (.aload_n 0, 1) := by decide +kernel
theorem dX12_reads_318 : decode cX12_reads 318 = .ok (.getfield 459, 3) := by decide +kernel
theorem dX12_reads_321 : decode cX12_reads 321 = .ok (.aload_n 0, 1) := by decide +kernel
theorem dX12_reads_322 : decode cX12_reads 322 = .ok (.getfield 462, 3) := by decide +kernel
theorem dX12_reads_325 : decode cX12_reads 325 = .ok (.isub, 1) := by decide +kernel
theorem dX12_reads_326 : decode cX12_reads 326 = .ok (.iconst 2, 1) := by decide +kernel
theorem dX12_reads_327 : decode cX12_reads 327 = .ok (.if_icmp .le 7, 3) := by decide +kernel
theorem dX12_reads_330 : decode cX12_reads 330 = .ok (.iconst 4, 1) := by decide +kernel
theorem dX12_reads_331 : decode cX12_reads 331 = .ok (.goto 4, 3) := by decide +kernel
theorem dX12_reads_334 : decode cX12_reads 334 = .ok (.iconst 2, 1) := by decide +kernel
theorem dX12_reads_335 : decode cX12_reads 335 = .ok (.putfield 471, 3) := by decide +kernel
theorem dX12_reads_338 : decode cX12_reads 338 = .ok (.aload_n 0, 1) := by decide +kernel
theorem dX12_reads_339 : decode cX12_reads 339 = .ok (.aload_n 0, 1) := by decide +kernel
theorem dX12_reads_340 : decode cX12_reads 340 = .ok (.getfield 459, 3) := by decide +kernel
theorem dX12_reads_343 : decode cX12_reads 343 = .ok (.aload_n 0, 1) := by decide +kernel
theorem dX12_reads_344 : decode cX12_reads 344 = .ok (.getfield 462, 3) := by decide +kernel
theorem dX12_reads_347 : decode cX12_reads 347 = .ok (.isub, 1) := by decide +kernel
theorem dX12_reads_348 : decode cX12_reads 348 = .ok (.putfield 484, 3) := by decide +kernel
theorem dX12_reads_351 : decode cX12_reads 351 = .ok (.return_, 1) := by decide +kernel
theorem dX12_must_0 : decode cX12_must 0 = .ok (.iload_n 1, 1) := by decide +kernel
theorem dX12_must_1 : decode cX12_must 1 = .ok (.ifCond .ne 10, 3) := by decide +kernel
theorem dX12_must_4 : decode cX12_must 4 = .ok (.aload_n 0, 1) := by decide +kernel
theorem dX12_must_5 : decode cX12_must 5 = .ok (.getfield 487, 3) := by decide +kernel
theorem dX12_must_8 : decode cX12_must 8 = .ok (.ifCond .le 4, 3) := by decide +kernel
theorem dX12_must_11 : decode cX12_must 11 = .ok (.return_, 1) := by decide +kernel
theorem dX12_must_12 : decode cX12_must 12 = .ok (.aload_n 0, 1) := by decide +kernel
theorem dX12_must_13 : decode cX12_must 13 = .ok (.iload_n 2, 1) := by decide +kernel
theorem dX12_must_14 : decode cX12_must 14 = .ok (.iconst 2, 1) := by decide +kernel
theorem dX12_must_15 : decode cX12_must 15 = .ok (.if_icmp .ne 15, 3) := by decide +kernel
theorem dX12_must_18 : decode cX12_must 18 = .ok (.aload_n 0, 1) := by decide +kernel
theorem dX12_must_19 : decode cX12_must 19 = .ok (.getfield 471, 3) := by decide +kernel
theorem dX12_must_22 : decode cX12_must 22 = .ok (.iconst 4, 1) := by decide +kernel
theorem dX12_must_23 : decode cX12_must 23 = .ok (.if_icmp .ne 7, 3) := by decide +kernel
theorem dX12_must_26 : decode cX12_must 26 = .ok (.iconst 1, 1) := by decide +kernel
theorem dX12_must_27 : decode cX12_must 27 = .ok (.goto 4, 3) := by decide +kernel
theorem dX12_must_30 : decode cX12_must 30 = .ok (.iload_n 2, 1) := by decide +kernel
theorem dX12_must_31 : decode cX12_must 31 = .ok (.putfield 487, 3) := by decide +kernel
theorem dX12_must_34 : decode cX12_must 34 = .ok (.aload_n 0, 1) := by decide +kernel
theorem dX12_must_35 : decode cX12_must 35 = .ok (.aload_n 0, 1) := by decide +kernel
theorem dX12_must_36 : decode cX12_must 36 = .ok (.getfield 462, 3) := by decide +kernel
theorem dX12_must_39 : decode cX12_must 39 = .ok (.putfield 490, 3) := by decide +kernel
theorem dX12_must_42 : decode cX12_must 42 = .ok (.return_, 1) := by decide +kernel
theorem dX12_isWord_0 : decode cX12_isWord 0 = .ok (.aload_n 0, 1) := by decide +kernel
theorem dX12_isWord_1 : decode cX12_isWord 1 = .ok (.getfield 487, 3) := by decide +kernel
theorem dX12_isWord_4 : decode cX12_isWord 4 = .ok (.ifCond .ne 29, 3) := by decide +kernel
theorem dX12_isWord_7 : decode cX12_isWord 7 = .ok (.aload_n 0, 1) := by decide +kernel
theorem dX12_isWord_8 : decode cX12_isWord 8 = .ok (.getfield 471, 3) := by decide +kernel
theorem dX12_isWord_11 : decode cX12_isWord 11 = .ok (.iconst 1, 1) := by decide +kernel
theorem dX12_isWord_12 : decode cX12_isWord 12 = .ok (.if_icmp .ne 21, 3) := by decide +kernel
theorem dX12_isWord_15 : decode cX12_isWord 15 = .ok (.aload_n 0, 1) := by decide +kernel
theorem dX12_isWord_16 : decode cX12_isWord 16 = .ok (.getfield 474, 3) := by decide +kernel
theorem dX12_isWord_19 : decode cX12_isWord 19 = .ok (.aload_n 0, 1) := by decide +kernel
theorem dX12_isWord_20 : decode cX12_isWord 20 = .ok (.getfield 102, 3) := by decide +kernel
theorem dX12_isWord_23 : decode cX12_isWord 23 = .ok (.iload_n 1, 1) := by decide +kernel
theorem dX12_isWord_24 : decode cX12_isWord 24 = .ok (.laload, 1) := by decide +kernel
theorem dX12_isWord_25 : decode cX12_isWord 25 = .ok (.lcmp, 1) := by decide +kernel
theorem dX12_isWord_26 : decode cX12_isWord 26 = .ok (.ifCond .ne 7, 3) := by decide +kernel
theorem dX12_isWord_29 : decode cX12_isWord 29 = .ok (.iconst 1, 1) := by decide +kernel
theorem dX12_isWord_30 : decode cX12_isWord 30 = .ok (.goto 4, 3) := by decide +kernel
theorem dX12_isWord_33 : decode cX12_isWord 33 = .ok (.iconst 0, 1) := by decide +kernel
theorem dX12_isWord_34 : decode cX12_isWord 34 = .ok (.ireturn, 1) := by decide +kernel
theorem dX12_isSign_0 : decode cX12_isSign 0 = .ok (.aload_n 0, 1) := by decide +kernel
theorem dX12_isSign_1 : decode cX12_isSign 1 = .ok (.getfield 487, 3) := by decide +kernel
theorem dX12_isSign_4 : decode cX12_isSign 4 = .ok (.ifCond .ne 28, 3) := by decide +kernel
theorem dX12_isSign_7 : decode cX12_isSign 7 = .ok (.aload_n 0, 1) := by decide +kernel
theorem dX12_isSign_8 : decode cX12_isSign 8 = .ok (.getfield 471, 3) := by decide +kernel
theorem dX12_isSign_11 : decode cX12_isSign 11 = .ok (.iconst 3, 1) := by decide +kernel
theorem dX12_isSign_12 : decode cX12_isSign 12 = .ok (.if_icmp .ne 20, 3) := by decide +kernel
theorem dX12_isSign_15 : decode cX12_isSign 15 = .ok (.aload_n 0, 1) := by decide +kernel
theorem dX12_isSign_16 : decode cX12_isSign 16 = .ok (.getfield 75, 3) := by decide +kernel
theorem dX12_isSign_19 : decode cX12_isSign 19 = .ok (.aload_n 0, 1) := by decide +kernel
theorem dX12_isSign_20 : decode cX12_isSign 20 = .ok (.getfield 462, 3) := by decide +kernel
theorem dX12_isSign_23 : decode cX12_isSign 23 = .ok (.baload, 1) := by decide +kernel
theorem dX12_isSign_24 : decode cX12_isSign 24 = .ok (.iload_n 1, 1) := by decide +kernel
theorem dX12_isSign_25 : decode cX12_isSign 25 = .ok (.if_icmp .ne 7, 3) := by decide +kernel
theorem dX12_isSign_28 : decode cX12_isSign 28 = .ok (.iconst 1, 1) := by decide +kernel
theorem dX12_isSign_29 : decode cX12_isSign 29 = .ok (.goto 4, 3) := by decide +kernel
theorem dX12_isSign_32 : decode cX12_isSign 32 = .ok (.iconst 0, 1) := by decide +kernel
theorem dX12_isSign_33 : decode cX12_isSign 33 = .ok (.ireturn, 1) := by decide +kernel
theorem dX12_takes_0 : decode cX12_takes 0 = .ok (.aload_n 0, 1) := by decide +kernel
theorem dX12_takes_1 : decode cX12_takes 1 = .ok (.iload_n 1, 1) := by decide +kernel
theorem dX12_takes_2 : decode cX12_takes 2 = .ok (.iconst 2, 1) := by decide +kernel
theorem dX12_takes_3 : decode cX12_takes 3 = .ok (.invokevirtual 493, 3) := by decide +kernel
theorem dX12_takes_6 : decode cX12_takes 6 = .ok (.aload_n 0, 1) := by decide +kernel
theorem dX12_takes_7 : decode cX12_takes 7 = .ok (.getfield 487, 3) := by decide +kernel
theorem dX12_takes_10 : decode cX12_takes 10 = .ok (.ifCond .ne 7, 3) := by decide +kernel
theorem dX12_takes_13 : decode cX12_takes 13 = .ok (.aload_n 0, 1) := by decide +kernel
theorem dX12_takes_14 : decode cX12_takes 14 = .ok (.invokevirtual 497, 3) := by decide +kernel
theorem dX12_takes_17 : decode cX12_takes 17 = .ok (.return_, 1) := by decide +kernel
theorem dX12_fieldHere_0 : decode cX12_fieldHere 0 = .ok (.aload_n 0, 1) := by decide +kernel
theorem dX12_fieldHere_1 : decode cX12_fieldHere 1 = .ok (.aload_n 0, 1) := by decide +kernel
theorem dX12_fieldHere_2 : decode cX12_fieldHere 2 = .ok (.getfield 471, 3) := by decide +kernel
theorem dX12_fieldHere_5 : decode cX12_fieldHere 5 = .ok (.iconst 1, 1) := by decide +kernel
theorem dX12_fieldHere_6 : decode cX12_fieldHere 6 = .ok (.if_icmp .ne 15, 3) := by decide +kernel
theorem dX12_fieldHere_9 : decode cX12_fieldHere 9 = .ok (.aload_n 0, 1) := by decide +kernel
theorem dX12_fieldHere_10 : decode cX12_fieldHere 10 = .ok (.getfield 484, 3) := by decide +kernel
theorem dX12_fieldHere_13 : decode cX12_fieldHere 13 = .ok (.iconst 1, 1) := by decide +kernel
theorem dX12_fieldHere_14 : decode cX12_fieldHere 14 = .ok (.if_icmp .ne 7, 3) := by decide +kernel
theorem dX12_fieldHere_17 : decode cX12_fieldHere 17 = .ok (.iconst 1, 1) := by decide +kernel
theorem dX12_fieldHere_18 : decode cX12_fieldHere 18 = .ok (.goto 4, 3) := by decide +kernel
theorem dX12_fieldHere_21 : decode cX12_fieldHere 21 = .ok (.iconst 0, 1) := by decide +kernel
theorem dX12_fieldHere_22 : decode cX12_fieldHere 22 = .ok (.iconst 2, 1) := by decide +kernel
theorem dX12_fieldHere_23 : decode cX12_fieldHere 23 = .ok (.invokevirtual 493, 3) := by decide +kernel
theorem dX12_fieldHere_26 : decode cX12_fieldHere 26 = .ok (.aload_n 0, 1) := by decide +kernel
theorem dX12_fieldHere_27 : decode cX12_fieldHere 27 = .ok (.getfield 487, 3) := by decide +kernel
theorem dX12_fieldHere_30 : decode cX12_fieldHere 30 = .ok (.ifCond .le 5, 3) := by decide +kernel
theorem dX12_fieldHere_33 : decode cX12_fieldHere 33 = .ok (.iconst (-1), 1) := by decide +kernel
theorem dX12_fieldHere_34 : decode cX12_fieldHere 34 = .ok (.ireturn, 1) := by decide +kernel
theorem dX12_fieldHere_35 : decode cX12_fieldHere 35 = .ok (.iconst 0, 1) := by decide +kernel
theorem dX12_fieldHere_36 : decode cX12_fieldHere 36 = .ok (.istore_n 1, 1) := by decide +kernel
theorem dX12_fieldHere_37 : decode cX12_fieldHere 37 = .ok (.iload_n 1, 1) := by decide +kernel
theorem dX12_fieldHere_38 : decode cX12_fieldHere 38 = .ok (.aload_n 0, 1) := by decide +kernel
theorem dX12_fieldHere_39 : decode cX12_fieldHere 39 = .ok (.getfield 7, 3) := by decide +kernel
theorem dX12_fieldHere_42 : decode cX12_fieldHere 42 = .ok (.iconst 0, 1) := by decide +kernel
theorem dX12_fieldHere_43 : decode cX12_fieldHere 43 = .ok (.iaload, 1) := by decide +kernel
theorem dX12_fieldHere_44 : decode cX12_fieldHere 44 = .ok (.if_icmp .ge 30, 3) := by decide +kernel
theorem dX12_fieldHere_47 : decode cX12_fieldHere 47 = .ok (.aload_n 0, 1) := by decide +kernel
theorem dX12_fieldHere_48 : decode cX12_fieldHere 48 = .ok (.getfield 7, 3) := by decide +kernel
theorem dX12_fieldHere_51 : decode cX12_fieldHere 51 = .ok (.iconst 4, 1) := by decide +kernel
theorem dX12_fieldHere_52 : decode cX12_fieldHere 52 = .ok (.iconst 3, 1) := by decide +kernel
theorem dX12_fieldHere_53 : decode cX12_fieldHere 53 = .ok (.iload_n 1, 1) := by decide +kernel
theorem dX12_fieldHere_54 : decode cX12_fieldHere 54 = .ok (.imul, 1) := by decide +kernel
theorem dX12_fieldHere_55 : decode cX12_fieldHere 55 = .ok (.iadd, 1) := by decide +kernel
theorem dX12_fieldHere_56 : decode cX12_fieldHere 56 = .ok (.iaload, 1) := by decide +kernel
theorem dX12_fieldHere_57 : decode cX12_fieldHere 57 = .ok (.i2l, 1) := by decide +kernel
theorem dX12_fieldHere_58 : decode cX12_fieldHere 58 = .ok (.aload_n 0, 1) := by decide +kernel
theorem dX12_fieldHere_59 : decode cX12_fieldHere 59 = .ok (.getfield 474, 3) := by decide +kernel
theorem dX12_fieldHere_62 : decode cX12_fieldHere 62 = .ok (.lcmp, 1) := by decide +kernel
theorem dX12_fieldHere_63 : decode cX12_fieldHere 63 = .ok (.ifCond .ne 5, 3) := by decide +kernel
theorem dX12_fieldHere_66 : decode cX12_fieldHere 66 = .ok (.iload_n 1, 1) := by decide +kernel
theorem dX12_fieldHere_67 : decode cX12_fieldHere 67 = .ok (.ireturn, 1) := by decide +kernel
theorem dX12_fieldHere_68 : decode cX12_fieldHere 68 = .ok (.iinc 1 1, 3) := by decide +kernel
theorem dX12_fieldHere_71 : decode cX12_fieldHere 71 = .ok (.goto (-34), 3) := by decide +kernel
theorem dX12_fieldHere_74 : decode cX12_fieldHere 74 = .ok (.iconst (-1), 1) := by decide +kernel
theorem dX12_fieldHere_75 : decode cX12_fieldHere 75 = .ok (.ireturn, 1) := by decide +kernel
theorem dX12_fieldTold_0 : decode cX12_fieldTold 0 = .ok (.aload_n 0, 1) := by decide +kernel
theorem dX12_fieldTold_1 : decode cX12_fieldTold 1 = .ok (.invokevirtual 500, 3) := by decide +kernel
theorem dX12_fieldTold_4 : decode cX12_fieldTold 4 = .ok (.istore_n 1, 1) := by decide +kernel
theorem dX12_fieldTold_5 : decode cX12_fieldTold 5 = .ok (.aload_n 0, 1) := by decide +kernel
theorem dX12_fieldTold_6 : decode cX12_fieldTold 6 = .ok (.iload_n 1, 1) := by decide +kernel
theorem dX12_fieldTold_7 : decode cX12_fieldTold 7 = .ok (.ifCond .lt 7, 3) := by decide +kernel
theorem dX12_fieldTold_10 : decode cX12_fieldTold 10 = .ok (.iconst 1, 1) := by decide +kernel
theorem dX12_fieldTold_11 : decode cX12_fieldTold 11 = .ok (.goto 4, 3) := by decide +kernel
theorem dX12_fieldTold_14 : decode cX12_fieldTold 14 = .ok (.iconst 0, 1) := by decide +kernel
theorem dX12_fieldTold_15 : decode cX12_fieldTold 15 = .ok (.iconst 3, 1) := by decide +kernel
theorem dX12_fieldTold_16 : decode cX12_fieldTold 16 = .ok (.invokevirtual 493, 3) := by decide +kernel
theorem dX12_fieldTold_19 : decode cX12_fieldTold 19 = .ok (.iload_n 1, 1) := by decide +kernel
theorem dX12_fieldTold_20 : decode cX12_fieldTold 20 = .ok (.ireturn, 1) := by decide +kernel
theorem dX12_readsField_0 : decode cX12_readsField 0 = .ok (.aload_n 0, 1) := by decide +kernel
theorem dX12_readsField_1 : decode cX12_readsField 1 = .ok (.aload_n 0, 1) := by decide +kernel
theorem dX12_readsField_2 : decode cX12_readsField 2 = .ok (.getfield 7, 3) := by decide +kernel
theorem dX12_readsField_5 : decode cX12_readsField 5 = .ok (.iconst 0, 1) := by decide +kernel
theorem dX12_readsField_6 : decode cX12_readsField 6 = .ok (.iaload, 1) := by decide +kernel
theorem dX12_readsField_7 : decode cX12_readsField 7 = .ok (.bipush 6, 2) := by decide +kernel
theorem dX12_readsField_9 : decode cX12_readsField 9 = .ok (.if_icmp .ge 7, 3) := by decide +kernel
theorem dX12_readsField_12 : decode cX12_readsField 12 = .ok (.iconst 1, 1) := by decide +kernel
theorem dX12_readsField_13 : decode cX12_readsField 13 = .ok (.goto 4, 3) := by decide +kernel
theorem dX12_readsField_16 : decode cX12_readsField 16 = .ok (.iconst 0, 1) := by decide +kernel
theorem dX12_readsField_17 : decode cX12_readsField 17 = .ok (.bipush 6, 2) := by decide +kernel
theorem dX12_readsField_19 : decode cX12_readsField 19 = .ok (.invokevirtual 493, 3) := by decide +kernel
theorem dX12_readsField_22 : decode cX12_readsField 22 = .ok (.aload_n 0, 1) := by decide +kernel
theorem dX12_readsField_23 : decode cX12_readsField 23 = .ok (.getfield 487, 3) := by decide +kernel
theorem dX12_readsField_26 : decode cX12_readsField 26 = .ok (.ifCond .ne 7, 3) := by decide +kernel
theorem dX12_readsField_29 : decode cX12_readsField 29 = .ok (.aload_n 0, 1) := by decide +kernel
theorem dX12_readsField_30 : decode cX12_readsField 30 = .ok (.invokevirtual 497, 3) := by decide +kernel
theorem dX12_readsField_33 : decode cX12_readsField 33 = .ok (.aload_n 0, 1) := by decide +kernel
theorem dX12_readsField_34 : decode cX12_readsField 34 = .ok (.invokevirtual 500, 3) := by decide +kernel
theorem dX12_readsField_37 : decode cX12_readsField 37 = .ok (.istore_n 1, 1) := by decide +kernel
theorem dX12_readsField_38 : decode cX12_readsField 38 = .ok (.aload_n 0, 1) := by decide +kernel
theorem dX12_readsField_39 : decode cX12_readsField 39 = .ok (.iload_n 1, 1) := by decide +kernel
theorem dX12_readsField_40 : decode cX12_readsField 40 = .ok (.ifCond .ge 7, 3) := by decide +kernel
theorem dX12_readsField_43 : decode cX12_readsField 43 = .ok (.iconst 1, 1) := by decide +kernel
theorem dX12_readsField_44 : decode cX12_readsField 44 = .ok (.goto 4, 3) := by decide +kernel
theorem dX12_readsField_47 : decode cX12_readsField 47 = .ok (.iconst 0, 1) := by decide +kernel
theorem dX12_readsField_48 : decode cX12_readsField 48 = .ok (.iconst 5, 1) := by decide +kernel
theorem dX12_readsField_49 : decode cX12_readsField 49 = .ok (.invokevirtual 493, 3) := by decide +kernel
theorem dX12_readsField_52 : decode cX12_readsField 52 = .ok (.aload_n 0, 1) := by decide +kernel
theorem dX12_readsField_53 : decode cX12_readsField 53 = .ok (.getfield 474, 3) := by decide +kernel
theorem dX12_readsField_56 : decode cX12_readsField 56 = .ok (.l2i, 1) := by decide +kernel
theorem dX12_readsField_57 : decode cX12_readsField 57 = .ok (.istore_n 2, 1) := by decide +kernel
theorem dX12_readsField_58 : decode cX12_readsField 58 = .ok (.aload_n 0, 1) := by decide +kernel
theorem dX12_readsField_59 : decode cX12_readsField 59 = .ok (.getfield 487, 3) := by decide +kernel
theorem dX12_readsField_62 : decode cX12_readsField 62 = .ok (.ifCond .ne 7, 3) := by decide +kernel
theorem dX12_readsField_65 : decode cX12_readsField 65 = .ok (.aload_n 0, 1) := by decide +kernel
theorem dX12_readsField_66 : decode cX12_readsField 66 = .ok (.invokevirtual 497, 3) := by decide +kernel
theorem dX12_readsField_69 : decode cX12_readsField 69 = .ok (.aload_n 0, 1) := by decide +kernel
theorem dX12_readsField_70 : decode cX12_readsField 70 = .ok (.iconst 2, 1) := by decide +kernel
theorem dX12_readsField_71 : decode cX12_readsField 71 = .ok (.invokevirtual 503, 3) := by decide +kernel
theorem dX12_readsField_74 : decode cX12_readsField 74 = .ok (.istore_n 3, 1) := by decide +kernel
theorem dX12_readsField_75 : decode cX12_readsField 75 = .ok (.aload_n 0, 1) := by decide +kernel
theorem dX12_readsField_76 : decode cX12_readsField 76 = .ok (.iload_n 3, 1) := by decide +kernel
theorem dX12_readsField_77 : decode cX12_readsField 77 = .ok (.ifCond .ne 11, 3) := by decide +kernel
theorem dX12_readsField_80 : decode cX12_readsField 80 = .ok (.aload_n 0, 1) := by decide +kernel
theorem dX12_readsField_81 : decode cX12_readsField 81 = .ok (.iconst 1, 1) := by decide +kernel
theorem dX12_readsField_82 : decode cX12_readsField 82 = .ok (.invokevirtual 503, 3) := by decide +kernel
theorem dX12_readsField_85 : decode cX12_readsField 85 = .ok (.ifCond .eq 7, 3) := by decide +kernel
theorem dX12_readsField_88 : decode cX12_readsField 88 = .ok (.iconst 1, 1) := by decide +kernel
theorem dX12_readsField_89 : decode cX12_readsField 89 = .ok (.goto 4, 3) := by decide +kernel
theorem dX12_readsField_92 : decode cX12_readsField 92 = .ok (.iconst 0, 1) := by decide +kernel
theorem dX12_readsField_93 : decode cX12_readsField 93 = .ok (.invokevirtual 506, 3) := by decide +kernel
theorem dX12_readsField_96 : decode cX12_readsField 96 = .ok (.aload_n 0, 1) := by decide +kernel
theorem dX12_readsField_97 : decode cX12_readsField 97 = .ok (.iconst 3, 1) := by decide +kernel
theorem dX12_readsField_98 : decode cX12_readsField 98 = .ok (.invokevirtual 503, 3) := by decide +kernel
theorem dX12_readsField_101 : decode cX12_readsField 101 = .ok (.istore 4, 2) := by decide +kernel
theorem dX12_readsField_103 : decode cX12_readsField 103 = .ok (.iload 4, 2) := by decide +kernel
theorem dX12_readsField_105 : decode cX12_readsField 105 = .ok (.ifCond .eq 7, 3) := by decide +kernel
theorem dX12_readsField_108 : decode cX12_readsField 108 = .ok (.aload_n 0, 1) := by decide +kernel
theorem dX12_readsField_109 : decode cX12_readsField 109 = .ok (.invokevirtual 497, 3) := by decide +kernel
theorem dX12_readsField_112 : decode cX12_readsField 112 = .ok (.aload_n 0, 1) := by decide +kernel
theorem dX12_readsField_113 : decode cX12_readsField 113 = .ok (.getfield 487, 3) := by decide +kernel
theorem dX12_readsField_116 : decode cX12_readsField 116 = .ok (.ifCond .le 4, 3) := by decide +kernel
theorem dX12_readsField_119 : decode cX12_readsField 119 = .ok (.return_, 1) := by decide +kernel
theorem dX12_readsField_120 : decode cX12_readsField 120 = .ok (.iconst 4, 1) := by decide +kernel
theorem dX12_readsField_121 : decode cX12_readsField 121 = .ok (.iconst 3, 1) := by decide +kernel
theorem dX12_readsField_122 : decode cX12_readsField 122 = .ok (.aload_n 0, 1) := by decide +kernel
theorem dX12_readsField_123 : decode cX12_readsField 123 = .ok (.getfield 7, 3) := by decide +kernel
theorem dX12_readsField_126 : decode cX12_readsField 126 = .ok (.iconst 0, 1) := by decide +kernel
theorem dX12_readsField_127 : decode cX12_readsField 127 = .ok (.iaload, 1) := by decide +kernel
theorem dX12_readsField_128 : decode cX12_readsField 128 = .ok (.imul, 1) := by decide +kernel
theorem dX12_readsField_129 : decode cX12_readsField 129 = .ok (.iadd, 1) := by decide +kernel
theorem dX12_readsField_130 : decode cX12_readsField 130 = .ok (.istore 5, 2) := by decide +kernel
theorem dX12_readsField_132 : decode cX12_readsField 132 = .ok (.aload_n 0, 1) := by decide +kernel
theorem dX12_readsField_133 : decode cX12_readsField 133 = .ok (.getfield 7, 3) := by decide +kernel
theorem dX12_readsField_136 : decode cX12_readsField 136 = .ok (.iload 5, 2) := by decide +kernel
theorem dX12_readsField_138 : decode cX12_readsField 138 = .ok (.iload_n 2, 1) := by decide +kernel
theorem dX12_readsField_139 : decode cX12_readsField 139 = .ok (.iastore, 1) := by decide +kernel
theorem dX12_readsField_140 : decode cX12_readsField 140 = .ok (.aload_n 0, 1) := by decide +kernel
theorem dX12_readsField_141 : decode cX12_readsField 141 = .ok (.getfield 7, 3) := by decide +kernel
theorem dX12_readsField_144 : decode cX12_readsField 144 = .ok (.iload 5, 2) := by decide +kernel
theorem dX12_readsField_146 : decode cX12_readsField 146 = .ok (.iconst 1, 1) := by decide +kernel
theorem dX12_readsField_147 : decode cX12_readsField 147 = .ok (.iadd, 1) := by decide +kernel
theorem dX12_readsField_148 : decode cX12_readsField 148 = .ok (.iload_n 3, 1) := by decide +kernel
theorem dX12_readsField_149 : decode cX12_readsField 149 = .ok (.ifCond .eq 7, 3) := by decide +kernel
theorem dX12_readsField_152 : decode cX12_readsField 152 = .ok (.iconst 1, 1) := by decide +kernel
theorem dX12_readsField_153 : decode cX12_readsField 153 = .ok (.goto 4, 3) := by decide +kernel
theorem dX12_readsField_156 : decode cX12_readsField 156 = .ok (.iconst 0, 1) := by decide +kernel
theorem dX12_readsField_157 : decode cX12_readsField 157 = .ok (.iastore, 1) := by decide +kernel
theorem dX12_readsField_158 : decode cX12_readsField 158 = .ok (.aload_n 0, 1) := by decide +kernel
theorem dX12_readsField_159 : decode cX12_readsField 159 = .ok (.getfield 7, 3) := by decide +kernel
theorem dX12_readsField_162 : decode cX12_readsField 162 = .ok (.iload 5, 2) := by decide +kernel
theorem dX12_readsField_164 : decode cX12_readsField 164 = .ok (.iconst 2, 1) := by decide +kernel
theorem dX12_readsField_165 : decode cX12_readsField 165 = .ok (.iadd, 1) := by decide +kernel
theorem dX12_readsField_166 : decode cX12_readsField 166 = .ok (.iload 4, 2) := by decide +kernel
theorem dX12_readsField_168 : decode cX12_readsField 168 = .ok (.ifCond .eq 7, 3) := by decide +kernel
theorem dX12_readsField_171 : decode cX12_readsField 171 = .ok (.iconst 1, 1) := by decide +kernel
theorem dX12_readsField_172 : decode cX12_readsField 172 = .ok (.goto 4, 3) := by decide +kernel
theorem dX12_readsField_175 : decode cX12_readsField 175 = .ok (.iconst 0, 1) := by decide +kernel
theorem dX12_readsField_176 : decode cX12_readsField 176 = .ok (.iastore, 1) := by decide +kernel
theorem dX12_readsField_177 : decode cX12_readsField 177 = .ok (.aload_n 0, 1) := by decide +kernel
theorem dX12_readsField_178 : decode cX12_readsField 178 = .ok (.getfield 7, 3) := by decide +kernel
theorem dX12_readsField_181 : decode cX12_readsField 181 = .ok (.iconst 0, 1) := by decide +kernel
theorem dX12_readsField_182 : decode cX12_readsField 182 = .ok (.dup2, 1) := by decide +kernel
theorem dX12_readsField_183 : decode cX12_readsField 183 = .ok (.iaload, 1) := by decide +kernel
theorem dX12_readsField_184 : decode cX12_readsField 184 = .ok (.iconst 1, 1) := by decide +kernel
theorem dX12_readsField_185 : decode cX12_readsField 185 = .ok (.iadd, 1) := by decide +kernel
theorem dX12_readsField_186 : decode cX12_readsField 186 = .ok (.iastore, 1) := by decide +kernel
theorem dX12_readsField_187 : decode cX12_readsField 187 = .ok (.return_, 1) := by decide +kernel
theorem dX12_readsMix_0 : decode cX12_readsMix 0 = .ok (.aload_n 0, 1) := by decide +kernel
theorem dX12_readsMix_1 : decode cX12_readsMix 1 = .ok (.aload_n 0, 1) := by decide +kernel
theorem dX12_readsMix_2 : decode cX12_readsMix 2 = .ok (.getfield 7, 3) := by decide +kernel
theorem dX12_readsMix_5 : decode cX12_readsMix 5 = .ok (.iconst 1, 1) := by decide +kernel
theorem dX12_readsMix_6 : decode cX12_readsMix 6 = .ok (.iaload, 1) := by decide +kernel
theorem dX12_readsMix_7 : decode cX12_readsMix 7 = .ok (.iconst 4, 1) := by decide +kernel
theorem dX12_readsMix_8 : decode cX12_readsMix 8 = .ok (.if_icmp .ge 7, 3) := by decide +kernel
theorem dX12_readsMix_11 : decode cX12_readsMix 11 = .ok (.iconst 1, 1) := by decide +kernel
theorem dX12_readsMix_12 : decode cX12_readsMix 12 = .ok (.goto 4, 3) := by decide +kernel
theorem dX12_readsMix_15 : decode cX12_readsMix 15 = .ok (.iconst 0, 1) := by decide +kernel
theorem dX12_readsMix_16 : decode cX12_readsMix 16 = .ok (.bipush 6, 2) := by decide +kernel
theorem dX12_readsMix_18 : decode cX12_readsMix 18 = .ok (.invokevirtual 493, 3) := by decide +kernel
theorem dX12_readsMix_21 : decode cX12_readsMix 21 = .ok (.aload_n 0, 1) := by decide +kernel
theorem dX12_readsMix_22 : decode cX12_readsMix 22 = .ok (.getfield 487, 3) := by decide +kernel
theorem dX12_readsMix_25 : decode cX12_readsMix 25 = .ok (.ifCond .ne 7, 3) := by decide +kernel
theorem dX12_readsMix_28 : decode cX12_readsMix 28 = .ok (.aload_n 0, 1) := by decide +kernel
theorem dX12_readsMix_29 : decode cX12_readsMix 29 = .ok (.invokevirtual 497, 3) := by decide +kernel
theorem dX12_readsMix_32 : decode cX12_readsMix 32 = .ok (.aload_n 0, 1) := by decide +kernel
theorem dX12_readsMix_33 : decode cX12_readsMix 33 = .ok (.invokevirtual 510, 3) := by decide +kernel
theorem dX12_readsMix_36 : decode cX12_readsMix 36 = .ok (.istore_n 1, 1) := by decide +kernel
theorem dX12_readsMix_37 : decode cX12_readsMix 37 = .ok (.aload_n 0, 1) := by decide +kernel
theorem dX12_readsMix_38 : decode cX12_readsMix 38 = .ok (.aload_n 0, 1) := by decide +kernel
theorem dX12_readsMix_39 : decode cX12_readsMix 39 = .ok (.getfield 487, 3) := by decide +kernel
theorem dX12_readsMix_42 : decode cX12_readsMix 42 = .ok (.ifCond .gt 11, 3) := by decide +kernel
theorem dX12_readsMix_45 : decode cX12_readsMix 45 = .ok (.aload_n 0, 1) := by decide +kernel
theorem dX12_readsMix_46 : decode cX12_readsMix 46 = .ok (.iload_n 1, 1) := by decide +kernel
theorem dX12_readsMix_47 : decode cX12_readsMix 47 = .ok (.invokevirtual 148, 3) := by decide +kernel
theorem dX12_readsMix_50 : decode cX12_readsMix 50 = .ok (.ifCond .ne 7, 3) := by decide +kernel
theorem dX12_readsMix_53 : decode cX12_readsMix 53 = .ok (.iconst 1, 1) := by decide +kernel
theorem dX12_readsMix_54 : decode cX12_readsMix 54 = .ok (.goto 4, 3) := by decide +kernel
theorem dX12_readsMix_57 : decode cX12_readsMix 57 = .ok (.iconst 0, 1) := by decide +kernel
theorem dX12_readsMix_58 : decode cX12_readsMix 58 = .ok (.iconst 4, 1) := by decide +kernel
theorem dX12_readsMix_59 : decode cX12_readsMix 59 = .ok (.invokevirtual 493, 3) := by decide +kernel
theorem dX12_readsMix_62 : decode cX12_readsMix 62 = .ok (.aload_n 0, 1) := by decide +kernel
theorem dX12_readsMix_63 : decode cX12_readsMix 63 = .ok (.getfield 487, 3) := by decide +kernel
theorem dX12_readsMix_66 : decode cX12_readsMix 66 = .ok (.ifCond .ne 7, 3) := by decide +kernel
theorem dX12_readsMix_69 : decode cX12_readsMix 69 = .ok (.aload_n 0, 1) := by decide +kernel
theorem dX12_readsMix_70 : decode cX12_readsMix 70 = .ok (.invokevirtual 497, 3) := by decide +kernel
theorem dX12_readsMix_73 : decode cX12_readsMix 73 = .ok (.aload_n 0, 1) := by decide +kernel
theorem dX12_readsMix_74 : decode cX12_readsMix 74 = .ok (.invokevirtual 510, 3) := by decide +kernel
theorem dX12_readsMix_77 : decode cX12_readsMix 77 = .ok (.istore_n 2, 1) := by decide +kernel
theorem dX12_readsMix_78 : decode cX12_readsMix 78 = .ok (.aload_n 0, 1) := by decide +kernel
theorem dX12_readsMix_79 : decode cX12_readsMix 79 = .ok (.aload_n 0, 1) := by decide +kernel
theorem dX12_readsMix_80 : decode cX12_readsMix 80 = .ok (.getfield 487, 3) := by decide +kernel
theorem dX12_readsMix_83 : decode cX12_readsMix 83 = .ok (.ifCond .gt 38, 3) := by decide +kernel
theorem dX12_readsMix_86 : decode cX12_readsMix 86 = .ok (.aload_n 0, 1) := by decide +kernel
theorem dX12_readsMix_87 : decode cX12_readsMix 87 = .ok (.iload_n 2, 1) := by decide +kernel
theorem dX12_readsMix_88 : decode cX12_readsMix 88 = .ok (.invokevirtual 148, 3) := by decide +kernel
theorem dX12_readsMix_91 : decode cX12_readsMix 91 = .ok (.ifCond .ne 34, 3) := by decide +kernel
theorem dX12_readsMix_94 : decode cX12_readsMix 94 = .ok (.iload_n 1, 1) := by decide +kernel
theorem dX12_readsMix_95 : decode cX12_readsMix 95 = .ok (.iload_n 2, 1) := by decide +kernel
theorem dX12_readsMix_96 : decode cX12_readsMix 96 = .ok (.if_icmp .eq 29, 3) := by decide +kernel
theorem dX12_readsMix_99 : decode cX12_readsMix 99 = .ok (.aload_n 0, 1) := by decide +kernel
theorem dX12_readsMix_100 : decode cX12_readsMix 100 = .ok (.iload_n 1, 1) := by decide +kernel
theorem dX12_readsMix_101 : decode cX12_readsMix 101 = .ok (.invokevirtual 165, 3) := by decide +kernel
theorem dX12_readsMix_104 : decode cX12_readsMix 104 = .ok (.aload_n 0, 1) := by decide +kernel
theorem dX12_readsMix_105 : decode cX12_readsMix 105 = .ok (.iload_n 2, 1) := by decide +kernel
theorem dX12_readsMix_106 : decode cX12_readsMix 106 = .ok (.invokevirtual 165, 3) := by decide +kernel
theorem dX12_readsMix_109 : decode cX12_readsMix 109 = .ok (.if_icmp .ne 16, 3) := by decide +kernel
theorem dX12_readsMix_112 : decode cX12_readsMix 112 = .ok (.aload_n 0, 1) := by decide +kernel
theorem dX12_readsMix_113 : decode cX12_readsMix 113 = .ok (.iload_n 1, 1) := by decide +kernel
theorem dX12_readsMix_114 : decode cX12_readsMix 114 = .ok (.iload_n 2, 1) := by decide +kernel
theorem dX12_readsMix_115 : decode cX12_readsMix 115 = .ok (.invokevirtual 151, 3) := by decide +kernel
theorem dX12_readsMix_118 : decode cX12_readsMix 118 = .ok (.ifCond .ge 7, 3) := by decide +kernel
theorem dX12_readsMix_121 : decode cX12_readsMix 121 = .ok (.iconst 1, 1) := by decide +kernel
theorem dX12_readsMix_122 : decode cX12_readsMix 122 = .ok (.goto 4, 3) := by decide +kernel
theorem dX12_readsMix_125 : decode cX12_readsMix 125 = .ok (.iconst 0, 1) := by decide +kernel
theorem dX12_readsMix_126 : decode cX12_readsMix 126 = .ok (.iconst 4, 1) := by decide +kernel
theorem dX12_readsMix_127 : decode cX12_readsMix 127 = .ok (.invokevirtual 493, 3) := by decide +kernel
theorem dX12_readsMix_130 : decode cX12_readsMix 130 = .ok (.aload_n 0, 1) := by decide +kernel
theorem dX12_readsMix_131 : decode cX12_readsMix 131 = .ok (.getfield 487, 3) := by decide +kernel
theorem dX12_readsMix_134 : decode cX12_readsMix 134 = .ok (.ifCond .le 4, 3) := by decide +kernel
theorem dX12_readsMix_137 : decode cX12_readsMix 137 = .ok (.return_, 1) := by decide +kernel
theorem dX12_readsMix_138 : decode cX12_readsMix 138 = .ok (.aload_n 0, 1) := by decide +kernel
theorem dX12_readsMix_139 : decode cX12_readsMix 139 = .ok (.invokevirtual 497, 3) := by decide +kernel
theorem dX12_readsMix_142 : decode cX12_readsMix 142 = .ok (.aload_n 0, 1) := by decide +kernel
theorem dX12_readsMix_143 : decode cX12_readsMix 143 = .ok (.getfield 7, 3) := by decide +kernel
theorem dX12_readsMix_146 : decode cX12_readsMix 146 = .ok (.bipush 24, 2) := by decide +kernel
theorem dX12_readsMix_148 : decode cX12_readsMix 148 = .ok (.iconst 2, 1) := by decide +kernel
theorem dX12_readsMix_149 : decode cX12_readsMix 149 = .ok (.aload_n 0, 1) := by decide +kernel
theorem dX12_readsMix_150 : decode cX12_readsMix 150 = .ok (.getfield 7, 3) := by decide +kernel
theorem dX12_readsMix_153 : decode cX12_readsMix 153 = .ok (.iconst 1, 1) := by decide +kernel
theorem dX12_readsMix_154 : decode cX12_readsMix 154 = .ok (.iaload, 1) := by decide +kernel
theorem dX12_readsMix_155 : decode cX12_readsMix 155 = .ok (.imul, 1) := by decide +kernel
theorem dX12_readsMix_156 : decode cX12_readsMix 156 = .ok (.iadd, 1) := by decide +kernel
theorem dX12_readsMix_157 : decode cX12_readsMix 157 = .ok (.iload_n 1, 1) := by decide +kernel
theorem dX12_readsMix_158 : decode cX12_readsMix 158 = .ok (.iastore, 1) := by decide +kernel
theorem dX12_readsMix_159 : decode cX12_readsMix 159 = .ok (.aload_n 0, 1) := by decide +kernel
theorem dX12_readsMix_160 : decode cX12_readsMix 160 = .ok (.getfield 7, 3) := by decide +kernel
theorem dX12_readsMix_163 : decode cX12_readsMix 163 = .ok (.bipush 24, 2) := by decide +kernel
theorem dX12_readsMix_165 : decode cX12_readsMix 165 = .ok (.iconst 2, 1) := by decide +kernel
theorem dX12_readsMix_166 : decode cX12_readsMix 166 = .ok (.aload_n 0, 1) := by decide +kernel
theorem dX12_readsMix_167 : decode cX12_readsMix 167 = .ok (.getfield 7, 3) := by decide +kernel
theorem dX12_readsMix_170 : decode cX12_readsMix 170 = .ok (.iconst 1, 1) := by decide +kernel
theorem dX12_readsMix_171 : decode cX12_readsMix 171 = .ok (.iaload, 1) := by decide +kernel
theorem dX12_readsMix_172 : decode cX12_readsMix 172 = .ok (.imul, 1) := by decide +kernel
theorem dX12_readsMix_173 : decode cX12_readsMix 173 = .ok (.iadd, 1) := by decide +kernel
theorem dX12_readsMix_174 : decode cX12_readsMix 174 = .ok (.iconst 1, 1) := by decide +kernel
theorem dX12_readsMix_175 : decode cX12_readsMix 175 = .ok (.iadd, 1) := by decide +kernel
theorem dX12_readsMix_176 : decode cX12_readsMix 176 = .ok (.iload_n 2, 1) := by decide +kernel
theorem dX12_readsMix_177 : decode cX12_readsMix 177 = .ok (.iastore, 1) := by decide +kernel
theorem dX12_readsMix_178 : decode cX12_readsMix 178 = .ok (.aload_n 0, 1) := by decide +kernel
theorem dX12_readsMix_179 : decode cX12_readsMix 179 = .ok (.getfield 7, 3) := by decide +kernel
theorem dX12_readsMix_182 : decode cX12_readsMix 182 = .ok (.iconst 1, 1) := by decide +kernel
theorem dX12_readsMix_183 : decode cX12_readsMix 183 = .ok (.dup2, 1) := by decide +kernel
theorem dX12_readsMix_184 : decode cX12_readsMix 184 = .ok (.iaload, 1) := by decide +kernel
theorem dX12_readsMix_185 : decode cX12_readsMix 185 = .ok (.iconst 1, 1) := by decide +kernel
theorem dX12_readsMix_186 : decode cX12_readsMix 186 = .ok (.iadd, 1) := by decide +kernel
theorem dX12_readsMix_187 : decode cX12_readsMix 187 = .ok (.iastore, 1) := by decide +kernel
theorem dX12_readsMix_188 : decode cX12_readsMix 188 = .ok (.return_, 1) := by decide +kernel
theorem dX12_isVertexBehind_0 : decode cX12_isVertexBehind 0 = .ok (.aload_n 0, 1) := by decide +kernel
theorem dX12_isVertexBehind_1 : decode cX12_isVertexBehind 1 = .ok (.getfield 462, 3) := by decide +kernel
theorem dX12_isVertexBehind_4 : decode cX12_isVertexBehind 4 = .ok (.istore_n 1, 1) := by decide +kernel
theorem dX12_isVertexBehind_5 : decode cX12_isVertexBehind 5 = .ok (.aload_n 0, 1) := by decide +kernel
theorem dX12_isVertexBehind_6 : decode cX12_isVertexBehind 6 = .ok (.invokevirtual 497, 3) := by decide +kernel
theorem dX12_isVertexBehind_9 : decode cX12_isVertexBehind 9 = .ok (.aload_n 0, 1) := by decide +kernel
theorem dX12_isVertexBehind_10 : decode cX12_isVertexBehind 10 = .ok (.getfield 471, 3) := by decide +kernel
theorem dX12_isVertexBehind_13 : decode cX12_isVertexBehind 13 = .ok (.iconst 1, 1) := by decide +kernel
theorem dX12_isVertexBehind_14 : decode cX12_isVertexBehind 14 = .ok (.if_icmp .ne 22, 3) := by decide +kernel
theorem dX12_isVertexBehind_17 : decode cX12_isVertexBehind 17 = .ok (.aload_n 0, 1) := by decide +kernel
theorem dX12_isVertexBehind_18 : decode cX12_isVertexBehind 18 = .ok (.getfield 474, 3) := by decide +kernel
theorem dX12_isVertexBehind_21 : decode cX12_isVertexBehind 21 = .ok (.aload_n 0, 1) := by decide +kernel
theorem dX12_isVertexBehind_22 : decode cX12_isVertexBehind 22 = .ok (.getfield 102, 3) := by decide +kernel
theorem dX12_isVertexBehind_25 : decode cX12_isVertexBehind 25 = .ok (.bipush 7, 2) := by decide +kernel
theorem dX12_isVertexBehind_27 : decode cX12_isVertexBehind 27 = .ok (.laload, 1) := by decide +kernel
theorem dX12_isVertexBehind_28 : decode cX12_isVertexBehind 28 = .ok (.lcmp, 1) := by decide +kernel
theorem dX12_isVertexBehind_29 : decode cX12_isVertexBehind 29 = .ok (.ifCond .ne 7, 3) := by decide +kernel
theorem dX12_isVertexBehind_32 : decode cX12_isVertexBehind 32 = .ok (.iconst 1, 1) := by decide +kernel
theorem dX12_isVertexBehind_33 : decode cX12_isVertexBehind 33 = .ok (.goto 4, 3) := by decide +kernel
theorem dX12_isVertexBehind_36 : decode cX12_isVertexBehind 36 = .ok (.iconst 0, 1) := by decide +kernel
theorem dX12_isVertexBehind_37 : decode cX12_isVertexBehind 37 = .ok (.istore_n 2, 1) := by decide +kernel
theorem dX12_isVertexBehind_38 : decode cX12_isVertexBehind 38 = .ok (.aload_n 0, 1) := by decide +kernel
theorem dX12_isVertexBehind_39 : decode cX12_isVertexBehind 39 = .ok (.iload_n 1, 1) := by decide +kernel
theorem dX12_isVertexBehind_40 : decode cX12_isVertexBehind 40 = .ok (.putfield 459, 3) := by decide +kernel
theorem dX12_isVertexBehind_43 : decode cX12_isVertexBehind 43 = .ok (.aload_n 0, 1) := by decide +kernel
theorem dX12_isVertexBehind_44 : decode cX12_isVertexBehind 44 = .ok (.invokevirtual 497, 3) := by decide +kernel
theorem dX12_isVertexBehind_47 : decode cX12_isVertexBehind 47 = .ok (.iload_n 2, 1) := by decide +kernel
theorem dX12_isVertexBehind_48 : decode cX12_isVertexBehind 48 = .ok (.ireturn, 1) := by decide +kernel
theorem dX12_lettersTold_0 : decode cX12_lettersTold 0 = .ok (.iconst 0, 1) := by decide +kernel
theorem dX12_lettersTold_1 : decode cX12_lettersTold 1 = .ok (.istore_n 1, 1) := by decide +kernel
theorem dX12_lettersTold_2 : decode cX12_lettersTold 2 = .ok (.iconst 0, 1) := by decide +kernel
theorem dX12_lettersTold_3 : decode cX12_lettersTold 3 = .ok (.istore_n 2, 1) := by decide +kernel
theorem dX12_lettersTold_4 : decode cX12_lettersTold 4 = .ok (.iload_n 2, 1) := by decide +kernel
theorem dX12_lettersTold_5 : decode cX12_lettersTold 5 = .ok (.aload_n 0, 1) := by decide +kernel
theorem dX12_lettersTold_6 : decode cX12_lettersTold 6 = .ok (.getfield 7, 3) := by decide +kernel
theorem dX12_lettersTold_9 : decode cX12_lettersTold 9 = .ok (.iconst 2, 1) := by decide +kernel
theorem dX12_lettersTold_10 : decode cX12_lettersTold 10 = .ok (.iaload, 1) := by decide +kernel
theorem dX12_lettersTold_11 : decode cX12_lettersTold 11 = .ok (.if_icmp .ge 17, 3) := by decide +kernel
theorem dX12_lettersTold_14 : decode cX12_lettersTold 14 = .ok (.iload_n 1, 1) := by decide +kernel
theorem dX12_lettersTold_15 : decode cX12_lettersTold 15 = .ok (.aload_n 0, 1) := by decide +kernel
theorem dX12_lettersTold_16 : decode cX12_lettersTold 16 = .ok (.iload_n 2, 1) := by decide +kernel
theorem dX12_lettersTold_17 : decode cX12_lettersTold 17 = .ok (.invokevirtual 127, 3) := by decide +kernel
theorem dX12_lettersTold_20 : decode cX12_lettersTold 20 = .ok (.iadd, 1) := by decide +kernel
theorem dX12_lettersTold_21 : decode cX12_lettersTold 21 = .ok (.istore_n 1, 1) := by decide +kernel
theorem dX12_lettersTold_22 : decode cX12_lettersTold 22 = .ok (.iinc 2 1, 3) := by decide +kernel
theorem dX12_lettersTold_25 : decode cX12_lettersTold 25 = .ok (.goto (-21), 3) := by decide +kernel
theorem dX12_lettersTold_28 : decode cX12_lettersTold 28 = .ok (.iload_n 1, 1) := by decide +kernel
theorem dX12_lettersTold_29 : decode cX12_lettersTold 29 = .ok (.ireturn, 1) := by decide +kernel
theorem dX12_readsPoint_0 : decode cX12_readsPoint 0 = .ok (.aload_n 0, 1) := by decide +kernel
theorem dX12_readsPoint_1 : decode cX12_readsPoint 1 = .ok (.iconst 5, 1) := by decide +kernel
theorem dX12_readsPoint_2 : decode cX12_readsPoint 2 = .ok (.invokevirtual 503, 3) := by decide +kernel
theorem dX12_readsPoint_5 : decode cX12_readsPoint 5 = .ok (.istore_n 1, 1) := by decide +kernel
theorem dX12_readsPoint_6 : decode cX12_readsPoint 6 = .ok (.iload_n 1, 1) := by decide +kernel
theorem dX12_readsPoint_7 : decode cX12_readsPoint 7 = .ok (.ifCond .eq 10, 3) := by decide +kernel
theorem dX12_readsPoint_10 : decode cX12_readsPoint 10 = .ok (.aload_n 0, 1) := by decide +kernel
theorem dX12_readsPoint_11 : decode cX12_readsPoint 11 = .ok (.invokevirtual 513, 3) := by decide +kernel
theorem dX12_readsPoint_14 : decode cX12_readsPoint 14 = .ok (.goto 9, 3) := by decide +kernel
theorem dX12_readsPoint_17 : decode cX12_readsPoint 17 = .ok (.aload_n 0, 1) := by decide +kernel
theorem dX12_readsPoint_18 : decode cX12_readsPoint 18 = .ok (.bipush 7, 2) := by decide +kernel
theorem dX12_readsPoint_20 : decode cX12_readsPoint 20 = .ok (.invokevirtual 503, 3) := by decide +kernel
theorem dX12_readsPoint_23 : decode cX12_readsPoint 23 = .ok (.istore_n 2, 1) := by decide +kernel
theorem dX12_readsPoint_24 : decode cX12_readsPoint 24 = .ok (.aload_n 0, 1) := by decide +kernel
theorem dX12_readsPoint_25 : decode cX12_readsPoint 25 = .ok (.aload_n 0, 1) := by decide +kernel
theorem dX12_readsPoint_26 : decode cX12_readsPoint 26 = .ok (.getfield 7, 3) := by decide +kernel
theorem dX12_readsPoint_29 : decode cX12_readsPoint 29 = .ok (.iconst 2, 1) := by decide +kernel
theorem dX12_readsPoint_30 : decode cX12_readsPoint 30 = .ok (.iaload, 1) := by decide +kernel
theorem dX12_readsPoint_31 : decode cX12_readsPoint 31 = .ok (.bipush 8, 2) := by decide +kernel
theorem dX12_readsPoint_33 : decode cX12_readsPoint 33 = .ok (.if_icmp .ge 19, 3) := by decide +kernel
theorem dX12_readsPoint_36 : decode cX12_readsPoint 36 = .ok (.iload_n 2, 1) := by decide +kernel
theorem dX12_readsPoint_37 : decode cX12_readsPoint 37 = .ok (.ifCond .eq 11, 3) := by decide +kernel
theorem dX12_readsPoint_40 : decode cX12_readsPoint 40 = .ok (.aload_n 0, 1) := by decide +kernel
theorem dX12_readsPoint_41 : decode cX12_readsPoint 41 = .ok (.invokevirtual 313, 3) := by decide +kernel
theorem dX12_readsPoint_44 : decode cX12_readsPoint 44 = .ok (.iconst 5, 1) := by decide +kernel
theorem dX12_readsPoint_45 : decode cX12_readsPoint 45 = .ok (.if_icmp .eq 7, 3) := by decide +kernel
theorem dX12_readsPoint_48 : decode cX12_readsPoint 48 = .ok (.iconst 1, 1) := by decide +kernel
theorem dX12_readsPoint_49 : decode cX12_readsPoint 49 = .ok (.goto 4, 3) := by decide +kernel
theorem dX12_readsPoint_52 : decode cX12_readsPoint 52 = .ok (.iconst 0, 1) := by decide +kernel
theorem dX12_readsPoint_53 : decode cX12_readsPoint 53 = .ok (.bipush 6, 2) := by decide +kernel
theorem dX12_readsPoint_55 : decode cX12_readsPoint 55 = .ok (.invokevirtual 493, 3) := by decide +kernel
theorem dX12_readsPoint_58 : decode cX12_readsPoint 58 = .ok (.aload_n 0, 1) := by decide +kernel
theorem dX12_readsPoint_59 : decode cX12_readsPoint 59 = .ok (.getfield 487, 3) := by decide +kernel
theorem dX12_readsPoint_62 : decode cX12_readsPoint 62 = .ok (.ifCond .le 4, 3) := by decide +kernel
theorem dX12_readsPoint_65 : decode cX12_readsPoint 65 = .ok (.return_, 1) := by decide +kernel
theorem dX12_readsPoint_66 : decode cX12_readsPoint 66 = .ok (.iload_n 1, 1) := by decide +kernel
theorem dX12_readsPoint_67 : decode cX12_readsPoint 67 = .ok (.ifCond .eq 7, 3) := by decide +kernel
theorem dX12_readsPoint_70 : decode cX12_readsPoint 70 = .ok (.aload_n 0, 1) := by decide +kernel
theorem dX12_readsPoint_71 : decode cX12_readsPoint 71 = .ok (.invokevirtual 497, 3) := by decide +kernel
theorem dX12_readsPoint_74 : decode cX12_readsPoint 74 = .ok (.aload_n 0, 1) := by decide +kernel
theorem dX12_readsPoint_75 : decode cX12_readsPoint 75 = .ok (.aload_n 0, 1) := by decide +kernel
theorem dX12_readsPoint_76 : decode cX12_readsPoint 76 = .ok (.bipush 7, 2) := by decide +kernel
theorem dX12_readsPoint_78 : decode cX12_readsPoint 78 = .ok (.invokevirtual 503, 3) := by decide +kernel
theorem dX12_readsPoint_81 : decode cX12_readsPoint 81 = .ok (.ifCond .ne 12, 3) := by decide +kernel
theorem dX12_readsPoint_84 : decode cX12_readsPoint 84 = .ok (.aload_n 0, 1) := by decide +kernel
theorem dX12_readsPoint_85 : decode cX12_readsPoint 85 = .ok (.bipush 6, 2) := by decide +kernel
theorem dX12_readsPoint_87 : decode cX12_readsPoint 87 = .ok (.invokevirtual 503, 3) := by decide +kernel
theorem dX12_readsPoint_90 : decode cX12_readsPoint 90 = .ok (.ifCond .eq 7, 3) := by decide +kernel
theorem dX12_readsPoint_93 : decode cX12_readsPoint 93 = .ok (.iconst 1, 1) := by decide +kernel
theorem dX12_readsPoint_94 : decode cX12_readsPoint 94 = .ok (.goto 4, 3) := by decide +kernel
theorem dX12_readsPoint_97 : decode cX12_readsPoint 97 = .ok (.iconst 0, 1) := by decide +kernel
theorem dX12_readsPoint_98 : decode cX12_readsPoint 98 = .ok (.invokevirtual 506, 3) := by decide +kernel
theorem dX12_readsPoint_101 : decode cX12_readsPoint 101 = .ok (.aload_n 0, 1) := by decide +kernel
theorem dX12_readsPoint_102 : decode cX12_readsPoint 102 = .ok (.aload_n 0, 1) := by decide +kernel
theorem dX12_readsPoint_103 : decode cX12_readsPoint 103 = .ok (.getfield 7, 3) := by decide +kernel
theorem dX12_readsPoint_106 : decode cX12_readsPoint 106 = .ok (.iconst 2, 1) := by decide +kernel
theorem dX12_readsPoint_107 : decode cX12_readsPoint 107 = .ok (.iaload, 1) := by decide +kernel
theorem dX12_readsPoint_108 : decode cX12_readsPoint 108 = .ok (.invokevirtual 120, 3) := by decide +kernel
theorem dX12_readsPoint_111 : decode cX12_readsPoint 111 = .ok (.istore_n 3, 1) := by decide +kernel
theorem dX12_readsPoint_112 : decode cX12_readsPoint 112 = .ok (.iconst 0, 1) := by decide +kernel
theorem dX12_readsPoint_113 : decode cX12_readsPoint 113 = .ok (.istore 4, 2) := by decide +kernel
theorem dX12_readsPoint_115 : decode cX12_readsPoint 115 = .ok (.aload_n 0, 1) := by decide +kernel
theorem dX12_readsPoint_116 : decode cX12_readsPoint 116 = .ok (.invokevirtual 517, 3) := by decide +kernel
theorem dX12_readsPoint_119 : decode cX12_readsPoint 119 = .ok (.istore 5, 2) := by decide +kernel
theorem dX12_readsPoint_121 : decode cX12_readsPoint 121 = .ok (.aload_n 0, 1) := by decide +kernel
theorem dX12_readsPoint_122 : decode cX12_readsPoint 122 = .ok (.getfield 487, 3) := by decide +kernel
theorem dX12_readsPoint_125 : decode cX12_readsPoint 125 = .ok (.ifCond .ne 142, 3) := by decide +kernel
theorem dX12_readsPoint_128 : decode cX12_readsPoint 128 = .ok (.iload 4, 2) := by decide +kernel
theorem dX12_readsPoint_130 : decode cX12_readsPoint 130 = .ok (.ifCond .eq 11, 3) := by decide +kernel
theorem dX12_readsPoint_133 : decode cX12_readsPoint 133 = .ok (.aload_n 0, 1) := by decide +kernel
theorem dX12_readsPoint_134 : decode cX12_readsPoint 134 = .ok (.getfield 471, 3) := by decide +kernel
theorem dX12_readsPoint_137 : decode cX12_readsPoint 137 = .ok (.iconst 1, 1) := by decide +kernel
theorem dX12_readsPoint_138 : decode cX12_readsPoint 138 = .ok (.if_icmp .ne 129, 3) := by decide +kernel
theorem dX12_readsPoint_141 : decode cX12_readsPoint 141 = .ok (.aload_n 0, 1) := by decide +kernel
theorem dX12_readsPoint_142 : decode cX12_readsPoint 142 = .ok (.invokevirtual 510, 3) := by decide +kernel
theorem dX12_readsPoint_145 : decode cX12_readsPoint 145 = .ok (.istore 6, 2) := by decide +kernel
theorem dX12_readsPoint_147 : decode cX12_readsPoint 147 = .ok (.aload_n 0, 1) := by decide +kernel
theorem dX12_readsPoint_148 : decode cX12_readsPoint 148 = .ok (.iload 4, 2) := by decide +kernel
theorem dX12_readsPoint_150 : decode cX12_readsPoint 150 = .ok (.bipush 6, 2) := by decide +kernel
theorem dX12_readsPoint_152 : decode cX12_readsPoint 152 = .ok (.if_icmp .ge 17, 3) := by decide +kernel
theorem dX12_readsPoint_155 : decode cX12_readsPoint 155 = .ok (.iload 5, 2) := by decide +kernel
theorem dX12_readsPoint_157 : decode cX12_readsPoint 157 = .ok (.iload 4, 2) := by decide +kernel
theorem dX12_readsPoint_159 : decode cX12_readsPoint 159 = .ok (.iadd, 1) := by decide +kernel
theorem dX12_readsPoint_160 : decode cX12_readsPoint 160 = .ok (.bipush 12, 2) := by decide +kernel
theorem dX12_readsPoint_162 : decode cX12_readsPoint 162 = .ok (.if_icmp .ge 7, 3) := by decide +kernel
theorem dX12_readsPoint_165 : decode cX12_readsPoint 165 = .ok (.iconst 1, 1) := by decide +kernel
theorem dX12_readsPoint_166 : decode cX12_readsPoint 166 = .ok (.goto 4, 3) := by decide +kernel
theorem dX12_readsPoint_169 : decode cX12_readsPoint 169 = .ok (.iconst 0, 1) := by decide +kernel
theorem dX12_readsPoint_170 : decode cX12_readsPoint 170 = .ok (.bipush 6, 2) := by decide +kernel
theorem dX12_readsPoint_172 : decode cX12_readsPoint 172 = .ok (.invokevirtual 493, 3) := by decide +kernel
theorem dX12_readsPoint_175 : decode cX12_readsPoint 175 = .ok (.aload_n 0, 1) := by decide +kernel
theorem dX12_readsPoint_176 : decode cX12_readsPoint 176 = .ok (.getfield 487, 3) := by decide +kernel
theorem dX12_readsPoint_179 : decode cX12_readsPoint 179 = .ok (.ifCond .le 4, 3) := by decide +kernel
theorem dX12_readsPoint_182 : decode cX12_readsPoint 182 = .ok (.return_, 1) := by decide +kernel
theorem dX12_readsPoint_183 : decode cX12_readsPoint 183 = .ok (.aload_n 0, 1) := by decide +kernel
theorem dX12_readsPoint_184 : decode cX12_readsPoint 184 = .ok (.invokevirtual 497, 3) := by decide +kernel
theorem dX12_readsPoint_187 : decode cX12_readsPoint 187 = .ok (.aload_n 0, 1) := by decide +kernel
theorem dX12_readsPoint_188 : decode cX12_readsPoint 188 = .ok (.bipush 39, 2) := by decide +kernel
theorem dX12_readsPoint_190 : decode cX12_readsPoint 190 = .ok (.invokevirtual 520, 3) := by decide +kernel
theorem dX12_readsPoint_193 : decode cX12_readsPoint 193 = .ok (.istore 7, 2) := by decide +kernel
theorem dX12_readsPoint_195 : decode cX12_readsPoint 195 = .ok (.aload_n 0, 1) := by decide +kernel
theorem dX12_readsPoint_196 : decode cX12_readsPoint 196 = .ok (.iload 7, 2) := by decide +kernel
theorem dX12_readsPoint_198 : decode cX12_readsPoint 198 = .ok (.ifCond .eq 12, 3) := by decide +kernel
theorem dX12_readsPoint_201 : decode cX12_readsPoint 201 = .ok (.aload_n 0, 1) := by decide +kernel
theorem dX12_readsPoint_202 : decode cX12_readsPoint 202 = .ok (.iload 6, 2) := by decide +kernel
theorem dX12_readsPoint_204 : decode cX12_readsPoint 204 = .ok (.invokevirtual 148, 3) := by decide +kernel
theorem dX12_readsPoint_207 : decode cX12_readsPoint 207 = .ok (.ifCond .eq 7, 3) := by decide +kernel
theorem dX12_readsPoint_210 : decode cX12_readsPoint 210 = .ok (.iconst 1, 1) := by decide +kernel
theorem dX12_readsPoint_211 : decode cX12_readsPoint 211 = .ok (.goto 4, 3) := by decide +kernel
theorem dX12_readsPoint_214 : decode cX12_readsPoint 214 = .ok (.iconst 0, 1) := by decide +kernel
theorem dX12_readsPoint_215 : decode cX12_readsPoint 215 = .ok (.iconst 4, 1) := by decide +kernel
theorem dX12_readsPoint_216 : decode cX12_readsPoint 216 = .ok (.invokevirtual 493, 3) := by decide +kernel
theorem dX12_readsPoint_219 : decode cX12_readsPoint 219 = .ok (.iload 7, 2) := by decide +kernel
theorem dX12_readsPoint_221 : decode cX12_readsPoint 221 = .ok (.ifCond .eq 14, 3) := by decide +kernel
theorem dX12_readsPoint_224 : decode cX12_readsPoint 224 = .ok (.aload_n 0, 1) := by decide +kernel
theorem dX12_readsPoint_225 : decode cX12_readsPoint 225 = .ok (.getfield 487, 3) := by decide +kernel
theorem dX12_readsPoint_228 : decode cX12_readsPoint 228 = .ok (.ifCond .ne 7, 3) := by decide +kernel
theorem dX12_readsPoint_231 : decode cX12_readsPoint 231 = .ok (.aload_n 0, 1) := by decide +kernel
theorem dX12_readsPoint_232 : decode cX12_readsPoint 232 = .ok (.invokevirtual 497, 3) := by decide +kernel
theorem dX12_readsPoint_235 : decode cX12_readsPoint 235 = .ok (.aload_n 0, 1) := by decide +kernel
theorem dX12_readsPoint_236 : decode cX12_readsPoint 236 = .ok (.getfield 7, 3) := by decide +kernel
theorem dX12_readsPoint_239 : decode cX12_readsPoint 239 = .ok (.iload_n 3, 1) := by decide +kernel
theorem dX12_readsPoint_240 : decode cX12_readsPoint 240 = .ok (.iconst 3, 1) := by decide +kernel
theorem dX12_readsPoint_241 : decode cX12_readsPoint 241 = .ok (.iadd, 1) := by decide +kernel
theorem dX12_readsPoint_242 : decode cX12_readsPoint 242 = .ok (.iload 4, 2) := by decide +kernel
theorem dX12_readsPoint_244 : decode cX12_readsPoint 244 = .ok (.iadd, 1) := by decide +kernel
theorem dX12_readsPoint_245 : decode cX12_readsPoint 245 = .ok (.iconst 2, 1) := by decide +kernel
theorem dX12_readsPoint_246 : decode cX12_readsPoint 246 = .ok (.iload 6, 2) := by decide +kernel
theorem dX12_readsPoint_248 : decode cX12_readsPoint 248 = .ok (.imul, 1) := by decide +kernel
theorem dX12_readsPoint_249 : decode cX12_readsPoint 249 = .ok (.iload 7, 2) := by decide +kernel
theorem dX12_readsPoint_251 : decode cX12_readsPoint 251 = .ok (.ifCond .eq 7, 3) := by decide +kernel
theorem dX12_readsPoint_254 : decode cX12_readsPoint 254 = .ok (.iconst 1, 1) := by decide +kernel
theorem dX12_readsPoint_255 : decode cX12_readsPoint 255 = .ok (.goto 4, 3) := by decide +kernel
theorem dX12_readsPoint_258 : decode cX12_readsPoint 258 = .ok (.iconst 0, 1) := by decide +kernel
theorem dX12_readsPoint_259 : decode cX12_readsPoint 259 = .ok (.iadd, 1) := by decide +kernel
theorem dX12_readsPoint_260 : decode cX12_readsPoint 260 = .ok (.iastore, 1) := by decide +kernel
theorem dX12_readsPoint_261 : decode cX12_readsPoint 261 = .ok (.iinc 4 1, 3) := by decide +kernel
theorem dX12_readsPoint_264 : decode cX12_readsPoint 264 = .ok (.goto (-143), 3) := by decide +kernel
theorem dX12_readsPoint_267 : decode cX12_readsPoint 267 = .ok (.aload_n 0, 1) := by decide +kernel
theorem dX12_readsPoint_268 : decode cX12_readsPoint 268 = .ok (.getfield 487, 3) := by decide +kernel
theorem dX12_readsPoint_271 : decode cX12_readsPoint 271 = .ok (.ifCond .le 4, 3) := by decide +kernel
theorem dX12_readsPoint_274 : decode cX12_readsPoint 274 = .ok (.return_, 1) := by decide +kernel
theorem dX12_readsPoint_275 : decode cX12_readsPoint 275 = .ok (.aload_n 0, 1) := by decide +kernel
theorem dX12_readsPoint_276 : decode cX12_readsPoint 276 = .ok (.getfield 7, 3) := by decide +kernel
theorem dX12_readsPoint_279 : decode cX12_readsPoint 279 = .ok (.iload_n 3, 1) := by decide +kernel
theorem dX12_readsPoint_280 : decode cX12_readsPoint 280 = .ok (.iload 4, 2) := by decide +kernel
theorem dX12_readsPoint_282 : decode cX12_readsPoint 282 = .ok (.iastore, 1) := by decide +kernel
theorem dX12_readsPoint_283 : decode cX12_readsPoint 283 = .ok (.aload_n 0, 1) := by decide +kernel
theorem dX12_readsPoint_284 : decode cX12_readsPoint 284 = .ok (.getfield 7, 3) := by decide +kernel
theorem dX12_readsPoint_287 : decode cX12_readsPoint 287 = .ok (.iload_n 3, 1) := by decide +kernel
theorem dX12_readsPoint_288 : decode cX12_readsPoint 288 = .ok (.iconst 1, 1) := by decide +kernel
theorem dX12_readsPoint_289 : decode cX12_readsPoint 289 = .ok (.iadd, 1) := by decide +kernel
theorem dX12_readsPoint_290 : decode cX12_readsPoint 290 = .ok (.iload_n 2, 1) := by decide +kernel
theorem dX12_readsPoint_291 : decode cX12_readsPoint 291 = .ok (.ifCond .eq 7, 3) := by decide +kernel
theorem dX12_readsPoint_294 : decode cX12_readsPoint 294 = .ok (.iconst 1, 1) := by decide +kernel
theorem dX12_readsPoint_295 : decode cX12_readsPoint 295 = .ok (.goto 4, 3) := by decide +kernel
theorem dX12_readsPoint_298 : decode cX12_readsPoint 298 = .ok (.iconst 0, 1) := by decide +kernel
theorem dX12_readsPoint_299 : decode cX12_readsPoint 299 = .ok (.iastore, 1) := by decide +kernel
theorem dX12_readsPoint_300 : decode cX12_readsPoint 300 = .ok (.aload_n 0, 1) := by decide +kernel
theorem dX12_readsPoint_301 : decode cX12_readsPoint 301 = .ok (.getfield 7, 3) := by decide +kernel
theorem dX12_readsPoint_304 : decode cX12_readsPoint 304 = .ok (.iload_n 3, 1) := by decide +kernel
theorem dX12_readsPoint_305 : decode cX12_readsPoint 305 = .ok (.iconst 2, 1) := by decide +kernel
theorem dX12_readsPoint_306 : decode cX12_readsPoint 306 = .ok (.iadd, 1) := by decide +kernel
theorem dX12_readsPoint_307 : decode cX12_readsPoint 307 = .ok (.iload_n 1, 1) := by decide +kernel
theorem dX12_readsPoint_308 : decode cX12_readsPoint 308 = .ok (.ifCond .eq 7, 3) := by decide +kernel
theorem dX12_readsPoint_311 : decode cX12_readsPoint 311 = .ok (.iconst 1, 1) := by decide +kernel
theorem dX12_readsPoint_312 : decode cX12_readsPoint 312 = .ok (.goto 4, 3) := by decide +kernel
theorem dX12_readsPoint_315 : decode cX12_readsPoint 315 = .ok (.iconst 0, 1) := by decide +kernel
theorem dX12_readsPoint_316 : decode cX12_readsPoint 316 = .ok (.iastore, 1) := by decide +kernel
theorem dX12_readsPoint_317 : decode cX12_readsPoint 317 = .ok (.aload_n 0, 1) := by decide +kernel
theorem dX12_readsPoint_318 : decode cX12_readsPoint 318 = .ok (.getfield 7, 3) := by decide +kernel
theorem dX12_readsPoint_321 : decode cX12_readsPoint 321 = .ok (.iconst 2, 1) := by decide +kernel
theorem dX12_readsPoint_322 : decode cX12_readsPoint 322 = .ok (.dup2, 1) := by decide +kernel
theorem dX12_readsPoint_323 : decode cX12_readsPoint 323 = .ok (.iaload, 1) := by decide +kernel
theorem dX12_readsPoint_324 : decode cX12_readsPoint 324 = .ok (.iconst 1, 1) := by decide +kernel
theorem dX12_readsPoint_325 : decode cX12_readsPoint 325 = .ok (.iadd, 1) := by decide +kernel
theorem dX12_readsPoint_326 : decode cX12_readsPoint 326 = .ok (.iastore, 1) := by decide +kernel
theorem dX12_readsPoint_327 : decode cX12_readsPoint 327 = .ok (.return_, 1) := by decide +kernel
theorem dX12_line_0 : decode cX12_line 0 = .ok (.aload_n 0, 1) := by decide +kernel
theorem dX12_line_1 : decode cX12_line 1 = .ok (.iconst 0, 1) := by decide +kernel
theorem dX12_line_2 : decode cX12_line 2 = .ok (.invokevirtual 503, 3) := by decide +kernel
theorem dX12_line_5 : decode cX12_line 5 = .ok (.ifCond .eq 10, 3) := by decide +kernel
theorem dX12_line_8 : decode cX12_line 8 = .ok (.aload_n 0, 1) := by decide +kernel
theorem dX12_line_9 : decode cX12_line 9 = .ok (.invokevirtual 523, 3) := by decide +kernel
theorem dX12_line_12 : decode cX12_line 12 = .ok (.goto 57, 3) := by decide +kernel
theorem dX12_line_15 : decode cX12_line 15 = .ok (.aload_n 0, 1) := by decide +kernel
theorem dX12_line_16 : decode cX12_line 16 = .ok (.iconst 4, 1) := by decide +kernel
theorem dX12_line_17 : decode cX12_line 17 = .ok (.invokevirtual 503, 3) := by decide +kernel
theorem dX12_line_20 : decode cX12_line 20 = .ok (.ifCond .eq 10, 3) := by decide +kernel
theorem dX12_line_23 : decode cX12_line 23 = .ok (.aload_n 0, 1) := by decide +kernel
theorem dX12_line_24 : decode cX12_line 24 = .ok (.invokevirtual 526, 3) := by decide +kernel
theorem dX12_line_27 : decode cX12_line 27 = .ok (.goto 42, 3) := by decide +kernel
theorem dX12_line_30 : decode cX12_line 30 = .ok (.aload_n 0, 1) := by decide +kernel
theorem dX12_line_31 : decode cX12_line 31 = .ok (.iconst 5, 1) := by decide +kernel
theorem dX12_line_32 : decode cX12_line 32 = .ok (.invokevirtual 503, 3) := by decide +kernel
theorem dX12_line_35 : decode cX12_line 35 = .ok (.ifCond .ne 21, 3) := by decide +kernel
theorem dX12_line_38 : decode cX12_line 38 = .ok (.aload_n 0, 1) := by decide +kernel
theorem dX12_line_39 : decode cX12_line 39 = .ok (.bipush 6, 2) := by decide +kernel
theorem dX12_line_41 : decode cX12_line 41 = .ok (.invokevirtual 503, 3) := by decide +kernel
theorem dX12_line_44 : decode cX12_line 44 = .ok (.ifCond .ne 12, 3) := by decide +kernel
theorem dX12_line_47 : decode cX12_line 47 = .ok (.aload_n 0, 1) := by decide +kernel
theorem dX12_line_48 : decode cX12_line 48 = .ok (.bipush 7, 2) := by decide +kernel
theorem dX12_line_50 : decode cX12_line 50 = .ok (.invokevirtual 503, 3) := by decide +kernel
theorem dX12_line_53 : decode cX12_line 53 = .ok (.ifCond .eq 10, 3) := by decide +kernel
theorem dX12_line_56 : decode cX12_line 56 = .ok (.aload_n 0, 1) := by decide +kernel
theorem dX12_line_57 : decode cX12_line 57 = .ok (.invokevirtual 529, 3) := by decide +kernel
theorem dX12_line_60 : decode cX12_line 60 = .ok (.goto 9, 3) := by decide +kernel
theorem dX12_line_63 : decode cX12_line 63 = .ok (.aload_n 0, 1) := by decide +kernel
theorem dX12_line_64 : decode cX12_line 64 = .ok (.iconst 0, 1) := by decide +kernel
theorem dX12_line_65 : decode cX12_line 65 = .ok (.iconst 2, 1) := by decide +kernel
theorem dX12_line_66 : decode cX12_line 66 = .ok (.invokevirtual 493, 3) := by decide +kernel
theorem dX12_line_69 : decode cX12_line 69 = .ok (.aload_n 0, 1) := by decide +kernel
theorem dX12_line_70 : decode cX12_line 70 = .ok (.aload_n 0, 1) := by decide +kernel
theorem dX12_line_71 : decode cX12_line 71 = .ok (.bipush 59, 2) := by decide +kernel
theorem dX12_line_73 : decode cX12_line 73 = .ok (.invokevirtual 520, 3) := by decide +kernel
theorem dX12_line_76 : decode cX12_line 76 = .ok (.invokevirtual 506, 3) := by decide +kernel
theorem dX12_line_79 : decode cX12_line 79 = .ok (.return_, 1) := by decide +kernel
theorem dX12_beginsText_0 : decode cX12_beginsText 0 = .ok (.aload_n 0, 1) := by decide +kernel
theorem dX12_beginsText_1 : decode cX12_beginsText 1 = .ok (.iload_n 1, 1) := by decide +kernel
theorem dX12_beginsText_2 : decode cX12_beginsText 2 = .ok (.putfield 453, 3) := by decide +kernel
theorem dX12_beginsText_5 : decode cX12_beginsText 5 = .ok (.aload_n 0, 1) := by decide +kernel
theorem dX12_beginsText_6 : decode cX12_beginsText 6 = .ok (.iconst 0, 1) := by decide +kernel
theorem dX12_beginsText_7 : decode cX12_beginsText 7 = .ok (.putfield 459, 3) := by decide +kernel
theorem dX12_beginsText_10 : decode cX12_beginsText 10 = .ok (.aload_n 0, 1) := by decide +kernel
theorem dX12_beginsText_11 : decode cX12_beginsText 11 = .ok (.iconst 0, 1) := by decide +kernel
theorem dX12_beginsText_12 : decode cX12_beginsText 12 = .ok (.putfield 487, 3) := by decide +kernel
theorem dX12_beginsText_15 : decode cX12_beginsText 15 = .ok (.aload_n 0, 1) := by decide +kernel
theorem dX12_beginsText_16 : decode cX12_beginsText 16 = .ok (.iload_n 2, 1) := by decide +kernel
theorem dX12_beginsText_17 : decode cX12_beginsText 17 = .ok (.putfield 456, 3) := by decide +kernel
theorem dX12_beginsText_20 : decode cX12_beginsText 20 = .ok (.aload_n 0, 1) := by decide +kernel
theorem dX12_beginsText_21 : decode cX12_beginsText 21 = .ok (.invokevirtual 497, 3) := by decide +kernel
theorem dX12_beginsText_24 : decode cX12_beginsText 24 = .ok (.return_, 1) := by decide +kernel
theorem dX12_endsText_0 : decode cX12_endsText 0 = .ok (.aload_n 0, 1) := by decide +kernel
theorem dX12_endsText_1 : decode cX12_endsText 1 = .ok (.iconst 0, 1) := by decide +kernel
theorem dX12_endsText_2 : decode cX12_endsText 2 = .ok (.putfield 447, 3) := by decide +kernel
theorem dX12_endsText_5 : decode cX12_endsText 5 = .ok (.aload_n 0, 1) := by decide +kernel
theorem dX12_endsText_6 : decode cX12_endsText 6 = .ok (.aload_n 0, 1) := by decide +kernel
theorem dX12_endsText_7 : decode cX12_endsText 7 = .ok (.getfield 487, 3) := by decide +kernel
theorem dX12_endsText_10 : decode cX12_endsText 10 = .ok (.putfield 79, 3) := by decide +kernel
theorem dX12_endsText_13 : decode cX12_endsText 13 = .ok (.aload_n 0, 1) := by decide +kernel
theorem dX12_endsText_14 : decode cX12_endsText 14 = .ok (.aload_n 0, 1) := by decide +kernel
theorem dX12_endsText_15 : decode cX12_endsText 15 = .ok (.getfield 487, 3) := by decide +kernel
theorem dX12_endsText_18 : decode cX12_endsText 18 = .ok (.ifCond .le 10, 3) := by decide +kernel
theorem dX12_endsText_21 : decode cX12_endsText 21 = .ok (.aload_n 0, 1) := by decide +kernel
theorem dX12_endsText_22 : decode cX12_endsText 22 = .ok (.getfield 490, 3) := by decide +kernel
theorem dX12_endsText_25 : decode cX12_endsText 25 = .ok (.goto 4, 3) := by decide +kernel
theorem dX12_endsText_28 : decode cX12_endsText 28 = .ok (.iconst (-1), 1) := by decide +kernel
theorem dX12_endsText_29 : decode cX12_endsText 29 = .ok (.putfield 83, 3) := by decide +kernel
theorem dX12_endsText_32 : decode cX12_endsText 32 = .ok (.aload_n 0, 1) := by decide +kernel
theorem dX12_endsText_33 : decode cX12_endsText 33 = .ok (.aload_n 0, 1) := by decide +kernel
theorem dX12_endsText_34 : decode cX12_endsText 34 = .ok (.getfield 487, 3) := by decide +kernel
theorem dX12_endsText_37 : decode cX12_endsText 37 = .ok (.ifCond .le 8, 3) := by decide +kernel
theorem dX12_endsText_40 : decode cX12_endsText 40 = .ok (.bipush 9, 2) := by decide +kernel
theorem dX12_endsText_42 : decode cX12_endsText 42 = .ok (.goto 4, 3) := by decide +kernel
theorem dX12_endsText_45 : decode cX12_endsText 45 = .ok (.iconst 0, 1) := by decide +kernel
theorem dX12_endsText_46 : decode cX12_endsText 46 = .ok (.putfield 117, 3) := by decide +kernel
theorem dX12_endsText_49 : decode cX12_endsText 49 = .ok (.return_, 1) := by decide +kernel
theorem dX12_load_0 : decode cX12_load 0 = .ok (.aload_n 0, 1) := by decide +kernel
theorem dX12_load_1 : decode cX12_load 1 = .ok (.iload_n 1, 1) := by decide +kernel
theorem dX12_load_2 : decode cX12_load 2 = .ok (.iconst 0, 1) := by decide +kernel
theorem dX12_load_3 : decode cX12_load 3 = .ok (.aload_n 0, 1) := by decide +kernel
theorem dX12_load_4 : decode cX12_load 4 = .ok (.getfield 447, 3) := by decide +kernel
theorem dX12_load_7 : decode cX12_load 7 = .ok (.invokestatic 140, 3) := by decide +kernel
theorem dX12_load_10 : decode cX12_load 10 = .ok (.ifCond .eq 7, 3) := by decide +kernel
theorem dX12_load_13 : decode cX12_load 13 = .ok (.iconst 0, 1) := by decide +kernel
theorem dX12_load_14 : decode cX12_load 14 = .ok (.goto 4, 3) := by decide +kernel
theorem dX12_load_17 : decode cX12_load 17 = .ok (.iconst 1, 1) := by decide +kernel
theorem dX12_load_18 : decode cX12_load 18 = .ok (.invokevirtual 310, 3) := by decide +kernel
theorem dX12_load_21 : decode cX12_load 21 = .ok (.ifCond .ne 5, 3) := by decide +kernel
theorem dX12_load_24 : decode cX12_load 24 = .ok (.iconst (-1), 1) := by decide +kernel
theorem dX12_load_25 : decode cX12_load 25 = .ok (.ireturn, 1) := by decide +kernel
theorem dX12_load_26 : decode cX12_load 26 = .ok (.iconst 0, 1) := by decide +kernel
theorem dX12_load_27 : decode cX12_load 27 = .ok (.istore_n 2, 1) := by decide +kernel
theorem dX12_load_28 : decode cX12_load 28 = .ok (.iload_n 2, 1) := by decide +kernel
theorem dX12_load_29 : decode cX12_load 29 = .ok (.bipush 104, 2) := by decide +kernel
theorem dX12_load_31 : decode cX12_load 31 = .ok (.if_icmp .ge 21, 3) := by decide +kernel
theorem dX12_load_34 : decode cX12_load 34 = .ok (.aload_n 0, 1) := by decide +kernel
theorem dX12_load_35 : decode cX12_load 35 = .ok (.getfield 13, 3) := by decide +kernel
theorem dX12_load_38 : decode cX12_load 38 = .ok (.iload_n 2, 1) := by decide +kernel
theorem dX12_load_39 : decode cX12_load 39 = .ok (.aload_n 0, 1) := by decide +kernel
theorem dX12_load_40 : decode cX12_load 40 = .ok (.getfield 7, 3) := by decide +kernel
theorem dX12_load_43 : decode cX12_load 43 = .ok (.iload_n 2, 1) := by decide +kernel
theorem dX12_load_44 : decode cX12_load 44 = .ok (.iaload, 1) := by decide +kernel
theorem dX12_load_45 : decode cX12_load 45 = .ok (.iastore, 1) := by decide +kernel
theorem dX12_load_46 : decode cX12_load 46 = .ok (.iinc 2 1, 3) := by decide +kernel
theorem dX12_load_49 : decode cX12_load 49 = .ok (.goto (-21), 3) := by decide +kernel
theorem dX12_load_52 : decode cX12_load 52 = .ok (.iconst 0, 1) := by decide +kernel
theorem dX12_load_53 : decode cX12_load 53 = .ok (.istore_n 2, 1) := by decide +kernel
theorem dX12_load_54 : decode cX12_load 54 = .ok (.iload_n 2, 1) := by decide +kernel
theorem dX12_load_55 : decode cX12_load 55 = .ok (.bipush 104, 2) := by decide +kernel
theorem dX12_load_57 : decode cX12_load 57 = .ok (.if_icmp .ge 16, 3) := by decide +kernel
theorem dX12_load_60 : decode cX12_load 60 = .ok (.aload_n 0, 1) := by decide +kernel
theorem dX12_load_61 : decode cX12_load 61 = .ok (.getfield 7, 3) := by decide +kernel
theorem dX12_load_64 : decode cX12_load 64 = .ok (.iload_n 2, 1) := by decide +kernel
theorem dX12_load_65 : decode cX12_load 65 = .ok (.iconst 0, 1) := by decide +kernel
theorem dX12_load_66 : decode cX12_load 66 = .ok (.iastore, 1) := by decide +kernel
theorem dX12_load_67 : decode cX12_load 67 = .ok (.iinc 2 1, 3) := by decide +kernel
theorem dX12_load_70 : decode cX12_load 70 = .ok (.goto (-16), 3) := by decide +kernel
theorem dX12_load_73 : decode cX12_load 73 = .ok (.aload_n 0, 1) := by decide +kernel
theorem dX12_load_74 : decode cX12_load 74 = .ok (.iload_n 1, 1) := by decide +kernel
theorem dX12_load_75 : decode cX12_load 75 = .ok (.iconst 0, 1) := by decide +kernel
theorem dX12_load_76 : decode cX12_load 76 = .ok (.invokevirtual 532, 3) := by decide +kernel
theorem dX12_load_79 : decode cX12_load 79 = .ok (.aload_n 0, 1) := by decide +kernel
theorem dX12_load_80 : decode cX12_load 80 = .ok (.getfield 487, 3) := by decide +kernel
theorem dX12_load_83 : decode cX12_load 83 = .ok (.ifCond .ne 17, 3) := by decide +kernel
theorem dX12_load_86 : decode cX12_load 86 = .ok (.aload_n 0, 1) := by decide +kernel
theorem dX12_load_87 : decode cX12_load 87 = .ok (.getfield 471, 3) := by decide +kernel
theorem dX12_load_90 : decode cX12_load 90 = .ok (.ifCond .eq 10, 3) := by decide +kernel
theorem dX12_load_93 : decode cX12_load 93 = .ok (.aload_n 0, 1) := by decide +kernel
theorem dX12_load_94 : decode cX12_load 94 = .ok (.invokevirtual 536, 3) := by decide +kernel
theorem dX12_load_97 : decode cX12_load 97 = .ok (.goto (-18), 3) := by decide +kernel
theorem dX12_load_100 : decode cX12_load 100 = .ok (.aload_n 0, 1) := by decide +kernel
theorem dX12_load_101 : decode cX12_load 101 = .ok (.invokevirtual 539, 3) := by decide +kernel
theorem dX12_load_104 : decode cX12_load 104 = .ok (.aload_n 0, 1) := by decide +kernel
theorem dX12_load_105 : decode cX12_load 105 = .ok (.getfield 487, 3) := by decide +kernel
theorem dX12_load_108 : decode cX12_load 108 = .ok (.ifCond .le 31, 3) := by decide +kernel
theorem dX12_load_111 : decode cX12_load 111 = .ok (.iconst 0, 1) := by decide +kernel
theorem dX12_load_112 : decode cX12_load 112 = .ok (.istore_n 2, 1) := by decide +kernel
theorem dX12_load_113 : decode cX12_load 113 = .ok (.iload_n 2, 1) := by decide +kernel
theorem dX12_load_114 : decode cX12_load 114 = .ok (.bipush 104, 2) := by decide +kernel
theorem dX12_load_116 : decode cX12_load 116 = .ok (.if_icmp .ge 21, 3) := by decide +kernel
theorem dX12_load_119 : decode cX12_load 119 = .ok (.aload_n 0, 1) := by decide +kernel
theorem dX12_load_120 : decode cX12_load 120 = .ok (.getfield 7, 3) := by decide +kernel
theorem dX12_load_123 : decode cX12_load 123 = .ok (.iload_n 2, 1) := by decide +kernel
theorem dX12_load_124 : decode cX12_load 124 = .ok (.aload_n 0, 1) := by decide +kernel
theorem dX12_load_125 : decode cX12_load 125 = .ok (.getfield 13, 3) := by decide +kernel
theorem dX12_load_128 : decode cX12_load 128 = .ok (.iload_n 2, 1) := by decide +kernel
theorem dX12_load_129 : decode cX12_load 129 = .ok (.iaload, 1) := by decide +kernel
theorem dX12_load_130 : decode cX12_load 130 = .ok (.iastore, 1) := by decide +kernel
theorem dX12_load_131 : decode cX12_load 131 = .ok (.iinc 2 1, 3) := by decide +kernel
theorem dX12_load_134 : decode cX12_load 134 = .ok (.goto (-21), 3) := by decide +kernel
theorem dX12_load_137 : decode cX12_load 137 = .ok (.iconst (-1), 1) := by decide +kernel
theorem dX12_load_138 : decode cX12_load 138 = .ok (.ireturn, 1) := by decide +kernel
theorem dX12_load_139 : decode cX12_load 139 = .ok (.aload_n 0, 1) := by decide +kernel
theorem dX12_load_140 : decode cX12_load 140 = .ok (.invokevirtual 347, 3) := by decide +kernel
theorem dX12_load_143 : decode cX12_load 143 = .ok (.aload_n 0, 1) := by decide +kernel
theorem dX12_load_144 : decode cX12_load 144 = .ok (.getfield 124, 3) := by decide +kernel
theorem dX12_load_147 : decode cX12_load 147 = .ok (.ireturn, 1) := by decide +kernel
theorem dX12_fault_0 : decode cX12_fault 0 = .ok (.aload_n 0, 1) := by decide +kernel
theorem dX12_fault_1 : decode cX12_fault 1 = .ok (.iconst 0, 1) := by decide +kernel
theorem dX12_fault_2 : decode cX12_fault 2 = .ok (.putfield 114, 3) := by decide +kernel
theorem dX12_fault_5 : decode cX12_fault 5 = .ok (.iload_n 1, 1) := by decide +kernel
theorem dX12_fault_6 : decode cX12_fault 6 = .ok (.ifCond .ne 10, 3) := by decide +kernel
theorem dX12_fault_9 : decode cX12_fault 9 = .ok (.aload_n 0, 1) := by decide +kernel
theorem dX12_fault_10 : decode cX12_fault 10 = .ok (.getfield 79, 3) := by decide +kernel
theorem dX12_fault_13 : decode cX12_fault 13 = .ok (.goto 16, 3) := by decide +kernel
theorem dX12_fault_16 : decode cX12_fault 16 = .ok (.iload_n 1, 1) := by decide +kernel
theorem dX12_fault_17 : decode cX12_fault 17 = .ok (.iconst 1, 1) := by decide +kernel
theorem dX12_fault_18 : decode cX12_fault 18 = .ok (.if_icmp .ne 10, 3) := by decide +kernel
theorem dX12_fault_21 : decode cX12_fault 21 = .ok (.aload_n 0, 1) := by decide +kernel
theorem dX12_fault_22 : decode cX12_fault 22 = .ok (.getfield 83, 3) := by decide +kernel
theorem dX12_fault_25 : decode cX12_fault 25 = .ok (.goto 4, 3) := by decide +kernel
theorem dX12_fault_28 : decode cX12_fault 28 = .ok (.iconst (-1), 1) := by decide +kernel
theorem dX12_fault_29 : decode cX12_fault 29 = .ok (.ireturn, 1) := by decide +kernel
theorem dX12_needsNumber_0 : decode cX12_needsNumber 0 = .ok (.aload_n 0, 1) := by decide +kernel
theorem dX12_needsNumber_1 : decode cX12_needsNumber 1 = .ok (.aload_n 0, 1) := by decide +kernel
theorem dX12_needsNumber_2 : decode cX12_needsNumber 2 = .ok (.getfield 471, 3) := by decide +kernel
theorem dX12_needsNumber_5 : decode cX12_needsNumber 5 = .ok (.iconst 2, 1) := by decide +kernel
theorem dX12_needsNumber_6 : decode cX12_needsNumber 6 = .ok (.if_icmp .ne 7, 3) := by decide +kernel
theorem dX12_needsNumber_9 : decode cX12_needsNumber 9 = .ok (.iconst 1, 1) := by decide +kernel
theorem dX12_needsNumber_10 : decode cX12_needsNumber 10 = .ok (.goto 4, 3) := by decide +kernel
theorem dX12_needsNumber_13 : decode cX12_needsNumber 13 = .ok (.iconst 0, 1) := by decide +kernel
theorem dX12_needsNumber_14 : decode cX12_needsNumber 14 = .ok (.iconst 2, 1) := by decide +kernel
theorem dX12_needsNumber_15 : decode cX12_needsNumber 15 = .ok (.invokevirtual 493, 3) := by decide +kernel
theorem dX12_needsNumber_18 : decode cX12_needsNumber 18 = .ok (.aload_n 0, 1) := by decide +kernel
theorem dX12_needsNumber_19 : decode cX12_needsNumber 19 = .ok (.aload_n 0, 1) := by decide +kernel
theorem dX12_needsNumber_20 : decode cX12_needsNumber 20 = .ok (.getfield 481, 3) := by decide +kernel
theorem dX12_needsNumber_23 : decode cX12_needsNumber 23 = .ok (.iload_n 1, 1) := by decide +kernel
theorem dX12_needsNumber_24 : decode cX12_needsNumber 24 = .ok (.if_icmp .ge 7, 3) := by decide +kernel
theorem dX12_needsNumber_27 : decode cX12_needsNumber 27 = .ok (.iconst 1, 1) := by decide +kernel
theorem dX12_needsNumber_28 : decode cX12_needsNumber 28 = .ok (.goto 4, 3) := by decide +kernel
theorem dX12_needsNumber_31 : decode cX12_needsNumber 31 = .ok (.iconst 0, 1) := by decide +kernel
theorem dX12_needsNumber_32 : decode cX12_needsNumber 32 = .ok (.iconst 3, 1) := by decide +kernel
theorem dX12_needsNumber_33 : decode cX12_needsNumber 33 = .ok (.invokevirtual 493, 3) := by decide +kernel
theorem dX12_needsNumber_36 : decode cX12_needsNumber 36 = .ok (.return_, 1) := by decide +kernel
theorem dX12_readsTwo_0 : decode cX12_readsTwo 0 = .ok (.aload_n 0, 1) := by decide +kernel
theorem dX12_readsTwo_1 : decode cX12_readsTwo 1 = .ok (.aload_n 0, 1) := by decide +kernel
theorem dX12_readsTwo_2 : decode cX12_readsTwo 2 = .ok (.getfield 124, 3) := by decide +kernel
theorem dX12_readsTwo_5 : decode cX12_readsTwo 5 = .ok (.invokevirtual 542, 3) := by decide +kernel
theorem dX12_readsTwo_8 : decode cX12_readsTwo 8 = .ok (.aload_n 0, 1) := by decide +kernel
theorem dX12_readsTwo_9 : decode cX12_readsTwo 9 = .ok (.aload_n 0, 1) := by decide +kernel
theorem dX12_readsTwo_10 : decode cX12_readsTwo 10 = .ok (.getfield 487, 3) := by decide +kernel
theorem dX12_readsTwo_13 : decode cX12_readsTwo 13 = .ok (.ifCond .gt 15, 3) := by decide +kernel
theorem dX12_readsTwo_16 : decode cX12_readsTwo 16 = .ok (.aload_n 0, 1) := by decide +kernel
theorem dX12_readsTwo_17 : decode cX12_readsTwo 17 = .ok (.getfield 41, 3) := by decide +kernel
theorem dX12_readsTwo_20 : decode cX12_readsTwo 20 = .ok (.aload_n 0, 1) := by decide +kernel
theorem dX12_readsTwo_21 : decode cX12_readsTwo 21 = .ok (.getfield 481, 3) := by decide +kernel
theorem dX12_readsTwo_24 : decode cX12_readsTwo 24 = .ok (.iaload, 1) := by decide +kernel
theorem dX12_readsTwo_25 : decode cX12_readsTwo 25 = .ok (.ifCond .ge 7, 3) := by decide +kernel
theorem dX12_readsTwo_28 : decode cX12_readsTwo 28 = .ok (.iconst 1, 1) := by decide +kernel
theorem dX12_readsTwo_29 : decode cX12_readsTwo 29 = .ok (.goto 4, 3) := by decide +kernel
theorem dX12_readsTwo_32 : decode cX12_readsTwo 32 = .ok (.iconst 0, 1) := by decide +kernel
theorem dX12_readsTwo_33 : decode cX12_readsTwo 33 = .ok (.iconst 5, 1) := by decide +kernel
theorem dX12_readsTwo_34 : decode cX12_readsTwo 34 = .ok (.invokevirtual 493, 3) := by decide +kernel
theorem dX12_readsTwo_37 : decode cX12_readsTwo 37 = .ok (.aload_n 0, 1) := by decide +kernel
theorem dX12_readsTwo_38 : decode cX12_readsTwo 38 = .ok (.aload_n 0, 1) := by decide +kernel
theorem dX12_readsTwo_39 : decode cX12_readsTwo 39 = .ok (.getfield 545, 3) := by decide +kernel
theorem dX12_readsTwo_42 : decode cX12_readsTwo 42 = .ok (.aload_n 0, 1) := by decide +kernel
theorem dX12_readsTwo_43 : decode cX12_readsTwo 43 = .ok (.getfield 124, 3) := by decide +kernel
theorem dX12_readsTwo_46 : decode cX12_readsTwo 46 = .ok (.iconst 2, 1) := by decide +kernel
theorem dX12_readsTwo_47 : decode cX12_readsTwo 47 = .ok (.idiv, 1) := by decide +kernel
theorem dX12_readsTwo_48 : decode cX12_readsTwo 48 = .ok (.if_icmp .ge 7, 3) := by decide +kernel
theorem dX12_readsTwo_51 : decode cX12_readsTwo 51 = .ok (.iconst 1, 1) := by decide +kernel
theorem dX12_readsTwo_52 : decode cX12_readsTwo 52 = .ok (.goto 4, 3) := by decide +kernel
theorem dX12_readsTwo_55 : decode cX12_readsTwo 55 = .ok (.iconst 0, 1) := by decide +kernel
theorem dX12_readsTwo_56 : decode cX12_readsTwo 56 = .ok (.bipush 6, 2) := by decide +kernel
theorem dX12_readsTwo_58 : decode cX12_readsTwo 58 = .ok (.invokevirtual 493, 3) := by decide +kernel
theorem dX12_readsTwo_61 : decode cX12_readsTwo 61 = .ok (.aload_n 0, 1) := by decide +kernel
theorem dX12_readsTwo_62 : decode cX12_readsTwo 62 = .ok (.getfield 481, 3) := by decide +kernel
theorem dX12_readsTwo_65 : decode cX12_readsTwo 65 = .ok (.istore_n 1, 1) := by decide +kernel
theorem dX12_readsTwo_66 : decode cX12_readsTwo 66 = .ok (.aload_n 0, 1) := by decide +kernel
theorem dX12_readsTwo_67 : decode cX12_readsTwo 67 = .ok (.getfield 487, 3) := by decide +kernel
theorem dX12_readsTwo_70 : decode cX12_readsTwo 70 = .ok (.ifCond .ne 7, 3) := by decide +kernel
theorem dX12_readsTwo_73 : decode cX12_readsTwo 73 = .ok (.aload_n 0, 1) := by decide +kernel
theorem dX12_readsTwo_74 : decode cX12_readsTwo 74 = .ok (.invokevirtual 497, 3) := by decide +kernel
theorem dX12_readsTwo_77 : decode cX12_readsTwo 77 = .ok (.aload_n 0, 1) := by decide +kernel
theorem dX12_readsTwo_78 : decode cX12_readsTwo 78 = .ok (.aload_n 0, 1) := by decide +kernel
theorem dX12_readsTwo_79 : decode cX12_readsTwo 79 = .ok (.bipush 45, 2) := by decide +kernel
theorem dX12_readsTwo_81 : decode cX12_readsTwo 81 = .ok (.invokevirtual 520, 3) := by decide +kernel
theorem dX12_readsTwo_84 : decode cX12_readsTwo 84 = .ok (.invokevirtual 506, 3) := by decide +kernel
theorem dX12_readsTwo_87 : decode cX12_readsTwo 87 = .ok (.aload_n 0, 1) := by decide +kernel
theorem dX12_readsTwo_88 : decode cX12_readsTwo 88 = .ok (.aload_n 0, 1) := by decide +kernel
theorem dX12_readsTwo_89 : decode cX12_readsTwo 89 = .ok (.getfield 124, 3) := by decide +kernel
theorem dX12_readsTwo_92 : decode cX12_readsTwo 92 = .ok (.invokevirtual 542, 3) := by decide +kernel
theorem dX12_readsTwo_95 : decode cX12_readsTwo 95 = .ok (.aload_n 0, 1) := by decide +kernel
theorem dX12_readsTwo_96 : decode cX12_readsTwo 96 = .ok (.aload_n 0, 1) := by decide +kernel
theorem dX12_readsTwo_97 : decode cX12_readsTwo 97 = .ok (.getfield 487, 3) := by decide +kernel
theorem dX12_readsTwo_100 : decode cX12_readsTwo 100 = .ok (.ifCond .gt 15, 3) := by decide +kernel
theorem dX12_readsTwo_103 : decode cX12_readsTwo 103 = .ok (.aload_n 0, 1) := by decide +kernel
theorem dX12_readsTwo_104 : decode cX12_readsTwo 104 = .ok (.iload_n 1, 1) := by decide +kernel
theorem dX12_readsTwo_105 : decode cX12_readsTwo 105 = .ok (.aload_n 0, 1) := by decide +kernel
theorem dX12_readsTwo_106 : decode cX12_readsTwo 106 = .ok (.getfield 481, 3) := by decide +kernel
theorem dX12_readsTwo_109 : decode cX12_readsTwo 109 = .ok (.invokevirtual 184, 3) := by decide +kernel
theorem dX12_readsTwo_112 : decode cX12_readsTwo 112 = .ok (.ifCond .eq 7, 3) := by decide +kernel
theorem dX12_readsTwo_115 : decode cX12_readsTwo 115 = .ok (.iconst 1, 1) := by decide +kernel
theorem dX12_readsTwo_116 : decode cX12_readsTwo 116 = .ok (.goto 4, 3) := by decide +kernel
theorem dX12_readsTwo_119 : decode cX12_readsTwo 119 = .ok (.iconst 0, 1) := by decide +kernel
theorem dX12_readsTwo_120 : decode cX12_readsTwo 120 = .ok (.iconst 4, 1) := by decide +kernel
theorem dX12_readsTwo_121 : decode cX12_readsTwo 121 = .ok (.invokevirtual 493, 3) := by decide +kernel
theorem dX12_readsTwo_124 : decode cX12_readsTwo 124 = .ok (.aload_n 0, 1) := by decide +kernel
theorem dX12_readsTwo_125 : decode cX12_readsTwo 125 = .ok (.aload_n 0, 1) := by decide +kernel
theorem dX12_readsTwo_126 : decode cX12_readsTwo 126 = .ok (.getfield 487, 3) := by decide +kernel
theorem dX12_readsTwo_129 : decode cX12_readsTwo 129 = .ok (.ifCond .gt 15, 3) := by decide +kernel
theorem dX12_readsTwo_132 : decode cX12_readsTwo 132 = .ok (.aload_n 0, 1) := by decide +kernel
theorem dX12_readsTwo_133 : decode cX12_readsTwo 133 = .ok (.getfield 41, 3) := by decide +kernel
theorem dX12_readsTwo_136 : decode cX12_readsTwo 136 = .ok (.aload_n 0, 1) := by decide +kernel
theorem dX12_readsTwo_137 : decode cX12_readsTwo 137 = .ok (.getfield 481, 3) := by decide +kernel
theorem dX12_readsTwo_140 : decode cX12_readsTwo 140 = .ok (.iaload, 1) := by decide +kernel
theorem dX12_readsTwo_141 : decode cX12_readsTwo 141 = .ok (.ifCond .ge 7, 3) := by decide +kernel
theorem dX12_readsTwo_144 : decode cX12_readsTwo 144 = .ok (.iconst 1, 1) := by decide +kernel
theorem dX12_readsTwo_145 : decode cX12_readsTwo 145 = .ok (.goto 4, 3) := by decide +kernel
theorem dX12_readsTwo_148 : decode cX12_readsTwo 148 = .ok (.iconst 0, 1) := by decide +kernel
theorem dX12_readsTwo_149 : decode cX12_readsTwo 149 = .ok (.iconst 5, 1) := by decide +kernel
theorem dX12_readsTwo_150 : decode cX12_readsTwo 150 = .ok (.invokevirtual 493, 3) := by decide +kernel
theorem dX12_readsTwo_153 : decode cX12_readsTwo 153 = .ok (.aload_n 0, 1) := by decide +kernel
theorem dX12_readsTwo_154 : decode cX12_readsTwo 154 = .ok (.getfield 487, 3) := by decide +kernel
theorem dX12_readsTwo_157 : decode cX12_readsTwo 157 = .ok (.ifCond .le 4, 3) := by decide +kernel
theorem dX12_readsTwo_160 : decode cX12_readsTwo 160 = .ok (.return_, 1) := by decide +kernel
theorem dX12_readsTwo_161 : decode cX12_readsTwo 161 = .ok (.aload_n 0, 1) := by decide +kernel
theorem dX12_readsTwo_162 : decode cX12_readsTwo 162 = .ok (.getfield 41, 3) := by decide +kernel
theorem dX12_readsTwo_165 : decode cX12_readsTwo 165 = .ok (.iload_n 1, 1) := by decide +kernel
theorem dX12_readsTwo_166 : decode cX12_readsTwo 166 = .ok (.aload_n 0, 1) := by decide +kernel
theorem dX12_readsTwo_167 : decode cX12_readsTwo 167 = .ok (.getfield 481, 3) := by decide +kernel
theorem dX12_readsTwo_170 : decode cX12_readsTwo 170 = .ok (.iastore, 1) := by decide +kernel
theorem dX12_readsTwo_171 : decode cX12_readsTwo 171 = .ok (.aload_n 0, 1) := by decide +kernel
theorem dX12_readsTwo_172 : decode cX12_readsTwo 172 = .ok (.getfield 41, 3) := by decide +kernel
theorem dX12_readsTwo_175 : decode cX12_readsTwo 175 = .ok (.aload_n 0, 1) := by decide +kernel
theorem dX12_readsTwo_176 : decode cX12_readsTwo 176 = .ok (.getfield 481, 3) := by decide +kernel
theorem dX12_readsTwo_179 : decode cX12_readsTwo 179 = .ok (.iload_n 1, 1) := by decide +kernel
theorem dX12_readsTwo_180 : decode cX12_readsTwo 180 = .ok (.iastore, 1) := by decide +kernel
theorem dX12_readsTwo_181 : decode cX12_readsTwo 181 = .ok (.aload_n 0, 1) := by decide +kernel
theorem dX12_readsTwo_182 : decode cX12_readsTwo 182 = .ok (.dup, 1) := by decide +kernel
theorem dX12_readsTwo_183 : decode cX12_readsTwo 183 = .ok (.getfield 545, 3) := by decide +kernel
theorem dX12_readsTwo_186 : decode cX12_readsTwo 186 = .ok (.iconst 1, 1) := by decide +kernel
theorem dX12_readsTwo_187 : decode cX12_readsTwo 187 = .ok (.iadd, 1) := by decide +kernel
theorem dX12_readsTwo_188 : decode cX12_readsTwo 188 = .ok (.putfield 545, 3) := by decide +kernel
theorem dX12_readsTwo_191 : decode cX12_readsTwo 191 = .ok (.aload_n 0, 1) := by decide +kernel
theorem dX12_readsTwo_192 : decode cX12_readsTwo 192 = .ok (.invokevirtual 497, 3) := by decide +kernel
theorem dX12_readsTwo_195 : decode cX12_readsTwo 195 = .ok (.aload_n 0, 1) := by decide +kernel
theorem dX12_readsTwo_196 : decode cX12_readsTwo 196 = .ok (.aload_n 0, 1) := by decide +kernel
theorem dX12_readsTwo_197 : decode cX12_readsTwo 197 = .ok (.bipush 59, 2) := by decide +kernel
theorem dX12_readsTwo_199 : decode cX12_readsTwo 199 = .ok (.invokevirtual 520, 3) := by decide +kernel
theorem dX12_readsTwo_202 : decode cX12_readsTwo 202 = .ok (.invokevirtual 506, 3) := by decide +kernel
theorem dX12_readsTwo_205 : decode cX12_readsTwo 205 = .ok (.return_, 1) := by decide +kernel
theorem dX12_whichPairing_0 : decode cX12_whichPairing 0 = .ok (.aload_n 0, 1) := by decide +kernel
theorem dX12_whichPairing_1 : decode cX12_whichPairing 1 = .ok (.invokevirtual 194, 3) := by decide +kernel
theorem dX12_whichPairing_4 : decode cX12_whichPairing 4 = .ok (.iconst 0, 1) := by decide +kernel
theorem dX12_whichPairing_5 : decode cX12_whichPairing 5 = .ok (.istore_n 1, 1) := by decide +kernel
theorem dX12_whichPairing_6 : decode cX12_whichPairing 6 = .ok (.iload_n 1, 1) := by decide +kernel
theorem dX12_whichPairing_7 : decode cX12_whichPairing 7 = .ok (.aload_n 0, 1) := by decide +kernel
theorem dX12_whichPairing_8 : decode cX12_whichPairing 8 = .ok (.getfield 172, 3) := by decide +kernel
theorem dX12_whichPairing_11 : decode cX12_whichPairing 11 = .ok (.if_icmp .ge 58, 3) := by decide +kernel
theorem dX12_whichPairing_14 : decode cX12_whichPairing 14 = .ok (.iconst 1, 1) := by decide +kernel
theorem dX12_whichPairing_15 : decode cX12_whichPairing 15 = .ok (.istore_n 2, 1) := by decide +kernel
theorem dX12_whichPairing_16 : decode cX12_whichPairing 16 = .ok (.iconst 0, 1) := by decide +kernel
theorem dX12_whichPairing_17 : decode cX12_whichPairing 17 = .ok (.istore_n 3, 1) := by decide +kernel
theorem dX12_whichPairing_18 : decode cX12_whichPairing 18 = .ok (.iload_n 3, 1) := by decide +kernel
theorem dX12_whichPairing_19 : decode cX12_whichPairing 19 = .ok (.aload_n 0, 1) := by decide +kernel
theorem dX12_whichPairing_20 : decode cX12_whichPairing 20 = .ok (.getfield 124, 3) := by decide +kernel
theorem dX12_whichPairing_23 : decode cX12_whichPairing 23 = .ok (.if_icmp .ge 34, 3) := by decide +kernel
theorem dX12_whichPairing_26 : decode cX12_whichPairing 26 = .ok (.iload_n 2, 1) := by decide +kernel
theorem dX12_whichPairing_27 : decode cX12_whichPairing 27 = .ok (.ifCond .eq 30, 3) := by decide +kernel
theorem dX12_whichPairing_30 : decode cX12_whichPairing 30 = .ok (.aload_n 0, 1) := by decide +kernel
theorem dX12_whichPairing_31 : decode cX12_whichPairing 31 = .ok (.iload_n 1, 1) := by decide +kernel
theorem dX12_whichPairing_32 : decode cX12_whichPairing 32 = .ok (.iload_n 3, 1) := by decide +kernel
theorem dX12_whichPairing_33 : decode cX12_whichPairing 33 = .ok (.invokevirtual 200, 3) := by decide +kernel
theorem dX12_whichPairing_36 : decode cX12_whichPairing 36 = .ok (.aload_n 0, 1) := by decide +kernel
theorem dX12_whichPairing_37 : decode cX12_whichPairing 37 = .ok (.getfield 105, 3) := by decide +kernel
theorem dX12_whichPairing_40 : decode cX12_whichPairing 40 = .ok (.iload_n 3, 1) := by decide +kernel
theorem dX12_whichPairing_41 : decode cX12_whichPairing 41 = .ok (.iaload, 1) := by decide +kernel
theorem dX12_whichPairing_42 : decode cX12_whichPairing 42 = .ok (.if_icmp .ne 7, 3) := by decide +kernel
theorem dX12_whichPairing_45 : decode cX12_whichPairing 45 = .ok (.iconst 1, 1) := by decide +kernel
theorem dX12_whichPairing_46 : decode cX12_whichPairing 46 = .ok (.goto 4, 3) := by decide +kernel
theorem dX12_whichPairing_49 : decode cX12_whichPairing 49 = .ok (.iconst 0, 1) := by decide +kernel
theorem dX12_whichPairing_50 : decode cX12_whichPairing 50 = .ok (.istore_n 2, 1) := by decide +kernel
theorem dX12_whichPairing_51 : decode cX12_whichPairing 51 = .ok (.iinc 3 1, 3) := by decide +kernel
theorem dX12_whichPairing_54 : decode cX12_whichPairing 54 = .ok (.goto (-36), 3) := by decide +kernel
theorem dX12_whichPairing_57 : decode cX12_whichPairing 57 = .ok (.iload_n 2, 1) := by decide +kernel
theorem dX12_whichPairing_58 : decode cX12_whichPairing 58 = .ok (.ifCond .eq 5, 3) := by decide +kernel
theorem dX12_whichPairing_61 : decode cX12_whichPairing 61 = .ok (.iload_n 1, 1) := by decide +kernel
theorem dX12_whichPairing_62 : decode cX12_whichPairing 62 = .ok (.ireturn, 1) := by decide +kernel
theorem dX12_whichPairing_63 : decode cX12_whichPairing 63 = .ok (.iinc 1 1, 3) := by decide +kernel
theorem dX12_whichPairing_66 : decode cX12_whichPairing 66 = .ok (.goto (-60), 3) := by decide +kernel
theorem dX12_whichPairing_69 : decode cX12_whichPairing 69 = .ok (.iconst (-1), 1) := by decide +kernel
theorem dX12_whichPairing_70 : decode cX12_whichPairing 70 = .ok (.ireturn, 1) := by decide +kernel
theorem dX12_pairs_0 : decode cX12_pairs 0 = .ok (.aload_n 0, 1) := by decide +kernel
theorem dX12_pairs_1 : decode cX12_pairs 1 = .ok (.iload_n 1, 1) := by decide +kernel
theorem dX12_pairs_2 : decode cX12_pairs 2 = .ok (.iconst 0, 1) := by decide +kernel
theorem dX12_pairs_3 : decode cX12_pairs 3 = .ok (.aload_n 0, 1) := by decide +kernel
theorem dX12_pairs_4 : decode cX12_pairs 4 = .ok (.getfield 447, 3) := by decide +kernel
theorem dX12_pairs_7 : decode cX12_pairs 7 = .ok (.invokestatic 140, 3) := by decide +kernel
theorem dX12_pairs_10 : decode cX12_pairs 10 = .ok (.ifCond .eq 7, 3) := by decide +kernel
theorem dX12_pairs_13 : decode cX12_pairs 13 = .ok (.iconst 0, 1) := by decide +kernel
theorem dX12_pairs_14 : decode cX12_pairs 14 = .ok (.goto 4, 3) := by decide +kernel
theorem dX12_pairs_17 : decode cX12_pairs 17 = .ok (.iconst 1, 1) := by decide +kernel
theorem dX12_pairs_18 : decode cX12_pairs 18 = .ok (.invokevirtual 310, 3) := by decide +kernel
theorem dX12_pairs_21 : decode cX12_pairs 21 = .ok (.ifCond .ne 5, 3) := by decide +kernel
theorem dX12_pairs_24 : decode cX12_pairs 24 = .ok (.iconst (-1), 1) := by decide +kernel
theorem dX12_pairs_25 : decode cX12_pairs 25 = .ok (.ireturn, 1) := by decide +kernel
theorem dX12_pairs_26 : decode cX12_pairs 26 = .ok (.aload_n 0, 1) := by decide +kernel
theorem dX12_pairs_27 : decode cX12_pairs 27 = .ok (.iconst 0, 1) := by decide +kernel
theorem dX12_pairs_28 : decode cX12_pairs 28 = .ok (.invokevirtual 190, 3) := by decide +kernel
theorem dX12_pairs_31 : decode cX12_pairs 31 = .ok (.aload_n 0, 1) := by decide +kernel
theorem dX12_pairs_32 : decode cX12_pairs 32 = .ok (.iconst 0, 1) := by decide +kernel
theorem dX12_pairs_33 : decode cX12_pairs 33 = .ok (.putfield 545, 3) := by decide +kernel
theorem dX12_pairs_36 : decode cX12_pairs 36 = .ok (.aload_n 0, 1) := by decide +kernel
theorem dX12_pairs_37 : decode cX12_pairs 37 = .ok (.iload_n 1, 1) := by decide +kernel
theorem dX12_pairs_38 : decode cX12_pairs 38 = .ok (.iconst 1, 1) := by decide +kernel
theorem dX12_pairs_39 : decode cX12_pairs 39 = .ok (.invokevirtual 532, 3) := by decide +kernel
theorem dX12_pairs_42 : decode cX12_pairs 42 = .ok (.aload_n 0, 1) := by decide +kernel
theorem dX12_pairs_43 : decode cX12_pairs 43 = .ok (.getfield 487, 3) := by decide +kernel
theorem dX12_pairs_46 : decode cX12_pairs 46 = .ok (.ifCond .ne 17, 3) := by decide +kernel
theorem dX12_pairs_49 : decode cX12_pairs 49 = .ok (.aload_n 0, 1) := by decide +kernel
theorem dX12_pairs_50 : decode cX12_pairs 50 = .ok (.getfield 471, 3) := by decide +kernel
theorem dX12_pairs_53 : decode cX12_pairs 53 = .ok (.ifCond .eq 10, 3) := by decide +kernel
theorem dX12_pairs_56 : decode cX12_pairs 56 = .ok (.aload_n 0, 1) := by decide +kernel
theorem dX12_pairs_57 : decode cX12_pairs 57 = .ok (.invokevirtual 548, 3) := by decide +kernel
theorem dX12_pairs_60 : decode cX12_pairs 60 = .ok (.goto (-18), 3) := by decide +kernel
theorem dX12_pairs_63 : decode cX12_pairs 63 = .ok (.aload_n 0, 1) := by decide +kernel
theorem dX12_pairs_64 : decode cX12_pairs 64 = .ok (.invokevirtual 539, 3) := by decide +kernel
theorem dX12_pairs_67 : decode cX12_pairs 67 = .ok (.aload_n 0, 1) := by decide +kernel
theorem dX12_pairs_68 : decode cX12_pairs 68 = .ok (.getfield 487, 3) := by decide +kernel
theorem dX12_pairs_71 : decode cX12_pairs 71 = .ok (.ifCond .le 5, 3) := by decide +kernel
theorem dX12_pairs_74 : decode cX12_pairs 74 = .ok (.iconst (-1), 1) := by decide +kernel
theorem dX12_pairs_75 : decode cX12_pairs 75 = .ok (.ireturn, 1) := by decide +kernel
theorem dX12_pairs_76 : decode cX12_pairs 76 = .ok (.iconst 2, 1) := by decide +kernel
theorem dX12_pairs_77 : decode cX12_pairs 77 = .ok (.aload_n 0, 1) := by decide +kernel
theorem dX12_pairs_78 : decode cX12_pairs 78 = .ok (.getfield 545, 3) := by decide +kernel
theorem dX12_pairs_81 : decode cX12_pairs 81 = .ok (.imul, 1) := by decide +kernel
theorem dX12_pairs_82 : decode cX12_pairs 82 = .ok (.aload_n 0, 1) := by decide +kernel
theorem dX12_pairs_83 : decode cX12_pairs 83 = .ok (.getfield 124, 3) := by decide +kernel
theorem dX12_pairs_86 : decode cX12_pairs 86 = .ok (.if_icmp .ge 9, 3) := by decide +kernel
theorem dX12_pairs_89 : decode cX12_pairs 89 = .ok (.aload_n 0, 1) := by decide +kernel
theorem dX12_pairs_90 : decode cX12_pairs 90 = .ok (.iconst 5, 1) := by decide +kernel
theorem dX12_pairs_91 : decode cX12_pairs 91 = .ok (.invokevirtual 426, 3) := by decide +kernel
theorem dX12_pairs_94 : decode cX12_pairs 94 = .ok (.ireturn, 1) := by decide +kernel
theorem dX12_pairs_95 : decode cX12_pairs 95 = .ok (.iconst 0, 1) := by decide +kernel
theorem dX12_pairs_96 : decode cX12_pairs 96 = .ok (.istore_n 2, 1) := by decide +kernel
theorem dX12_pairs_97 : decode cX12_pairs 97 = .ok (.iload_n 2, 1) := by decide +kernel
theorem dX12_pairs_98 : decode cX12_pairs 98 = .ok (.aload_n 0, 1) := by decide +kernel
theorem dX12_pairs_99 : decode cX12_pairs 99 = .ok (.getfield 124, 3) := by decide +kernel
theorem dX12_pairs_102 : decode cX12_pairs 102 = .ok (.if_icmp .ge 21, 3) := by decide +kernel
theorem dX12_pairs_105 : decode cX12_pairs 105 = .ok (.aload_n 0, 1) := by decide +kernel
theorem dX12_pairs_106 : decode cX12_pairs 106 = .ok (.getfield 105, 3) := by decide +kernel
theorem dX12_pairs_109 : decode cX12_pairs 109 = .ok (.iload_n 2, 1) := by decide +kernel
theorem dX12_pairs_110 : decode cX12_pairs 110 = .ok (.aload_n 0, 1) := by decide +kernel
theorem dX12_pairs_111 : decode cX12_pairs 111 = .ok (.getfield 41, 3) := by decide +kernel
theorem dX12_pairs_114 : decode cX12_pairs 114 = .ok (.iload_n 2, 1) := by decide +kernel
theorem dX12_pairs_115 : decode cX12_pairs 115 = .ok (.iaload, 1) := by decide +kernel
theorem dX12_pairs_116 : decode cX12_pairs 116 = .ok (.iastore, 1) := by decide +kernel
theorem dX12_pairs_117 : decode cX12_pairs 117 = .ok (.iinc 2 1, 3) := by decide +kernel
theorem dX12_pairs_120 : decode cX12_pairs 120 = .ok (.goto (-23), 3) := by decide +kernel
theorem dX12_pairs_123 : decode cX12_pairs 123 = .ok (.aload_n 0, 1) := by decide +kernel
theorem dX12_pairs_124 : decode cX12_pairs 124 = .ok (.invokevirtual 551, 3) := by decide +kernel
theorem dX12_pairs_127 : decode cX12_pairs 127 = .ok (.ireturn, 1) := by decide +kernel
theorem dX12_sortHere_0 : decode cX12_sortHere 0 = .ok (.iconst 0, 1) := by decide +kernel
theorem dX12_sortHere_1 : decode cX12_sortHere 1 = .ok (.istore_n 1, 1) := by decide +kernel
theorem dX12_sortHere_2 : decode cX12_sortHere 2 = .ok (.iload_n 1, 1) := by decide +kernel
theorem dX12_sortHere_3 : decode cX12_sortHere 3 = .ok (.aload_n 0, 1) := by decide +kernel
theorem dX12_sortHere_4 : decode cX12_sortHere 4 = .ok (.getfield 7, 3) := by decide +kernel
theorem dX12_sortHere_7 : decode cX12_sortHere 7 = .ok (.iconst 0, 1) := by decide +kernel
theorem dX12_sortHere_8 : decode cX12_sortHere 8 = .ok (.iaload, 1) := by decide +kernel
theorem dX12_sortHere_9 : decode cX12_sortHere 9 = .ok (.if_icmp .ge 38, 3) := by decide +kernel
theorem dX12_sortHere_12 : decode cX12_sortHere 12 = .ok (.aload_n 0, 1) := by decide +kernel
theorem dX12_sortHere_13 : decode cX12_sortHere 13 = .ok (.getfield 484, 3) := by decide +kernel
theorem dX12_sortHere_16 : decode cX12_sortHere 16 = .ok (.iconst 1, 1) := by decide +kernel
theorem dX12_sortHere_17 : decode cX12_sortHere 17 = .ok (.if_icmp .ne 24, 3) := by decide +kernel
theorem dX12_sortHere_20 : decode cX12_sortHere 20 = .ok (.aload_n 0, 1) := by decide +kernel
theorem dX12_sortHere_21 : decode cX12_sortHere 21 = .ok (.getfield 474, 3) := by decide +kernel
theorem dX12_sortHere_24 : decode cX12_sortHere 24 = .ok (.aload_n 0, 1) := by decide +kernel
theorem dX12_sortHere_25 : decode cX12_sortHere 25 = .ok (.getfield 7, 3) := by decide +kernel
theorem dX12_sortHere_28 : decode cX12_sortHere 28 = .ok (.iconst 4, 1) := by decide +kernel
theorem dX12_sortHere_29 : decode cX12_sortHere 29 = .ok (.iconst 3, 1) := by decide +kernel
theorem dX12_sortHere_30 : decode cX12_sortHere 30 = .ok (.iload_n 1, 1) := by decide +kernel
theorem dX12_sortHere_31 : decode cX12_sortHere 31 = .ok (.imul, 1) := by decide +kernel
theorem dX12_sortHere_32 : decode cX12_sortHere 32 = .ok (.iadd, 1) := by decide +kernel
theorem dX12_sortHere_33 : decode cX12_sortHere 33 = .ok (.iaload, 1) := by decide +kernel
theorem dX12_sortHere_34 : decode cX12_sortHere 34 = .ok (.i2l, 1) := by decide +kernel
theorem dX12_sortHere_35 : decode cX12_sortHere 35 = .ok (.lcmp, 1) := by decide +kernel
theorem dX12_sortHere_36 : decode cX12_sortHere 36 = .ok (.ifCond .ne 5, 3) := by decide +kernel
theorem dX12_sortHere_39 : decode cX12_sortHere 39 = .ok (.iload_n 1, 1) := by decide +kernel
theorem dX12_sortHere_40 : decode cX12_sortHere 40 = .ok (.ireturn, 1) := by decide +kernel
theorem dX12_sortHere_41 : decode cX12_sortHere 41 = .ok (.iinc 1 1, 3) := by decide +kernel
theorem dX12_sortHere_44 : decode cX12_sortHere 44 = .ok (.goto (-42), 3) := by decide +kernel
theorem dX12_sortHere_47 : decode cX12_sortHere 47 = .ok (.iconst 0, 1) := by decide +kernel
theorem dX12_sortHere_48 : decode cX12_sortHere 48 = .ok (.istore_n 1, 1) := by decide +kernel
theorem dX12_sortHere_49 : decode cX12_sortHere 49 = .ok (.iload_n 1, 1) := by decide +kernel
theorem dX12_sortHere_50 : decode cX12_sortHere 50 = .ok (.aload_n 0, 1) := by decide +kernel
theorem dX12_sortHere_51 : decode cX12_sortHere 51 = .ok (.getfield 7, 3) := by decide +kernel
theorem dX12_sortHere_54 : decode cX12_sortHere 54 = .ok (.iconst 1, 1) := by decide +kernel
theorem dX12_sortHere_55 : decode cX12_sortHere 55 = .ok (.iaload, 1) := by decide +kernel
theorem dX12_sortHere_56 : decode cX12_sortHere 56 = .ok (.if_icmp .ge 79, 3) := by decide +kernel
theorem dX12_sortHere_59 : decode cX12_sortHere 59 = .ok (.aload_n 0, 1) := by decide +kernel
theorem dX12_sortHere_60 : decode cX12_sortHere 60 = .ok (.getfield 484, 3) := by decide +kernel
theorem dX12_sortHere_63 : decode cX12_sortHere 63 = .ok (.iconst 2, 1) := by decide +kernel
theorem dX12_sortHere_64 : decode cX12_sortHere 64 = .ok (.if_icmp .ne 65, 3) := by decide +kernel
theorem dX12_sortHere_67 : decode cX12_sortHere 67 = .ok (.aload_n 0, 1) := by decide +kernel
theorem dX12_sortHere_68 : decode cX12_sortHere 68 = .ok (.getfield 474, 3) := by decide +kernel
theorem dX12_sortHere_71 : decode cX12_sortHere 71 = .ok (.ldc2_w 477, 3) := by decide +kernel
theorem dX12_sortHere_74 : decode cX12_sortHere 74 = .ok (.aload_n 0, 1) := by decide +kernel
theorem dX12_sortHere_75 : decode cX12_sortHere 75 = .ok (.getfield 7, 3) := by decide +kernel
theorem dX12_sortHere_78 : decode cX12_sortHere 78 = .ok (.iconst 4, 1) := by decide +kernel
theorem dX12_sortHere_79 : decode cX12_sortHere 79 = .ok (.iconst 3, 1) := by decide +kernel
theorem dX12_sortHere_80 : decode cX12_sortHere 80 = .ok (.aload_n 0, 1) := by decide +kernel
theorem dX12_sortHere_81 : decode cX12_sortHere 81 = .ok (.getfield 7, 3) := by decide +kernel
theorem dX12_sortHere_84 : decode cX12_sortHere 84 = .ok (.bipush 24, 2) := by decide +kernel
theorem dX12_sortHere_86 : decode cX12_sortHere 86 = .ok (.iconst 2, 1) := by decide +kernel
theorem dX12_sortHere_87 : decode cX12_sortHere 87 = .ok (.iload_n 1, 1) := by decide +kernel
theorem dX12_sortHere_88 : decode cX12_sortHere 88 = .ok (.imul, 1) := by decide +kernel
theorem dX12_sortHere_89 : decode cX12_sortHere 89 = .ok (.iadd, 1) := by decide +kernel
theorem dX12_sortHere_90 : decode cX12_sortHere 90 = .ok (.iaload, 1) := by decide +kernel
theorem dX12_sortHere_91 : decode cX12_sortHere 91 = .ok (.imul, 1) := by decide +kernel
theorem dX12_sortHere_92 : decode cX12_sortHere 92 = .ok (.iadd, 1) := by decide +kernel
theorem dX12_sortHere_93 : decode cX12_sortHere 93 = .ok (.iaload, 1) := by decide +kernel
theorem dX12_sortHere_94 : decode cX12_sortHere 94 = .ok (.i2l, 1) := by decide +kernel
theorem dX12_sortHere_95 : decode cX12_sortHere 95 = .ok (.lmul, 1) := by decide +kernel
theorem dX12_sortHere_96 : decode cX12_sortHere 96 = .ok (.aload_n 0, 1) := by decide +kernel
theorem dX12_sortHere_97 : decode cX12_sortHere 97 = .ok (.getfield 7, 3) := by decide +kernel
theorem dX12_sortHere_100 : decode cX12_sortHere 100 = .ok (.iconst 4, 1) := by decide +kernel
theorem dX12_sortHere_101 : decode cX12_sortHere 101 = .ok (.iconst 3, 1) := by decide +kernel
theorem dX12_sortHere_102 : decode cX12_sortHere 102 = .ok (.aload_n 0, 1) := by decide +kernel
theorem dX12_sortHere_103 : decode cX12_sortHere 103 = .ok (.getfield 7, 3) := by decide +kernel
theorem dX12_sortHere_106 : decode cX12_sortHere 106 = .ok (.bipush 24, 2) := by decide +kernel
theorem dX12_sortHere_108 : decode cX12_sortHere 108 = .ok (.iconst 2, 1) := by decide +kernel
theorem dX12_sortHere_109 : decode cX12_sortHere 109 = .ok (.iload_n 1, 1) := by decide +kernel
theorem dX12_sortHere_110 : decode cX12_sortHere 110 = .ok (.imul, 1) := by decide +kernel
theorem dX12_sortHere_111 : decode cX12_sortHere 111 = .ok (.iadd, 1) := by decide +kernel
theorem dX12_sortHere_112 : decode cX12_sortHere 112 = .ok (.iconst 1, 1) := by decide +kernel
theorem dX12_sortHere_113 : decode cX12_sortHere 113 = .ok (.iadd, 1) := by decide +kernel
theorem dX12_sortHere_114 : decode cX12_sortHere 114 = .ok (.iaload, 1) := by decide +kernel
theorem dX12_sortHere_115 : decode cX12_sortHere 115 = .ok (.imul, 1) := by decide +kernel
theorem dX12_sortHere_116 : decode cX12_sortHere 116 = .ok (.iadd, 1) := by decide +kernel
theorem dX12_sortHere_117 : decode cX12_sortHere 117 = .ok (.iaload, 1) := by decide +kernel
theorem dX12_sortHere_118 : decode cX12_sortHere 118 = .ok (.i2l, 1) := by decide +kernel
theorem dX12_sortHere_119 : decode cX12_sortHere 119 = .ok (.ladd, 1) := by decide +kernel
theorem dX12_sortHere_120 : decode cX12_sortHere 120 = .ok (.lcmp, 1) := by decide +kernel
theorem dX12_sortHere_121 : decode cX12_sortHere 121 = .ok (.ifCond .ne 8, 3) := by decide +kernel
theorem dX12_sortHere_124 : decode cX12_sortHere 124 = .ok (.bipush 6, 2) := by decide +kernel
theorem dX12_sortHere_126 : decode cX12_sortHere 126 = .ok (.iload_n 1, 1) := by decide +kernel
theorem dX12_sortHere_127 : decode cX12_sortHere 127 = .ok (.iadd, 1) := by decide +kernel
theorem dX12_sortHere_128 : decode cX12_sortHere 128 = .ok (.ireturn, 1) := by decide +kernel
theorem dX12_sortHere_129 : decode cX12_sortHere 129 = .ok (.iinc 1 1, 3) := by decide +kernel
theorem dX12_sortHere_132 : decode cX12_sortHere 132 = .ok (.goto (-83), 3) := by decide +kernel
theorem dX12_sortHere_135 : decode cX12_sortHere 135 = .ok (.iconst (-1), 1) := by decide +kernel
theorem dX12_sortHere_136 : decode cX12_sortHere 136 = .ok (.ireturn, 1) := by decide +kernel
theorem dX12_readsLine_0 : decode cX12_readsLine 0 = .ok (.aload_n 0, 1) := by decide +kernel
theorem dX12_readsLine_1 : decode cX12_readsLine 1 = .ok (.aload_n 0, 1) := by decide +kernel
theorem dX12_readsLine_2 : decode cX12_readsLine 2 = .ok (.getfield 7, 3) := by decide +kernel
theorem dX12_readsLine_5 : decode cX12_readsLine 5 = .ok (.iconst 2, 1) := by decide +kernel
theorem dX12_readsLine_6 : decode cX12_readsLine 6 = .ok (.iaload, 1) := by decide +kernel
theorem dX12_readsLine_7 : decode cX12_readsLine 7 = .ok (.invokevirtual 542, 3) := by decide +kernel
theorem dX12_readsLine_10 : decode cX12_readsLine 10 = .ok (.aload_n 0, 1) := by decide +kernel
theorem dX12_readsLine_11 : decode cX12_readsLine 11 = .ok (.aload_n 0, 1) := by decide +kernel
theorem dX12_readsLine_12 : decode cX12_readsLine 12 = .ok (.getfield 545, 3) := by decide +kernel
theorem dX12_readsLine_15 : decode cX12_readsLine 15 = .ok (.aload_n 0, 1) := by decide +kernel
theorem dX12_readsLine_16 : decode cX12_readsLine 16 = .ok (.getfield 124, 3) := by decide +kernel
theorem dX12_readsLine_19 : decode cX12_readsLine 19 = .ok (.iconst 2, 1) := by decide +kernel
theorem dX12_readsLine_20 : decode cX12_readsLine 20 = .ok (.idiv, 1) := by decide +kernel
theorem dX12_readsLine_21 : decode cX12_readsLine 21 = .ok (.if_icmp .ge 7, 3) := by decide +kernel
theorem dX12_readsLine_24 : decode cX12_readsLine 24 = .ok (.iconst 1, 1) := by decide +kernel
theorem dX12_readsLine_25 : decode cX12_readsLine 25 = .ok (.goto 4, 3) := by decide +kernel
theorem dX12_readsLine_28 : decode cX12_readsLine 28 = .ok (.iconst 0, 1) := by decide +kernel
theorem dX12_readsLine_29 : decode cX12_readsLine 29 = .ok (.bipush 6, 2) := by decide +kernel
theorem dX12_readsLine_31 : decode cX12_readsLine 31 = .ok (.invokevirtual 493, 3) := by decide +kernel
theorem dX12_readsLine_34 : decode cX12_readsLine 34 = .ok (.aload_n 0, 1) := by decide +kernel
theorem dX12_readsLine_35 : decode cX12_readsLine 35 = .ok (.getfield 481, 3) := by decide +kernel
theorem dX12_readsLine_38 : decode cX12_readsLine 38 = .ok (.istore_n 1, 1) := by decide +kernel
theorem dX12_readsLine_39 : decode cX12_readsLine 39 = .ok (.aload_n 0, 1) := by decide +kernel
theorem dX12_readsLine_40 : decode cX12_readsLine 40 = .ok (.getfield 487, 3) := by decide +kernel
theorem dX12_readsLine_43 : decode cX12_readsLine 43 = .ok (.ifCond .ne 7, 3) := by decide +kernel
theorem dX12_readsLine_46 : decode cX12_readsLine 46 = .ok (.aload_n 0, 1) := by decide +kernel
theorem dX12_readsLine_47 : decode cX12_readsLine 47 = .ok (.invokevirtual 497, 3) := by decide +kernel
theorem dX12_readsLine_50 : decode cX12_readsLine 50 = .ok (.aload_n 0, 1) := by decide +kernel
theorem dX12_readsLine_51 : decode cX12_readsLine 51 = .ok (.bipush 62, 2) := by decide +kernel
theorem dX12_readsLine_53 : decode cX12_readsLine 53 = .ok (.invokevirtual 520, 3) := by decide +kernel
theorem dX12_readsLine_56 : decode cX12_readsLine 56 = .ok (.istore_n 2, 1) := by decide +kernel
theorem dX12_readsLine_57 : decode cX12_readsLine 57 = .ok (.aload_n 0, 1) := by decide +kernel
theorem dX12_readsLine_58 : decode cX12_readsLine 58 = .ok (.iload_n 2, 1) := by decide +kernel
theorem dX12_readsLine_59 : decode cX12_readsLine 59 = .ok (.ifCond .ne 12, 3) := by decide +kernel
theorem dX12_readsLine_62 : decode cX12_readsLine 62 = .ok (.aload_n 0, 1) := by decide +kernel
theorem dX12_readsLine_63 : decode cX12_readsLine 63 = .ok (.bipush 45, 2) := by decide +kernel
theorem dX12_readsLine_65 : decode cX12_readsLine 65 = .ok (.invokevirtual 520, 3) := by decide +kernel
theorem dX12_readsLine_68 : decode cX12_readsLine 68 = .ok (.ifCond .eq 7, 3) := by decide +kernel
theorem dX12_readsLine_71 : decode cX12_readsLine 71 = .ok (.iconst 1, 1) := by decide +kernel
theorem dX12_readsLine_72 : decode cX12_readsLine 72 = .ok (.goto 4, 3) := by decide +kernel
theorem dX12_readsLine_75 : decode cX12_readsLine 75 = .ok (.iconst 0, 1) := by decide +kernel
theorem dX12_readsLine_76 : decode cX12_readsLine 76 = .ok (.invokevirtual 506, 3) := by decide +kernel
theorem dX12_readsLine_79 : decode cX12_readsLine 79 = .ok (.aload_n 0, 1) := by decide +kernel
theorem dX12_readsLine_80 : decode cX12_readsLine 80 = .ok (.aload_n 0, 1) := by decide +kernel
theorem dX12_readsLine_81 : decode cX12_readsLine 81 = .ok (.getfield 7, 3) := by decide +kernel
theorem dX12_readsLine_84 : decode cX12_readsLine 84 = .ok (.iconst 2, 1) := by decide +kernel
theorem dX12_readsLine_85 : decode cX12_readsLine 85 = .ok (.iaload, 1) := by decide +kernel
theorem dX12_readsLine_86 : decode cX12_readsLine 86 = .ok (.invokevirtual 542, 3) := by decide +kernel
theorem dX12_readsLine_89 : decode cX12_readsLine 89 = .ok (.aload_n 0, 1) := by decide +kernel
theorem dX12_readsLine_90 : decode cX12_readsLine 90 = .ok (.getfield 481, 3) := by decide +kernel
theorem dX12_readsLine_93 : decode cX12_readsLine 93 = .ok (.istore_n 3, 1) := by decide +kernel
theorem dX12_readsLine_94 : decode cX12_readsLine 94 = .ok (.aload_n 0, 1) := by decide +kernel
theorem dX12_readsLine_95 : decode cX12_readsLine 95 = .ok (.getfield 487, 3) := by decide +kernel
theorem dX12_readsLine_98 : decode cX12_readsLine 98 = .ok (.ifCond .ne 7, 3) := by decide +kernel
theorem dX12_readsLine_101 : decode cX12_readsLine 101 = .ok (.aload_n 0, 1) := by decide +kernel
theorem dX12_readsLine_102 : decode cX12_readsLine 102 = .ok (.invokevirtual 497, 3) := by decide +kernel
theorem dX12_readsLine_105 : decode cX12_readsLine 105 = .ok (.aload_n 0, 1) := by decide +kernel
theorem dX12_readsLine_106 : decode cX12_readsLine 106 = .ok (.aload_n 0, 1) := by decide +kernel
theorem dX12_readsLine_107 : decode cX12_readsLine 107 = .ok (.getfield 471, 3) := by decide +kernel
theorem dX12_readsLine_110 : decode cX12_readsLine 110 = .ok (.iconst 1, 1) := by decide +kernel
theorem dX12_readsLine_111 : decode cX12_readsLine 111 = .ok (.if_icmp .ne 7, 3) := by decide +kernel
theorem dX12_readsLine_114 : decode cX12_readsLine 114 = .ok (.iconst 1, 1) := by decide +kernel
theorem dX12_readsLine_115 : decode cX12_readsLine 115 = .ok (.goto 4, 3) := by decide +kernel
theorem dX12_readsLine_118 : decode cX12_readsLine 118 = .ok (.iconst 0, 1) := by decide +kernel
theorem dX12_readsLine_119 : decode cX12_readsLine 119 = .ok (.iconst 2, 1) := by decide +kernel
theorem dX12_readsLine_120 : decode cX12_readsLine 120 = .ok (.invokevirtual 493, 3) := by decide +kernel
theorem dX12_readsLine_123 : decode cX12_readsLine 123 = .ok (.aload_n 0, 1) := by decide +kernel
theorem dX12_readsLine_124 : decode cX12_readsLine 124 = .ok (.getfield 487, 3) := by decide +kernel
theorem dX12_readsLine_127 : decode cX12_readsLine 127 = .ok (.ifCond .le 7, 3) := by decide +kernel
theorem dX12_readsLine_130 : decode cX12_readsLine 130 = .ok (.iconst (-1), 1) := by decide +kernel
theorem dX12_readsLine_131 : decode cX12_readsLine 131 = .ok (.goto 7, 3) := by decide +kernel
theorem dX12_readsLine_134 : decode cX12_readsLine 134 = .ok (.aload_n 0, 1) := by decide +kernel
theorem dX12_readsLine_135 : decode cX12_readsLine 135 = .ok (.invokevirtual 554, 3) := by decide +kernel
theorem dX12_readsLine_138 : decode cX12_readsLine 138 = .ok (.istore 4, 2) := by decide +kernel
theorem dX12_readsLine_140 : decode cX12_readsLine 140 = .ok (.aload_n 0, 1) := by decide +kernel
theorem dX12_readsLine_141 : decode cX12_readsLine 141 = .ok (.iload 4, 2) := by decide +kernel
theorem dX12_readsLine_143 : decode cX12_readsLine 143 = .ok (.ifCond .lt 7, 3) := by decide +kernel
theorem dX12_readsLine_146 : decode cX12_readsLine 146 = .ok (.iconst 1, 1) := by decide +kernel
theorem dX12_readsLine_147 : decode cX12_readsLine 147 = .ok (.goto 4, 3) := by decide +kernel
theorem dX12_readsLine_150 : decode cX12_readsLine 150 = .ok (.iconst 0, 1) := by decide +kernel
theorem dX12_readsLine_151 : decode cX12_readsLine 151 = .ok (.iconst 3, 1) := by decide +kernel
theorem dX12_readsLine_152 : decode cX12_readsLine 152 = .ok (.invokevirtual 493, 3) := by decide +kernel
theorem dX12_readsLine_155 : decode cX12_readsLine 155 = .ok (.aload_n 0, 1) := by decide +kernel
theorem dX12_readsLine_156 : decode cX12_readsLine 156 = .ok (.aload_n 0, 1) := by decide +kernel
theorem dX12_readsLine_157 : decode cX12_readsLine 157 = .ok (.getfield 487, 3) := by decide +kernel
theorem dX12_readsLine_160 : decode cX12_readsLine 160 = .ok (.ifCond .gt 28, 3) := by decide +kernel
theorem dX12_readsLine_163 : decode cX12_readsLine 163 = .ok (.iload 4, 2) := by decide +kernel
theorem dX12_readsLine_165 : decode cX12_readsLine 165 = .ok (.bipush 6, 2) := by decide +kernel
theorem dX12_readsLine_167 : decode cX12_readsLine 167 = .ok (.if_icmp .ge 16, 3) := by decide +kernel
theorem dX12_readsLine_170 : decode cX12_readsLine 170 = .ok (.aload_n 0, 1) := by decide +kernel
theorem dX12_readsLine_171 : decode cX12_readsLine 171 = .ok (.iload 4, 2) := by decide +kernel
theorem dX12_readsLine_173 : decode cX12_readsLine 173 = .ok (.invokevirtual 148, 3) := by decide +kernel
theorem dX12_readsLine_176 : decode cX12_readsLine 176 = .ok (.ifCond .eq 7, 3) := by decide +kernel
theorem dX12_readsLine_179 : decode cX12_readsLine 179 = .ok (.iconst 1, 1) := by decide +kernel
theorem dX12_readsLine_180 : decode cX12_readsLine 180 = .ok (.goto 4, 3) := by decide +kernel
theorem dX12_readsLine_183 : decode cX12_readsLine 183 = .ok (.iconst 0, 1) := by decide +kernel
theorem dX12_readsLine_184 : decode cX12_readsLine 184 = .ok (.iload_n 2, 1) := by decide +kernel
theorem dX12_readsLine_185 : decode cX12_readsLine 185 = .ok (.if_icmp .ne 7, 3) := by decide +kernel
theorem dX12_readsLine_188 : decode cX12_readsLine 188 = .ok (.iconst 1, 1) := by decide +kernel
theorem dX12_readsLine_189 : decode cX12_readsLine 189 = .ok (.goto 4, 3) := by decide +kernel
theorem dX12_readsLine_192 : decode cX12_readsLine 192 = .ok (.iconst 0, 1) := by decide +kernel
theorem dX12_readsLine_193 : decode cX12_readsLine 193 = .ok (.iconst 4, 1) := by decide +kernel
theorem dX12_readsLine_194 : decode cX12_readsLine 194 = .ok (.invokevirtual 493, 3) := by decide +kernel
theorem dX12_readsLine_197 : decode cX12_readsLine 197 = .ok (.aload_n 0, 1) := by decide +kernel
theorem dX12_readsLine_198 : decode cX12_readsLine 198 = .ok (.getfield 487, 3) := by decide +kernel
theorem dX12_readsLine_201 : decode cX12_readsLine 201 = .ok (.ifCond .le 4, 3) := by decide +kernel
theorem dX12_readsLine_204 : decode cX12_readsLine 204 = .ok (.return_, 1) := by decide +kernel
theorem dX12_readsLine_205 : decode cX12_readsLine 205 = .ok (.aload_n 0, 1) := by decide +kernel
theorem dX12_readsLine_206 : decode cX12_readsLine 206 = .ok (.getfield 108, 3) := by decide +kernel
theorem dX12_readsLine_209 : decode cX12_readsLine 209 = .ok (.aload_n 0, 1) := by decide +kernel
theorem dX12_readsLine_210 : decode cX12_readsLine 210 = .ok (.getfield 545, 3) := by decide +kernel
theorem dX12_readsLine_213 : decode cX12_readsLine 213 = .ok (.iload_n 1, 1) := by decide +kernel
theorem dX12_readsLine_214 : decode cX12_readsLine 214 = .ok (.iload_n 3, 1) := by decide +kernel
theorem dX12_readsLine_215 : decode cX12_readsLine 215 = .ok (.if_icmp .le 27, 3) := by decide +kernel
theorem dX12_readsLine_218 : decode cX12_readsLine 218 = .ok (.aload_n 0, 1) := by decide +kernel
theorem dX12_readsLine_219 : decode cX12_readsLine 219 = .ok (.iload 4, 2) := by decide +kernel
theorem dX12_readsLine_221 : decode cX12_readsLine 221 = .ok (.invokevirtual 206, 3) := by decide +kernel
theorem dX12_readsLine_224 : decode cX12_readsLine 224 = .ok (.ifCond .eq 18, 3) := by decide +kernel
theorem dX12_readsLine_227 : decode cX12_readsLine 227 = .ok (.bipush 100, 2) := by decide +kernel
theorem dX12_readsLine_229 : decode cX12_readsLine 229 = .ok (.iload_n 3, 1) := by decide +kernel
theorem dX12_readsLine_230 : decode cX12_readsLine 230 = .ok (.imul, 1) := by decide +kernel
theorem dX12_readsLine_231 : decode cX12_readsLine 231 = .ok (.bipush 10, 2) := by decide +kernel
theorem dX12_readsLine_233 : decode cX12_readsLine 233 = .ok (.iload_n 1, 1) := by decide +kernel
theorem dX12_readsLine_234 : decode cX12_readsLine 234 = .ok (.imul, 1) := by decide +kernel
theorem dX12_readsLine_235 : decode cX12_readsLine 235 = .ok (.iadd, 1) := by decide +kernel
theorem dX12_readsLine_236 : decode cX12_readsLine 236 = .ok (.iload 4, 2) := by decide +kernel
theorem dX12_readsLine_238 : decode cX12_readsLine 238 = .ok (.iadd, 1) := by decide +kernel
theorem dX12_readsLine_239 : decode cX12_readsLine 239 = .ok (.goto 15, 3) := by decide +kernel
theorem dX12_readsLine_242 : decode cX12_readsLine 242 = .ok (.bipush 100, 2) := by decide +kernel
theorem dX12_readsLine_244 : decode cX12_readsLine 244 = .ok (.iload_n 1, 1) := by decide +kernel
theorem dX12_readsLine_245 : decode cX12_readsLine 245 = .ok (.imul, 1) := by decide +kernel
theorem dX12_readsLine_246 : decode cX12_readsLine 246 = .ok (.bipush 10, 2) := by decide +kernel
theorem dX12_readsLine_248 : decode cX12_readsLine 248 = .ok (.iload_n 3, 1) := by decide +kernel
theorem dX12_readsLine_249 : decode cX12_readsLine 249 = .ok (.imul, 1) := by decide +kernel
theorem dX12_readsLine_250 : decode cX12_readsLine 250 = .ok (.iadd, 1) := by decide +kernel
theorem dX12_readsLine_251 : decode cX12_readsLine 251 = .ok (.iload 4, 2) := by decide +kernel
theorem dX12_readsLine_253 : decode cX12_readsLine 253 = .ok (.iadd, 1) := by decide +kernel
theorem dX12_readsLine_254 : decode cX12_readsLine 254 = .ok (.iastore, 1) := by decide +kernel
theorem dX12_readsLine_255 : decode cX12_readsLine 255 = .ok (.aload_n 0, 1) := by decide +kernel
theorem dX12_readsLine_256 : decode cX12_readsLine 256 = .ok (.dup, 1) := by decide +kernel
theorem dX12_readsLine_257 : decode cX12_readsLine 257 = .ok (.getfield 545, 3) := by decide +kernel
theorem dX12_readsLine_260 : decode cX12_readsLine 260 = .ok (.iconst 1, 1) := by decide +kernel
theorem dX12_readsLine_261 : decode cX12_readsLine 261 = .ok (.iadd, 1) := by decide +kernel
theorem dX12_readsLine_262 : decode cX12_readsLine 262 = .ok (.putfield 545, 3) := by decide +kernel
theorem dX12_readsLine_265 : decode cX12_readsLine 265 = .ok (.aload_n 0, 1) := by decide +kernel
theorem dX12_readsLine_266 : decode cX12_readsLine 266 = .ok (.invokevirtual 497, 3) := by decide +kernel
theorem dX12_readsLine_269 : decode cX12_readsLine 269 = .ok (.aload_n 0, 1) := by decide +kernel
theorem dX12_readsLine_270 : decode cX12_readsLine 270 = .ok (.aload_n 0, 1) := by decide +kernel
theorem dX12_readsLine_271 : decode cX12_readsLine 271 = .ok (.bipush 59, 2) := by decide +kernel
theorem dX12_readsLine_273 : decode cX12_readsLine 273 = .ok (.invokevirtual 520, 3) := by decide +kernel
theorem dX12_readsLine_276 : decode cX12_readsLine 276 = .ok (.invokevirtual 506, 3) := by decide +kernel
theorem dX12_readsLine_279 : decode cX12_readsLine 279 = .ok (.return_, 1) := by decide +kernel
theorem dX12_lines_0 : decode cX12_lines 0 = .ok (.aload_n 0, 1) := by decide +kernel
theorem dX12_lines_1 : decode cX12_lines 1 = .ok (.iload_n 1, 1) := by decide +kernel
theorem dX12_lines_2 : decode cX12_lines 2 = .ok (.iconst 0, 1) := by decide +kernel
theorem dX12_lines_3 : decode cX12_lines 3 = .ok (.aload_n 0, 1) := by decide +kernel
theorem dX12_lines_4 : decode cX12_lines 4 = .ok (.getfield 447, 3) := by decide +kernel
theorem dX12_lines_7 : decode cX12_lines 7 = .ok (.invokestatic 140, 3) := by decide +kernel
theorem dX12_lines_10 : decode cX12_lines 10 = .ok (.ifCond .eq 7, 3) := by decide +kernel
theorem dX12_lines_13 : decode cX12_lines 13 = .ok (.iconst 0, 1) := by decide +kernel
theorem dX12_lines_14 : decode cX12_lines 14 = .ok (.goto 4, 3) := by decide +kernel
theorem dX12_lines_17 : decode cX12_lines 17 = .ok (.iconst 1, 1) := by decide +kernel
theorem dX12_lines_18 : decode cX12_lines 18 = .ok (.invokevirtual 310, 3) := by decide +kernel
theorem dX12_lines_21 : decode cX12_lines 21 = .ok (.ifCond .ne 5, 3) := by decide +kernel
theorem dX12_lines_24 : decode cX12_lines 24 = .ok (.iconst (-1), 1) := by decide +kernel
theorem dX12_lines_25 : decode cX12_lines 25 = .ok (.ireturn, 1) := by decide +kernel
theorem dX12_lines_26 : decode cX12_lines 26 = .ok (.aload_n 0, 1) := by decide +kernel
theorem dX12_lines_27 : decode cX12_lines 27 = .ok (.iconst 0, 1) := by decide +kernel
theorem dX12_lines_28 : decode cX12_lines 28 = .ok (.putfield 545, 3) := by decide +kernel
theorem dX12_lines_31 : decode cX12_lines 31 = .ok (.aload_n 0, 1) := by decide +kernel
theorem dX12_lines_32 : decode cX12_lines 32 = .ok (.iload_n 1, 1) := by decide +kernel
theorem dX12_lines_33 : decode cX12_lines 33 = .ok (.iconst 1, 1) := by decide +kernel
theorem dX12_lines_34 : decode cX12_lines 34 = .ok (.invokevirtual 532, 3) := by decide +kernel
theorem dX12_lines_37 : decode cX12_lines 37 = .ok (.aload_n 0, 1) := by decide +kernel
theorem dX12_lines_38 : decode cX12_lines 38 = .ok (.getfield 487, 3) := by decide +kernel
theorem dX12_lines_41 : decode cX12_lines 41 = .ok (.ifCond .ne 17, 3) := by decide +kernel
theorem dX12_lines_44 : decode cX12_lines 44 = .ok (.aload_n 0, 1) := by decide +kernel
theorem dX12_lines_45 : decode cX12_lines 45 = .ok (.getfield 471, 3) := by decide +kernel
theorem dX12_lines_48 : decode cX12_lines 48 = .ok (.ifCond .eq 10, 3) := by decide +kernel
theorem dX12_lines_51 : decode cX12_lines 51 = .ok (.aload_n 0, 1) := by decide +kernel
theorem dX12_lines_52 : decode cX12_lines 52 = .ok (.invokevirtual 557, 3) := by decide +kernel
theorem dX12_lines_55 : decode cX12_lines 55 = .ok (.goto (-18), 3) := by decide +kernel
theorem dX12_lines_58 : decode cX12_lines 58 = .ok (.aload_n 0, 1) := by decide +kernel
theorem dX12_lines_59 : decode cX12_lines 59 = .ok (.invokevirtual 539, 3) := by decide +kernel
theorem dX12_lines_62 : decode cX12_lines 62 = .ok (.aload_n 0, 1) := by decide +kernel
theorem dX12_lines_63 : decode cX12_lines 63 = .ok (.getfield 487, 3) := by decide +kernel
theorem dX12_lines_66 : decode cX12_lines 66 = .ok (.ifCond .le 5, 3) := by decide +kernel
theorem dX12_lines_69 : decode cX12_lines 69 = .ok (.iconst (-1), 1) := by decide +kernel
theorem dX12_lines_70 : decode cX12_lines 70 = .ok (.ireturn, 1) := by decide +kernel
theorem dX12_lines_71 : decode cX12_lines 71 = .ok (.aload_n 0, 1) := by decide +kernel
theorem dX12_lines_72 : decode cX12_lines 72 = .ok (.invokevirtual 273, 3) := by decide +kernel
theorem dX12_lines_75 : decode cX12_lines 75 = .ok (.iconst 2, 1) := by decide +kernel
theorem dX12_lines_76 : decode cX12_lines 76 = .ok (.aload_n 0, 1) := by decide +kernel
theorem dX12_lines_77 : decode cX12_lines 77 = .ok (.getfield 545, 3) := by decide +kernel
theorem dX12_lines_80 : decode cX12_lines 80 = .ok (.imul, 1) := by decide +kernel
theorem dX12_lines_81 : decode cX12_lines 81 = .ok (.aload_n 0, 1) := by decide +kernel
theorem dX12_lines_82 : decode cX12_lines 82 = .ok (.getfield 124, 3) := by decide +kernel
theorem dX12_lines_85 : decode cX12_lines 85 = .ok (.if_icmp .eq 9, 3) := by decide +kernel
theorem dX12_lines_88 : decode cX12_lines 88 = .ok (.aload_n 0, 1) := by decide +kernel
theorem dX12_lines_89 : decode cX12_lines 89 = .ok (.iconst 5, 1) := by decide +kernel
theorem dX12_lines_90 : decode cX12_lines 90 = .ok (.invokevirtual 426, 3) := by decide +kernel
theorem dX12_lines_93 : decode cX12_lines 93 = .ok (.ireturn, 1) := by decide +kernel
theorem dX12_lines_94 : decode cX12_lines 94 = .ok (.aload_n 0, 1) := by decide +kernel
theorem dX12_lines_95 : decode cX12_lines 95 = .ok (.aload_n 0, 1) := by decide +kernel
theorem dX12_lines_96 : decode cX12_lines 96 = .ok (.getfield 545, 3) := by decide +kernel
theorem dX12_lines_99 : decode cX12_lines 99 = .ok (.putfield 197, 3) := by decide +kernel
theorem dX12_lines_102 : decode cX12_lines 102 = .ok (.iconst 0, 1) := by decide +kernel
theorem dX12_lines_103 : decode cX12_lines 103 = .ok (.istore_n 2, 1) := by decide +kernel
theorem dX12_lines_104 : decode cX12_lines 104 = .ok (.iload_n 2, 1) := by decide +kernel
theorem dX12_lines_105 : decode cX12_lines 105 = .ok (.aload_n 0, 1) := by decide +kernel
theorem dX12_lines_106 : decode cX12_lines 106 = .ok (.getfield 545, 3) := by decide +kernel
theorem dX12_lines_109 : decode cX12_lines 109 = .ok (.if_icmp .ge 21, 3) := by decide +kernel
theorem dX12_lines_112 : decode cX12_lines 112 = .ok (.aload_n 0, 1) := by decide +kernel
theorem dX12_lines_113 : decode cX12_lines 113 = .ok (.getfield 44, 3) := by decide +kernel
theorem dX12_lines_116 : decode cX12_lines 116 = .ok (.iload_n 2, 1) := by decide +kernel
theorem dX12_lines_117 : decode cX12_lines 117 = .ok (.aload_n 0, 1) := by decide +kernel
theorem dX12_lines_118 : decode cX12_lines 118 = .ok (.getfield 108, 3) := by decide +kernel
theorem dX12_lines_121 : decode cX12_lines 121 = .ok (.iload_n 2, 1) := by decide +kernel
theorem dX12_lines_122 : decode cX12_lines 122 = .ok (.iaload, 1) := by decide +kernel
theorem dX12_lines_123 : decode cX12_lines 123 = .ok (.iastore, 1) := by decide +kernel
theorem dX12_lines_124 : decode cX12_lines 124 = .ok (.iinc 2 1, 3) := by decide +kernel
theorem dX12_lines_127 : decode cX12_lines 127 = .ok (.goto (-23), 3) := by decide +kernel
theorem dX12_lines_130 : decode cX12_lines 130 = .ok (.aload_n 0, 1) := by decide +kernel
theorem dX12_lines_131 : decode cX12_lines 131 = .ok (.getfield 63, 3) := by decide +kernel
theorem dX12_lines_134 : decode cX12_lines 134 = .ok (.aload_n 0, 1) := by decide +kernel
theorem dX12_lines_135 : decode cX12_lines 135 = .ok (.getfield 266, 3) := by decide +kernel
theorem dX12_lines_138 : decode cX12_lines 138 = .ok (.aload_n 0, 1) := by decide +kernel
theorem dX12_lines_139 : decode cX12_lines 139 = .ok (.ldc2_w 241, 3) := by decide +kernel
theorem dX12_lines_142 : decode cX12_lines 142 = .ok (.invokevirtual 262, 3) := by decide +kernel
theorem dX12_lines_145 : decode cX12_lines 145 = .ok (.invokestatic 269, 3) := by decide +kernel
theorem dX12_lines_148 : decode cX12_lines 148 = .ok (.istore_n 2, 1) := by decide +kernel
theorem dX12_lines_149 : decode cX12_lines 149 = .ok (.iload_n 2, 1) := by decide +kernel
theorem dX12_lines_150 : decode cX12_lines 150 = .ok (.ifCond .ge 11, 3) := by decide +kernel
theorem dX12_lines_153 : decode cX12_lines 153 = .ok (.aload_n 0, 1) := by decide +kernel
theorem dX12_lines_154 : decode cX12_lines 154 = .ok (.iconst 5, 1) := by decide +kernel
theorem dX12_lines_155 : decode cX12_lines 155 = .ok (.invokevirtual 426, 3) := by decide +kernel
theorem dX12_lines_158 : decode cX12_lines 158 = .ok (.goto 4, 3) := by decide +kernel
theorem dX12_lines_161 : decode cX12_lines 161 = .ok (.iload_n 2, 1) := by decide +kernel
theorem dX12_lines_162 : decode cX12_lines 162 = .ok (.ireturn, 1) := by decide +kernel
